theorem dX0_init_0 : decode cX0_init 0 = .ok (.aload_n 0, 1) := by decide +kernel
theorem dX0_init_1 : decode cX0_init 1 = .ok (.invokespecial 3, 3) := by decide +kernel
theorem dX0_init_4 : decode cX0_init 4 = .ok (.aload_n 0, 1) := by decide +kernel
theorem dX0_init_5 : decode cX0_init 5 = .ok (.bipush 32, 2) := by decide +kernel
theorem dX0_init_7 : decode cX0_init 7 = .ok (.newarray .int, 2) := by decide +kernel
theorem dX0_init_9 : decode cX0_init 9 = .ok (.putfield 11, 3) := by decide +kernel
theorem dX0_init_12 : decode cX0_init 12 = .ok (.aload_n 0, 1) := by decide +kernel
theorem dX0_init_13 : decode cX0_init 13 = .ok (.iconst 0, 1) := by decide +kernel
theorem dX0_init_14 : decode cX0_init 14 = .ok (.putfield 15, 3) := by decide +kernel
theorem dX0_init_17 : decode cX0_init 17 = .ok (.return_, 1) := by decide +kernel
theorem dX0_add_0 : decode cX0_add 0 = .ok (.aload_n 0, 1) := by decide +kernel
theorem dX0_add_1 : decode cX0_add 1 = .ok (.getfield 15, 3) := by decide +kernel
theorem dX0_add_4 : decode cX0_add 4 = .ok (.bipush 32, 2) := by decide +kernel
theorem dX0_add_6 : decode cX0_add 6 = .ok (.if_icmp .lt 6, 3) := by decide +kernel
theorem dX0_add_9 : decode cX0_add 9 = .ok (.bipush (-5), 2) := by decide +kernel
theorem dX0_add_11 : decode cX0_add 11 = .ok (.ireturn, 1) := by decide +kernel
theorem dX0_add_12 : decode cX0_add 12 = .ok (.aload_n 0, 1) := by decide +kernel
theorem dX0_add_13 : decode cX0_add 13 = .ok (.getfield 11, 3) := by decide +kernel
theorem dX0_add_16 : decode cX0_add 16 = .ok (.aload_n 0, 1) := by decide +kernel
theorem dX0_add_17 : decode cX0_add 17 = .ok (.getfield 15, 3) := by decide +kernel
theorem dX0_add_20 : decode cX0_add 20 = .ok (.iload_n 1, 1) := by decide +kernel
theorem dX0_add_21 : decode cX0_add 21 = .ok (.iastore, 1) := by decide +kernel
theorem dX0_add_22 : decode cX0_add 22 = .ok (.aload_n 0, 1) := by decide +kernel
theorem dX0_add_23 : decode cX0_add 23 = .ok (.dup, 1) := by decide +kernel
theorem dX0_add_24 : decode cX0_add 24 = .ok (.getfield 15, 3) := by decide +kernel
theorem dX0_add_27 : decode cX0_add 27 = .ok (.iconst 1, 1) := by decide +kernel
theorem dX0_add_28 : decode cX0_add 28 = .ok (.iadd, 1) := by decide +kernel
theorem dX0_add_29 : decode cX0_add 29 = .ok (.putfield 15, 3) := by decide +kernel
theorem dX0_add_32 : decode cX0_add 32 = .ok (.aload_n 0, 1) := by decide +kernel
theorem dX0_add_33 : decode cX0_add 33 = .ok (.getfield 15, 3) := by decide +kernel
theorem dX0_add_36 : decode cX0_add 36 = .ok (.ireturn, 1) := by decide +kernel
set_option maxRecDepth 20000 in
theorem ggX0_make_X0_sidesOf : GoodIn wsX0_make wsX0_sidesOf := goodIn_r _ [5, 6, 7, 8, 9, 10, 11, 12] (by decide +kernel) (by decide +kernel)
set_option maxRecDepth 20000 in
theorem gX0_make_X0_sidesOf : GoodIn wsX0_make (va_wsS RX0 19 yX0_sidesOf wsX0_sidesOf) := goodIn_app (goodIn_of _ (by decide +kernel)) ggX0_make_X0_sidesOf
set_option maxRecDepth 20000 in
theorem ggX0_make_X0_add : GoodIn wsX0_make wsX0_add := goodIn_r _ [16, 1, 17, 18, 19] (by decide +kernel) (by decide +kernel)
set_option maxRecDepth 20000 in
theorem gX0_make_X0_add : GoodIn wsX0_make (wsV RX0 23 RX0 yX0_add wsX0_add) := goodIn_app (goodIn_of _ (by decide +kernel)) ggX0_make_X0_add
theorem dX0_make_0 : decode cX0_make 0 = .ok (.iconst 1, 1) := by decide +kernel
theorem dX0_make_1 : decode cX0_make 1 = .ok (.istore_n 3, 1) := by decide +kernel
theorem dX0_make_2 : decode cX0_make 2 = .ok (.iconst 0, 1) := by decide +kernel
theorem dX0_make_3 : decode cX0_make 3 = .ok (.istore 4, 2) := by decide +kernel
theorem dX0_make_5 : decode cX0_make 5 = .ok (.iload 4, 2) := by decide +kernel
theorem dX0_make_7 : decode cX0_make 7 = .ok (.iconst 4, 1) := by decide +kernel
theorem dX0_make_8 : decode cX0_make 8 = .ok (.if_icmp .ge 18, 3) := by decide +kernel
theorem dX0_make_11 : decode cX0_make 11 = .ok (.iload_n 3, 1) := by decide +kernel
theorem dX0_make_12 : decode cX0_make 12 = .ok (.iload_n 1, 1) := by decide +kernel
theorem dX0_make_13 : decode cX0_make 13 = .ok (.if_icmp .gt 13, 3) := by decide +kernel
theorem dX0_make_16 : decode cX0_make 16 = .ok (.iload_n 3, 1) := by decide +kernel
theorem dX0_make_17 : decode cX0_make 17 = .ok (.iconst 2, 1) := by decide +kernel
theorem dX0_make_18 : decode cX0_make 18 = .ok (.imul, 1) := by decide +kernel
theorem dX0_make_19 : decode cX0_make 19 = .ok (.istore_n 3, 1) := by decide +kernel
theorem dX0_make_20 : decode cX0_make 20 = .ok (.iinc 4 1, 3) := by decide +kernel
theorem dX0_make_23 : decode cX0_make 23 = .ok (.goto (-18), 3) := by decide +kernel
theorem dX0_make_26 : decode cX0_make 26 = .ok (.iload_n 2, 1) := by decide +kernel
theorem dX0_make_27 : decode cX0_make 27 = .ok (.ifCond .eq 7, 3) := by decide +kernel
theorem dX0_make_30 : decode cX0_make 30 = .ok (.iload_n 3, 1) := by decide +kernel
theorem dX0_make_31 : decode cX0_make 31 = .ok (.iconst 2, 1) := by decide +kernel
theorem dX0_make_32 : decode cX0_make 32 = .ok (.imul, 1) := by decide +kernel
theorem dX0_make_33 : decode cX0_make 33 = .ok (.istore_n 3, 1) := by decide +kernel
theorem dX0_make_34 : decode cX0_make 34 = .ok (.aload_n 0, 1) := by decide +kernel
theorem dX0_make_35 : decode cX0_make 35 = .ok (.iconst 0, 1) := by decide +kernel
theorem dX0_make_36 : decode cX0_make 36 = .ok (.putfield 15, 3) := by decide +kernel
theorem dX0_make_39 : decode cX0_make 39 = .ok (.iconst 0, 1) := by decide +kernel
theorem dX0_make_40 : decode cX0_make 40 = .ok (.istore 4, 2) := by decide +kernel
theorem dX0_make_42 : decode cX0_make 42 = .ok (.iload 4, 2) := by decide +kernel
theorem dX0_make_44 : decode cX0_make 44 = .ok (.iload_n 3, 1) := by decide +kernel
theorem dX0_make_45 : decode cX0_make 45 = .ok (.if_icmp .ge 21, 3) := by decide +kernel
theorem dX0_make_48 : decode cX0_make 48 = .ok (.aload_n 0, 1) := by decide +kernel
theorem dX0_make_49 : decode cX0_make 49 = .ok (.iload 4, 2) := by decide +kernel
theorem dX0_make_51 : decode cX0_make 51 = .ok (.iload_n 1, 1) := by decide +kernel
theorem dX0_make_52 : decode cX0_make 52 = .ok (.iload_n 2, 1) := by decide +kernel
theorem dX0_make_53 : decode cX0_make 53 = .ok (.invokestatic 19, 3) := by decide +kernel
theorem dX0_make_56 : decode cX0_make 56 = .ok (.invokevirtual 23, 3) := by decide +kernel
theorem dX0_make_59 : decode cX0_make 59 = .ok (.pop, 1) := by decide +kernel
theorem dX0_make_60 : decode cX0_make 60 = .ok (.iinc 4 1, 3) := by decide +kernel
theorem dX0_make_63 : decode cX0_make 63 = .ok (.goto (-21), 3) := by decide +kernel
theorem dX0_make_66 : decode cX0_make 66 = .ok (.return_, 1) := by decide +kernel
set_option maxRecDepth 20000 in
theorem ggX0_sidesOf_J6_bitCount_0f7a4 : GoodIn wsX0_sidesOf wsJ6_bitCount_0f7a4 := goodIn_r _ [4, 5, 6, 7] (by decide +kernel) (by decide +kernel)
set_option maxRecDepth 20000 in
theorem gX0_sidesOf_J6_bitCount_0f7a4 : GoodIn wsX0_sidesOf (va_wsS RX0 27 yJ6_bitCount_0f7a4 wsJ6_bitCount_0f7a4) := goodIn_app (goodIn_of _ (by decide +kernel)) ggX0_sidesOf_J6_bitCount_0f7a4
theorem dX0_sidesOf_0 : decode cX0_sidesOf 0 = .ok (.iconst 0, 1) := by decide +kernel
theorem dX0_sidesOf_1 : decode cX0_sidesOf 1 = .ok (.istore_n 3, 1) := by decide +kernel
theorem dX0_sidesOf_2 : decode cX0_sidesOf 2 = .ok (.iconst 0, 1) := by decide +kernel
theorem dX0_sidesOf_3 : decode cX0_sidesOf 3 = .ok (.istore 4, 2) := by decide +kernel
theorem dX0_sidesOf_5 : decode cX0_sidesOf 5 = .ok (.iload 4, 2) := by decide +kernel
theorem dX0_sidesOf_7 : decode cX0_sidesOf 7 = .ok (.iload_n 1, 1) := by decide +kernel
theorem dX0_sidesOf_8 : decode cX0_sidesOf 8 = .ok (.if_icmp .ge 45, 3) := by decide +kernel
theorem dX0_sidesOf_11 : decode cX0_sidesOf 11 = .ok (.iload_n 2, 1) := by decide +kernel
theorem dX0_sidesOf_12 : decode cX0_sidesOf 12 = .ok (.ifCond .eq 14, 3) := by decide +kernel
theorem dX0_sidesOf_15 : decode cX0_sidesOf 15 = .ok (.iconst 2, 1) := by decide +kernel
theorem dX0_sidesOf_16 : decode cX0_sidesOf 16 = .ok (.iload 4, 2) := by decide +kernel
theorem dX0_sidesOf_18 : decode cX0_sidesOf 18 = .ok (.iconst 1, 1) := by decide +kernel
theorem dX0_sidesOf_19 : decode cX0_sidesOf 19 = .ok (.iadd, 1) := by decide +kernel
theorem dX0_sidesOf_20 : decode cX0_sidesOf 20 = .ok (.imul, 1) := by decide +kernel
theorem dX0_sidesOf_21 : decode cX0_sidesOf 21 = .ok (.iconst 1, 1) := by decide +kernel
theorem dX0_sidesOf_22 : decode cX0_sidesOf 22 = .ok (.iadd, 1) := by decide +kernel
theorem dX0_sidesOf_23 : decode cX0_sidesOf 23 = .ok (.goto 7, 3) := by decide +kernel
theorem dX0_sidesOf_26 : decode cX0_sidesOf 26 = .ok (.iload 4, 2) := by decide +kernel
theorem dX0_sidesOf_28 : decode cX0_sidesOf 28 = .ok (.iconst 1, 1) := by decide +kernel
theorem dX0_sidesOf_29 : decode cX0_sidesOf 29 = .ok (.iadd, 1) := by decide +kernel
theorem dX0_sidesOf_30 : decode cX0_sidesOf 30 = .ok (.istore 5, 2) := by decide +kernel
theorem dX0_sidesOf_32 : decode cX0_sidesOf 32 = .ok (.iload_n 3, 1) := by decide +kernel
theorem dX0_sidesOf_33 : decode cX0_sidesOf 33 = .ok (.iload_n 0, 1) := by decide +kernel
theorem dX0_sidesOf_34 : decode cX0_sidesOf 34 = .ok (.iload 5, 2) := by decide +kernel
theorem dX0_sidesOf_36 : decode cX0_sidesOf 36 = .ok (.iand, 1) := by decide +kernel
theorem dX0_sidesOf_37 : decode cX0_sidesOf 37 = .ok (.invokestatic 27, 3) := by decide +kernel
theorem dX0_sidesOf_40 : decode cX0_sidesOf 40 = .ok (.iconst 1, 1) := by decide +kernel
theorem dX0_sidesOf_41 : decode cX0_sidesOf 41 = .ok (.iand, 1) := by decide +kernel
theorem dX0_sidesOf_42 : decode cX0_sidesOf 42 = .ok (.iload 4, 2) := by decide +kernel
theorem dX0_sidesOf_44 : decode cX0_sidesOf 44 = .ok (.ishl, 1) := by decide +kernel
theorem dX0_sidesOf_45 : decode cX0_sidesOf 45 = .ok (.ior, 1) := by decide +kernel
theorem dX0_sidesOf_46 : decode cX0_sidesOf 46 = .ok (.istore_n 3, 1) := by decide +kernel
theorem dX0_sidesOf_47 : decode cX0_sidesOf 47 = .ok (.iinc 4 1, 3) := by decide +kernel
theorem dX0_sidesOf_50 : decode cX0_sidesOf 50 = .ok (.goto (-45), 3) := by decide +kernel
theorem dX0_sidesOf_53 : decode cX0_sidesOf 53 = .ok (.iload_n 3, 1) := by decide +kernel
theorem dX0_sidesOf_54 : decode cX0_sidesOf 54 = .ok (.ireturn, 1) := by decide +kernel
set_option maxRecDepth 20000 in
theorem ggX0_bestBy_X8_measureOf : GoodIn wsX0_bestBy wsX8_measureOf := goodIn_r _ [7, 8, 9, 10, 6, 11, 12, 13, 14, 15, 16, 17, 18, 19, 20, 21, 27, 28, 29, 30, 31, 32, 33, 34, 35] (by decide +kernel) (by decide +kernel)
set_option maxRecDepth 20000 in
theorem gX0_bestBy_X8_measureOf : GoodIn wsX0_bestBy (wsV RX0 32 RX8 yX8_measureOf wsX8_measureOf) := goodIn_app (goodIn_of _ (by decide +kernel)) ggX0_bestBy_X8_measureOf
set_option maxRecDepth 20000 in
theorem ggX0_bestBy_X8_isBetter : GoodIn wsX0_bestBy wsX8_isBetter := goodIn_r _ [24] (by decide +kernel) (by decide +kernel)
set_option maxRecDepth 20000 in
theorem gX0_bestBy_X8_isBetter : GoodIn wsX0_bestBy (va_wsS RX0 38 yX8_isBetter wsX8_isBetter) := goodIn_app (goodIn_of _ (by decide +kernel)) ggX0_bestBy_X8_isBetter
theorem dX0_bestBy_0 : decode cX0_bestBy 0 = .ok (.aload_n 0, 1) := by decide +kernel
theorem dX0_bestBy_1 : decode cX0_bestBy 1 = .ok (.getfield 15, 3) := by decide +kernel
theorem dX0_bestBy_4 : decode cX0_bestBy 4 = .ok (.ifCond .ne 5, 3) := by decide +kernel
theorem dX0_bestBy_7 : decode cX0_bestBy 7 = .ok (.iconst (-1), 1) := by decide +kernel
theorem dX0_bestBy_8 : decode cX0_bestBy 8 = .ok (.ireturn, 1) := by decide +kernel
theorem dX0_bestBy_9 : decode cX0_bestBy 9 = .ok (.aload_n 0, 1) := by decide +kernel
theorem dX0_bestBy_10 : decode cX0_bestBy 10 = .ok (.getfield 11, 3) := by decide +kernel
theorem dX0_bestBy_13 : decode cX0_bestBy 13 = .ok (.iconst 0, 1) := by decide +kernel
theorem dX0_bestBy_14 : decode cX0_bestBy 14 = .ok (.iaload, 1) := by decide +kernel
theorem dX0_bestBy_15 : decode cX0_bestBy 15 = .ok (.istore_n 3, 1) := by decide +kernel
theorem dX0_bestBy_16 : decode cX0_bestBy 16 = .ok (.iconst 1, 1) := by decide +kernel
theorem dX0_bestBy_17 : decode cX0_bestBy 17 = .ok (.istore 4, 2) := by decide +kernel
theorem dX0_bestBy_19 : decode cX0_bestBy 19 = .ok (.iload 4, 2) := by decide +kernel
theorem dX0_bestBy_21 : decode cX0_bestBy 21 = .ok (.aload_n 0, 1) := by decide +kernel
theorem dX0_bestBy_22 : decode cX0_bestBy 22 = .ok (.getfield 15, 3) := by decide +kernel
theorem dX0_bestBy_25 : decode cX0_bestBy 25 = .ok (.if_icmp .ge 42, 3) := by decide +kernel
theorem dX0_bestBy_28 : decode cX0_bestBy 28 = .ok (.iload_n 2, 1) := by decide +kernel
theorem dX0_bestBy_29 : decode cX0_bestBy 29 = .ok (.aload_n 1, 1) := by decide +kernel
theorem dX0_bestBy_30 : decode cX0_bestBy 30 = .ok (.iload_n 2, 1) := by decide +kernel
theorem dX0_bestBy_31 : decode cX0_bestBy 31 = .ok (.aload_n 0, 1) := by decide +kernel
theorem dX0_bestBy_32 : decode cX0_bestBy 32 = .ok (.getfield 11, 3) := by decide +kernel
theorem dX0_bestBy_35 : decode cX0_bestBy 35 = .ok (.iload 4, 2) := by decide +kernel
theorem dX0_bestBy_37 : decode cX0_bestBy 37 = .ok (.iaload, 1) := by decide +kernel
theorem dX0_bestBy_38 : decode cX0_bestBy 38 = .ok (.invokevirtual 32, 3) := by decide +kernel
theorem dX0_bestBy_41 : decode cX0_bestBy 41 = .ok (.aload_n 1, 1) := by decide +kernel
theorem dX0_bestBy_42 : decode cX0_bestBy 42 = .ok (.iload_n 2, 1) := by decide +kernel
theorem dX0_bestBy_43 : decode cX0_bestBy 43 = .ok (.iload_n 3, 1) := by decide +kernel
theorem dX0_bestBy_44 : decode cX0_bestBy 44 = .ok (.invokevirtual 32, 3) := by decide +kernel
theorem dX0_bestBy_47 : decode cX0_bestBy 47 = .ok (.invokestatic 38, 3) := by decide +kernel
theorem dX0_bestBy_50 : decode cX0_bestBy 50 = .ok (.ifCond .eq 11, 3) := by decide +kernel
theorem dX0_bestBy_53 : decode cX0_bestBy 53 = .ok (.aload_n 0, 1) := by decide +kernel
theorem dX0_bestBy_54 : decode cX0_bestBy 54 = .ok (.getfield 11, 3) := by decide +kernel
theorem dX0_bestBy_57 : decode cX0_bestBy 57 = .ok (.iload 4, 2) := by decide +kernel
theorem dX0_bestBy_59 : decode cX0_bestBy 59 = .ok (.iaload, 1) := by decide +kernel
theorem dX0_bestBy_60 : decode cX0_bestBy 60 = .ok (.istore_n 3, 1) := by decide +kernel
theorem dX0_bestBy_61 : decode cX0_bestBy 61 = .ok (.iinc 4 1, 3) := by decide +kernel
theorem dX0_bestBy_64 : decode cX0_bestBy 64 = .ok (.goto (-45), 3) := by decide +kernel
theorem dX0_bestBy_67 : decode cX0_bestBy 67 = .ok (.iload_n 3, 1) := by decide +kernel
theorem dX0_bestBy_68 : decode cX0_bestBy 68 = .ok (.ireturn, 1) := by decide +kernel
set_option maxRecDepth 20000 in
theorem ggX0_greatestLean_J6_bitCount_0f7a4 : GoodIn wsX0_greatestLean wsJ6_bitCount_0f7a4 := goodIn_r _ [8, 9, 10, 11] (by decide +kernel) (by decide +kernel)
set_option maxRecDepth 20000 in
theorem gX0_greatestLean_J6_bitCount_0f7a4 : GoodIn wsX0_greatestLean (va_wsS RX0 27 yJ6_bitCount_0f7a4 wsJ6_bitCount_0f7a4) := goodIn_app (goodIn_of _ (by decide +kernel)) ggX0_greatestLean_J6_bitCount_0f7a4
set_option maxRecDepth 20000 in
theorem ggX0_greatestLean_X0_leanOf : GoodIn wsX0_greatestLean wsX0_leanOf := goodIn_r _ [16, 17, 18, 19, 20, 3, 21, 5, 6, 7, 8, 9, 10, 11, 22, 23] (by decide +kernel) (by decide +kernel)
set_option maxRecDepth 20000 in
theorem gX0_greatestLean_X0_leanOf : GoodIn wsX0_greatestLean (wsV RX0 42 RX0 yX0_leanOf wsX0_leanOf) := goodIn_app (goodIn_of _ (by decide +kernel)) ggX0_greatestLean_X0_leanOf
theorem dX0_greatestLean_0 : decode cX0_greatestLean 0 = .ok (.iconst 0, 1) := by decide +kernel
theorem dX0_greatestLean_1 : decode cX0_greatestLean 1 = .ok (.istore_n 3, 1) := by decide +kernel
theorem dX0_greatestLean_2 : decode cX0_greatestLean 2 = .ok (.iconst 1, 1) := by decide +kernel
theorem dX0_greatestLean_3 : decode cX0_greatestLean 3 = .ok (.istore 4, 2) := by decide +kernel
theorem dX0_greatestLean_5 : decode cX0_greatestLean 5 = .ok (.iload 4, 2) := by decide +kernel
theorem dX0_greatestLean_7 : decode cX0_greatestLean 7 = .ok (.iconst 1, 1) := by decide +kernel
theorem dX0_greatestLean_8 : decode cX0_greatestLean 8 = .ok (.iload_n 1, 1) := by decide +kernel
theorem dX0_greatestLean_9 : decode cX0_greatestLean 9 = .ok (.ishl, 1) := by decide +kernel
theorem dX0_greatestLean_10 : decode cX0_greatestLean 10 = .ok (.if_icmp .ge 29, 3) := by decide +kernel
theorem dX0_greatestLean_13 : decode cX0_greatestLean 13 = .ok (.iload 4, 2) := by decide +kernel
theorem dX0_greatestLean_15 : decode cX0_greatestLean 15 = .ok (.invokestatic 27, 3) := by decide +kernel
theorem dX0_greatestLean_18 : decode cX0_greatestLean 18 = .ok (.iload_n 2, 1) := by decide +kernel
theorem dX0_greatestLean_19 : decode cX0_greatestLean 19 = .ok (.if_icmp .gt 14, 3) := by decide +kernel
theorem dX0_greatestLean_22 : decode cX0_greatestLean 22 = .ok (.iload_n 3, 1) := by decide +kernel
theorem dX0_greatestLean_23 : decode cX0_greatestLean 23 = .ok (.aload_n 0, 1) := by decide +kernel
theorem dX0_greatestLean_24 : decode cX0_greatestLean 24 = .ok (.iload 4, 2) := by decide +kernel
theorem dX0_greatestLean_26 : decode cX0_greatestLean 26 = .ok (.invokevirtual 42, 3) := by decide +kernel
theorem dX0_greatestLean_29 : decode cX0_greatestLean 29 = .ok (.invokestatic 45, 3) := by decide +kernel
theorem dX0_greatestLean_32 : decode cX0_greatestLean 32 = .ok (.istore_n 3, 1) := by decide +kernel
theorem dX0_greatestLean_33 : decode cX0_greatestLean 33 = .ok (.iinc 4 1, 3) := by decide +kernel
theorem dX0_greatestLean_36 : decode cX0_greatestLean 36 = .ok (.goto (-31), 3) := by decide +kernel
theorem dX0_greatestLean_39 : decode cX0_greatestLean 39 = .ok (.iload_n 3, 1) := by decide +kernel
theorem dX0_greatestLean_40 : decode cX0_greatestLean 40 = .ok (.ireturn, 1) := by decide +kernel
set_option maxRecDepth 20000 in
theorem ggX0_leanOf_J6_bitCount_0f7a4 : GoodIn wsX0_leanOf wsJ6_bitCount_0f7a4 := goodIn_r _ [10, 11, 12, 13] (by decide +kernel) (by decide +kernel)
set_option maxRecDepth 20000 in
theorem gX0_leanOf_J6_bitCount_0f7a4 : GoodIn wsX0_leanOf (va_wsS RX0 27 yJ6_bitCount_0f7a4 wsJ6_bitCount_0f7a4) := goodIn_app (goodIn_of _ (by decide +kernel)) ggX0_leanOf_J6_bitCount_0f7a4
theorem dX0_leanOf_0 : decode cX0_leanOf 0 = .ok (.iconst 0, 1) := by decide +kernel
theorem dX0_leanOf_1 : decode cX0_leanOf 1 = .ok (.istore_n 2, 1) := by decide +kernel
theorem dX0_leanOf_2 : decode cX0_leanOf 2 = .ok (.iconst 0, 1) := by decide +kernel
theorem dX0_leanOf_3 : decode cX0_leanOf 3 = .ok (.istore_n 3, 1) := by decide +kernel
theorem dX0_leanOf_4 : decode cX0_leanOf 4 = .ok (.iload_n 3, 1) := by decide +kernel
theorem dX0_leanOf_5 : decode cX0_leanOf 5 = .ok (.aload_n 0, 1) := by decide +kernel
theorem dX0_leanOf_6 : decode cX0_leanOf 6 = .ok (.getfield 15, 3) := by decide +kernel
theorem dX0_leanOf_9 : decode cX0_leanOf 9 = .ok (.if_icmp .ge 25, 3) := by decide +kernel
theorem dX0_leanOf_12 : decode cX0_leanOf 12 = .ok (.iload_n 2, 1) := by decide +kernel
theorem dX0_leanOf_13 : decode cX0_leanOf 13 = .ok (.aload_n 0, 1) := by decide +kernel
theorem dX0_leanOf_14 : decode cX0_leanOf 14 = .ok (.getfield 11, 3) := by decide +kernel
theorem dX0_leanOf_17 : decode cX0_leanOf 17 = .ok (.iload_n 3, 1) := by decide +kernel
theorem dX0_leanOf_18 : decode cX0_leanOf 18 = .ok (.iaload, 1) := by decide +kernel
theorem dX0_leanOf_19 : decode cX0_leanOf 19 = .ok (.iload_n 1, 1) := by decide +kernel
theorem dX0_leanOf_20 : decode cX0_leanOf 20 = .ok (.iand, 1) := by decide +kernel
theorem dX0_leanOf_21 : decode cX0_leanOf 21 = .ok (.invokestatic 27, 3) := by decide +kernel
theorem dX0_leanOf_24 : decode cX0_leanOf 24 = .ok (.iconst 1, 1) := by decide +kernel
theorem dX0_leanOf_25 : decode cX0_leanOf 25 = .ok (.iand, 1) := by decide +kernel
theorem dX0_leanOf_26 : decode cX0_leanOf 26 = .ok (.iadd, 1) := by decide +kernel
theorem dX0_leanOf_27 : decode cX0_leanOf 27 = .ok (.istore_n 2, 1) := by decide +kernel
theorem dX0_leanOf_28 : decode cX0_leanOf 28 = .ok (.iinc 3 1, 3) := by decide +kernel
theorem dX0_leanOf_31 : decode cX0_leanOf 31 = .ok (.goto (-27), 3) := by decide +kernel
theorem dX0_leanOf_34 : decode cX0_leanOf 34 = .ok (.aload_n 0, 1) := by decide +kernel
theorem dX0_leanOf_35 : decode cX0_leanOf 35 = .ok (.getfield 15, 3) := by decide +kernel
theorem dX0_leanOf_38 : decode cX0_leanOf 38 = .ok (.iconst 2, 1) := by decide +kernel
theorem dX0_leanOf_39 : decode cX0_leanOf 39 = .ok (.iload_n 2, 1) := by decide +kernel
theorem dX0_leanOf_40 : decode cX0_leanOf 40 = .ok (.imul, 1) := by decide +kernel
theorem dX0_leanOf_41 : decode cX0_leanOf 41 = .ok (.isub, 1) := by decide +kernel
theorem dX0_leanOf_42 : decode cX0_leanOf 42 = .ok (.invokestatic 50, 3) := by decide +kernel
theorem dX0_leanOf_45 : decode cX0_leanOf 45 = .ok (.ireturn, 1) := by decide +kernel
theorem dX1_init_0 : decode cX1_init 0 = .ok (.aload_n 0, 1) := by decide +kernel
theorem dX1_init_1 : decode cX1_init 1 = .ok (.invokespecial 3, 3) := by decide +kernel
theorem dX1_init_4 : decode cX1_init 4 = .ok (.aload_n 0, 1) := by decide +kernel
theorem dX1_init_5 : decode cX1_init 5 = .ok (.bipush 64, 2) := by decide +kernel
theorem dX1_init_7 : decode cX1_init 7 = .ok (.newarray .long, 2) := by decide +kernel
theorem dX1_init_9 : decode cX1_init 9 = .ok (.putfield 11, 3) := by decide +kernel
theorem dX1_init_12 : decode cX1_init 12 = .ok (.aload_n 0, 1) := by decide +kernel
theorem dX1_init_13 : decode cX1_init 13 = .ok (.bipush 16, 2) := by decide +kernel
theorem dX1_init_15 : decode cX1_init 15 = .ok (.newarray .long, 2) := by decide +kernel
theorem dX1_init_17 : decode cX1_init 17 = .ok (.putfield 17, 3) := by decide +kernel
theorem dX1_init_20 : decode cX1_init 20 = .ok (.aload_n 0, 1) := by decide +kernel
theorem dX1_init_21 : decode cX1_init 21 = .ok (.iconst 4, 1) := by decide +kernel
theorem dX1_init_22 : decode cX1_init 22 = .ok (.newarray .long, 2) := by decide +kernel
theorem dX1_init_24 : decode cX1_init 24 = .ok (.putfield 20, 3) := by decide +kernel
theorem dX1_init_27 : decode cX1_init 27 = .ok (.aload_n 0, 1) := by decide +kernel
theorem dX1_init_28 : decode cX1_init 28 = .ok (.iconst 1, 1) := by decide +kernel
theorem dX1_init_29 : decode cX1_init 29 = .ok (.newarray .long, 2) := by decide +kernel
theorem dX1_init_31 : decode cX1_init 31 = .ok (.putfield 23, 3) := by decide +kernel
theorem dX1_init_34 : decode cX1_init 34 = .ok (.aload_n 0, 1) := by decide +kernel
theorem dX1_init_35 : decode cX1_init 35 = .ok (.iconst 0, 1) := by decide +kernel
theorem dX1_init_36 : decode cX1_init 36 = .ok (.putfield 26, 3) := by decide +kernel
theorem dX1_init_39 : decode cX1_init 39 = .ok (.aload_n 0, 1) := by decide +kernel
theorem dX1_init_40 : decode cX1_init 40 = .ok (.iconst (-1), 1) := by decide +kernel
theorem dX1_init_41 : decode cX1_init 41 = .ok (.putfield 30, 3) := by decide +kernel
theorem dX1_init_44 : decode cX1_init 44 = .ok (.return_, 1) := by decide +kernel
theorem dX1_isPlace_0 : decode cX1_isPlace 0 = .ok (.iload_n 0, 1) := by decide +kernel
theorem dX1_isPlace_1 : decode cX1_isPlace 1 = .ok (.ifCond .lt 13, 3) := by decide +kernel
theorem dX1_isPlace_4 : decode cX1_isPlace 4 = .ok (.iload_n 0, 1) := by decide +kernel
theorem dX1_isPlace_5 : decode cX1_isPlace 5 = .ok (.bipush 12, 2) := by decide +kernel
theorem dX1_isPlace_7 : decode cX1_isPlace 7 = .ok (.if_icmp .ge 7, 3) := by decide +kernel
theorem dX1_isPlace_10 : decode cX1_isPlace 10 = .ok (.iconst 1, 1) := by decide +kernel
theorem dX1_isPlace_11 : decode cX1_isPlace 11 = .ok (.goto 4, 3) := by decide +kernel
theorem dX1_isPlace_14 : decode cX1_isPlace 14 = .ok (.iconst 0, 1) := by decide +kernel
theorem dX1_isPlace_15 : decode cX1_isPlace 15 = .ok (.ireturn, 1) := by decide +kernel
set_option maxRecDepth 20000 in
theorem ggX1_valueAt_X1_putIn : GoodIn wsX1_valueAt wsX1_putIn := goodIn_r _ [8] (by decide +kernel) (by decide +kernel)
set_option maxRecDepth 20000 in
theorem gX1_valueAt_X1_putIn : GoodIn wsX1_valueAt (va_wsS RX1 36 yX1_putIn wsX1_putIn) := goodIn_app (goodIn_of _ (by decide +kernel)) ggX1_valueAt_X1_putIn
theorem dX1_valueAt_0 : decode cX1_valueAt 0 = .ok (.aload_n 1, 1) := by decide +kernel
theorem dX1_valueAt_1 : decode cX1_valueAt 1 = .ok (.getfield 33, 3) := by decide +kernel
theorem dX1_valueAt_4 : decode cX1_valueAt 4 = .ok (.aload_n 0, 1) := by decide +kernel
theorem dX1_valueAt_5 : decode cX1_valueAt 5 = .ok (.getfield 17, 3) := by decide +kernel
theorem dX1_valueAt_8 : decode cX1_valueAt 8 = .ok (.iload_n 2, 1) := by decide +kernel
theorem dX1_valueAt_9 : decode cX1_valueAt 9 = .ok (.invokestatic 36, 3) := by decide +kernel
theorem dX1_valueAt_12 : decode cX1_valueAt 12 = .ok (.aload_n 0, 1) := by decide +kernel
theorem dX1_valueAt_13 : decode cX1_valueAt 13 = .ok (.getfield 17, 3) := by decide +kernel
theorem dX1_valueAt_16 : decode cX1_valueAt 16 = .ok (.aload_n 0, 1) := by decide +kernel
theorem dX1_valueAt_17 : decode cX1_valueAt 17 = .ok (.getfield 20, 3) := by decide +kernel
theorem dX1_valueAt_20 : decode cX1_valueAt 20 = .ok (.iload_n 3, 1) := by decide +kernel
theorem dX1_valueAt_21 : decode cX1_valueAt 21 = .ok (.invokestatic 36, 3) := by decide +kernel
theorem dX1_valueAt_24 : decode cX1_valueAt 24 = .ok (.aload_n 0, 1) := by decide +kernel
theorem dX1_valueAt_25 : decode cX1_valueAt 25 = .ok (.getfield 20, 3) := by decide +kernel
theorem dX1_valueAt_28 : decode cX1_valueAt 28 = .ok (.aload_n 0, 1) := by decide +kernel
theorem dX1_valueAt_29 : decode cX1_valueAt 29 = .ok (.getfield 23, 3) := by decide +kernel
theorem dX1_valueAt_32 : decode cX1_valueAt 32 = .ok (.iload 4, 2) := by decide +kernel
theorem dX1_valueAt_34 : decode cX1_valueAt 34 = .ok (.invokestatic 36, 3) := by decide +kernel
theorem dX1_valueAt_37 : decode cX1_valueAt 37 = .ok (.aload_n 0, 1) := by decide +kernel
theorem dX1_valueAt_38 : decode cX1_valueAt 38 = .ok (.getfield 23, 3) := by decide +kernel
theorem dX1_valueAt_41 : decode cX1_valueAt 41 = .ok (.iconst 0, 1) := by decide +kernel
theorem dX1_valueAt_42 : decode cX1_valueAt 42 = .ok (.laload, 1) := by decide +kernel
theorem dX1_valueAt_43 : decode cX1_valueAt 43 = .ok (.lreturn, 1) := by decide +kernel
set_option maxRecDepth 20000 in
theorem ggX1_compare_X1_putIn : GoodIn wsX1_compare wsX1_putIn := goodIn_r _ [10] (by decide +kernel) (by decide +kernel)
set_option maxRecDepth 20000 in
theorem gX1_compare_X1_putIn : GoodIn wsX1_compare (va_wsS RX1 36 yX1_putIn wsX1_putIn) := goodIn_app (goodIn_of _ (by decide +kernel)) ggX1_compare_X1_putIn
set_option maxRecDepth 20000 in
theorem ggX1_compare_X1_compareRow : GoodIn wsX1_compare wsX1_compareRow := goodIn_r _ [14, 6, 15, 3, 4, 7, 8, 9, 10, 16, 17, 18, 19, 20, 21] (by decide +kernel) (by decide +kernel)
set_option maxRecDepth 20000 in
theorem gX1_compare_X1_compareRow : GoodIn wsX1_compare (wsV RX1 40 RX1 yX1_compareRow wsX1_compareRow) := goodIn_app (goodIn_of _ (by decide +kernel)) ggX1_compare_X1_compareRow
theorem dX1_compare_0 : decode cX1_compare 0 = .ok (.iconst 0, 1) := by decide +kernel
theorem dX1_compare_1 : decode cX1_compare 1 = .ok (.istore 4, 2) := by decide +kernel
theorem dX1_compare_3 : decode cX1_compare 3 = .ok (.iload 4, 2) := by decide +kernel
theorem dX1_compare_5 : decode cX1_compare 5 = .ok (.bipush 64, 2) := by decide +kernel
theorem dX1_compare_7 : decode cX1_compare 7 = .ok (.if_icmp .ge 31, 3) := by decide +kernel
theorem dX1_compare_10 : decode cX1_compare 10 = .ok (.aload_n 0, 1) := by decide +kernel
theorem dX1_compare_11 : decode cX1_compare 11 = .ok (.getfield 11, 3) := by decide +kernel
theorem dX1_compare_14 : decode cX1_compare 14 = .ok (.iload 4, 2) := by decide +kernel
theorem dX1_compare_16 : decode cX1_compare 16 = .ok (.aload_n 1, 1) := by decide +kernel
theorem dX1_compare_17 : decode cX1_compare 17 = .ok (.getfield 33, 3) := by decide +kernel
theorem dX1_compare_20 : decode cX1_compare 20 = .ok (.iload 4, 2) := by decide +kernel
theorem dX1_compare_22 : decode cX1_compare 22 = .ok (.laload, 1) := by decide +kernel
theorem dX1_compare_23 : decode cX1_compare 23 = .ok (.aload_n 2, 1) := by decide +kernel
theorem dX1_compare_24 : decode cX1_compare 24 = .ok (.getfield 33, 3) := by decide +kernel
theorem dX1_compare_27 : decode cX1_compare 27 = .ok (.iload 4, 2) := by decide +kernel
theorem dX1_compare_29 : decode cX1_compare 29 = .ok (.laload, 1) := by decide +kernel
theorem dX1_compare_30 : decode cX1_compare 30 = .ok (.lsub, 1) := by decide +kernel
theorem dX1_compare_31 : decode cX1_compare 31 = .ok (.lastore, 1) := by decide +kernel
theorem dX1_compare_32 : decode cX1_compare 32 = .ok (.iinc 4 1, 3) := by decide +kernel
theorem dX1_compare_35 : decode cX1_compare 35 = .ok (.goto (-32), 3) := by decide +kernel
theorem dX1_compare_38 : decode cX1_compare 38 = .ok (.aload_n 0, 1) := by decide +kernel
theorem dX1_compare_39 : decode cX1_compare 39 = .ok (.iconst 0, 1) := by decide +kernel
theorem dX1_compare_40 : decode cX1_compare 40 = .ok (.putfield 26, 3) := by decide +kernel
theorem dX1_compare_43 : decode cX1_compare 43 = .ok (.aload_n 0, 1) := by decide +kernel
theorem dX1_compare_44 : decode cX1_compare 44 = .ok (.iconst (-1), 1) := by decide +kernel
theorem dX1_compare_45 : decode cX1_compare 45 = .ok (.putfield 30, 3) := by decide +kernel
theorem dX1_compare_48 : decode cX1_compare 48 = .ok (.iconst 0, 1) := by decide +kernel
theorem dX1_compare_49 : decode cX1_compare 49 = .ok (.istore 4, 2) := by decide +kernel
theorem dX1_compare_51 : decode cX1_compare 51 = .ok (.iload 4, 2) := by decide +kernel
theorem dX1_compare_53 : decode cX1_compare 53 = .ok (.iload_n 3, 1) := by decide +kernel
theorem dX1_compare_54 : decode cX1_compare 54 = .ok (.if_icmp .ge 67, 3) := by decide +kernel
theorem dX1_compare_57 : decode cX1_compare 57 = .ok (.aload_n 0, 1) := by decide +kernel
theorem dX1_compare_58 : decode cX1_compare 58 = .ok (.getfield 11, 3) := by decide +kernel
theorem dX1_compare_61 : decode cX1_compare 61 = .ok (.aload_n 0, 1) := by decide +kernel
theorem dX1_compare_62 : decode cX1_compare 62 = .ok (.getfield 17, 3) := by decide +kernel
theorem dX1_compare_65 : decode cX1_compare 65 = .ok (.iload 4, 2) := by decide +kernel
theorem dX1_compare_67 : decode cX1_compare 67 = .ok (.invokestatic 36, 3) := by decide +kernel
theorem dX1_compare_70 : decode cX1_compare 70 = .ok (.iconst 0, 1) := by decide +kernel
theorem dX1_compare_71 : decode cX1_compare 71 = .ok (.istore 5, 2) := by decide +kernel
theorem dX1_compare_73 : decode cX1_compare 73 = .ok (.iload 5, 2) := by decide +kernel
theorem dX1_compare_75 : decode cX1_compare 75 = .ok (.iload_n 3, 1) := by decide +kernel
theorem dX1_compare_76 : decode cX1_compare 76 = .ok (.if_icmp .ge 39, 3) := by decide +kernel
theorem dX1_compare_79 : decode cX1_compare 79 = .ok (.aload_n 0, 1) := by decide +kernel
theorem dX1_compare_80 : decode cX1_compare 80 = .ok (.getfield 17, 3) := by decide +kernel
theorem dX1_compare_83 : decode cX1_compare 83 = .ok (.aload_n 0, 1) := by decide +kernel
theorem dX1_compare_84 : decode cX1_compare 84 = .ok (.getfield 20, 3) := by decide +kernel
theorem dX1_compare_87 : decode cX1_compare 87 = .ok (.iload 5, 2) := by decide +kernel
theorem dX1_compare_89 : decode cX1_compare 89 = .ok (.invokestatic 36, 3) := by decide +kernel
theorem dX1_compare_92 : decode cX1_compare 92 = .ok (.aload_n 0, 1) := by decide +kernel
theorem dX1_compare_93 : decode cX1_compare 93 = .ok (.sipush 144, 3) := by decide +kernel
theorem dX1_compare_96 : decode cX1_compare 96 = .ok (.iload 4, 2) := by decide +kernel
theorem dX1_compare_98 : decode cX1_compare 98 = .ok (.imul, 1) := by decide +kernel
theorem dX1_compare_99 : decode cX1_compare 99 = .ok (.bipush 12, 2) := by decide +kernel
theorem dX1_compare_101 : decode cX1_compare 101 = .ok (.iload 5, 2) := by decide +kernel
theorem dX1_compare_103 : decode cX1_compare 103 = .ok (.imul, 1) := by decide +kernel
theorem dX1_compare_104 : decode cX1_compare 104 = .ok (.iadd, 1) := by decide +kernel
theorem dX1_compare_105 : decode cX1_compare 105 = .ok (.iload_n 3, 1) := by decide +kernel
theorem dX1_compare_106 : decode cX1_compare 106 = .ok (.invokevirtual 40, 3) := by decide +kernel
theorem dX1_compare_109 : decode cX1_compare 109 = .ok (.iinc 5 1, 3) := by decide +kernel
theorem dX1_compare_112 : decode cX1_compare 112 = .ok (.goto (-39), 3) := by decide +kernel
theorem dX1_compare_115 : decode cX1_compare 115 = .ok (.iinc 4 1, 3) := by decide +kernel
theorem dX1_compare_118 : decode cX1_compare 118 = .ok (.goto (-67), 3) := by decide +kernel
theorem dX1_compare_121 : decode cX1_compare 121 = .ok (.return_, 1) := by decide +kernel
set_option maxRecDepth 20000 in
theorem ggX1_compareRow_X1_putIn : GoodIn wsX1_compareRow wsX1_putIn := goodIn_r _ [8] (by decide +kernel) (by decide +kernel)
set_option maxRecDepth 20000 in
theorem gX1_compareRow_X1_putIn : GoodIn wsX1_compareRow (va_wsS RX1 36 yX1_putIn wsX1_putIn) := goodIn_app (goodIn_of _ (by decide +kernel)) ggX1_compareRow_X1_putIn
theorem dX1_compareRow_0 : decode cX1_compareRow 0 = .ok (.iconst 0, 1) := by decide +kernel
theorem dX1_compareRow_1 : decode cX1_compareRow 1 = .ok (.istore_n 3, 1) := by decide +kernel
theorem dX1_compareRow_2 : decode cX1_compareRow 2 = .ok (.iload_n 3, 1) := by decide +kernel
theorem dX1_compareRow_3 : decode cX1_compareRow 3 = .ok (.iload_n 2, 1) := by decide +kernel
theorem dX1_compareRow_4 : decode cX1_compareRow 4 = .ok (.if_icmp .ge 60, 3) := by decide +kernel
theorem dX1_compareRow_7 : decode cX1_compareRow 7 = .ok (.aload_n 0, 1) := by decide +kernel
theorem dX1_compareRow_8 : decode cX1_compareRow 8 = .ok (.getfield 20, 3) := by decide +kernel
theorem dX1_compareRow_11 : decode cX1_compareRow 11 = .ok (.aload_n 0, 1) := by decide +kernel
theorem dX1_compareRow_12 : decode cX1_compareRow 12 = .ok (.getfield 23, 3) := by decide +kernel
theorem dX1_compareRow_15 : decode cX1_compareRow 15 = .ok (.iload_n 3, 1) := by decide +kernel
theorem dX1_compareRow_16 : decode cX1_compareRow 16 = .ok (.invokestatic 36, 3) := by decide +kernel
theorem dX1_compareRow_19 : decode cX1_compareRow 19 = .ok (.aload_n 0, 1) := by decide +kernel
theorem dX1_compareRow_20 : decode cX1_compareRow 20 = .ok (.getfield 23, 3) := by decide +kernel
theorem dX1_compareRow_23 : decode cX1_compareRow 23 = .ok (.iconst 0, 1) := by decide +kernel
theorem dX1_compareRow_24 : decode cX1_compareRow 24 = .ok (.laload, 1) := by decide +kernel
theorem dX1_compareRow_25 : decode cX1_compareRow 25 = .ok (.lconst 0, 1) := by decide +kernel
theorem dX1_compareRow_26 : decode cX1_compareRow 26 = .ok (.lcmp, 1) := by decide +kernel
theorem dX1_compareRow_27 : decode cX1_compareRow 27 = .ok (.ifCond .ne 16, 3) := by decide +kernel
theorem dX1_compareRow_30 : decode cX1_compareRow 30 = .ok (.aload_n 0, 1) := by decide +kernel
theorem dX1_compareRow_31 : decode cX1_compareRow 31 = .ok (.dup, 1) := by decide +kernel
theorem dX1_compareRow_32 : decode cX1_compareRow 32 = .ok (.getfield 26, 3) := by decide +kernel
theorem dX1_compareRow_35 : decode cX1_compareRow 35 = .ok (.iconst 1, 1) := by decide +kernel
theorem dX1_compareRow_36 : decode cX1_compareRow 36 = .ok (.iadd, 1) := by decide +kernel
theorem dX1_compareRow_37 : decode cX1_compareRow 37 = .ok (.putfield 26, 3) := by decide +kernel
theorem dX1_compareRow_40 : decode cX1_compareRow 40 = .ok (.goto 18, 3) := by decide +kernel
theorem dX1_compareRow_43 : decode cX1_compareRow 43 = .ok (.aload_n 0, 1) := by decide +kernel
theorem dX1_compareRow_44 : decode cX1_compareRow 44 = .ok (.getfield 30, 3) := by decide +kernel
theorem dX1_compareRow_47 : decode cX1_compareRow 47 = .ok (.iconst (-1), 1) := by decide +kernel
theorem dX1_compareRow_48 : decode cX1_compareRow 48 = .ok (.if_icmp .ne 10, 3) := by decide +kernel
theorem dX1_compareRow_51 : decode cX1_compareRow 51 = .ok (.aload_n 0, 1) := by decide +kernel
theorem dX1_compareRow_52 : decode cX1_compareRow 52 = .ok (.iload_n 1, 1) := by decide +kernel
theorem dX1_compareRow_53 : decode cX1_compareRow 53 = .ok (.iload_n 3, 1) := by decide +kernel
theorem dX1_compareRow_54 : decode cX1_compareRow 54 = .ok (.iadd, 1) := by decide +kernel
theorem dX1_compareRow_55 : decode cX1_compareRow 55 = .ok (.putfield 30, 3) := by decide +kernel
theorem dX1_compareRow_58 : decode cX1_compareRow 58 = .ok (.iinc 3 1, 3) := by decide +kernel
theorem dX1_compareRow_61 : decode cX1_compareRow 61 = .ok (.goto (-59), 3) := by decide +kernel
theorem dX1_compareRow_64 : decode cX1_compareRow 64 = .ok (.return_, 1) := by decide +kernel
theorem dX1_putIn_0 : decode cX1_putIn 0 = .ok (.aload_n 1, 1) := by decide +kernel
theorem dX1_putIn_1 : decode cX1_putIn 1 = .ok (.arraylength, 1) := by decide +kernel
theorem dX1_putIn_2 : decode cX1_putIn 2 = .ok (.istore_n 3, 1) := by decide +kernel
theorem dX1_putIn_3 : decode cX1_putIn 3 = .ok (.aload_n 0, 1) := by decide +kernel
theorem dX1_putIn_4 : decode cX1_putIn 4 = .ok (.arraylength, 1) := by decide +kernel
theorem dX1_putIn_5 : decode cX1_putIn 5 = .ok (.iconst 4, 1) := by decide +kernel
theorem dX1_putIn_6 : decode cX1_putIn 6 = .ok (.iload_n 3, 1) := by decide +kernel
theorem dX1_putIn_7 : decode cX1_putIn 7 = .ok (.imul, 1) := by decide +kernel
theorem dX1_putIn_8 : decode cX1_putIn 8 = .ok (.if_icmp .ge 4, 3) := by decide +kernel
theorem dX1_putIn_11 : decode cX1_putIn 11 = .ok (.return_, 1) := by decide +kernel
theorem dX1_putIn_12 : decode cX1_putIn 12 = .ok (.iconst 0, 1) := by decide +kernel
theorem dX1_putIn_13 : decode cX1_putIn 13 = .ok (.istore 4, 2) := by decide +kernel
theorem dX1_putIn_15 : decode cX1_putIn 15 = .ok (.iload 4, 2) := by decide +kernel
theorem dX1_putIn_17 : decode cX1_putIn 17 = .ok (.iload_n 3, 1) := by decide +kernel
theorem dX1_putIn_18 : decode cX1_putIn 18 = .ok (.if_icmp .ge 63, 3) := by decide +kernel
theorem dX1_putIn_21 : decode cX1_putIn 21 = .ok (.aload_n 0, 1) := by decide +kernel
theorem dX1_putIn_22 : decode cX1_putIn 22 = .ok (.iconst 3, 1) := by decide +kernel
theorem dX1_putIn_23 : decode cX1_putIn 23 = .ok (.iload_n 3, 1) := by decide +kernel
theorem dX1_putIn_24 : decode cX1_putIn 24 = .ok (.imul, 1) := by decide +kernel
theorem dX1_putIn_25 : decode cX1_putIn 25 = .ok (.iload 4, 2) := by decide +kernel
theorem dX1_putIn_27 : decode cX1_putIn 27 = .ok (.iadd, 1) := by decide +kernel
theorem dX1_putIn_28 : decode cX1_putIn 28 = .ok (.laload, 1) := by decide +kernel
theorem dX1_putIn_29 : decode cX1_putIn 29 = .ok (.lstore 5, 2) := by decide +kernel
theorem dX1_putIn_31 : decode cX1_putIn 31 = .ok (.lload 5, 2) := by decide +kernel
theorem dX1_putIn_33 : decode cX1_putIn 33 = .ok (.iload_n 2, 1) := by decide +kernel
theorem dX1_putIn_34 : decode cX1_putIn 34 = .ok (.i2l, 1) := by decide +kernel
theorem dX1_putIn_35 : decode cX1_putIn 35 = .ok (.lmul, 1) := by decide +kernel
theorem dX1_putIn_36 : decode cX1_putIn 36 = .ok (.aload_n 0, 1) := by decide +kernel
theorem dX1_putIn_37 : decode cX1_putIn 37 = .ok (.iconst 2, 1) := by decide +kernel
theorem dX1_putIn_38 : decode cX1_putIn 38 = .ok (.iload_n 3, 1) := by decide +kernel
theorem dX1_putIn_39 : decode cX1_putIn 39 = .ok (.imul, 1) := by decide +kernel
theorem dX1_putIn_40 : decode cX1_putIn 40 = .ok (.iload 4, 2) := by decide +kernel
theorem dX1_putIn_42 : decode cX1_putIn 42 = .ok (.iadd, 1) := by decide +kernel
theorem dX1_putIn_43 : decode cX1_putIn 43 = .ok (.laload, 1) := by decide +kernel
theorem dX1_putIn_44 : decode cX1_putIn 44 = .ok (.ladd, 1) := by decide +kernel
theorem dX1_putIn_45 : decode cX1_putIn 45 = .ok (.lstore 5, 2) := by decide +kernel
theorem dX1_putIn_47 : decode cX1_putIn 47 = .ok (.lload 5, 2) := by decide +kernel
theorem dX1_putIn_49 : decode cX1_putIn 49 = .ok (.iload_n 2, 1) := by decide +kernel
theorem dX1_putIn_50 : decode cX1_putIn 50 = .ok (.i2l, 1) := by decide +kernel
theorem dX1_putIn_51 : decode cX1_putIn 51 = .ok (.lmul, 1) := by decide +kernel
theorem dX1_putIn_52 : decode cX1_putIn 52 = .ok (.aload_n 0, 1) := by decide +kernel
theorem dX1_putIn_53 : decode cX1_putIn 53 = .ok (.iload_n 3, 1) := by decide +kernel
theorem dX1_putIn_54 : decode cX1_putIn 54 = .ok (.iload 4, 2) := by decide +kernel
theorem dX1_putIn_56 : decode cX1_putIn 56 = .ok (.iadd, 1) := by decide +kernel
theorem dX1_putIn_57 : decode cX1_putIn 57 = .ok (.laload, 1) := by decide +kernel
theorem dX1_putIn_58 : decode cX1_putIn 58 = .ok (.ladd, 1) := by decide +kernel
theorem dX1_putIn_59 : decode cX1_putIn 59 = .ok (.lstore 5, 2) := by decide +kernel
theorem dX1_putIn_61 : decode cX1_putIn 61 = .ok (.aload_n 1, 1) := by decide +kernel
theorem dX1_putIn_62 : decode cX1_putIn 62 = .ok (.iload 4, 2) := by decide +kernel
theorem dX1_putIn_64 : decode cX1_putIn 64 = .ok (.lload 5, 2) := by decide +kernel
theorem dX1_putIn_66 : decode cX1_putIn 66 = .ok (.iload_n 2, 1) := by decide +kernel
theorem dX1_putIn_67 : decode cX1_putIn 67 = .ok (.i2l, 1) := by decide +kernel
theorem dX1_putIn_68 : decode cX1_putIn 68 = .ok (.lmul, 1) := by decide +kernel
theorem dX1_putIn_69 : decode cX1_putIn 69 = .ok (.aload_n 0, 1) := by decide +kernel
theorem dX1_putIn_70 : decode cX1_putIn 70 = .ok (.iload 4, 2) := by decide +kernel
theorem dX1_putIn_72 : decode cX1_putIn 72 = .ok (.laload, 1) := by decide +kernel
theorem dX1_putIn_73 : decode cX1_putIn 73 = .ok (.ladd, 1) := by decide +kernel
theorem dX1_putIn_74 : decode cX1_putIn 74 = .ok (.lastore, 1) := by decide +kernel
theorem dX1_putIn_75 : decode cX1_putIn 75 = .ok (.iinc 4 1, 3) := by decide +kernel
theorem dX1_putIn_78 : decode cX1_putIn 78 = .ok (.goto (-63), 3) := by decide +kernel
theorem dX1_putIn_81 : decode cX1_putIn 81 = .ok (.return_, 1) := by decide +kernel
theorem dX2_init_0 : decode cX2_init 0 = .ok (.aload_n 0, 1) := by decide +kernel
theorem dX2_init_1 : decode cX2_init 1 = .ok (.invokespecial 1, 3) := by decide +kernel
theorem dX2_init_4 : decode cX2_init 4 = .ok (.aload_n 0, 1) := by decide +kernel
theorem dX2_init_5 : decode cX2_init 5 = .ok (.bipush 20, 2) := by decide +kernel
theorem dX2_init_7 : decode cX2_init 7 = .ok (.newarray .int, 2) := by decide +kernel
theorem dX2_init_9 : decode cX2_init 9 = .ok (.putfield 9, 3) := by decide +kernel
theorem dX2_init_12 : decode cX2_init 12 = .ok (.aload_n 0, 1) := by decide +kernel
theorem dX2_init_13 : decode cX2_init 13 = .ok (.bipush 20, 2) := by decide +kernel
theorem dX2_init_15 : decode cX2_init 15 = .ok (.newarray .int, 2) := by decide +kernel
theorem dX2_init_17 : decode cX2_init 17 = .ok (.putfield 13, 3) := by decide +kernel
theorem dX2_init_20 : decode cX2_init 20 = .ok (.aload_n 0, 1) := by decide +kernel
theorem dX2_init_21 : decode cX2_init 21 = .ok (.bipush 60, 2) := by decide +kernel
theorem dX2_init_23 : decode cX2_init 23 = .ok (.newarray .int, 2) := by decide +kernel
theorem dX2_init_25 : decode cX2_init 25 = .ok (.putfield 16, 3) := by decide +kernel
theorem dX2_init_28 : decode cX2_init 28 = .ok (.aload_n 0, 1) := by decide +kernel
theorem dX2_init_29 : decode cX2_init 29 = .ok (.bipush 6, 2) := by decide +kernel
theorem dX2_init_31 : decode cX2_init 31 = .ok (.newarray .int, 2) := by decide +kernel
theorem dX2_init_33 : decode cX2_init 33 = .ok (.putfield 19, 3) := by decide +kernel
theorem dX2_init_36 : decode cX2_init 36 = .ok (.aload_n 0, 1) := by decide +kernel
theorem dX2_init_37 : decode cX2_init 37 = .ok (.bipush 6, 2) := by decide +kernel
theorem dX2_init_39 : decode cX2_init 39 = .ok (.newarray .int, 2) := by decide +kernel
theorem dX2_init_41 : decode cX2_init 41 = .ok (.putfield 22, 3) := by decide +kernel
theorem dX2_init_44 : decode cX2_init 44 = .ok (.aload_n 0, 1) := by decide +kernel
theorem dX2_init_45 : decode cX2_init 45 = .ok (.bipush 8, 2) := by decide +kernel
theorem dX2_init_47 : decode cX2_init 47 = .ok (.newarray .int, 2) := by decide +kernel
theorem dX2_init_49 : decode cX2_init 49 = .ok (.putfield 25, 3) := by decide +kernel
theorem dX2_init_52 : decode cX2_init 52 = .ok (.aload_n 0, 1) := by decide +kernel
theorem dX2_init_53 : decode cX2_init 53 = .ok (.bipush 32, 2) := by decide +kernel
theorem dX2_init_55 : decode cX2_init 55 = .ok (.newarray .long, 2) := by decide +kernel
theorem dX2_init_57 : decode cX2_init 57 = .ok (.putfield 28, 3) := by decide +kernel
theorem dX2_init_60 : decode cX2_init 60 = .ok (.aload_n 0, 1) := by decide +kernel
theorem dX2_init_61 : decode cX2_init 61 = .ok (.iconst 0, 1) := by decide +kernel
theorem dX2_init_62 : decode cX2_init 62 = .ok (.putfield 32, 3) := by decide +kernel
theorem dX2_init_65 : decode cX2_init 65 = .ok (.aload_n 0, 1) := by decide +kernel
theorem dX2_init_66 : decode cX2_init 66 = .ok (.iconst 0, 1) := by decide +kernel
theorem dX2_init_67 : decode cX2_init 67 = .ok (.putfield 36, 3) := by decide +kernel
theorem dX2_init_70 : decode cX2_init 70 = .ok (.aload_n 0, 1) := by decide +kernel
theorem dX2_init_71 : decode cX2_init 71 = .ok (.iconst 1, 1) := by decide +kernel
theorem dX2_init_72 : decode cX2_init 72 = .ok (.putfield 39, 3) := by decide +kernel
theorem dX2_init_75 : decode cX2_init 75 = .ok (.aload_n 0, 1) := by decide +kernel
theorem dX2_init_76 : decode cX2_init 76 = .ok (.iconst 0, 1) := by decide +kernel
theorem dX2_init_77 : decode cX2_init 77 = .ok (.putfield 42, 3) := by decide +kernel
theorem dX2_init_80 : decode cX2_init 80 = .ok (.return_, 1) := by decide +kernel
theorem dX2_clear_0 : decode cX2_clear 0 = .ok (.aload_n 0, 1) := by decide +kernel
theorem dX2_clear_1 : decode cX2_clear 1 = .ok (.iconst 0, 1) := by decide +kernel
theorem dX2_clear_2 : decode cX2_clear 2 = .ok (.putfield 32, 3) := by decide +kernel
theorem dX2_clear_5 : decode cX2_clear 5 = .ok (.aload_n 0, 1) := by decide +kernel
theorem dX2_clear_6 : decode cX2_clear 6 = .ok (.iconst 0, 1) := by decide +kernel
theorem dX2_clear_7 : decode cX2_clear 7 = .ok (.putfield 36, 3) := by decide +kernel
theorem dX2_clear_10 : decode cX2_clear 10 = .ok (.aload_n 0, 1) := by decide +kernel
theorem dX2_clear_11 : decode cX2_clear 11 = .ok (.iconst 1, 1) := by decide +kernel
theorem dX2_clear_12 : decode cX2_clear 12 = .ok (.putfield 39, 3) := by decide +kernel
theorem dX2_clear_15 : decode cX2_clear 15 = .ok (.aload_n 0, 1) := by decide +kernel
theorem dX2_clear_16 : decode cX2_clear 16 = .ok (.iconst 0, 1) := by decide +kernel
theorem dX2_clear_17 : decode cX2_clear 17 = .ok (.putfield 42, 3) := by decide +kernel
theorem dX2_clear_20 : decode cX2_clear 20 = .ok (.return_, 1) := by decide +kernel
theorem dX2_operandCount_0 : decode cX2_operandCount 0 = .ok (.iload_n 0, 1) := by decide +kernel
theorem dX2_operandCount_1 : decode cX2_operandCount 1 = .ok (.bipush 7, 2) := by decide +kernel
theorem dX2_operandCount_3 : decode cX2_operandCount 3 = .ok (.if_icmp .ne 5, 3) := by decide +kernel
theorem dX2_operandCount_6 : decode cX2_operandCount 6 = .ok (.iconst 3, 1) := by decide +kernel
theorem dX2_operandCount_7 : decode cX2_operandCount 7 = .ok (.ireturn, 1) := by decide +kernel
theorem dX2_operandCount_8 : decode cX2_operandCount 8 = .ok (.iload_n 0, 1) := by decide +kernel
theorem dX2_operandCount_9 : decode cX2_operandCount 9 = .ok (.iconst 3, 1) := by decide +kernel
theorem dX2_operandCount_10 : decode cX2_operandCount 10 = .ok (.if_icmp .eq 19, 3) := by decide +kernel
theorem dX2_operandCount_13 : decode cX2_operandCount 13 = .ok (.iload_n 0, 1) := by decide +kernel
theorem dX2_operandCount_14 : decode cX2_operandCount 14 = .ok (.iconst 4, 1) := by decide +kernel
theorem dX2_operandCount_15 : decode cX2_operandCount 15 = .ok (.if_icmp .eq 14, 3) := by decide +kernel
theorem dX2_operandCount_18 : decode cX2_operandCount 18 = .ok (.iload_n 0, 1) := by decide +kernel
theorem dX2_operandCount_19 : decode cX2_operandCount 19 = .ok (.iconst 5, 1) := by decide +kernel
theorem dX2_operandCount_20 : decode cX2_operandCount 20 = .ok (.if_icmp .eq 9, 3) := by decide +kernel
theorem dX2_operandCount_23 : decode cX2_operandCount 23 = .ok (.iload_n 0, 1) := by decide +kernel
theorem dX2_operandCount_24 : decode cX2_operandCount 24 = .ok (.bipush 6, 2) := by decide +kernel
theorem dX2_operandCount_26 : decode cX2_operandCount 26 = .ok (.if_icmp .ne 7, 3) := by decide +kernel
theorem dX2_operandCount_29 : decode cX2_operandCount 29 = .ok (.iconst 2, 1) := by decide +kernel
theorem dX2_operandCount_30 : decode cX2_operandCount 30 = .ok (.goto 4, 3) := by decide +kernel
theorem dX2_operandCount_33 : decode cX2_operandCount 33 = .ok (.iconst 1, 1) := by decide +kernel
theorem dX2_operandCount_34 : decode cX2_operandCount 34 = .ok (.ireturn, 1) := by decide +kernel
theorem dX2_leastOperand_0 : decode cX2_leastOperand 0 = .ok (.iload_n 0, 1) := by decide +kernel
theorem dX2_leastOperand_1 : decode cX2_leastOperand 1 = .ok (.ifCond .ne 7, 3) := by decide +kernel
theorem dX2_leastOperand_4 : decode cX2_leastOperand 4 = .ok (.iconst 2, 1) := by decide +kernel
theorem dX2_leastOperand_5 : decode cX2_leastOperand 5 = .ok (.goto 4, 3) := by decide +kernel
theorem dX2_leastOperand_8 : decode cX2_leastOperand 8 = .ok (.iconst 0, 1) := by decide +kernel
theorem dX2_leastOperand_9 : decode cX2_leastOperand 9 = .ok (.ireturn, 1) := by decide +kernel
theorem dX2_greatestOperand_0 : decode cX2_greatestOperand 0 = .ok (.iload_n 0, 1) := by decide +kernel
theorem dX2_greatestOperand_1 : decode cX2_greatestOperand 1 = .ok (.tableswitch 35 0 2 #[27, 30, 32], 27) := by decide +kernel
theorem dX2_greatestOperand_28 : decode cX2_greatestOperand 28 = .ok (.bipush 8, 2) := by decide +kernel
theorem dX2_greatestOperand_30 : decode cX2_greatestOperand 30 = .ok (.ireturn, 1) := by decide +kernel
theorem dX2_greatestOperand_31 : decode cX2_greatestOperand 31 = .ok (.iconst 4, 1) := by decide +kernel
theorem dX2_greatestOperand_32 : decode cX2_greatestOperand 32 = .ok (.ireturn, 1) := by decide +kernel
theorem dX2_greatestOperand_33 : decode cX2_greatestOperand 33 = .ok (.bipush 15, 2) := by decide +kernel
theorem dX2_greatestOperand_35 : decode cX2_greatestOperand 35 = .ok (.ireturn, 1) := by decide +kernel
theorem dX2_greatestOperand_36 : decode cX2_greatestOperand 36 = .ok (.bipush 7, 2) := by decide +kernel
theorem dX2_greatestOperand_38 : decode cX2_greatestOperand 38 = .ok (.ireturn, 1) := by decide +kernel
theorem dX2_addLine_0 : decode cX2_addLine 0 = .ok (.aload_n 0, 1) := by decide +kernel
theorem dX2_addLine_1 : decode cX2_addLine 1 = .ok (.getfield 32, 3) := by decide +kernel
theorem dX2_addLine_4 : decode cX2_addLine 4 = .ok (.bipush 20, 2) := by decide +kernel
theorem dX2_addLine_6 : decode cX2_addLine 6 = .ok (.if_icmp .ge 33, 3) := by decide +kernel
theorem dX2_addLine_9 : decode cX2_addLine 9 = .ok (.aload_n 0, 1) := by decide +kernel
theorem dX2_addLine_10 : decode cX2_addLine 10 = .ok (.getfield 9, 3) := by decide +kernel
theorem dX2_addLine_13 : decode cX2_addLine 13 = .ok (.aload_n 0, 1) := by decide +kernel
theorem dX2_addLine_14 : decode cX2_addLine 14 = .ok (.getfield 32, 3) := by decide +kernel
theorem dX2_addLine_17 : decode cX2_addLine 17 = .ok (.iload_n 1, 1) := by decide +kernel
theorem dX2_addLine_18 : decode cX2_addLine 18 = .ok (.iastore, 1) := by decide +kernel
theorem dX2_addLine_19 : decode cX2_addLine 19 = .ok (.aload_n 0, 1) := by decide +kernel
theorem dX2_addLine_20 : decode cX2_addLine 20 = .ok (.getfield 13, 3) := by decide +kernel
theorem dX2_addLine_23 : decode cX2_addLine 23 = .ok (.aload_n 0, 1) := by decide +kernel
theorem dX2_addLine_24 : decode cX2_addLine 24 = .ok (.getfield 32, 3) := by decide +kernel
theorem dX2_addLine_27 : decode cX2_addLine 27 = .ok (.iload_n 2, 1) := by decide +kernel
theorem dX2_addLine_28 : decode cX2_addLine 28 = .ok (.iastore, 1) := by decide +kernel
theorem dX2_addLine_29 : decode cX2_addLine 29 = .ok (.aload_n 0, 1) := by decide +kernel
theorem dX2_addLine_30 : decode cX2_addLine 30 = .ok (.dup, 1) := by decide +kernel
theorem dX2_addLine_31 : decode cX2_addLine 31 = .ok (.getfield 32, 3) := by decide +kernel
theorem dX2_addLine_34 : decode cX2_addLine 34 = .ok (.iconst 1, 1) := by decide +kernel
theorem dX2_addLine_35 : decode cX2_addLine 35 = .ok (.iadd, 1) := by decide +kernel
theorem dX2_addLine_36 : decode cX2_addLine 36 = .ok (.putfield 32, 3) := by decide +kernel
theorem dX2_addLine_39 : decode cX2_addLine 39 = .ok (.return_, 1) := by decide +kernel
set_option maxRecDepth 20000 in
theorem ggX2_setOperand_X2_addDraw : GoodIn wsX2_setOperand wsX2_addDraw := goodIn_r _ [9, 10, 4, 11, 12, 13, 14, 15, 16, 17, 18, 19, 20, 21, 22] (by decide +kernel) (by decide +kernel)
set_option maxRecDepth 20000 in
theorem gX2_setOperand_X2_addDraw : GoodIn wsX2_setOperand (wsV RX2 45 RX2 yX2_addDraw wsX2_addDraw) := goodIn_app (goodIn_of _ (by decide +kernel)) ggX2_setOperand_X2_addDraw
theorem dX2_setOperand_0 : decode cX2_setOperand 0 = .ok (.aload_n 0, 1) := by decide +kernel
theorem dX2_setOperand_1 : decode cX2_setOperand 1 = .ok (.getfield 32, 3) := by decide +kernel
theorem dX2_setOperand_4 : decode cX2_setOperand 4 = .ok (.iconst 1, 1) := by decide +kernel
theorem dX2_setOperand_5 : decode cX2_setOperand 5 = .ok (.if_icmp .lt 21, 3) := by decide +kernel
theorem dX2_setOperand_8 : decode cX2_setOperand 8 = .ok (.aload_n 0, 1) := by decide +kernel
theorem dX2_setOperand_9 : decode cX2_setOperand 9 = .ok (.getfield 32, 3) := by decide +kernel
theorem dX2_setOperand_12 : decode cX2_setOperand 12 = .ok (.bipush 20, 2) := by decide +kernel
theorem dX2_setOperand_14 : decode cX2_setOperand 14 = .ok (.if_icmp .gt 12, 3) := by decide +kernel
theorem dX2_setOperand_17 : decode cX2_setOperand 17 = .ok (.iload_n 1, 1) := by decide +kernel
theorem dX2_setOperand_18 : decode cX2_setOperand 18 = .ok (.ifCond .lt 8, 3) := by decide +kernel
theorem dX2_setOperand_21 : decode cX2_setOperand 21 = .ok (.iload_n 1, 1) := by decide +kernel
theorem dX2_setOperand_22 : decode cX2_setOperand 22 = .ok (.iconst 3, 1) := by decide +kernel
theorem dX2_setOperand_23 : decode cX2_setOperand 23 = .ok (.if_icmp .lt 5, 3) := by decide +kernel
theorem dX2_setOperand_26 : decode cX2_setOperand 26 = .ok (.iconst 0, 1) := by decide +kernel
theorem dX2_setOperand_27 : decode cX2_setOperand 27 = .ok (.ireturn, 1) := by decide +kernel
theorem dX2_setOperand_28 : decode cX2_setOperand 28 = .ok (.aload_n 0, 1) := by decide +kernel
theorem dX2_setOperand_29 : decode cX2_setOperand 29 = .ok (.getfield 32, 3) := by decide +kernel
theorem dX2_setOperand_32 : decode cX2_setOperand 32 = .ok (.iconst 1, 1) := by decide +kernel
theorem dX2_setOperand_33 : decode cX2_setOperand 33 = .ok (.isub, 1) := by decide +kernel
theorem dX2_setOperand_34 : decode cX2_setOperand 34 = .ok (.istore_n 3, 1) := by decide +kernel
theorem dX2_setOperand_35 : decode cX2_setOperand 35 = .ok (.aload_n 0, 1) := by decide +kernel
theorem dX2_setOperand_36 : decode cX2_setOperand 36 = .ok (.getfield 9, 3) := by decide +kernel
theorem dX2_setOperand_39 : decode cX2_setOperand 39 = .ok (.iload_n 3, 1) := by decide +kernel
theorem dX2_setOperand_40 : decode cX2_setOperand 40 = .ok (.iaload, 1) := by decide +kernel
theorem dX2_setOperand_41 : decode cX2_setOperand 41 = .ok (.ifCond .eq 16, 3) := by decide +kernel
theorem dX2_setOperand_44 : decode cX2_setOperand 44 = .ok (.aload_n 0, 1) := by decide +kernel
theorem dX2_setOperand_45 : decode cX2_setOperand 45 = .ok (.getfield 16, 3) := by decide +kernel
theorem dX2_setOperand_48 : decode cX2_setOperand 48 = .ok (.iconst 3, 1) := by decide +kernel
theorem dX2_setOperand_49 : decode cX2_setOperand 49 = .ok (.iload_n 3, 1) := by decide +kernel
theorem dX2_setOperand_50 : decode cX2_setOperand 50 = .ok (.imul, 1) := by decide +kernel
theorem dX2_setOperand_51 : decode cX2_setOperand 51 = .ok (.iload_n 1, 1) := by decide +kernel
theorem dX2_setOperand_52 : decode cX2_setOperand 52 = .ok (.iadd, 1) := by decide +kernel
theorem dX2_setOperand_53 : decode cX2_setOperand 53 = .ok (.iload_n 2, 1) := by decide +kernel
theorem dX2_setOperand_54 : decode cX2_setOperand 54 = .ok (.iastore, 1) := by decide +kernel
theorem dX2_setOperand_55 : decode cX2_setOperand 55 = .ok (.iconst 1, 1) := by decide +kernel
theorem dX2_setOperand_56 : decode cX2_setOperand 56 = .ok (.ireturn, 1) := by decide +kernel
theorem dX2_setOperand_57 : decode cX2_setOperand 57 = .ok (.aload_n 0, 1) := by decide +kernel
theorem dX2_setOperand_58 : decode cX2_setOperand 58 = .ok (.getfield 16, 3) := by decide +kernel
theorem dX2_setOperand_61 : decode cX2_setOperand 61 = .ok (.iconst 3, 1) := by decide +kernel
theorem dX2_setOperand_62 : decode cX2_setOperand 62 = .ok (.iload_n 3, 1) := by decide +kernel
theorem dX2_setOperand_63 : decode cX2_setOperand 63 = .ok (.imul, 1) := by decide +kernel
theorem dX2_setOperand_64 : decode cX2_setOperand 64 = .ok (.aload_n 0, 1) := by decide +kernel
theorem dX2_setOperand_65 : decode cX2_setOperand 65 = .ok (.getfield 36, 3) := by decide +kernel
theorem dX2_setOperand_68 : decode cX2_setOperand 68 = .ok (.iastore, 1) := by decide +kernel
theorem dX2_setOperand_69 : decode cX2_setOperand 69 = .ok (.aload_n 0, 1) := by decide +kernel
theorem dX2_setOperand_70 : decode cX2_setOperand 70 = .ok (.iload_n 2, 1) := by decide +kernel
theorem dX2_setOperand_71 : decode cX2_setOperand 71 = .ok (.invokevirtual 45, 3) := by decide +kernel
theorem dX2_setOperand_74 : decode cX2_setOperand 74 = .ok (.ireturn, 1) := by decide +kernel
theorem dX2_addDraw_0 : decode cX2_addDraw 0 = .ok (.aload_n 0, 1) := by decide +kernel
theorem dX2_addDraw_1 : decode cX2_addDraw 1 = .ok (.getfield 39, 3) := by decide +kernel
theorem dX2_addDraw_4 : decode cX2_addDraw 4 = .ok (.iload_n 1, 1) := by decide +kernel
theorem dX2_addDraw_5 : decode cX2_addDraw 5 = .ok (.imul, 1) := by decide +kernel
theorem dX2_addDraw_6 : decode cX2_addDraw 6 = .ok (.bipush 64, 2) := by decide +kernel
theorem dX2_addDraw_8 : decode cX2_addDraw 8 = .ok (.if_icmp .gt 12, 3) := by decide +kernel
theorem dX2_addDraw_11 : decode cX2_addDraw 11 = .ok (.aload_n 0, 1) := by decide +kernel
theorem dX2_addDraw_12 : decode cX2_addDraw 12 = .ok (.getfield 36, 3) := by decide +kernel
theorem dX2_addDraw_15 : decode cX2_addDraw 15 = .ok (.bipush 6, 2) := by decide +kernel
theorem dX2_addDraw_17 : decode cX2_addDraw 17 = .ok (.if_icmp .lt 5, 3) := by decide +kernel
theorem dX2_addDraw_20 : decode cX2_addDraw 20 = .ok (.iconst 0, 1) := by decide +kernel
theorem dX2_addDraw_21 : decode cX2_addDraw 21 = .ok (.ireturn, 1) := by decide +kernel
theorem dX2_addDraw_22 : decode cX2_addDraw 22 = .ok (.aload_n 0, 1) := by decide +kernel
theorem dX2_addDraw_23 : decode cX2_addDraw 23 = .ok (.getfield 19, 3) := by decide +kernel
theorem dX2_addDraw_26 : decode cX2_addDraw 26 = .ok (.aload_n 0, 1) := by decide +kernel
theorem dX2_addDraw_27 : decode cX2_addDraw 27 = .ok (.getfield 36, 3) := by decide +kernel
theorem dX2_addDraw_30 : decode cX2_addDraw 30 = .ok (.iload_n 1, 1) := by decide +kernel
theorem dX2_addDraw_31 : decode cX2_addDraw 31 = .ok (.iastore, 1) := by decide +kernel
theorem dX2_addDraw_32 : decode cX2_addDraw 32 = .ok (.aload_n 0, 1) := by decide +kernel
theorem dX2_addDraw_33 : decode cX2_addDraw 33 = .ok (.dup, 1) := by decide +kernel
theorem dX2_addDraw_34 : decode cX2_addDraw 34 = .ok (.getfield 36, 3) := by decide +kernel
theorem dX2_addDraw_37 : decode cX2_addDraw 37 = .ok (.iconst 1, 1) := by decide +kernel
theorem dX2_addDraw_38 : decode cX2_addDraw 38 = .ok (.iadd, 1) := by decide +kernel
theorem dX2_addDraw_39 : decode cX2_addDraw 39 = .ok (.putfield 36, 3) := by decide +kernel
theorem dX2_addDraw_42 : decode cX2_addDraw 42 = .ok (.aload_n 0, 1) := by decide +kernel
theorem dX2_addDraw_43 : decode cX2_addDraw 43 = .ok (.dup, 1) := by decide +kernel
theorem dX2_addDraw_44 : decode cX2_addDraw 44 = .ok (.getfield 39, 3) := by decide +kernel
theorem dX2_addDraw_47 : decode cX2_addDraw 47 = .ok (.iload_n 1, 1) := by decide +kernel
theorem dX2_addDraw_48 : decode cX2_addDraw 48 = .ok (.imul, 1) := by decide +kernel
theorem dX2_addDraw_49 : decode cX2_addDraw 49 = .ok (.putfield 39, 3) := by decide +kernel
theorem dX2_addDraw_52 : decode cX2_addDraw 52 = .ok (.iconst 1, 1) := by decide +kernel
theorem dX2_addDraw_53 : decode cX2_addDraw 53 = .ok (.ireturn, 1) := by decide +kernel
set_option maxRecDepth 20000 in
theorem ggX2_notZeroRows_X2_outOf : GoodIn wsX2_notZeroRows wsX2_outOf := goodIn_r _ [8, 9, 10, 11, 12, 13, 14, 15, 16, 7, 17, 18, 19, 20, 21, 22, 23, 24, 25, 26, 27, 28, 29, 30, 31, 32, 33, 34, 35, 36, 37, 38, 39, 40, 41, 42, 43] (by decide +kernel) (by decide +kernel)
set_option maxRecDepth 20000 in
theorem gX2_notZeroRows_X2_outOf : GoodIn wsX2_notZeroRows (wsV RX2 49 RX2 yX2_outOf wsX2_outOf) := goodIn_app (goodIn_of _ (by decide +kernel)) ggX2_notZeroRows_X2_outOf
theorem dX2_notZeroRows_0 : decode cX2_notZeroRows 0 = .ok (.iload_n 1, 1) := by decide +kernel
theorem dX2_notZeroRows_1 : decode cX2_notZeroRows 1 = .ok (.ifCond .lt 9, 3) := by decide +kernel
theorem dX2_notZeroRows_4 : decode cX2_notZeroRows 4 = .ok (.iload_n 1, 1) := by decide +kernel
theorem dX2_notZeroRows_5 : decode cX2_notZeroRows 5 = .ok (.bipush 32, 2) := by decide +kernel
theorem dX2_notZeroRows_7 : decode cX2_notZeroRows 7 = .ok (.if_icmp .lt 5, 3) := by decide +kernel
theorem dX2_notZeroRows_10 : decode cX2_notZeroRows 10 = .ok (.lconst 0, 1) := by decide +kernel
theorem dX2_notZeroRows_11 : decode cX2_notZeroRows 11 = .ok (.lreturn, 1) := by decide +kernel
theorem dX2_notZeroRows_12 : decode cX2_notZeroRows 12 = .ok (.aload_n 0, 1) := by decide +kernel
theorem dX2_notZeroRows_13 : decode cX2_notZeroRows 13 = .ok (.getfield 42, 3) := by decide +kernel
theorem dX2_notZeroRows_16 : decode cX2_notZeroRows 16 = .ok (.iload_n 1, 1) := by decide +kernel
theorem dX2_notZeroRows_17 : decode cX2_notZeroRows 17 = .ok (.ishr, 1) := by decide +kernel
theorem dX2_notZeroRows_18 : decode cX2_notZeroRows 18 = .ok (.iconst 1, 1) := by decide +kernel
theorem dX2_notZeroRows_19 : decode cX2_notZeroRows 19 = .ok (.iand, 1) := by decide +kernel
theorem dX2_notZeroRows_20 : decode cX2_notZeroRows 20 = .ok (.ifCond .ne 59, 3) := by decide +kernel
theorem dX2_notZeroRows_23 : decode cX2_notZeroRows 23 = .ok (.lconst 0, 1) := by decide +kernel
theorem dX2_notZeroRows_24 : decode cX2_notZeroRows 24 = .ok (.lstore_n 2, 1) := by decide +kernel
theorem dX2_notZeroRows_25 : decode cX2_notZeroRows 25 = .ok (.iconst 0, 1) := by decide +kernel
theorem dX2_notZeroRows_26 : decode cX2_notZeroRows 26 = .ok (.istore 4, 2) := by decide +kernel
theorem dX2_notZeroRows_28 : decode cX2_notZeroRows 28 = .ok (.iload 4, 2) := by decide +kernel
theorem dX2_notZeroRows_30 : decode cX2_notZeroRows 30 = .ok (.aload_n 0, 1) := by decide +kernel
theorem dX2_notZeroRows_31 : decode cX2_notZeroRows 31 = .ok (.getfield 39, 3) := by decide +kernel
theorem dX2_notZeroRows_34 : decode cX2_notZeroRows 34 = .ok (.if_icmp .ge 26, 3) := by decide +kernel
theorem dX2_notZeroRows_37 : decode cX2_notZeroRows 37 = .ok (.aload_n 0, 1) := by decide +kernel
theorem dX2_notZeroRows_38 : decode cX2_notZeroRows 38 = .ok (.iload_n 1, 1) := by decide +kernel
theorem dX2_notZeroRows_39 : decode cX2_notZeroRows 39 = .ok (.iload 4, 2) := by decide +kernel
theorem dX2_notZeroRows_41 : decode cX2_notZeroRows 41 = .ok (.invokevirtual 49, 3) := by decide +kernel
theorem dX2_notZeroRows_44 : decode cX2_notZeroRows 44 = .ok (.ifCond .eq 10, 3) := by decide +kernel
theorem dX2_notZeroRows_47 : decode cX2_notZeroRows 47 = .ok (.lload_n 2, 1) := by decide +kernel
theorem dX2_notZeroRows_48 : decode cX2_notZeroRows 48 = .ok (.lconst 1, 1) := by decide +kernel
theorem dX2_notZeroRows_49 : decode cX2_notZeroRows 49 = .ok (.iload 4, 2) := by decide +kernel
theorem dX2_notZeroRows_51 : decode cX2_notZeroRows 51 = .ok (.lshl, 1) := by decide +kernel
theorem dX2_notZeroRows_52 : decode cX2_notZeroRows 52 = .ok (.lor, 1) := by decide +kernel
theorem dX2_notZeroRows_53 : decode cX2_notZeroRows 53 = .ok (.lstore_n 2, 1) := by decide +kernel
theorem dX2_notZeroRows_54 : decode cX2_notZeroRows 54 = .ok (.iinc 4 1, 3) := by decide +kernel
theorem dX2_notZeroRows_57 : decode cX2_notZeroRows 57 = .ok (.goto (-29), 3) := by decide +kernel
theorem dX2_notZeroRows_60 : decode cX2_notZeroRows 60 = .ok (.aload_n 0, 1) := by decide +kernel
theorem dX2_notZeroRows_61 : decode cX2_notZeroRows 61 = .ok (.getfield 28, 3) := by decide +kernel
theorem dX2_notZeroRows_64 : decode cX2_notZeroRows 64 = .ok (.iload_n 1, 1) := by decide +kernel
theorem dX2_notZeroRows_65 : decode cX2_notZeroRows 65 = .ok (.lload_n 2, 1) := by decide +kernel
theorem dX2_notZeroRows_66 : decode cX2_notZeroRows 66 = .ok (.lastore, 1) := by decide +kernel
theorem dX2_notZeroRows_67 : decode cX2_notZeroRows 67 = .ok (.aload_n 0, 1) := by decide +kernel
theorem dX2_notZeroRows_68 : decode cX2_notZeroRows 68 = .ok (.dup, 1) := by decide +kernel
theorem dX2_notZeroRows_69 : decode cX2_notZeroRows 69 = .ok (.getfield 42, 3) := by decide +kernel
theorem dX2_notZeroRows_72 : decode cX2_notZeroRows 72 = .ok (.iconst 1, 1) := by decide +kernel
theorem dX2_notZeroRows_73 : decode cX2_notZeroRows 73 = .ok (.iload_n 1, 1) := by decide +kernel
theorem dX2_notZeroRows_74 : decode cX2_notZeroRows 74 = .ok (.ishl, 1) := by decide +kernel
theorem dX2_notZeroRows_75 : decode cX2_notZeroRows 75 = .ok (.ior, 1) := by decide +kernel
theorem dX2_notZeroRows_76 : decode cX2_notZeroRows 76 = .ok (.putfield 42, 3) := by decide +kernel
theorem dX2_notZeroRows_79 : decode cX2_notZeroRows 79 = .ok (.aload_n 0, 1) := by decide +kernel
theorem dX2_notZeroRows_80 : decode cX2_notZeroRows 80 = .ok (.getfield 28, 3) := by decide +kernel
theorem dX2_notZeroRows_83 : decode cX2_notZeroRows 83 = .ok (.iload_n 1, 1) := by decide +kernel
theorem dX2_notZeroRows_84 : decode cX2_notZeroRows 84 = .ok (.laload, 1) := by decide +kernel
theorem dX2_notZeroRows_85 : decode cX2_notZeroRows 85 = .ok (.lreturn, 1) := by decide +kernel
set_option maxRecDepth 20000 in
theorem ggX2_outOf_X2_spreadRow : GoodIn wsX2_outOf wsX2_spreadRow := goodIn_r _ [10, 11, 12, 13, 26, 27, 28, 29, 30, 31, 32, 33, 34, 35, 36] (by decide +kernel) (by decide +kernel)
set_option maxRecDepth 20000 in
theorem gX2_outOf_X2_spreadRow : GoodIn wsX2_outOf (wsV RX2 53 RX2 yX2_spreadRow wsX2_spreadRow) := goodIn_app (goodIn_of _ (by decide +kernel)) ggX2_outOf_X2_spreadRow
set_option maxRecDepth 20000 in
theorem ggX2_outOf_J7_fill_53178 : GoodIn wsX2_outOf wsJ7_fill_53178 := goodIn_r _ [17] (by decide +kernel) (by decide +kernel)
set_option maxRecDepth 20000 in
theorem gX2_outOf_J7_fill_53178 : GoodIn wsX2_outOf (va_wsS RX2 57 yJ7_fill_53178 wsJ7_fill_53178) := goodIn_app (goodIn_of _ (by decide +kernel)) ggX2_outOf_J7_fill_53178
set_option maxRecDepth 20000 in
theorem ggX2_outOf_X2_resultOf : GoodIn wsX2_outOf wsX2_resultOf := goodIn_r _ [21, 4, 3, 13, 1, 22, 23, 24, 9, 25, 26, 27, 28, 29, 30, 31, 32, 33, 34, 35, 36] (by decide +kernel) (by decide +kernel)
set_option maxRecDepth 20000 in
theorem gX2_outOf_X2_resultOf : GoodIn wsX2_outOf (wsV RX2 63 RX2 yX2_resultOf wsX2_resultOf) := goodIn_app (goodIn_of _ (by decide +kernel)) ggX2_outOf_X2_resultOf
theorem dX2_outOf_0 : decode cX2_outOf 0 = .ok (.aload_n 0, 1) := by decide +kernel
theorem dX2_outOf_1 : decode cX2_outOf 1 = .ok (.iload_n 2, 1) := by decide +kernel
theorem dX2_outOf_2 : decode cX2_outOf 2 = .ok (.invokevirtual 53, 3) := by decide +kernel
theorem dX2_outOf_5 : decode cX2_outOf 5 = .ok (.aload_n 0, 1) := by decide +kernel
theorem dX2_outOf_6 : decode cX2_outOf 6 = .ok (.getfield 25, 3) := by decide +kernel
theorem dX2_outOf_9 : decode cX2_outOf 9 = .ok (.iconst 0, 1) := by decide +kernel
theorem dX2_outOf_10 : decode cX2_outOf 10 = .ok (.invokestatic 57, 3) := by decide +kernel
theorem dX2_outOf_13 : decode cX2_outOf 13 = .ok (.iconst 0, 1) := by decide +kernel
theorem dX2_outOf_14 : decode cX2_outOf 14 = .ok (.istore_n 3, 1) := by decide +kernel
theorem dX2_outOf_15 : decode cX2_outOf 15 = .ok (.iconst 0, 1) := by decide +kernel
theorem dX2_outOf_16 : decode cX2_outOf 16 = .ok (.istore 4, 2) := by decide +kernel
theorem dX2_outOf_18 : decode cX2_outOf 18 = .ok (.iload 4, 2) := by decide +kernel
theorem dX2_outOf_20 : decode cX2_outOf 20 = .ok (.aload_n 0, 1) := by decide +kernel
theorem dX2_outOf_21 : decode cX2_outOf 21 = .ok (.getfield 32, 3) := by decide +kernel
theorem dX2_outOf_24 : decode cX2_outOf 24 = .ok (.if_icmp .ge 58, 3) := by decide +kernel
theorem dX2_outOf_27 : decode cX2_outOf 27 = .ok (.aload_n 0, 1) := by decide +kernel
theorem dX2_outOf_28 : decode cX2_outOf 28 = .ok (.getfield 9, 3) := by decide +kernel
theorem dX2_outOf_31 : decode cX2_outOf 31 = .ok (.iload 4, 2) := by decide +kernel
theorem dX2_outOf_33 : decode cX2_outOf 33 = .ok (.iaload, 1) := by decide +kernel
theorem dX2_outOf_34 : decode cX2_outOf 34 = .ok (.bipush 8, 2) := by decide +kernel
theorem dX2_outOf_36 : decode cX2_outOf 36 = .ok (.if_icmp .ne 21, 3) := by decide +kernel
theorem dX2_outOf_39 : decode cX2_outOf 39 = .ok (.aload_n 0, 1) := by decide +kernel
theorem dX2_outOf_40 : decode cX2_outOf 40 = .ok (.getfield 25, 3) := by decide +kernel
theorem dX2_outOf_43 : decode cX2_outOf 43 = .ok (.aload_n 0, 1) := by decide +kernel
theorem dX2_outOf_44 : decode cX2_outOf 44 = .ok (.getfield 16, 3) := by decide +kernel
theorem dX2_outOf_47 : decode cX2_outOf 47 = .ok (.iconst 3, 1) := by decide +kernel
theorem dX2_outOf_48 : decode cX2_outOf 48 = .ok (.iload 4, 2) := by decide +kernel
theorem dX2_outOf_50 : decode cX2_outOf 50 = .ok (.imul, 1) := by decide +kernel
theorem dX2_outOf_51 : decode cX2_outOf 51 = .ok (.iaload, 1) := by decide +kernel
theorem dX2_outOf_52 : decode cX2_outOf 52 = .ok (.iaload, 1) := by decide +kernel
theorem dX2_outOf_53 : decode cX2_outOf 53 = .ok (.istore_n 3, 1) := by decide +kernel
theorem dX2_outOf_54 : decode cX2_outOf 54 = .ok (.goto 22, 3) := by decide +kernel
theorem dX2_outOf_57 : decode cX2_outOf 57 = .ok (.aload_n 0, 1) := by decide +kernel
theorem dX2_outOf_58 : decode cX2_outOf 58 = .ok (.getfield 25, 3) := by decide +kernel
theorem dX2_outOf_61 : decode cX2_outOf 61 = .ok (.aload_n 0, 1) := by decide +kernel
theorem dX2_outOf_62 : decode cX2_outOf 62 = .ok (.getfield 13, 3) := by decide +kernel
theorem dX2_outOf_65 : decode cX2_outOf 65 = .ok (.iload 4, 2) := by decide +kernel
theorem dX2_outOf_67 : decode cX2_outOf 67 = .ok (.iaload, 1) := by decide +kernel
theorem dX2_outOf_68 : decode cX2_outOf 68 = .ok (.aload_n 0, 1) := by decide +kernel
theorem dX2_outOf_69 : decode cX2_outOf 69 = .ok (.iload 4, 2) := by decide +kernel
theorem dX2_outOf_71 : decode cX2_outOf 71 = .ok (.iload_n 1, 1) := by decide +kernel
theorem dX2_outOf_72 : decode cX2_outOf 72 = .ok (.invokevirtual 63, 3) := by decide +kernel
theorem dX2_outOf_75 : decode cX2_outOf 75 = .ok (.iastore, 1) := by decide +kernel
theorem dX2_outOf_76 : decode cX2_outOf 76 = .ok (.iinc 4 1, 3) := by decide +kernel
theorem dX2_outOf_79 : decode cX2_outOf 79 = .ok (.goto (-61), 3) := by decide +kernel
theorem dX2_outOf_82 : decode cX2_outOf 82 = .ok (.iload_n 3, 1) := by decide +kernel
theorem dX2_outOf_83 : decode cX2_outOf 83 = .ok (.ireturn, 1) := by decide +kernel
theorem dX2_spreadRow_0 : decode cX2_spreadRow 0 = .ok (.iload_n 1, 1) := by decide +kernel
theorem dX2_spreadRow_1 : decode cX2_spreadRow 1 = .ok (.istore_n 2, 1) := by decide +kernel
theorem dX2_spreadRow_2 : decode cX2_spreadRow 2 = .ok (.aload_n 0, 1) := by decide +kernel
theorem dX2_spreadRow_3 : decode cX2_spreadRow 3 = .ok (.getfield 36, 3) := by decide +kernel
theorem dX2_spreadRow_6 : decode cX2_spreadRow 6 = .ok (.iconst 1, 1) := by decide +kernel
theorem dX2_spreadRow_7 : decode cX2_spreadRow 7 = .ok (.isub, 1) := by decide +kernel
theorem dX2_spreadRow_8 : decode cX2_spreadRow 8 = .ok (.istore_n 3, 1) := by decide +kernel
theorem dX2_spreadRow_9 : decode cX2_spreadRow 9 = .ok (.iload_n 3, 1) := by decide +kernel
theorem dX2_spreadRow_10 : decode cX2_spreadRow 10 = .ok (.ifCond .lt 37, 3) := by decide +kernel
theorem dX2_spreadRow_13 : decode cX2_spreadRow 13 = .ok (.aload_n 0, 1) := by decide +kernel
theorem dX2_spreadRow_14 : decode cX2_spreadRow 14 = .ok (.getfield 19, 3) := by decide +kernel
theorem dX2_spreadRow_17 : decode cX2_spreadRow 17 = .ok (.iload_n 3, 1) := by decide +kernel
theorem dX2_spreadRow_18 : decode cX2_spreadRow 18 = .ok (.iaload, 1) := by decide +kernel
theorem dX2_spreadRow_19 : decode cX2_spreadRow 19 = .ok (.istore 4, 2) := by decide +kernel
theorem dX2_spreadRow_21 : decode cX2_spreadRow 21 = .ok (.iload 4, 2) := by decide +kernel
theorem dX2_spreadRow_23 : decode cX2_spreadRow 23 = .ok (.ifCond .le 18, 3) := by decide +kernel
theorem dX2_spreadRow_26 : decode cX2_spreadRow 26 = .ok (.aload_n 0, 1) := by decide +kernel
theorem dX2_spreadRow_27 : decode cX2_spreadRow 27 = .ok (.getfield 22, 3) := by decide +kernel
theorem dX2_spreadRow_30 : decode cX2_spreadRow 30 = .ok (.iload_n 3, 1) := by decide +kernel
theorem dX2_spreadRow_31 : decode cX2_spreadRow 31 = .ok (.iload_n 2, 1) := by decide +kernel
theorem dX2_spreadRow_32 : decode cX2_spreadRow 32 = .ok (.iload 4, 2) := by decide +kernel
theorem dX2_spreadRow_34 : decode cX2_spreadRow 34 = .ok (.irem, 1) := by decide +kernel
theorem dX2_spreadRow_35 : decode cX2_spreadRow 35 = .ok (.iastore, 1) := by decide +kernel
theorem dX2_spreadRow_36 : decode cX2_spreadRow 36 = .ok (.iload_n 2, 1) := by decide +kernel
theorem dX2_spreadRow_37 : decode cX2_spreadRow 37 = .ok (.iload 4, 2) := by decide +kernel
theorem dX2_spreadRow_39 : decode cX2_spreadRow 39 = .ok (.idiv, 1) := by decide +kernel
theorem dX2_spreadRow_40 : decode cX2_spreadRow 40 = .ok (.istore_n 2, 1) := by decide +kernel
theorem dX2_spreadRow_41 : decode cX2_spreadRow 41 = .ok (.iinc 3 (-1), 3) := by decide +kernel
theorem dX2_spreadRow_44 : decode cX2_spreadRow 44 = .ok (.goto (-35), 3) := by decide +kernel
theorem dX2_spreadRow_47 : decode cX2_spreadRow 47 = .ok (.return_, 1) := by decide +kernel
set_option maxRecDepth 20000 in
theorem ggX2_resultOf_X2_joined : GoodIn wsX2_resultOf wsX2_joined := goodIn_r _ [9, 4, 1, 2, 10, 11, 12, 13, 14, 15, 16, 17, 18, 19, 20] (by decide +kernel) (by decide +kernel)
set_option maxRecDepth 20000 in
theorem gX2_resultOf_X2_joined : GoodIn wsX2_resultOf (wsV RX2 66 RX2 yX2_joined wsX2_joined) := goodIn_app (goodIn_of _ (by decide +kernel)) ggX2_resultOf_X2_joined
theorem dX2_resultOf_0 : decode cX2_resultOf 0 = .ok (.aload_n 0, 1) := by decide +kernel
theorem dX2_resultOf_1 : decode cX2_resultOf 1 = .ok (.getfield 16, 3) := by decide +kernel
theorem dX2_resultOf_4 : decode cX2_resultOf 4 = .ok (.iconst 3, 1) := by decide +kernel
theorem dX2_resultOf_5 : decode cX2_resultOf 5 = .ok (.iload_n 1, 1) := by decide +kernel
theorem dX2_resultOf_6 : decode cX2_resultOf 6 = .ok (.imul, 1) := by decide +kernel
theorem dX2_resultOf_7 : decode cX2_resultOf 7 = .ok (.iaload, 1) := by decide +kernel
theorem dX2_resultOf_8 : decode cX2_resultOf 8 = .ok (.istore_n 3, 1) := by decide +kernel
theorem dX2_resultOf_9 : decode cX2_resultOf 9 = .ok (.aload_n 0, 1) := by decide +kernel
theorem dX2_resultOf_10 : decode cX2_resultOf 10 = .ok (.getfield 9, 3) := by decide +kernel
theorem dX2_resultOf_13 : decode cX2_resultOf 13 = .ok (.iload_n 1, 1) := by decide +kernel
theorem dX2_resultOf_14 : decode cX2_resultOf 14 = .ok (.iaload, 1) := by decide +kernel
theorem dX2_resultOf_15 : decode cX2_resultOf 15 = .ok (.tableswitch 40 0 2 #[25, 32, 38], 25) := by decide +kernel
theorem dX2_resultOf_40 : decode cX2_resultOf 40 = .ok (.aload_n 0, 1) := by decide +kernel
theorem dX2_resultOf_41 : decode cX2_resultOf 41 = .ok (.getfield 22, 3) := by decide +kernel
theorem dX2_resultOf_44 : decode cX2_resultOf 44 = .ok (.iload_n 3, 1) := by decide +kernel
theorem dX2_resultOf_45 : decode cX2_resultOf 45 = .ok (.iaload, 1) := by decide +kernel
theorem dX2_resultOf_46 : decode cX2_resultOf 46 = .ok (.ireturn, 1) := by decide +kernel
theorem dX2_resultOf_47 : decode cX2_resultOf 47 = .ok (.iload_n 2, 1) := by decide +kernel
theorem dX2_resultOf_48 : decode cX2_resultOf 48 = .ok (.iload_n 3, 1) := by decide +kernel
theorem dX2_resultOf_49 : decode cX2_resultOf 49 = .ok (.ishr, 1) := by decide +kernel
theorem dX2_resultOf_50 : decode cX2_resultOf 50 = .ok (.iconst 1, 1) := by decide +kernel
theorem dX2_resultOf_51 : decode cX2_resultOf 51 = .ok (.iand, 1) := by decide +kernel
theorem dX2_resultOf_52 : decode cX2_resultOf 52 = .ok (.ireturn, 1) := by decide +kernel
theorem dX2_resultOf_53 : decode cX2_resultOf 53 = .ok (.iload_n 3, 1) := by decide +kernel
theorem dX2_resultOf_54 : decode cX2_resultOf 54 = .ok (.ireturn, 1) := by decide +kernel
theorem dX2_resultOf_55 : decode cX2_resultOf 55 = .ok (.aload_n 0, 1) := by decide +kernel
theorem dX2_resultOf_56 : decode cX2_resultOf 56 = .ok (.iload_n 1, 1) := by decide +kernel
theorem dX2_resultOf_57 : decode cX2_resultOf 57 = .ok (.aload_n 0, 1) := by decide +kernel
theorem dX2_resultOf_58 : decode cX2_resultOf 58 = .ok (.getfield 25, 3) := by decide +kernel
theorem dX2_resultOf_61 : decode cX2_resultOf 61 = .ok (.iload_n 3, 1) := by decide +kernel
theorem dX2_resultOf_62 : decode cX2_resultOf 62 = .ok (.iaload, 1) := by decide +kernel
theorem dX2_resultOf_63 : decode cX2_resultOf 63 = .ok (.invokevirtual 66, 3) := by decide +kernel
theorem dX2_resultOf_66 : decode cX2_resultOf 66 = .ok (.ireturn, 1) := by decide +kernel
theorem dX2_joined_0 : decode cX2_joined 0 = .ok (.aload_n 0, 1) := by decide +kernel
theorem dX2_joined_1 : decode cX2_joined 1 = .ok (.getfield 25, 3) := by decide +kernel
theorem dX2_joined_4 : decode cX2_joined 4 = .ok (.aload_n 0, 1) := by decide +kernel
theorem dX2_joined_5 : decode cX2_joined 5 = .ok (.getfield 16, 3) := by decide +kernel
theorem dX2_joined_8 : decode cX2_joined 8 = .ok (.iconst 3, 1) := by decide +kernel
theorem dX2_joined_9 : decode cX2_joined 9 = .ok (.iload_n 1, 1) := by decide +kernel
theorem dX2_joined_10 : decode cX2_joined 10 = .ok (.imul, 1) := by decide +kernel
theorem dX2_joined_11 : decode cX2_joined 11 = .ok (.iconst 1, 1) := by decide +kernel
theorem dX2_joined_12 : decode cX2_joined 12 = .ok (.iadd, 1) := by decide +kernel
theorem dX2_joined_13 : decode cX2_joined 13 = .ok (.iaload, 1) := by decide +kernel
theorem dX2_joined_14 : decode cX2_joined 14 = .ok (.iaload, 1) := by decide +kernel
theorem dX2_joined_15 : decode cX2_joined 15 = .ok (.istore_n 3, 1) := by decide +kernel
theorem dX2_joined_16 : decode cX2_joined 16 = .ok (.aload_n 0, 1) := by decide +kernel
theorem dX2_joined_17 : decode cX2_joined 17 = .ok (.getfield 9, 3) := by decide +kernel
theorem dX2_joined_20 : decode cX2_joined 20 = .ok (.iload_n 1, 1) := by decide +kernel
theorem dX2_joined_21 : decode cX2_joined 21 = .ok (.iaload, 1) := by decide +kernel
theorem dX2_joined_22 : decode cX2_joined 22 = .ok (.tableswitch 59 3 6 #[30, 37, 44, 48], 30) := by decide +kernel
theorem dX2_joined_52 : decode cX2_joined 52 = .ok (.iload_n 2, 1) := by decide +kernel
theorem dX2_joined_53 : decode cX2_joined 53 = .ok (.iload_n 3, 1) := by decide +kernel
theorem dX2_joined_54 : decode cX2_joined 54 = .ok (.iadd, 1) := by decide +kernel
theorem dX2_joined_55 : decode cX2_joined 55 = .ok (.bipush 15, 2) := by decide +kernel
theorem dX2_joined_57 : decode cX2_joined 57 = .ok (.iand, 1) := by decide +kernel
theorem dX2_joined_58 : decode cX2_joined 58 = .ok (.ireturn, 1) := by decide +kernel
theorem dX2_joined_59 : decode cX2_joined 59 = .ok (.iload_n 2, 1) := by decide +kernel
theorem dX2_joined_60 : decode cX2_joined 60 = .ok (.iload_n 3, 1) := by decide +kernel
theorem dX2_joined_61 : decode cX2_joined 61 = .ok (.imul, 1) := by decide +kernel
theorem dX2_joined_62 : decode cX2_joined 62 = .ok (.bipush 15, 2) := by decide +kernel
theorem dX2_joined_64 : decode cX2_joined 64 = .ok (.iand, 1) := by decide +kernel
theorem dX2_joined_65 : decode cX2_joined 65 = .ok (.ireturn, 1) := by decide +kernel
theorem dX2_joined_66 : decode cX2_joined 66 = .ok (.iload_n 2, 1) := by decide +kernel
theorem dX2_joined_67 : decode cX2_joined 67 = .ok (.iload_n 3, 1) := by decide +kernel
theorem dX2_joined_68 : decode cX2_joined 68 = .ok (.ixor, 1) := by decide +kernel
theorem dX2_joined_69 : decode cX2_joined 69 = .ok (.ireturn, 1) := by decide +kernel
theorem dX2_joined_70 : decode cX2_joined 70 = .ok (.iload_n 2, 1) := by decide +kernel
theorem dX2_joined_71 : decode cX2_joined 71 = .ok (.iload_n 3, 1) := by decide +kernel
theorem dX2_joined_72 : decode cX2_joined 72 = .ok (.if_icmp .ge 7, 3) := by decide +kernel
theorem dX2_joined_75 : decode cX2_joined 75 = .ok (.iconst 1, 1) := by decide +kernel
theorem dX2_joined_76 : decode cX2_joined 76 = .ok (.goto 4, 3) := by decide +kernel
theorem dX2_joined_79 : decode cX2_joined 79 = .ok (.iconst 0, 1) := by decide +kernel
theorem dX2_joined_80 : decode cX2_joined 80 = .ok (.ireturn, 1) := by decide +kernel
theorem dX2_joined_81 : decode cX2_joined 81 = .ok (.iload_n 2, 1) := by decide +kernel
theorem dX2_joined_82 : decode cX2_joined 82 = .ok (.ifCond .eq 7, 3) := by decide +kernel
theorem dX2_joined_85 : decode cX2_joined 85 = .ok (.iload_n 3, 1) := by decide +kernel
theorem dX2_joined_86 : decode cX2_joined 86 = .ok (.goto 18, 3) := by decide +kernel
theorem dX2_joined_89 : decode cX2_joined 89 = .ok (.aload_n 0, 1) := by decide +kernel
theorem dX2_joined_90 : decode cX2_joined 90 = .ok (.getfield 25, 3) := by decide +kernel
theorem dX2_joined_93 : decode cX2_joined 93 = .ok (.aload_n 0, 1) := by decide +kernel
theorem dX2_joined_94 : decode cX2_joined 94 = .ok (.getfield 16, 3) := by decide +kernel
theorem dX2_joined_97 : decode cX2_joined 97 = .ok (.iconst 3, 1) := by decide +kernel
theorem dX2_joined_98 : decode cX2_joined 98 = .ok (.iload_n 1, 1) := by decide +kernel
theorem dX2_joined_99 : decode cX2_joined 99 = .ok (.imul, 1) := by decide +kernel
theorem dX2_joined_100 : decode cX2_joined 100 = .ok (.iconst 2, 1) := by decide +kernel
theorem dX2_joined_101 : decode cX2_joined 101 = .ok (.iadd, 1) := by decide +kernel
theorem dX2_joined_102 : decode cX2_joined 102 = .ok (.iaload, 1) := by decide +kernel
theorem dX2_joined_103 : decode cX2_joined 103 = .ok (.iaload, 1) := by decide +kernel
theorem dX2_joined_104 : decode cX2_joined 104 = .ok (.ireturn, 1) := by decide +kernel
theorem dX3_init_0 : decode cX3_init 0 = .ok (.aload_n 0, 1) := by decide +kernel
theorem dX3_init_1 : decode cX3_init 1 = .ok (.invokespecial 3, 3) := by decide +kernel
theorem dX3_init_4 : decode cX3_init 4 = .ok (.aload_n 0, 1) := by decide +kernel
theorem dX3_init_5 : decode cX3_init 5 = .ok (.aload_n 1, 1) := by decide +kernel
theorem dX3_init_6 : decode cX3_init 6 = .ok (.putfield 9, 3) := by decide +kernel
theorem dX3_init_9 : decode cX3_init 9 = .ok (.aload_n 0, 1) := by decide +kernel
theorem dX3_init_10 : decode cX3_init 10 = .ok (.iconst 0, 1) := by decide +kernel
theorem dX3_init_11 : decode cX3_init 11 = .ok (.putfield 15, 3) := by decide +kernel
theorem dX3_init_14 : decode cX3_init 14 = .ok (.aload_n 0, 1) := by decide +kernel
theorem dX3_init_15 : decode cX3_init 15 = .ok (.iconst 0, 1) := by decide +kernel
theorem dX3_init_16 : decode cX3_init 16 = .ok (.putfield 19, 3) := by decide +kernel
theorem dX3_init_19 : decode cX3_init 19 = .ok (.aload_n 0, 1) := by decide +kernel
theorem dX3_init_20 : decode cX3_init 20 = .ok (.iconst 0, 1) := by decide +kernel
theorem dX3_init_21 : decode cX3_init 21 = .ok (.putfield 22, 3) := by decide +kernel
theorem dX3_init_24 : decode cX3_init 24 = .ok (.return_, 1) := by decide +kernel
set_option maxRecDepth 20000 in
theorem ggX3_readInto_X2_clear : GoodIn wsX3_readInto wsX2_clear := goodIn_r _ [9, 10, 11, 12, 13, 132, 133, 134, 135, 136, 137, 138, 139, 140, 141, 142] (by decide +kernel) (by decide +kernel)
set_option maxRecDepth 20000 in
theorem gX3_readInto_X2_clear : GoodIn wsX3_readInto (wsV RX3 25 RX2 yX2_clear wsX2_clear) := goodIn_app (goodIn_of _ (by decide +kernel)) ggX3_readInto_X2_clear
set_option maxRecDepth 20000 in
theorem ggX3_readInto_X3_step : GoodIn wsX3_readInto wsX3_step := goodIn_r _ [18, 1, 2, 4, 3, 19, 20, 21, 17, 22, 23, 24, 25, 26, 27, 28, 29, 30, 31, 32, 33, 128, 129, 130, 131, 143, 144] (by decide +kernel) (by decide +kernel)
set_option maxRecDepth 20000 in
theorem gX3_readInto_X3_step : GoodIn wsX3_readInto (wsV RX3 30 RX3 yX3_step wsX3_step) := goodIn_app (goodIn_of _ (by decide +kernel)) ggX3_readInto_X3_step
set_option maxRecDepth 20000 in
theorem ggX3_readInto_X3_readLine : GoodIn wsX3_readInto wsX3_readLine := goodIn_r _ [37, 3, 38, 39, 40, 17, 41, 1, 2, 42, 43, 44, 45, 4, 24, 25, 26, 27, 28, 29, 30, 14, 15, 16, 18, 19, 20, 21, 22, 23, 31, 32, 33, 46, 47, 48, 49, 50, 51, 52, 53, 54, 55, 56, 57, 58, 59, 60, 61, 62, 63, 64, 65, 66, 67, 68, 69, 70, 71, 72, 73, 74, 75, 76, 77, 78, 79, 80, 81, 82, 83, 84, 85, 86, 87, 88, 89, 90, 91, 92, 93, 94, 95, 96, 97, 98, 99, 100, 101, 102, 103, 104, 105, 8, 106, 10, 107, 108, 109, 110, 111, 112, 113, 114, 115, 116, 117, 118, 119, 120, 121, 122, 11, 123, 124, 125, 126, 12, 127, 128, 129, 130, 131, 143, 144, 132, 133, 134, 135, 136, 137, 138, 139, 140, 141, 142] (by decide +kernel) (by decide +kernel)
set_option maxRecDepth 20000 in
theorem gX3_readInto_X3_readLine : GoodIn wsX3_readInto (wsV RX3 33 RX3 yX3_readLine wsX3_readLine) := goodIn_app (goodIn_of _ (by decide +kernel)) ggX3_readInto_X3_readLine
set_option maxRecDepth 20000 in
theorem ggX3_readInto_X6_at : GoodIn wsX3_readInto wsX6_at := goodIn_r _ [28, 29, 30, 143, 144] (by decide +kernel) (by decide +kernel)
set_option maxRecDepth 20000 in
theorem gX3_readInto_X6_at : GoodIn wsX3_readInto (wsV RX3 37 RX6 yX6_at wsX6_at) := goodIn_app (goodIn_of _ (by decide +kernel)) ggX3_readInto_X6_at
theorem dX3_readInto_0 : decode cX3_readInto 0 = .ok (.aload_n 1, 1) := by decide +kernel
theorem dX3_readInto_1 : decode cX3_readInto 1 = .ok (.invokevirtual 25, 3) := by decide +kernel
theorem dX3_readInto_4 : decode cX3_readInto 4 = .ok (.aload_n 0, 1) := by decide +kernel
theorem dX3_readInto_5 : decode cX3_readInto 5 = .ok (.iconst 0, 1) := by decide +kernel
theorem dX3_readInto_6 : decode cX3_readInto 6 = .ok (.putfield 19, 3) := by decide +kernel
theorem dX3_readInto_9 : decode cX3_readInto 9 = .ok (.aload_n 0, 1) := by decide +kernel
theorem dX3_readInto_10 : decode cX3_readInto 10 = .ok (.invokevirtual 30, 3) := by decide +kernel
theorem dX3_readInto_13 : decode cX3_readInto 13 = .ok (.iconst 1, 1) := by decide +kernel
theorem dX3_readInto_14 : decode cX3_readInto 14 = .ok (.istore_n 2, 1) := by decide +kernel
theorem dX3_readInto_15 : decode cX3_readInto 15 = .ok (.iload_n 2, 1) := by decide +kernel
theorem dX3_readInto_16 : decode cX3_readInto 16 = .ok (.bipush 20, 2) := by decide +kernel
theorem dX3_readInto_18 : decode cX3_readInto 18 = .ok (.if_icmp .gt 70, 3) := by decide +kernel
theorem dX3_readInto_21 : decode cX3_readInto 21 = .ok (.aload_n 0, 1) := by decide +kernel
theorem dX3_readInto_22 : decode cX3_readInto 22 = .ok (.aload_n 1, 1) := by decide +kernel
theorem dX3_readInto_23 : decode cX3_readInto 23 = .ok (.invokevirtual 33, 3) := by decide +kernel
theorem dX3_readInto_26 : decode cX3_readInto 26 = .ok (.ifCond .ne 8, 3) := by decide +kernel
theorem dX3_readInto_29 : decode cX3_readInto 29 = .ok (.aload_n 0, 1) := by decide +kernel
theorem dX3_readInto_30 : decode cX3_readInto 30 = .ok (.getfield 15, 3) := by decide +kernel
theorem dX3_readInto_33 : decode cX3_readInto 33 = .ok (.ireturn, 1) := by decide +kernel
theorem dX3_readInto_34 : decode cX3_readInto 34 = .ok (.aload_n 0, 1) := by decide +kernel
theorem dX3_readInto_35 : decode cX3_readInto 35 = .ok (.getfield 22, 3) := by decide +kernel
theorem dX3_readInto_38 : decode cX3_readInto 38 = .ok (.ifCond .ne 5, 3) := by decide +kernel
theorem dX3_readInto_41 : decode cX3_readInto 41 = .ok (.iconst (-1), 1) := by decide +kernel
theorem dX3_readInto_42 : decode cX3_readInto 42 = .ok (.ireturn, 1) := by decide +kernel
theorem dX3_readInto_43 : decode cX3_readInto 43 = .ok (.aload_n 0, 1) := by decide +kernel
theorem dX3_readInto_44 : decode cX3_readInto 44 = .ok (.getfield 22, 3) := by decide +kernel
theorem dX3_readInto_47 : decode cX3_readInto 47 = .ok (.iconst 3, 1) := by decide +kernel
theorem dX3_readInto_48 : decode cX3_readInto 48 = .ok (.if_icmp .ne 19, 3) := by decide +kernel
theorem dX3_readInto_51 : decode cX3_readInto 51 = .ok (.aload_n 0, 1) := by decide +kernel
theorem dX3_readInto_52 : decode cX3_readInto 52 = .ok (.getfield 9, 3) := by decide +kernel
theorem dX3_readInto_55 : decode cX3_readInto 55 = .ok (.aload_n 0, 1) := by decide +kernel
theorem dX3_readInto_56 : decode cX3_readInto 56 = .ok (.getfield 15, 3) := by decide +kernel
theorem dX3_readInto_59 : decode cX3_readInto 59 = .ok (.invokevirtual 37, 3) := by decide +kernel
theorem dX3_readInto_62 : decode cX3_readInto 62 = .ok (.bipush 59, 2) := by decide +kernel
theorem dX3_readInto_64 : decode cX3_readInto 64 = .ok (.if_icmp .eq 8, 3) := by decide +kernel
theorem dX3_readInto_67 : decode cX3_readInto 67 = .ok (.aload_n 0, 1) := by decide +kernel
theorem dX3_readInto_68 : decode cX3_readInto 68 = .ok (.getfield 15, 3) := by decide +kernel
theorem dX3_readInto_71 : decode cX3_readInto 71 = .ok (.ireturn, 1) := by decide +kernel
theorem dX3_readInto_72 : decode cX3_readInto 72 = .ok (.iload_n 2, 1) := by decide +kernel
theorem dX3_readInto_73 : decode cX3_readInto 73 = .ok (.bipush 20, 2) := by decide +kernel
theorem dX3_readInto_75 : decode cX3_readInto 75 = .ok (.if_icmp .ge 7, 3) := by decide +kernel
theorem dX3_readInto_78 : decode cX3_readInto 78 = .ok (.aload_n 0, 1) := by decide +kernel
theorem dX3_readInto_79 : decode cX3_readInto 79 = .ok (.invokevirtual 30, 3) := by decide +kernel
theorem dX3_readInto_82 : decode cX3_readInto 82 = .ok (.iinc 2 1, 3) := by decide +kernel
theorem dX3_readInto_85 : decode cX3_readInto 85 = .ok (.goto (-70), 3) := by decide +kernel
theorem dX3_readInto_88 : decode cX3_readInto 88 = .ok (.aload_n 0, 1) := by decide +kernel
theorem dX3_readInto_89 : decode cX3_readInto 89 = .ok (.getfield 15, 3) := by decide +kernel
theorem dX3_readInto_92 : decode cX3_readInto 92 = .ok (.ireturn, 1) := by decide +kernel
set_option maxRecDepth 20000 in
theorem ggX3_readLine_X3_isNumberWithin : GoodIn wsX3_readLine wsX3_isNumberWithin := goodIn_r _ [6, 1, 7, 8, 9, 10, 11, 5, 12, 13, 14, 15, 16, 17, 18, 19, 20, 119, 120, 121, 122, 123, 124] (by decide +kernel) (by decide +kernel)
set_option maxRecDepth 20000 in
theorem gX3_readLine_X3_isNumberWithin : GoodIn wsX3_readLine (wsV RX3 43 RX3 yX3_isNumberWithin wsX3_isNumberWithin) := goodIn_app (goodIn_of _ (by decide +kernel)) ggX3_readLine_X3_isNumberWithin
set_option maxRecDepth 20000 in
theorem ggX3_readLine_X3_number : GoodIn wsX3_readLine wsX3_number := goodIn_r _ [12, 8, 7, 13, 14, 15, 16, 17, 18, 19, 20, 119, 120, 121, 122, 123, 124] (by decide +kernel) (by decide +kernel)
set_option maxRecDepth 20000 in
theorem gX3_readLine_X3_number : GoodIn wsX3_readLine (wsV RX3 47 RX3 yX3_number wsX3_number) := goodIn_app (goodIn_of _ (by decide +kernel)) ggX3_readLine_X3_number
set_option maxRecDepth 20000 in
theorem ggX3_readLine_X3_step : GoodIn wsX3_readLine wsX3_step := goodIn_r _ [24, 7, 8, 13, 1, 25, 26, 27, 5, 28, 29, 14, 15, 16, 17, 18, 19, 20, 30, 31, 32, 119, 120, 121, 122, 123, 124] (by decide +kernel) (by decide +kernel)
set_option maxRecDepth 20000 in
theorem gX3_readLine_X3_step : GoodIn wsX3_readLine (wsV RX3 30 RX3 yX3_step wsX3_step) := goodIn_app (goodIn_of _ (by decide +kernel)) ggX3_readLine_X3_step
set_option maxRecDepth 20000 in
theorem ggX3_readLine_X3_verbHere : GoodIn wsX3_readLine wsX3_verbHere := goodIn_r _ [36, 37, 38, 39, 5, 40, 1, 7, 8, 13, 41, 42, 43, 44, 45, 46, 47, 48, 49, 50, 51, 52, 14, 15, 16, 17, 18, 19, 20, 53, 54, 55, 56, 57, 58, 59, 60, 61, 62, 63, 64, 65, 66, 67, 68, 69, 70, 71, 72, 73, 74, 75, 76, 77, 78, 79, 80, 81, 82, 83, 84, 85, 86, 87, 88, 89, 119, 120, 121, 122, 123, 124] (by decide +kernel) (by decide +kernel)
set_option maxRecDepth 20000 in
theorem gX3_readLine_X3_verbHere : GoodIn wsX3_readLine (wsV RX3 51 RX3 yX3_verbHere wsX3_verbHere) := goodIn_app (goodIn_of _ (by decide +kernel)) ggX3_readLine_X3_verbHere
set_option maxRecDepth 20000 in
theorem ggX3_readLine_X2_addLine : GoodIn wsX3_readLine wsX2_addLine := goodIn_r _ [94, 95, 96, 97, 125, 126, 127, 128, 129, 130, 131, 132, 133, 134, 135] (by decide +kernel) (by decide +kernel)
set_option maxRecDepth 20000 in
theorem gX3_readLine_X2_addLine : GoodIn wsX3_readLine (wsV RX3 54 RX2 yX2_addLine wsX2_addLine) := goodIn_app (goodIn_of _ (by decide +kernel)) ggX3_readLine_X2_addLine
set_option maxRecDepth 20000 in
theorem ggX3_readLine_X2_operandCount : GoodIn wsX3_readLine wsX2_operandCount := goodIn_r _ [100] (by decide +kernel) (by decide +kernel)
set_option maxRecDepth 20000 in
theorem gX3_readLine_X2_operandCount : GoodIn wsX3_readLine (va_wsS RX3 58 yX2_operandCount wsX2_operandCount) := goodIn_app (goodIn_of _ (by decide +kernel)) ggX3_readLine_X2_operandCount
set_option maxRecDepth 20000 in
theorem ggX3_readLine_X2_leastOperand : GoodIn wsX3_readLine wsX2_leastOperand := goodIn_r _ [103] (by decide +kernel) (by decide +kernel)
set_option maxRecDepth 20000 in
theorem gX3_readLine_X2_leastOperand : GoodIn wsX3_readLine (va_wsS RX3 61 yX2_leastOperand wsX2_leastOperand) := goodIn_app (goodIn_of _ (by decide +kernel)) ggX3_readLine_X2_leastOperand
set_option maxRecDepth 20000 in
theorem ggX3_readLine_X2_greatestOperand : GoodIn wsX3_readLine wsX2_greatestOperand := goodIn_r _ [106] (by decide +kernel) (by decide +kernel)
set_option maxRecDepth 20000 in
theorem gX3_readLine_X2_greatestOperand : GoodIn wsX3_readLine (va_wsS RX3 64 yX2_greatestOperand wsX2_greatestOperand) := goodIn_app (goodIn_of _ (by decide +kernel)) ggX3_readLine_X2_greatestOperand
set_option maxRecDepth 20000 in
theorem ggX3_readLine_X2_setOperand : GoodIn wsX3_readLine wsX2_setOperand := goodIn_r _ [110, 95, 96, 111, 112, 113, 114, 115, 93, 116, 117, 118, 125, 126, 127, 128, 129, 130, 131, 132, 133, 134, 135] (by decide +kernel) (by decide +kernel)
set_option maxRecDepth 20000 in
theorem gX3_readLine_X2_setOperand : GoodIn wsX3_readLine (wsV RX3 67 RX2 yX2_setOperand wsX2_setOperand) := goodIn_app (goodIn_of _ (by decide +kernel)) ggX3_readLine_X2_setOperand
theorem dX3_readLine_0 : decode cX3_readLine 0 = .ok (.iconst 0, 1) := by decide +kernel
theorem dX3_readLine_1 : decode cX3_readLine 1 = .ok (.istore_n 2, 1) := by decide +kernel
theorem dX3_readLine_2 : decode cX3_readLine 2 = .ok (.aload_n 0, 1) := by decide +kernel
theorem dX3_readLine_3 : decode cX3_readLine 3 = .ok (.getfield 22, 3) := by decide +kernel
theorem dX3_readLine_6 : decode cX3_readLine 6 = .ok (.iconst 1, 1) := by decide +kernel
theorem dX3_readLine_7 : decode cX3_readLine 7 = .ok (.if_icmp .eq 7, 3) := by decide +kernel
theorem dX3_readLine_10 : decode cX3_readLine 10 = .ok (.iconst 1, 1) := by decide +kernel
theorem dX3_readLine_11 : decode cX3_readLine 11 = .ok (.goto 4, 3) := by decide +kernel
theorem dX3_readLine_14 : decode cX3_readLine 14 = .ok (.iconst 0, 1) := by decide +kernel
theorem dX3_readLine_15 : decode cX3_readLine 15 = .ok (.istore_n 3, 1) := by decide +kernel
theorem dX3_readLine_16 : decode cX3_readLine 16 = .ok (.iload_n 3, 1) := by decide +kernel
theorem dX3_readLine_17 : decode cX3_readLine 17 = .ok (.ifCond .eq 24, 3) := by decide +kernel
theorem dX3_readLine_20 : decode cX3_readLine 20 = .ok (.aload_n 0, 1) := by decide +kernel
theorem dX3_readLine_21 : decode cX3_readLine 21 = .ok (.iconst 0, 1) := by decide +kernel
theorem dX3_readLine_22 : decode cX3_readLine 22 = .ok (.bipush 7, 2) := by decide +kernel
theorem dX3_readLine_24 : decode cX3_readLine 24 = .ok (.invokevirtual 43, 3) := by decide +kernel
theorem dX3_readLine_27 : decode cX3_readLine 27 = .ok (.ifCond .ne 5, 3) := by decide +kernel
theorem dX3_readLine_30 : decode cX3_readLine 30 = .ok (.iconst 0, 1) := by decide +kernel
theorem dX3_readLine_31 : decode cX3_readLine 31 = .ok (.ireturn, 1) := by decide +kernel
theorem dX3_readLine_32 : decode cX3_readLine 32 = .ok (.aload_n 0, 1) := by decide +kernel
theorem dX3_readLine_33 : decode cX3_readLine 33 = .ok (.invokevirtual 47, 3) := by decide +kernel
theorem dX3_readLine_36 : decode cX3_readLine 36 = .ok (.istore_n 2, 1) := by decide +kernel
theorem dX3_readLine_37 : decode cX3_readLine 37 = .ok (.aload_n 0, 1) := by decide +kernel
theorem dX3_readLine_38 : decode cX3_readLine 38 = .ok (.invokevirtual 30, 3) := by decide +kernel
theorem dX3_readLine_41 : decode cX3_readLine 41 = .ok (.aload_n 0, 1) := by decide +kernel
theorem dX3_readLine_42 : decode cX3_readLine 42 = .ok (.invokevirtual 51, 3) := by decide +kernel
theorem dX3_readLine_45 : decode cX3_readLine 45 = .ok (.istore 4, 2) := by decide +kernel
theorem dX3_readLine_47 : decode cX3_readLine 47 = .ok (.iload 4, 2) := by decide +kernel
theorem dX3_readLine_49 : decode cX3_readLine 49 = .ok (.iconst (-1), 1) := by decide +kernel
theorem dX3_readLine_50 : decode cX3_readLine 50 = .ok (.if_icmp .eq 19, 3) := by decide +kernel
theorem dX3_readLine_53 : decode cX3_readLine 53 = .ok (.iload_n 3, 1) := by decide +kernel
theorem dX3_readLine_54 : decode cX3_readLine 54 = .ok (.iload 4, 2) := by decide +kernel
theorem dX3_readLine_56 : decode cX3_readLine 56 = .ok (.bipush 8, 2) := by decide +kernel
theorem dX3_readLine_58 : decode cX3_readLine 58 = .ok (.if_icmp .ne 7, 3) := by decide +kernel
theorem dX3_readLine_61 : decode cX3_readLine 61 = .ok (.iconst 1, 1) := by decide +kernel
theorem dX3_readLine_62 : decode cX3_readLine 62 = .ok (.goto 4, 3) := by decide +kernel
theorem dX3_readLine_65 : decode cX3_readLine 65 = .ok (.iconst 0, 1) := by decide +kernel
theorem dX3_readLine_66 : decode cX3_readLine 66 = .ok (.if_icmp .ne 5, 3) := by decide +kernel
theorem dX3_readLine_69 : decode cX3_readLine 69 = .ok (.iconst 0, 1) := by decide +kernel
theorem dX3_readLine_70 : decode cX3_readLine 70 = .ok (.ireturn, 1) := by decide +kernel
theorem dX3_readLine_71 : decode cX3_readLine 71 = .ok (.aload_n 0, 1) := by decide +kernel
theorem dX3_readLine_72 : decode cX3_readLine 72 = .ok (.invokevirtual 30, 3) := by decide +kernel
theorem dX3_readLine_75 : decode cX3_readLine 75 = .ok (.aload_n 1, 1) := by decide +kernel
theorem dX3_readLine_76 : decode cX3_readLine 76 = .ok (.iload 4, 2) := by decide +kernel
theorem dX3_readLine_78 : decode cX3_readLine 78 = .ok (.iload_n 2, 1) := by decide +kernel
theorem dX3_readLine_79 : decode cX3_readLine 79 = .ok (.invokevirtual 54, 3) := by decide +kernel
theorem dX3_readLine_82 : decode cX3_readLine 82 = .ok (.iconst 0, 1) := by decide +kernel
theorem dX3_readLine_83 : decode cX3_readLine 83 = .ok (.istore 5, 2) := by decide +kernel
theorem dX3_readLine_85 : decode cX3_readLine 85 = .ok (.iload 5, 2) := by decide +kernel
theorem dX3_readLine_87 : decode cX3_readLine 87 = .ok (.iload 4, 2) := by decide +kernel
theorem dX3_readLine_89 : decode cX3_readLine 89 = .ok (.invokestatic 58, 3) := by decide +kernel
theorem dX3_readLine_92 : decode cX3_readLine 92 = .ok (.if_icmp .ge 45, 3) := by decide +kernel
theorem dX3_readLine_95 : decode cX3_readLine 95 = .ok (.aload_n 0, 1) := by decide +kernel
theorem dX3_readLine_96 : decode cX3_readLine 96 = .ok (.iload 4, 2) := by decide +kernel
theorem dX3_readLine_98 : decode cX3_readLine 98 = .ok (.invokestatic 61, 3) := by decide +kernel
theorem dX3_readLine_101 : decode cX3_readLine 101 = .ok (.iload 4, 2) := by decide +kernel
theorem dX3_readLine_103 : decode cX3_readLine 103 = .ok (.invokestatic 64, 3) := by decide +kernel
theorem dX3_readLine_106 : decode cX3_readLine 106 = .ok (.invokevirtual 43, 3) := by decide +kernel
theorem dX3_readLine_109 : decode cX3_readLine 109 = .ok (.ifCond .eq 16, 3) := by decide +kernel
theorem dX3_readLine_112 : decode cX3_readLine 112 = .ok (.aload_n 1, 1) := by decide +kernel
theorem dX3_readLine_113 : decode cX3_readLine 113 = .ok (.iload 5, 2) := by decide +kernel
theorem dX3_readLine_115 : decode cX3_readLine 115 = .ok (.aload_n 0, 1) := by decide +kernel
theorem dX3_readLine_116 : decode cX3_readLine 116 = .ok (.invokevirtual 47, 3) := by decide +kernel
theorem dX3_readLine_119 : decode cX3_readLine 119 = .ok (.invokevirtual 67, 3) := by decide +kernel
theorem dX3_readLine_122 : decode cX3_readLine 122 = .ok (.ifCond .ne 5, 3) := by decide +kernel
theorem dX3_readLine_125 : decode cX3_readLine 125 = .ok (.iconst 0, 1) := by decide +kernel
theorem dX3_readLine_126 : decode cX3_readLine 126 = .ok (.ireturn, 1) := by decide +kernel
theorem dX3_readLine_127 : decode cX3_readLine 127 = .ok (.aload_n 0, 1) := by decide +kernel
theorem dX3_readLine_128 : decode cX3_readLine 128 = .ok (.invokevirtual 30, 3) := by decide +kernel
theorem dX3_readLine_131 : decode cX3_readLine 131 = .ok (.iinc 5 1, 3) := by decide +kernel
theorem dX3_readLine_134 : decode cX3_readLine 134 = .ok (.goto (-49), 3) := by decide +kernel
theorem dX3_readLine_137 : decode cX3_readLine 137 = .ok (.iconst 1, 1) := by decide +kernel
theorem dX3_readLine_138 : decode cX3_readLine 138 = .ok (.ireturn, 1) := by decide +kernel
set_option maxRecDepth 20000 in
theorem ggX3_step_X3_behind : GoodIn wsX3_step wsX3_behind := goodIn_r _ [9, 3, 10, 11, 12, 13, 14, 15, 16, 17, 18, 19, 8, 20, 21, 22, 23, 24, 25, 26] (by decide +kernel) (by decide +kernel)
set_option maxRecDepth 20000 in
theorem gX3_step_X3_behind : GoodIn wsX3_step (wsV RX3 70 RX3 yX3_behind wsX3_behind) := goodIn_app (goodIn_of _ (by decide +kernel)) ggX3_step_X3_behind
set_option maxRecDepth 20000 in
theorem ggX3_step_X6_at : GoodIn wsX3_step wsX6_at := goodIn_r _ [15, 16, 17, 25, 26] (by decide +kernel) (by decide +kernel)
set_option maxRecDepth 20000 in
theorem gX3_step_X6_at : GoodIn wsX3_step (wsV RX3 37 RX6 yX6_at wsX6_at) := goodIn_app (goodIn_of _ (by decide +kernel)) ggX3_step_X6_at
set_option maxRecDepth 20000 in
theorem ggX3_step_X3_sortOf : GoodIn wsX3_step wsX3_sortOf := goodIn_r _ [20] (by decide +kernel) (by decide +kernel)
set_option maxRecDepth 20000 in
theorem gX3_step_X3_sortOf : GoodIn wsX3_step (va_wsS RX3 74 yX3_sortOf wsX3_sortOf) := goodIn_app (goodIn_of _ (by decide +kernel)) ggX3_step_X3_sortOf
theorem dX3_step_0 : decode cX3_step 0 = .ok (.aload_n 0, 1) := by decide +kernel
theorem dX3_step_1 : decode cX3_step 1 = .ok (.aload_n 0, 1) := by decide +kernel
theorem dX3_step_2 : decode cX3_step 2 = .ok (.aload_n 0, 1) := by decide +kernel
theorem dX3_step_3 : decode cX3_step 3 = .ok (.getfield 19, 3) := by decide +kernel
theorem dX3_step_6 : decode cX3_step 6 = .ok (.iconst 4, 1) := by decide +kernel
theorem dX3_step_7 : decode cX3_step 7 = .ok (.invokevirtual 70, 3) := by decide +kernel
theorem dX3_step_10 : decode cX3_step 10 = .ok (.putfield 15, 3) := by decide +kernel
theorem dX3_step_13 : decode cX3_step 13 = .ok (.aload_n 0, 1) := by decide +kernel
theorem dX3_step_14 : decode cX3_step 14 = .ok (.aload_n 0, 1) := by decide +kernel
theorem dX3_step_15 : decode cX3_step 15 = .ok (.getfield 9, 3) := by decide +kernel
theorem dX3_step_18 : decode cX3_step 18 = .ok (.aload_n 0, 1) := by decide +kernel
theorem dX3_step_19 : decode cX3_step 19 = .ok (.getfield 15, 3) := by decide +kernel
theorem dX3_step_22 : decode cX3_step 22 = .ok (.invokevirtual 37, 3) := by decide +kernel
theorem dX3_step_25 : decode cX3_step 25 = .ok (.invokestatic 74, 3) := by decide +kernel
theorem dX3_step_28 : decode cX3_step 28 = .ok (.putfield 22, 3) := by decide +kernel
theorem dX3_step_31 : decode cX3_step 31 = .ok (.aload_n 0, 1) := by decide +kernel
theorem dX3_step_32 : decode cX3_step 32 = .ok (.getfield 22, 3) := by decide +kernel
theorem dX3_step_35 : decode cX3_step 35 = .ok (.iconst 1, 1) := by decide +kernel
theorem dX3_step_36 : decode cX3_step 36 = .ok (.if_icmp .eq 11, 3) := by decide +kernel
theorem dX3_step_39 : decode cX3_step 39 = .ok (.aload_n 0, 1) := by decide +kernel
theorem dX3_step_40 : decode cX3_step 40 = .ok (.getfield 22, 3) := by decide +kernel
theorem dX3_step_43 : decode cX3_step 43 = .ok (.iconst 2, 1) := by decide +kernel
theorem dX3_step_44 : decode cX3_step 44 = .ok (.if_icmp .ne 22, 3) := by decide +kernel
theorem dX3_step_47 : decode cX3_step 47 = .ok (.aload_n 0, 1) := by decide +kernel
theorem dX3_step_48 : decode cX3_step 48 = .ok (.aload_n 0, 1) := by decide +kernel
theorem dX3_step_49 : decode cX3_step 49 = .ok (.aload_n 0, 1) := by decide +kernel
theorem dX3_step_50 : decode cX3_step 50 = .ok (.getfield 15, 3) := by decide +kernel
theorem dX3_step_53 : decode cX3_step 53 = .ok (.aload_n 0, 1) := by decide +kernel
theorem dX3_step_54 : decode cX3_step 54 = .ok (.getfield 22, 3) := by decide +kernel
theorem dX3_step_57 : decode cX3_step 57 = .ok (.invokevirtual 70, 3) := by decide +kernel
theorem dX3_step_60 : decode cX3_step 60 = .ok (.putfield 19, 3) := by decide +kernel
theorem dX3_step_63 : decode cX3_step 63 = .ok (.goto 27, 3) := by decide +kernel
theorem dX3_step_66 : decode cX3_step 66 = .ok (.aload_n 0, 1) := by decide +kernel
theorem dX3_step_67 : decode cX3_step 67 = .ok (.aload_n 0, 1) := by decide +kernel
theorem dX3_step_68 : decode cX3_step 68 = .ok (.getfield 22, 3) := by decide +kernel
theorem dX3_step_71 : decode cX3_step 71 = .ok (.ifCond .ne 10, 3) := by decide +kernel
theorem dX3_step_74 : decode cX3_step 74 = .ok (.aload_n 0, 1) := by decide +kernel
theorem dX3_step_75 : decode cX3_step 75 = .ok (.getfield 15, 3) := by decide +kernel
theorem dX3_step_78 : decode cX3_step 78 = .ok (.goto 9, 3) := by decide +kernel
theorem dX3_step_81 : decode cX3_step 81 = .ok (.aload_n 0, 1) := by decide +kernel
theorem dX3_step_82 : decode cX3_step 82 = .ok (.getfield 15, 3) := by decide +kernel
theorem dX3_step_85 : decode cX3_step 85 = .ok (.iconst 1, 1) := by decide +kernel
theorem dX3_step_86 : decode cX3_step 86 = .ok (.iadd, 1) := by decide +kernel
theorem dX3_step_87 : decode cX3_step 87 = .ok (.putfield 19, 3) := by decide +kernel
theorem dX3_step_90 : decode cX3_step 90 = .ok (.return_, 1) := by decide +kernel
set_option maxRecDepth 20000 in
theorem ggX3_behind_X6_at : GoodIn wsX3_behind wsX6_at := goodIn_r _ [7, 8, 9, 18, 19] (by decide +kernel) (by decide +kernel)
set_option maxRecDepth 20000 in
theorem gX3_behind_X6_at : GoodIn wsX3_behind (wsV RX3 37 RX6 yX6_at wsX6_at) := goodIn_app (goodIn_of _ (by decide +kernel)) ggX3_behind_X6_at
set_option maxRecDepth 20000 in
theorem ggX3_behind_X3_sortOf : GoodIn wsX3_behind wsX3_sortOf := goodIn_r _ [13] (by decide +kernel) (by decide +kernel)
set_option maxRecDepth 20000 in
theorem gX3_behind_X3_sortOf : GoodIn wsX3_behind (va_wsS RX3 74 yX3_sortOf wsX3_sortOf) := goodIn_app (goodIn_of _ (by decide +kernel)) ggX3_behind_X3_sortOf
theorem dX3_behind_0 : decode cX3_behind 0 = .ok (.iload_n 1, 1) := by decide +kernel
theorem dX3_behind_1 : decode cX3_behind 1 = .ok (.istore_n 3, 1) := by decide +kernel
theorem dX3_behind_2 : decode cX3_behind 2 = .ok (.iload_n 3, 1) := by decide +kernel
theorem dX3_behind_3 : decode cX3_behind 3 = .ok (.aload_n 0, 1) := by decide +kernel
theorem dX3_behind_4 : decode cX3_behind 4 = .ok (.getfield 9, 3) := by decide +kernel
theorem dX3_behind_7 : decode cX3_behind 7 = .ok (.getfield 77, 3) := by decide +kernel
theorem dX3_behind_10 : decode cX3_behind 10 = .ok (.if_icmp .ge 24, 3) := by decide +kernel
theorem dX3_behind_13 : decode cX3_behind 13 = .ok (.aload_n 0, 1) := by decide +kernel
theorem dX3_behind_14 : decode cX3_behind 14 = .ok (.getfield 9, 3) := by decide +kernel
theorem dX3_behind_17 : decode cX3_behind 17 = .ok (.iload_n 3, 1) := by decide +kernel
theorem dX3_behind_18 : decode cX3_behind 18 = .ok (.invokevirtual 37, 3) := by decide +kernel
theorem dX3_behind_21 : decode cX3_behind 21 = .ok (.invokestatic 74, 3) := by decide +kernel
theorem dX3_behind_24 : decode cX3_behind 24 = .ok (.iload_n 2, 1) := by decide +kernel
theorem dX3_behind_25 : decode cX3_behind 25 = .ok (.if_icmp .ne 9, 3) := by decide +kernel
theorem dX3_behind_28 : decode cX3_behind 28 = .ok (.iinc 3 1, 3) := by decide +kernel
theorem dX3_behind_31 : decode cX3_behind 31 = .ok (.goto (-29), 3) := by decide +kernel
theorem dX3_behind_34 : decode cX3_behind 34 = .ok (.iload_n 3, 1) := by decide +kernel
theorem dX3_behind_35 : decode cX3_behind 35 = .ok (.ireturn, 1) := by decide +kernel
theorem dX3_sortOf_0 : decode cX3_sortOf 0 = .ok (.iload_n 0, 1) := by decide +kernel
theorem dX3_sortOf_1 : decode cX3_sortOf 1 = .ok (.iconst (-1), 1) := by decide +kernel
theorem dX3_sortOf_2 : decode cX3_sortOf 2 = .ok (.if_icmp .ne 5, 3) := by decide +kernel
theorem dX3_sortOf_5 : decode cX3_sortOf 5 = .ok (.iconst 0, 1) := by decide +kernel
theorem dX3_sortOf_6 : decode cX3_sortOf 6 = .ok (.ireturn, 1) := by decide +kernel
theorem dX3_sortOf_7 : decode cX3_sortOf 7 = .ok (.iload_n 0, 1) := by decide +kernel
theorem dX3_sortOf_8 : decode cX3_sortOf 8 = .ok (.bipush 97, 2) := by decide +kernel
theorem dX3_sortOf_10 : decode cX3_sortOf 10 = .ok (.if_icmp .lt 11, 3) := by decide +kernel
theorem dX3_sortOf_13 : decode cX3_sortOf 13 = .ok (.iload_n 0, 1) := by decide +kernel
theorem dX3_sortOf_14 : decode cX3_sortOf 14 = .ok (.bipush 122, 2) := by decide +kernel
theorem dX3_sortOf_16 : decode cX3_sortOf 16 = .ok (.if_icmp .gt 5, 3) := by decide +kernel
theorem dX3_sortOf_19 : decode cX3_sortOf 19 = .ok (.iconst 1, 1) := by decide +kernel
theorem dX3_sortOf_20 : decode cX3_sortOf 20 = .ok (.ireturn, 1) := by decide +kernel
theorem dX3_sortOf_21 : decode cX3_sortOf 21 = .ok (.iload_n 0, 1) := by decide +kernel
theorem dX3_sortOf_22 : decode cX3_sortOf 22 = .ok (.bipush 48, 2) := by decide +kernel
theorem dX3_sortOf_24 : decode cX3_sortOf 24 = .ok (.if_icmp .lt 11, 3) := by decide +kernel
theorem dX3_sortOf_27 : decode cX3_sortOf 27 = .ok (.iload_n 0, 1) := by decide +kernel
theorem dX3_sortOf_28 : decode cX3_sortOf 28 = .ok (.bipush 57, 2) := by decide +kernel
theorem dX3_sortOf_30 : decode cX3_sortOf 30 = .ok (.if_icmp .gt 5, 3) := by decide +kernel
theorem dX3_sortOf_33 : decode cX3_sortOf 33 = .ok (.iconst 2, 1) := by decide +kernel
theorem dX3_sortOf_34 : decode cX3_sortOf 34 = .ok (.ireturn, 1) := by decide +kernel
theorem dX3_sortOf_35 : decode cX3_sortOf 35 = .ok (.iload_n 0, 1) := by decide +kernel
theorem dX3_sortOf_36 : decode cX3_sortOf 36 = .ok (.bipush 32, 2) := by decide +kernel
theorem dX3_sortOf_38 : decode cX3_sortOf 38 = .ok (.if_icmp .ne 7, 3) := by decide +kernel
theorem dX3_sortOf_41 : decode cX3_sortOf 41 = .ok (.iconst 4, 1) := by decide +kernel
theorem dX3_sortOf_42 : decode cX3_sortOf 42 = .ok (.goto 4, 3) := by decide +kernel
theorem dX3_sortOf_45 : decode cX3_sortOf 45 = .ok (.iconst 3, 1) := by decide +kernel
theorem dX3_sortOf_46 : decode cX3_sortOf 46 = .ok (.ireturn, 1) := by decide +kernel
set_option maxRecDepth 20000 in
theorem ggX3_isNumberWithin_X3_number : GoodIn wsX3_isNumberWithin wsX3_number := goodIn_r _ [8, 3, 2, 9, 10, 11, 12, 13, 14, 15, 16, 17, 18, 19, 20, 21, 22] (by decide +kernel) (by decide +kernel)
set_option maxRecDepth 20000 in
theorem gX3_isNumberWithin_X3_number : GoodIn wsX3_isNumberWithin (wsV RX3 47 RX3 yX3_number wsX3_number) := goodIn_app (goodIn_of _ (by decide +kernel)) ggX3_isNumberWithin_X3_number
theorem dX3_isNumberWithin_0 : decode cX3_isNumberWithin 0 = .ok (.aload_n 0, 1) := by decide +kernel
theorem dX3_isNumberWithin_1 : decode cX3_isNumberWithin 1 = .ok (.getfield 22, 3) := by decide +kernel
theorem dX3_isNumberWithin_4 : decode cX3_isNumberWithin 4 = .ok (.iconst 2, 1) := by decide +kernel
theorem dX3_isNumberWithin_5 : decode cX3_isNumberWithin 5 = .ok (.if_icmp .ne 16, 3) := by decide +kernel
theorem dX3_isNumberWithin_8 : decode cX3_isNumberWithin 8 = .ok (.aload_n 0, 1) := by decide +kernel
theorem dX3_isNumberWithin_9 : decode cX3_isNumberWithin 9 = .ok (.getfield 19, 3) := by decide +kernel
theorem dX3_isNumberWithin_12 : decode cX3_isNumberWithin 12 = .ok (.aload_n 0, 1) := by decide +kernel
theorem dX3_isNumberWithin_13 : decode cX3_isNumberWithin 13 = .ok (.getfield 15, 3) := by decide +kernel
theorem dX3_isNumberWithin_16 : decode cX3_isNumberWithin 16 = .ok (.isub, 1) := by decide +kernel
theorem dX3_isNumberWithin_17 : decode cX3_isNumberWithin 17 = .ok (.iconst 2, 1) := by decide +kernel
theorem dX3_isNumberWithin_18 : decode cX3_isNumberWithin 18 = .ok (.if_icmp .le 5, 3) := by decide +kernel
theorem dX3_isNumberWithin_21 : decode cX3_isNumberWithin 21 = .ok (.iconst 0, 1) := by decide +kernel
theorem dX3_isNumberWithin_22 : decode cX3_isNumberWithin 22 = .ok (.ireturn, 1) := by decide +kernel
theorem dX3_isNumberWithin_23 : decode cX3_isNumberWithin 23 = .ok (.aload_n 0, 1) := by decide +kernel
theorem dX3_isNumberWithin_24 : decode cX3_isNumberWithin 24 = .ok (.invokevirtual 47, 3) := by decide +kernel
theorem dX3_isNumberWithin_27 : decode cX3_isNumberWithin 27 = .ok (.istore_n 3, 1) := by decide +kernel
theorem dX3_isNumberWithin_28 : decode cX3_isNumberWithin 28 = .ok (.iload_n 3, 1) := by decide +kernel
theorem dX3_isNumberWithin_29 : decode cX3_isNumberWithin 29 = .ok (.iload_n 1, 1) := by decide +kernel
theorem dX3_isNumberWithin_30 : decode cX3_isNumberWithin 30 = .ok (.if_icmp .lt 12, 3) := by decide +kernel
theorem dX3_isNumberWithin_33 : decode cX3_isNumberWithin 33 = .ok (.iload_n 3, 1) := by decide +kernel
theorem dX3_isNumberWithin_34 : decode cX3_isNumberWithin 34 = .ok (.iload_n 2, 1) := by decide +kernel
theorem dX3_isNumberWithin_35 : decode cX3_isNumberWithin 35 = .ok (.if_icmp .gt 7, 3) := by decide +kernel
theorem dX3_isNumberWithin_38 : decode cX3_isNumberWithin 38 = .ok (.iconst 1, 1) := by decide +kernel
theorem dX3_isNumberWithin_39 : decode cX3_isNumberWithin 39 = .ok (.goto 4, 3) := by decide +kernel
theorem dX3_isNumberWithin_42 : decode cX3_isNumberWithin 42 = .ok (.iconst 0, 1) := by decide +kernel
theorem dX3_isNumberWithin_43 : decode cX3_isNumberWithin 43 = .ok (.ireturn, 1) := by decide +kernel
set_option maxRecDepth 20000 in
theorem ggX3_number_X6_at : GoodIn wsX3_number wsX6_at := goodIn_r _ [8, 9, 10, 15, 16] (by decide +kernel) (by decide +kernel)
set_option maxRecDepth 20000 in
theorem gX3_number_X6_at : GoodIn wsX3_number (wsV RX3 37 RX6 yX6_at wsX6_at) := goodIn_app (goodIn_of _ (by decide +kernel)) ggX3_number_X6_at
theorem dX3_number_0 : decode cX3_number 0 = .ok (.iconst 0, 1) := by decide +kernel
theorem dX3_number_1 : decode cX3_number 1 = .ok (.istore_n 1, 1) := by decide +kernel
theorem dX3_number_2 : decode cX3_number 2 = .ok (.aload_n 0, 1) := by decide +kernel
theorem dX3_number_3 : decode cX3_number 3 = .ok (.getfield 15, 3) := by decide +kernel
theorem dX3_number_6 : decode cX3_number 6 = .ok (.istore_n 2, 1) := by decide +kernel
theorem dX3_number_7 : decode cX3_number 7 = .ok (.iload_n 2, 1) := by decide +kernel
theorem dX3_number_8 : decode cX3_number 8 = .ok (.aload_n 0, 1) := by decide +kernel
theorem dX3_number_9 : decode cX3_number 9 = .ok (.getfield 19, 3) := by decide +kernel
theorem dX3_number_12 : decode cX3_number 12 = .ok (.if_icmp .ge 26, 3) := by decide +kernel
theorem dX3_number_15 : decode cX3_number 15 = .ok (.bipush 10, 2) := by decide +kernel
theorem dX3_number_17 : decode cX3_number 17 = .ok (.iload_n 1, 1) := by decide +kernel
theorem dX3_number_18 : decode cX3_number 18 = .ok (.imul, 1) := by decide +kernel
theorem dX3_number_19 : decode cX3_number 19 = .ok (.aload_n 0, 1) := by decide +kernel
theorem dX3_number_20 : decode cX3_number 20 = .ok (.getfield 9, 3) := by decide +kernel
theorem dX3_number_23 : decode cX3_number 23 = .ok (.iload_n 2, 1) := by decide +kernel
theorem dX3_number_24 : decode cX3_number 24 = .ok (.invokevirtual 37, 3) := by decide +kernel
theorem dX3_number_27 : decode cX3_number 27 = .ok (.iadd, 1) := by decide +kernel
theorem dX3_number_28 : decode cX3_number 28 = .ok (.bipush 48, 2) := by decide +kernel
theorem dX3_number_30 : decode cX3_number 30 = .ok (.isub, 1) := by decide +kernel
theorem dX3_number_31 : decode cX3_number 31 = .ok (.istore_n 1, 1) := by decide +kernel
theorem dX3_number_32 : decode cX3_number 32 = .ok (.iinc 2 1, 3) := by decide +kernel
theorem dX3_number_35 : decode cX3_number 35 = .ok (.goto (-28), 3) := by decide +kernel
theorem dX3_number_38 : decode cX3_number 38 = .ok (.iload_n 1, 1) := by decide +kernel
theorem dX3_number_39 : decode cX3_number 39 = .ok (.ireturn, 1) := by decide +kernel
set_option maxRecDepth 20000 in
theorem ggX3_verbHere_X3_isWord : GoodIn wsX3_verbHere wsX3_isWord := goodIn_r _ [5, 6, 7, 8, 9, 10, 11, 12, 13, 14, 15, 16, 17, 18, 19, 20, 21, 22, 23, 24, 25, 26, 27, 28, 29, 30, 31, 32, 33, 34, 35, 36, 37, 38, 39, 40, 41, 42, 43, 44, 45, 46, 47, 48, 49, 50, 51, 52, 53, 54, 55, 56, 57, 58, 59, 60, 61, 62, 63, 64, 65, 66, 67, 68, 69, 70, 71] (by decide +kernel) (by decide +kernel)
set_option maxRecDepth 20000 in
theorem gX3_verbHere_X3_isWord : GoodIn wsX3_verbHere (wsV RX3 82 RX3 yX3_isWord wsX3_isWord) := goodIn_app (goodIn_of _ (by decide +kernel)) ggX3_verbHere_X3_isWord
theorem dX3_verbHere_0 : decode cX3_verbHere 0 = .ok (.aload_n 0, 1) := by decide +kernel
theorem dX3_verbHere_1 : decode cX3_verbHere 1 = .ok (.ldc 80, 2) := by decide +kernel
theorem dX3_verbHere_3 : decode cX3_verbHere 3 = .ok (.invokevirtual 82, 3) := by decide +kernel
theorem dX3_verbHere_6 : decode cX3_verbHere 6 = .ok (.ifCond .eq 5, 3) := by decide +kernel
theorem dX3_verbHere_9 : decode cX3_verbHere 9 = .ok (.iconst 0, 1) := by decide +kernel
theorem dX3_verbHere_10 : decode cX3_verbHere 10 = .ok (.ireturn, 1) := by decide +kernel
theorem dX3_verbHere_11 : decode cX3_verbHere 11 = .ok (.aload_n 0, 1) := by decide +kernel
theorem dX3_verbHere_12 : decode cX3_verbHere 12 = .ok (.ldc 86, 2) := by decide +kernel
theorem dX3_verbHere_14 : decode cX3_verbHere 14 = .ok (.invokevirtual 82, 3) := by decide +kernel
theorem dX3_verbHere_17 : decode cX3_verbHere 17 = .ok (.ifCond .eq 5, 3) := by decide +kernel
theorem dX3_verbHere_20 : decode cX3_verbHere 20 = .ok (.iconst 1, 1) := by decide +kernel
theorem dX3_verbHere_21 : decode cX3_verbHere 21 = .ok (.ireturn, 1) := by decide +kernel
theorem dX3_verbHere_22 : decode cX3_verbHere 22 = .ok (.aload_n 0, 1) := by decide +kernel
theorem dX3_verbHere_23 : decode cX3_verbHere 23 = .ok (.ldc 88, 2) := by decide +kernel
theorem dX3_verbHere_25 : decode cX3_verbHere 25 = .ok (.invokevirtual 82, 3) := by decide +kernel
theorem dX3_verbHere_28 : decode cX3_verbHere 28 = .ok (.ifCond .eq 5, 3) := by decide +kernel
theorem dX3_verbHere_31 : decode cX3_verbHere 31 = .ok (.iconst 2, 1) := by decide +kernel
theorem dX3_verbHere_32 : decode cX3_verbHere 32 = .ok (.ireturn, 1) := by decide +kernel
theorem dX3_verbHere_33 : decode cX3_verbHere 33 = .ok (.aload_n 0, 1) := by decide +kernel
theorem dX3_verbHere_34 : decode cX3_verbHere 34 = .ok (.ldc 90, 2) := by decide +kernel
theorem dX3_verbHere_36 : decode cX3_verbHere 36 = .ok (.invokevirtual 82, 3) := by decide +kernel
theorem dX3_verbHere_39 : decode cX3_verbHere 39 = .ok (.ifCond .eq 5, 3) := by decide +kernel
theorem dX3_verbHere_42 : decode cX3_verbHere 42 = .ok (.iconst 3, 1) := by decide +kernel
theorem dX3_verbHere_43 : decode cX3_verbHere 43 = .ok (.ireturn, 1) := by decide +kernel
theorem dX3_verbHere_44 : decode cX3_verbHere 44 = .ok (.aload_n 0, 1) := by decide +kernel
theorem dX3_verbHere_45 : decode cX3_verbHere 45 = .ok (.ldc 92, 2) := by decide +kernel
theorem dX3_verbHere_47 : decode cX3_verbHere 47 = .ok (.invokevirtual 82, 3) := by decide +kernel
theorem dX3_verbHere_50 : decode cX3_verbHere 50 = .ok (.ifCond .eq 5, 3) := by decide +kernel
theorem dX3_verbHere_53 : decode cX3_verbHere 53 = .ok (.iconst 4, 1) := by decide +kernel
theorem dX3_verbHere_54 : decode cX3_verbHere 54 = .ok (.ireturn, 1) := by decide +kernel
theorem dX3_verbHere_55 : decode cX3_verbHere 55 = .ok (.aload_n 0, 1) := by decide +kernel
theorem dX3_verbHere_56 : decode cX3_verbHere 56 = .ok (.ldc 94, 2) := by decide +kernel
theorem dX3_verbHere_58 : decode cX3_verbHere 58 = .ok (.invokevirtual 82, 3) := by decide +kernel
theorem dX3_verbHere_61 : decode cX3_verbHere 61 = .ok (.ifCond .eq 5, 3) := by decide +kernel
theorem dX3_verbHere_64 : decode cX3_verbHere 64 = .ok (.iconst 5, 1) := by decide +kernel
theorem dX3_verbHere_65 : decode cX3_verbHere 65 = .ok (.ireturn, 1) := by decide +kernel
theorem dX3_verbHere_66 : decode cX3_verbHere 66 = .ok (.aload_n 0, 1) := by decide +kernel
theorem dX3_verbHere_67 : decode cX3_verbHere 67 = .ok (.ldc 96, 2) := by decide +kernel
theorem dX3_verbHere_69 : decode cX3_verbHere 69 = .ok (.invokevirtual 82, 3) := by decide +kernel
theorem dX3_verbHere_72 : decode cX3_verbHere 72 = .ok (.ifCond .eq 6, 3) := by decide +kernel
theorem dX3_verbHere_75 : decode cX3_verbHere 75 = .ok (.bipush 6, 2) := by decide +kernel
theorem dX3_verbHere_77 : decode cX3_verbHere 77 = .ok (.ireturn, 1) := by decide +kernel
theorem dX3_verbHere_78 : decode cX3_verbHere 78 = .ok (.aload_n 0, 1) := by decide +kernel
theorem dX3_verbHere_79 : decode cX3_verbHere 79 = .ok (.ldc 98, 2) := by decide +kernel
theorem dX3_verbHere_81 : decode cX3_verbHere 81 = .ok (.invokevirtual 82, 3) := by decide +kernel
theorem dX3_verbHere_84 : decode cX3_verbHere 84 = .ok (.ifCond .eq 6, 3) := by decide +kernel
theorem dX3_verbHere_87 : decode cX3_verbHere 87 = .ok (.bipush 7, 2) := by decide +kernel
theorem dX3_verbHere_89 : decode cX3_verbHere 89 = .ok (.ireturn, 1) := by decide +kernel
theorem dX3_verbHere_90 : decode cX3_verbHere 90 = .ok (.aload_n 0, 1) := by decide +kernel
theorem dX3_verbHere_91 : decode cX3_verbHere 91 = .ok (.ldc 100, 2) := by decide +kernel
theorem dX3_verbHere_93 : decode cX3_verbHere 93 = .ok (.invokevirtual 82, 3) := by decide +kernel
theorem dX3_verbHere_96 : decode cX3_verbHere 96 = .ok (.ifCond .eq 8, 3) := by decide +kernel
theorem dX3_verbHere_99 : decode cX3_verbHere 99 = .ok (.bipush 8, 2) := by decide +kernel
theorem dX3_verbHere_101 : decode cX3_verbHere 101 = .ok (.goto 4, 3) := by decide +kernel
theorem dX3_verbHere_104 : decode cX3_verbHere 104 = .ok (.iconst (-1), 1) := by decide +kernel
theorem dX3_verbHere_105 : decode cX3_verbHere 105 = .ok (.ireturn, 1) := by decide +kernel
set_option maxRecDepth 20000 in
theorem ggX3_isWord_J0_length_8abf5 : GoodIn wsX3_isWord wsJ0_length_8abf5 := goodIn_r _ [9, 10, 11, 12, 13, 8, 14, 15, 16] (by decide +kernel) (by decide +kernel)
set_option maxRecDepth 20000 in
theorem gX3_isWord_J0_length_8abf5 : GoodIn wsX3_isWord (wsV RX3 102 RJ0 yJ0_length_8abf5 wsJ0_length_8abf5) := goodIn_app (goodIn_of _ (by decide +kernel)) ggX3_isWord_J0_length_8abf5
set_option maxRecDepth 20000 in
theorem ggX3_isWord_X6_at : GoodIn wsX3_isWord wsX6_at := goodIn_r _ [21, 22, 23, 65, 66] (by decide +kernel) (by decide +kernel)
set_option maxRecDepth 20000 in
theorem gX3_isWord_X6_at : GoodIn wsX3_isWord (wsV RX3 37 RX6 yX6_at wsX6_at) := goodIn_app (goodIn_of _ (by decide +kernel)) ggX3_isWord_X6_at
set_option maxRecDepth 20000 in
theorem ggX3_isWord_J0_charAt_5068e : GoodIn wsX3_isWord wsJ0_charAt_5068e := goodIn_r _ [27, 10, 28, 29, 30, 8, 31, 15, 16, 32, 33, 34, 35, 36, 37, 38, 39, 40, 41, 42, 43, 44, 45, 46, 47, 48, 49, 50, 51, 52, 53, 54, 55, 56, 57, 58, 59, 60] (by decide +kernel) (by decide +kernel)
set_option maxRecDepth 20000 in
theorem gX3_isWord_J0_charAt_5068e : GoodIn wsX3_isWord (wsV RX3 106 RJ0 yJ0_charAt_5068e wsJ0_charAt_5068e) := goodIn_app (goodIn_of _ (by decide +kernel)) ggX3_isWord_J0_charAt_5068e
theorem dX3_isWord_0 : decode cX3_isWord 0 = .ok (.aload_n 0, 1) := by decide +kernel
theorem dX3_isWord_1 : decode cX3_isWord 1 = .ok (.getfield 22, 3) := by decide +kernel
theorem dX3_isWord_4 : decode cX3_isWord 4 = .ok (.iconst 1, 1) := by decide +kernel
theorem dX3_isWord_5 : decode cX3_isWord 5 = .ok (.if_icmp .ne 19, 3) := by decide +kernel
theorem dX3_isWord_8 : decode cX3_isWord 8 = .ok (.aload_n 0, 1) := by decide +kernel
theorem dX3_isWord_9 : decode cX3_isWord 9 = .ok (.getfield 19, 3) := by decide +kernel
theorem dX3_isWord_12 : decode cX3_isWord 12 = .ok (.aload_n 0, 1) := by decide +kernel
theorem dX3_isWord_13 : decode cX3_isWord 13 = .ok (.getfield 15, 3) := by decide +kernel
theorem dX3_isWord_16 : decode cX3_isWord 16 = .ok (.isub, 1) := by decide +kernel
theorem dX3_isWord_17 : decode cX3_isWord 17 = .ok (.aload_n 1, 1) := by decide +kernel
theorem dX3_isWord_18 : decode cX3_isWord 18 = .ok (.invokevirtual 102, 3) := by decide +kernel
theorem dX3_isWord_21 : decode cX3_isWord 21 = .ok (.if_icmp .eq 5, 3) := by decide +kernel
theorem dX3_isWord_24 : decode cX3_isWord 24 = .ok (.iconst 0, 1) := by decide +kernel
theorem dX3_isWord_25 : decode cX3_isWord 25 = .ok (.ireturn, 1) := by decide +kernel
theorem dX3_isWord_26 : decode cX3_isWord 26 = .ok (.iconst 0, 1) := by decide +kernel
theorem dX3_isWord_27 : decode cX3_isWord 27 = .ok (.istore_n 2, 1) := by decide +kernel
theorem dX3_isWord_28 : decode cX3_isWord 28 = .ok (.iload_n 2, 1) := by decide +kernel
theorem dX3_isWord_29 : decode cX3_isWord 29 = .ok (.aload_n 1, 1) := by decide +kernel
theorem dX3_isWord_30 : decode cX3_isWord 30 = .ok (.invokevirtual 102, 3) := by decide +kernel
theorem dX3_isWord_33 : decode cX3_isWord 33 = .ok (.if_icmp .ge 32, 3) := by decide +kernel
theorem dX3_isWord_36 : decode cX3_isWord 36 = .ok (.aload_n 0, 1) := by decide +kernel
theorem dX3_isWord_37 : decode cX3_isWord 37 = .ok (.getfield 9, 3) := by decide +kernel
theorem dX3_isWord_40 : decode cX3_isWord 40 = .ok (.aload_n 0, 1) := by decide +kernel
theorem dX3_isWord_41 : decode cX3_isWord 41 = .ok (.getfield 15, 3) := by decide +kernel
theorem dX3_isWord_44 : decode cX3_isWord 44 = .ok (.iload_n 2, 1) := by decide +kernel
theorem dX3_isWord_45 : decode cX3_isWord 45 = .ok (.iadd, 1) := by decide +kernel
theorem dX3_isWord_46 : decode cX3_isWord 46 = .ok (.invokevirtual 37, 3) := by decide +kernel
theorem dX3_isWord_49 : decode cX3_isWord 49 = .ok (.aload_n 1, 1) := by decide +kernel
theorem dX3_isWord_50 : decode cX3_isWord 50 = .ok (.iload_n 2, 1) := by decide +kernel
theorem dX3_isWord_51 : decode cX3_isWord 51 = .ok (.invokevirtual 106, 3) := by decide +kernel
theorem dX3_isWord_54 : decode cX3_isWord 54 = .ok (.if_icmp .eq 5, 3) := by decide +kernel
theorem dX3_isWord_57 : decode cX3_isWord 57 = .ok (.iconst 0, 1) := by decide +kernel
theorem dX3_isWord_58 : decode cX3_isWord 58 = .ok (.ireturn, 1) := by decide +kernel
theorem dX3_isWord_59 : decode cX3_isWord 59 = .ok (.iinc 2 1, 3) := by decide +kernel
theorem dX3_isWord_62 : decode cX3_isWord 62 = .ok (.goto (-34), 3) := by decide +kernel
theorem dX3_isWord_65 : decode cX3_isWord 65 = .ok (.iconst 1, 1) := by decide +kernel
theorem dX3_isWord_66 : decode cX3_isWord 66 = .ok (.ireturn, 1) := by decide +kernel
set_option maxRecDepth 20000 in
theorem ggX4_init_J6_bitCount_0f7a4 : GoodIn wsX4_init wsJ6_bitCount_0f7a4 := goodIn_r _ [9, 10, 11, 12] (by decide +kernel) (by decide +kernel)
set_option maxRecDepth 20000 in
theorem gX4_init_J6_bitCount_0f7a4 : GoodIn wsX4_init (va_wsS RX4 15 yJ6_bitCount_0f7a4 wsJ6_bitCount_0f7a4) := goodIn_app (goodIn_of _ (by decide +kernel)) ggX4_init_J6_bitCount_0f7a4
theorem dX4_init_0 : decode cX4_init 0 = .ok (.aload_n 0, 1) := by decide +kernel
theorem dX4_init_1 : decode cX4_init 1 = .ok (.invokespecial 3, 3) := by decide +kernel
theorem dX4_init_4 : decode cX4_init 4 = .ok (.aload_n 0, 1) := by decide +kernel
theorem dX4_init_5 : decode cX4_init 5 = .ok (.bipush 16, 2) := by decide +kernel
theorem dX4_init_7 : decode cX4_init 7 = .ok (.newarray .int, 2) := by decide +kernel
theorem dX4_init_9 : decode cX4_init 9 = .ok (.putfield 11, 3) := by decide +kernel
theorem dX4_init_12 : decode cX4_init 12 = .ok (.iconst 0, 1) := by decide +kernel
theorem dX4_init_13 : decode cX4_init 13 = .ok (.istore_n 1, 1) := by decide +kernel
theorem dX4_init_14 : decode cX4_init 14 = .ok (.iload_n 1, 1) := by decide +kernel
theorem dX4_init_15 : decode cX4_init 15 = .ok (.bipush 16, 2) := by decide +kernel
theorem dX4_init_17 : decode cX4_init 17 = .ok (.if_icmp .ge 42, 3) := by decide +kernel
theorem dX4_init_20 : decode cX4_init 20 = .ok (.iconst 0, 1) := by decide +kernel
theorem dX4_init_21 : decode cX4_init 21 = .ok (.istore_n 2, 1) := by decide +kernel
theorem dX4_init_22 : decode cX4_init 22 = .ok (.iload_n 2, 1) := by decide +kernel
theorem dX4_init_23 : decode cX4_init 23 = .ok (.bipush 16, 2) := by decide +kernel
theorem dX4_init_25 : decode cX4_init 25 = .ok (.if_icmp .ge 28, 3) := by decide +kernel
theorem dX4_init_28 : decode cX4_init 28 = .ok (.aload_n 0, 1) := by decide +kernel
theorem dX4_init_29 : decode cX4_init 29 = .ok (.getfield 11, 3) := by decide +kernel
theorem dX4_init_32 : decode cX4_init 32 = .ok (.iload_n 1, 1) := by decide +kernel
theorem dX4_init_33 : decode cX4_init 33 = .ok (.dup2, 1) := by decide +kernel
theorem dX4_init_34 : decode cX4_init 34 = .ok (.iaload, 1) := by decide +kernel
theorem dX4_init_35 : decode cX4_init 35 = .ok (.iload_n 1, 1) := by decide +kernel
theorem dX4_init_36 : decode cX4_init 36 = .ok (.iload_n 2, 1) := by decide +kernel
theorem dX4_init_37 : decode cX4_init 37 = .ok (.iand, 1) := by decide +kernel
theorem dX4_init_38 : decode cX4_init 38 = .ok (.invokestatic 15, 3) := by decide +kernel
theorem dX4_init_41 : decode cX4_init 41 = .ok (.iconst 1, 1) := by decide +kernel
theorem dX4_init_42 : decode cX4_init 42 = .ok (.iand, 1) := by decide +kernel
theorem dX4_init_43 : decode cX4_init 43 = .ok (.iload_n 2, 1) := by decide +kernel
theorem dX4_init_44 : decode cX4_init 44 = .ok (.ishl, 1) := by decide +kernel
theorem dX4_init_45 : decode cX4_init 45 = .ok (.ior, 1) := by decide +kernel
theorem dX4_init_46 : decode cX4_init 46 = .ok (.iastore, 1) := by decide +kernel
theorem dX4_init_47 : decode cX4_init 47 = .ok (.iinc 2 1, 3) := by decide +kernel
theorem dX4_init_50 : decode cX4_init 50 = .ok (.goto (-28), 3) := by decide +kernel
theorem dX4_init_53 : decode cX4_init 53 = .ok (.iinc 1 1, 3) := by decide +kernel
theorem dX4_init_56 : decode cX4_init 56 = .ok (.goto (-42), 3) := by decide +kernel
theorem dX4_init_59 : decode cX4_init 59 = .ok (.return_, 1) := by decide +kernel
theorem dX4_isSet_0 : decode cX4_isSet 0 = .ok (.iload_n 0, 1) := by decide +kernel
theorem dX4_isSet_1 : decode cX4_isSet 1 = .ok (.iconst 1, 1) := by decide +kernel
theorem dX4_isSet_2 : decode cX4_isSet 2 = .ok (.if_icmp .lt 13, 3) := by decide +kernel
theorem dX4_isSet_5 : decode cX4_isSet 5 = .ok (.iload_n 0, 1) := by decide +kernel
theorem dX4_isSet_6 : decode cX4_isSet 6 = .ok (.ldc 21, 2) := by decide +kernel
theorem dX4_isSet_8 : decode cX4_isSet 8 = .ok (.if_icmp .ge 7, 3) := by decide +kernel
theorem dX4_isSet_11 : decode cX4_isSet 11 = .ok (.iconst 1, 1) := by decide +kernel
theorem dX4_isSet_12 : decode cX4_isSet 12 = .ok (.goto 4, 3) := by decide +kernel
theorem dX4_isSet_15 : decode cX4_isSet 15 = .ok (.iconst 0, 1) := by decide +kernel
theorem dX4_isSet_16 : decode cX4_isSet 16 = .ok (.ireturn, 1) := by decide +kernel
set_option maxRecDepth 20000 in
theorem ggX4_oddPairs_J6_bitCount_0f7a4 : GoodIn wsX4_oddPairs wsJ6_bitCount_0f7a4 := goodIn_r _ [5, 6, 7, 8] (by decide +kernel) (by decide +kernel)
set_option maxRecDepth 20000 in
theorem gX4_oddPairs_J6_bitCount_0f7a4 : GoodIn wsX4_oddPairs (va_wsS RX4 15 yJ6_bitCount_0f7a4 wsJ6_bitCount_0f7a4) := goodIn_app (goodIn_of _ (by decide +kernel)) ggX4_oddPairs_J6_bitCount_0f7a4
theorem dX4_oddPairs_0 : decode cX4_oddPairs 0 = .ok (.iconst 0, 1) := by decide +kernel
theorem dX4_oddPairs_1 : decode cX4_oddPairs 1 = .ok (.istore_n 3, 1) := by decide +kernel
theorem dX4_oddPairs_2 : decode cX4_oddPairs 2 = .ok (.iconst 0, 1) := by decide +kernel
theorem dX4_oddPairs_3 : decode cX4_oddPairs 3 = .ok (.istore 4, 2) := by decide +kernel
theorem dX4_oddPairs_5 : decode cX4_oddPairs 5 = .ok (.iload 4, 2) := by decide +kernel
theorem dX4_oddPairs_7 : decode cX4_oddPairs 7 = .ok (.bipush 16, 2) := by decide +kernel
theorem dX4_oddPairs_9 : decode cX4_oddPairs 9 = .ok (.if_icmp .ge 34, 3) := by decide +kernel
theorem dX4_oddPairs_12 : decode cX4_oddPairs 12 = .ok (.iload_n 1, 1) := by decide +kernel
theorem dX4_oddPairs_13 : decode cX4_oddPairs 13 = .ok (.iload 4, 2) := by decide +kernel
theorem dX4_oddPairs_15 : decode cX4_oddPairs 15 = .ok (.ishr, 1) := by decide +kernel
theorem dX4_oddPairs_16 : decode cX4_oddPairs 16 = .ok (.iconst 1, 1) := by decide +kernel
theorem dX4_oddPairs_17 : decode cX4_oddPairs 17 = .ok (.iand, 1) := by decide +kernel
theorem dX4_oddPairs_18 : decode cX4_oddPairs 18 = .ok (.iconst 1, 1) := by decide +kernel
theorem dX4_oddPairs_19 : decode cX4_oddPairs 19 = .ok (.if_icmp .ne 18, 3) := by decide +kernel
theorem dX4_oddPairs_22 : decode cX4_oddPairs 22 = .ok (.iload_n 3, 1) := by decide +kernel
theorem dX4_oddPairs_23 : decode cX4_oddPairs 23 = .ok (.iload_n 2, 1) := by decide +kernel
theorem dX4_oddPairs_24 : decode cX4_oddPairs 24 = .ok (.aload_n 0, 1) := by decide +kernel
theorem dX4_oddPairs_25 : decode cX4_oddPairs 25 = .ok (.getfield 11, 3) := by decide +kernel
theorem dX4_oddPairs_28 : decode cX4_oddPairs 28 = .ok (.iload 4, 2) := by decide +kernel
theorem dX4_oddPairs_30 : decode cX4_oddPairs 30 = .ok (.iaload, 1) := by decide +kernel
theorem dX4_oddPairs_31 : decode cX4_oddPairs 31 = .ok (.iand, 1) := by decide +kernel
theorem dX4_oddPairs_32 : decode cX4_oddPairs 32 = .ok (.invokestatic 15, 3) := by decide +kernel
theorem dX4_oddPairs_35 : decode cX4_oddPairs 35 = .ok (.iadd, 1) := by decide +kernel
theorem dX4_oddPairs_36 : decode cX4_oddPairs 36 = .ok (.istore_n 3, 1) := by decide +kernel
theorem dX4_oddPairs_37 : decode cX4_oddPairs 37 = .ok (.iinc 4 1, 3) := by decide +kernel
theorem dX4_oddPairs_40 : decode cX4_oddPairs 40 = .ok (.goto (-35), 3) := by decide +kernel
theorem dX4_oddPairs_43 : decode cX4_oddPairs 43 = .ok (.iload_n 3, 1) := by decide +kernel
theorem dX4_oddPairs_44 : decode cX4_oddPairs 44 = .ok (.ireturn, 1) := by decide +kernel
set_option maxRecDepth 20000 in
theorem ggX4_leastHeap_X4_leanAllowed : GoodIn wsX4_leastHeap wsX4_leanAllowed := goodIn_r _ [4] (by decide +kernel) (by decide +kernel)
set_option maxRecDepth 20000 in
theorem gX4_leastHeap_X4_leanAllowed : GoodIn wsX4_leastHeap (va_wsS RX4 22 yX4_leanAllowed wsX4_leanAllowed) := goodIn_app (goodIn_of _ (by decide +kernel)) ggX4_leastHeap_X4_leanAllowed
set_option maxRecDepth 20000 in
theorem ggX4_leastHeap_X4_mayLeanSoLittle : GoodIn wsX4_leastHeap wsX4_mayLeanSoLittle := goodIn_r _ [7, 8, 9, 10, 11, 12, 13, 14, 15, 16, 17, 18] (by decide +kernel) (by decide +kernel)
set_option maxRecDepth 20000 in
theorem gX4_leastHeap_X4_mayLeanSoLittle : GoodIn wsX4_leastHeap (va_wsS RX4 26 yX4_mayLeanSoLittle wsX4_mayLeanSoLittle) := goodIn_app (goodIn_of _ (by decide +kernel)) ggX4_leastHeap_X4_mayLeanSoLittle
set_option maxRecDepth 20000 in
theorem ggX4_leastHeap_X4_leastOfSize : GoodIn wsX4_leastHeap wsX4_leastOfSize := goodIn_r _ [22, 23, 24, 25, 3, 26, 27, 28, 29, 10, 30, 12, 13, 14, 15, 16, 17, 18, 31, 32, 33, 34] (by decide +kernel) (by decide +kernel)
set_option maxRecDepth 20000 in
theorem gX4_leastHeap_X4_leastOfSize : GoodIn wsX4_leastHeap (wsV RX4 30 RX4 yX4_leastOfSize wsX4_leastOfSize) := goodIn_app (goodIn_of _ (by decide +kernel)) ggX4_leastHeap_X4_leastOfSize
theorem dX4_leastHeap_0 : decode cX4_leastHeap 0 = .ok (.iconst 1, 1) := by decide +kernel
theorem dX4_leastHeap_1 : decode cX4_leastHeap 1 = .ok (.iload_n 1, 1) := by decide +kernel
theorem dX4_leastHeap_2 : decode cX4_leastHeap 2 = .ok (.ishl, 1) := by decide +kernel
theorem dX4_leastHeap_3 : decode cX4_leastHeap 3 = .ok (.istore 5, 2) := by decide +kernel
theorem dX4_leastHeap_5 : decode cX4_leastHeap 5 = .ok (.iconst 1, 1) := by decide +kernel
theorem dX4_leastHeap_6 : decode cX4_leastHeap 6 = .ok (.istore 6, 2) := by decide +kernel
theorem dX4_leastHeap_8 : decode cX4_leastHeap 8 = .ok (.iload 6, 2) := by decide +kernel
theorem dX4_leastHeap_10 : decode cX4_leastHeap 10 = .ok (.iload 5, 2) := by decide +kernel
theorem dX4_leastHeap_12 : decode cX4_leastHeap 12 = .ok (.if_icmp .ge 56, 3) := by decide +kernel
theorem dX4_leastHeap_15 : decode cX4_leastHeap 15 = .ok (.iload 6, 2) := by decide +kernel
theorem dX4_leastHeap_17 : decode cX4_leastHeap 17 = .ok (.iload_n 3, 1) := by decide +kernel
theorem dX4_leastHeap_18 : decode cX4_leastHeap 18 = .ok (.iload 4, 2) := by decide +kernel
theorem dX4_leastHeap_20 : decode cX4_leastHeap 20 = .ok (.invokestatic 22, 3) := by decide +kernel
theorem dX4_leastHeap_23 : decode cX4_leastHeap 23 = .ok (.istore 7, 2) := by decide +kernel
theorem dX4_leastHeap_25 : decode cX4_leastHeap 25 = .ok (.iload_n 1, 1) := by decide +kernel
theorem dX4_leastHeap_26 : decode cX4_leastHeap 26 = .ok (.iload_n 2, 1) := by decide +kernel
theorem dX4_leastHeap_27 : decode cX4_leastHeap 27 = .ok (.iload 6, 2) := by decide +kernel
theorem dX4_leastHeap_29 : decode cX4_leastHeap 29 = .ok (.iload 7, 2) := by decide +kernel
theorem dX4_leastHeap_31 : decode cX4_leastHeap 31 = .ok (.invokestatic 26, 3) := by decide +kernel
theorem dX4_leastHeap_34 : decode cX4_leastHeap 34 = .ok (.ifCond .eq 16, 3) := by decide +kernel
theorem dX4_leastHeap_37 : decode cX4_leastHeap 37 = .ok (.aload_n 0, 1) := by decide +kernel
theorem dX4_leastHeap_38 : decode cX4_leastHeap 38 = .ok (.iload_n 1, 1) := by decide +kernel
theorem dX4_leastHeap_39 : decode cX4_leastHeap 39 = .ok (.iload_n 2, 1) := by decide +kernel
theorem dX4_leastHeap_40 : decode cX4_leastHeap 40 = .ok (.iload 6, 2) := by decide +kernel
theorem dX4_leastHeap_42 : decode cX4_leastHeap 42 = .ok (.iload 7, 2) := by decide +kernel
theorem dX4_leastHeap_44 : decode cX4_leastHeap 44 = .ok (.invokevirtual 30, 3) := by decide +kernel
theorem dX4_leastHeap_47 : decode cX4_leastHeap 47 = .ok (.goto 4, 3) := by decide +kernel
theorem dX4_leastHeap_50 : decode cX4_leastHeap 50 = .ok (.iconst (-1), 1) := by decide +kernel
theorem dX4_leastHeap_51 : decode cX4_leastHeap 51 = .ok (.istore 8, 2) := by decide +kernel
theorem dX4_leastHeap_53 : decode cX4_leastHeap 53 = .ok (.iload 8, 2) := by decide +kernel
theorem dX4_leastHeap_55 : decode cX4_leastHeap 55 = .ok (.iconst (-1), 1) := by decide +kernel
theorem dX4_leastHeap_56 : decode cX4_leastHeap 56 = .ok (.if_icmp .eq 6, 3) := by decide +kernel
theorem dX4_leastHeap_59 : decode cX4_leastHeap 59 = .ok (.iload 8, 2) := by decide +kernel
theorem dX4_leastHeap_61 : decode cX4_leastHeap 61 = .ok (.ireturn, 1) := by decide +kernel
theorem dX4_leastHeap_62 : decode cX4_leastHeap 62 = .ok (.iinc 6 1, 3) := by decide +kernel
theorem dX4_leastHeap_65 : decode cX4_leastHeap 65 = .ok (.goto (-57), 3) := by decide +kernel
theorem dX4_leastHeap_68 : decode cX4_leastHeap 68 = .ok (.iconst 1, 1) := by decide +kernel
theorem dX4_leastHeap_69 : decode cX4_leastHeap 69 = .ok (.iload 5, 2) := by decide +kernel
theorem dX4_leastHeap_71 : decode cX4_leastHeap 71 = .ok (.ishl, 1) := by decide +kernel
theorem dX4_leastHeap_72 : decode cX4_leastHeap 72 = .ok (.iconst 1, 1) := by decide +kernel
theorem dX4_leastHeap_73 : decode cX4_leastHeap 73 = .ok (.isub, 1) := by decide +kernel
theorem dX4_leastHeap_74 : decode cX4_leastHeap 74 = .ok (.ireturn, 1) := by decide +kernel
theorem dX4_leanAllowed_0 : decode cX4_leanAllowed 0 = .ok (.iload_n 2, 1) := by decide +kernel
theorem dX4_leanAllowed_1 : decode cX4_leanAllowed 1 = .ok (.iconst 1, 1) := by decide +kernel
theorem dX4_leanAllowed_2 : decode cX4_leanAllowed 2 = .ok (.if_icmp .ge 5, 3) := by decide +kernel
theorem dX4_leanAllowed_5 : decode cX4_leanAllowed 5 = .ok (.iconst (-1), 1) := by decide +kernel
theorem dX4_leanAllowed_6 : decode cX4_leanAllowed 6 = .ok (.ireturn, 1) := by decide +kernel
theorem dX4_leanAllowed_7 : decode cX4_leanAllowed 7 = .ok (.iload_n 1, 1) := by decide +kernel
theorem dX4_leanAllowed_8 : decode cX4_leanAllowed 8 = .ok (.iload_n 0, 1) := by decide +kernel
theorem dX4_leanAllowed_9 : decode cX4_leanAllowed 9 = .ok (.imul, 1) := by decide +kernel
theorem dX4_leanAllowed_10 : decode cX4_leanAllowed 10 = .ok (.iload_n 2, 1) := by decide +kernel
theorem dX4_leanAllowed_11 : decode cX4_leanAllowed 11 = .ok (.idiv, 1) := by decide +kernel
theorem dX4_leanAllowed_12 : decode cX4_leanAllowed 12 = .ok (.istore_n 3, 1) := by decide +kernel
theorem dX4_leanAllowed_13 : decode cX4_leanAllowed 13 = .ok (.iload_n 3, 1) := by decide +kernel
theorem dX4_leanAllowed_14 : decode cX4_leanAllowed 14 = .ok (.iload_n 3, 1) := by decide +kernel
theorem dX4_leanAllowed_15 : decode cX4_leanAllowed 15 = .ok (.iload_n 0, 1) := by decide +kernel
theorem dX4_leanAllowed_16 : decode cX4_leanAllowed 16 = .ok (.isub, 1) := by decide +kernel
theorem dX4_leanAllowed_17 : decode cX4_leanAllowed 17 = .ok (.iconst 1, 1) := by decide +kernel
theorem dX4_leanAllowed_18 : decode cX4_leanAllowed 18 = .ok (.iand, 1) := by decide +kernel
theorem dX4_leanAllowed_19 : decode cX4_leanAllowed 19 = .ok (.isub, 1) := by decide +kernel
theorem dX4_leanAllowed_20 : decode cX4_leanAllowed 20 = .ok (.ireturn, 1) := by decide +kernel
set_option maxRecDepth 20000 in
theorem ggX4_mayLeanSoLittle_J6_bitCount_0f7a4 : GoodIn wsX4_mayLeanSoLittle wsJ6_bitCount_0f7a4 := goodIn_r _ [8, 9, 10, 11] (by decide +kernel) (by decide +kernel)
set_option maxRecDepth 20000 in
theorem gX4_mayLeanSoLittle_J6_bitCount_0f7a4 : GoodIn wsX4_mayLeanSoLittle (va_wsS RX4 15 yJ6_bitCount_0f7a4 wsJ6_bitCount_0f7a4) := goodIn_app (goodIn_of _ (by decide +kernel)) ggX4_mayLeanSoLittle_J6_bitCount_0f7a4
theorem dX4_mayLeanSoLittle_0 : decode cX4_mayLeanSoLittle 0 = .ok (.iload_n 3, 1) := by decide +kernel
theorem dX4_mayLeanSoLittle_1 : decode cX4_mayLeanSoLittle 1 = .ok (.ifCond .ge 5, 3) := by decide +kernel
theorem dX4_mayLeanSoLittle_4 : decode cX4_mayLeanSoLittle 4 = .ok (.iconst 0, 1) := by decide +kernel
theorem dX4_mayLeanSoLittle_5 : decode cX4_mayLeanSoLittle 5 = .ok (.ireturn, 1) := by decide +kernel
theorem dX4_mayLeanSoLittle_6 : decode cX4_mayLeanSoLittle 6 = .ok (.iconst 1, 1) := by decide +kernel
theorem dX4_mayLeanSoLittle_7 : decode cX4_mayLeanSoLittle 7 = .ok (.iload_n 0, 1) := by decide +kernel
theorem dX4_mayLeanSoLittle_8 : decode cX4_mayLeanSoLittle 8 = .ok (.ishl, 1) := by decide +kernel
theorem dX4_mayLeanSoLittle_9 : decode cX4_mayLeanSoLittle 9 = .ok (.istore 4, 2) := by decide +kernel
theorem dX4_mayLeanSoLittle_11 : decode cX4_mayLeanSoLittle 11 = .ok (.iload_n 2, 1) := by decide +kernel
theorem dX4_mayLeanSoLittle_12 : decode cX4_mayLeanSoLittle 12 = .ok (.iload 4, 2) := by decide +kernel
theorem dX4_mayLeanSoLittle_14 : decode cX4_mayLeanSoLittle 14 = .ok (.iload_n 2, 1) := by decide +kernel
theorem dX4_mayLeanSoLittle_15 : decode cX4_mayLeanSoLittle 15 = .ok (.isub, 1) := by decide +kernel
theorem dX4_mayLeanSoLittle_16 : decode cX4_mayLeanSoLittle 16 = .ok (.invokestatic 34, 3) := by decide +kernel
theorem dX4_mayLeanSoLittle_19 : decode cX4_mayLeanSoLittle 19 = .ok (.istore 5, 2) := by decide +kernel
theorem dX4_mayLeanSoLittle_21 : decode cX4_mayLeanSoLittle 21 = .ok (.iconst 0, 1) := by decide +kernel
theorem dX4_mayLeanSoLittle_22 : decode cX4_mayLeanSoLittle 22 = .ok (.istore 6, 2) := by decide +kernel
theorem dX4_mayLeanSoLittle_24 : decode cX4_mayLeanSoLittle 24 = .ok (.iconst 1, 1) := by decide +kernel
theorem dX4_mayLeanSoLittle_25 : decode cX4_mayLeanSoLittle 25 = .ok (.istore 7, 2) := by decide +kernel
theorem dX4_mayLeanSoLittle_27 : decode cX4_mayLeanSoLittle 27 = .ok (.iload 7, 2) := by decide +kernel
theorem dX4_mayLeanSoLittle_29 : decode cX4_mayLeanSoLittle 29 = .ok (.iload 4, 2) := by decide +kernel
theorem dX4_mayLeanSoLittle_31 : decode cX4_mayLeanSoLittle 31 = .ok (.if_icmp .ge 41, 3) := by decide +kernel
theorem dX4_mayLeanSoLittle_34 : decode cX4_mayLeanSoLittle 34 = .ok (.iload 7, 2) := by decide +kernel
theorem dX4_mayLeanSoLittle_36 : decode cX4_mayLeanSoLittle 36 = .ok (.invokestatic 15, 3) := by decide +kernel
theorem dX4_mayLeanSoLittle_39 : decode cX4_mayLeanSoLittle 39 = .ok (.iload_n 1, 1) := by decide +kernel
theorem dX4_mayLeanSoLittle_40 : decode cX4_mayLeanSoLittle 40 = .ok (.if_icmp .gt 12, 3) := by decide +kernel
theorem dX4_mayLeanSoLittle_43 : decode cX4_mayLeanSoLittle 43 = .ok (.iload_n 3, 1) := by decide +kernel
theorem dX4_mayLeanSoLittle_44 : decode cX4_mayLeanSoLittle 44 = .ok (.iload 5, 2) := by decide +kernel
theorem dX4_mayLeanSoLittle_46 : decode cX4_mayLeanSoLittle 46 = .ok (.invokestatic 34, 3) := by decide +kernel
theorem dX4_mayLeanSoLittle_49 : decode cX4_mayLeanSoLittle 49 = .ok (.goto 5, 3) := by decide +kernel
theorem dX4_mayLeanSoLittle_52 : decode cX4_mayLeanSoLittle 52 = .ok (.iload 5, 2) := by decide +kernel
theorem dX4_mayLeanSoLittle_54 : decode cX4_mayLeanSoLittle 54 = .ok (.istore 8, 2) := by decide +kernel
theorem dX4_mayLeanSoLittle_56 : decode cX4_mayLeanSoLittle 56 = .ok (.iload 6, 2) := by decide +kernel
theorem dX4_mayLeanSoLittle_58 : decode cX4_mayLeanSoLittle 58 = .ok (.iload 8, 2) := by decide +kernel
theorem dX4_mayLeanSoLittle_60 : decode cX4_mayLeanSoLittle 60 = .ok (.iload 8, 2) := by decide +kernel
theorem dX4_mayLeanSoLittle_62 : decode cX4_mayLeanSoLittle 62 = .ok (.imul, 1) := by decide +kernel
theorem dX4_mayLeanSoLittle_63 : decode cX4_mayLeanSoLittle 63 = .ok (.iadd, 1) := by decide +kernel
theorem dX4_mayLeanSoLittle_64 : decode cX4_mayLeanSoLittle 64 = .ok (.istore 6, 2) := by decide +kernel
theorem dX4_mayLeanSoLittle_66 : decode cX4_mayLeanSoLittle 66 = .ok (.iinc 7 1, 3) := by decide +kernel
theorem dX4_mayLeanSoLittle_69 : decode cX4_mayLeanSoLittle 69 = .ok (.goto (-42), 3) := by decide +kernel
theorem dX4_mayLeanSoLittle_72 : decode cX4_mayLeanSoLittle 72 = .ok (.iload 6, 2) := by decide +kernel
theorem dX4_mayLeanSoLittle_74 : decode cX4_mayLeanSoLittle 74 = .ok (.iload_n 2, 1) := by decide +kernel
theorem dX4_mayLeanSoLittle_75 : decode cX4_mayLeanSoLittle 75 = .ok (.iload 4, 2) := by decide +kernel
theorem dX4_mayLeanSoLittle_77 : decode cX4_mayLeanSoLittle 77 = .ok (.iload_n 2, 1) := by decide +kernel
theorem dX4_mayLeanSoLittle_78 : decode cX4_mayLeanSoLittle 78 = .ok (.isub, 1) := by decide +kernel
theorem dX4_mayLeanSoLittle_79 : decode cX4_mayLeanSoLittle 79 = .ok (.imul, 1) := by decide +kernel
theorem dX4_mayLeanSoLittle_80 : decode cX4_mayLeanSoLittle 80 = .ok (.if_icmp .lt 7, 3) := by decide +kernel
theorem dX4_mayLeanSoLittle_83 : decode cX4_mayLeanSoLittle 83 = .ok (.iconst 1, 1) := by decide +kernel
theorem dX4_mayLeanSoLittle_84 : decode cX4_mayLeanSoLittle 84 = .ok (.goto 4, 3) := by decide +kernel
theorem dX4_mayLeanSoLittle_87 : decode cX4_mayLeanSoLittle 87 = .ok (.iconst 0, 1) := by decide +kernel
theorem dX4_mayLeanSoLittle_88 : decode cX4_mayLeanSoLittle 88 = .ok (.ireturn, 1) := by decide +kernel
set_option maxRecDepth 20000 in
theorem ggX4_leastOfSize_X4_leansSoLittle : GoodIn wsX4_leastOfSize wsX4_leansSoLittle := goodIn_r _ [5, 6, 7, 8, 9, 10, 11, 12, 13, 14, 15, 16, 17, 21] (by decide +kernel) (by decide +kernel)
set_option maxRecDepth 20000 in
theorem gX4_leastOfSize_X4_leansSoLittle : GoodIn wsX4_leastOfSize (wsV RX4 40 RX4 yX4_leansSoLittle wsX4_leansSoLittle) := goodIn_app (goodIn_of _ (by decide +kernel)) ggX4_leastOfSize_X4_leansSoLittle
set_option maxRecDepth 20000 in
theorem ggX4_leastOfSize_X4_nextOfSize : GoodIn wsX4_leastOfSize wsX4_nextOfSize := goodIn_r _ [20] (by decide +kernel) (by decide +kernel)
set_option maxRecDepth 20000 in
theorem gX4_leastOfSize_X4_nextOfSize : GoodIn wsX4_leastOfSize (va_wsS RX4 43 yX4_nextOfSize wsX4_nextOfSize) := goodIn_app (goodIn_of _ (by decide +kernel)) ggX4_leastOfSize_X4_nextOfSize
theorem dX4_leastOfSize_0 : decode cX4_leastOfSize 0 = .ok (.iconst 1, 1) := by decide +kernel
theorem dX4_leastOfSize_1 : decode cX4_leastOfSize 1 = .ok (.iload_n 1, 1) := by decide +kernel
theorem dX4_leastOfSize_2 : decode cX4_leastOfSize 2 = .ok (.ishl, 1) := by decide +kernel
theorem dX4_leastOfSize_3 : decode cX4_leastOfSize 3 = .ok (.istore 5, 2) := by decide +kernel
theorem dX4_leastOfSize_5 : decode cX4_leastOfSize 5 = .ok (.iconst 1, 1) := by decide +kernel
theorem dX4_leastOfSize_6 : decode cX4_leastOfSize 6 = .ok (.iload_n 3, 1) := by decide +kernel
theorem dX4_leastOfSize_7 : decode cX4_leastOfSize 7 = .ok (.ishl, 1) := by decide +kernel
theorem dX4_leastOfSize_8 : decode cX4_leastOfSize 8 = .ok (.iconst 1, 1) := by decide +kernel
theorem dX4_leastOfSize_9 : decode cX4_leastOfSize 9 = .ok (.isub, 1) := by decide +kernel
theorem dX4_leastOfSize_10 : decode cX4_leastOfSize 10 = .ok (.istore 6, 2) := by decide +kernel
theorem dX4_leastOfSize_12 : decode cX4_leastOfSize 12 = .ok (.iconst 0, 1) := by decide +kernel
theorem dX4_leastOfSize_13 : decode cX4_leastOfSize 13 = .ok (.istore 7, 2) := by decide +kernel
theorem dX4_leastOfSize_15 : decode cX4_leastOfSize 15 = .ok (.iload 7, 2) := by decide +kernel
theorem dX4_leastOfSize_17 : decode cX4_leastOfSize 17 = .ok (.sipush 12870, 3) := by decide +kernel
theorem dX4_leastOfSize_20 : decode cX4_leastOfSize 20 = .ok (.if_icmp .ge 42, 3) := by decide +kernel
theorem dX4_leastOfSize_23 : decode cX4_leastOfSize 23 = .ok (.iload 6, 2) := by decide +kernel
theorem dX4_leastOfSize_25 : decode cX4_leastOfSize 25 = .ok (.iconst 1, 1) := by decide +kernel
theorem dX4_leastOfSize_26 : decode cX4_leastOfSize 26 = .ok (.iload 5, 2) := by decide +kernel
theorem dX4_leastOfSize_28 : decode cX4_leastOfSize 28 = .ok (.ishl, 1) := by decide +kernel
theorem dX4_leastOfSize_29 : decode cX4_leastOfSize 29 = .ok (.if_icmp .ge 33, 3) := by decide +kernel
theorem dX4_leastOfSize_32 : decode cX4_leastOfSize 32 = .ok (.aload_n 0, 1) := by decide +kernel
theorem dX4_leastOfSize_33 : decode cX4_leastOfSize 33 = .ok (.iload 6, 2) := by decide +kernel
theorem dX4_leastOfSize_35 : decode cX4_leastOfSize 35 = .ok (.iload 5, 2) := by decide +kernel
theorem dX4_leastOfSize_37 : decode cX4_leastOfSize 37 = .ok (.iload_n 2, 1) := by decide +kernel
theorem dX4_leastOfSize_38 : decode cX4_leastOfSize 38 = .ok (.iload 4, 2) := by decide +kernel
theorem dX4_leastOfSize_40 : decode cX4_leastOfSize 40 = .ok (.invokevirtual 40, 3) := by decide +kernel
theorem dX4_leastOfSize_43 : decode cX4_leastOfSize 43 = .ok (.ifCond .eq 6, 3) := by decide +kernel
theorem dX4_leastOfSize_46 : decode cX4_leastOfSize 46 = .ok (.iload 6, 2) := by decide +kernel
theorem dX4_leastOfSize_48 : decode cX4_leastOfSize 48 = .ok (.ireturn, 1) := by decide +kernel
theorem dX4_leastOfSize_49 : decode cX4_leastOfSize 49 = .ok (.iload 6, 2) := by decide +kernel
theorem dX4_leastOfSize_51 : decode cX4_leastOfSize 51 = .ok (.invokestatic 43, 3) := by decide +kernel
theorem dX4_leastOfSize_54 : decode cX4_leastOfSize 54 = .ok (.istore 6, 2) := by decide +kernel
theorem dX4_leastOfSize_56 : decode cX4_leastOfSize 56 = .ok (.iinc 7 1, 3) := by decide +kernel
theorem dX4_leastOfSize_59 : decode cX4_leastOfSize 59 = .ok (.goto (-44), 3) := by decide +kernel
theorem dX4_leastOfSize_62 : decode cX4_leastOfSize 62 = .ok (.iconst (-1), 1) := by decide +kernel
theorem dX4_leastOfSize_63 : decode cX4_leastOfSize 63 = .ok (.ireturn, 1) := by decide +kernel
set_option maxRecDepth 20000 in
theorem ggX4_leansSoLittle_J6_bitCount_0f7a4 : GoodIn wsX4_leansSoLittle wsJ6_bitCount_0f7a4 := goodIn_r _ [9, 10, 11, 12] (by decide +kernel) (by decide +kernel)
set_option maxRecDepth 20000 in
theorem gX4_leansSoLittle_J6_bitCount_0f7a4 : GoodIn wsX4_leansSoLittle (va_wsS RX4 15 yJ6_bitCount_0f7a4 wsJ6_bitCount_0f7a4) := goodIn_app (goodIn_of _ (by decide +kernel)) ggX4_leansSoLittle_J6_bitCount_0f7a4
theorem dX4_leansSoLittle_0 : decode cX4_leansSoLittle 0 = .ok (.iload_n 1, 1) := by decide +kernel
theorem dX4_leansSoLittle_1 : decode cX4_leansSoLittle 1 = .ok (.invokestatic 15, 3) := by decide +kernel
theorem dX4_leansSoLittle_4 : decode cX4_leansSoLittle 4 = .ok (.istore 5, 2) := by decide +kernel
theorem dX4_leansSoLittle_6 : decode cX4_leansSoLittle 6 = .ok (.iconst 1, 1) := by decide +kernel
theorem dX4_leansSoLittle_7 : decode cX4_leansSoLittle 7 = .ok (.istore 6, 2) := by decide +kernel
theorem dX4_leansSoLittle_9 : decode cX4_leansSoLittle 9 = .ok (.iload 6, 2) := by decide +kernel
theorem dX4_leansSoLittle_11 : decode cX4_leansSoLittle 11 = .ok (.iload_n 2, 1) := by decide +kernel
theorem dX4_leansSoLittle_12 : decode cX4_leansSoLittle 12 = .ok (.if_icmp .ge 45, 3) := by decide +kernel
theorem dX4_leansSoLittle_15 : decode cX4_leansSoLittle 15 = .ok (.iload 6, 2) := by decide +kernel
theorem dX4_leansSoLittle_17 : decode cX4_leansSoLittle 17 = .ok (.invokestatic 15, 3) := by decide +kernel
theorem dX4_leansSoLittle_20 : decode cX4_leansSoLittle 20 = .ok (.iload_n 3, 1) := by decide +kernel
theorem dX4_leansSoLittle_21 : decode cX4_leansSoLittle 21 = .ok (.if_icmp .gt 30, 3) := by decide +kernel
theorem dX4_leansSoLittle_24 : decode cX4_leansSoLittle 24 = .ok (.iload 5, 2) := by decide +kernel
theorem dX4_leansSoLittle_26 : decode cX4_leansSoLittle 26 = .ok (.iconst 2, 1) := by decide +kernel
theorem dX4_leansSoLittle_27 : decode cX4_leansSoLittle 27 = .ok (.iload_n 1, 1) := by decide +kernel
theorem dX4_leansSoLittle_28 : decode cX4_leansSoLittle 28 = .ok (.aload_n 0, 1) := by decide +kernel
theorem dX4_leansSoLittle_29 : decode cX4_leansSoLittle 29 = .ok (.getfield 11, 3) := by decide +kernel
theorem dX4_leansSoLittle_32 : decode cX4_leansSoLittle 32 = .ok (.iload 6, 2) := by decide +kernel
theorem dX4_leansSoLittle_34 : decode cX4_leansSoLittle 34 = .ok (.iaload, 1) := by decide +kernel
theorem dX4_leansSoLittle_35 : decode cX4_leansSoLittle 35 = .ok (.iand, 1) := by decide +kernel
theorem dX4_leansSoLittle_36 : decode cX4_leansSoLittle 36 = .ok (.invokestatic 15, 3) := by decide +kernel
theorem dX4_leansSoLittle_39 : decode cX4_leansSoLittle 39 = .ok (.imul, 1) := by decide +kernel
theorem dX4_leansSoLittle_40 : decode cX4_leansSoLittle 40 = .ok (.isub, 1) := by decide +kernel
theorem dX4_leansSoLittle_41 : decode cX4_leansSoLittle 41 = .ok (.invokestatic 46, 3) := by decide +kernel
theorem dX4_leansSoLittle_44 : decode cX4_leansSoLittle 44 = .ok (.iload 4, 2) := by decide +kernel
theorem dX4_leansSoLittle_46 : decode cX4_leansSoLittle 46 = .ok (.if_icmp .le 5, 3) := by decide +kernel
theorem dX4_leansSoLittle_49 : decode cX4_leansSoLittle 49 = .ok (.iconst 0, 1) := by decide +kernel
theorem dX4_leansSoLittle_50 : decode cX4_leansSoLittle 50 = .ok (.ireturn, 1) := by decide +kernel
theorem dX4_leansSoLittle_51 : decode cX4_leansSoLittle 51 = .ok (.iinc 6 1, 3) := by decide +kernel
theorem dX4_leansSoLittle_54 : decode cX4_leansSoLittle 54 = .ok (.goto (-45), 3) := by decide +kernel
theorem dX4_leansSoLittle_57 : decode cX4_leansSoLittle 57 = .ok (.iconst 1, 1) := by decide +kernel
theorem dX4_leansSoLittle_58 : decode cX4_leansSoLittle 58 = .ok (.ireturn, 1) := by decide +kernel
theorem dX4_nextOfSize_0 : decode cX4_nextOfSize 0 = .ok (.iload_n 0, 1) := by decide +kernel
theorem dX4_nextOfSize_1 : decode cX4_nextOfSize 1 = .ok (.iload_n 0, 1) := by decide +kernel
theorem dX4_nextOfSize_2 : decode cX4_nextOfSize 2 = .ok (.ineg, 1) := by decide +kernel
theorem dX4_nextOfSize_3 : decode cX4_nextOfSize 3 = .ok (.iand, 1) := by decide +kernel
theorem dX4_nextOfSize_4 : decode cX4_nextOfSize 4 = .ok (.istore_n 1, 1) := by decide +kernel
theorem dX4_nextOfSize_5 : decode cX4_nextOfSize 5 = .ok (.iload_n 1, 1) := by decide +kernel
theorem dX4_nextOfSize_6 : decode cX4_nextOfSize 6 = .ok (.ifCond .ne 5, 3) := by decide +kernel
theorem dX4_nextOfSize_9 : decode cX4_nextOfSize 9 = .ok (.iload_n 0, 1) := by decide +kernel
theorem dX4_nextOfSize_10 : decode cX4_nextOfSize 10 = .ok (.ireturn, 1) := by decide +kernel
theorem dX4_nextOfSize_11 : decode cX4_nextOfSize 11 = .ok (.iload_n 0, 1) := by decide +kernel
theorem dX4_nextOfSize_12 : decode cX4_nextOfSize 12 = .ok (.iload_n 1, 1) := by decide +kernel
theorem dX4_nextOfSize_13 : decode cX4_nextOfSize 13 = .ok (.iadd, 1) := by decide +kernel
theorem dX4_nextOfSize_14 : decode cX4_nextOfSize 14 = .ok (.istore_n 2, 1) := by decide +kernel
theorem dX4_nextOfSize_15 : decode cX4_nextOfSize 15 = .ok (.iload_n 2, 1) := by decide +kernel
theorem dX4_nextOfSize_16 : decode cX4_nextOfSize 16 = .ok (.iload_n 2, 1) := by decide +kernel
theorem dX4_nextOfSize_17 : decode cX4_nextOfSize 17 = .ok (.iload_n 0, 1) := by decide +kernel
theorem dX4_nextOfSize_18 : decode cX4_nextOfSize 18 = .ok (.ixor, 1) := by decide +kernel
theorem dX4_nextOfSize_19 : decode cX4_nextOfSize 19 = .ok (.iconst 2, 1) := by decide +kernel
theorem dX4_nextOfSize_20 : decode cX4_nextOfSize 20 = .ok (.iushr, 1) := by decide +kernel
theorem dX4_nextOfSize_21 : decode cX4_nextOfSize 21 = .ok (.iload_n 1, 1) := by decide +kernel
theorem dX4_nextOfSize_22 : decode cX4_nextOfSize 22 = .ok (.idiv, 1) := by decide +kernel
theorem dX4_nextOfSize_23 : decode cX4_nextOfSize 23 = .ok (.ior, 1) := by decide +kernel
theorem dX4_nextOfSize_24 : decode cX4_nextOfSize 24 = .ok (.ireturn, 1) := by decide +kernel
theorem dX5_init_0 : decode cX5_init 0 = .ok (.aload_n 0, 1) := by decide +kernel
theorem dX5_init_1 : decode cX5_init 1 = .ok (.invokespecial 3, 3) := by decide +kernel
theorem dX5_init_4 : decode cX5_init 4 = .ok (.aload_n 0, 1) := by decide +kernel
theorem dX5_init_5 : decode cX5_init 5 = .ok (.bipush 64, 2) := by decide +kernel
theorem dX5_init_7 : decode cX5_init 7 = .ok (.newarray .long, 2) := by decide +kernel
theorem dX5_init_9 : decode cX5_init 9 = .ok (.putfield 11, 3) := by decide +kernel
theorem dX5_init_12 : decode cX5_init 12 = .ok (.aload_n 0, 1) := by decide +kernel
theorem dX5_init_13 : decode cX5_init 13 = .ok (.iconst 0, 1) := by decide +kernel
theorem dX5_init_14 : decode cX5_init 14 = .ok (.putfield 15, 3) := by decide +kernel
theorem dX5_init_17 : decode cX5_init 17 = .ok (.return_, 1) := by decide +kernel
theorem dX5_isPower_0 : decode cX5_isPower 0 = .ok (.iload_n 0, 1) := by decide +kernel
theorem dX5_isPower_1 : decode cX5_isPower 1 = .ok (.ifCond .lt 12, 3) := by decide +kernel
theorem dX5_isPower_4 : decode cX5_isPower 4 = .ok (.iload_n 0, 1) := by decide +kernel
theorem dX5_isPower_5 : decode cX5_isPower 5 = .ok (.iconst 4, 1) := by decide +kernel
theorem dX5_isPower_6 : decode cX5_isPower 6 = .ok (.if_icmp .ge 7, 3) := by decide +kernel
theorem dX5_isPower_9 : decode cX5_isPower 9 = .ok (.iconst 1, 1) := by decide +kernel
theorem dX5_isPower_10 : decode cX5_isPower 10 = .ok (.goto 4, 3) := by decide +kernel
theorem dX5_isPower_13 : decode cX5_isPower 13 = .ok (.iconst 0, 1) := by decide +kernel
theorem dX5_isPower_14 : decode cX5_isPower 14 = .ok (.ireturn, 1) := by decide +kernel
theorem dX5_add_0 : decode cX5_add 0 = .ok (.aload_n 0, 1) := by decide +kernel
theorem dX5_add_1 : decode cX5_add 1 = .ok (.getfield 15, 3) := by decide +kernel
theorem dX5_add_4 : decode cX5_add 4 = .ok (.bipush 6, 2) := by decide +kernel
theorem dX5_add_6 : decode cX5_add 6 = .ok (.if_icmp .lt 6, 3) := by decide +kernel
theorem dX5_add_9 : decode cX5_add 9 = .ok (.bipush (-5), 2) := by decide +kernel
theorem dX5_add_11 : decode cX5_add 11 = .ok (.ireturn, 1) := by decide +kernel
theorem dX5_add_12 : decode cX5_add 12 = .ok (.aload_n 0, 1) := by decide +kernel
theorem dX5_add_13 : decode cX5_add 13 = .ok (.getfield 11, 3) := by decide +kernel
theorem dX5_add_16 : decode cX5_add 16 = .ok (.bipush 16, 2) := by decide +kernel
theorem dX5_add_18 : decode cX5_add 18 = .ok (.iload_n 2, 1) := by decide +kernel
theorem dX5_add_19 : decode cX5_add 19 = .ok (.imul, 1) := by decide +kernel
theorem dX5_add_20 : decode cX5_add 20 = .ok (.iconst 4, 1) := by decide +kernel
theorem dX5_add_21 : decode cX5_add 21 = .ok (.iload_n 3, 1) := by decide +kernel
theorem dX5_add_22 : decode cX5_add 22 = .ok (.imul, 1) := by decide +kernel
theorem dX5_add_23 : decode cX5_add 23 = .ok (.iadd, 1) := by decide +kernel
theorem dX5_add_24 : decode cX5_add 24 = .ok (.iload 4, 2) := by decide +kernel
theorem dX5_add_26 : decode cX5_add 26 = .ok (.iadd, 1) := by decide +kernel
theorem dX5_add_27 : decode cX5_add 27 = .ok (.dup2, 1) := by decide +kernel
theorem dX5_add_28 : decode cX5_add 28 = .ok (.laload, 1) := by decide +kernel
theorem dX5_add_29 : decode cX5_add 29 = .ok (.iload_n 1, 1) := by decide +kernel
theorem dX5_add_30 : decode cX5_add 30 = .ok (.i2l, 1) := by decide +kernel
theorem dX5_add_31 : decode cX5_add 31 = .ok (.ladd, 1) := by decide +kernel
theorem dX5_add_32 : decode cX5_add 32 = .ok (.lastore, 1) := by decide +kernel
theorem dX5_add_33 : decode cX5_add 33 = .ok (.aload_n 0, 1) := by decide +kernel
theorem dX5_add_34 : decode cX5_add 34 = .ok (.dup, 1) := by decide +kernel
theorem dX5_add_35 : decode cX5_add 35 = .ok (.getfield 15, 3) := by decide +kernel
theorem dX5_add_38 : decode cX5_add 38 = .ok (.iconst 1, 1) := by decide +kernel
theorem dX5_add_39 : decode cX5_add 39 = .ok (.iadd, 1) := by decide +kernel
theorem dX5_add_40 : decode cX5_add 40 = .ok (.putfield 15, 3) := by decide +kernel
theorem dX5_add_43 : decode cX5_add 43 = .ok (.aload_n 0, 1) := by decide +kernel
theorem dX5_add_44 : decode cX5_add 44 = .ok (.getfield 15, 3) := by decide +kernel
theorem dX5_add_47 : decode cX5_add 47 = .ok (.ireturn, 1) := by decide +kernel
theorem dX5_greatestPower_0 : decode cX5_greatestPower 0 = .ok (.iconst 0, 1) := by decide +kernel
theorem dX5_greatestPower_1 : decode cX5_greatestPower 1 = .ok (.istore_n 1, 1) := by decide +kernel
theorem dX5_greatestPower_2 : decode cX5_greatestPower 2 = .ok (.iconst 0, 1) := by decide +kernel
theorem dX5_greatestPower_3 : decode cX5_greatestPower 3 = .ok (.istore_n 2, 1) := by decide +kernel
theorem dX5_greatestPower_4 : decode cX5_greatestPower 4 = .ok (.iload_n 2, 1) := by decide +kernel
theorem dX5_greatestPower_5 : decode cX5_greatestPower 5 = .ok (.bipush 64, 2) := by decide +kernel
theorem dX5_greatestPower_7 : decode cX5_greatestPower 7 = .ok (.if_icmp .ge 38, 3) := by decide +kernel
theorem dX5_greatestPower_10 : decode cX5_greatestPower 10 = .ok (.aload_n 0, 1) := by decide +kernel
theorem dX5_greatestPower_11 : decode cX5_greatestPower 11 = .ok (.getfield 11, 3) := by decide +kernel
theorem dX5_greatestPower_14 : decode cX5_greatestPower 14 = .ok (.iload_n 2, 1) := by decide +kernel
theorem dX5_greatestPower_15 : decode cX5_greatestPower 15 = .ok (.laload, 1) := by decide +kernel
theorem dX5_greatestPower_16 : decode cX5_greatestPower 16 = .ok (.lconst 0, 1) := by decide +kernel
theorem dX5_greatestPower_17 : decode cX5_greatestPower 17 = .ok (.lcmp, 1) := by decide +kernel
theorem dX5_greatestPower_18 : decode cX5_greatestPower 18 = .ok (.ifCond .eq 21, 3) := by decide +kernel
theorem dX5_greatestPower_21 : decode cX5_greatestPower 21 = .ok (.iload_n 1, 1) := by decide +kernel
theorem dX5_greatestPower_22 : decode cX5_greatestPower 22 = .ok (.iload_n 2, 1) := by decide +kernel
theorem dX5_greatestPower_23 : decode cX5_greatestPower 23 = .ok (.iconst 4, 1) := by decide +kernel
theorem dX5_greatestPower_24 : decode cX5_greatestPower 24 = .ok (.ishr, 1) := by decide +kernel
theorem dX5_greatestPower_25 : decode cX5_greatestPower 25 = .ok (.iload_n 2, 1) := by decide +kernel
theorem dX5_greatestPower_26 : decode cX5_greatestPower 26 = .ok (.iconst 2, 1) := by decide +kernel
theorem dX5_greatestPower_27 : decode cX5_greatestPower 27 = .ok (.ishr, 1) := by decide +kernel
theorem dX5_greatestPower_28 : decode cX5_greatestPower 28 = .ok (.iconst 3, 1) := by decide +kernel
theorem dX5_greatestPower_29 : decode cX5_greatestPower 29 = .ok (.iand, 1) := by decide +kernel
theorem dX5_greatestPower_30 : decode cX5_greatestPower 30 = .ok (.iadd, 1) := by decide +kernel
theorem dX5_greatestPower_31 : decode cX5_greatestPower 31 = .ok (.iload_n 2, 1) := by decide +kernel
theorem dX5_greatestPower_32 : decode cX5_greatestPower 32 = .ok (.iconst 3, 1) := by decide +kernel
theorem dX5_greatestPower_33 : decode cX5_greatestPower 33 = .ok (.iand, 1) := by decide +kernel
theorem dX5_greatestPower_34 : decode cX5_greatestPower 34 = .ok (.iadd, 1) := by decide +kernel
theorem dX5_greatestPower_35 : decode cX5_greatestPower 35 = .ok (.invokestatic 19, 3) := by decide +kernel
theorem dX5_greatestPower_38 : decode cX5_greatestPower 38 = .ok (.istore_n 1, 1) := by decide +kernel
theorem dX5_greatestPower_39 : decode cX5_greatestPower 39 = .ok (.iinc 2 1, 3) := by decide +kernel
theorem dX5_greatestPower_42 : decode cX5_greatestPower 42 = .ok (.goto (-38), 3) := by decide +kernel
theorem dX5_greatestPower_45 : decode cX5_greatestPower 45 = .ok (.iload_n 1, 1) := by decide +kernel
theorem dX5_greatestPower_46 : decode cX5_greatestPower 46 = .ok (.ireturn, 1) := by decide +kernel
theorem dX6_init_0 : decode cX6_init 0 = .ok (.aload_n 0, 1) := by decide +kernel
theorem dX6_init_1 : decode cX6_init 1 = .ok (.invokespecial 1, 3) := by decide +kernel
theorem dX6_init_4 : decode cX6_init 4 = .ok (.aload_n 0, 1) := by decide +kernel
theorem dX6_init_5 : decode cX6_init 5 = .ok (.sipush 200, 3) := by decide +kernel
theorem dX6_init_8 : decode cX6_init 8 = .ok (.newarray .int, 2) := by decide +kernel
theorem dX6_init_10 : decode cX6_init 10 = .ok (.putfield 9, 3) := by decide +kernel
theorem dX6_init_13 : decode cX6_init 13 = .ok (.aload_n 0, 1) := by decide +kernel
theorem dX6_init_14 : decode cX6_init 14 = .ok (.iconst 0, 1) := by decide +kernel
theorem dX6_init_15 : decode cX6_init 15 = .ok (.putfield 13, 3) := by decide +kernel
theorem dX6_init_18 : decode cX6_init 18 = .ok (.return_, 1) := by decide +kernel
theorem dX6_add_0 : decode cX6_add 0 = .ok (.aload_n 0, 1) := by decide +kernel
theorem dX6_add_1 : decode cX6_add 1 = .ok (.getfield 13, 3) := by decide +kernel
theorem dX6_add_4 : decode cX6_add 4 = .ok (.sipush 200, 3) := by decide +kernel
theorem dX6_add_7 : decode cX6_add 7 = .ok (.if_icmp .ge 23, 3) := by decide +kernel
theorem dX6_add_10 : decode cX6_add 10 = .ok (.aload_n 0, 1) := by decide +kernel
theorem dX6_add_11 : decode cX6_add 11 = .ok (.getfield 9, 3) := by decide +kernel
theorem dX6_add_14 : decode cX6_add 14 = .ok (.aload_n 0, 1) := by decide +kernel
theorem dX6_add_15 : decode cX6_add 15 = .ok (.getfield 13, 3) := by decide +kernel
theorem dX6_add_18 : decode cX6_add 18 = .ok (.iload_n 1, 1) := by decide +kernel
theorem dX6_add_19 : decode cX6_add 19 = .ok (.iastore, 1) := by decide +kernel
theorem dX6_add_20 : decode cX6_add 20 = .ok (.aload_n 0, 1) := by decide +kernel
theorem dX6_add_21 : decode cX6_add 21 = .ok (.dup, 1) := by decide +kernel
theorem dX6_add_22 : decode cX6_add 22 = .ok (.getfield 13, 3) := by decide +kernel
theorem dX6_add_25 : decode cX6_add 25 = .ok (.iconst 1, 1) := by decide +kernel
theorem dX6_add_26 : decode cX6_add 26 = .ok (.iadd, 1) := by decide +kernel
theorem dX6_add_27 : decode cX6_add 27 = .ok (.putfield 13, 3) := by decide +kernel
theorem dX6_add_30 : decode cX6_add 30 = .ok (.return_, 1) := by decide +kernel
theorem dX6_at_0 : decode cX6_at 0 = .ok (.iload_n 1, 1) := by decide +kernel
theorem dX6_at_1 : decode cX6_at 1 = .ok (.ifCond .lt 27, 3) := by decide +kernel
theorem dX6_at_4 : decode cX6_at 4 = .ok (.iload_n 1, 1) := by decide +kernel
theorem dX6_at_5 : decode cX6_at 5 = .ok (.aload_n 0, 1) := by decide +kernel
theorem dX6_at_6 : decode cX6_at 6 = .ok (.getfield 13, 3) := by decide +kernel
theorem dX6_at_9 : decode cX6_at 9 = .ok (.if_icmp .ge 19, 3) := by decide +kernel
theorem dX6_at_12 : decode cX6_at 12 = .ok (.iload_n 1, 1) := by decide +kernel
theorem dX6_at_13 : decode cX6_at 13 = .ok (.sipush 200, 3) := by decide +kernel
theorem dX6_at_16 : decode cX6_at 16 = .ok (.if_icmp .ge 12, 3) := by decide +kernel
theorem dX6_at_19 : decode cX6_at 19 = .ok (.aload_n 0, 1) := by decide +kernel
theorem dX6_at_20 : decode cX6_at 20 = .ok (.getfield 9, 3) := by decide +kernel
theorem dX6_at_23 : decode cX6_at 23 = .ok (.iload_n 1, 1) := by decide +kernel
theorem dX6_at_24 : decode cX6_at 24 = .ok (.iaload, 1) := by decide +kernel
theorem dX6_at_25 : decode cX6_at 25 = .ok (.goto 4, 3) := by decide +kernel
theorem dX6_at_28 : decode cX6_at 28 = .ok (.iconst (-1), 1) := by decide +kernel
theorem dX6_at_29 : decode cX6_at 29 = .ok (.ireturn, 1) := by decide +kernel
theorem dX7_init_0 : decode cX7_init 0 = .ok (.aload_n 0, 1) := by decide +kernel
theorem dX7_init_1 : decode cX7_init 1 = .ok (.invokespecial 3, 3) := by decide +kernel
theorem dX7_init_4 : decode cX7_init 4 = .ok (.aload_n 0, 1) := by decide +kernel
theorem dX7_init_5 : decode cX7_init 5 = .ok (.aload_n 1, 1) := by decide +kernel
theorem dX7_init_6 : decode cX7_init 6 = .ok (.putfield 9, 3) := by decide +kernel
theorem dX7_init_9 : decode cX7_init 9 = .ok (.aload_n 0, 1) := by decide +kernel
theorem dX7_init_10 : decode cX7_init 10 = .ok (.bipush 32, 2) := by decide +kernel
theorem dX7_init_12 : decode cX7_init 12 = .ok (.newarray .long, 2) := by decide +kernel
theorem dX7_init_14 : decode cX7_init 14 = .ok (.putfield 17, 3) := by decide +kernel
theorem dX7_init_17 : decode cX7_init 17 = .ok (.aload_n 0, 1) := by decide +kernel
theorem dX7_init_18 : decode cX7_init 18 = .ok (.bipush 64, 2) := by decide +kernel
theorem dX7_init_20 : decode cX7_init 20 = .ok (.newarray .int, 2) := by decide +kernel
theorem dX7_init_22 : decode cX7_init 22 = .ok (.putfield 21, 3) := by decide +kernel
theorem dX7_init_25 : decode cX7_init 25 = .ok (.aload_n 0, 1) := by decide +kernel
theorem dX7_init_26 : decode cX7_init 26 = .ok (.bipush 32, 2) := by decide +kernel
theorem dX7_init_28 : decode cX7_init 28 = .ok (.newarray .int, 2) := by decide +kernel
theorem dX7_init_30 : decode cX7_init 30 = .ok (.putfield 25, 3) := by decide +kernel
theorem dX7_init_33 : decode cX7_init 33 = .ok (.aload_n 0, 1) := by decide +kernel
theorem dX7_init_34 : decode cX7_init 34 = .ok (.bipush 8, 2) := by decide +kernel
theorem dX7_init_36 : decode cX7_init 36 = .ok (.newarray .long, 2) := by decide +kernel
theorem dX7_init_38 : decode cX7_init 38 = .ok (.putfield 28, 3) := by decide +kernel
theorem dX7_init_41 : decode cX7_init 41 = .ok (.aload_n 0, 1) := by decide +kernel
theorem dX7_init_42 : decode cX7_init 42 = .ok (.iconst 0, 1) := by decide +kernel
theorem dX7_init_43 : decode cX7_init 43 = .ok (.putfield 31, 3) := by decide +kernel
theorem dX7_init_46 : decode cX7_init 46 = .ok (.aload_n 0, 1) := by decide +kernel
theorem dX7_init_47 : decode cX7_init 47 = .ok (.iconst 0, 1) := by decide +kernel
theorem dX7_init_48 : decode cX7_init 48 = .ok (.putfield 35, 3) := by decide +kernel
theorem dX7_init_51 : decode cX7_init 51 = .ok (.aload_n 0, 1) := by decide +kernel
theorem dX7_init_52 : decode cX7_init 52 = .ok (.iconst 1, 1) := by decide +kernel
theorem dX7_init_53 : decode cX7_init 53 = .ok (.putfield 38, 3) := by decide +kernel
theorem dX7_init_56 : decode cX7_init 56 = .ok (.return_, 1) := by decide +kernel
theorem dX7_replaceProgram_0 : decode cX7_replaceProgram 0 = .ok (.aload_n 0, 1) := by decide +kernel
theorem dX7_replaceProgram_1 : decode cX7_replaceProgram 1 = .ok (.getfield 9, 3) := by decide +kernel
theorem dX7_replaceProgram_4 : decode cX7_replaceProgram 4 = .ok (.astore_n 2, 1) := by decide +kernel
theorem dX7_replaceProgram_5 : decode cX7_replaceProgram 5 = .ok (.aload_n 0, 1) := by decide +kernel
theorem dX7_replaceProgram_6 : decode cX7_replaceProgram 6 = .ok (.aload_n 1, 1) := by decide +kernel
theorem dX7_replaceProgram_7 : decode cX7_replaceProgram 7 = .ok (.putfield 9, 3) := by decide +kernel
theorem dX7_replaceProgram_10 : decode cX7_replaceProgram 10 = .ok (.aload_n 0, 1) := by decide +kernel
theorem dX7_replaceProgram_11 : decode cX7_replaceProgram 11 = .ok (.iconst 1, 1) := by decide +kernel
theorem dX7_replaceProgram_12 : decode cX7_replaceProgram 12 = .ok (.putfield 38, 3) := by decide +kernel
theorem dX7_replaceProgram_15 : decode cX7_replaceProgram 15 = .ok (.aload_n 2, 1) := by decide +kernel
theorem dX7_replaceProgram_16 : decode cX7_replaceProgram 16 = .ok (.areturn, 1) := by decide +kernel
theorem dX7_setInputs_0 : decode cX7_setInputs 0 = .ok (.aload_n 0, 1) := by decide +kernel
theorem dX7_setInputs_1 : decode cX7_setInputs 1 = .ok (.iload_n 1, 1) := by decide +kernel
theorem dX7_setInputs_2 : decode cX7_setInputs 2 = .ok (.putfield 31, 3) := by decide +kernel
theorem dX7_setInputs_5 : decode cX7_setInputs 5 = .ok (.aload_n 0, 1) := by decide +kernel
theorem dX7_setInputs_6 : decode cX7_setInputs 6 = .ok (.iload_n 2, 1) := by decide +kernel
theorem dX7_setInputs_7 : decode cX7_setInputs 7 = .ok (.putfield 35, 3) := by decide +kernel
theorem dX7_setInputs_10 : decode cX7_setInputs 10 = .ok (.aload_n 0, 1) := by decide +kernel
theorem dX7_setInputs_11 : decode cX7_setInputs 11 = .ok (.iconst 1, 1) := by decide +kernel
theorem dX7_setInputs_12 : decode cX7_setInputs 12 = .ok (.putfield 38, 3) := by decide +kernel
theorem dX7_setInputs_15 : decode cX7_setInputs 15 = .ok (.return_, 1) := by decide +kernel
theorem dX7_inputCount_0 : decode cX7_inputCount 0 = .ok (.iconst 1, 1) := by decide +kernel
theorem dX7_inputCount_1 : decode cX7_inputCount 1 = .ok (.aload_n 0, 1) := by decide +kernel
theorem dX7_inputCount_2 : decode cX7_inputCount 2 = .ok (.getfield 31, 3) := by decide +kernel
theorem dX7_inputCount_5 : decode cX7_inputCount 5 = .ok (.ishl, 1) := by decide +kernel
theorem dX7_inputCount_6 : decode cX7_inputCount 6 = .ok (.ireturn, 1) := by decide +kernel
set_option maxRecDepth 20000 in
theorem ggX7_hasInput_X7_inputCount : GoodIn wsX7_hasInput wsX7_inputCount := goodIn_r _ [5, 6, 7, 8, 9, 10, 11, 12, 13, 14] (by decide +kernel) (by decide +kernel)
set_option maxRecDepth 20000 in
theorem gX7_hasInput_X7_inputCount : GoodIn wsX7_hasInput (wsV RX7 42 RX7 yX7_inputCount wsX7_inputCount) := goodIn_app (goodIn_of _ (by decide +kernel)) ggX7_hasInput_X7_inputCount
theorem dX7_hasInput_0 : decode cX7_hasInput 0 = .ok (.iload_n 1, 1) := by decide +kernel
theorem dX7_hasInput_1 : decode cX7_hasInput 1 = .ok (.ifCond .lt 15, 3) := by decide +kernel
theorem dX7_hasInput_4 : decode cX7_hasInput 4 = .ok (.iload_n 1, 1) := by decide +kernel
theorem dX7_hasInput_5 : decode cX7_hasInput 5 = .ok (.aload_n 0, 1) := by decide +kernel
theorem dX7_hasInput_6 : decode cX7_hasInput 6 = .ok (.invokevirtual 42, 3) := by decide +kernel
theorem dX7_hasInput_9 : decode cX7_hasInput 9 = .ok (.if_icmp .ge 7, 3) := by decide +kernel
theorem dX7_hasInput_12 : decode cX7_hasInput 12 = .ok (.iconst 1, 1) := by decide +kernel
theorem dX7_hasInput_13 : decode cX7_hasInput 13 = .ok (.goto 4, 3) := by decide +kernel
theorem dX7_hasInput_16 : decode cX7_hasInput 16 = .ok (.iconst 0, 1) := by decide +kernel
theorem dX7_hasInput_17 : decode cX7_hasInput 17 = .ok (.ireturn, 1) := by decide +kernel
theorem dX7_hasRow_0 : decode cX7_hasRow 0 = .ok (.iload_n 1, 1) := by decide +kernel
theorem dX7_hasRow_1 : decode cX7_hasRow 1 = .ok (.ifCond .lt 18, 3) := by decide +kernel
theorem dX7_hasRow_4 : decode cX7_hasRow 4 = .ok (.iload_n 1, 1) := by decide +kernel
theorem dX7_hasRow_5 : decode cX7_hasRow 5 = .ok (.aload_n 0, 1) := by decide +kernel
theorem dX7_hasRow_6 : decode cX7_hasRow 6 = .ok (.getfield 9, 3) := by decide +kernel
theorem dX7_hasRow_9 : decode cX7_hasRow 9 = .ok (.getfield 46, 3) := by decide +kernel
theorem dX7_hasRow_12 : decode cX7_hasRow 12 = .ok (.if_icmp .ge 7, 3) := by decide +kernel
theorem dX7_hasRow_15 : decode cX7_hasRow 15 = .ok (.iconst 1, 1) := by decide +kernel
theorem dX7_hasRow_16 : decode cX7_hasRow 16 = .ok (.goto 4, 3) := by decide +kernel
theorem dX7_hasRow_19 : decode cX7_hasRow 19 = .ok (.iconst 0, 1) := by decide +kernel
theorem dX7_hasRow_20 : decode cX7_hasRow 20 = .ok (.ireturn, 1) := by decide +kernel
set_option maxRecDepth 20000 in
theorem ggX7_isRight_X2_outOf : GoodIn wsX7_isRight wsX2_outOf := goodIn_r _ [6, 7, 8, 9, 10, 11, 12, 13, 14, 5, 15, 16, 17, 18, 19, 20, 21, 22, 23, 24, 25, 26, 27, 28, 29, 30, 45, 46, 47, 48, 49, 50, 51, 52, 53, 54, 55] (by decide +kernel) (by decide +kernel)
set_option maxRecDepth 20000 in
theorem gX7_isRight_X2_outOf : GoodIn wsX7_isRight (wsV RX7 49 RX2 yX2_outOf wsX2_outOf) := goodIn_app (goodIn_of _ (by decide +kernel)) ggX7_isRight_X2_outOf
set_option maxRecDepth 20000 in
theorem ggX7_isRight_X7_isTrue : GoodIn wsX7_isRight wsX7_isTrue := goodIn_r _ [35, 36, 37, 38, 39, 40, 41, 42, 43, 44] (by decide +kernel) (by decide +kernel)
set_option maxRecDepth 20000 in
theorem gX7_isRight_X7_isTrue : GoodIn wsX7_isRight (wsV RX7 53 RX7 yX7_isTrue wsX7_isTrue) := goodIn_app (goodIn_of _ (by decide +kernel)) ggX7_isRight_X7_isTrue
theorem dX7_isRight_0 : decode cX7_isRight 0 = .ok (.aload_n 0, 1) := by decide +kernel
theorem dX7_isRight_1 : decode cX7_isRight 1 = .ok (.getfield 9, 3) := by decide +kernel
theorem dX7_isRight_4 : decode cX7_isRight 4 = .ok (.iload_n 1, 1) := by decide +kernel
theorem dX7_isRight_5 : decode cX7_isRight 5 = .ok (.iload_n 2, 1) := by decide +kernel
theorem dX7_isRight_6 : decode cX7_isRight 6 = .ok (.invokevirtual 49, 3) := by decide +kernel
theorem dX7_isRight_9 : decode cX7_isRight 9 = .ok (.ifCond .eq 7, 3) := by decide +kernel
theorem dX7_isRight_12 : decode cX7_isRight 12 = .ok (.iconst 1, 1) := by decide +kernel
theorem dX7_isRight_13 : decode cX7_isRight 13 = .ok (.goto 4, 3) := by decide +kernel
theorem dX7_isRight_16 : decode cX7_isRight 16 = .ok (.iconst 0, 1) := by decide +kernel
theorem dX7_isRight_17 : decode cX7_isRight 17 = .ok (.aload_n 0, 1) := by decide +kernel
theorem dX7_isRight_18 : decode cX7_isRight 18 = .ok (.iload_n 1, 1) := by decide +kernel
theorem dX7_isRight_19 : decode cX7_isRight 19 = .ok (.invokevirtual 53, 3) := by decide +kernel
theorem dX7_isRight_22 : decode cX7_isRight 22 = .ok (.if_icmp .ne 7, 3) := by decide +kernel
theorem dX7_isRight_25 : decode cX7_isRight 25 = .ok (.iconst 1, 1) := by decide +kernel
theorem dX7_isRight_26 : decode cX7_isRight 26 = .ok (.goto 4, 3) := by decide +kernel
theorem dX7_isRight_29 : decode cX7_isRight 29 = .ok (.iconst 0, 1) := by decide +kernel
theorem dX7_isRight_30 : decode cX7_isRight 30 = .ok (.ireturn, 1) := by decide +kernel
theorem dX7_isTrue_0 : decode cX7_isTrue 0 = .ok (.aload_n 0, 1) := by decide +kernel
theorem dX7_isTrue_1 : decode cX7_isTrue 1 = .ok (.getfield 35, 3) := by decide +kernel
theorem dX7_isTrue_4 : decode cX7_isTrue 4 = .ok (.iload_n 1, 1) := by decide +kernel
theorem dX7_isTrue_5 : decode cX7_isTrue 5 = .ok (.ishr, 1) := by decide +kernel
theorem dX7_isTrue_6 : decode cX7_isTrue 6 = .ok (.iconst 1, 1) := by decide +kernel
theorem dX7_isTrue_7 : decode cX7_isTrue 7 = .ok (.iand, 1) := by decide +kernel
theorem dX7_isTrue_8 : decode cX7_isTrue 8 = .ok (.iconst 1, 1) := by decide +kernel
theorem dX7_isTrue_9 : decode cX7_isTrue 9 = .ok (.if_icmp .ne 7, 3) := by decide +kernel
theorem dX7_isTrue_12 : decode cX7_isTrue 12 = .ok (.iconst 1, 1) := by decide +kernel
theorem dX7_isTrue_13 : decode cX7_isTrue 13 = .ok (.goto 4, 3) := by decide +kernel
theorem dX7_isTrue_16 : decode cX7_isTrue 16 = .ok (.iconst 0, 1) := by decide +kernel
theorem dX7_isTrue_17 : decode cX7_isTrue 17 = .ok (.ireturn, 1) := by decide +kernel
theorem dX7_span_0 : decode cX7_span 0 = .ok (.ldc2_w 57, 3) := by decide +kernel
theorem dX7_span_3 : decode cX7_span 3 = .ok (.bipush 64, 2) := by decide +kernel
theorem dX7_span_5 : decode cX7_span 5 = .ok (.iload_n 1, 1) := by decide +kernel
theorem dX7_span_6 : decode cX7_span 6 = .ok (.isub, 1) := by decide +kernel
theorem dX7_span_7 : decode cX7_span 7 = .ok (.lushr, 1) := by decide +kernel
theorem dX7_span_8 : decode cX7_span 8 = .ok (.iload_n 0, 1) := by decide +kernel
theorem dX7_span_9 : decode cX7_span 9 = .ok (.lshl, 1) := by decide +kernel
theorem dX7_span_10 : decode cX7_span 10 = .ok (.lreturn, 1) := by decide +kernel
set_option maxRecDepth 20000 in
theorem ggX7_refresh_J7_fill_53178 : GoodIn wsX7_refresh wsJ7_fill_53178 := goodIn_r _ [10] (by decide +kernel) (by decide +kernel)
set_option maxRecDepth 20000 in
theorem gX7_refresh_J7_fill_53178 : GoodIn wsX7_refresh (va_wsS RX7 59 yJ7_fill_53178 wsJ7_fill_53178) := goodIn_app (goodIn_of _ (by decide +kernel)) ggX7_refresh_J7_fill_53178
set_option maxRecDepth 20000 in
theorem ggX7_refresh_X7_span : GoodIn wsX7_refresh wsX7_span := goodIn_r _ [14, 5] (by decide +kernel) (by decide +kernel)
set_option maxRecDepth 20000 in
theorem gX7_refresh_X7_span : GoodIn wsX7_refresh (va_wsS RX7 65 yX7_span wsX7_span) := goodIn_app (goodIn_of _ (by decide +kernel)) ggX7_refresh_X7_span
set_option maxRecDepth 20000 in
theorem ggX7_refresh_X7_inputCount : GoodIn wsX7_refresh wsX7_inputCount := goodIn_r _ [18, 19, 58, 59, 60, 61, 62, 63, 64, 65] (by decide +kernel) (by decide +kernel)
set_option maxRecDepth 20000 in
theorem gX7_refresh_X7_inputCount : GoodIn wsX7_refresh (wsV RX7 42 RX7 yX7_inputCount wsX7_inputCount) := goodIn_app (goodIn_of _ (by decide +kernel)) ggX7_refresh_X7_inputCount
set_option maxRecDepth 20000 in
theorem ggX7_refresh_X2_notZeroRows : GoodIn wsX7_refresh wsX2_notZeroRows := goodIn_r _ [24, 25, 26, 27, 28, 29, 30, 23, 31, 32, 33, 34, 35, 36, 37, 38, 39, 40, 41, 42, 43, 44, 8, 9, 10, 45, 46, 47, 48, 49, 50, 51, 52, 66, 67, 68, 69, 70, 71, 72, 73, 74, 75, 76] (by decide +kernel) (by decide +kernel)
set_option maxRecDepth 20000 in
theorem gX7_refresh_X2_notZeroRows : GoodIn wsX7_refresh (wsV RX7 69 RX2 yX2_notZeroRows wsX2_notZeroRows) := goodIn_app (goodIn_of _ (by decide +kernel)) ggX7_refresh_X2_notZeroRows
set_option maxRecDepth 20000 in
theorem ggX7_refresh_X7_isTrue : GoodIn wsX7_refresh wsX7_isTrue := goodIn_r _ [56, 57, 58, 59, 60, 61, 62, 63, 64, 65] (by decide +kernel) (by decide +kernel)
set_option maxRecDepth 20000 in
theorem gX7_refresh_X7_isTrue : GoodIn wsX7_refresh (wsV RX7 53 RX7 yX7_isTrue wsX7_isTrue) := goodIn_app (goodIn_of _ (by decide +kernel)) ggX7_refresh_X7_isTrue
theorem dX7_refresh_0 : decode cX7_refresh 0 = .ok (.aload_n 0, 1) := by decide +kernel
theorem dX7_refresh_1 : decode cX7_refresh 1 = .ok (.getfield 38, 3) := by decide +kernel
theorem dX7_refresh_4 : decode cX7_refresh 4 = .ok (.ifCond .ne 4, 3) := by decide +kernel
theorem dX7_refresh_7 : decode cX7_refresh 7 = .ok (.return_, 1) := by decide +kernel
theorem dX7_refresh_8 : decode cX7_refresh 8 = .ok (.aload_n 0, 1) := by decide +kernel
theorem dX7_refresh_9 : decode cX7_refresh 9 = .ok (.getfield 21, 3) := by decide +kernel
theorem dX7_refresh_12 : decode cX7_refresh 12 = .ok (.iconst 0, 1) := by decide +kernel
theorem dX7_refresh_13 : decode cX7_refresh 13 = .ok (.invokestatic 59, 3) := by decide +kernel
theorem dX7_refresh_16 : decode cX7_refresh 16 = .ok (.iconst 0, 1) := by decide +kernel
theorem dX7_refresh_17 : decode cX7_refresh 17 = .ok (.aload_n 0, 1) := by decide +kernel
theorem dX7_refresh_18 : decode cX7_refresh 18 = .ok (.getfield 9, 3) := by decide +kernel
theorem dX7_refresh_21 : decode cX7_refresh 21 = .ok (.getfield 46, 3) := by decide +kernel
theorem dX7_refresh_24 : decode cX7_refresh 24 = .ok (.invokestatic 65, 3) := by decide +kernel
theorem dX7_refresh_27 : decode cX7_refresh 27 = .ok (.lstore_n 1, 1) := by decide +kernel
theorem dX7_refresh_28 : decode cX7_refresh 28 = .ok (.iconst 0, 1) := by decide +kernel
theorem dX7_refresh_29 : decode cX7_refresh 29 = .ok (.istore_n 3, 1) := by decide +kernel
theorem dX7_refresh_30 : decode cX7_refresh 30 = .ok (.iload_n 3, 1) := by decide +kernel
theorem dX7_refresh_31 : decode cX7_refresh 31 = .ok (.aload_n 0, 1) := by decide +kernel
theorem dX7_refresh_32 : decode cX7_refresh 32 = .ok (.invokevirtual 42, 3) := by decide +kernel
theorem dX7_refresh_35 : decode cX7_refresh 35 = .ok (.if_icmp .ge 91, 3) := by decide +kernel
theorem dX7_refresh_38 : decode cX7_refresh 38 = .ok (.aload_n 0, 1) := by decide +kernel
theorem dX7_refresh_39 : decode cX7_refresh 39 = .ok (.getfield 9, 3) := by decide +kernel
theorem dX7_refresh_42 : decode cX7_refresh 42 = .ok (.iload_n 3, 1) := by decide +kernel
theorem dX7_refresh_43 : decode cX7_refresh 43 = .ok (.invokevirtual 69, 3) := by decide +kernel
theorem dX7_refresh_46 : decode cX7_refresh 46 = .ok (.lstore 4, 2) := by decide +kernel
theorem dX7_refresh_48 : decode cX7_refresh 48 = .ok (.aload_n 0, 1) := by decide +kernel
theorem dX7_refresh_49 : decode cX7_refresh 49 = .ok (.iload_n 3, 1) := by decide +kernel
theorem dX7_refresh_50 : decode cX7_refresh 50 = .ok (.invokevirtual 53, 3) := by decide +kernel
theorem dX7_refresh_53 : decode cX7_refresh 53 = .ok (.ifCond .eq 8, 3) := by decide +kernel
theorem dX7_refresh_56 : decode cX7_refresh 56 = .ok (.lload 4, 2) := by decide +kernel
theorem dX7_refresh_58 : decode cX7_refresh 58 = .ok (.goto 11, 3) := by decide +kernel
theorem dX7_refresh_61 : decode cX7_refresh 61 = .ok (.lload_n 1, 1) := by decide +kernel
theorem dX7_refresh_62 : decode cX7_refresh 62 = .ok (.lload 4, 2) := by decide +kernel
theorem dX7_refresh_64 : decode cX7_refresh 64 = .ok (.ldc2_w 57, 3) := by decide +kernel
theorem dX7_refresh_67 : decode cX7_refresh 67 = .ok (.lxor, 1) := by decide +kernel
theorem dX7_refresh_68 : decode cX7_refresh 68 = .ok (.land, 1) := by decide +kernel
theorem dX7_refresh_69 : decode cX7_refresh 69 = .ok (.lstore 6, 2) := by decide +kernel
theorem dX7_refresh_71 : decode cX7_refresh 71 = .ok (.aload_n 0, 1) := by decide +kernel
theorem dX7_refresh_72 : decode cX7_refresh 72 = .ok (.getfield 17, 3) := by decide +kernel
theorem dX7_refresh_75 : decode cX7_refresh 75 = .ok (.iload_n 3, 1) := by decide +kernel
theorem dX7_refresh_76 : decode cX7_refresh 76 = .ok (.lload 6, 2) := by decide +kernel
theorem dX7_refresh_78 : decode cX7_refresh 78 = .ok (.lastore, 1) := by decide +kernel
theorem dX7_refresh_79 : decode cX7_refresh 79 = .ok (.iconst 0, 1) := by decide +kernel
theorem dX7_refresh_80 : decode cX7_refresh 80 = .ok (.istore 8, 2) := by decide +kernel
theorem dX7_refresh_82 : decode cX7_refresh 82 = .ok (.iload 8, 2) := by decide +kernel
theorem dX7_refresh_84 : decode cX7_refresh 84 = .ok (.aload_n 0, 1) := by decide +kernel
theorem dX7_refresh_85 : decode cX7_refresh 85 = .ok (.getfield 9, 3) := by decide +kernel
theorem dX7_refresh_88 : decode cX7_refresh 88 = .ok (.getfield 46, 3) := by decide +kernel
theorem dX7_refresh_91 : decode cX7_refresh 91 = .ok (.if_icmp .ge 29, 3) := by decide +kernel
theorem dX7_refresh_94 : decode cX7_refresh 94 = .ok (.aload_n 0, 1) := by decide +kernel
theorem dX7_refresh_95 : decode cX7_refresh 95 = .ok (.getfield 21, 3) := by decide +kernel
theorem dX7_refresh_98 : decode cX7_refresh 98 = .ok (.iload 8, 2) := by decide +kernel
theorem dX7_refresh_100 : decode cX7_refresh 100 = .ok (.dup2, 1) := by decide +kernel
theorem dX7_refresh_101 : decode cX7_refresh 101 = .ok (.iaload, 1) := by decide +kernel
theorem dX7_refresh_102 : decode cX7_refresh 102 = .ok (.lload 6, 2) := by decide +kernel
theorem dX7_refresh_104 : decode cX7_refresh 104 = .ok (.iload 8, 2) := by decide +kernel
theorem dX7_refresh_106 : decode cX7_refresh 106 = .ok (.lshr, 1) := by decide +kernel
theorem dX7_refresh_107 : decode cX7_refresh 107 = .ok (.lconst 1, 1) := by decide +kernel
theorem dX7_refresh_108 : decode cX7_refresh 108 = .ok (.land, 1) := by decide +kernel
theorem dX7_refresh_109 : decode cX7_refresh 109 = .ok (.l2i, 1) := by decide +kernel
theorem dX7_refresh_110 : decode cX7_refresh 110 = .ok (.iload_n 3, 1) := by decide +kernel
theorem dX7_refresh_111 : decode cX7_refresh 111 = .ok (.ishl, 1) := by decide +kernel
theorem dX7_refresh_112 : decode cX7_refresh 112 = .ok (.ior, 1) := by decide +kernel
theorem dX7_refresh_113 : decode cX7_refresh 113 = .ok (.iastore, 1) := by decide +kernel
theorem dX7_refresh_114 : decode cX7_refresh 114 = .ok (.iinc 8 1, 3) := by decide +kernel
theorem dX7_refresh_117 : decode cX7_refresh 117 = .ok (.goto (-35), 3) := by decide +kernel
theorem dX7_refresh_120 : decode cX7_refresh 120 = .ok (.iinc 3 1, 3) := by decide +kernel
theorem dX7_refresh_123 : decode cX7_refresh 123 = .ok (.goto (-93), 3) := by decide +kernel
theorem dX7_refresh_126 : decode cX7_refresh 126 = .ok (.aload_n 0, 1) := by decide +kernel
theorem dX7_refresh_127 : decode cX7_refresh 127 = .ok (.iconst 0, 1) := by decide +kernel
theorem dX7_refresh_128 : decode cX7_refresh 128 = .ok (.putfield 38, 3) := by decide +kernel
theorem dX7_refresh_131 : decode cX7_refresh 131 = .ok (.return_, 1) := by decide +kernel
set_option maxRecDepth 20000 in
theorem ggX7_rightCount_J13_bitCount_95d88 : GoodIn wsX7_rightCount wsJ13_bitCount_95d88 := goodIn_r _ [5, 6, 7, 8] (by decide +kernel) (by decide +kernel)
set_option maxRecDepth 20000 in
theorem gX7_rightCount_J13_bitCount_95d88 : GoodIn wsX7_rightCount (va_wsS RX7 73 yJ13_bitCount_95d88 wsJ13_bitCount_95d88) := goodIn_app (goodIn_of _ (by decide +kernel)) ggX7_rightCount_J13_bitCount_95d88
theorem dX7_rightCount_0 : decode cX7_rightCount 0 = .ok (.aload_n 0, 1) := by decide +kernel
theorem dX7_rightCount_1 : decode cX7_rightCount 1 = .ok (.getfield 17, 3) := by decide +kernel
theorem dX7_rightCount_4 : decode cX7_rightCount 4 = .ok (.iload_n 1, 1) := by decide +kernel
theorem dX7_rightCount_5 : decode cX7_rightCount 5 = .ok (.laload, 1) := by decide +kernel
theorem dX7_rightCount_6 : decode cX7_rightCount 6 = .ok (.invokestatic 73, 3) := by decide +kernel
theorem dX7_rightCount_9 : decode cX7_rightCount 9 = .ok (.ireturn, 1) := by decide +kernel
set_option maxRecDepth 20000 in
theorem ggX7_worstInput_X7_inputCount : GoodIn wsX7_worstInput wsX7_inputCount := goodIn_r _ [5, 6, 19, 20, 21, 22, 23, 24, 25, 26] (by decide +kernel) (by decide +kernel)
set_option maxRecDepth 20000 in
theorem gX7_worstInput_X7_inputCount : GoodIn wsX7_worstInput (wsV RX7 42 RX7 yX7_inputCount wsX7_inputCount) := goodIn_app (goodIn_of _ (by decide +kernel)) ggX7_worstInput_X7_inputCount
set_option maxRecDepth 20000 in
theorem ggX7_worstInput_X7_rightCount : GoodIn wsX7_worstInput wsX7_rightCount := goodIn_r _ [10, 11, 12, 13, 14, 15, 16, 17, 18, 19, 20, 21, 22, 23, 24, 25, 26] (by decide +kernel) (by decide +kernel)
set_option maxRecDepth 20000 in
theorem gX7_worstInput_X7_rightCount : GoodIn wsX7_worstInput (wsV RX7 79 RX7 yX7_rightCount wsX7_rightCount) := goodIn_app (goodIn_of _ (by decide +kernel)) ggX7_worstInput_X7_rightCount
theorem dX7_worstInput_0 : decode cX7_worstInput 0 = .ok (.iconst 0, 1) := by decide +kernel
theorem dX7_worstInput_1 : decode cX7_worstInput 1 = .ok (.istore_n 1, 1) := by decide +kernel
theorem dX7_worstInput_2 : decode cX7_worstInput 2 = .ok (.iconst 1, 1) := by decide +kernel
theorem dX7_worstInput_3 : decode cX7_worstInput 3 = .ok (.istore_n 2, 1) := by decide +kernel
theorem dX7_worstInput_4 : decode cX7_worstInput 4 = .ok (.iload_n 2, 1) := by decide +kernel
theorem dX7_worstInput_5 : decode cX7_worstInput 5 = .ok (.aload_n 0, 1) := by decide +kernel
theorem dX7_worstInput_6 : decode cX7_worstInput 6 = .ok (.invokevirtual 42, 3) := by decide +kernel
theorem dX7_worstInput_9 : decode cX7_worstInput 9 = .ok (.if_icmp .ge 24, 3) := by decide +kernel
theorem dX7_worstInput_12 : decode cX7_worstInput 12 = .ok (.aload_n 0, 1) := by decide +kernel
theorem dX7_worstInput_13 : decode cX7_worstInput 13 = .ok (.iload_n 2, 1) := by decide +kernel
theorem dX7_worstInput_14 : decode cX7_worstInput 14 = .ok (.invokevirtual 79, 3) := by decide +kernel
theorem dX7_worstInput_17 : decode cX7_worstInput 17 = .ok (.aload_n 0, 1) := by decide +kernel
theorem dX7_worstInput_18 : decode cX7_worstInput 18 = .ok (.iload_n 1, 1) := by decide +kernel
theorem dX7_worstInput_19 : decode cX7_worstInput 19 = .ok (.invokevirtual 79, 3) := by decide +kernel
theorem dX7_worstInput_22 : decode cX7_worstInput 22 = .ok (.if_icmp .ge 5, 3) := by decide +kernel
theorem dX7_worstInput_25 : decode cX7_worstInput 25 = .ok (.iload_n 2, 1) := by decide +kernel
theorem dX7_worstInput_26 : decode cX7_worstInput 26 = .ok (.istore_n 1, 1) := by decide +kernel
theorem dX7_worstInput_27 : decode cX7_worstInput 27 = .ok (.iinc 2 1, 3) := by decide +kernel
theorem dX7_worstInput_30 : decode cX7_worstInput 30 = .ok (.goto (-26), 3) := by decide +kernel
theorem dX7_worstInput_33 : decode cX7_worstInput 33 = .ok (.iload_n 1, 1) := by decide +kernel
theorem dX7_worstInput_34 : decode cX7_worstInput 34 = .ok (.ireturn, 1) := by decide +kernel
set_option maxRecDepth 20000 in
theorem ggX7_rightInputsWithin_J6_bitCount_0f7a4 : GoodIn wsX7_rightInputsWithin wsJ6_bitCount_0f7a4 := goodIn_r _ [5, 6, 7, 8] (by decide +kernel) (by decide +kernel)
set_option maxRecDepth 20000 in
theorem gX7_rightInputsWithin_J6_bitCount_0f7a4 : GoodIn wsX7_rightInputsWithin (va_wsS RX7 83 yJ6_bitCount_0f7a4 wsJ6_bitCount_0f7a4) := goodIn_app (goodIn_of _ (by decide +kernel)) ggX7_rightInputsWithin_J6_bitCount_0f7a4
theorem dX7_rightInputsWithin_0 : decode cX7_rightInputsWithin 0 = .ok (.iconst 0, 1) := by decide +kernel
theorem dX7_rightInputsWithin_1 : decode cX7_rightInputsWithin 1 = .ok (.istore_n 3, 1) := by decide +kernel
theorem dX7_rightInputsWithin_2 : decode cX7_rightInputsWithin 2 = .ok (.iload_n 1, 1) := by decide +kernel
theorem dX7_rightInputsWithin_3 : decode cX7_rightInputsWithin 3 = .ok (.istore 4, 2) := by decide +kernel
theorem dX7_rightInputsWithin_5 : decode cX7_rightInputsWithin 5 = .ok (.iload 4, 2) := by decide +kernel
theorem dX7_rightInputsWithin_7 : decode cX7_rightInputsWithin 7 = .ok (.iload_n 1, 1) := by decide +kernel
theorem dX7_rightInputsWithin_8 : decode cX7_rightInputsWithin 8 = .ok (.iload_n 2, 1) := by decide +kernel
theorem dX7_rightInputsWithin_9 : decode cX7_rightInputsWithin 9 = .ok (.iadd, 1) := by decide +kernel
theorem dX7_rightInputsWithin_10 : decode cX7_rightInputsWithin 10 = .ok (.if_icmp .ge 22, 3) := by decide +kernel
theorem dX7_rightInputsWithin_13 : decode cX7_rightInputsWithin 13 = .ok (.iload_n 3, 1) := by decide +kernel
theorem dX7_rightInputsWithin_14 : decode cX7_rightInputsWithin 14 = .ok (.aload_n 0, 1) := by decide +kernel
theorem dX7_rightInputsWithin_15 : decode cX7_rightInputsWithin 15 = .ok (.getfield 21, 3) := by decide +kernel
theorem dX7_rightInputsWithin_18 : decode cX7_rightInputsWithin 18 = .ok (.iload 4, 2) := by decide +kernel
theorem dX7_rightInputsWithin_20 : decode cX7_rightInputsWithin 20 = .ok (.iaload, 1) := by decide +kernel
theorem dX7_rightInputsWithin_21 : decode cX7_rightInputsWithin 21 = .ok (.invokestatic 83, 3) := by decide +kernel
theorem dX7_rightInputsWithin_24 : decode cX7_rightInputsWithin 24 = .ok (.iadd, 1) := by decide +kernel
theorem dX7_rightInputsWithin_25 : decode cX7_rightInputsWithin 25 = .ok (.istore_n 3, 1) := by decide +kernel
theorem dX7_rightInputsWithin_26 : decode cX7_rightInputsWithin 26 = .ok (.iinc 4 1, 3) := by decide +kernel
theorem dX7_rightInputsWithin_29 : decode cX7_rightInputsWithin 29 = .ok (.goto (-24), 3) := by decide +kernel
theorem dX7_rightInputsWithin_32 : decode cX7_rightInputsWithin 32 = .ok (.iload_n 3, 1) := by decide +kernel
theorem dX7_rightInputsWithin_33 : decode cX7_rightInputsWithin 33 = .ok (.ireturn, 1) := by decide +kernel
theorem dX7_waysOf_0 : decode cX7_waysOf 0 = .ok (.iconst 1, 1) := by decide +kernel
theorem dX7_waysOf_1 : decode cX7_waysOf 1 = .ok (.istore_n 3, 1) := by decide +kernel
theorem dX7_waysOf_2 : decode cX7_waysOf 2 = .ok (.iload_n 1, 1) := by decide +kernel
theorem dX7_waysOf_3 : decode cX7_waysOf 3 = .ok (.istore 4, 2) := by decide +kernel
theorem dX7_waysOf_5 : decode cX7_waysOf 5 = .ok (.iload 4, 2) := by decide +kernel
theorem dX7_waysOf_7 : decode cX7_waysOf 7 = .ok (.iload_n 2, 1) := by decide +kernel
theorem dX7_waysOf_8 : decode cX7_waysOf 8 = .ok (.if_icmp .ge 22, 3) := by decide +kernel
theorem dX7_waysOf_11 : decode cX7_waysOf 11 = .ok (.iload_n 3, 1) := by decide +kernel
theorem dX7_waysOf_12 : decode cX7_waysOf 12 = .ok (.aload_n 0, 1) := by decide +kernel
theorem dX7_waysOf_13 : decode cX7_waysOf 13 = .ok (.getfield 9, 3) := by decide +kernel
theorem dX7_waysOf_16 : decode cX7_waysOf 16 = .ok (.getfield 87, 3) := by decide +kernel
theorem dX7_waysOf_19 : decode cX7_waysOf 19 = .ok (.iload 4, 2) := by decide +kernel
theorem dX7_waysOf_21 : decode cX7_waysOf 21 = .ok (.iaload, 1) := by decide +kernel
theorem dX7_waysOf_22 : decode cX7_waysOf 22 = .ok (.imul, 1) := by decide +kernel
theorem dX7_waysOf_23 : decode cX7_waysOf 23 = .ok (.istore_n 3, 1) := by decide +kernel
theorem dX7_waysOf_24 : decode cX7_waysOf 24 = .ok (.iinc 4 1, 3) := by decide +kernel
theorem dX7_waysOf_27 : decode cX7_waysOf 27 = .ok (.goto (-22), 3) := by decide +kernel
theorem dX7_waysOf_30 : decode cX7_waysOf 30 = .ok (.iload_n 3, 1) := by decide +kernel
theorem dX7_waysOf_31 : decode cX7_waysOf 31 = .ok (.ireturn, 1) := by decide +kernel
set_option maxRecDepth 20000 in
theorem ggX7_rightBeforeEnemy_X7_waysOf : GoodIn wsX7_rightBeforeEnemy wsX7_waysOf := goodIn_r _ [7, 1, 8, 34, 35, 36, 37, 38, 39, 40, 41, 42, 43, 44, 45, 46, 47, 48, 49, 50, 51, 52] (by decide +kernel) (by decide +kernel)
set_option maxRecDepth 20000 in
theorem gX7_rightBeforeEnemy_X7_waysOf : GoodIn wsX7_rightBeforeEnemy (wsV RX7 90 RX7 yX7_waysOf wsX7_waysOf) := goodIn_app (goodIn_of _ (by decide +kernel)) ggX7_rightBeforeEnemy_X7_waysOf
set_option maxRecDepth 20000 in
theorem ggX7_rightBeforeEnemy_X7_span : GoodIn wsX7_rightBeforeEnemy wsX7_span := goodIn_r _ [11, 12] (by decide +kernel) (by decide +kernel)
set_option maxRecDepth 20000 in
theorem gX7_rightBeforeEnemy_X7_span : GoodIn wsX7_rightBeforeEnemy (va_wsS RX7 65 yX7_span wsX7_span) := goodIn_app (goodIn_of _ (by decide +kernel)) ggX7_rightBeforeEnemy_X7_span
set_option maxRecDepth 20000 in
theorem ggX7_rightBeforeEnemy_X7_leastWithin : GoodIn wsX7_rightBeforeEnemy wsX7_leastWithin := goodIn_r _ [16, 17, 18, 19, 20, 21, 22, 23, 24, 6, 25, 26, 27, 28, 29, 30, 31, 32, 33, 34, 35, 36, 37, 38, 39, 40, 41] (by decide +kernel) (by decide +kernel)
set_option maxRecDepth 20000 in
theorem gX7_rightBeforeEnemy_X7_leastWithin : GoodIn wsX7_rightBeforeEnemy (wsV RX7 96 RX7 yX7_leastWithin wsX7_leastWithin) := goodIn_app (goodIn_of _ (by decide +kernel)) ggX7_rightBeforeEnemy_X7_leastWithin
theorem dX7_rightBeforeEnemy_0 : decode cX7_rightBeforeEnemy 0 = .ok (.aload_n 0, 1) := by decide +kernel
theorem dX7_rightBeforeEnemy_1 : decode cX7_rightBeforeEnemy 1 = .ok (.iconst 0, 1) := by decide +kernel
theorem dX7_rightBeforeEnemy_2 : decode cX7_rightBeforeEnemy 2 = .ok (.iload_n 1, 1) := by decide +kernel
theorem dX7_rightBeforeEnemy_3 : decode cX7_rightBeforeEnemy 3 = .ok (.invokevirtual 90, 3) := by decide +kernel
theorem dX7_rightBeforeEnemy_6 : decode cX7_rightBeforeEnemy 6 = .ok (.istore_n 2, 1) := by decide +kernel
theorem dX7_rightBeforeEnemy_7 : decode cX7_rightBeforeEnemy 7 = .ok (.aload_n 0, 1) := by decide +kernel
theorem dX7_rightBeforeEnemy_8 : decode cX7_rightBeforeEnemy 8 = .ok (.iload_n 1, 1) := by decide +kernel
theorem dX7_rightBeforeEnemy_9 : decode cX7_rightBeforeEnemy 9 = .ok (.aload_n 0, 1) := by decide +kernel
theorem dX7_rightBeforeEnemy_10 : decode cX7_rightBeforeEnemy 10 = .ok (.getfield 9, 3) := by decide +kernel
theorem dX7_rightBeforeEnemy_13 : decode cX7_rightBeforeEnemy 13 = .ok (.getfield 93, 3) := by decide +kernel
theorem dX7_rightBeforeEnemy_16 : decode cX7_rightBeforeEnemy 16 = .ok (.invokevirtual 90, 3) := by decide +kernel
theorem dX7_rightBeforeEnemy_19 : decode cX7_rightBeforeEnemy 19 = .ok (.istore_n 3, 1) := by decide +kernel
theorem dX7_rightBeforeEnemy_20 : decode cX7_rightBeforeEnemy 20 = .ok (.iconst 0, 1) := by decide +kernel
theorem dX7_rightBeforeEnemy_21 : decode cX7_rightBeforeEnemy 21 = .ok (.istore 4, 2) := by decide +kernel
theorem dX7_rightBeforeEnemy_23 : decode cX7_rightBeforeEnemy 23 = .ok (.iconst 0, 1) := by decide +kernel
theorem dX7_rightBeforeEnemy_24 : decode cX7_rightBeforeEnemy 24 = .ok (.istore 5, 2) := by decide +kernel
theorem dX7_rightBeforeEnemy_26 : decode cX7_rightBeforeEnemy 26 = .ok (.iload 5, 2) := by decide +kernel
theorem dX7_rightBeforeEnemy_28 : decode cX7_rightBeforeEnemy 28 = .ok (.iload_n 2, 1) := by decide +kernel
theorem dX7_rightBeforeEnemy_29 : decode cX7_rightBeforeEnemy 29 = .ok (.if_icmp .ge 26, 3) := by decide +kernel
theorem dX7_rightBeforeEnemy_32 : decode cX7_rightBeforeEnemy 32 = .ok (.iload 4, 2) := by decide +kernel
theorem dX7_rightBeforeEnemy_34 : decode cX7_rightBeforeEnemy 34 = .ok (.aload_n 0, 1) := by decide +kernel
theorem dX7_rightBeforeEnemy_35 : decode cX7_rightBeforeEnemy 35 = .ok (.iload 5, 2) := by decide +kernel
theorem dX7_rightBeforeEnemy_37 : decode cX7_rightBeforeEnemy 37 = .ok (.iload_n 3, 1) := by decide +kernel
theorem dX7_rightBeforeEnemy_38 : decode cX7_rightBeforeEnemy 38 = .ok (.imul, 1) := by decide +kernel
theorem dX7_rightBeforeEnemy_39 : decode cX7_rightBeforeEnemy 39 = .ok (.iload_n 3, 1) := by decide +kernel
theorem dX7_rightBeforeEnemy_40 : decode cX7_rightBeforeEnemy 40 = .ok (.invokestatic 65, 3) := by decide +kernel
theorem dX7_rightBeforeEnemy_43 : decode cX7_rightBeforeEnemy 43 = .ok (.invokevirtual 96, 3) := by decide +kernel
theorem dX7_rightBeforeEnemy_46 : decode cX7_rightBeforeEnemy 46 = .ok (.iadd, 1) := by decide +kernel
theorem dX7_rightBeforeEnemy_47 : decode cX7_rightBeforeEnemy 47 = .ok (.istore 4, 2) := by decide +kernel
theorem dX7_rightBeforeEnemy_49 : decode cX7_rightBeforeEnemy 49 = .ok (.iinc 5 1, 3) := by decide +kernel
theorem dX7_rightBeforeEnemy_52 : decode cX7_rightBeforeEnemy 52 = .ok (.goto (-26), 3) := by decide +kernel
theorem dX7_rightBeforeEnemy_55 : decode cX7_rightBeforeEnemy 55 = .ok (.iload 4, 2) := by decide +kernel
theorem dX7_rightBeforeEnemy_57 : decode cX7_rightBeforeEnemy 57 = .ok (.ireturn, 1) := by decide +kernel
set_option maxRecDepth 20000 in
theorem ggX7_leastWithin_X7_inputCount : GoodIn wsX7_leastWithin wsX7_inputCount := goodIn_r _ [10, 11, 19, 20, 21, 22, 23, 24, 25, 26] (by decide +kernel) (by decide +kernel)
set_option maxRecDepth 20000 in
theorem gX7_leastWithin_X7_inputCount : GoodIn wsX7_leastWithin (wsV RX7 42 RX7 yX7_inputCount wsX7_inputCount) := goodIn_app (goodIn_of _ (by decide +kernel)) ggX7_leastWithin_X7_inputCount
set_option maxRecDepth 20000 in
theorem ggX7_leastWithin_J13_bitCount_95d88 : GoodIn wsX7_leastWithin wsJ13_bitCount_95d88 := goodIn_r _ [15, 16, 17, 18] (by decide +kernel) (by decide +kernel)
set_option maxRecDepth 20000 in
theorem gX7_leastWithin_J13_bitCount_95d88 : GoodIn wsX7_leastWithin (va_wsS RX7 73 yJ13_bitCount_95d88 wsJ13_bitCount_95d88) := goodIn_app (goodIn_of _ (by decide +kernel)) ggX7_leastWithin_J13_bitCount_95d88
theorem dX7_leastWithin_0 : decode cX7_leastWithin 0 = .ok (.bipush 64, 2) := by decide +kernel
theorem dX7_leastWithin_2 : decode cX7_leastWithin 2 = .ok (.istore_n 3, 1) := by decide +kernel
theorem dX7_leastWithin_3 : decode cX7_leastWithin 3 = .ok (.iconst 0, 1) := by decide +kernel
theorem dX7_leastWithin_4 : decode cX7_leastWithin 4 = .ok (.istore 4, 2) := by decide +kernel
theorem dX7_leastWithin_6 : decode cX7_leastWithin 6 = .ok (.iload 4, 2) := by decide +kernel
theorem dX7_leastWithin_8 : decode cX7_leastWithin 8 = .ok (.aload_n 0, 1) := by decide +kernel
theorem dX7_leastWithin_9 : decode cX7_leastWithin 9 = .ok (.invokevirtual 42, 3) := by decide +kernel
theorem dX7_leastWithin_12 : decode cX7_leastWithin 12 = .ok (.if_icmp .ge 26, 3) := by decide +kernel
theorem dX7_leastWithin_15 : decode cX7_leastWithin 15 = .ok (.iload_n 3, 1) := by decide +kernel
theorem dX7_leastWithin_16 : decode cX7_leastWithin 16 = .ok (.aload_n 0, 1) := by decide +kernel
theorem dX7_leastWithin_17 : decode cX7_leastWithin 17 = .ok (.getfield 17, 3) := by decide +kernel
theorem dX7_leastWithin_20 : decode cX7_leastWithin 20 = .ok (.iload 4, 2) := by decide +kernel
theorem dX7_leastWithin_22 : decode cX7_leastWithin 22 = .ok (.laload, 1) := by decide +kernel
theorem dX7_leastWithin_23 : decode cX7_leastWithin 23 = .ok (.lload_n 1, 1) := by decide +kernel
theorem dX7_leastWithin_24 : decode cX7_leastWithin 24 = .ok (.land, 1) := by decide +kernel
theorem dX7_leastWithin_25 : decode cX7_leastWithin 25 = .ok (.invokestatic 73, 3) := by decide +kernel
theorem dX7_leastWithin_28 : decode cX7_leastWithin 28 = .ok (.invokestatic 99, 3) := by decide +kernel
theorem dX7_leastWithin_31 : decode cX7_leastWithin 31 = .ok (.istore_n 3, 1) := by decide +kernel
theorem dX7_leastWithin_32 : decode cX7_leastWithin 32 = .ok (.iinc 4 1, 3) := by decide +kernel
theorem dX7_leastWithin_35 : decode cX7_leastWithin 35 = .ok (.goto (-29), 3) := by decide +kernel
theorem dX7_leastWithin_38 : decode cX7_leastWithin 38 = .ok (.iload_n 3, 1) := by decide +kernel
theorem dX7_leastWithin_39 : decode cX7_leastWithin 39 = .ok (.ireturn, 1) := by decide +kernel
set_option maxRecDepth 20000 in
theorem ggX7_keptRow_X7_waysOf : GoodIn wsX7_keptRow wsX7_waysOf := goodIn_r _ [8, 1, 3, 25, 26, 27, 28, 29, 30, 31, 32, 33, 34, 35, 36, 37, 38, 39, 40, 41, 42, 43] (by decide +kernel) (by decide +kernel)
set_option maxRecDepth 20000 in
theorem gX7_keptRow_X7_waysOf : GoodIn wsX7_keptRow (wsV RX7 90 RX7 yX7_waysOf wsX7_waysOf) := goodIn_app (goodIn_of _ (by decide +kernel)) ggX7_keptRow_X7_waysOf
set_option maxRecDepth 20000 in
theorem ggX7_keptRow_X7_keptWithin : GoodIn wsX7_keptRow wsX7_keptWithin := goodIn_r _ [12, 13, 14, 15, 7, 16, 17, 18, 19, 20, 21, 22, 23, 24, 25, 26, 27, 28, 29, 30, 31, 32] (by decide +kernel) (by decide +kernel)
set_option maxRecDepth 20000 in
theorem gX7_keptRow_X7_keptWithin : GoodIn wsX7_keptRow (wsV RX7 104 RX7 yX7_keptWithin wsX7_keptWithin) := goodIn_app (goodIn_of _ (by decide +kernel)) ggX7_keptRow_X7_keptWithin
theorem dX7_keptRow_0 : decode cX7_keptRow 0 = .ok (.iconst 0, 1) := by decide +kernel
theorem dX7_keptRow_1 : decode cX7_keptRow 1 = .ok (.istore_n 1, 1) := by decide +kernel
theorem dX7_keptRow_2 : decode cX7_keptRow 2 = .ok (.iconst 0, 1) := by decide +kernel
theorem dX7_keptRow_3 : decode cX7_keptRow 3 = .ok (.istore_n 2, 1) := by decide +kernel
theorem dX7_keptRow_4 : decode cX7_keptRow 4 = .ok (.iload_n 2, 1) := by decide +kernel
theorem dX7_keptRow_5 : decode cX7_keptRow 5 = .ok (.aload_n 0, 1) := by decide +kernel
theorem dX7_keptRow_6 : decode cX7_keptRow 6 = .ok (.getfield 9, 3) := by decide +kernel
theorem dX7_keptRow_9 : decode cX7_keptRow 9 = .ok (.getfield 93, 3) := by decide +kernel
theorem dX7_keptRow_12 : decode cX7_keptRow 12 = .ok (.if_icmp .ge 38, 3) := by decide +kernel
theorem dX7_keptRow_15 : decode cX7_keptRow 15 = .ok (.aload_n 0, 1) := by decide +kernel
theorem dX7_keptRow_16 : decode cX7_keptRow 16 = .ok (.iload_n 1, 1) := by decide +kernel
theorem dX7_keptRow_17 : decode cX7_keptRow 17 = .ok (.aload_n 0, 1) := by decide +kernel
theorem dX7_keptRow_18 : decode cX7_keptRow 18 = .ok (.iload_n 2, 1) := by decide +kernel
theorem dX7_keptRow_19 : decode cX7_keptRow 19 = .ok (.iconst 1, 1) := by decide +kernel
theorem dX7_keptRow_20 : decode cX7_keptRow 20 = .ok (.iadd, 1) := by decide +kernel
theorem dX7_keptRow_21 : decode cX7_keptRow 21 = .ok (.aload_n 0, 1) := by decide +kernel
theorem dX7_keptRow_22 : decode cX7_keptRow 22 = .ok (.getfield 9, 3) := by decide +kernel
theorem dX7_keptRow_25 : decode cX7_keptRow 25 = .ok (.getfield 93, 3) := by decide +kernel
theorem dX7_keptRow_28 : decode cX7_keptRow 28 = .ok (.invokevirtual 90, 3) := by decide +kernel
theorem dX7_keptRow_31 : decode cX7_keptRow 31 = .ok (.aload_n 0, 1) := by decide +kernel
theorem dX7_keptRow_32 : decode cX7_keptRow 32 = .ok (.getfield 9, 3) := by decide +kernel
theorem dX7_keptRow_35 : decode cX7_keptRow 35 = .ok (.getfield 87, 3) := by decide +kernel
theorem dX7_keptRow_38 : decode cX7_keptRow 38 = .ok (.iload_n 2, 1) := by decide +kernel
theorem dX7_keptRow_39 : decode cX7_keptRow 39 = .ok (.iaload, 1) := by decide +kernel
theorem dX7_keptRow_40 : decode cX7_keptRow 40 = .ok (.invokevirtual 104, 3) := by decide +kernel
theorem dX7_keptRow_43 : decode cX7_keptRow 43 = .ok (.istore_n 1, 1) := by decide +kernel
theorem dX7_keptRow_44 : decode cX7_keptRow 44 = .ok (.iinc 2 1, 3) := by decide +kernel
theorem dX7_keptRow_47 : decode cX7_keptRow 47 = .ok (.goto (-43), 3) := by decide +kernel
theorem dX7_keptRow_50 : decode cX7_keptRow 50 = .ok (.iload_n 1, 1) := by decide +kernel
theorem dX7_keptRow_51 : decode cX7_keptRow 51 = .ok (.ireturn, 1) := by decide +kernel
set_option maxRecDepth 20000 in
theorem ggX7_keptWithin_X7_rightInputsWithin : GoodIn wsX7_keptWithin wsX7_rightInputsWithin := goodIn_r _ [5, 6, 7, 8, 9, 10, 11, 12, 13, 14, 15, 16, 17, 18, 19, 20, 21] (by decide +kernel) (by decide +kernel)
set_option maxRecDepth 20000 in
theorem gX7_keptWithin_X7_rightInputsWithin : GoodIn wsX7_keptWithin (wsV RX7 108 RX7 yX7_rightInputsWithin wsX7_rightInputsWithin) := goodIn_app (goodIn_of _ (by decide +kernel)) ggX7_keptWithin_X7_rightInputsWithin
theorem dX7_keptWithin_0 : decode cX7_keptWithin 0 = .ok (.iload_n 1, 1) := by decide +kernel
theorem dX7_keptWithin_1 : decode cX7_keptWithin 1 = .ok (.istore 4, 2) := by decide +kernel
theorem dX7_keptWithin_3 : decode cX7_keptWithin 3 = .ok (.aload_n 0, 1) := by decide +kernel
theorem dX7_keptWithin_4 : decode cX7_keptWithin 4 = .ok (.iload_n 1, 1) := by decide +kernel
theorem dX7_keptWithin_5 : decode cX7_keptWithin 5 = .ok (.iload_n 2, 1) := by decide +kernel
theorem dX7_keptWithin_6 : decode cX7_keptWithin 6 = .ok (.invokevirtual 108, 3) := by decide +kernel
theorem dX7_keptWithin_9 : decode cX7_keptWithin 9 = .ok (.istore 5, 2) := by decide +kernel
theorem dX7_keptWithin_11 : decode cX7_keptWithin 11 = .ok (.iconst 1, 1) := by decide +kernel
theorem dX7_keptWithin_12 : decode cX7_keptWithin 12 = .ok (.istore 6, 2) := by decide +kernel
theorem dX7_keptWithin_14 : decode cX7_keptWithin 14 = .ok (.iload 6, 2) := by decide +kernel
theorem dX7_keptWithin_16 : decode cX7_keptWithin 16 = .ok (.iload_n 3, 1) := by decide +kernel
theorem dX7_keptWithin_17 : decode cX7_keptWithin 17 = .ok (.if_icmp .ge 41, 3) := by decide +kernel
theorem dX7_keptWithin_20 : decode cX7_keptWithin 20 = .ok (.aload_n 0, 1) := by decide +kernel
theorem dX7_keptWithin_21 : decode cX7_keptWithin 21 = .ok (.iload_n 1, 1) := by decide +kernel
theorem dX7_keptWithin_22 : decode cX7_keptWithin 22 = .ok (.iload 6, 2) := by decide +kernel
theorem dX7_keptWithin_24 : decode cX7_keptWithin 24 = .ok (.iload_n 2, 1) := by decide +kernel
theorem dX7_keptWithin_25 : decode cX7_keptWithin 25 = .ok (.imul, 1) := by decide +kernel
theorem dX7_keptWithin_26 : decode cX7_keptWithin 26 = .ok (.iadd, 1) := by decide +kernel
theorem dX7_keptWithin_27 : decode cX7_keptWithin 27 = .ok (.iload_n 2, 1) := by decide +kernel
theorem dX7_keptWithin_28 : decode cX7_keptWithin 28 = .ok (.invokevirtual 108, 3) := by decide +kernel
theorem dX7_keptWithin_31 : decode cX7_keptWithin 31 = .ok (.istore 7, 2) := by decide +kernel
theorem dX7_keptWithin_33 : decode cX7_keptWithin 33 = .ok (.iload 7, 2) := by decide +kernel
theorem dX7_keptWithin_35 : decode cX7_keptWithin 35 = .ok (.iload 5, 2) := by decide +kernel
theorem dX7_keptWithin_37 : decode cX7_keptWithin 37 = .ok (.if_icmp .le 15, 3) := by decide +kernel
theorem dX7_keptWithin_40 : decode cX7_keptWithin 40 = .ok (.iload 7, 2) := by decide +kernel
theorem dX7_keptWithin_42 : decode cX7_keptWithin 42 = .ok (.istore 5, 2) := by decide +kernel
theorem dX7_keptWithin_44 : decode cX7_keptWithin 44 = .ok (.iload_n 1, 1) := by decide +kernel
theorem dX7_keptWithin_45 : decode cX7_keptWithin 45 = .ok (.iload 6, 2) := by decide +kernel
theorem dX7_keptWithin_47 : decode cX7_keptWithin 47 = .ok (.iload_n 2, 1) := by decide +kernel
theorem dX7_keptWithin_48 : decode cX7_keptWithin 48 = .ok (.imul, 1) := by decide +kernel
theorem dX7_keptWithin_49 : decode cX7_keptWithin 49 = .ok (.iadd, 1) := by decide +kernel
theorem dX7_keptWithin_50 : decode cX7_keptWithin 50 = .ok (.istore 4, 2) := by decide +kernel
theorem dX7_keptWithin_52 : decode cX7_keptWithin 52 = .ok (.iinc 6 1, 3) := by decide +kernel
theorem dX7_keptWithin_55 : decode cX7_keptWithin 55 = .ok (.goto (-41), 3) := by decide +kernel
theorem dX7_keptWithin_58 : decode cX7_keptWithin 58 = .ok (.iload 4, 2) := by decide +kernel
theorem dX7_keptWithin_60 : decode cX7_keptWithin 60 = .ok (.ireturn, 1) := by decide +kernel
set_option maxRecDepth 20000 in
theorem ggX7_isGood_J6_bitCount_0f7a4 : GoodIn wsX7_isGood wsJ6_bitCount_0f7a4 := goodIn_r _ [5, 6, 7, 8] (by decide +kernel) (by decide +kernel)
set_option maxRecDepth 20000 in
theorem gX7_isGood_J6_bitCount_0f7a4 : GoodIn wsX7_isGood (va_wsS RX7 83 yJ6_bitCount_0f7a4 wsJ6_bitCount_0f7a4) := goodIn_app (goodIn_of _ (by decide +kernel)) ggX7_isGood_J6_bitCount_0f7a4
set_option maxRecDepth 20000 in
theorem ggX7_isGood_X7_inputCount : GoodIn wsX7_isGood wsX7_inputCount := goodIn_r _ [13, 14, 15, 16, 17, 18, 19, 20, 21, 22] (by decide +kernel) (by decide +kernel)
set_option maxRecDepth 20000 in
theorem gX7_isGood_X7_inputCount : GoodIn wsX7_isGood (wsV RX7 42 RX7 yX7_inputCount wsX7_inputCount) := goodIn_app (goodIn_of _ (by decide +kernel)) ggX7_isGood_X7_inputCount
theorem dX7_isGood_0 : decode cX7_isGood 0 = .ok (.aload_n 0, 1) := by decide +kernel
theorem dX7_isGood_1 : decode cX7_isGood 1 = .ok (.getfield 21, 3) := by decide +kernel
theorem dX7_isGood_4 : decode cX7_isGood 4 = .ok (.iload_n 1, 1) := by decide +kernel
theorem dX7_isGood_5 : decode cX7_isGood 5 = .ok (.iaload, 1) := by decide +kernel
theorem dX7_isGood_6 : decode cX7_isGood 6 = .ok (.invokestatic 83, 3) := by decide +kernel
theorem dX7_isGood_9 : decode cX7_isGood 9 = .ok (.aload_n 0, 1) := by decide +kernel
theorem dX7_isGood_10 : decode cX7_isGood 10 = .ok (.invokevirtual 42, 3) := by decide +kernel
theorem dX7_isGood_13 : decode cX7_isGood 13 = .ok (.if_icmp .ne 7, 3) := by decide +kernel
theorem dX7_isGood_16 : decode cX7_isGood 16 = .ok (.iconst 1, 1) := by decide +kernel
theorem dX7_isGood_17 : decode cX7_isGood 17 = .ok (.goto 4, 3) := by decide +kernel
theorem dX7_isGood_20 : decode cX7_isGood 20 = .ok (.iconst 0, 1) := by decide +kernel
theorem dX7_isGood_21 : decode cX7_isGood 21 = .ok (.ireturn, 1) := by decide +kernel
set_option maxRecDepth 20000 in
theorem ggX7_goodCount_X7_isGood : GoodIn wsX7_goodCount wsX7_isGood := goodIn_r _ [7, 8, 9, 10, 11, 12, 13, 14, 15, 16, 17, 18, 6, 19, 20, 21, 22, 23, 24, 25, 26, 27, 28] (by decide +kernel) (by decide +kernel)
set_option maxRecDepth 20000 in
theorem gX7_goodCount_X7_isGood : GoodIn wsX7_goodCount (wsV RX7 111 RX7 yX7_isGood wsX7_isGood) := goodIn_app (goodIn_of _ (by decide +kernel)) ggX7_goodCount_X7_isGood
theorem dX7_goodCount_0 : decode cX7_goodCount 0 = .ok (.iconst 0, 1) := by decide +kernel
theorem dX7_goodCount_1 : decode cX7_goodCount 1 = .ok (.istore_n 1, 1) := by decide +kernel
theorem dX7_goodCount_2 : decode cX7_goodCount 2 = .ok (.iconst 0, 1) := by decide +kernel
theorem dX7_goodCount_3 : decode cX7_goodCount 3 = .ok (.istore_n 2, 1) := by decide +kernel
theorem dX7_goodCount_4 : decode cX7_goodCount 4 = .ok (.iload_n 2, 1) := by decide +kernel
theorem dX7_goodCount_5 : decode cX7_goodCount 5 = .ok (.aload_n 0, 1) := by decide +kernel
theorem dX7_goodCount_6 : decode cX7_goodCount 6 = .ok (.getfield 9, 3) := by decide +kernel
theorem dX7_goodCount_9 : decode cX7_goodCount 9 = .ok (.getfield 46, 3) := by decide +kernel
theorem dX7_goodCount_12 : decode cX7_goodCount 12 = .ok (.if_icmp .ge 20, 3) := by decide +kernel
theorem dX7_goodCount_15 : decode cX7_goodCount 15 = .ok (.aload_n 0, 1) := by decide +kernel
theorem dX7_goodCount_16 : decode cX7_goodCount 16 = .ok (.iload_n 2, 1) := by decide +kernel
theorem dX7_goodCount_17 : decode cX7_goodCount 17 = .ok (.invokevirtual 111, 3) := by decide +kernel
theorem dX7_goodCount_20 : decode cX7_goodCount 20 = .ok (.ifCond .eq 6, 3) := by decide +kernel
theorem dX7_goodCount_23 : decode cX7_goodCount 23 = .ok (.iinc 1 1, 3) := by decide +kernel
theorem dX7_goodCount_26 : decode cX7_goodCount 26 = .ok (.iinc 2 1, 3) := by decide +kernel
theorem dX7_goodCount_29 : decode cX7_goodCount 29 = .ok (.goto (-25), 3) := by decide +kernel
theorem dX7_goodCount_32 : decode cX7_goodCount 32 = .ok (.iload_n 1, 1) := by decide +kernel
theorem dX7_goodCount_33 : decode cX7_goodCount 33 = .ok (.ireturn, 1) := by decide +kernel
set_option maxRecDepth 20000 in
theorem ggX7_leastGood_X7_isGood : GoodIn wsX7_leastGood wsX7_isGood := goodIn_r _ [7, 8, 9, 10, 11, 12, 13, 14, 15, 16, 17, 18, 6, 19, 20, 21, 22, 23, 24, 25, 26, 27, 28] (by decide +kernel) (by decide +kernel)
set_option maxRecDepth 20000 in
theorem gX7_leastGood_X7_isGood : GoodIn wsX7_leastGood (wsV RX7 111 RX7 yX7_isGood wsX7_isGood) := goodIn_app (goodIn_of _ (by decide +kernel)) ggX7_leastGood_X7_isGood
theorem dX7_leastGood_0 : decode cX7_leastGood 0 = .ok (.iconst 0, 1) := by decide +kernel
theorem dX7_leastGood_1 : decode cX7_leastGood 1 = .ok (.istore_n 1, 1) := by decide +kernel
theorem dX7_leastGood_2 : decode cX7_leastGood 2 = .ok (.iload_n 1, 1) := by decide +kernel
theorem dX7_leastGood_3 : decode cX7_leastGood 3 = .ok (.aload_n 0, 1) := by decide +kernel
theorem dX7_leastGood_4 : decode cX7_leastGood 4 = .ok (.getfield 9, 3) := by decide +kernel
theorem dX7_leastGood_7 : decode cX7_leastGood 7 = .ok (.getfield 46, 3) := by decide +kernel
theorem dX7_leastGood_10 : decode cX7_leastGood 10 = .ok (.if_icmp .ge 19, 3) := by decide +kernel
theorem dX7_leastGood_13 : decode cX7_leastGood 13 = .ok (.aload_n 0, 1) := by decide +kernel
theorem dX7_leastGood_14 : decode cX7_leastGood 14 = .ok (.iload_n 1, 1) := by decide +kernel
theorem dX7_leastGood_15 : decode cX7_leastGood 15 = .ok (.invokevirtual 111, 3) := by decide +kernel
theorem dX7_leastGood_18 : decode cX7_leastGood 18 = .ok (.ifCond .eq 5, 3) := by decide +kernel
theorem dX7_leastGood_21 : decode cX7_leastGood 21 = .ok (.iload_n 1, 1) := by decide +kernel
theorem dX7_leastGood_22 : decode cX7_leastGood 22 = .ok (.ireturn, 1) := by decide +kernel
theorem dX7_leastGood_23 : decode cX7_leastGood 23 = .ok (.iinc 1 1, 3) := by decide +kernel
theorem dX7_leastGood_26 : decode cX7_leastGood 26 = .ok (.goto (-24), 3) := by decide +kernel
theorem dX7_leastGood_29 : decode cX7_leastGood 29 = .ok (.iconst (-1), 1) := by decide +kernel
theorem dX7_leastGood_30 : decode cX7_leastGood 30 = .ok (.ireturn, 1) := by decide +kernel
set_option maxRecDepth 20000 in
theorem ggX7_gatherRows_X7_inputCount : GoodIn wsX7_gatherRows wsX7_inputCount := goodIn_r _ [7, 8, 26, 27, 28, 29, 30, 31, 32, 33] (by decide +kernel) (by decide +kernel)
set_option maxRecDepth 20000 in
theorem gX7_gatherRows_X7_inputCount : GoodIn wsX7_gatherRows (wsV RX7 42 RX7 yX7_inputCount wsX7_inputCount) := goodIn_app (goodIn_of _ (by decide +kernel)) ggX7_gatherRows_X7_inputCount
set_option maxRecDepth 20000 in
theorem ggX7_gatherRows_X7_span : GoodIn wsX7_gatherRows wsX7_span := goodIn_r _ [11, 12] (by decide +kernel) (by decide +kernel)
set_option maxRecDepth 20000 in
theorem gX7_gatherRows_X7_span : GoodIn wsX7_gatherRows (va_wsS RX7 65 yX7_span wsX7_span) := goodIn_app (goodIn_of _ (by decide +kernel)) ggX7_gatherRows_X7_span
set_option maxRecDepth 20000 in
theorem ggX7_gatherRows_X7_rowForMost : GoodIn wsX7_gatherRows wsX7_rowForMost := goodIn_r _ [16, 17, 18, 1, 19, 20, 21, 22, 23, 24, 25, 26, 27, 28, 29, 30, 31, 32, 33, 34, 35, 36, 37, 38, 39, 40, 41, 42, 43, 44] (by decide +kernel) (by decide +kernel)
set_option maxRecDepth 20000 in
theorem gX7_gatherRows_X7_rowForMost : GoodIn wsX7_gatherRows (wsV RX7 114 RX7 yX7_rowForMost wsX7_rowForMost) := goodIn_app (goodIn_of _ (by decide +kernel)) ggX7_gatherRows_X7_rowForMost
theorem dX7_gatherRows_0 : decode cX7_gatherRows 0 = .ok (.iconst 0, 1) := by decide +kernel
theorem dX7_gatherRows_1 : decode cX7_gatherRows 1 = .ok (.aload_n 0, 1) := by decide +kernel
theorem dX7_gatherRows_2 : decode cX7_gatherRows 2 = .ok (.invokevirtual 42, 3) := by decide +kernel
theorem dX7_gatherRows_5 : decode cX7_gatherRows 5 = .ok (.invokestatic 65, 3) := by decide +kernel
theorem dX7_gatherRows_8 : decode cX7_gatherRows 8 = .ok (.l2i, 1) := by decide +kernel
theorem dX7_gatherRows_9 : decode cX7_gatherRows 9 = .ok (.istore_n 1, 1) := by decide +kernel
theorem dX7_gatherRows_10 : decode cX7_gatherRows 10 = .ok (.iconst 0, 1) := by decide +kernel
theorem dX7_gatherRows_11 : decode cX7_gatherRows 11 = .ok (.istore_n 2, 1) := by decide +kernel
theorem dX7_gatherRows_12 : decode cX7_gatherRows 12 = .ok (.iload_n 2, 1) := by decide +kernel
theorem dX7_gatherRows_13 : decode cX7_gatherRows 13 = .ok (.bipush 32, 2) := by decide +kernel
theorem dX7_gatherRows_15 : decode cX7_gatherRows 15 = .ok (.if_icmp .ge 54, 3) := by decide +kernel
theorem dX7_gatherRows_18 : decode cX7_gatherRows 18 = .ok (.aload_n 0, 1) := by decide +kernel
theorem dX7_gatherRows_19 : decode cX7_gatherRows 19 = .ok (.iload_n 1, 1) := by decide +kernel
theorem dX7_gatherRows_20 : decode cX7_gatherRows 20 = .ok (.invokevirtual 114, 3) := by decide +kernel
theorem dX7_gatherRows_23 : decode cX7_gatherRows 23 = .ok (.istore_n 3, 1) := by decide +kernel
theorem dX7_gatherRows_24 : decode cX7_gatherRows 24 = .ok (.aload_n 0, 1) := by decide +kernel
theorem dX7_gatherRows_25 : decode cX7_gatherRows 25 = .ok (.getfield 21, 3) := by decide +kernel
theorem dX7_gatherRows_28 : decode cX7_gatherRows 28 = .ok (.iload_n 3, 1) := by decide +kernel
theorem dX7_gatherRows_29 : decode cX7_gatherRows 29 = .ok (.iaload, 1) := by decide +kernel
theorem dX7_gatherRows_30 : decode cX7_gatherRows 30 = .ok (.iload_n 1, 1) := by decide +kernel
theorem dX7_gatherRows_31 : decode cX7_gatherRows 31 = .ok (.iand, 1) := by decide +kernel
theorem dX7_gatherRows_32 : decode cX7_gatherRows 32 = .ok (.ifCond .ne 5, 3) := by decide +kernel
theorem dX7_gatherRows_35 : decode cX7_gatherRows 35 = .ok (.iconst (-1), 1) := by decide +kernel
theorem dX7_gatherRows_36 : decode cX7_gatherRows 36 = .ok (.ireturn, 1) := by decide +kernel
theorem dX7_gatherRows_37 : decode cX7_gatherRows 37 = .ok (.aload_n 0, 1) := by decide +kernel
theorem dX7_gatherRows_38 : decode cX7_gatherRows 38 = .ok (.getfield 25, 3) := by decide +kernel
theorem dX7_gatherRows_41 : decode cX7_gatherRows 41 = .ok (.iload_n 2, 1) := by decide +kernel
theorem dX7_gatherRows_42 : decode cX7_gatherRows 42 = .ok (.iload_n 3, 1) := by decide +kernel
theorem dX7_gatherRows_43 : decode cX7_gatherRows 43 = .ok (.iastore, 1) := by decide +kernel
theorem dX7_gatherRows_44 : decode cX7_gatherRows 44 = .ok (.iload_n 1, 1) := by decide +kernel
theorem dX7_gatherRows_45 : decode cX7_gatherRows 45 = .ok (.aload_n 0, 1) := by decide +kernel
theorem dX7_gatherRows_46 : decode cX7_gatherRows 46 = .ok (.getfield 21, 3) := by decide +kernel
theorem dX7_gatherRows_49 : decode cX7_gatherRows 49 = .ok (.iload_n 3, 1) := by decide +kernel
theorem dX7_gatherRows_50 : decode cX7_gatherRows 50 = .ok (.iaload, 1) := by decide +kernel
theorem dX7_gatherRows_51 : decode cX7_gatherRows 51 = .ok (.iconst (-1), 1) := by decide +kernel
theorem dX7_gatherRows_52 : decode cX7_gatherRows 52 = .ok (.ixor, 1) := by decide +kernel
theorem dX7_gatherRows_53 : decode cX7_gatherRows 53 = .ok (.iand, 1) := by decide +kernel
theorem dX7_gatherRows_54 : decode cX7_gatherRows 54 = .ok (.istore_n 1, 1) := by decide +kernel
theorem dX7_gatherRows_55 : decode cX7_gatherRows 55 = .ok (.iload_n 1, 1) := by decide +kernel
theorem dX7_gatherRows_56 : decode cX7_gatherRows 56 = .ok (.ifCond .ne 7, 3) := by decide +kernel
theorem dX7_gatherRows_59 : decode cX7_gatherRows 59 = .ok (.iload_n 2, 1) := by decide +kernel
theorem dX7_gatherRows_60 : decode cX7_gatherRows 60 = .ok (.iconst 1, 1) := by decide +kernel
theorem dX7_gatherRows_61 : decode cX7_gatherRows 61 = .ok (.iadd, 1) := by decide +kernel
theorem dX7_gatherRows_62 : decode cX7_gatherRows 62 = .ok (.ireturn, 1) := by decide +kernel
theorem dX7_gatherRows_63 : decode cX7_gatherRows 63 = .ok (.iinc 2 1, 3) := by decide +kernel
theorem dX7_gatherRows_66 : decode cX7_gatherRows 66 = .ok (.goto (-54), 3) := by decide +kernel
theorem dX7_gatherRows_69 : decode cX7_gatherRows 69 = .ok (.iconst (-1), 1) := by decide +kernel
theorem dX7_gatherRows_70 : decode cX7_gatherRows 70 = .ok (.ireturn, 1) := by decide +kernel
set_option maxRecDepth 20000 in
theorem ggX7_rowForMost_J6_bitCount_0f7a4 : GoodIn wsX7_rowForMost wsJ6_bitCount_0f7a4 := goodIn_r _ [7, 8, 9, 10] (by decide +kernel) (by decide +kernel)
set_option maxRecDepth 20000 in
theorem gX7_rowForMost_J6_bitCount_0f7a4 : GoodIn wsX7_rowForMost (va_wsS RX7 83 yJ6_bitCount_0f7a4 wsJ6_bitCount_0f7a4) := goodIn_app (goodIn_of _ (by decide +kernel)) ggX7_rowForMost_J6_bitCount_0f7a4
theorem dX7_rowForMost_0 : decode cX7_rowForMost 0 = .ok (.iconst 0, 1) := by decide +kernel
theorem dX7_rowForMost_1 : decode cX7_rowForMost 1 = .ok (.istore_n 2, 1) := by decide +kernel
theorem dX7_rowForMost_2 : decode cX7_rowForMost 2 = .ok (.iconst 0, 1) := by decide +kernel
theorem dX7_rowForMost_3 : decode cX7_rowForMost 3 = .ok (.istore_n 3, 1) := by decide +kernel
theorem dX7_rowForMost_4 : decode cX7_rowForMost 4 = .ok (.iconst 0, 1) := by decide +kernel
theorem dX7_rowForMost_5 : decode cX7_rowForMost 5 = .ok (.istore 4, 2) := by decide +kernel
theorem dX7_rowForMost_7 : decode cX7_rowForMost 7 = .ok (.iload 4, 2) := by decide +kernel
theorem dX7_rowForMost_9 : decode cX7_rowForMost 9 = .ok (.aload_n 0, 1) := by decide +kernel
theorem dX7_rowForMost_10 : decode cX7_rowForMost 10 = .ok (.getfield 9, 3) := by decide +kernel
theorem dX7_rowForMost_13 : decode cX7_rowForMost 13 = .ok (.getfield 46, 3) := by decide +kernel
theorem dX7_rowForMost_16 : decode cX7_rowForMost 16 = .ok (.if_icmp .ge 35, 3) := by decide +kernel
theorem dX7_rowForMost_19 : decode cX7_rowForMost 19 = .ok (.aload_n 0, 1) := by decide +kernel
theorem dX7_rowForMost_20 : decode cX7_rowForMost 20 = .ok (.getfield 21, 3) := by decide +kernel
theorem dX7_rowForMost_23 : decode cX7_rowForMost 23 = .ok (.iload 4, 2) := by decide +kernel
theorem dX7_rowForMost_25 : decode cX7_rowForMost 25 = .ok (.iaload, 1) := by decide +kernel
theorem dX7_rowForMost_26 : decode cX7_rowForMost 26 = .ok (.iload_n 1, 1) := by decide +kernel
theorem dX7_rowForMost_27 : decode cX7_rowForMost 27 = .ok (.iand, 1) := by decide +kernel
theorem dX7_rowForMost_28 : decode cX7_rowForMost 28 = .ok (.invokestatic 83, 3) := by decide +kernel
theorem dX7_rowForMost_31 : decode cX7_rowForMost 31 = .ok (.istore 5, 2) := by decide +kernel
theorem dX7_rowForMost_33 : decode cX7_rowForMost 33 = .ok (.iload 5, 2) := by decide +kernel
theorem dX7_rowForMost_35 : decode cX7_rowForMost 35 = .ok (.iload_n 3, 1) := by decide +kernel
theorem dX7_rowForMost_36 : decode cX7_rowForMost 36 = .ok (.if_icmp .le 9, 3) := by decide +kernel
theorem dX7_rowForMost_39 : decode cX7_rowForMost 39 = .ok (.iload 5, 2) := by decide +kernel
theorem dX7_rowForMost_41 : decode cX7_rowForMost 41 = .ok (.istore_n 3, 1) := by decide +kernel
theorem dX7_rowForMost_42 : decode cX7_rowForMost 42 = .ok (.iload 4, 2) := by decide +kernel
theorem dX7_rowForMost_44 : decode cX7_rowForMost 44 = .ok (.istore_n 2, 1) := by decide +kernel
theorem dX7_rowForMost_45 : decode cX7_rowForMost 45 = .ok (.iinc 4 1, 3) := by decide +kernel
theorem dX7_rowForMost_48 : decode cX7_rowForMost 48 = .ok (.goto (-41), 3) := by decide +kernel
theorem dX7_rowForMost_51 : decode cX7_rowForMost 51 = .ok (.iload_n 2, 1) := by decide +kernel
theorem dX7_rowForMost_52 : decode cX7_rowForMost 52 = .ok (.ireturn, 1) := by decide +kernel
set_option maxRecDepth 20000 in
theorem ggX7_runsForMajority_X7_worstInput : GoodIn wsX7_runsForMajority wsX7_worstInput := goodIn_r _ [8, 9, 10, 11, 7, 12, 13, 14, 15, 16, 17, 18, 19, 20, 21, 22, 23, 24, 25, 38, 39, 40, 41, 42, 43, 44, 45] (by decide +kernel) (by decide +kernel)
set_option maxRecDepth 20000 in
theorem gX7_runsForMajority_X7_worstInput : GoodIn wsX7_runsForMajority (wsV RX7 117 RX7 yX7_worstInput wsX7_worstInput) := goodIn_app (goodIn_of _ (by decide +kernel)) ggX7_runsForMajority_X7_worstInput
set_option maxRecDepth 20000 in
theorem ggX7_runsForMajority_X7_rightCount : GoodIn wsX7_runsForMajority wsX7_rightCount := goodIn_r _ [17, 18, 19, 20, 21, 22, 23, 24, 25, 38, 39, 40, 41, 42, 43, 44, 45] (by decide +kernel) (by decide +kernel)
set_option maxRecDepth 20000 in
theorem gX7_runsForMajority_X7_rightCount : GoodIn wsX7_runsForMajority (wsV RX7 79 RX7 yX7_rightCount wsX7_rightCount) := goodIn_app (goodIn_of _ (by decide +kernel)) ggX7_runsForMajority_X7_rightCount
set_option maxRecDepth 20000 in
theorem ggX7_runsForMajority_J7_fill_d0a16 : GoodIn wsX7_runsForMajority wsJ7_fill_d0a16 := goodIn_r _ [29] (by decide +kernel) (by decide +kernel)
set_option maxRecDepth 20000 in
theorem gX7_runsForMajority_J7_fill_d0a16 : GoodIn wsX7_runsForMajority (va_wsS RX7 120 yJ7_fill_d0a16 wsJ7_fill_d0a16) := goodIn_app (goodIn_of _ (by decide +kernel)) ggX7_runsForMajority_J7_fill_d0a16
set_option maxRecDepth 20000 in
theorem ggX7_runsForMajority_X7_addRun : GoodIn wsX7_runsForMajority wsX7_addRun := goodIn_r _ [33, 2, 3, 1, 38, 39, 40, 41, 42, 43, 44, 45, 46, 47, 48, 49, 50, 51, 52, 53, 54, 55, 56] (by decide +kernel) (by decide +kernel)
set_option maxRecDepth 20000 in
theorem gX7_runsForMajority_X7_addRun : GoodIn wsX7_runsForMajority (wsV RX7 123 RX7 yX7_addRun wsX7_addRun) := goodIn_app (goodIn_of _ (by decide +kernel)) ggX7_runsForMajority_X7_addRun
set_option maxRecDepth 20000 in
theorem ggX7_runsForMajority_X7_majorityWays : GoodIn wsX7_runsForMajority wsX7_majorityWays := goodIn_r _ [37, 1, 38, 39, 40, 41, 42, 43, 44, 45] (by decide +kernel) (by decide +kernel)
set_option maxRecDepth 20000 in
theorem gX7_runsForMajority_X7_majorityWays : GoodIn wsX7_runsForMajority (wsV RX7 127 RX7 yX7_majorityWays wsX7_majorityWays) := goodIn_app (goodIn_of _ (by decide +kernel)) ggX7_runsForMajority_X7_majorityWays
theorem dX7_runsForMajority_0 : decode cX7_runsForMajority 0 = .ok (.aload_n 0, 1) := by decide +kernel
theorem dX7_runsForMajority_1 : decode cX7_runsForMajority 1 = .ok (.aload_n 0, 1) := by decide +kernel
theorem dX7_runsForMajority_2 : decode cX7_runsForMajority 2 = .ok (.invokevirtual 117, 3) := by decide +kernel
theorem dX7_runsForMajority_5 : decode cX7_runsForMajority 5 = .ok (.invokevirtual 79, 3) := by decide +kernel
theorem dX7_runsForMajority_8 : decode cX7_runsForMajority 8 = .ok (.istore_n 3, 1) := by decide +kernel
theorem dX7_runsForMajority_9 : decode cX7_runsForMajority 9 = .ok (.lconst 1, 1) := by decide +kernel
theorem dX7_runsForMajority_10 : decode cX7_runsForMajority 10 = .ok (.lstore 4, 2) := by decide +kernel
theorem dX7_runsForMajority_12 : decode cX7_runsForMajority 12 = .ok (.aload_n 0, 1) := by decide +kernel
theorem dX7_runsForMajority_13 : decode cX7_runsForMajority 13 = .ok (.getfield 28, 3) := by decide +kernel
theorem dX7_runsForMajority_16 : decode cX7_runsForMajority 16 = .ok (.lconst 0, 1) := by decide +kernel
theorem dX7_runsForMajority_17 : decode cX7_runsForMajority 17 = .ok (.invokestatic 120, 3) := by decide +kernel
theorem dX7_runsForMajority_20 : decode cX7_runsForMajority 20 = .ok (.aload_n 0, 1) := by decide +kernel
theorem dX7_runsForMajority_21 : decode cX7_runsForMajority 21 = .ok (.getfield 28, 3) := by decide +kernel
theorem dX7_runsForMajority_24 : decode cX7_runsForMajority 24 = .ok (.iconst 0, 1) := by decide +kernel
theorem dX7_runsForMajority_25 : decode cX7_runsForMajority 25 = .ok (.lconst 1, 1) := by decide +kernel
theorem dX7_runsForMajority_26 : decode cX7_runsForMajority 26 = .ok (.lastore, 1) := by decide +kernel
theorem dX7_runsForMajority_27 : decode cX7_runsForMajority 27 = .ok (.iconst 1, 1) := by decide +kernel
theorem dX7_runsForMajority_28 : decode cX7_runsForMajority 28 = .ok (.istore 6, 2) := by decide +kernel
theorem dX7_runsForMajority_30 : decode cX7_runsForMajority 30 = .ok (.iload 6, 2) := by decide +kernel
theorem dX7_runsForMajority_32 : decode cX7_runsForMajority 32 = .ok (.bipush 7, 2) := by decide +kernel
theorem dX7_runsForMajority_34 : decode cX7_runsForMajority 34 = .ok (.if_icmp .gt 56, 3) := by decide +kernel
theorem dX7_runsForMajority_37 : decode cX7_runsForMajority 37 = .ok (.aload_n 0, 1) := by decide +kernel
theorem dX7_runsForMajority_38 : decode cX7_runsForMajority 38 = .ok (.iload_n 3, 1) := by decide +kernel
theorem dX7_runsForMajority_39 : decode cX7_runsForMajority 39 = .ok (.invokevirtual 123, 3) := by decide +kernel
theorem dX7_runsForMajority_42 : decode cX7_runsForMajority 42 = .ok (.lload 4, 2) := by decide +kernel
theorem dX7_runsForMajority_44 : decode cX7_runsForMajority 44 = .ok (.aload_n 0, 1) := by decide +kernel
theorem dX7_runsForMajority_45 : decode cX7_runsForMajority 45 = .ok (.getfield 9, 3) := by decide +kernel
theorem dX7_runsForMajority_48 : decode cX7_runsForMajority 48 = .ok (.getfield 46, 3) := by decide +kernel
theorem dX7_runsForMajority_51 : decode cX7_runsForMajority 51 = .ok (.i2l, 1) := by decide +kernel
theorem dX7_runsForMajority_52 : decode cX7_runsForMajority 52 = .ok (.lmul, 1) := by decide +kernel
theorem dX7_runsForMajority_53 : decode cX7_runsForMajority 53 = .ok (.lstore 4, 2) := by decide +kernel
theorem dX7_runsForMajority_55 : decode cX7_runsForMajority 55 = .ok (.iload 6, 2) := by decide +kernel
theorem dX7_runsForMajority_57 : decode cX7_runsForMajority 57 = .ok (.iconst 1, 1) := by decide +kernel
theorem dX7_runsForMajority_58 : decode cX7_runsForMajority 58 = .ok (.iand, 1) := by decide +kernel
theorem dX7_runsForMajority_59 : decode cX7_runsForMajority 59 = .ok (.iconst 1, 1) := by decide +kernel
theorem dX7_runsForMajority_60 : decode cX7_runsForMajority 60 = .ok (.if_icmp .ne 24, 3) := by decide +kernel
theorem dX7_runsForMajority_63 : decode cX7_runsForMajority 63 = .ok (.aload_n 0, 1) := by decide +kernel
theorem dX7_runsForMajority_64 : decode cX7_runsForMajority 64 = .ok (.iload 6, 2) := by decide +kernel
theorem dX7_runsForMajority_66 : decode cX7_runsForMajority 66 = .ok (.invokevirtual 127, 3) := by decide +kernel
theorem dX7_runsForMajority_69 : decode cX7_runsForMajority 69 = .ok (.iload_n 2, 1) := by decide +kernel
theorem dX7_runsForMajority_70 : decode cX7_runsForMajority 70 = .ok (.i2l, 1) := by decide +kernel
theorem dX7_runsForMajority_71 : decode cX7_runsForMajority 71 = .ok (.lmul, 1) := by decide +kernel
theorem dX7_runsForMajority_72 : decode cX7_runsForMajority 72 = .ok (.iload_n 1, 1) := by decide +kernel
theorem dX7_runsForMajority_73 : decode cX7_runsForMajority 73 = .ok (.i2l, 1) := by decide +kernel
theorem dX7_runsForMajority_74 : decode cX7_runsForMajority 74 = .ok (.lload 4, 2) := by decide +kernel
theorem dX7_runsForMajority_76 : decode cX7_runsForMajority 76 = .ok (.lmul, 1) := by decide +kernel
theorem dX7_runsForMajority_77 : decode cX7_runsForMajority 77 = .ok (.lcmp, 1) := by decide +kernel
theorem dX7_runsForMajority_78 : decode cX7_runsForMajority 78 = .ok (.ifCond .lt 6, 3) := by decide +kernel
theorem dX7_runsForMajority_81 : decode cX7_runsForMajority 81 = .ok (.iload 6, 2) := by decide +kernel
theorem dX7_runsForMajority_83 : decode cX7_runsForMajority 83 = .ok (.ireturn, 1) := by decide +kernel
theorem dX7_runsForMajority_84 : decode cX7_runsForMajority 84 = .ok (.iinc 6 1, 3) := by decide +kernel
theorem dX7_runsForMajority_87 : decode cX7_runsForMajority 87 = .ok (.goto (-57), 3) := by decide +kernel
theorem dX7_runsForMajority_90 : decode cX7_runsForMajority 90 = .ok (.iconst (-1), 1) := by decide +kernel
theorem dX7_runsForMajority_91 : decode cX7_runsForMajority 91 = .ok (.ireturn, 1) := by decide +kernel
theorem dX7_addRun_0 : decode cX7_addRun 0 = .ok (.aload_n 0, 1) := by decide +kernel
theorem dX7_addRun_1 : decode cX7_addRun 1 = .ok (.getfield 9, 3) := by decide +kernel
theorem dX7_addRun_4 : decode cX7_addRun 4 = .ok (.getfield 46, 3) := by decide +kernel
theorem dX7_addRun_7 : decode cX7_addRun 7 = .ok (.iload_n 1, 1) := by decide +kernel
theorem dX7_addRun_8 : decode cX7_addRun 8 = .ok (.isub, 1) := by decide +kernel
theorem dX7_addRun_9 : decode cX7_addRun 9 = .ok (.istore_n 2, 1) := by decide +kernel
theorem dX7_addRun_10 : decode cX7_addRun 10 = .ok (.bipush 7, 2) := by decide +kernel
theorem dX7_addRun_12 : decode cX7_addRun 12 = .ok (.istore_n 3, 1) := by decide +kernel
theorem dX7_addRun_13 : decode cX7_addRun 13 = .ok (.iload_n 3, 1) := by decide +kernel
theorem dX7_addRun_14 : decode cX7_addRun 14 = .ok (.ifCond .le 36, 3) := by decide +kernel
theorem dX7_addRun_17 : decode cX7_addRun 17 = .ok (.aload_n 0, 1) := by decide +kernel
theorem dX7_addRun_18 : decode cX7_addRun 18 = .ok (.getfield 28, 3) := by decide +kernel
theorem dX7_addRun_21 : decode cX7_addRun 21 = .ok (.iload_n 3, 1) := by decide +kernel
theorem dX7_addRun_22 : decode cX7_addRun 22 = .ok (.aload_n 0, 1) := by decide +kernel
theorem dX7_addRun_23 : decode cX7_addRun 23 = .ok (.getfield 28, 3) := by decide +kernel
theorem dX7_addRun_26 : decode cX7_addRun 26 = .ok (.iload_n 3, 1) := by decide +kernel
theorem dX7_addRun_27 : decode cX7_addRun 27 = .ok (.laload, 1) := by decide +kernel
theorem dX7_addRun_28 : decode cX7_addRun 28 = .ok (.iload_n 2, 1) := by decide +kernel
theorem dX7_addRun_29 : decode cX7_addRun 29 = .ok (.i2l, 1) := by decide +kernel
theorem dX7_addRun_30 : decode cX7_addRun 30 = .ok (.lmul, 1) := by decide +kernel
theorem dX7_addRun_31 : decode cX7_addRun 31 = .ok (.aload_n 0, 1) := by decide +kernel
theorem dX7_addRun_32 : decode cX7_addRun 32 = .ok (.getfield 28, 3) := by decide +kernel
theorem dX7_addRun_35 : decode cX7_addRun 35 = .ok (.iload_n 3, 1) := by decide +kernel
theorem dX7_addRun_36 : decode cX7_addRun 36 = .ok (.iconst 1, 1) := by decide +kernel
theorem dX7_addRun_37 : decode cX7_addRun 37 = .ok (.isub, 1) := by decide +kernel
theorem dX7_addRun_38 : decode cX7_addRun 38 = .ok (.laload, 1) := by decide +kernel
theorem dX7_addRun_39 : decode cX7_addRun 39 = .ok (.iload_n 1, 1) := by decide +kernel
theorem dX7_addRun_40 : decode cX7_addRun 40 = .ok (.i2l, 1) := by decide +kernel
theorem dX7_addRun_41 : decode cX7_addRun 41 = .ok (.lmul, 1) := by decide +kernel
theorem dX7_addRun_42 : decode cX7_addRun 42 = .ok (.ladd, 1) := by decide +kernel
theorem dX7_addRun_43 : decode cX7_addRun 43 = .ok (.lastore, 1) := by decide +kernel
theorem dX7_addRun_44 : decode cX7_addRun 44 = .ok (.iinc 3 (-1), 3) := by decide +kernel
theorem dX7_addRun_47 : decode cX7_addRun 47 = .ok (.goto (-34), 3) := by decide +kernel
theorem dX7_addRun_50 : decode cX7_addRun 50 = .ok (.aload_n 0, 1) := by decide +kernel
theorem dX7_addRun_51 : decode cX7_addRun 51 = .ok (.getfield 28, 3) := by decide +kernel
theorem dX7_addRun_54 : decode cX7_addRun 54 = .ok (.iconst 0, 1) := by decide +kernel
theorem dX7_addRun_55 : decode cX7_addRun 55 = .ok (.dup2, 1) := by decide +kernel
theorem dX7_addRun_56 : decode cX7_addRun 56 = .ok (.laload, 1) := by decide +kernel
theorem dX7_addRun_57 : decode cX7_addRun 57 = .ok (.iload_n 2, 1) := by decide +kernel
theorem dX7_addRun_58 : decode cX7_addRun 58 = .ok (.i2l, 1) := by decide +kernel
theorem dX7_addRun_59 : decode cX7_addRun 59 = .ok (.lmul, 1) := by decide +kernel
theorem dX7_addRun_60 : decode cX7_addRun 60 = .ok (.lastore, 1) := by decide +kernel
theorem dX7_addRun_61 : decode cX7_addRun 61 = .ok (.return_, 1) := by decide +kernel
theorem dX7_majorityWays_0 : decode cX7_majorityWays 0 = .ok (.lconst 0, 1) := by decide +kernel
theorem dX7_majorityWays_1 : decode cX7_majorityWays 1 = .ok (.lstore_n 2, 1) := by decide +kernel
theorem dX7_majorityWays_2 : decode cX7_majorityWays 2 = .ok (.iload_n 1, 1) := by decide +kernel
theorem dX7_majorityWays_3 : decode cX7_majorityWays 3 = .ok (.iconst 2, 1) := by decide +kernel
theorem dX7_majorityWays_4 : decode cX7_majorityWays 4 = .ok (.idiv, 1) := by decide +kernel
theorem dX7_majorityWays_5 : decode cX7_majorityWays 5 = .ok (.iconst 1, 1) := by decide +kernel
theorem dX7_majorityWays_6 : decode cX7_majorityWays 6 = .ok (.iadd, 1) := by decide +kernel
theorem dX7_majorityWays_7 : decode cX7_majorityWays 7 = .ok (.istore 4, 2) := by decide +kernel
theorem dX7_majorityWays_9 : decode cX7_majorityWays 9 = .ok (.iload 4, 2) := by decide +kernel
theorem dX7_majorityWays_11 : decode cX7_majorityWays 11 = .ok (.iload_n 1, 1) := by decide +kernel
theorem dX7_majorityWays_12 : decode cX7_majorityWays 12 = .ok (.if_icmp .gt 19, 3) := by decide +kernel
theorem dX7_majorityWays_15 : decode cX7_majorityWays 15 = .ok (.lload_n 2, 1) := by decide +kernel
theorem dX7_majorityWays_16 : decode cX7_majorityWays 16 = .ok (.aload_n 0, 1) := by decide +kernel
theorem dX7_majorityWays_17 : decode cX7_majorityWays 17 = .ok (.getfield 28, 3) := by decide +kernel
theorem dX7_majorityWays_20 : decode cX7_majorityWays 20 = .ok (.iload 4, 2) := by decide +kernel
theorem dX7_majorityWays_22 : decode cX7_majorityWays 22 = .ok (.laload, 1) := by decide +kernel
theorem dX7_majorityWays_23 : decode cX7_majorityWays 23 = .ok (.ladd, 1) := by decide +kernel
theorem dX7_majorityWays_24 : decode cX7_majorityWays 24 = .ok (.lstore_n 2, 1) := by decide +kernel
theorem dX7_majorityWays_25 : decode cX7_majorityWays 25 = .ok (.iinc 4 1, 3) := by decide +kernel
theorem dX7_majorityWays_28 : decode cX7_majorityWays 28 = .ok (.goto (-19), 3) := by decide +kernel
theorem dX7_majorityWays_31 : decode cX7_majorityWays 31 = .ok (.lload_n 2, 1) := by decide +kernel
theorem dX7_majorityWays_32 : decode cX7_majorityWays 32 = .ok (.lreturn, 1) := by decide +kernel
set_option maxRecDepth 20000 in
theorem ggX7_runsForOne_X7_worstInput : GoodIn wsX7_runsForOne wsX7_worstInput := goodIn_r _ [7, 8, 9, 10, 6, 11, 12, 13, 14, 15, 16, 17, 18, 19, 20, 21, 22, 23, 24, 25, 26, 27, 28, 29, 30, 31, 32] (by decide +kernel) (by decide +kernel)
set_option maxRecDepth 20000 in
theorem gX7_runsForOne_X7_worstInput : GoodIn wsX7_runsForOne (wsV RX7 117 RX7 yX7_worstInput wsX7_worstInput) := goodIn_app (goodIn_of _ (by decide +kernel)) ggX7_runsForOne_X7_worstInput
set_option maxRecDepth 20000 in
theorem ggX7_runsForOne_X7_rightCount : GoodIn wsX7_runsForOne wsX7_rightCount := goodIn_r _ [16, 17, 18, 19, 20, 21, 22, 23, 24, 25, 26, 27, 28, 29, 30, 31, 32] (by decide +kernel) (by decide +kernel)
set_option maxRecDepth 20000 in
theorem gX7_runsForOne_X7_rightCount : GoodIn wsX7_runsForOne (wsV RX7 79 RX7 yX7_rightCount wsX7_rightCount) := goodIn_app (goodIn_of _ (by decide +kernel)) ggX7_runsForOne_X7_rightCount
theorem dX7_runsForOne_0 : decode cX7_runsForOne 0 = .ok (.aload_n 0, 1) := by decide +kernel
theorem dX7_runsForOne_1 : decode cX7_runsForOne 1 = .ok (.getfield 9, 3) := by decide +kernel
theorem dX7_runsForOne_4 : decode cX7_runsForOne 4 = .ok (.getfield 46, 3) := by decide +kernel
theorem dX7_runsForOne_7 : decode cX7_runsForOne 7 = .ok (.aload_n 0, 1) := by decide +kernel
theorem dX7_runsForOne_8 : decode cX7_runsForOne 8 = .ok (.aload_n 0, 1) := by decide +kernel
theorem dX7_runsForOne_9 : decode cX7_runsForOne 9 = .ok (.invokevirtual 117, 3) := by decide +kernel
theorem dX7_runsForOne_12 : decode cX7_runsForOne 12 = .ok (.invokevirtual 79, 3) := by decide +kernel
theorem dX7_runsForOne_15 : decode cX7_runsForOne 15 = .ok (.isub, 1) := by decide +kernel
theorem dX7_runsForOne_16 : decode cX7_runsForOne 16 = .ok (.istore_n 3, 1) := by decide +kernel
theorem dX7_runsForOne_17 : decode cX7_runsForOne 17 = .ok (.lconst 1, 1) := by decide +kernel
theorem dX7_runsForOne_18 : decode cX7_runsForOne 18 = .ok (.lstore 4, 2) := by decide +kernel
theorem dX7_runsForOne_20 : decode cX7_runsForOne 20 = .ok (.lconst 1, 1) := by decide +kernel
theorem dX7_runsForOne_21 : decode cX7_runsForOne 21 = .ok (.lstore 6, 2) := by decide +kernel
theorem dX7_runsForOne_23 : decode cX7_runsForOne 23 = .ok (.iconst 1, 1) := by decide +kernel
theorem dX7_runsForOne_24 : decode cX7_runsForOne 24 = .ok (.istore 8, 2) := by decide +kernel
theorem dX7_runsForOne_26 : decode cX7_runsForOne 26 = .ok (.iload 8, 2) := by decide +kernel
theorem dX7_runsForOne_28 : decode cX7_runsForOne 28 = .ok (.bipush 7, 2) := by decide +kernel
theorem dX7_runsForOne_30 : decode cX7_runsForOne 30 = .ok (.if_icmp .gt 46, 3) := by decide +kernel
theorem dX7_runsForOne_33 : decode cX7_runsForOne 33 = .ok (.lload 4, 2) := by decide +kernel
theorem dX7_runsForOne_35 : decode cX7_runsForOne 35 = .ok (.aload_n 0, 1) := by decide +kernel
theorem dX7_runsForOne_36 : decode cX7_runsForOne 36 = .ok (.getfield 9, 3) := by decide +kernel
theorem dX7_runsForOne_39 : decode cX7_runsForOne 39 = .ok (.getfield 46, 3) := by decide +kernel
theorem dX7_runsForOne_42 : decode cX7_runsForOne 42 = .ok (.i2l, 1) := by decide +kernel
theorem dX7_runsForOne_43 : decode cX7_runsForOne 43 = .ok (.lmul, 1) := by decide +kernel
theorem dX7_runsForOne_44 : decode cX7_runsForOne 44 = .ok (.lstore 4, 2) := by decide +kernel
theorem dX7_runsForOne_46 : decode cX7_runsForOne 46 = .ok (.lload 6, 2) := by decide +kernel
theorem dX7_runsForOne_48 : decode cX7_runsForOne 48 = .ok (.iload_n 3, 1) := by decide +kernel
theorem dX7_runsForOne_49 : decode cX7_runsForOne 49 = .ok (.i2l, 1) := by decide +kernel
theorem dX7_runsForOne_50 : decode cX7_runsForOne 50 = .ok (.lmul, 1) := by decide +kernel
theorem dX7_runsForOne_51 : decode cX7_runsForOne 51 = .ok (.lstore 6, 2) := by decide +kernel
theorem dX7_runsForOne_53 : decode cX7_runsForOne 53 = .ok (.lload 6, 2) := by decide +kernel
theorem dX7_runsForOne_55 : decode cX7_runsForOne 55 = .ok (.iload_n 2, 1) := by decide +kernel
theorem dX7_runsForOne_56 : decode cX7_runsForOne 56 = .ok (.i2l, 1) := by decide +kernel
theorem dX7_runsForOne_57 : decode cX7_runsForOne 57 = .ok (.lmul, 1) := by decide +kernel
theorem dX7_runsForOne_58 : decode cX7_runsForOne 58 = .ok (.iload_n 1, 1) := by decide +kernel
theorem dX7_runsForOne_59 : decode cX7_runsForOne 59 = .ok (.i2l, 1) := by decide +kernel
theorem dX7_runsForOne_60 : decode cX7_runsForOne 60 = .ok (.lload 4, 2) := by decide +kernel
theorem dX7_runsForOne_62 : decode cX7_runsForOne 62 = .ok (.lmul, 1) := by decide +kernel
theorem dX7_runsForOne_63 : decode cX7_runsForOne 63 = .ok (.lcmp, 1) := by decide +kernel
theorem dX7_runsForOne_64 : decode cX7_runsForOne 64 = .ok (.ifCond .gt 6, 3) := by decide +kernel
theorem dX7_runsForOne_67 : decode cX7_runsForOne 67 = .ok (.iload 8, 2) := by decide +kernel
theorem dX7_runsForOne_69 : decode cX7_runsForOne 69 = .ok (.ireturn, 1) := by decide +kernel
theorem dX7_runsForOne_70 : decode cX7_runsForOne 70 = .ok (.iinc 8 1, 3) := by decide +kernel
theorem dX7_runsForOne_73 : decode cX7_runsForOne 73 = .ok (.goto (-47), 3) := by decide +kernel
theorem dX7_runsForOne_76 : decode cX7_runsForOne 76 = .ok (.iconst (-1), 1) := by decide +kernel
theorem dX7_runsForOne_77 : decode cX7_runsForOne 77 = .ok (.ireturn, 1) := by decide +kernel
theorem dX8_init_0 : decode cX8_init 0 = .ok (.aload_n 0, 1) := by decide +kernel
theorem dX8_init_1 : decode cX8_init 1 = .ok (.invokespecial 3, 3) := by decide +kernel
theorem dX8_init_4 : decode cX8_init 4 = .ok (.aload_n 0, 1) := by decide +kernel
theorem dX8_init_5 : decode cX8_init 5 = .ok (.bipush 16, 2) := by decide +kernel
theorem dX8_init_7 : decode cX8_init 7 = .ok (.newarray .int, 2) := by decide +kernel
theorem dX8_init_9 : decode cX8_init 9 = .ok (.putfield 11, 3) := by decide +kernel
theorem dX8_init_12 : decode cX8_init 12 = .ok (.aload_n 0, 1) := by decide +kernel
theorem dX8_init_13 : decode cX8_init 13 = .ok (.bipush 16, 2) := by decide +kernel
theorem dX8_init_15 : decode cX8_init 15 = .ok (.newarray .int, 2) := by decide +kernel
theorem dX8_init_17 : decode cX8_init 17 = .ok (.putfield 15, 3) := by decide +kernel
theorem dX8_init_20 : decode cX8_init 20 = .ok (.aload_n 0, 1) := by decide +kernel
theorem dX8_init_21 : decode cX8_init 21 = .ok (.bipush 16, 2) := by decide +kernel
theorem dX8_init_23 : decode cX8_init 23 = .ok (.newarray .int, 2) := by decide +kernel
theorem dX8_init_25 : decode cX8_init 25 = .ok (.putfield 18, 3) := by decide +kernel
theorem dX8_init_28 : decode cX8_init 28 = .ok (.aload_n 0, 1) := by decide +kernel
theorem dX8_init_29 : decode cX8_init 29 = .ok (.bipush 10, 2) := by decide +kernel
theorem dX8_init_31 : decode cX8_init 31 = .ok (.newarray .int, 2) := by decide +kernel
theorem dX8_init_33 : decode cX8_init 33 = .ok (.putfield 21, 3) := by decide +kernel
theorem dX8_init_36 : decode cX8_init 36 = .ok (.aload_n 0, 1) := by decide +kernel
theorem dX8_init_37 : decode cX8_init 37 = .ok (.bipush 8, 2) := by decide +kernel
theorem dX8_init_39 : decode cX8_init 39 = .ok (.newarray .long, 2) := by decide +kernel
theorem dX8_init_41 : decode cX8_init 41 = .ok (.putfield 24, 3) := by decide +kernel
theorem dX8_init_44 : decode cX8_init 44 = .ok (.aload_n 0, 1) := by decide +kernel
theorem dX8_init_45 : decode cX8_init 45 = .ok (.bipush 8, 2) := by decide +kernel
theorem dX8_init_47 : decode cX8_init 47 = .ok (.newarray .long, 2) := by decide +kernel
theorem dX8_init_49 : decode cX8_init 49 = .ok (.putfield 28, 3) := by decide +kernel
theorem dX8_init_52 : decode cX8_init 52 = .ok (.aload_n 0, 1) := by decide +kernel
theorem dX8_init_53 : decode cX8_init 53 = .ok (.iconst 4, 1) := by decide +kernel
theorem dX8_init_54 : decode cX8_init 54 = .ok (.putfield 31, 3) := by decide +kernel
theorem dX8_init_57 : decode cX8_init 57 = .ok (.aload_n 0, 1) := by decide +kernel
theorem dX8_init_58 : decode cX8_init 58 = .ok (.iconst 0, 1) := by decide +kernel
theorem dX8_init_59 : decode cX8_init 59 = .ok (.putfield 35, 3) := by decide +kernel
theorem dX8_init_62 : decode cX8_init 62 = .ok (.aload_n 0, 1) := by decide +kernel
theorem dX8_init_63 : decode cX8_init 63 = .ok (.iconst 0, 1) := by decide +kernel
theorem dX8_init_64 : decode cX8_init 64 = .ok (.putfield 38, 3) := by decide +kernel
theorem dX8_init_67 : decode cX8_init 67 = .ok (.return_, 1) := by decide +kernel
theorem dX8_restart_0 : decode cX8_restart 0 = .ok (.aload_n 0, 1) := by decide +kernel
theorem dX8_restart_1 : decode cX8_restart 1 = .ok (.iload_n 1, 1) := by decide +kernel
theorem dX8_restart_2 : decode cX8_restart 2 = .ok (.putfield 31, 3) := by decide +kernel
theorem dX8_restart_5 : decode cX8_restart 5 = .ok (.aload_n 0, 1) := by decide +kernel
theorem dX8_restart_6 : decode cX8_restart 6 = .ok (.iconst 0, 1) := by decide +kernel
theorem dX8_restart_7 : decode cX8_restart 7 = .ok (.putfield 35, 3) := by decide +kernel
theorem dX8_restart_10 : decode cX8_restart 10 = .ok (.aload_n 0, 1) := by decide +kernel
theorem dX8_restart_11 : decode cX8_restart 11 = .ok (.iconst 0, 1) := by decide +kernel
theorem dX8_restart_12 : decode cX8_restart 12 = .ok (.putfield 38, 3) := by decide +kernel
theorem dX8_restart_15 : decode cX8_restart 15 = .ok (.return_, 1) := by decide +kernel
theorem dX8_hasKnot_0 : decode cX8_hasKnot 0 = .ok (.iload_n 1, 1) := by decide +kernel
theorem dX8_hasKnot_1 : decode cX8_hasKnot 1 = .ok (.ifCond .lt 15, 3) := by decide +kernel
theorem dX8_hasKnot_4 : decode cX8_hasKnot 4 = .ok (.iload_n 1, 1) := by decide +kernel
theorem dX8_hasKnot_5 : decode cX8_hasKnot 5 = .ok (.aload_n 0, 1) := by decide +kernel
theorem dX8_hasKnot_6 : decode cX8_hasKnot 6 = .ok (.getfield 31, 3) := by decide +kernel
theorem dX8_hasKnot_9 : decode cX8_hasKnot 9 = .ok (.if_icmp .ge 7, 3) := by decide +kernel
theorem dX8_hasKnot_12 : decode cX8_hasKnot 12 = .ok (.iconst 1, 1) := by decide +kernel
theorem dX8_hasKnot_13 : decode cX8_hasKnot 13 = .ok (.goto 4, 3) := by decide +kernel
theorem dX8_hasKnot_16 : decode cX8_hasKnot 16 = .ok (.iconst 0, 1) := by decide +kernel
theorem dX8_hasKnot_17 : decode cX8_hasKnot 17 = .ok (.ireturn, 1) := by decide +kernel
theorem dX8_hasKnotsOf_0 : decode cX8_hasKnotsOf 0 = .ok (.iload_n 1, 1) := by decide +kernel
theorem dX8_hasKnotsOf_1 : decode cX8_hasKnotsOf 1 = .ok (.ifCond .lt 17, 3) := by decide +kernel
theorem dX8_hasKnotsOf_4 : decode cX8_hasKnotsOf 4 = .ok (.iload_n 1, 1) := by decide +kernel
theorem dX8_hasKnotsOf_5 : decode cX8_hasKnotsOf 5 = .ok (.iconst 1, 1) := by decide +kernel
theorem dX8_hasKnotsOf_6 : decode cX8_hasKnotsOf 6 = .ok (.aload_n 0, 1) := by decide +kernel
theorem dX8_hasKnotsOf_7 : decode cX8_hasKnotsOf 7 = .ok (.getfield 31, 3) := by decide +kernel
theorem dX8_hasKnotsOf_10 : decode cX8_hasKnotsOf 10 = .ok (.ishl, 1) := by decide +kernel
theorem dX8_hasKnotsOf_11 : decode cX8_hasKnotsOf 11 = .ok (.if_icmp .ge 7, 3) := by decide +kernel
theorem dX8_hasKnotsOf_14 : decode cX8_hasKnotsOf 14 = .ok (.iconst 1, 1) := by decide +kernel
theorem dX8_hasKnotsOf_15 : decode cX8_hasKnotsOf 15 = .ok (.goto 4, 3) := by decide +kernel
theorem dX8_hasKnotsOf_18 : decode cX8_hasKnotsOf 18 = .ok (.iconst 0, 1) := by decide +kernel
theorem dX8_hasKnotsOf_19 : decode cX8_hasKnotsOf 19 = .ok (.ireturn, 1) := by decide +kernel
theorem dX8_addEdge_0 : decode cX8_addEdge 0 = .ok (.aload_n 0, 1) := by decide +kernel
theorem dX8_addEdge_1 : decode cX8_addEdge 1 = .ok (.getfield 35, 3) := by decide +kernel
theorem dX8_addEdge_4 : decode cX8_addEdge 4 = .ok (.bipush 16, 2) := by decide +kernel
theorem dX8_addEdge_6 : decode cX8_addEdge 6 = .ok (.if_icmp .lt 6, 3) := by decide +kernel
theorem dX8_addEdge_9 : decode cX8_addEdge 9 = .ok (.bipush (-5), 2) := by decide +kernel
theorem dX8_addEdge_11 : decode cX8_addEdge 11 = .ok (.ireturn, 1) := by decide +kernel
theorem dX8_addEdge_12 : decode cX8_addEdge 12 = .ok (.aload_n 0, 1) := by decide +kernel
theorem dX8_addEdge_13 : decode cX8_addEdge 13 = .ok (.getfield 11, 3) := by decide +kernel
theorem dX8_addEdge_16 : decode cX8_addEdge 16 = .ok (.aload_n 0, 1) := by decide +kernel
theorem dX8_addEdge_17 : decode cX8_addEdge 17 = .ok (.getfield 35, 3) := by decide +kernel
theorem dX8_addEdge_20 : decode cX8_addEdge 20 = .ok (.iload_n 1, 1) := by decide +kernel
theorem dX8_addEdge_21 : decode cX8_addEdge 21 = .ok (.iastore, 1) := by decide +kernel
theorem dX8_addEdge_22 : decode cX8_addEdge 22 = .ok (.aload_n 0, 1) := by decide +kernel
theorem dX8_addEdge_23 : decode cX8_addEdge 23 = .ok (.getfield 15, 3) := by decide +kernel
theorem dX8_addEdge_26 : decode cX8_addEdge 26 = .ok (.aload_n 0, 1) := by decide +kernel
theorem dX8_addEdge_27 : decode cX8_addEdge 27 = .ok (.getfield 35, 3) := by decide +kernel
theorem dX8_addEdge_30 : decode cX8_addEdge 30 = .ok (.iload_n 2, 1) := by decide +kernel
theorem dX8_addEdge_31 : decode cX8_addEdge 31 = .ok (.iastore, 1) := by decide +kernel
theorem dX8_addEdge_32 : decode cX8_addEdge 32 = .ok (.aload_n 0, 1) := by decide +kernel
theorem dX8_addEdge_33 : decode cX8_addEdge 33 = .ok (.getfield 18, 3) := by decide +kernel
theorem dX8_addEdge_36 : decode cX8_addEdge 36 = .ok (.aload_n 0, 1) := by decide +kernel
theorem dX8_addEdge_37 : decode cX8_addEdge 37 = .ok (.getfield 35, 3) := by decide +kernel
theorem dX8_addEdge_40 : decode cX8_addEdge 40 = .ok (.iload_n 3, 1) := by decide +kernel
theorem dX8_addEdge_41 : decode cX8_addEdge 41 = .ok (.iastore, 1) := by decide +kernel
theorem dX8_addEdge_42 : decode cX8_addEdge 42 = .ok (.aload_n 0, 1) := by decide +kernel
theorem dX8_addEdge_43 : decode cX8_addEdge 43 = .ok (.dup, 1) := by decide +kernel
theorem dX8_addEdge_44 : decode cX8_addEdge 44 = .ok (.getfield 35, 3) := by decide +kernel
theorem dX8_addEdge_47 : decode cX8_addEdge 47 = .ok (.iconst 1, 1) := by decide +kernel
theorem dX8_addEdge_48 : decode cX8_addEdge 48 = .ok (.iadd, 1) := by decide +kernel
theorem dX8_addEdge_49 : decode cX8_addEdge 49 = .ok (.putfield 35, 3) := by decide +kernel
theorem dX8_addEdge_52 : decode cX8_addEdge 52 = .ok (.aload_n 0, 1) := by decide +kernel
theorem dX8_addEdge_53 : decode cX8_addEdge 53 = .ok (.getfield 35, 3) := by decide +kernel
theorem dX8_addEdge_56 : decode cX8_addEdge 56 = .ok (.ireturn, 1) := by decide +kernel
theorem dX8_addCord_0 : decode cX8_addCord 0 = .ok (.aload_n 0, 1) := by decide +kernel
theorem dX8_addCord_1 : decode cX8_addCord 1 = .ok (.getfield 38, 3) := by decide +kernel
theorem dX8_addCord_4 : decode cX8_addCord 4 = .ok (.bipush 10, 2) := by decide +kernel
theorem dX8_addCord_6 : decode cX8_addCord 6 = .ok (.if_icmp .lt 6, 3) := by decide +kernel
theorem dX8_addCord_9 : decode cX8_addCord 9 = .ok (.bipush (-5), 2) := by decide +kernel
theorem dX8_addCord_11 : decode cX8_addCord 11 = .ok (.ireturn, 1) := by decide +kernel
theorem dX8_addCord_12 : decode cX8_addCord 12 = .ok (.aload_n 0, 1) := by decide +kernel
theorem dX8_addCord_13 : decode cX8_addCord 13 = .ok (.getfield 21, 3) := by decide +kernel
theorem dX8_addCord_16 : decode cX8_addCord 16 = .ok (.aload_n 0, 1) := by decide +kernel
theorem dX8_addCord_17 : decode cX8_addCord 17 = .ok (.getfield 38, 3) := by decide +kernel
theorem dX8_addCord_20 : decode cX8_addCord 20 = .ok (.iload_n 1, 1) := by decide +kernel
theorem dX8_addCord_21 : decode cX8_addCord 21 = .ok (.iastore, 1) := by decide +kernel
theorem dX8_addCord_22 : decode cX8_addCord 22 = .ok (.aload_n 0, 1) := by decide +kernel
theorem dX8_addCord_23 : decode cX8_addCord 23 = .ok (.dup, 1) := by decide +kernel
theorem dX8_addCord_24 : decode cX8_addCord 24 = .ok (.getfield 38, 3) := by decide +kernel
theorem dX8_addCord_27 : decode cX8_addCord 27 = .ok (.iconst 1, 1) := by decide +kernel
theorem dX8_addCord_28 : decode cX8_addCord 28 = .ok (.iadd, 1) := by decide +kernel
theorem dX8_addCord_29 : decode cX8_addCord 29 = .ok (.putfield 38, 3) := by decide +kernel
theorem dX8_addCord_32 : decode cX8_addCord 32 = .ok (.aload_n 0, 1) := by decide +kernel
theorem dX8_addCord_33 : decode cX8_addCord 33 = .ok (.getfield 38, 3) := by decide +kernel
theorem dX8_addCord_36 : decode cX8_addCord 36 = .ok (.ireturn, 1) := by decide +kernel
set_option maxRecDepth 20000 in
theorem ggX8_measureOf_X8_cutOf : GoodIn wsX8_measureOf wsX8_cutOf := goodIn_r _ [5, 6, 7, 8, 9, 16, 17, 18, 19, 20, 21, 22, 23, 24] (by decide +kernel) (by decide +kernel)
set_option maxRecDepth 20000 in
theorem gX8_measureOf_X8_cutOf : GoodIn wsX8_measureOf (wsV RX8 41 RX8 yX8_cutOf wsX8_cutOf) := goodIn_app (goodIn_of _ (by decide +kernel)) ggX8_measureOf_X8_cutOf
set_option maxRecDepth 20000 in
theorem ggX8_measureOf_X8_oneSided : GoodIn wsX8_measureOf wsX8_oneSided := goodIn_r _ [13, 14, 15, 16, 17, 18, 19, 20, 21, 22, 23, 24] (by decide +kernel) (by decide +kernel)
set_option maxRecDepth 20000 in
theorem gX8_measureOf_X8_oneSided : GoodIn wsX8_measureOf (wsV RX8 45 RX8 yX8_oneSided wsX8_oneSided) := goodIn_app (goodIn_of _ (by decide +kernel)) ggX8_measureOf_X8_oneSided
theorem dX8_measureOf_0 : decode cX8_measureOf 0 = .ok (.iload_n 1, 1) := by decide +kernel
theorem dX8_measureOf_1 : decode cX8_measureOf 1 = .ok (.ifCond .ne 11, 3) := by decide +kernel
theorem dX8_measureOf_4 : decode cX8_measureOf 4 = .ok (.aload_n 0, 1) := by decide +kernel
theorem dX8_measureOf_5 : decode cX8_measureOf 5 = .ok (.iload_n 2, 1) := by decide +kernel
theorem dX8_measureOf_6 : decode cX8_measureOf 6 = .ok (.invokevirtual 41, 3) := by decide +kernel
theorem dX8_measureOf_9 : decode cX8_measureOf 9 = .ok (.goto 8, 3) := by decide +kernel
theorem dX8_measureOf_12 : decode cX8_measureOf 12 = .ok (.aload_n 0, 1) := by decide +kernel
theorem dX8_measureOf_13 : decode cX8_measureOf 13 = .ok (.iload_n 2, 1) := by decide +kernel
theorem dX8_measureOf_14 : decode cX8_measureOf 14 = .ok (.invokevirtual 45, 3) := by decide +kernel
theorem dX8_measureOf_17 : decode cX8_measureOf 17 = .ok (.ireturn, 1) := by decide +kernel
theorem dX8_cutOf_0 : decode cX8_cutOf 0 = .ok (.iconst 0, 1) := by decide +kernel
theorem dX8_cutOf_1 : decode cX8_cutOf 1 = .ok (.istore_n 2, 1) := by decide +kernel
theorem dX8_cutOf_2 : decode cX8_cutOf 2 = .ok (.iconst 0, 1) := by decide +kernel
theorem dX8_cutOf_3 : decode cX8_cutOf 3 = .ok (.istore_n 3, 1) := by decide +kernel
theorem dX8_cutOf_4 : decode cX8_cutOf 4 = .ok (.iload_n 3, 1) := by decide +kernel
theorem dX8_cutOf_5 : decode cX8_cutOf 5 = .ok (.aload_n 0, 1) := by decide +kernel
theorem dX8_cutOf_6 : decode cX8_cutOf 6 = .ok (.getfield 35, 3) := by decide +kernel
theorem dX8_cutOf_9 : decode cX8_cutOf 9 = .ok (.if_icmp .ge 40, 3) := by decide +kernel
theorem dX8_cutOf_12 : decode cX8_cutOf 12 = .ok (.iload_n 2, 1) := by decide +kernel
theorem dX8_cutOf_13 : decode cX8_cutOf 13 = .ok (.aload_n 0, 1) := by decide +kernel
theorem dX8_cutOf_14 : decode cX8_cutOf 14 = .ok (.getfield 18, 3) := by decide +kernel
theorem dX8_cutOf_17 : decode cX8_cutOf 17 = .ok (.iload_n 3, 1) := by decide +kernel
theorem dX8_cutOf_18 : decode cX8_cutOf 18 = .ok (.iaload, 1) := by decide +kernel
theorem dX8_cutOf_19 : decode cX8_cutOf 19 = .ok (.iload_n 1, 1) := by decide +kernel
theorem dX8_cutOf_20 : decode cX8_cutOf 20 = .ok (.aload_n 0, 1) := by decide +kernel
theorem dX8_cutOf_21 : decode cX8_cutOf 21 = .ok (.getfield 11, 3) := by decide +kernel
theorem dX8_cutOf_24 : decode cX8_cutOf 24 = .ok (.iload_n 3, 1) := by decide +kernel
theorem dX8_cutOf_25 : decode cX8_cutOf 25 = .ok (.iaload, 1) := by decide +kernel
theorem dX8_cutOf_26 : decode cX8_cutOf 26 = .ok (.ishr, 1) := by decide +kernel
theorem dX8_cutOf_27 : decode cX8_cutOf 27 = .ok (.iconst 1, 1) := by decide +kernel
theorem dX8_cutOf_28 : decode cX8_cutOf 28 = .ok (.iand, 1) := by decide +kernel
theorem dX8_cutOf_29 : decode cX8_cutOf 29 = .ok (.iload_n 1, 1) := by decide +kernel
theorem dX8_cutOf_30 : decode cX8_cutOf 30 = .ok (.aload_n 0, 1) := by decide +kernel
theorem dX8_cutOf_31 : decode cX8_cutOf 31 = .ok (.getfield 15, 3) := by decide +kernel
theorem dX8_cutOf_34 : decode cX8_cutOf 34 = .ok (.iload_n 3, 1) := by decide +kernel
theorem dX8_cutOf_35 : decode cX8_cutOf 35 = .ok (.iaload, 1) := by decide +kernel
theorem dX8_cutOf_36 : decode cX8_cutOf 36 = .ok (.ishr, 1) := by decide +kernel
theorem dX8_cutOf_37 : decode cX8_cutOf 37 = .ok (.iconst 1, 1) := by decide +kernel
theorem dX8_cutOf_38 : decode cX8_cutOf 38 = .ok (.iand, 1) := by decide +kernel
theorem dX8_cutOf_39 : decode cX8_cutOf 39 = .ok (.ixor, 1) := by decide +kernel
theorem dX8_cutOf_40 : decode cX8_cutOf 40 = .ok (.imul, 1) := by decide +kernel
theorem dX8_cutOf_41 : decode cX8_cutOf 41 = .ok (.iadd, 1) := by decide +kernel
theorem dX8_cutOf_42 : decode cX8_cutOf 42 = .ok (.istore_n 2, 1) := by decide +kernel
theorem dX8_cutOf_43 : decode cX8_cutOf 43 = .ok (.iinc 3 1, 3) := by decide +kernel
theorem dX8_cutOf_46 : decode cX8_cutOf 46 = .ok (.goto (-42), 3) := by decide +kernel
theorem dX8_cutOf_49 : decode cX8_cutOf 49 = .ok (.iload_n 2, 1) := by decide +kernel
theorem dX8_cutOf_50 : decode cX8_cutOf 50 = .ok (.ireturn, 1) := by decide +kernel
theorem dX8_oneSided_0 : decode cX8_oneSided 0 = .ok (.iconst 0, 1) := by decide +kernel
theorem dX8_oneSided_1 : decode cX8_oneSided 1 = .ok (.istore_n 2, 1) := by decide +kernel
theorem dX8_oneSided_2 : decode cX8_oneSided 2 = .ok (.iconst 0, 1) := by decide +kernel
theorem dX8_oneSided_3 : decode cX8_oneSided 3 = .ok (.istore_n 3, 1) := by decide +kernel
theorem dX8_oneSided_4 : decode cX8_oneSided 4 = .ok (.iload_n 3, 1) := by decide +kernel
theorem dX8_oneSided_5 : decode cX8_oneSided 5 = .ok (.aload_n 0, 1) := by decide +kernel
theorem dX8_oneSided_6 : decode cX8_oneSided 6 = .ok (.getfield 38, 3) := by decide +kernel
theorem dX8_oneSided_9 : decode cX8_oneSided 9 = .ok (.if_icmp .ge 36, 3) := by decide +kernel
theorem dX8_oneSided_12 : decode cX8_oneSided 12 = .ok (.aload_n 0, 1) := by decide +kernel
theorem dX8_oneSided_13 : decode cX8_oneSided 13 = .ok (.getfield 21, 3) := by decide +kernel
theorem dX8_oneSided_16 : decode cX8_oneSided 16 = .ok (.iload_n 3, 1) := by decide +kernel
theorem dX8_oneSided_17 : decode cX8_oneSided 17 = .ok (.iaload, 1) := by decide +kernel
theorem dX8_oneSided_18 : decode cX8_oneSided 18 = .ok (.istore 4, 2) := by decide +kernel
theorem dX8_oneSided_20 : decode cX8_oneSided 20 = .ok (.iload 4, 2) := by decide +kernel
theorem dX8_oneSided_22 : decode cX8_oneSided 22 = .ok (.iload_n 1, 1) := by decide +kernel
theorem dX8_oneSided_23 : decode cX8_oneSided 23 = .ok (.iand, 1) := by decide +kernel
theorem dX8_oneSided_24 : decode cX8_oneSided 24 = .ok (.ifCond .eq 12, 3) := by decide +kernel
theorem dX8_oneSided_27 : decode cX8_oneSided 27 = .ok (.iload 4, 2) := by decide +kernel
theorem dX8_oneSided_29 : decode cX8_oneSided 29 = .ok (.iload_n 1, 1) := by decide +kernel
theorem dX8_oneSided_30 : decode cX8_oneSided 30 = .ok (.iand, 1) := by decide +kernel
theorem dX8_oneSided_31 : decode cX8_oneSided 31 = .ok (.iload 4, 2) := by decide +kernel
theorem dX8_oneSided_33 : decode cX8_oneSided 33 = .ok (.if_icmp .ne 6, 3) := by decide +kernel
theorem dX8_oneSided_36 : decode cX8_oneSided 36 = .ok (.iinc 2 1, 3) := by decide +kernel
theorem dX8_oneSided_39 : decode cX8_oneSided 39 = .ok (.iinc 3 1, 3) := by decide +kernel
theorem dX8_oneSided_42 : decode cX8_oneSided 42 = .ok (.goto (-38), 3) := by decide +kernel
theorem dX8_oneSided_45 : decode cX8_oneSided 45 = .ok (.iload_n 2, 1) := by decide +kernel
theorem dX8_oneSided_46 : decode cX8_oneSided 46 = .ok (.ireturn, 1) := by decide +kernel
theorem dX8_meanBelow_0 : decode cX8_meanBelow 0 = .ok (.iload_n 0, 1) := by decide +kernel
theorem dX8_meanBelow_1 : decode cX8_meanBelow 1 = .ok (.ifCond .ne 7, 3) := by decide +kernel
theorem dX8_meanBelow_4 : decode cX8_meanBelow 4 = .ok (.iconst 2, 1) := by decide +kernel
theorem dX8_meanBelow_5 : decode cX8_meanBelow 5 = .ok (.goto 6, 3) := by decide +kernel
theorem dX8_meanBelow_8 : decode cX8_meanBelow 8 = .ok (.sipush 256, 3) := by decide +kernel
theorem dX8_meanBelow_11 : decode cX8_meanBelow 11 = .ok (.ireturn, 1) := by decide +kernel
set_option maxRecDepth 20000 in
theorem ggX8_meanAbove_X8_cutMean : GoodIn wsX8_meanAbove wsX8_cutMean := goodIn_r _ [5, 6, 7, 8, 9, 23, 24, 25, 26, 27, 28, 29, 30, 31] (by decide +kernel) (by decide +kernel)
set_option maxRecDepth 20000 in
theorem gX8_meanAbove_X8_cutMean : GoodIn wsX8_meanAbove (wsV RX8 48 RX8 yX8_cutMean wsX8_cutMean) := goodIn_app (goodIn_of _ (by decide +kernel)) ggX8_meanAbove_X8_cutMean
set_option maxRecDepth 20000 in
theorem ggX8_meanAbove_X8_oneSidedMean : GoodIn wsX8_meanAbove wsX8_oneSidedMean := goodIn_r _ [13, 14, 15, 16, 17, 18, 19, 20, 21, 22, 23, 24, 25, 26, 27, 28, 29, 30, 31] (by decide +kernel) (by decide +kernel)
set_option maxRecDepth 20000 in
theorem gX8_meanAbove_X8_oneSidedMean : GoodIn wsX8_meanAbove (wsV RX8 52 RX8 yX8_oneSidedMean wsX8_oneSidedMean) := goodIn_app (goodIn_of _ (by decide +kernel)) ggX8_meanAbove_X8_oneSidedMean
theorem dX8_meanAbove_0 : decode cX8_meanAbove 0 = .ok (.iload_n 1, 1) := by decide +kernel
theorem dX8_meanAbove_1 : decode cX8_meanAbove 1 = .ok (.ifCond .ne 12, 3) := by decide +kernel
theorem dX8_meanAbove_4 : decode cX8_meanAbove 4 = .ok (.aload_n 0, 1) := by decide +kernel
theorem dX8_meanAbove_5 : decode cX8_meanAbove 5 = .ok (.iload_n 2, 1) := by decide +kernel
theorem dX8_meanAbove_6 : decode cX8_meanAbove 6 = .ok (.iload_n 3, 1) := by decide +kernel
theorem dX8_meanAbove_7 : decode cX8_meanAbove 7 = .ok (.invokevirtual 48, 3) := by decide +kernel
theorem dX8_meanAbove_10 : decode cX8_meanAbove 10 = .ok (.goto 9, 3) := by decide +kernel
theorem dX8_meanAbove_13 : decode cX8_meanAbove 13 = .ok (.aload_n 0, 1) := by decide +kernel
theorem dX8_meanAbove_14 : decode cX8_meanAbove 14 = .ok (.iload_n 2, 1) := by decide +kernel
theorem dX8_meanAbove_15 : decode cX8_meanAbove 15 = .ok (.iload_n 3, 1) := by decide +kernel
theorem dX8_meanAbove_16 : decode cX8_meanAbove 16 = .ok (.invokevirtual 52, 3) := by decide +kernel
theorem dX8_meanAbove_19 : decode cX8_meanAbove 19 = .ok (.ireturn, 1) := by decide +kernel
theorem dX8_cutMean_0 : decode cX8_cutMean 0 = .ok (.iconst 0, 1) := by decide +kernel
theorem dX8_cutMean_1 : decode cX8_cutMean 1 = .ok (.istore_n 3, 1) := by decide +kernel
theorem dX8_cutMean_2 : decode cX8_cutMean 2 = .ok (.iconst 0, 1) := by decide +kernel
theorem dX8_cutMean_3 : decode cX8_cutMean 3 = .ok (.istore 4, 2) := by decide +kernel
theorem dX8_cutMean_5 : decode cX8_cutMean 5 = .ok (.iload 4, 2) := by decide +kernel
theorem dX8_cutMean_7 : decode cX8_cutMean 7 = .ok (.aload_n 0, 1) := by decide +kernel
theorem dX8_cutMean_8 : decode cX8_cutMean 8 = .ok (.getfield 35, 3) := by decide +kernel
theorem dX8_cutMean_11 : decode cX8_cutMean 11 = .ok (.if_icmp .ge 80, 3) := by decide +kernel
theorem dX8_cutMean_14 : decode cX8_cutMean 14 = .ok (.iconst 1, 1) := by decide +kernel
theorem dX8_cutMean_15 : decode cX8_cutMean 15 = .ok (.aload_n 0, 1) := by decide +kernel
theorem dX8_cutMean_16 : decode cX8_cutMean 16 = .ok (.getfield 11, 3) := by decide +kernel
theorem dX8_cutMean_19 : decode cX8_cutMean 19 = .ok (.iload 4, 2) := by decide +kernel
theorem dX8_cutMean_21 : decode cX8_cutMean 21 = .ok (.iaload, 1) := by decide +kernel
theorem dX8_cutMean_22 : decode cX8_cutMean 22 = .ok (.ishl, 1) := by decide +kernel
theorem dX8_cutMean_23 : decode cX8_cutMean 23 = .ok (.iconst 1, 1) := by decide +kernel
theorem dX8_cutMean_24 : decode cX8_cutMean 24 = .ok (.aload_n 0, 1) := by decide +kernel
theorem dX8_cutMean_25 : decode cX8_cutMean 25 = .ok (.getfield 15, 3) := by decide +kernel
theorem dX8_cutMean_28 : decode cX8_cutMean 28 = .ok (.iload 4, 2) := by decide +kernel
theorem dX8_cutMean_30 : decode cX8_cutMean 30 = .ok (.iaload, 1) := by decide +kernel
theorem dX8_cutMean_31 : decode cX8_cutMean 31 = .ok (.ishl, 1) := by decide +kernel
theorem dX8_cutMean_32 : decode cX8_cutMean 32 = .ok (.ior, 1) := by decide +kernel
theorem dX8_cutMean_33 : decode cX8_cutMean 33 = .ok (.istore 5, 2) := by decide +kernel
theorem dX8_cutMean_35 : decode cX8_cutMean 35 = .ok (.iload 5, 2) := by decide +kernel
theorem dX8_cutMean_37 : decode cX8_cutMean 37 = .ok (.iload_n 1, 1) := by decide +kernel
theorem dX8_cutMean_38 : decode cX8_cutMean 38 = .ok (.iand, 1) := by decide +kernel
theorem dX8_cutMean_39 : decode cX8_cutMean 39 = .ok (.iload 5, 2) := by decide +kernel
theorem dX8_cutMean_41 : decode cX8_cutMean 41 = .ok (.if_icmp .eq 16, 3) := by decide +kernel
theorem dX8_cutMean_44 : decode cX8_cutMean 44 = .ok (.iload_n 3, 1) := by decide +kernel
theorem dX8_cutMean_45 : decode cX8_cutMean 45 = .ok (.aload_n 0, 1) := by decide +kernel
theorem dX8_cutMean_46 : decode cX8_cutMean 46 = .ok (.getfield 18, 3) := by decide +kernel
theorem dX8_cutMean_49 : decode cX8_cutMean 49 = .ok (.iload 4, 2) := by decide +kernel
theorem dX8_cutMean_51 : decode cX8_cutMean 51 = .ok (.iaload, 1) := by decide +kernel
theorem dX8_cutMean_52 : decode cX8_cutMean 52 = .ok (.iadd, 1) := by decide +kernel
theorem dX8_cutMean_53 : decode cX8_cutMean 53 = .ok (.istore_n 3, 1) := by decide +kernel
theorem dX8_cutMean_54 : decode cX8_cutMean 54 = .ok (.goto 31, 3) := by decide +kernel
theorem dX8_cutMean_57 : decode cX8_cutMean 57 = .ok (.iload 5, 2) := by decide +kernel
theorem dX8_cutMean_59 : decode cX8_cutMean 59 = .ok (.iload_n 2, 1) := by decide +kernel
theorem dX8_cutMean_60 : decode cX8_cutMean 60 = .ok (.iand, 1) := by decide +kernel
theorem dX8_cutMean_61 : decode cX8_cutMean 61 = .ok (.ifCond .eq 24, 3) := by decide +kernel
theorem dX8_cutMean_64 : decode cX8_cutMean 64 = .ok (.iload 5, 2) := by decide +kernel
theorem dX8_cutMean_66 : decode cX8_cutMean 66 = .ok (.iload_n 2, 1) := by decide +kernel
theorem dX8_cutMean_67 : decode cX8_cutMean 67 = .ok (.iand, 1) := by decide +kernel
theorem dX8_cutMean_68 : decode cX8_cutMean 68 = .ok (.iload 5, 2) := by decide +kernel
theorem dX8_cutMean_70 : decode cX8_cutMean 70 = .ok (.if_icmp .eq 15, 3) := by decide +kernel
theorem dX8_cutMean_73 : decode cX8_cutMean 73 = .ok (.iload_n 3, 1) := by decide +kernel
theorem dX8_cutMean_74 : decode cX8_cutMean 74 = .ok (.iconst 2, 1) := by decide +kernel
theorem dX8_cutMean_75 : decode cX8_cutMean 75 = .ok (.aload_n 0, 1) := by decide +kernel
theorem dX8_cutMean_76 : decode cX8_cutMean 76 = .ok (.getfield 18, 3) := by decide +kernel
theorem dX8_cutMean_79 : decode cX8_cutMean 79 = .ok (.iload 4, 2) := by decide +kernel
theorem dX8_cutMean_81 : decode cX8_cutMean 81 = .ok (.iaload, 1) := by decide +kernel
theorem dX8_cutMean_82 : decode cX8_cutMean 82 = .ok (.imul, 1) := by decide +kernel
theorem dX8_cutMean_83 : decode cX8_cutMean 83 = .ok (.iadd, 1) := by decide +kernel
theorem dX8_cutMean_84 : decode cX8_cutMean 84 = .ok (.istore_n 3, 1) := by decide +kernel
theorem dX8_cutMean_85 : decode cX8_cutMean 85 = .ok (.iinc 4 1, 3) := by decide +kernel
theorem dX8_cutMean_88 : decode cX8_cutMean 88 = .ok (.goto (-83), 3) := by decide +kernel
theorem dX8_cutMean_91 : decode cX8_cutMean 91 = .ok (.iload_n 3, 1) := by decide +kernel
theorem dX8_cutMean_92 : decode cX8_cutMean 92 = .ok (.ireturn, 1) := by decide +kernel
set_option maxRecDepth 20000 in
theorem ggX8_oneSidedMean_J6_bitCount_0f7a4 : GoodIn wsX8_oneSidedMean wsJ6_bitCount_0f7a4 := goodIn_r _ [6, 7, 8, 9] (by decide +kernel) (by decide +kernel)
set_option maxRecDepth 20000 in
theorem gX8_oneSidedMean_J6_bitCount_0f7a4 : GoodIn wsX8_oneSidedMean (va_wsS RX8 55 yJ6_bitCount_0f7a4 wsJ6_bitCount_0f7a4) := goodIn_app (goodIn_of _ (by decide +kernel)) ggX8_oneSidedMean_J6_bitCount_0f7a4
theorem dX8_oneSidedMean_0 : decode cX8_oneSidedMean 0 = .ok (.iconst 0, 1) := by decide +kernel
theorem dX8_oneSidedMean_1 : decode cX8_oneSidedMean 1 = .ok (.istore_n 3, 1) := by decide +kernel
theorem dX8_oneSidedMean_2 : decode cX8_oneSidedMean 2 = .ok (.iconst 0, 1) := by decide +kernel
theorem dX8_oneSidedMean_3 : decode cX8_oneSidedMean 3 = .ok (.istore 4, 2) := by decide +kernel
theorem dX8_oneSidedMean_5 : decode cX8_oneSidedMean 5 = .ok (.iload 4, 2) := by decide +kernel
theorem dX8_oneSidedMean_7 : decode cX8_oneSidedMean 7 = .ok (.aload_n 0, 1) := by decide +kernel
theorem dX8_oneSidedMean_8 : decode cX8_oneSidedMean 8 = .ok (.getfield 38, 3) := by decide +kernel
theorem dX8_oneSidedMean_11 : decode cX8_oneSidedMean 11 = .ok (.if_icmp .ge 74, 3) := by decide +kernel
theorem dX8_oneSidedMean_14 : decode cX8_oneSidedMean 14 = .ok (.aload_n 0, 1) := by decide +kernel
theorem dX8_oneSidedMean_15 : decode cX8_oneSidedMean 15 = .ok (.getfield 21, 3) := by decide +kernel
theorem dX8_oneSidedMean_18 : decode cX8_oneSidedMean 18 = .ok (.iload 4, 2) := by decide +kernel
theorem dX8_oneSidedMean_20 : decode cX8_oneSidedMean 20 = .ok (.iaload, 1) := by decide +kernel
theorem dX8_oneSidedMean_21 : decode cX8_oneSidedMean 21 = .ok (.iload_n 1, 1) := by decide +kernel
theorem dX8_oneSidedMean_22 : decode cX8_oneSidedMean 22 = .ok (.iand, 1) := by decide +kernel
theorem dX8_oneSidedMean_23 : decode cX8_oneSidedMean 23 = .ok (.istore 5, 2) := by decide +kernel
theorem dX8_oneSidedMean_25 : decode cX8_oneSidedMean 25 = .ok (.aload_n 0, 1) := by decide +kernel
theorem dX8_oneSidedMean_26 : decode cX8_oneSidedMean 26 = .ok (.getfield 21, 3) := by decide +kernel
theorem dX8_oneSidedMean_29 : decode cX8_oneSidedMean 29 = .ok (.iload 4, 2) := by decide +kernel
theorem dX8_oneSidedMean_31 : decode cX8_oneSidedMean 31 = .ok (.iaload, 1) := by decide +kernel
theorem dX8_oneSidedMean_32 : decode cX8_oneSidedMean 32 = .ok (.iload_n 2, 1) := by decide +kernel
theorem dX8_oneSidedMean_33 : decode cX8_oneSidedMean 33 = .ok (.iand, 1) := by decide +kernel
theorem dX8_oneSidedMean_34 : decode cX8_oneSidedMean 34 = .ok (.istore 6, 2) := by decide +kernel
theorem dX8_oneSidedMean_36 : decode cX8_oneSidedMean 36 = .ok (.iconst 1, 1) := by decide +kernel
theorem dX8_oneSidedMean_37 : decode cX8_oneSidedMean 37 = .ok (.bipush 8, 2) := by decide +kernel
theorem dX8_oneSidedMean_39 : decode cX8_oneSidedMean 39 = .ok (.aload_n 0, 1) := by decide +kernel
theorem dX8_oneSidedMean_40 : decode cX8_oneSidedMean 40 = .ok (.getfield 21, 3) := by decide +kernel
theorem dX8_oneSidedMean_43 : decode cX8_oneSidedMean 43 = .ok (.iload 4, 2) := by decide +kernel
theorem dX8_oneSidedMean_45 : decode cX8_oneSidedMean 45 = .ok (.iaload, 1) := by decide +kernel
theorem dX8_oneSidedMean_46 : decode cX8_oneSidedMean 46 = .ok (.iload_n 1, 1) := by decide +kernel
theorem dX8_oneSidedMean_47 : decode cX8_oneSidedMean 47 = .ok (.iconst (-1), 1) := by decide +kernel
theorem dX8_oneSidedMean_48 : decode cX8_oneSidedMean 48 = .ok (.ixor, 1) := by decide +kernel
theorem dX8_oneSidedMean_49 : decode cX8_oneSidedMean 49 = .ok (.iand, 1) := by decide +kernel
theorem dX8_oneSidedMean_50 : decode cX8_oneSidedMean 50 = .ok (.invokestatic 55, 3) := by decide +kernel
theorem dX8_oneSidedMean_53 : decode cX8_oneSidedMean 53 = .ok (.isub, 1) := by decide +kernel
theorem dX8_oneSidedMean_54 : decode cX8_oneSidedMean 54 = .ok (.ishl, 1) := by decide +kernel
theorem dX8_oneSidedMean_55 : decode cX8_oneSidedMean 55 = .ok (.istore 7, 2) := by decide +kernel
theorem dX8_oneSidedMean_57 : decode cX8_oneSidedMean 57 = .ok (.iload 6, 2) := by decide +kernel
theorem dX8_oneSidedMean_59 : decode cX8_oneSidedMean 59 = .ok (.ifCond .ne 8, 3) := by decide +kernel
theorem dX8_oneSidedMean_62 : decode cX8_oneSidedMean 62 = .ok (.iload_n 3, 1) := by decide +kernel
theorem dX8_oneSidedMean_63 : decode cX8_oneSidedMean 63 = .ok (.iload 7, 2) := by decide +kernel
theorem dX8_oneSidedMean_65 : decode cX8_oneSidedMean 65 = .ok (.iadd, 1) := by decide +kernel
theorem dX8_oneSidedMean_66 : decode cX8_oneSidedMean 66 = .ok (.istore_n 3, 1) := by decide +kernel
theorem dX8_oneSidedMean_67 : decode cX8_oneSidedMean 67 = .ok (.iload 6, 2) := by decide +kernel
theorem dX8_oneSidedMean_69 : decode cX8_oneSidedMean 69 = .ok (.iload 5, 2) := by decide +kernel
theorem dX8_oneSidedMean_71 : decode cX8_oneSidedMean 71 = .ok (.if_icmp .ne 8, 3) := by decide +kernel
theorem dX8_oneSidedMean_74 : decode cX8_oneSidedMean 74 = .ok (.iload_n 3, 1) := by decide +kernel
theorem dX8_oneSidedMean_75 : decode cX8_oneSidedMean 75 = .ok (.iload 7, 2) := by decide +kernel
theorem dX8_oneSidedMean_77 : decode cX8_oneSidedMean 77 = .ok (.iadd, 1) := by decide +kernel
theorem dX8_oneSidedMean_78 : decode cX8_oneSidedMean 78 = .ok (.istore_n 3, 1) := by decide +kernel
theorem dX8_oneSidedMean_79 : decode cX8_oneSidedMean 79 = .ok (.iinc 4 1, 3) := by decide +kernel
theorem dX8_oneSidedMean_82 : decode cX8_oneSidedMean 82 = .ok (.goto (-77), 3) := by decide +kernel
theorem dX8_oneSidedMean_85 : decode cX8_oneSidedMean 85 = .ok (.iload_n 3, 1) := by decide +kernel
theorem dX8_oneSidedMean_86 : decode cX8_oneSidedMean 86 = .ok (.ireturn, 1) := by decide +kernel
theorem dX8_isBetter_0 : decode cX8_isBetter 0 = .ok (.iload_n 0, 1) := by decide +kernel
theorem dX8_isBetter_1 : decode cX8_isBetter 1 = .ok (.ifCond .ne 16, 3) := by decide +kernel
theorem dX8_isBetter_4 : decode cX8_isBetter 4 = .ok (.iload_n 1, 1) := by decide +kernel
theorem dX8_isBetter_5 : decode cX8_isBetter 5 = .ok (.iload_n 2, 1) := by decide +kernel
theorem dX8_isBetter_6 : decode cX8_isBetter 6 = .ok (.if_icmp .le 7, 3) := by decide +kernel
theorem dX8_isBetter_9 : decode cX8_isBetter 9 = .ok (.iconst 1, 1) := by decide +kernel
theorem dX8_isBetter_10 : decode cX8_isBetter 10 = .ok (.goto 17, 3) := by decide +kernel
theorem dX8_isBetter_13 : decode cX8_isBetter 13 = .ok (.iconst 0, 1) := by decide +kernel
theorem dX8_isBetter_14 : decode cX8_isBetter 14 = .ok (.goto 13, 3) := by decide +kernel
theorem dX8_isBetter_17 : decode cX8_isBetter 17 = .ok (.iload_n 1, 1) := by decide +kernel
theorem dX8_isBetter_18 : decode cX8_isBetter 18 = .ok (.iload_n 2, 1) := by decide +kernel
theorem dX8_isBetter_19 : decode cX8_isBetter 19 = .ok (.if_icmp .ge 7, 3) := by decide +kernel
theorem dX8_isBetter_22 : decode cX8_isBetter 22 = .ok (.iconst 1, 1) := by decide +kernel
theorem dX8_isBetter_23 : decode cX8_isBetter 23 = .ok (.goto 4, 3) := by decide +kernel
theorem dX8_isBetter_26 : decode cX8_isBetter 26 = .ok (.iconst 0, 1) := by decide +kernel
theorem dX8_isBetter_27 : decode cX8_isBetter 27 = .ok (.ireturn, 1) := by decide +kernel
set_option maxRecDepth 20000 in
theorem ggX8_sidesByMeans_X8_meanAbove : GoodIn wsX8_sidesByMeans wsX8_meanAbove := goodIn_r _ [6, 7, 8, 9, 5, 10, 11, 12, 13, 14, 15, 16, 17, 18, 19, 20, 21, 22, 23, 24, 25, 26, 27, 31, 32, 33, 34, 35, 36, 37, 38, 39] (by decide +kernel) (by decide +kernel)
set_option maxRecDepth 20000 in
theorem gX8_sidesByMeans_X8_meanAbove : GoodIn wsX8_sidesByMeans (wsV RX8 60 RX8 yX8_meanAbove wsX8_meanAbove) := goodIn_app (goodIn_of _ (by decide +kernel)) ggX8_sidesByMeans_X8_meanAbove
set_option maxRecDepth 20000 in
theorem ggX8_sidesByMeans_X8_isBetter : GoodIn wsX8_sidesByMeans wsX8_isBetter := goodIn_r _ [30] (by decide +kernel) (by decide +kernel)
set_option maxRecDepth 20000 in
theorem gX8_sidesByMeans_X8_isBetter : GoodIn wsX8_sidesByMeans (va_wsS RX8 64 yX8_isBetter wsX8_isBetter) := goodIn_app (goodIn_of _ (by decide +kernel)) ggX8_sidesByMeans_X8_isBetter
theorem dX8_sidesByMeans_0 : decode cX8_sidesByMeans 0 = .ok (.iconst 0, 1) := by decide +kernel
theorem dX8_sidesByMeans_1 : decode cX8_sidesByMeans 1 = .ok (.istore_n 2, 1) := by decide +kernel
theorem dX8_sidesByMeans_2 : decode cX8_sidesByMeans 2 = .ok (.iconst 0, 1) := by decide +kernel
theorem dX8_sidesByMeans_3 : decode cX8_sidesByMeans 3 = .ok (.istore_n 3, 1) := by decide +kernel
theorem dX8_sidesByMeans_4 : decode cX8_sidesByMeans 4 = .ok (.iconst 0, 1) := by decide +kernel
theorem dX8_sidesByMeans_5 : decode cX8_sidesByMeans 5 = .ok (.istore 4, 2) := by decide +kernel
theorem dX8_sidesByMeans_7 : decode cX8_sidesByMeans 7 = .ok (.iload 4, 2) := by decide +kernel
theorem dX8_sidesByMeans_9 : decode cX8_sidesByMeans 9 = .ok (.aload_n 0, 1) := by decide +kernel
theorem dX8_sidesByMeans_10 : decode cX8_sidesByMeans 10 = .ok (.getfield 31, 3) := by decide +kernel
theorem dX8_sidesByMeans_13 : decode cX8_sidesByMeans 13 = .ok (.if_icmp .ge 49, 3) := by decide +kernel
theorem dX8_sidesByMeans_16 : decode cX8_sidesByMeans 16 = .ok (.iload_n 2, 1) := by decide +kernel
theorem dX8_sidesByMeans_17 : decode cX8_sidesByMeans 17 = .ok (.iconst 1, 1) := by decide +kernel
theorem dX8_sidesByMeans_18 : decode cX8_sidesByMeans 18 = .ok (.iload 4, 2) := by decide +kernel
theorem dX8_sidesByMeans_20 : decode cX8_sidesByMeans 20 = .ok (.ishl, 1) := by decide +kernel
theorem dX8_sidesByMeans_21 : decode cX8_sidesByMeans 21 = .ok (.ior, 1) := by decide +kernel
theorem dX8_sidesByMeans_22 : decode cX8_sidesByMeans 22 = .ok (.istore_n 2, 1) := by decide +kernel
theorem dX8_sidesByMeans_23 : decode cX8_sidesByMeans 23 = .ok (.iload_n 3, 1) := by decide +kernel
theorem dX8_sidesByMeans_24 : decode cX8_sidesByMeans 24 = .ok (.iconst 1, 1) := by decide +kernel
theorem dX8_sidesByMeans_25 : decode cX8_sidesByMeans 25 = .ok (.iload 4, 2) := by decide +kernel
theorem dX8_sidesByMeans_27 : decode cX8_sidesByMeans 27 = .ok (.ishl, 1) := by decide +kernel
theorem dX8_sidesByMeans_28 : decode cX8_sidesByMeans 28 = .ok (.ior, 1) := by decide +kernel
theorem dX8_sidesByMeans_29 : decode cX8_sidesByMeans 29 = .ok (.istore 5, 2) := by decide +kernel
theorem dX8_sidesByMeans_31 : decode cX8_sidesByMeans 31 = .ok (.iload_n 1, 1) := by decide +kernel
theorem dX8_sidesByMeans_32 : decode cX8_sidesByMeans 32 = .ok (.aload_n 0, 1) := by decide +kernel
theorem dX8_sidesByMeans_33 : decode cX8_sidesByMeans 33 = .ok (.iload_n 1, 1) := by decide +kernel
theorem dX8_sidesByMeans_34 : decode cX8_sidesByMeans 34 = .ok (.iload_n 2, 1) := by decide +kernel
theorem dX8_sidesByMeans_35 : decode cX8_sidesByMeans 35 = .ok (.iload 5, 2) := by decide +kernel
theorem dX8_sidesByMeans_37 : decode cX8_sidesByMeans 37 = .ok (.invokevirtual 60, 3) := by decide +kernel
theorem dX8_sidesByMeans_40 : decode cX8_sidesByMeans 40 = .ok (.aload_n 0, 1) := by decide +kernel
theorem dX8_sidesByMeans_41 : decode cX8_sidesByMeans 41 = .ok (.iload_n 1, 1) := by decide +kernel
theorem dX8_sidesByMeans_42 : decode cX8_sidesByMeans 42 = .ok (.iload_n 2, 1) := by decide +kernel
theorem dX8_sidesByMeans_43 : decode cX8_sidesByMeans 43 = .ok (.iload_n 3, 1) := by decide +kernel
theorem dX8_sidesByMeans_44 : decode cX8_sidesByMeans 44 = .ok (.invokevirtual 60, 3) := by decide +kernel
theorem dX8_sidesByMeans_47 : decode cX8_sidesByMeans 47 = .ok (.invokestatic 64, 3) := by decide +kernel
theorem dX8_sidesByMeans_50 : decode cX8_sidesByMeans 50 = .ok (.ifCond .eq 6, 3) := by decide +kernel
theorem dX8_sidesByMeans_53 : decode cX8_sidesByMeans 53 = .ok (.iload 5, 2) := by decide +kernel
theorem dX8_sidesByMeans_55 : decode cX8_sidesByMeans 55 = .ok (.istore_n 3, 1) := by decide +kernel
theorem dX8_sidesByMeans_56 : decode cX8_sidesByMeans 56 = .ok (.iinc 4 1, 3) := by decide +kernel
theorem dX8_sidesByMeans_59 : decode cX8_sidesByMeans 59 = .ok (.goto (-52), 3) := by decide +kernel
theorem dX8_sidesByMeans_62 : decode cX8_sidesByMeans 62 = .ok (.iload_n 3, 1) := by decide +kernel
theorem dX8_sidesByMeans_63 : decode cX8_sidesByMeans 63 = .ok (.ireturn, 1) := by decide +kernel
set_option maxRecDepth 20000 in
theorem ggX8_bestSides_X8_measureOf : GoodIn wsX8_bestSides wsX8_measureOf := goodIn_r _ [6, 7, 8, 9, 5, 10, 11, 12, 13, 14, 15, 16, 17, 18, 19, 20, 24, 25, 26, 27, 28, 29, 30, 31, 32] (by decide +kernel) (by decide +kernel)
set_option maxRecDepth 20000 in
theorem gX8_bestSides_X8_measureOf : GoodIn wsX8_bestSides (wsV RX8 68 RX8 yX8_measureOf wsX8_measureOf) := goodIn_app (goodIn_of _ (by decide +kernel)) ggX8_bestSides_X8_measureOf
set_option maxRecDepth 20000 in
theorem ggX8_bestSides_X8_isBetter : GoodIn wsX8_bestSides wsX8_isBetter := goodIn_r _ [23] (by decide +kernel) (by decide +kernel)
set_option maxRecDepth 20000 in
theorem gX8_bestSides_X8_isBetter : GoodIn wsX8_bestSides (va_wsS RX8 64 yX8_isBetter wsX8_isBetter) := goodIn_app (goodIn_of _ (by decide +kernel)) ggX8_bestSides_X8_isBetter
theorem dX8_bestSides_0 : decode cX8_bestSides 0 = .ok (.iconst 0, 1) := by decide +kernel
theorem dX8_bestSides_1 : decode cX8_bestSides 1 = .ok (.istore_n 2, 1) := by decide +kernel
theorem dX8_bestSides_2 : decode cX8_bestSides 2 = .ok (.aload_n 0, 1) := by decide +kernel
theorem dX8_bestSides_3 : decode cX8_bestSides 3 = .ok (.iload_n 1, 1) := by decide +kernel
theorem dX8_bestSides_4 : decode cX8_bestSides 4 = .ok (.iconst 0, 1) := by decide +kernel
theorem dX8_bestSides_5 : decode cX8_bestSides 5 = .ok (.invokevirtual 68, 3) := by decide +kernel
theorem dX8_bestSides_8 : decode cX8_bestSides 8 = .ok (.istore_n 3, 1) := by decide +kernel
theorem dX8_bestSides_9 : decode cX8_bestSides 9 = .ok (.iconst 1, 1) := by decide +kernel
theorem dX8_bestSides_10 : decode cX8_bestSides 10 = .ok (.istore 4, 2) := by decide +kernel
theorem dX8_bestSides_12 : decode cX8_bestSides 12 = .ok (.iload 4, 2) := by decide +kernel
theorem dX8_bestSides_14 : decode cX8_bestSides 14 = .ok (.iconst 1, 1) := by decide +kernel
theorem dX8_bestSides_15 : decode cX8_bestSides 15 = .ok (.aload_n 0, 1) := by decide +kernel
theorem dX8_bestSides_16 : decode cX8_bestSides 16 = .ok (.getfield 31, 3) := by decide +kernel
theorem dX8_bestSides_19 : decode cX8_bestSides 19 = .ok (.ishl, 1) := by decide +kernel
theorem dX8_bestSides_20 : decode cX8_bestSides 20 = .ok (.if_icmp .ge 34, 3) := by decide +kernel
theorem dX8_bestSides_23 : decode cX8_bestSides 23 = .ok (.aload_n 0, 1) := by decide +kernel
theorem dX8_bestSides_24 : decode cX8_bestSides 24 = .ok (.iload_n 1, 1) := by decide +kernel
theorem dX8_bestSides_25 : decode cX8_bestSides 25 = .ok (.iload 4, 2) := by decide +kernel
theorem dX8_bestSides_27 : decode cX8_bestSides 27 = .ok (.invokevirtual 68, 3) := by decide +kernel
theorem dX8_bestSides_30 : decode cX8_bestSides 30 = .ok (.istore 5, 2) := by decide +kernel
theorem dX8_bestSides_32 : decode cX8_bestSides 32 = .ok (.iload_n 1, 1) := by decide +kernel
theorem dX8_bestSides_33 : decode cX8_bestSides 33 = .ok (.iload 5, 2) := by decide +kernel
theorem dX8_bestSides_35 : decode cX8_bestSides 35 = .ok (.iload_n 3, 1) := by decide +kernel
theorem dX8_bestSides_36 : decode cX8_bestSides 36 = .ok (.invokestatic 64, 3) := by decide +kernel
theorem dX8_bestSides_39 : decode cX8_bestSides 39 = .ok (.ifCond .eq 9, 3) := by decide +kernel
theorem dX8_bestSides_42 : decode cX8_bestSides 42 = .ok (.iload 4, 2) := by decide +kernel
theorem dX8_bestSides_44 : decode cX8_bestSides 44 = .ok (.istore_n 2, 1) := by decide +kernel
theorem dX8_bestSides_45 : decode cX8_bestSides 45 = .ok (.iload 5, 2) := by decide +kernel
theorem dX8_bestSides_47 : decode cX8_bestSides 47 = .ok (.istore_n 3, 1) := by decide +kernel
theorem dX8_bestSides_48 : decode cX8_bestSides 48 = .ok (.iinc 4 1, 3) := by decide +kernel
theorem dX8_bestSides_51 : decode cX8_bestSides 51 = .ok (.goto (-39), 3) := by decide +kernel
theorem dX8_bestSides_54 : decode cX8_bestSides 54 = .ok (.iload_n 2, 1) := by decide +kernel
theorem dX8_bestSides_55 : decode cX8_bestSides 55 = .ok (.ireturn, 1) := by decide +kernel
set_option maxRecDepth 20000 in
theorem ggX8_walkCount_X8_lengthenWalks : GoodIn wsX8_walkCount wsX8_lengthenWalks := goodIn_r _ [11, 12, 13, 14, 15, 1, 16, 17, 18, 19, 20, 21, 22, 23, 24, 25, 26, 27, 28] (by decide +kernel) (by decide +kernel)
set_option maxRecDepth 20000 in
theorem gX8_walkCount_X8_lengthenWalks : GoodIn wsX8_walkCount (wsV RX8 71 RX8 yX8_lengthenWalks wsX8_lengthenWalks) := goodIn_app (goodIn_of _ (by decide +kernel)) ggX8_walkCount_X8_lengthenWalks
theorem dX8_walkCount_0 : decode cX8_walkCount 0 = .ok (.iconst 0, 1) := by decide +kernel
theorem dX8_walkCount_1 : decode cX8_walkCount 1 = .ok (.istore_n 3, 1) := by decide +kernel
theorem dX8_walkCount_2 : decode cX8_walkCount 2 = .ok (.iload_n 3, 1) := by decide +kernel
theorem dX8_walkCount_3 : decode cX8_walkCount 3 = .ok (.bipush 8, 2) := by decide +kernel
theorem dX8_walkCount_5 : decode cX8_walkCount 5 = .ok (.if_icmp .ge 21, 3) := by decide +kernel
theorem dX8_walkCount_8 : decode cX8_walkCount 8 = .ok (.aload_n 0, 1) := by decide +kernel
theorem dX8_walkCount_9 : decode cX8_walkCount 9 = .ok (.getfield 24, 3) := by decide +kernel
theorem dX8_walkCount_12 : decode cX8_walkCount 12 = .ok (.iload_n 3, 1) := by decide +kernel
theorem dX8_walkCount_13 : decode cX8_walkCount 13 = .ok (.iload_n 1, 1) := by decide +kernel
theorem dX8_walkCount_14 : decode cX8_walkCount 14 = .ok (.iload_n 3, 1) := by decide +kernel
theorem dX8_walkCount_15 : decode cX8_walkCount 15 = .ok (.ishr, 1) := by decide +kernel
theorem dX8_walkCount_16 : decode cX8_walkCount 16 = .ok (.iconst 1, 1) := by decide +kernel
theorem dX8_walkCount_17 : decode cX8_walkCount 17 = .ok (.iand, 1) := by decide +kernel
theorem dX8_walkCount_18 : decode cX8_walkCount 18 = .ok (.i2l, 1) := by decide +kernel
theorem dX8_walkCount_19 : decode cX8_walkCount 19 = .ok (.lastore, 1) := by decide +kernel
theorem dX8_walkCount_20 : decode cX8_walkCount 20 = .ok (.iinc 3 1, 3) := by decide +kernel
theorem dX8_walkCount_23 : decode cX8_walkCount 23 = .ok (.goto (-21), 3) := by decide +kernel
theorem dX8_walkCount_26 : decode cX8_walkCount 26 = .ok (.iconst 0, 1) := by decide +kernel
theorem dX8_walkCount_27 : decode cX8_walkCount 27 = .ok (.istore_n 3, 1) := by decide +kernel
theorem dX8_walkCount_28 : decode cX8_walkCount 28 = .ok (.iload_n 3, 1) := by decide +kernel
theorem dX8_walkCount_29 : decode cX8_walkCount 29 = .ok (.iload_n 2, 1) := by decide +kernel
theorem dX8_walkCount_30 : decode cX8_walkCount 30 = .ok (.if_icmp .ge 14, 3) := by decide +kernel
theorem dX8_walkCount_33 : decode cX8_walkCount 33 = .ok (.aload_n 0, 1) := by decide +kernel
theorem dX8_walkCount_34 : decode cX8_walkCount 34 = .ok (.iload_n 1, 1) := by decide +kernel
theorem dX8_walkCount_35 : decode cX8_walkCount 35 = .ok (.invokevirtual 71, 3) := by decide +kernel
theorem dX8_walkCount_38 : decode cX8_walkCount 38 = .ok (.iinc 3 1, 3) := by decide +kernel
theorem dX8_walkCount_41 : decode cX8_walkCount 41 = .ok (.goto (-13), 3) := by decide +kernel
theorem dX8_walkCount_44 : decode cX8_walkCount 44 = .ok (.lconst 0, 1) := by decide +kernel
theorem dX8_walkCount_45 : decode cX8_walkCount 45 = .ok (.lstore_n 3, 1) := by decide +kernel
theorem dX8_walkCount_46 : decode cX8_walkCount 46 = .ok (.iconst 0, 1) := by decide +kernel
theorem dX8_walkCount_47 : decode cX8_walkCount 47 = .ok (.istore 5, 2) := by decide +kernel
theorem dX8_walkCount_49 : decode cX8_walkCount 49 = .ok (.iload 5, 2) := by decide +kernel
theorem dX8_walkCount_51 : decode cX8_walkCount 51 = .ok (.bipush 8, 2) := by decide +kernel
theorem dX8_walkCount_53 : decode cX8_walkCount 53 = .ok (.if_icmp .ge 19, 3) := by decide +kernel
theorem dX8_walkCount_56 : decode cX8_walkCount 56 = .ok (.lload_n 3, 1) := by decide +kernel
theorem dX8_walkCount_57 : decode cX8_walkCount 57 = .ok (.aload_n 0, 1) := by decide +kernel
theorem dX8_walkCount_58 : decode cX8_walkCount 58 = .ok (.getfield 24, 3) := by decide +kernel
theorem dX8_walkCount_61 : decode cX8_walkCount 61 = .ok (.iload 5, 2) := by decide +kernel
theorem dX8_walkCount_63 : decode cX8_walkCount 63 = .ok (.laload, 1) := by decide +kernel
theorem dX8_walkCount_64 : decode cX8_walkCount 64 = .ok (.ladd, 1) := by decide +kernel
theorem dX8_walkCount_65 : decode cX8_walkCount 65 = .ok (.lstore_n 3, 1) := by decide +kernel
theorem dX8_walkCount_66 : decode cX8_walkCount 66 = .ok (.iinc 5 1, 3) := by decide +kernel
theorem dX8_walkCount_69 : decode cX8_walkCount 69 = .ok (.goto (-20), 3) := by decide +kernel
theorem dX8_walkCount_72 : decode cX8_walkCount 72 = .ok (.lload_n 3, 1) := by decide +kernel
theorem dX8_walkCount_73 : decode cX8_walkCount 73 = .ok (.ldc2_w 75, 3) := by decide +kernel
theorem dX8_walkCount_76 : decode cX8_walkCount 76 = .ok (.invokestatic 77, 3) := by decide +kernel
theorem dX8_walkCount_79 : decode cX8_walkCount 79 = .ok (.l2i, 1) := by decide +kernel
theorem dX8_walkCount_80 : decode cX8_walkCount 80 = .ok (.ireturn, 1) := by decide +kernel
set_option maxRecDepth 20000 in
theorem ggX8_lengthenWalks_J7_fill_d0a16 : GoodIn wsX8_lengthenWalks wsJ7_fill_d0a16 := goodIn_r _ [9] (by decide +kernel) (by decide +kernel)
set_option maxRecDepth 20000 in
theorem gX8_lengthenWalks_J7_fill_d0a16 : GoodIn wsX8_lengthenWalks (va_wsS RX8 83 yJ7_fill_d0a16 wsJ7_fill_d0a16) := goodIn_app (goodIn_of _ (by decide +kernel)) ggX8_lengthenWalks_J7_fill_d0a16
theorem dX8_lengthenWalks_0 : decode cX8_lengthenWalks 0 = .ok (.aload_n 0, 1) := by decide +kernel
theorem dX8_lengthenWalks_1 : decode cX8_lengthenWalks 1 = .ok (.getfield 28, 3) := by decide +kernel
theorem dX8_lengthenWalks_4 : decode cX8_lengthenWalks 4 = .ok (.lconst 0, 1) := by decide +kernel
theorem dX8_lengthenWalks_5 : decode cX8_lengthenWalks 5 = .ok (.invokestatic 83, 3) := by decide +kernel
theorem dX8_lengthenWalks_8 : decode cX8_lengthenWalks 8 = .ok (.iconst 0, 1) := by decide +kernel
theorem dX8_lengthenWalks_9 : decode cX8_lengthenWalks 9 = .ok (.istore_n 2, 1) := by decide +kernel
theorem dX8_lengthenWalks_10 : decode cX8_lengthenWalks 10 = .ok (.iload_n 2, 1) := by decide +kernel
theorem dX8_lengthenWalks_11 : decode cX8_lengthenWalks 11 = .ok (.aload_n 0, 1) := by decide +kernel
theorem dX8_lengthenWalks_12 : decode cX8_lengthenWalks 12 = .ok (.getfield 35, 3) := by decide +kernel
theorem dX8_lengthenWalks_15 : decode cX8_lengthenWalks 15 = .ok (.if_icmp .ge 70, 3) := by decide +kernel
theorem dX8_lengthenWalks_18 : decode cX8_lengthenWalks 18 = .ok (.aload_n 0, 1) := by decide +kernel
theorem dX8_lengthenWalks_19 : decode cX8_lengthenWalks 19 = .ok (.getfield 11, 3) := by decide +kernel
theorem dX8_lengthenWalks_22 : decode cX8_lengthenWalks 22 = .ok (.iload_n 2, 1) := by decide +kernel
theorem dX8_lengthenWalks_23 : decode cX8_lengthenWalks 23 = .ok (.iaload, 1) := by decide +kernel
theorem dX8_lengthenWalks_24 : decode cX8_lengthenWalks 24 = .ok (.istore_n 3, 1) := by decide +kernel
theorem dX8_lengthenWalks_25 : decode cX8_lengthenWalks 25 = .ok (.aload_n 0, 1) := by decide +kernel
theorem dX8_lengthenWalks_26 : decode cX8_lengthenWalks 26 = .ok (.getfield 15, 3) := by decide +kernel
theorem dX8_lengthenWalks_29 : decode cX8_lengthenWalks 29 = .ok (.iload_n 2, 1) := by decide +kernel
theorem dX8_lengthenWalks_30 : decode cX8_lengthenWalks 30 = .ok (.iaload, 1) := by decide +kernel
theorem dX8_lengthenWalks_31 : decode cX8_lengthenWalks 31 = .ok (.istore 4, 2) := by decide +kernel
theorem dX8_lengthenWalks_33 : decode cX8_lengthenWalks 33 = .ok (.iload_n 1, 1) := by decide +kernel
theorem dX8_lengthenWalks_34 : decode cX8_lengthenWalks 34 = .ok (.iload_n 3, 1) := by decide +kernel
theorem dX8_lengthenWalks_35 : decode cX8_lengthenWalks 35 = .ok (.ishr, 1) := by decide +kernel
theorem dX8_lengthenWalks_36 : decode cX8_lengthenWalks 36 = .ok (.iload_n 1, 1) := by decide +kernel
theorem dX8_lengthenWalks_37 : decode cX8_lengthenWalks 37 = .ok (.iload 4, 2) := by decide +kernel
theorem dX8_lengthenWalks_39 : decode cX8_lengthenWalks 39 = .ok (.ishr, 1) := by decide +kernel
theorem dX8_lengthenWalks_40 : decode cX8_lengthenWalks 40 = .ok (.iand, 1) := by decide +kernel
theorem dX8_lengthenWalks_41 : decode cX8_lengthenWalks 41 = .ok (.iconst 1, 1) := by decide +kernel
theorem dX8_lengthenWalks_42 : decode cX8_lengthenWalks 42 = .ok (.iand, 1) := by decide +kernel
theorem dX8_lengthenWalks_43 : decode cX8_lengthenWalks 43 = .ok (.iconst 1, 1) := by decide +kernel
theorem dX8_lengthenWalks_44 : decode cX8_lengthenWalks 44 = .ok (.if_icmp .ne 35, 3) := by decide +kernel
theorem dX8_lengthenWalks_47 : decode cX8_lengthenWalks 47 = .ok (.aload_n 0, 1) := by decide +kernel
theorem dX8_lengthenWalks_48 : decode cX8_lengthenWalks 48 = .ok (.getfield 28, 3) := by decide +kernel
theorem dX8_lengthenWalks_51 : decode cX8_lengthenWalks 51 = .ok (.iload_n 3, 1) := by decide +kernel
theorem dX8_lengthenWalks_52 : decode cX8_lengthenWalks 52 = .ok (.dup2, 1) := by decide +kernel
theorem dX8_lengthenWalks_53 : decode cX8_lengthenWalks 53 = .ok (.laload, 1) := by decide +kernel
theorem dX8_lengthenWalks_54 : decode cX8_lengthenWalks 54 = .ok (.aload_n 0, 1) := by decide +kernel
theorem dX8_lengthenWalks_55 : decode cX8_lengthenWalks 55 = .ok (.getfield 24, 3) := by decide +kernel
theorem dX8_lengthenWalks_58 : decode cX8_lengthenWalks 58 = .ok (.iload 4, 2) := by decide +kernel
theorem dX8_lengthenWalks_60 : decode cX8_lengthenWalks 60 = .ok (.laload, 1) := by decide +kernel
theorem dX8_lengthenWalks_61 : decode cX8_lengthenWalks 61 = .ok (.ladd, 1) := by decide +kernel
theorem dX8_lengthenWalks_62 : decode cX8_lengthenWalks 62 = .ok (.lastore, 1) := by decide +kernel
theorem dX8_lengthenWalks_63 : decode cX8_lengthenWalks 63 = .ok (.aload_n 0, 1) := by decide +kernel
theorem dX8_lengthenWalks_64 : decode cX8_lengthenWalks 64 = .ok (.getfield 28, 3) := by decide +kernel
theorem dX8_lengthenWalks_67 : decode cX8_lengthenWalks 67 = .ok (.iload 4, 2) := by decide +kernel
theorem dX8_lengthenWalks_69 : decode cX8_lengthenWalks 69 = .ok (.dup2, 1) := by decide +kernel
theorem dX8_lengthenWalks_70 : decode cX8_lengthenWalks 70 = .ok (.laload, 1) := by decide +kernel
theorem dX8_lengthenWalks_71 : decode cX8_lengthenWalks 71 = .ok (.aload_n 0, 1) := by decide +kernel
theorem dX8_lengthenWalks_72 : decode cX8_lengthenWalks 72 = .ok (.getfield 24, 3) := by decide +kernel
theorem dX8_lengthenWalks_75 : decode cX8_lengthenWalks 75 = .ok (.iload_n 3, 1) := by decide +kernel
theorem dX8_lengthenWalks_76 : decode cX8_lengthenWalks 76 = .ok (.laload, 1) := by decide +kernel
theorem dX8_lengthenWalks_77 : decode cX8_lengthenWalks 77 = .ok (.ladd, 1) := by decide +kernel
theorem dX8_lengthenWalks_78 : decode cX8_lengthenWalks 78 = .ok (.lastore, 1) := by decide +kernel
theorem dX8_lengthenWalks_79 : decode cX8_lengthenWalks 79 = .ok (.iinc 2 1, 3) := by decide +kernel
theorem dX8_lengthenWalks_82 : decode cX8_lengthenWalks 82 = .ok (.goto (-72), 3) := by decide +kernel
theorem dX8_lengthenWalks_85 : decode cX8_lengthenWalks 85 = .ok (.aload_n 0, 1) := by decide +kernel
theorem dX8_lengthenWalks_86 : decode cX8_lengthenWalks 86 = .ok (.getfield 24, 3) := by decide +kernel
theorem dX8_lengthenWalks_89 : decode cX8_lengthenWalks 89 = .ok (.astore_n 2, 1) := by decide +kernel
theorem dX8_lengthenWalks_90 : decode cX8_lengthenWalks 90 = .ok (.aload_n 0, 1) := by decide +kernel
theorem dX8_lengthenWalks_91 : decode cX8_lengthenWalks 91 = .ok (.aload_n 0, 1) := by decide +kernel
theorem dX8_lengthenWalks_92 : decode cX8_lengthenWalks 92 = .ok (.getfield 28, 3) := by decide +kernel
theorem dX8_lengthenWalks_95 : decode cX8_lengthenWalks 95 = .ok (.putfield 24, 3) := by decide +kernel
theorem dX8_lengthenWalks_98 : decode cX8_lengthenWalks 98 = .ok (.aload_n 0, 1) := by decide +kernel
theorem dX8_lengthenWalks_99 : decode cX8_lengthenWalks 99 = .ok (.aload_n 2, 1) := by decide +kernel
theorem dX8_lengthenWalks_100 : decode cX8_lengthenWalks 100 = .ok (.putfield 28, 3) := by decide +kernel
theorem dX8_lengthenWalks_103 : decode cX8_lengthenWalks 103 = .ok (.return_, 1) := by decide +kernel
set_option maxRecDepth 20000 in
theorem ggX9_init_X6_init : GoodIn wsX9_init wsX6_init := goodIn_r _ [43, 44, 2, 3, 45, 46, 47, 131, 132] (by decide +kernel) (by decide +kernel)
set_option maxRecDepth 20000 in
theorem gX9_init_X6_init : GoodIn wsX9_init (wsX6_init) := ggX9_init_X6_init
set_option maxRecDepth 20000 in
theorem ggX9_init_X3_init : GoodIn wsX9_init wsX3_init := goodIn_r _ [50, 51, 2, 3, 52, 53, 54, 55, 143, 144, 145, 146] (by decide +kernel) (by decide +kernel)
set_option maxRecDepth 20000 in
theorem gX9_init_X3_init : GoodIn wsX9_init (wsX3_init) := ggX9_init_X3_init
set_option maxRecDepth 20000 in
theorem ggX9_init_X2_init : GoodIn wsX9_init wsX2_init := goodIn_r _ [58, 59, 2, 3, 45, 60, 61, 62, 63, 64, 65, 66, 67, 68, 69, 70, 71, 155, 156, 157, 158, 159, 160, 161, 162, 163, 164, 165] (by decide +kernel) (by decide +kernel)
set_option maxRecDepth 20000 in
theorem gX9_init_X2_init : GoodIn wsX9_init (wsX2_init) := ggX9_init_X2_init
set_option maxRecDepth 20000 in
theorem ggX9_init_X7_init : GoodIn wsX9_init wsX7_init := goodIn_r _ [74, 75, 2, 3, 76, 66, 77, 45, 78, 79, 80, 81, 82, 83, 147, 148, 149, 150, 151, 152, 153, 154] (by decide +kernel) (by decide +kernel)
set_option maxRecDepth 20000 in
theorem gX9_init_X7_init : GoodIn wsX9_init (wsX7_init) := ggX9_init_X7_init
set_option maxRecDepth 20000 in
theorem ggX9_init_X8_init : GoodIn wsX9_init wsX8_init := goodIn_r _ [86, 87, 2, 3, 45, 88, 89, 90, 91, 66, 92, 93, 94, 95, 96, 166, 167, 168, 169, 170, 171, 172, 173, 174] (by decide +kernel) (by decide +kernel)
set_option maxRecDepth 20000 in
theorem gX9_init_X8_init : GoodIn wsX9_init (wsX8_init) := ggX9_init_X8_init
set_option maxRecDepth 20000 in
theorem ggX9_init_X0_init : GoodIn wsX9_init wsX0_init := goodIn_r _ [99, 100, 2, 3, 45, 101, 102, 175, 176] (by decide +kernel) (by decide +kernel)
set_option maxRecDepth 20000 in
theorem gX9_init_X0_init : GoodIn wsX9_init (wsX0_init) := ggX9_init_X0_init
set_option maxRecDepth 20000 in
theorem ggX9_init_X4_init : GoodIn wsX9_init wsX4_init := goodIn_r _ [105, 106, 2, 3, 45, 107, 108, 109, 110, 111, 112, 113, 114, 177] (by decide +kernel) (by decide +kernel)
set_option maxRecDepth 20000 in
theorem gX9_init_X4_init : GoodIn wsX9_init (wsX4_init) := ggX9_init_X4_init
set_option maxRecDepth 20000 in
theorem ggX9_init_X5_init : GoodIn wsX9_init wsX5_init := goodIn_r _ [117, 118, 2, 3, 66, 119, 120, 178, 179] (by decide +kernel) (by decide +kernel)
set_option maxRecDepth 20000 in
theorem gX9_init_X5_init : GoodIn wsX9_init (wsX5_init) := ggX9_init_X5_init
set_option maxRecDepth 20000 in
theorem ggX9_init_X1_init : GoodIn wsX9_init wsX1_init := goodIn_r _ [123, 124, 2, 3, 66, 125, 126, 127, 128, 129, 130, 180, 181, 182, 183, 184, 185] (by decide +kernel) (by decide +kernel)
set_option maxRecDepth 20000 in
theorem gX9_init_X1_init : GoodIn wsX9_init (wsX1_init) := ggX9_init_X1_init
