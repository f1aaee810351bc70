theorem dX7_init_0 : decode cX7_init 0 = .ok (.aload_n 0, 1) := by decide +kernel
theorem dX7_init_1 : decode cX7_init 1 = .ok (.invokespecial 1, 3) := by decide +kernel
theorem dX7_init_4 : decode cX7_init 4 = .ok (.aload_n 0, 1) := by decide +kernel
theorem dX7_init_5 : decode cX7_init 5 = .ok (.bipush 110, 2) := by decide +kernel
theorem dX7_init_7 : decode cX7_init 7 = .ok (.newarray .int, 2) := by decide +kernel
theorem dX7_init_9 : decode cX7_init 9 = .ok (.putfield 7, 3) := by decide +kernel
theorem dX7_init_12 : decode cX7_init 12 = .ok (.aload_n 0, 1) := by decide +kernel
theorem dX7_init_13 : decode cX7_init 13 = .ok (.bipush 60, 2) := by decide +kernel
theorem dX7_init_15 : decode cX7_init 15 = .ok (.newarray .int, 2) := by decide +kernel
theorem dX7_init_17 : decode cX7_init 17 = .ok (.putfield 13, 3) := by decide +kernel
theorem dX7_init_20 : decode cX7_init 20 = .ok (.aload_n 0, 1) := by decide +kernel
theorem dX7_init_21 : decode cX7_init 21 = .ok (.bipush 64, 2) := by decide +kernel
theorem dX7_init_23 : decode cX7_init 23 = .ok (.newarray .int, 2) := by decide +kernel
theorem dX7_init_25 : decode cX7_init 25 = .ok (.putfield 16, 3) := by decide +kernel
theorem dX7_init_28 : decode cX7_init 28 = .ok (.aload_n 0, 1) := by decide +kernel
theorem dX7_init_29 : decode cX7_init 29 = .ok (.bipush 40, 2) := by decide +kernel
theorem dX7_init_31 : decode cX7_init 31 = .ok (.newarray .int, 2) := by decide +kernel
theorem dX7_init_33 : decode cX7_init 33 = .ok (.putfield 19, 3) := by decide +kernel
theorem dX7_init_36 : decode cX7_init 36 = .ok (.aload_n 0, 1) := by decide +kernel
theorem dX7_init_37 : decode cX7_init 37 = .ok (.bipush 41, 2) := by decide +kernel
theorem dX7_init_39 : decode cX7_init 39 = .ok (.newarray .long, 2) := by decide +kernel
theorem dX7_init_41 : decode cX7_init 41 = .ok (.putfield 22, 3) := by decide +kernel
theorem dX7_init_44 : decode cX7_init 44 = .ok (.aload_n 0, 1) := by decide +kernel
theorem dX7_init_45 : decode cX7_init 45 = .ok (.bipush 41, 2) := by decide +kernel
theorem dX7_init_47 : decode cX7_init 47 = .ok (.newarray .long, 2) := by decide +kernel
theorem dX7_init_49 : decode cX7_init 49 = .ok (.putfield 26, 3) := by decide +kernel
theorem dX7_init_52 : decode cX7_init 52 = .ok (.aload_n 0, 1) := by decide +kernel
theorem dX7_init_53 : decode cX7_init 53 = .ok (.bipush 64, 2) := by decide +kernel
theorem dX7_init_55 : decode cX7_init 55 = .ok (.newarray .long, 2) := by decide +kernel
theorem dX7_init_57 : decode cX7_init 57 = .ok (.putfield 29, 3) := by decide +kernel
theorem dX7_init_60 : decode cX7_init 60 = .ok (.aload_n 0, 1) := by decide +kernel
theorem dX7_init_61 : decode cX7_init 61 = .ok (.bipush 64, 2) := by decide +kernel
theorem dX7_init_63 : decode cX7_init 63 = .ok (.newarray .long, 2) := by decide +kernel
theorem dX7_init_65 : decode cX7_init 65 = .ok (.putfield 32, 3) := by decide +kernel
theorem dX7_init_68 : decode cX7_init 68 = .ok (.aload_n 0, 1) := by decide +kernel
theorem dX7_init_69 : decode cX7_init 69 = .ok (.bipush 60, 2) := by decide +kernel
theorem dX7_init_71 : decode cX7_init 71 = .ok (.newarray .int, 2) := by decide +kernel
theorem dX7_init_73 : decode cX7_init 73 = .ok (.putfield 35, 3) := by decide +kernel
theorem dX7_init_76 : decode cX7_init 76 = .ok (.aload_n 0, 1) := by decide +kernel
theorem dX7_init_77 : decode cX7_init 77 = .ok (.getfield 7, 3) := by decide +kernel
theorem dX7_init_80 : decode cX7_init 80 = .ok (.iconst 0, 1) := by decide +kernel
theorem dX7_init_81 : decode cX7_init 81 = .ok (.iconst 1, 1) := by decide +kernel
theorem dX7_init_82 : decode cX7_init 82 = .ok (.iastore, 1) := by decide +kernel
theorem dX7_init_83 : decode cX7_init 83 = .ok (.aload_n 0, 1) := by decide +kernel
theorem dX7_init_84 : decode cX7_init 84 = .ok (.getfield 7, 3) := by decide +kernel
theorem dX7_init_87 : decode cX7_init 87 = .ok (.iconst 1, 1) := by decide +kernel
theorem dX7_init_88 : decode cX7_init 88 = .ok (.iconst 1, 1) := by decide +kernel
theorem dX7_init_89 : decode cX7_init 89 = .ok (.iastore, 1) := by decide +kernel
theorem dX7_init_90 : decode cX7_init 90 = .ok (.return_, 1) := by decide +kernel
theorem dX7_in_0 : decode cX7_in 0 = .ok (.lload_n 0, 1) := by decide +kernel
theorem dX7_in_1 : decode cX7_in 1 = .ok (.lload_n 2, 1) := by decide +kernel
theorem dX7_in_2 : decode cX7_in 2 = .ok (.lcmp, 1) := by decide +kernel
theorem dX7_in_3 : decode cX7_in 3 = .ok (.ifCond .lt 14, 3) := by decide +kernel
theorem dX7_in_6 : decode cX7_in 6 = .ok (.lload_n 0, 1) := by decide +kernel
theorem dX7_in_7 : decode cX7_in 7 = .ok (.lload 4, 2) := by decide +kernel
theorem dX7_in_9 : decode cX7_in 9 = .ok (.lcmp, 1) := by decide +kernel
theorem dX7_in_10 : decode cX7_in 10 = .ok (.ifCond .gt 7, 3) := by decide +kernel
theorem dX7_in_13 : decode cX7_in 13 = .ok (.iconst 1, 1) := by decide +kernel
theorem dX7_in_14 : decode cX7_in 14 = .ok (.goto 4, 3) := by decide +kernel
theorem dX7_in_17 : decode cX7_in 17 = .ok (.iconst 0, 1) := by decide +kernel
theorem dX7_in_18 : decode cX7_in 18 = .ok (.ireturn, 1) := by decide +kernel
theorem dX7_has_0 : decode cX7_has 0 = .ok (.iload_n 0, 1) := by decide +kernel
theorem dX7_has_1 : decode cX7_has 1 = .ok (.iload_n 1, 1) := by decide +kernel
theorem dX7_has_2 : decode cX7_has 2 = .ok (.ishr, 1) := by decide +kernel
theorem dX7_has_3 : decode cX7_has 3 = .ok (.iconst 1, 1) := by decide +kernel
theorem dX7_has_4 : decode cX7_has 4 = .ok (.iand, 1) := by decide +kernel
theorem dX7_has_5 : decode cX7_has 5 = .ok (.iconst 1, 1) := by decide +kernel
theorem dX7_has_6 : decode cX7_has 6 = .ok (.if_icmp .ne 7, 3) := by decide +kernel
theorem dX7_has_9 : decode cX7_has 9 = .ok (.iconst 1, 1) := by decide +kernel
theorem dX7_has_10 : decode cX7_has 10 = .ok (.goto 4, 3) := by decide +kernel
theorem dX7_has_13 : decode cX7_has 13 = .ok (.iconst 0, 1) := by decide +kernel
theorem dX7_has_14 : decode cX7_has 14 = .ok (.ireturn, 1) := by decide +kernel
theorem dX7_copyRow_0 : decode cX7_copyRow 0 = .ok (.iconst 0, 1) := by decide +kernel
theorem dX7_copyRow_1 : decode cX7_copyRow 1 = .ok (.istore_n 3, 1) := by decide +kernel
theorem dX7_copyRow_2 : decode cX7_copyRow 2 = .ok (.iload_n 3, 1) := by decide +kernel
theorem dX7_copyRow_3 : decode cX7_copyRow 3 = .ok (.bipush 10, 2) := by decide +kernel
theorem dX7_copyRow_5 : decode cX7_copyRow 5 = .ok (.if_icmp .ge 25, 3) := by decide +kernel
theorem dX7_copyRow_8 : decode cX7_copyRow 8 = .ok (.aload_n 0, 1) := by decide +kernel
theorem dX7_copyRow_9 : decode cX7_copyRow 9 = .ok (.getfield 7, 3) := by decide +kernel
theorem dX7_copyRow_12 : decode cX7_copyRow 12 = .ok (.iload_n 2, 1) := by decide +kernel
theorem dX7_copyRow_13 : decode cX7_copyRow 13 = .ok (.iload_n 3, 1) := by decide +kernel
theorem dX7_copyRow_14 : decode cX7_copyRow 14 = .ok (.iadd, 1) := by decide +kernel
theorem dX7_copyRow_15 : decode cX7_copyRow 15 = .ok (.aload_n 0, 1) := by decide +kernel
theorem dX7_copyRow_16 : decode cX7_copyRow 16 = .ok (.getfield 7, 3) := by decide +kernel
theorem dX7_copyRow_19 : decode cX7_copyRow 19 = .ok (.iload_n 1, 1) := by decide +kernel
theorem dX7_copyRow_20 : decode cX7_copyRow 20 = .ok (.iload_n 3, 1) := by decide +kernel
theorem dX7_copyRow_21 : decode cX7_copyRow 21 = .ok (.iadd, 1) := by decide +kernel
theorem dX7_copyRow_22 : decode cX7_copyRow 22 = .ok (.iaload, 1) := by decide +kernel
theorem dX7_copyRow_23 : decode cX7_copyRow 23 = .ok (.iastore, 1) := by decide +kernel
theorem dX7_copyRow_24 : decode cX7_copyRow 24 = .ok (.iinc 3 1, 3) := by decide +kernel
theorem dX7_copyRow_27 : decode cX7_copyRow 27 = .ok (.goto (-25), 3) := by decide +kernel
theorem dX7_copyRow_30 : decode cX7_copyRow 30 = .ok (.return_, 1) := by decide +kernel
set_option maxRecDepth 20000 in
theorem ggX7_remember_X7_copyRow : GoodIn wsX7_remember wsX7_copyRow := goodIn_r _ [6, 7, 8, 9, 10, 11, 12, 13, 14, 15, 16, 17, 18, 19, 20, 21, 22, 23, 24, 25, 26] (by decide +kernel) (by decide +kernel)
set_option maxRecDepth 20000 in
theorem gX7_remember_X7_copyRow : GoodIn wsX7_remember (wsV RX7 38 RX7 yX7_copyRow wsX7_copyRow) := goodIn_app (goodIn_of _ (by decide +kernel)) ggX7_remember_X7_copyRow
theorem dX7_remember_0 : decode cX7_remember 0 = .ok (.bipush 8, 2) := by decide +kernel
theorem dX7_remember_2 : decode cX7_remember 2 = .ok (.istore_n 1, 1) := by decide +kernel
theorem dX7_remember_3 : decode cX7_remember 3 = .ok (.iload_n 1, 1) := by decide +kernel
theorem dX7_remember_4 : decode cX7_remember 4 = .ok (.ifCond .le 23, 3) := by decide +kernel
theorem dX7_remember_7 : decode cX7_remember 7 = .ok (.aload_n 0, 1) := by decide +kernel
theorem dX7_remember_8 : decode cX7_remember 8 = .ok (.bipush 10, 2) := by decide +kernel
theorem dX7_remember_10 : decode cX7_remember 10 = .ok (.iload_n 1, 1) := by decide +kernel
theorem dX7_remember_11 : decode cX7_remember 11 = .ok (.iconst 1, 1) := by decide +kernel
theorem dX7_remember_12 : decode cX7_remember 12 = .ok (.isub, 1) := by decide +kernel
theorem dX7_remember_13 : decode cX7_remember 13 = .ok (.imul, 1) := by decide +kernel
theorem dX7_remember_14 : decode cX7_remember 14 = .ok (.bipush 10, 2) := by decide +kernel
theorem dX7_remember_16 : decode cX7_remember 16 = .ok (.iload_n 1, 1) := by decide +kernel
theorem dX7_remember_17 : decode cX7_remember 17 = .ok (.imul, 1) := by decide +kernel
theorem dX7_remember_18 : decode cX7_remember 18 = .ok (.invokevirtual 38, 3) := by decide +kernel
theorem dX7_remember_21 : decode cX7_remember 21 = .ok (.iinc 1 (-1), 3) := by decide +kernel
theorem dX7_remember_24 : decode cX7_remember 24 = .ok (.goto (-21), 3) := by decide +kernel
theorem dX7_remember_27 : decode cX7_remember 27 = .ok (.aload_n 0, 1) := by decide +kernel
theorem dX7_remember_28 : decode cX7_remember 28 = .ok (.aload_n 0, 1) := by decide +kernel
theorem dX7_remember_29 : decode cX7_remember 29 = .ok (.getfield 42, 3) := by decide +kernel
theorem dX7_remember_32 : decode cX7_remember 32 = .ok (.bipush 8, 2) := by decide +kernel
theorem dX7_remember_34 : decode cX7_remember 34 = .ok (.if_icmp .ge 12, 3) := by decide +kernel
theorem dX7_remember_37 : decode cX7_remember 37 = .ok (.aload_n 0, 1) := by decide +kernel
theorem dX7_remember_38 : decode cX7_remember 38 = .ok (.getfield 42, 3) := by decide +kernel
theorem dX7_remember_41 : decode cX7_remember 41 = .ok (.iconst 1, 1) := by decide +kernel
theorem dX7_remember_42 : decode cX7_remember 42 = .ok (.iadd, 1) := by decide +kernel
theorem dX7_remember_43 : decode cX7_remember 43 = .ok (.goto 5, 3) := by decide +kernel
theorem dX7_remember_46 : decode cX7_remember 46 = .ok (.bipush 8, 2) := by decide +kernel
theorem dX7_remember_48 : decode cX7_remember 48 = .ok (.putfield 42, 3) := by decide +kernel
theorem dX7_remember_51 : decode cX7_remember 51 = .ok (.return_, 1) := by decide +kernel
theorem dX7_inside_0 : decode cX7_inside 0 = .ok (.aload_n 0, 1) := by decide +kernel
theorem dX7_inside_1 : decode cX7_inside 1 = .ok (.getfield 7, 3) := by decide +kernel
theorem dX7_inside_4 : decode cX7_inside 4 = .ok (.iconst 0, 1) := by decide +kernel
theorem dX7_inside_5 : decode cX7_inside 5 = .ok (.iaload, 1) := by decide +kernel
theorem dX7_inside_6 : decode cX7_inside 6 = .ok (.i2l, 1) := by decide +kernel
theorem dX7_inside_7 : decode cX7_inside 7 = .ok (.aload_n 0, 1) := by decide +kernel
theorem dX7_inside_8 : decode cX7_inside 8 = .ok (.getfield 7, 3) := by decide +kernel
theorem dX7_inside_11 : decode cX7_inside 11 = .ok (.iconst 0, 1) := by decide +kernel
theorem dX7_inside_12 : decode cX7_inside 12 = .ok (.iaload, 1) := by decide +kernel
theorem dX7_inside_13 : decode cX7_inside 13 = .ok (.i2l, 1) := by decide +kernel
theorem dX7_inside_14 : decode cX7_inside 14 = .ok (.lmul, 1) := by decide +kernel
theorem dX7_inside_15 : decode cX7_inside 15 = .ok (.ldc2_w 46, 3) := by decide +kernel
theorem dX7_inside_18 : decode cX7_inside 18 = .ok (.aload_n 0, 1) := by decide +kernel
theorem dX7_inside_19 : decode cX7_inside 19 = .ok (.getfield 7, 3) := by decide +kernel
theorem dX7_inside_22 : decode cX7_inside 22 = .ok (.iconst 1, 1) := by decide +kernel
theorem dX7_inside_23 : decode cX7_inside 23 = .ok (.iaload, 1) := by decide +kernel
theorem dX7_inside_24 : decode cX7_inside 24 = .ok (.i2l, 1) := by decide +kernel
theorem dX7_inside_25 : decode cX7_inside 25 = .ok (.lmul, 1) := by decide +kernel
theorem dX7_inside_26 : decode cX7_inside 26 = .ok (.ladd, 1) := by decide +kernel
theorem dX7_inside_27 : decode cX7_inside 27 = .ok (.lreturn, 1) := by decide +kernel
theorem dX7_signOne_0 : decode cX7_signOne 0 = .ok (.lload_n 0, 1) := by decide +kernel
theorem dX7_signOne_1 : decode cX7_signOne 1 = .ok (.lconst 0, 1) := by decide +kernel
theorem dX7_signOne_2 : decode cX7_signOne 2 = .ok (.lcmp, 1) := by decide +kernel
theorem dX7_signOne_3 : decode cX7_signOne 3 = .ok (.ifCond .le 7, 3) := by decide +kernel
theorem dX7_signOne_6 : decode cX7_signOne 6 = .ok (.iconst 1, 1) := by decide +kernel
theorem dX7_signOne_7 : decode cX7_signOne 7 = .ok (.goto 14, 3) := by decide +kernel
theorem dX7_signOne_10 : decode cX7_signOne 10 = .ok (.lload_n 0, 1) := by decide +kernel
theorem dX7_signOne_11 : decode cX7_signOne 11 = .ok (.lconst 0, 1) := by decide +kernel
theorem dX7_signOne_12 : decode cX7_signOne 12 = .ok (.lcmp, 1) := by decide +kernel
theorem dX7_signOne_13 : decode cX7_signOne 13 = .ok (.ifCond .ge 7, 3) := by decide +kernel
theorem dX7_signOne_16 : decode cX7_signOne 16 = .ok (.iconst (-1), 1) := by decide +kernel
theorem dX7_signOne_17 : decode cX7_signOne 17 = .ok (.goto 4, 3) := by decide +kernel
theorem dX7_signOne_20 : decode cX7_signOne 20 = .ok (.iconst 0, 1) := by decide +kernel
theorem dX7_signOne_21 : decode cX7_signOne 21 = .ok (.ireturn, 1) := by decide +kernel
set_option maxRecDepth 20000 in
theorem ggX7_signOf_X7_signOne : GoodIn wsX7_signOf wsX7_signOne := goodIn_r _ [6] (by decide +kernel) (by decide +kernel)
set_option maxRecDepth 20000 in
theorem gX7_signOf_X7_signOne : GoodIn wsX7_signOf (va_wsS RX7 50 yX7_signOne wsX7_signOne) := goodIn_app (goodIn_of _ (by decide +kernel)) ggX7_signOf_X7_signOne
set_option maxRecDepth 20000 in
theorem ggX7_signOf_X7_inside : GoodIn wsX7_signOf wsX7_inside := goodIn_r _ [10, 2, 11, 12, 13, 14, 15, 16, 17, 18, 19, 20, 21, 22, 23, 24, 25, 26, 27, 28, 29, 30] (by decide +kernel) (by decide +kernel)
set_option maxRecDepth 20000 in
theorem gX7_signOf_X7_inside : GoodIn wsX7_signOf (wsV RX7 54 RX7 yX7_inside wsX7_inside) := goodIn_app (goodIn_of _ (by decide +kernel)) ggX7_signOf_X7_inside
theorem dX7_signOf_0 : decode cX7_signOf 0 = .ok (.ldc2_w 48, 3) := by decide +kernel
theorem dX7_signOf_3 : decode cX7_signOf 3 = .ok (.lload_n 1, 1) := by decide +kernel
theorem dX7_signOf_4 : decode cX7_signOf 4 = .ok (.lmul, 1) := by decide +kernel
theorem dX7_signOf_5 : decode cX7_signOf 5 = .ok (.lload_n 3, 1) := by decide +kernel
theorem dX7_signOf_6 : decode cX7_signOf 6 = .ok (.aload_n 0, 1) := by decide +kernel
theorem dX7_signOf_7 : decode cX7_signOf 7 = .ok (.getfield 7, 3) := by decide +kernel
theorem dX7_signOf_10 : decode cX7_signOf 10 = .ok (.iconst 0, 1) := by decide +kernel
theorem dX7_signOf_11 : decode cX7_signOf 11 = .ok (.iaload, 1) := by decide +kernel
theorem dX7_signOf_12 : decode cX7_signOf 12 = .ok (.i2l, 1) := by decide +kernel
theorem dX7_signOf_13 : decode cX7_signOf 13 = .ok (.lmul, 1) := by decide +kernel
theorem dX7_signOf_14 : decode cX7_signOf 14 = .ok (.ladd, 1) := by decide +kernel
theorem dX7_signOf_15 : decode cX7_signOf 15 = .ok (.lstore 5, 2) := by decide +kernel
theorem dX7_signOf_17 : decode cX7_signOf 17 = .ok (.lload 5, 2) := by decide +kernel
theorem dX7_signOf_19 : decode cX7_signOf 19 = .ok (.invokestatic 50, 3) := by decide +kernel
theorem dX7_signOf_22 : decode cX7_signOf 22 = .ok (.lload_n 3, 1) := by decide +kernel
theorem dX7_signOf_23 : decode cX7_signOf 23 = .ok (.invokestatic 50, 3) := by decide +kernel
theorem dX7_signOf_26 : decode cX7_signOf 26 = .ok (.imul, 1) := by decide +kernel
theorem dX7_signOf_27 : decode cX7_signOf 27 = .ok (.ifCond .lt 22, 3) := by decide +kernel
theorem dX7_signOf_30 : decode cX7_signOf 30 = .ok (.lload_n 3, 1) := by decide +kernel
theorem dX7_signOf_31 : decode cX7_signOf 31 = .ok (.lconst 0, 1) := by decide +kernel
theorem dX7_signOf_32 : decode cX7_signOf 32 = .ok (.lcmp, 1) := by decide +kernel
theorem dX7_signOf_33 : decode cX7_signOf 33 = .ok (.ifCond .ne 11, 3) := by decide +kernel
theorem dX7_signOf_36 : decode cX7_signOf 36 = .ok (.lload 5, 2) := by decide +kernel
theorem dX7_signOf_38 : decode cX7_signOf 38 = .ok (.invokestatic 50, 3) := by decide +kernel
theorem dX7_signOf_41 : decode cX7_signOf 41 = .ok (.goto 7, 3) := by decide +kernel
theorem dX7_signOf_44 : decode cX7_signOf 44 = .ok (.lload_n 3, 1) := by decide +kernel
theorem dX7_signOf_45 : decode cX7_signOf 45 = .ok (.invokestatic 50, 3) := by decide +kernel
theorem dX7_signOf_48 : decode cX7_signOf 48 = .ok (.ireturn, 1) := by decide +kernel
theorem dX7_signOf_49 : decode cX7_signOf 49 = .ok (.lload_n 3, 1) := by decide +kernel
theorem dX7_signOf_50 : decode cX7_signOf 50 = .ok (.lload_n 3, 1) := by decide +kernel
theorem dX7_signOf_51 : decode cX7_signOf 51 = .ok (.lmul, 1) := by decide +kernel
theorem dX7_signOf_52 : decode cX7_signOf 52 = .ok (.aload_n 0, 1) := by decide +kernel
theorem dX7_signOf_53 : decode cX7_signOf 53 = .ok (.invokevirtual 54, 3) := by decide +kernel
theorem dX7_signOf_56 : decode cX7_signOf 56 = .ok (.lmul, 1) := by decide +kernel
theorem dX7_signOf_57 : decode cX7_signOf 57 = .ok (.lload 5, 2) := by decide +kernel
theorem dX7_signOf_59 : decode cX7_signOf 59 = .ok (.lload 5, 2) := by decide +kernel
theorem dX7_signOf_61 : decode cX7_signOf 61 = .ok (.lmul, 1) := by decide +kernel
theorem dX7_signOf_62 : decode cX7_signOf 62 = .ok (.lcmp, 1) := by decide +kernel
theorem dX7_signOf_63 : decode cX7_signOf 63 = .ok (.ifCond .le 7, 3) := by decide +kernel
theorem dX7_signOf_66 : decode cX7_signOf 66 = .ok (.iconst 1, 1) := by decide +kernel
theorem dX7_signOf_67 : decode cX7_signOf 67 = .ok (.goto 4, 3) := by decide +kernel
theorem dX7_signOf_70 : decode cX7_signOf 70 = .ok (.iconst 0, 1) := by decide +kernel
theorem dX7_signOf_71 : decode cX7_signOf 71 = .ok (.istore 7, 2) := by decide +kernel
theorem dX7_signOf_73 : decode cX7_signOf 73 = .ok (.iload 7, 2) := by decide +kernel
theorem dX7_signOf_75 : decode cX7_signOf 75 = .ok (.ifCond .eq 10, 3) := by decide +kernel
theorem dX7_signOf_78 : decode cX7_signOf 78 = .ok (.lload_n 3, 1) := by decide +kernel
theorem dX7_signOf_79 : decode cX7_signOf 79 = .ok (.invokestatic 50, 3) := by decide +kernel
theorem dX7_signOf_82 : decode cX7_signOf 82 = .ok (.goto 8, 3) := by decide +kernel
theorem dX7_signOf_85 : decode cX7_signOf 85 = .ok (.lload 5, 2) := by decide +kernel
theorem dX7_signOf_87 : decode cX7_signOf 87 = .ok (.invokestatic 50, 3) := by decide +kernel
theorem dX7_signOf_90 : decode cX7_signOf 90 = .ok (.ireturn, 1) := by decide +kernel
theorem dX7_rootOf_0 : decode cX7_rootOf 0 = .ok (.lconst 0, 1) := by decide +kernel
theorem dX7_rootOf_1 : decode cX7_rootOf 1 = .ok (.lstore_n 2, 1) := by decide +kernel
theorem dX7_rootOf_2 : decode cX7_rootOf 2 = .ok (.bipush 30, 2) := by decide +kernel
theorem dX7_rootOf_4 : decode cX7_rootOf 4 = .ok (.istore 4, 2) := by decide +kernel
theorem dX7_rootOf_6 : decode cX7_rootOf 6 = .ok (.iload 4, 2) := by decide +kernel
theorem dX7_rootOf_8 : decode cX7_rootOf 8 = .ok (.ifCond .lt 34, 3) := by decide +kernel
theorem dX7_rootOf_11 : decode cX7_rootOf 11 = .ok (.lload_n 2, 1) := by decide +kernel
theorem dX7_rootOf_12 : decode cX7_rootOf 12 = .ok (.lconst 1, 1) := by decide +kernel
theorem dX7_rootOf_13 : decode cX7_rootOf 13 = .ok (.iload 4, 2) := by decide +kernel
theorem dX7_rootOf_15 : decode cX7_rootOf 15 = .ok (.lshl, 1) := by decide +kernel
theorem dX7_rootOf_16 : decode cX7_rootOf 16 = .ok (.ladd, 1) := by decide +kernel
theorem dX7_rootOf_17 : decode cX7_rootOf 17 = .ok (.lstore 5, 2) := by decide +kernel
theorem dX7_rootOf_19 : decode cX7_rootOf 19 = .ok (.lload 5, 2) := by decide +kernel
theorem dX7_rootOf_21 : decode cX7_rootOf 21 = .ok (.lload 5, 2) := by decide +kernel
theorem dX7_rootOf_23 : decode cX7_rootOf 23 = .ok (.lmul, 1) := by decide +kernel
theorem dX7_rootOf_24 : decode cX7_rootOf 24 = .ok (.lload_n 0, 1) := by decide +kernel
theorem dX7_rootOf_25 : decode cX7_rootOf 25 = .ok (.lcmp, 1) := by decide +kernel
theorem dX7_rootOf_26 : decode cX7_rootOf 26 = .ok (.ifCond .gt 8, 3) := by decide +kernel
theorem dX7_rootOf_29 : decode cX7_rootOf 29 = .ok (.lload 5, 2) := by decide +kernel
theorem dX7_rootOf_31 : decode cX7_rootOf 31 = .ok (.goto 4, 3) := by decide +kernel
theorem dX7_rootOf_34 : decode cX7_rootOf 34 = .ok (.lload_n 2, 1) := by decide +kernel
theorem dX7_rootOf_35 : decode cX7_rootOf 35 = .ok (.lstore_n 2, 1) := by decide +kernel
theorem dX7_rootOf_36 : decode cX7_rootOf 36 = .ok (.iinc 4 (-1), 3) := by decide +kernel
theorem dX7_rootOf_39 : decode cX7_rootOf 39 = .ok (.goto (-33), 3) := by decide +kernel
theorem dX7_rootOf_42 : decode cX7_rootOf 42 = .ok (.lload_n 2, 1) := by decide +kernel
theorem dX7_rootOf_43 : decode cX7_rootOf 43 = .ok (.lreturn, 1) := by decide +kernel
theorem dX7_halfDown_0 : decode cX7_halfDown 0 = .ok (.lload_n 0, 1) := by decide +kernel
theorem dX7_halfDown_1 : decode cX7_halfDown 1 = .ok (.lconst 0, 1) := by decide +kernel
theorem dX7_halfDown_2 : decode cX7_halfDown 2 = .ok (.lcmp, 1) := by decide +kernel
theorem dX7_halfDown_3 : decode cX7_halfDown 3 = .ok (.ifCond .ge 23, 3) := by decide +kernel
theorem dX7_halfDown_6 : decode cX7_halfDown 6 = .ok (.lload_n 0, 1) := by decide +kernel
theorem dX7_halfDown_7 : decode cX7_halfDown 7 = .ok (.ldc2_w 48, 3) := by decide +kernel
theorem dX7_halfDown_10 : decode cX7_halfDown 10 = .ok (.lrem, 1) := by decide +kernel
theorem dX7_halfDown_11 : decode cX7_halfDown 11 = .ok (.lconst 0, 1) := by decide +kernel
theorem dX7_halfDown_12 : decode cX7_halfDown 12 = .ok (.lcmp, 1) := by decide +kernel
theorem dX7_halfDown_13 : decode cX7_halfDown 13 = .ok (.ifCond .eq 13, 3) := by decide +kernel
theorem dX7_halfDown_16 : decode cX7_halfDown 16 = .ok (.lload_n 0, 1) := by decide +kernel
theorem dX7_halfDown_17 : decode cX7_halfDown 17 = .ok (.ldc2_w 48, 3) := by decide +kernel
theorem dX7_halfDown_20 : decode cX7_halfDown 20 = .ok (.ldiv, 1) := by decide +kernel
theorem dX7_halfDown_21 : decode cX7_halfDown 21 = .ok (.lconst 1, 1) := by decide +kernel
theorem dX7_halfDown_22 : decode cX7_halfDown 22 = .ok (.lsub, 1) := by decide +kernel
theorem dX7_halfDown_23 : decode cX7_halfDown 23 = .ok (.goto 8, 3) := by decide +kernel
theorem dX7_halfDown_26 : decode cX7_halfDown 26 = .ok (.lload_n 0, 1) := by decide +kernel
theorem dX7_halfDown_27 : decode cX7_halfDown 27 = .ok (.ldc2_w 48, 3) := by decide +kernel
theorem dX7_halfDown_30 : decode cX7_halfDown 30 = .ok (.ldiv, 1) := by decide +kernel
theorem dX7_halfDown_31 : decode cX7_halfDown 31 = .ok (.lreturn, 1) := by decide +kernel
set_option maxRecDepth 20000 in
theorem ggX7_wholeOf_X7_inside : GoodIn wsX7_wholeOf wsX7_inside := goodIn_r _ [7, 2, 8, 15, 16, 17, 18, 19, 20, 21, 22, 23, 24, 25, 26, 27, 28, 29, 30, 31, 32, 33] (by decide +kernel) (by decide +kernel)
set_option maxRecDepth 20000 in
theorem gX7_wholeOf_X7_inside : GoodIn wsX7_wholeOf (wsV RX7 54 RX7 yX7_inside wsX7_inside) := goodIn_app (goodIn_of _ (by decide +kernel)) ggX7_wholeOf_X7_inside
set_option maxRecDepth 20000 in
theorem ggX7_wholeOf_X7_rootOf : GoodIn wsX7_wholeOf wsX7_rootOf := goodIn_r _ [11] (by decide +kernel) (by decide +kernel)
set_option maxRecDepth 20000 in
theorem gX7_wholeOf_X7_rootOf : GoodIn wsX7_wholeOf (va_wsS RX7 58 yX7_rootOf wsX7_rootOf) := goodIn_app (goodIn_of _ (by decide +kernel)) ggX7_wholeOf_X7_rootOf
set_option maxRecDepth 20000 in
theorem ggX7_wholeOf_X7_halfDown : GoodIn wsX7_wholeOf wsX7_halfDown := goodIn_r _ [14, 1] (by decide +kernel) (by decide +kernel)
set_option maxRecDepth 20000 in
theorem gX7_wholeOf_X7_halfDown : GoodIn wsX7_wholeOf (va_wsS RX7 62 yX7_halfDown wsX7_halfDown) := goodIn_app (goodIn_of _ (by decide +kernel)) ggX7_wholeOf_X7_halfDown
theorem dX7_wholeOf_0 : decode cX7_wholeOf 0 = .ok (.lload_n 3, 1) := by decide +kernel
theorem dX7_wholeOf_1 : decode cX7_wholeOf 1 = .ok (.lload_n 3, 1) := by decide +kernel
theorem dX7_wholeOf_2 : decode cX7_wholeOf 2 = .ok (.lmul, 1) := by decide +kernel
theorem dX7_wholeOf_3 : decode cX7_wholeOf 3 = .ok (.aload_n 0, 1) := by decide +kernel
theorem dX7_wholeOf_4 : decode cX7_wholeOf 4 = .ok (.invokevirtual 54, 3) := by decide +kernel
theorem dX7_wholeOf_7 : decode cX7_wholeOf 7 = .ok (.lmul, 1) := by decide +kernel
theorem dX7_wholeOf_8 : decode cX7_wholeOf 8 = .ok (.invokestatic 58, 3) := by decide +kernel
theorem dX7_wholeOf_11 : decode cX7_wholeOf 11 = .ok (.lstore 5, 2) := by decide +kernel
theorem dX7_wholeOf_13 : decode cX7_wholeOf 13 = .ok (.lload_n 3, 1) := by decide +kernel
theorem dX7_wholeOf_14 : decode cX7_wholeOf 14 = .ok (.lconst 0, 1) := by decide +kernel
theorem dX7_wholeOf_15 : decode cX7_wholeOf 15 = .ok (.lcmp, 1) := by decide +kernel
theorem dX7_wholeOf_16 : decode cX7_wholeOf 16 = .ok (.ifCond .lt 8, 3) := by decide +kernel
theorem dX7_wholeOf_19 : decode cX7_wholeOf 19 = .ok (.lload 5, 2) := by decide +kernel
theorem dX7_wholeOf_21 : decode cX7_wholeOf 21 = .ok (.goto 8, 3) := by decide +kernel
theorem dX7_wholeOf_24 : decode cX7_wholeOf 24 = .ok (.lload 5, 2) := by decide +kernel
theorem dX7_wholeOf_26 : decode cX7_wholeOf 26 = .ok (.lneg, 1) := by decide +kernel
theorem dX7_wholeOf_27 : decode cX7_wholeOf 27 = .ok (.lconst 1, 1) := by decide +kernel
theorem dX7_wholeOf_28 : decode cX7_wholeOf 28 = .ok (.lsub, 1) := by decide +kernel
theorem dX7_wholeOf_29 : decode cX7_wholeOf 29 = .ok (.lstore 7, 2) := by decide +kernel
theorem dX7_wholeOf_31 : decode cX7_wholeOf 31 = .ok (.ldc2_w 48, 3) := by decide +kernel
theorem dX7_wholeOf_34 : decode cX7_wholeOf 34 = .ok (.lload_n 1, 1) := by decide +kernel
theorem dX7_wholeOf_35 : decode cX7_wholeOf 35 = .ok (.lmul, 1) := by decide +kernel
theorem dX7_wholeOf_36 : decode cX7_wholeOf 36 = .ok (.lload_n 3, 1) := by decide +kernel
theorem dX7_wholeOf_37 : decode cX7_wholeOf 37 = .ok (.aload_n 0, 1) := by decide +kernel
theorem dX7_wholeOf_38 : decode cX7_wholeOf 38 = .ok (.getfield 7, 3) := by decide +kernel
theorem dX7_wholeOf_41 : decode cX7_wholeOf 41 = .ok (.iconst 0, 1) := by decide +kernel
theorem dX7_wholeOf_42 : decode cX7_wholeOf 42 = .ok (.iaload, 1) := by decide +kernel
theorem dX7_wholeOf_43 : decode cX7_wholeOf 43 = .ok (.i2l, 1) := by decide +kernel
theorem dX7_wholeOf_44 : decode cX7_wholeOf 44 = .ok (.lmul, 1) := by decide +kernel
theorem dX7_wholeOf_45 : decode cX7_wholeOf 45 = .ok (.ladd, 1) := by decide +kernel
theorem dX7_wholeOf_46 : decode cX7_wholeOf 46 = .ok (.lload 7, 2) := by decide +kernel
theorem dX7_wholeOf_48 : decode cX7_wholeOf 48 = .ok (.ladd, 1) := by decide +kernel
theorem dX7_wholeOf_49 : decode cX7_wholeOf 49 = .ok (.invokestatic 62, 3) := by decide +kernel
theorem dX7_wholeOf_52 : decode cX7_wholeOf 52 = .ok (.lreturn, 1) := by decide +kernel
theorem dX7_top_0 : decode cX7_top 0 = .ok (.aload_n 0, 1) := by decide +kernel
theorem dX7_top_1 : decode cX7_top 1 = .ok (.getfield 7, 3) := by decide +kernel
theorem dX7_top_4 : decode cX7_top 4 = .ok (.iconst 1, 1) := by decide +kernel
theorem dX7_top_5 : decode cX7_top 5 = .ok (.iaload, 1) := by decide +kernel
theorem dX7_top_6 : decode cX7_top 6 = .ok (.ifCond .le 12, 3) := by decide +kernel
theorem dX7_top_9 : decode cX7_top 9 = .ok (.aload_n 0, 1) := by decide +kernel
theorem dX7_top_10 : decode cX7_top 10 = .ok (.getfield 7, 3) := by decide +kernel
theorem dX7_top_13 : decode cX7_top 13 = .ok (.iconst 0, 1) := by decide +kernel
theorem dX7_top_14 : decode cX7_top 14 = .ok (.iaload, 1) := by decide +kernel
theorem dX7_top_15 : decode cX7_top 15 = .ok (.goto 11, 3) := by decide +kernel
theorem dX7_top_18 : decode cX7_top 18 = .ok (.aload_n 0, 1) := by decide +kernel
theorem dX7_top_19 : decode cX7_top 19 = .ok (.getfield 7, 3) := by decide +kernel
theorem dX7_top_22 : decode cX7_top 22 = .ok (.iconst 0, 1) := by decide +kernel
theorem dX7_top_23 : decode cX7_top 23 = .ok (.iaload, 1) := by decide +kernel
theorem dX7_top_24 : decode cX7_top 24 = .ok (.iconst 1, 1) := by decide +kernel
theorem dX7_top_25 : decode cX7_top 25 = .ok (.isub, 1) := by decide +kernel
theorem dX7_top_26 : decode cX7_top 26 = .ok (.ireturn, 1) := by decide +kernel
set_option maxRecDepth 20000 in
theorem ggX7_layPowers_X7_signOf : GoodIn wsX7_layPowers wsX7_signOf := goodIn_r _ [9, 10, 4, 11, 12, 8, 13, 14, 15, 16, 17, 18, 19, 20, 21, 22, 23, 24, 25, 26, 27, 28, 29, 30, 31, 32, 33, 34, 35, 36, 37] (by decide +kernel) (by decide +kernel)
set_option maxRecDepth 20000 in
theorem gX7_layPowers_X7_signOf : GoodIn wsX7_layPowers (wsV RX7 68 RX7 yX7_signOf wsX7_signOf) := goodIn_app (goodIn_of _ (by decide +kernel)) ggX7_layPowers_X7_signOf
theorem dX7_layPowers_0 : decode cX7_layPowers 0 = .ok (.aload_n 0, 1) := by decide +kernel
theorem dX7_layPowers_1 : decode cX7_layPowers 1 = .ok (.getfield 29, 3) := by decide +kernel
theorem dX7_layPowers_4 : decode cX7_layPowers 4 = .ok (.iconst 0, 1) := by decide +kernel
theorem dX7_layPowers_5 : decode cX7_layPowers 5 = .ok (.lconst 1, 1) := by decide +kernel
theorem dX7_layPowers_6 : decode cX7_layPowers 6 = .ok (.lastore, 1) := by decide +kernel
theorem dX7_layPowers_7 : decode cX7_layPowers 7 = .ok (.aload_n 0, 1) := by decide +kernel
theorem dX7_layPowers_8 : decode cX7_layPowers 8 = .ok (.getfield 32, 3) := by decide +kernel
theorem dX7_layPowers_11 : decode cX7_layPowers 11 = .ok (.iconst 0, 1) := by decide +kernel
theorem dX7_layPowers_12 : decode cX7_layPowers 12 = .ok (.lconst 0, 1) := by decide +kernel
theorem dX7_layPowers_13 : decode cX7_layPowers 13 = .ok (.lastore, 1) := by decide +kernel
theorem dX7_layPowers_14 : decode cX7_layPowers 14 = .ok (.aload_n 0, 1) := by decide +kernel
theorem dX7_layPowers_15 : decode cX7_layPowers 15 = .ok (.iconst (-1), 1) := by decide +kernel
theorem dX7_layPowers_16 : decode cX7_layPowers 16 = .ok (.putfield 65, 3) := by decide +kernel
theorem dX7_layPowers_19 : decode cX7_layPowers 19 = .ok (.iconst 0, 1) := by decide +kernel
theorem dX7_layPowers_20 : decode cX7_layPowers 20 = .ok (.istore 5, 2) := by decide +kernel
theorem dX7_layPowers_22 : decode cX7_layPowers 22 = .ok (.iload 5, 2) := by decide +kernel
theorem dX7_layPowers_24 : decode cX7_layPowers 24 = .ok (.ifCond .lt 123, 3) := by decide +kernel
theorem dX7_layPowers_27 : decode cX7_layPowers 27 = .ok (.aload_n 0, 1) := by decide +kernel
theorem dX7_layPowers_28 : decode cX7_layPowers 28 = .ok (.getfield 65, 3) := by decide +kernel
theorem dX7_layPowers_31 : decode cX7_layPowers 31 = .ok (.bipush 60, 2) := by decide +kernel
theorem dX7_layPowers_33 : decode cX7_layPowers 33 = .ok (.if_icmp .ge 114, 3) := by decide +kernel
theorem dX7_layPowers_36 : decode cX7_layPowers 36 = .ok (.aload_n 0, 1) := by decide +kernel
theorem dX7_layPowers_37 : decode cX7_layPowers 37 = .ok (.dup, 1) := by decide +kernel
theorem dX7_layPowers_38 : decode cX7_layPowers 38 = .ok (.getfield 65, 3) := by decide +kernel
theorem dX7_layPowers_41 : decode cX7_layPowers 41 = .ok (.iconst 1, 1) := by decide +kernel
theorem dX7_layPowers_42 : decode cX7_layPowers 42 = .ok (.iadd, 1) := by decide +kernel
theorem dX7_layPowers_43 : decode cX7_layPowers 43 = .ok (.putfield 65, 3) := by decide +kernel
theorem dX7_layPowers_46 : decode cX7_layPowers 46 = .ok (.aload_n 0, 1) := by decide +kernel
theorem dX7_layPowers_47 : decode cX7_layPowers 47 = .ok (.getfield 29, 3) := by decide +kernel
theorem dX7_layPowers_50 : decode cX7_layPowers 50 = .ok (.aload_n 0, 1) := by decide +kernel
theorem dX7_layPowers_51 : decode cX7_layPowers 51 = .ok (.getfield 65, 3) := by decide +kernel
theorem dX7_layPowers_54 : decode cX7_layPowers 54 = .ok (.iconst 1, 1) := by decide +kernel
theorem dX7_layPowers_55 : decode cX7_layPowers 55 = .ok (.iadd, 1) := by decide +kernel
theorem dX7_layPowers_56 : decode cX7_layPowers 56 = .ok (.aload_n 0, 1) := by decide +kernel
theorem dX7_layPowers_57 : decode cX7_layPowers 57 = .ok (.getfield 32, 3) := by decide +kernel
theorem dX7_layPowers_60 : decode cX7_layPowers 60 = .ok (.aload_n 0, 1) := by decide +kernel
theorem dX7_layPowers_61 : decode cX7_layPowers 61 = .ok (.getfield 65, 3) := by decide +kernel
theorem dX7_layPowers_64 : decode cX7_layPowers 64 = .ok (.laload, 1) := by decide +kernel
theorem dX7_layPowers_65 : decode cX7_layPowers 65 = .ok (.aload_n 0, 1) := by decide +kernel
theorem dX7_layPowers_66 : decode cX7_layPowers 66 = .ok (.getfield 7, 3) := by decide +kernel
theorem dX7_layPowers_69 : decode cX7_layPowers 69 = .ok (.iconst 1, 1) := by decide +kernel
theorem dX7_layPowers_70 : decode cX7_layPowers 70 = .ok (.iaload, 1) := by decide +kernel
theorem dX7_layPowers_71 : decode cX7_layPowers 71 = .ok (.i2l, 1) := by decide +kernel
theorem dX7_layPowers_72 : decode cX7_layPowers 72 = .ok (.lmul, 1) := by decide +kernel
theorem dX7_layPowers_73 : decode cX7_layPowers 73 = .ok (.lastore, 1) := by decide +kernel
theorem dX7_layPowers_74 : decode cX7_layPowers 74 = .ok (.aload_n 0, 1) := by decide +kernel
theorem dX7_layPowers_75 : decode cX7_layPowers 75 = .ok (.getfield 32, 3) := by decide +kernel
theorem dX7_layPowers_78 : decode cX7_layPowers 78 = .ok (.aload_n 0, 1) := by decide +kernel
theorem dX7_layPowers_79 : decode cX7_layPowers 79 = .ok (.getfield 65, 3) := by decide +kernel
theorem dX7_layPowers_82 : decode cX7_layPowers 82 = .ok (.iconst 1, 1) := by decide +kernel
theorem dX7_layPowers_83 : decode cX7_layPowers 83 = .ok (.iadd, 1) := by decide +kernel
theorem dX7_layPowers_84 : decode cX7_layPowers 84 = .ok (.aload_n 0, 1) := by decide +kernel
theorem dX7_layPowers_85 : decode cX7_layPowers 85 = .ok (.getfield 29, 3) := by decide +kernel
theorem dX7_layPowers_88 : decode cX7_layPowers 88 = .ok (.aload_n 0, 1) := by decide +kernel
theorem dX7_layPowers_89 : decode cX7_layPowers 89 = .ok (.getfield 65, 3) := by decide +kernel
theorem dX7_layPowers_92 : decode cX7_layPowers 92 = .ok (.laload, 1) := by decide +kernel
theorem dX7_layPowers_93 : decode cX7_layPowers 93 = .ok (.aload_n 0, 1) := by decide +kernel
theorem dX7_layPowers_94 : decode cX7_layPowers 94 = .ok (.getfield 32, 3) := by decide +kernel
theorem dX7_layPowers_97 : decode cX7_layPowers 97 = .ok (.aload_n 0, 1) := by decide +kernel
theorem dX7_layPowers_98 : decode cX7_layPowers 98 = .ok (.getfield 65, 3) := by decide +kernel
theorem dX7_layPowers_101 : decode cX7_layPowers 101 = .ok (.laload, 1) := by decide +kernel
theorem dX7_layPowers_102 : decode cX7_layPowers 102 = .ok (.aload_n 0, 1) := by decide +kernel
theorem dX7_layPowers_103 : decode cX7_layPowers 103 = .ok (.getfield 7, 3) := by decide +kernel
theorem dX7_layPowers_106 : decode cX7_layPowers 106 = .ok (.iconst 0, 1) := by decide +kernel
theorem dX7_layPowers_107 : decode cX7_layPowers 107 = .ok (.iaload, 1) := by decide +kernel
theorem dX7_layPowers_108 : decode cX7_layPowers 108 = .ok (.i2l, 1) := by decide +kernel
theorem dX7_layPowers_109 : decode cX7_layPowers 109 = .ok (.lmul, 1) := by decide +kernel
theorem dX7_layPowers_110 : decode cX7_layPowers 110 = .ok (.ladd, 1) := by decide +kernel
theorem dX7_layPowers_111 : decode cX7_layPowers 111 = .ok (.lastore, 1) := by decide +kernel
theorem dX7_layPowers_112 : decode cX7_layPowers 112 = .ok (.aload_n 0, 1) := by decide +kernel
theorem dX7_layPowers_113 : decode cX7_layPowers 113 = .ok (.lload_n 1, 1) := by decide +kernel
theorem dX7_layPowers_114 : decode cX7_layPowers 114 = .ok (.aload_n 0, 1) := by decide +kernel
theorem dX7_layPowers_115 : decode cX7_layPowers 115 = .ok (.getfield 29, 3) := by decide +kernel
theorem dX7_layPowers_118 : decode cX7_layPowers 118 = .ok (.aload_n 0, 1) := by decide +kernel
theorem dX7_layPowers_119 : decode cX7_layPowers 119 = .ok (.getfield 65, 3) := by decide +kernel
theorem dX7_layPowers_122 : decode cX7_layPowers 122 = .ok (.iconst 1, 1) := by decide +kernel
theorem dX7_layPowers_123 : decode cX7_layPowers 123 = .ok (.iadd, 1) := by decide +kernel
theorem dX7_layPowers_124 : decode cX7_layPowers 124 = .ok (.laload, 1) := by decide +kernel
theorem dX7_layPowers_125 : decode cX7_layPowers 125 = .ok (.lsub, 1) := by decide +kernel
theorem dX7_layPowers_126 : decode cX7_layPowers 126 = .ok (.lload_n 3, 1) := by decide +kernel
theorem dX7_layPowers_127 : decode cX7_layPowers 127 = .ok (.aload_n 0, 1) := by decide +kernel
theorem dX7_layPowers_128 : decode cX7_layPowers 128 = .ok (.getfield 32, 3) := by decide +kernel
theorem dX7_layPowers_131 : decode cX7_layPowers 131 = .ok (.aload_n 0, 1) := by decide +kernel
theorem dX7_layPowers_132 : decode cX7_layPowers 132 = .ok (.getfield 65, 3) := by decide +kernel
theorem dX7_layPowers_135 : decode cX7_layPowers 135 = .ok (.iconst 1, 1) := by decide +kernel
theorem dX7_layPowers_136 : decode cX7_layPowers 136 = .ok (.iadd, 1) := by decide +kernel
theorem dX7_layPowers_137 : decode cX7_layPowers 137 = .ok (.laload, 1) := by decide +kernel
theorem dX7_layPowers_138 : decode cX7_layPowers 138 = .ok (.lsub, 1) := by decide +kernel
theorem dX7_layPowers_139 : decode cX7_layPowers 139 = .ok (.invokevirtual 68, 3) := by decide +kernel
theorem dX7_layPowers_142 : decode cX7_layPowers 142 = .ok (.istore 5, 2) := by decide +kernel
theorem dX7_layPowers_144 : decode cX7_layPowers 144 = .ok (.goto (-122), 3) := by decide +kernel
theorem dX7_layPowers_147 : decode cX7_layPowers 147 = .ok (.return_, 1) := by decide +kernel
theorem dX7_wasAhead_0 : decode cX7_wasAhead 0 = .ok (.iconst 0, 1) := by decide +kernel
theorem dX7_wasAhead_1 : decode cX7_wasAhead 1 = .ok (.istore_n 2, 1) := by decide +kernel
theorem dX7_wasAhead_2 : decode cX7_wasAhead 2 = .ok (.iload_n 2, 1) := by decide +kernel
theorem dX7_wasAhead_3 : decode cX7_wasAhead 3 = .ok (.iload_n 1, 1) := by decide +kernel
theorem dX7_wasAhead_4 : decode cX7_wasAhead 4 = .ok (.if_icmp .ge 55, 3) := by decide +kernel
theorem dX7_wasAhead_7 : decode cX7_wasAhead 7 = .ok (.aload_n 0, 1) := by decide +kernel
theorem dX7_wasAhead_8 : decode cX7_wasAhead 8 = .ok (.getfield 22, 3) := by decide +kernel
theorem dX7_wasAhead_11 : decode cX7_wasAhead 11 = .ok (.iload_n 2, 1) := by decide +kernel
theorem dX7_wasAhead_12 : decode cX7_wasAhead 12 = .ok (.laload, 1) := by decide +kernel
theorem dX7_wasAhead_13 : decode cX7_wasAhead 13 = .ok (.aload_n 0, 1) := by decide +kernel
theorem dX7_wasAhead_14 : decode cX7_wasAhead 14 = .ok (.getfield 22, 3) := by decide +kernel
theorem dX7_wasAhead_17 : decode cX7_wasAhead 17 = .ok (.iload_n 1, 1) := by decide +kernel
theorem dX7_wasAhead_18 : decode cX7_wasAhead 18 = .ok (.laload, 1) := by decide +kernel
theorem dX7_wasAhead_19 : decode cX7_wasAhead 19 = .ok (.lcmp, 1) := by decide +kernel
theorem dX7_wasAhead_20 : decode cX7_wasAhead 20 = .ok (.ifCond .ne 33, 3) := by decide +kernel
theorem dX7_wasAhead_23 : decode cX7_wasAhead 23 = .ok (.aload_n 0, 1) := by decide +kernel
theorem dX7_wasAhead_24 : decode cX7_wasAhead 24 = .ok (.getfield 26, 3) := by decide +kernel
theorem dX7_wasAhead_27 : decode cX7_wasAhead 27 = .ok (.iload_n 2, 1) := by decide +kernel
theorem dX7_wasAhead_28 : decode cX7_wasAhead 28 = .ok (.laload, 1) := by decide +kernel
theorem dX7_wasAhead_29 : decode cX7_wasAhead 29 = .ok (.aload_n 0, 1) := by decide +kernel
theorem dX7_wasAhead_30 : decode cX7_wasAhead 30 = .ok (.getfield 26, 3) := by decide +kernel
theorem dX7_wasAhead_33 : decode cX7_wasAhead 33 = .ok (.iload_n 1, 1) := by decide +kernel
theorem dX7_wasAhead_34 : decode cX7_wasAhead 34 = .ok (.laload, 1) := by decide +kernel
theorem dX7_wasAhead_35 : decode cX7_wasAhead 35 = .ok (.lcmp, 1) := by decide +kernel
theorem dX7_wasAhead_36 : decode cX7_wasAhead 36 = .ok (.ifCond .ne 17, 3) := by decide +kernel
theorem dX7_wasAhead_39 : decode cX7_wasAhead 39 = .ok (.aload_n 0, 1) := by decide +kernel
theorem dX7_wasAhead_40 : decode cX7_wasAhead 40 = .ok (.iload_n 2, 1) := by decide +kernel
theorem dX7_wasAhead_41 : decode cX7_wasAhead 41 = .ok (.putfield 72, 3) := by decide +kernel
theorem dX7_wasAhead_44 : decode cX7_wasAhead 44 = .ok (.aload_n 0, 1) := by decide +kernel
theorem dX7_wasAhead_45 : decode cX7_wasAhead 45 = .ok (.iload_n 1, 1) := by decide +kernel
theorem dX7_wasAhead_46 : decode cX7_wasAhead 46 = .ok (.iload_n 2, 1) := by decide +kernel
theorem dX7_wasAhead_47 : decode cX7_wasAhead 47 = .ok (.isub, 1) := by decide +kernel
theorem dX7_wasAhead_48 : decode cX7_wasAhead 48 = .ok (.putfield 75, 3) := by decide +kernel
theorem dX7_wasAhead_51 : decode cX7_wasAhead 51 = .ok (.iconst 1, 1) := by decide +kernel
theorem dX7_wasAhead_52 : decode cX7_wasAhead 52 = .ok (.ireturn, 1) := by decide +kernel
theorem dX7_wasAhead_53 : decode cX7_wasAhead 53 = .ok (.iinc 2 1, 3) := by decide +kernel
theorem dX7_wasAhead_56 : decode cX7_wasAhead 56 = .ok (.goto (-54), 3) := by decide +kernel
theorem dX7_wasAhead_59 : decode cX7_wasAhead 59 = .ok (.iconst 0, 1) := by decide +kernel
theorem dX7_wasAhead_60 : decode cX7_wasAhead 60 = .ok (.ireturn, 1) := by decide +kernel
set_option maxRecDepth 20000 in
theorem ggX7_layBehind_X7_wasAhead : GoodIn wsX7_layBehind wsX7_wasAhead := goodIn_r _ [13, 5, 6, 3, 4, 30, 31, 32, 33, 34, 35, 36, 37, 38, 39, 40, 41, 42, 43, 44, 45, 46, 47, 48] (by decide +kernel) (by decide +kernel)
set_option maxRecDepth 20000 in
theorem gX7_layBehind_X7_wasAhead : GoodIn wsX7_layBehind (wsV RX7 84 RX7 yX7_wasAhead wsX7_wasAhead) := goodIn_app (goodIn_of _ (by decide +kernel)) ggX7_layBehind_X7_wasAhead
set_option maxRecDepth 20000 in
theorem ggX7_layBehind_X7_wholeOf : GoodIn wsX7_layBehind wsX7_wholeOf := goodIn_r _ [17, 18, 7, 19, 20, 21, 12, 22, 23, 24, 25, 26, 27, 28, 29, 30, 31, 32, 33, 34, 35, 36, 37, 38, 39, 40, 41, 42, 43, 44, 45, 46, 47, 48] (by decide +kernel) (by decide +kernel)
set_option maxRecDepth 20000 in
theorem gX7_layBehind_X7_wholeOf : GoodIn wsX7_layBehind (wsV RX7 88 RX7 yX7_wholeOf wsX7_wholeOf) := goodIn_app (goodIn_of _ (by decide +kernel)) ggX7_layBehind_X7_wholeOf
theorem dX7_layBehind_0 : decode cX7_layBehind 0 = .ok (.iconst 1, 1) := by decide +kernel
theorem dX7_layBehind_1 : decode cX7_layBehind 1 = .ok (.istore_n 1, 1) := by decide +kernel
theorem dX7_layBehind_2 : decode cX7_layBehind 2 = .ok (.aload_n 0, 1) := by decide +kernel
theorem dX7_layBehind_3 : decode cX7_layBehind 3 = .ok (.iconst 0, 1) := by decide +kernel
theorem dX7_layBehind_4 : decode cX7_layBehind 4 = .ok (.putfield 78, 3) := by decide +kernel
theorem dX7_layBehind_7 : decode cX7_layBehind 7 = .ok (.aload_n 0, 1) := by decide +kernel
theorem dX7_layBehind_8 : decode cX7_layBehind 8 = .ok (.iconst 0, 1) := by decide +kernel
theorem dX7_layBehind_9 : decode cX7_layBehind 9 = .ok (.putfield 81, 3) := by decide +kernel
theorem dX7_layBehind_12 : decode cX7_layBehind 12 = .ok (.aload_n 0, 1) := by decide +kernel
theorem dX7_layBehind_13 : decode cX7_layBehind 13 = .ok (.iconst (-1), 1) := by decide +kernel
theorem dX7_layBehind_14 : decode cX7_layBehind 14 = .ok (.putfield 72, 3) := by decide +kernel
theorem dX7_layBehind_17 : decode cX7_layBehind 17 = .ok (.aload_n 0, 1) := by decide +kernel
theorem dX7_layBehind_18 : decode cX7_layBehind 18 = .ok (.iconst (-1), 1) := by decide +kernel
theorem dX7_layBehind_19 : decode cX7_layBehind 19 = .ok (.putfield 75, 3) := by decide +kernel
theorem dX7_layBehind_22 : decode cX7_layBehind 22 = .ok (.iconst 0, 1) := by decide +kernel
theorem dX7_layBehind_23 : decode cX7_layBehind 23 = .ok (.istore_n 2, 1) := by decide +kernel
theorem dX7_layBehind_24 : decode cX7_layBehind 24 = .ok (.iload_n 2, 1) := by decide +kernel
theorem dX7_layBehind_25 : decode cX7_layBehind 25 = .ok (.bipush 40, 2) := by decide +kernel
theorem dX7_layBehind_27 : decode cX7_layBehind 27 = .ok (.if_icmp .gt 155, 3) := by decide +kernel
theorem dX7_layBehind_30 : decode cX7_layBehind 30 = .ok (.aload_n 0, 1) := by decide +kernel
theorem dX7_layBehind_31 : decode cX7_layBehind 31 = .ok (.getfield 81, 3) := by decide +kernel
theorem dX7_layBehind_34 : decode cX7_layBehind 34 = .ok (.ifCond .ne 148, 3) := by decide +kernel
theorem dX7_layBehind_37 : decode cX7_layBehind 37 = .ok (.aload_n 0, 1) := by decide +kernel
theorem dX7_layBehind_38 : decode cX7_layBehind 38 = .ok (.getfield 22, 3) := by decide +kernel
theorem dX7_layBehind_41 : decode cX7_layBehind 41 = .ok (.iload_n 2, 1) := by decide +kernel
theorem dX7_layBehind_42 : decode cX7_layBehind 42 = .ok (.laload, 1) := by decide +kernel
theorem dX7_layBehind_43 : decode cX7_layBehind 43 = .ok (.lconst 0, 1) := by decide +kernel
theorem dX7_layBehind_44 : decode cX7_layBehind 44 = .ok (.lcmp, 1) := by decide +kernel
theorem dX7_layBehind_45 : decode cX7_layBehind 45 = .ok (.ifCond .ne 22, 3) := by decide +kernel
theorem dX7_layBehind_48 : decode cX7_layBehind 48 = .ok (.aload_n 0, 1) := by decide +kernel
theorem dX7_layBehind_49 : decode cX7_layBehind 49 = .ok (.getfield 26, 3) := by decide +kernel
theorem dX7_layBehind_52 : decode cX7_layBehind 52 = .ok (.iload_n 2, 1) := by decide +kernel
theorem dX7_layBehind_53 : decode cX7_layBehind 53 = .ok (.laload, 1) := by decide +kernel
theorem dX7_layBehind_54 : decode cX7_layBehind 54 = .ok (.lconst 0, 1) := by decide +kernel
theorem dX7_layBehind_55 : decode cX7_layBehind 55 = .ok (.lcmp, 1) := by decide +kernel
theorem dX7_layBehind_56 : decode cX7_layBehind 56 = .ok (.ifCond .ne 11, 3) := by decide +kernel
theorem dX7_layBehind_59 : decode cX7_layBehind 59 = .ok (.aload_n 0, 1) := by decide +kernel
theorem dX7_layBehind_60 : decode cX7_layBehind 60 = .ok (.iconst 1, 1) := by decide +kernel
theorem dX7_layBehind_61 : decode cX7_layBehind 61 = .ok (.putfield 81, 3) := by decide +kernel
theorem dX7_layBehind_64 : decode cX7_layBehind 64 = .ok (.goto 112, 3) := by decide +kernel
theorem dX7_layBehind_67 : decode cX7_layBehind 67 = .ok (.iload_n 1, 1) := by decide +kernel
theorem dX7_layBehind_68 : decode cX7_layBehind 68 = .ok (.ifCond .eq 15, 3) := by decide +kernel
theorem dX7_layBehind_71 : decode cX7_layBehind 71 = .ok (.aload_n 0, 1) := by decide +kernel
theorem dX7_layBehind_72 : decode cX7_layBehind 72 = .ok (.iload_n 2, 1) := by decide +kernel
theorem dX7_layBehind_73 : decode cX7_layBehind 73 = .ok (.invokevirtual 84, 3) := by decide +kernel
theorem dX7_layBehind_76 : decode cX7_layBehind 76 = .ok (.ifCond .ne 7, 3) := by decide +kernel
theorem dX7_layBehind_79 : decode cX7_layBehind 79 = .ok (.iconst 1, 1) := by decide +kernel
theorem dX7_layBehind_80 : decode cX7_layBehind 80 = .ok (.goto 4, 3) := by decide +kernel
theorem dX7_layBehind_83 : decode cX7_layBehind 83 = .ok (.iconst 0, 1) := by decide +kernel
theorem dX7_layBehind_84 : decode cX7_layBehind 84 = .ok (.istore_n 1, 1) := by decide +kernel
theorem dX7_layBehind_85 : decode cX7_layBehind 85 = .ok (.iload_n 2, 1) := by decide +kernel
theorem dX7_layBehind_86 : decode cX7_layBehind 86 = .ok (.bipush 40, 2) := by decide +kernel
theorem dX7_layBehind_88 : decode cX7_layBehind 88 = .ok (.if_icmp .ge 88, 3) := by decide +kernel
theorem dX7_layBehind_91 : decode cX7_layBehind 91 = .ok (.aload_n 0, 1) := by decide +kernel
theorem dX7_layBehind_92 : decode cX7_layBehind 92 = .ok (.getfield 26, 3) := by decide +kernel
theorem dX7_layBehind_95 : decode cX7_layBehind 95 = .ok (.iload_n 2, 1) := by decide +kernel
theorem dX7_layBehind_96 : decode cX7_layBehind 96 = .ok (.laload, 1) := by decide +kernel
theorem dX7_layBehind_97 : decode cX7_layBehind 97 = .ok (.aload_n 0, 1) := by decide +kernel
theorem dX7_layBehind_98 : decode cX7_layBehind 98 = .ok (.getfield 7, 3) := by decide +kernel
theorem dX7_layBehind_101 : decode cX7_layBehind 101 = .ok (.iconst 1, 1) := by decide +kernel
theorem dX7_layBehind_102 : decode cX7_layBehind 102 = .ok (.iaload, 1) := by decide +kernel
theorem dX7_layBehind_103 : decode cX7_layBehind 103 = .ok (.i2l, 1) := by decide +kernel
theorem dX7_layBehind_104 : decode cX7_layBehind 104 = .ok (.lmul, 1) := by decide +kernel
theorem dX7_layBehind_105 : decode cX7_layBehind 105 = .ok (.lstore_n 3, 1) := by decide +kernel
theorem dX7_layBehind_106 : decode cX7_layBehind 106 = .ok (.aload_n 0, 1) := by decide +kernel
theorem dX7_layBehind_107 : decode cX7_layBehind 107 = .ok (.getfield 22, 3) := by decide +kernel
theorem dX7_layBehind_110 : decode cX7_layBehind 110 = .ok (.iload_n 2, 1) := by decide +kernel
theorem dX7_layBehind_111 : decode cX7_layBehind 111 = .ok (.laload, 1) := by decide +kernel
theorem dX7_layBehind_112 : decode cX7_layBehind 112 = .ok (.aload_n 0, 1) := by decide +kernel
theorem dX7_layBehind_113 : decode cX7_layBehind 113 = .ok (.getfield 26, 3) := by decide +kernel
theorem dX7_layBehind_116 : decode cX7_layBehind 116 = .ok (.iload_n 2, 1) := by decide +kernel
theorem dX7_layBehind_117 : decode cX7_layBehind 117 = .ok (.laload, 1) := by decide +kernel
theorem dX7_layBehind_118 : decode cX7_layBehind 118 = .ok (.aload_n 0, 1) := by decide +kernel
theorem dX7_layBehind_119 : decode cX7_layBehind 119 = .ok (.getfield 7, 3) := by decide +kernel
theorem dX7_layBehind_122 : decode cX7_layBehind 122 = .ok (.iconst 0, 1) := by decide +kernel
theorem dX7_layBehind_123 : decode cX7_layBehind 123 = .ok (.iaload, 1) := by decide +kernel
theorem dX7_layBehind_124 : decode cX7_layBehind 124 = .ok (.i2l, 1) := by decide +kernel
theorem dX7_layBehind_125 : decode cX7_layBehind 125 = .ok (.lmul, 1) := by decide +kernel
theorem dX7_layBehind_126 : decode cX7_layBehind 126 = .ok (.ladd, 1) := by decide +kernel
theorem dX7_layBehind_127 : decode cX7_layBehind 127 = .ok (.lstore 5, 2) := by decide +kernel
theorem dX7_layBehind_129 : decode cX7_layBehind 129 = .ok (.aload_n 0, 1) := by decide +kernel
theorem dX7_layBehind_130 : decode cX7_layBehind 130 = .ok (.lload_n 3, 1) := by decide +kernel
theorem dX7_layBehind_131 : decode cX7_layBehind 131 = .ok (.lload 5, 2) := by decide +kernel
theorem dX7_layBehind_133 : decode cX7_layBehind 133 = .ok (.invokevirtual 88, 3) := by decide +kernel
theorem dX7_layBehind_136 : decode cX7_layBehind 136 = .ok (.lstore 7, 2) := by decide +kernel
theorem dX7_layBehind_138 : decode cX7_layBehind 138 = .ok (.aload_n 0, 1) := by decide +kernel
theorem dX7_layBehind_139 : decode cX7_layBehind 139 = .ok (.getfield 19, 3) := by decide +kernel
theorem dX7_layBehind_142 : decode cX7_layBehind 142 = .ok (.iload_n 2, 1) := by decide +kernel
theorem dX7_layBehind_143 : decode cX7_layBehind 143 = .ok (.lload 7, 2) := by decide +kernel
theorem dX7_layBehind_145 : decode cX7_layBehind 145 = .ok (.l2i, 1) := by decide +kernel
theorem dX7_layBehind_146 : decode cX7_layBehind 146 = .ok (.iastore, 1) := by decide +kernel
theorem dX7_layBehind_147 : decode cX7_layBehind 147 = .ok (.aload_n 0, 1) := by decide +kernel
theorem dX7_layBehind_148 : decode cX7_layBehind 148 = .ok (.getfield 22, 3) := by decide +kernel
theorem dX7_layBehind_151 : decode cX7_layBehind 151 = .ok (.iload_n 2, 1) := by decide +kernel
theorem dX7_layBehind_152 : decode cX7_layBehind 152 = .ok (.iconst 1, 1) := by decide +kernel
theorem dX7_layBehind_153 : decode cX7_layBehind 153 = .ok (.iadd, 1) := by decide +kernel
theorem dX7_layBehind_154 : decode cX7_layBehind 154 = .ok (.lload_n 3, 1) := by decide +kernel
theorem dX7_layBehind_155 : decode cX7_layBehind 155 = .ok (.lload 7, 2) := by decide +kernel
theorem dX7_layBehind_157 : decode cX7_layBehind 157 = .ok (.lsub, 1) := by decide +kernel
theorem dX7_layBehind_158 : decode cX7_layBehind 158 = .ok (.lastore, 1) := by decide +kernel
theorem dX7_layBehind_159 : decode cX7_layBehind 159 = .ok (.aload_n 0, 1) := by decide +kernel
theorem dX7_layBehind_160 : decode cX7_layBehind 160 = .ok (.getfield 26, 3) := by decide +kernel
theorem dX7_layBehind_163 : decode cX7_layBehind 163 = .ok (.iload_n 2, 1) := by decide +kernel
theorem dX7_layBehind_164 : decode cX7_layBehind 164 = .ok (.iconst 1, 1) := by decide +kernel
theorem dX7_layBehind_165 : decode cX7_layBehind 165 = .ok (.iadd, 1) := by decide +kernel
theorem dX7_layBehind_166 : decode cX7_layBehind 166 = .ok (.lload 5, 2) := by decide +kernel
theorem dX7_layBehind_168 : decode cX7_layBehind 168 = .ok (.lastore, 1) := by decide +kernel
theorem dX7_layBehind_169 : decode cX7_layBehind 169 = .ok (.aload_n 0, 1) := by decide +kernel
theorem dX7_layBehind_170 : decode cX7_layBehind 170 = .ok (.iload_n 2, 1) := by decide +kernel
theorem dX7_layBehind_171 : decode cX7_layBehind 171 = .ok (.iconst 1, 1) := by decide +kernel
theorem dX7_layBehind_172 : decode cX7_layBehind 172 = .ok (.iadd, 1) := by decide +kernel
theorem dX7_layBehind_173 : decode cX7_layBehind 173 = .ok (.putfield 78, 3) := by decide +kernel
theorem dX7_layBehind_176 : decode cX7_layBehind 176 = .ok (.iinc 2 1, 3) := by decide +kernel
theorem dX7_layBehind_179 : decode cX7_layBehind 179 = .ok (.goto (-155), 3) := by decide +kernel
theorem dX7_layBehind_182 : decode cX7_layBehind 182 = .ok (.return_, 1) := by decide +kernel
set_option maxRecDepth 20000 in
theorem ggX7_layWritten_X7_layPowers : GoodIn wsX7_layWritten wsX7_layPowers := goodIn_r _ [11, 2, 3, 1, 12, 13, 14, 15, 10, 16, 17, 18, 19, 20, 21, 22, 23, 24, 25, 49, 50, 51, 52, 53, 54, 55, 56, 57, 58, 59, 60, 61, 62, 63, 64, 65, 66, 67] (by decide +kernel) (by decide +kernel)
set_option maxRecDepth 20000 in
theorem gX7_layWritten_X7_layPowers : GoodIn wsX7_layWritten (wsV RX7 92 RX7 yX7_layPowers wsX7_layPowers) := goodIn_app (goodIn_of _ (by decide +kernel)) ggX7_layWritten_X7_layPowers
set_option maxRecDepth 20000 in
theorem ggX7_layWritten_X7_signOf : GoodIn wsX7_layWritten wsX7_signOf := goodIn_r _ [16, 17, 12, 18, 19, 10, 20, 21, 22, 23, 24, 25, 49, 50, 51, 52, 53, 54, 55, 56, 57, 58, 59, 60, 61, 62, 63, 64, 65, 66, 67] (by decide +kernel) (by decide +kernel)
set_option maxRecDepth 20000 in
theorem gX7_layWritten_X7_signOf : GoodIn wsX7_layWritten (wsV RX7 68 RX7 yX7_signOf wsX7_signOf) := goodIn_app (goodIn_of _ (by decide +kernel)) ggX7_layWritten_X7_signOf
set_option maxRecDepth 20000 in
theorem ggX7_layWritten_X7_layBehind : GoodIn wsX7_layWritten wsX7_layBehind := goodIn_r _ [29, 30, 31, 32, 33, 5, 6, 12, 34, 35, 36, 37, 10, 38, 39, 40, 41, 42, 17, 21, 22, 23, 24, 25, 43, 44, 45, 46, 47, 48, 49, 50, 51, 52, 53, 54, 55, 56, 57, 58, 59, 60, 61, 62, 63, 64, 65, 66, 67] (by decide +kernel) (by decide +kernel)
set_option maxRecDepth 20000 in
theorem gX7_layWritten_X7_layBehind : GoodIn wsX7_layWritten (wsV RX7 96 RX7 yX7_layBehind wsX7_layBehind) := goodIn_app (goodIn_of _ (by decide +kernel)) ggX7_layWritten_X7_layBehind
theorem dX7_layWritten_0 : decode cX7_layWritten 0 = .ok (.aload_n 0, 1) := by decide +kernel
theorem dX7_layWritten_1 : decode cX7_layWritten 1 = .ok (.lload_n 1, 1) := by decide +kernel
theorem dX7_layWritten_2 : decode cX7_layWritten 2 = .ok (.lload_n 3, 1) := by decide +kernel
theorem dX7_layWritten_3 : decode cX7_layWritten 3 = .ok (.invokevirtual 92, 3) := by decide +kernel
theorem dX7_layWritten_6 : decode cX7_layWritten 6 = .ok (.lload_n 1, 1) := by decide +kernel
theorem dX7_layWritten_7 : decode cX7_layWritten 7 = .ok (.lstore 5, 2) := by decide +kernel
theorem dX7_layWritten_9 : decode cX7_layWritten 9 = .ok (.lload_n 3, 1) := by decide +kernel
theorem dX7_layWritten_10 : decode cX7_layWritten 10 = .ok (.lstore 7, 2) := by decide +kernel
theorem dX7_layWritten_12 : decode cX7_layWritten 12 = .ok (.aload_n 0, 1) := by decide +kernel
theorem dX7_layWritten_13 : decode cX7_layWritten 13 = .ok (.getfield 65, 3) := by decide +kernel
theorem dX7_layWritten_16 : decode cX7_layWritten 16 = .ok (.istore 9, 2) := by decide +kernel
theorem dX7_layWritten_18 : decode cX7_layWritten 18 = .ok (.iload 9, 2) := by decide +kernel
theorem dX7_layWritten_20 : decode cX7_layWritten 20 = .ok (.ifCond .lt 78, 3) := by decide +kernel
theorem dX7_layWritten_23 : decode cX7_layWritten 23 = .ok (.iconst 0, 1) := by decide +kernel
theorem dX7_layWritten_24 : decode cX7_layWritten 24 = .ok (.istore 10, 2) := by decide +kernel
theorem dX7_layWritten_26 : decode cX7_layWritten 26 = .ok (.aload_n 0, 1) := by decide +kernel
theorem dX7_layWritten_27 : decode cX7_layWritten 27 = .ok (.lload 5, 2) := by decide +kernel
theorem dX7_layWritten_29 : decode cX7_layWritten 29 = .ok (.aload_n 0, 1) := by decide +kernel
theorem dX7_layWritten_30 : decode cX7_layWritten 30 = .ok (.getfield 29, 3) := by decide +kernel
theorem dX7_layWritten_33 : decode cX7_layWritten 33 = .ok (.iload 9, 2) := by decide +kernel
theorem dX7_layWritten_35 : decode cX7_layWritten 35 = .ok (.laload, 1) := by decide +kernel
theorem dX7_layWritten_36 : decode cX7_layWritten 36 = .ok (.lsub, 1) := by decide +kernel
theorem dX7_layWritten_37 : decode cX7_layWritten 37 = .ok (.lload 7, 2) := by decide +kernel
theorem dX7_layWritten_39 : decode cX7_layWritten 39 = .ok (.aload_n 0, 1) := by decide +kernel
theorem dX7_layWritten_40 : decode cX7_layWritten 40 = .ok (.getfield 32, 3) := by decide +kernel
theorem dX7_layWritten_43 : decode cX7_layWritten 43 = .ok (.iload 9, 2) := by decide +kernel
theorem dX7_layWritten_45 : decode cX7_layWritten 45 = .ok (.laload, 1) := by decide +kernel
theorem dX7_layWritten_46 : decode cX7_layWritten 46 = .ok (.lsub, 1) := by decide +kernel
theorem dX7_layWritten_47 : decode cX7_layWritten 47 = .ok (.invokevirtual 68, 3) := by decide +kernel
theorem dX7_layWritten_50 : decode cX7_layWritten 50 = .ok (.ifCond .lt 33, 3) := by decide +kernel
theorem dX7_layWritten_53 : decode cX7_layWritten 53 = .ok (.lload 5, 2) := by decide +kernel
theorem dX7_layWritten_55 : decode cX7_layWritten 55 = .ok (.aload_n 0, 1) := by decide +kernel
theorem dX7_layWritten_56 : decode cX7_layWritten 56 = .ok (.getfield 29, 3) := by decide +kernel
theorem dX7_layWritten_59 : decode cX7_layWritten 59 = .ok (.iload 9, 2) := by decide +kernel
theorem dX7_layWritten_61 : decode cX7_layWritten 61 = .ok (.laload, 1) := by decide +kernel
theorem dX7_layWritten_62 : decode cX7_layWritten 62 = .ok (.lsub, 1) := by decide +kernel
theorem dX7_layWritten_63 : decode cX7_layWritten 63 = .ok (.lstore 5, 2) := by decide +kernel
theorem dX7_layWritten_65 : decode cX7_layWritten 65 = .ok (.lload 7, 2) := by decide +kernel
theorem dX7_layWritten_67 : decode cX7_layWritten 67 = .ok (.aload_n 0, 1) := by decide +kernel
theorem dX7_layWritten_68 : decode cX7_layWritten 68 = .ok (.getfield 32, 3) := by decide +kernel
theorem dX7_layWritten_71 : decode cX7_layWritten 71 = .ok (.iload 9, 2) := by decide +kernel
theorem dX7_layWritten_73 : decode cX7_layWritten 73 = .ok (.laload, 1) := by decide +kernel
theorem dX7_layWritten_74 : decode cX7_layWritten 74 = .ok (.lsub, 1) := by decide +kernel
theorem dX7_layWritten_75 : decode cX7_layWritten 75 = .ok (.lstore 7, 2) := by decide +kernel
theorem dX7_layWritten_77 : decode cX7_layWritten 77 = .ok (.iinc 10 1, 3) := by decide +kernel
theorem dX7_layWritten_80 : decode cX7_layWritten 80 = .ok (.goto (-54), 3) := by decide +kernel
theorem dX7_layWritten_83 : decode cX7_layWritten 83 = .ok (.aload_n 0, 1) := by decide +kernel
theorem dX7_layWritten_84 : decode cX7_layWritten 84 = .ok (.getfield 16, 3) := by decide +kernel
theorem dX7_layWritten_87 : decode cX7_layWritten 87 = .ok (.iload 9, 2) := by decide +kernel
theorem dX7_layWritten_89 : decode cX7_layWritten 89 = .ok (.iload 10, 2) := by decide +kernel
theorem dX7_layWritten_91 : decode cX7_layWritten 91 = .ok (.iastore, 1) := by decide +kernel
theorem dX7_layWritten_92 : decode cX7_layWritten 92 = .ok (.iinc 9 (-1), 3) := by decide +kernel
theorem dX7_layWritten_95 : decode cX7_layWritten 95 = .ok (.goto (-77), 3) := by decide +kernel
theorem dX7_layWritten_98 : decode cX7_layWritten 98 = .ok (.aload_n 0, 1) := by decide +kernel
theorem dX7_layWritten_99 : decode cX7_layWritten 99 = .ok (.getfield 22, 3) := by decide +kernel
theorem dX7_layWritten_102 : decode cX7_layWritten 102 = .ok (.iconst 0, 1) := by decide +kernel
theorem dX7_layWritten_103 : decode cX7_layWritten 103 = .ok (.lload 5, 2) := by decide +kernel
theorem dX7_layWritten_105 : decode cX7_layWritten 105 = .ok (.lastore, 1) := by decide +kernel
theorem dX7_layWritten_106 : decode cX7_layWritten 106 = .ok (.aload_n 0, 1) := by decide +kernel
theorem dX7_layWritten_107 : decode cX7_layWritten 107 = .ok (.getfield 26, 3) := by decide +kernel
theorem dX7_layWritten_110 : decode cX7_layWritten 110 = .ok (.iconst 0, 1) := by decide +kernel
theorem dX7_layWritten_111 : decode cX7_layWritten 111 = .ok (.lload 7, 2) := by decide +kernel
theorem dX7_layWritten_113 : decode cX7_layWritten 113 = .ok (.lastore, 1) := by decide +kernel
theorem dX7_layWritten_114 : decode cX7_layWritten 114 = .ok (.aload_n 0, 1) := by decide +kernel
theorem dX7_layWritten_115 : decode cX7_layWritten 115 = .ok (.invokevirtual 96, 3) := by decide +kernel
theorem dX7_layWritten_118 : decode cX7_layWritten 118 = .ok (.return_, 1) := by decide +kernel
theorem dX7_figureAt_0 : decode cX7_figureAt 0 = .ok (.iload_n 1, 1) := by decide +kernel
theorem dX7_figureAt_1 : decode cX7_figureAt 1 = .ok (.ifCond .lt 22, 3) := by decide +kernel
theorem dX7_figureAt_4 : decode cX7_figureAt 4 = .ok (.iload_n 1, 1) := by decide +kernel
theorem dX7_figureAt_5 : decode cX7_figureAt 5 = .ok (.aload_n 0, 1) := by decide +kernel
theorem dX7_figureAt_6 : decode cX7_figureAt 6 = .ok (.getfield 65, 3) := by decide +kernel
theorem dX7_figureAt_9 : decode cX7_figureAt 9 = .ok (.if_icmp .gt 12, 3) := by decide +kernel
theorem dX7_figureAt_12 : decode cX7_figureAt 12 = .ok (.aload_n 0, 1) := by decide +kernel
theorem dX7_figureAt_13 : decode cX7_figureAt 13 = .ok (.getfield 16, 3) := by decide +kernel
theorem dX7_figureAt_16 : decode cX7_figureAt 16 = .ok (.iload_n 1, 1) := by decide +kernel
theorem dX7_figureAt_17 : decode cX7_figureAt 17 = .ok (.iaload, 1) := by decide +kernel
theorem dX7_figureAt_18 : decode cX7_figureAt 18 = .ok (.goto 4, 3) := by decide +kernel
theorem dX7_figureAt_21 : decode cX7_figureAt 21 = .ok (.iconst 0, 1) := by decide +kernel
theorem dX7_figureAt_22 : decode cX7_figureAt 22 = .ok (.ireturn, 1) := by decide +kernel
theorem dX7_figureAt_23 : decode cX7_figureAt 23 = .ok (.iload_n 1, 1) := by decide +kernel
theorem dX7_figureAt_24 : decode cX7_figureAt 24 = .ok (.ineg, 1) := by decide +kernel
theorem dX7_figureAt_25 : decode cX7_figureAt 25 = .ok (.aload_n 0, 1) := by decide +kernel
theorem dX7_figureAt_26 : decode cX7_figureAt 26 = .ok (.getfield 78, 3) := by decide +kernel
theorem dX7_figureAt_29 : decode cX7_figureAt 29 = .ok (.if_icmp .gt 15, 3) := by decide +kernel
theorem dX7_figureAt_32 : decode cX7_figureAt 32 = .ok (.aload_n 0, 1) := by decide +kernel
theorem dX7_figureAt_33 : decode cX7_figureAt 33 = .ok (.getfield 19, 3) := by decide +kernel
theorem dX7_figureAt_36 : decode cX7_figureAt 36 = .ok (.iload_n 1, 1) := by decide +kernel
theorem dX7_figureAt_37 : decode cX7_figureAt 37 = .ok (.ineg, 1) := by decide +kernel
theorem dX7_figureAt_38 : decode cX7_figureAt 38 = .ok (.iconst 1, 1) := by decide +kernel
theorem dX7_figureAt_39 : decode cX7_figureAt 39 = .ok (.isub, 1) := by decide +kernel
theorem dX7_figureAt_40 : decode cX7_figureAt 40 = .ok (.iaload, 1) := by decide +kernel
theorem dX7_figureAt_41 : decode cX7_figureAt 41 = .ok (.goto 4, 3) := by decide +kernel
theorem dX7_figureAt_44 : decode cX7_figureAt 44 = .ok (.iconst 0, 1) := by decide +kernel
theorem dX7_figureAt_45 : decode cX7_figureAt 45 = .ok (.ireturn, 1) := by decide +kernel
theorem dX7_figures_0 : decode cX7_figures 0 = .ok (.iconst 0, 1) := by decide +kernel
theorem dX7_figures_1 : decode cX7_figures 1 = .ok (.istore_n 1, 1) := by decide +kernel
theorem dX7_figures_2 : decode cX7_figures 2 = .ok (.iconst 0, 1) := by decide +kernel
theorem dX7_figures_3 : decode cX7_figures 3 = .ok (.istore_n 2, 1) := by decide +kernel
theorem dX7_figures_4 : decode cX7_figures 4 = .ok (.iload_n 2, 1) := by decide +kernel
theorem dX7_figures_5 : decode cX7_figures 5 = .ok (.aload_n 0, 1) := by decide +kernel
theorem dX7_figures_6 : decode cX7_figures 6 = .ok (.getfield 99, 3) := by decide +kernel
theorem dX7_figures_9 : decode cX7_figures 9 = .ok (.if_icmp .ge 28, 3) := by decide +kernel
theorem dX7_figures_12 : decode cX7_figures 12 = .ok (.iload_n 1, 1) := by decide +kernel
theorem dX7_figures_13 : decode cX7_figures 13 = .ok (.aload_n 0, 1) := by decide +kernel
theorem dX7_figures_14 : decode cX7_figures 14 = .ok (.getfield 13, 3) := by decide +kernel
theorem dX7_figures_17 : decode cX7_figures 17 = .ok (.iload_n 2, 1) := by decide +kernel
theorem dX7_figures_18 : decode cX7_figures 18 = .ok (.iaload, 1) := by decide +kernel
theorem dX7_figures_19 : decode cX7_figures 19 = .ok (.bipush 46, 2) := by decide +kernel
theorem dX7_figures_21 : decode cX7_figures 21 = .ok (.if_icmp .ne 7, 3) := by decide +kernel
theorem dX7_figures_24 : decode cX7_figures 24 = .ok (.iconst 0, 1) := by decide +kernel
theorem dX7_figures_25 : decode cX7_figures 25 = .ok (.goto 4, 3) := by decide +kernel
theorem dX7_figures_28 : decode cX7_figures 28 = .ok (.iconst 1, 1) := by decide +kernel
theorem dX7_figures_29 : decode cX7_figures 29 = .ok (.iadd, 1) := by decide +kernel
theorem dX7_figures_30 : decode cX7_figures 30 = .ok (.istore_n 1, 1) := by decide +kernel
theorem dX7_figures_31 : decode cX7_figures 31 = .ok (.iinc 2 1, 3) := by decide +kernel
theorem dX7_figures_34 : decode cX7_figures 34 = .ok (.goto (-30), 3) := by decide +kernel
theorem dX7_figures_37 : decode cX7_figures 37 = .ok (.iload_n 1, 1) := by decide +kernel
theorem dX7_figures_38 : decode cX7_figures 38 = .ok (.ireturn, 1) := by decide +kernel
theorem dX7_pointAt_0 : decode cX7_pointAt 0 = .ok (.iconst (-1), 1) := by decide +kernel
theorem dX7_pointAt_1 : decode cX7_pointAt 1 = .ok (.istore_n 1, 1) := by decide +kernel
theorem dX7_pointAt_2 : decode cX7_pointAt 2 = .ok (.iconst 0, 1) := by decide +kernel
theorem dX7_pointAt_3 : decode cX7_pointAt 3 = .ok (.istore_n 2, 1) := by decide +kernel
theorem dX7_pointAt_4 : decode cX7_pointAt 4 = .ok (.iload_n 2, 1) := by decide +kernel
theorem dX7_pointAt_5 : decode cX7_pointAt 5 = .ok (.aload_n 0, 1) := by decide +kernel
theorem dX7_pointAt_6 : decode cX7_pointAt 6 = .ok (.getfield 99, 3) := by decide +kernel
theorem dX7_pointAt_9 : decode cX7_pointAt 9 = .ok (.if_icmp .ge 26, 3) := by decide +kernel
theorem dX7_pointAt_12 : decode cX7_pointAt 12 = .ok (.aload_n 0, 1) := by decide +kernel
theorem dX7_pointAt_13 : decode cX7_pointAt 13 = .ok (.getfield 13, 3) := by decide +kernel
theorem dX7_pointAt_16 : decode cX7_pointAt 16 = .ok (.iload_n 2, 1) := by decide +kernel
theorem dX7_pointAt_17 : decode cX7_pointAt 17 = .ok (.iaload, 1) := by decide +kernel
theorem dX7_pointAt_18 : decode cX7_pointAt 18 = .ok (.bipush 46, 2) := by decide +kernel
theorem dX7_pointAt_20 : decode cX7_pointAt 20 = .ok (.if_icmp .ne 7, 3) := by decide +kernel
theorem dX7_pointAt_23 : decode cX7_pointAt 23 = .ok (.iload_n 2, 1) := by decide +kernel
theorem dX7_pointAt_24 : decode cX7_pointAt 24 = .ok (.goto 4, 3) := by decide +kernel
theorem dX7_pointAt_27 : decode cX7_pointAt 27 = .ok (.iload_n 1, 1) := by decide +kernel
theorem dX7_pointAt_28 : decode cX7_pointAt 28 = .ok (.istore_n 1, 1) := by decide +kernel
theorem dX7_pointAt_29 : decode cX7_pointAt 29 = .ok (.iinc 2 1, 3) := by decide +kernel
theorem dX7_pointAt_32 : decode cX7_pointAt 32 = .ok (.goto (-28), 3) := by decide +kernel
theorem dX7_pointAt_35 : decode cX7_pointAt 35 = .ok (.iload_n 1, 1) := by decide +kernel
theorem dX7_pointAt_36 : decode cX7_pointAt 36 = .ok (.ireturn, 1) := by decide +kernel
theorem dX7_layRow_0 : decode cX7_layRow 0 = .ok (.iconst 0, 1) := by decide +kernel
theorem dX7_layRow_1 : decode cX7_layRow 1 = .ok (.istore_n 1, 1) := by decide +kernel
theorem dX7_layRow_2 : decode cX7_layRow 2 = .ok (.iconst 0, 1) := by decide +kernel
theorem dX7_layRow_3 : decode cX7_layRow 3 = .ok (.istore_n 2, 1) := by decide +kernel
theorem dX7_layRow_4 : decode cX7_layRow 4 = .ok (.iload_n 2, 1) := by decide +kernel
theorem dX7_layRow_5 : decode cX7_layRow 5 = .ok (.aload_n 0, 1) := by decide +kernel
theorem dX7_layRow_6 : decode cX7_layRow 6 = .ok (.getfield 99, 3) := by decide +kernel
theorem dX7_layRow_9 : decode cX7_layRow 9 = .ok (.if_icmp .ge 38, 3) := by decide +kernel
theorem dX7_layRow_12 : decode cX7_layRow 12 = .ok (.aload_n 0, 1) := by decide +kernel
theorem dX7_layRow_13 : decode cX7_layRow 13 = .ok (.getfield 13, 3) := by decide +kernel
theorem dX7_layRow_16 : decode cX7_layRow 16 = .ok (.iload_n 2, 1) := by decide +kernel
theorem dX7_layRow_17 : decode cX7_layRow 17 = .ok (.iaload, 1) := by decide +kernel
theorem dX7_layRow_18 : decode cX7_layRow 18 = .ok (.bipush 46, 2) := by decide +kernel
theorem dX7_layRow_20 : decode cX7_layRow 20 = .ok (.if_icmp .eq 21, 3) := by decide +kernel
theorem dX7_layRow_23 : decode cX7_layRow 23 = .ok (.aload_n 0, 1) := by decide +kernel
theorem dX7_layRow_24 : decode cX7_layRow 24 = .ok (.getfield 35, 3) := by decide +kernel
theorem dX7_layRow_27 : decode cX7_layRow 27 = .ok (.iload_n 1, 1) := by decide +kernel
theorem dX7_layRow_28 : decode cX7_layRow 28 = .ok (.aload_n 0, 1) := by decide +kernel
theorem dX7_layRow_29 : decode cX7_layRow 29 = .ok (.getfield 13, 3) := by decide +kernel
theorem dX7_layRow_32 : decode cX7_layRow 32 = .ok (.iload_n 2, 1) := by decide +kernel
theorem dX7_layRow_33 : decode cX7_layRow 33 = .ok (.iaload, 1) := by decide +kernel
theorem dX7_layRow_34 : decode cX7_layRow 34 = .ok (.bipush 48, 2) := by decide +kernel
theorem dX7_layRow_36 : decode cX7_layRow 36 = .ok (.isub, 1) := by decide +kernel
theorem dX7_layRow_37 : decode cX7_layRow 37 = .ok (.iastore, 1) := by decide +kernel
theorem dX7_layRow_38 : decode cX7_layRow 38 = .ok (.iinc 1 1, 3) := by decide +kernel
theorem dX7_layRow_41 : decode cX7_layRow 41 = .ok (.iinc 2 1, 3) := by decide +kernel
theorem dX7_layRow_44 : decode cX7_layRow 44 = .ok (.goto (-40), 3) := by decide +kernel
theorem dX7_layRow_47 : decode cX7_layRow 47 = .ok (.return_, 1) := by decide +kernel
theorem dX7_oneAt_0 : decode cX7_oneAt 0 = .ok (.aload_n 0, 1) := by decide +kernel
theorem dX7_oneAt_1 : decode cX7_oneAt 1 = .ok (.getfield 7, 3) := by decide +kernel
theorem dX7_oneAt_4 : decode cX7_oneAt 4 = .ok (.iconst 1, 1) := by decide +kernel
theorem dX7_oneAt_5 : decode cX7_oneAt 5 = .ok (.iaload, 1) := by decide +kernel
theorem dX7_oneAt_6 : decode cX7_oneAt 6 = .ok (.ifCond .le 27, 3) := by decide +kernel
theorem dX7_oneAt_9 : decode cX7_oneAt 9 = .ok (.iload_n 1, 1) := by decide +kernel
theorem dX7_oneAt_10 : decode cX7_oneAt 10 = .ok (.iconst 2, 1) := by decide +kernel
theorem dX7_oneAt_11 : decode cX7_oneAt 11 = .ok (.irem, 1) := by decide +kernel
theorem dX7_oneAt_12 : decode cX7_oneAt 12 = .ok (.ifCond .ne 12, 3) := by decide +kernel
theorem dX7_oneAt_15 : decode cX7_oneAt 15 = .ok (.aload_n 0, 1) := by decide +kernel
theorem dX7_oneAt_16 : decode cX7_oneAt 16 = .ok (.getfield 7, 3) := by decide +kernel
theorem dX7_oneAt_19 : decode cX7_oneAt 19 = .ok (.iconst 0, 1) := by decide +kernel
theorem dX7_oneAt_20 : decode cX7_oneAt 20 = .ok (.iaload, 1) := by decide +kernel
theorem dX7_oneAt_21 : decode cX7_oneAt 21 = .ok (.goto 11, 3) := by decide +kernel
theorem dX7_oneAt_24 : decode cX7_oneAt 24 = .ok (.aload_n 0, 1) := by decide +kernel
theorem dX7_oneAt_25 : decode cX7_oneAt 25 = .ok (.getfield 7, 3) := by decide +kernel
theorem dX7_oneAt_28 : decode cX7_oneAt 28 = .ok (.iconst 1, 1) := by decide +kernel
theorem dX7_oneAt_29 : decode cX7_oneAt 29 = .ok (.iaload, 1) := by decide +kernel
theorem dX7_oneAt_30 : decode cX7_oneAt 30 = .ok (.iconst 1, 1) := by decide +kernel
theorem dX7_oneAt_31 : decode cX7_oneAt 31 = .ok (.isub, 1) := by decide +kernel
theorem dX7_oneAt_32 : decode cX7_oneAt 32 = .ok (.ireturn, 1) := by decide +kernel
theorem dX7_oneAt_33 : decode cX7_oneAt 33 = .ok (.iload_n 1, 1) := by decide +kernel
theorem dX7_oneAt_34 : decode cX7_oneAt 34 = .ok (.ifCond .ne 14, 3) := by decide +kernel
theorem dX7_oneAt_37 : decode cX7_oneAt 37 = .ok (.aload_n 0, 1) := by decide +kernel
theorem dX7_oneAt_38 : decode cX7_oneAt 38 = .ok (.getfield 7, 3) := by decide +kernel
theorem dX7_oneAt_41 : decode cX7_oneAt 41 = .ok (.iconst 0, 1) := by decide +kernel
theorem dX7_oneAt_42 : decode cX7_oneAt 42 = .ok (.iaload, 1) := by decide +kernel
theorem dX7_oneAt_43 : decode cX7_oneAt 43 = .ok (.iconst 1, 1) := by decide +kernel
theorem dX7_oneAt_44 : decode cX7_oneAt 44 = .ok (.isub, 1) := by decide +kernel
theorem dX7_oneAt_45 : decode cX7_oneAt 45 = .ok (.goto 18, 3) := by decide +kernel
theorem dX7_oneAt_48 : decode cX7_oneAt 48 = .ok (.aload_n 0, 1) := by decide +kernel
theorem dX7_oneAt_49 : decode cX7_oneAt 49 = .ok (.getfield 7, 3) := by decide +kernel
theorem dX7_oneAt_52 : decode cX7_oneAt 52 = .ok (.iconst 0, 1) := by decide +kernel
theorem dX7_oneAt_53 : decode cX7_oneAt 53 = .ok (.iaload, 1) := by decide +kernel
theorem dX7_oneAt_54 : decode cX7_oneAt 54 = .ok (.aload_n 0, 1) := by decide +kernel
theorem dX7_oneAt_55 : decode cX7_oneAt 55 = .ok (.getfield 7, 3) := by decide +kernel
theorem dX7_oneAt_58 : decode cX7_oneAt 58 = .ok (.iconst 1, 1) := by decide +kernel
theorem dX7_oneAt_59 : decode cX7_oneAt 59 = .ok (.iaload, 1) := by decide +kernel
theorem dX7_oneAt_60 : decode cX7_oneAt 60 = .ok (.iadd, 1) := by decide +kernel
theorem dX7_oneAt_61 : decode cX7_oneAt 61 = .ok (.iconst 1, 1) := by decide +kernel
theorem dX7_oneAt_62 : decode cX7_oneAt 62 = .ok (.isub, 1) := by decide +kernel
theorem dX7_oneAt_63 : decode cX7_oneAt 63 = .ok (.ireturn, 1) := by decide +kernel
set_option maxRecDepth 20000 in
theorem ggX7_isLess_X7_oneAt : GoodIn wsX7_isLess wsX7_oneAt := goodIn_r _ [6, 7, 8, 9, 10, 11, 12, 13, 14, 15, 16, 17, 18, 19, 20, 21, 22, 23, 24, 25, 26] (by decide +kernel) (by decide +kernel)
set_option maxRecDepth 20000 in
theorem gX7_isLess_X7_oneAt : GoodIn wsX7_isLess (wsV RX7 102 RX7 yX7_oneAt wsX7_oneAt) := goodIn_app (goodIn_of _ (by decide +kernel)) ggX7_isLess_X7_oneAt
theorem dX7_isLess_0 : decode cX7_isLess 0 = .ok (.iconst 0, 1) := by decide +kernel
theorem dX7_isLess_1 : decode cX7_isLess 1 = .ok (.istore_n 3, 1) := by decide +kernel
theorem dX7_isLess_2 : decode cX7_isLess 2 = .ok (.iload_n 3, 1) := by decide +kernel
theorem dX7_isLess_3 : decode cX7_isLess 3 = .ok (.iload_n 2, 1) := by decide +kernel
theorem dX7_isLess_4 : decode cX7_isLess 4 = .ok (.iload_n 1, 1) := by decide +kernel
theorem dX7_isLess_5 : decode cX7_isLess 5 = .ok (.isub, 1) := by decide +kernel
theorem dX7_isLess_6 : decode cX7_isLess 6 = .ok (.iconst 4, 1) := by decide +kernel
theorem dX7_isLess_7 : decode cX7_isLess 7 = .ok (.iadd, 1) := by decide +kernel
theorem dX7_isLess_8 : decode cX7_isLess 8 = .ok (.if_icmp .ge 56, 3) := by decide +kernel
theorem dX7_isLess_11 : decode cX7_isLess 11 = .ok (.iload_n 1, 1) := by decide +kernel
theorem dX7_isLess_12 : decode cX7_isLess 12 = .ok (.iload_n 3, 1) := by decide +kernel
theorem dX7_isLess_13 : decode cX7_isLess 13 = .ok (.iadd, 1) := by decide +kernel
theorem dX7_isLess_14 : decode cX7_isLess 14 = .ok (.iload_n 2, 1) := by decide +kernel
theorem dX7_isLess_15 : decode cX7_isLess 15 = .ok (.if_icmp .ge 14, 3) := by decide +kernel
theorem dX7_isLess_18 : decode cX7_isLess 18 = .ok (.aload_n 0, 1) := by decide +kernel
theorem dX7_isLess_19 : decode cX7_isLess 19 = .ok (.getfield 35, 3) := by decide +kernel
theorem dX7_isLess_22 : decode cX7_isLess 22 = .ok (.iload_n 1, 1) := by decide +kernel
theorem dX7_isLess_23 : decode cX7_isLess 23 = .ok (.iload_n 3, 1) := by decide +kernel
theorem dX7_isLess_24 : decode cX7_isLess 24 = .ok (.iadd, 1) := by decide +kernel
theorem dX7_isLess_25 : decode cX7_isLess 25 = .ok (.iaload, 1) := by decide +kernel
theorem dX7_isLess_26 : decode cX7_isLess 26 = .ok (.goto 4, 3) := by decide +kernel
theorem dX7_isLess_29 : decode cX7_isLess 29 = .ok (.iconst 0, 1) := by decide +kernel
theorem dX7_isLess_30 : decode cX7_isLess 30 = .ok (.istore 4, 2) := by decide +kernel
theorem dX7_isLess_32 : decode cX7_isLess 32 = .ok (.iload 4, 2) := by decide +kernel
theorem dX7_isLess_34 : decode cX7_isLess 34 = .ok (.aload_n 0, 1) := by decide +kernel
theorem dX7_isLess_35 : decode cX7_isLess 35 = .ok (.iload_n 3, 1) := by decide +kernel
theorem dX7_isLess_36 : decode cX7_isLess 36 = .ok (.invokevirtual 102, 3) := by decide +kernel
theorem dX7_isLess_39 : decode cX7_isLess 39 = .ok (.if_icmp .eq 19, 3) := by decide +kernel
theorem dX7_isLess_42 : decode cX7_isLess 42 = .ok (.iload 4, 2) := by decide +kernel
theorem dX7_isLess_44 : decode cX7_isLess 44 = .ok (.aload_n 0, 1) := by decide +kernel
theorem dX7_isLess_45 : decode cX7_isLess 45 = .ok (.iload_n 3, 1) := by decide +kernel
theorem dX7_isLess_46 : decode cX7_isLess 46 = .ok (.invokevirtual 102, 3) := by decide +kernel
theorem dX7_isLess_49 : decode cX7_isLess 49 = .ok (.if_icmp .ge 7, 3) := by decide +kernel
theorem dX7_isLess_52 : decode cX7_isLess 52 = .ok (.iconst 1, 1) := by decide +kernel
theorem dX7_isLess_53 : decode cX7_isLess 53 = .ok (.goto 4, 3) := by decide +kernel
theorem dX7_isLess_56 : decode cX7_isLess 56 = .ok (.iconst 0, 1) := by decide +kernel
theorem dX7_isLess_57 : decode cX7_isLess 57 = .ok (.ireturn, 1) := by decide +kernel
theorem dX7_isLess_58 : decode cX7_isLess 58 = .ok (.iinc 3 1, 3) := by decide +kernel
theorem dX7_isLess_61 : decode cX7_isLess 61 = .ok (.goto (-59), 3) := by decide +kernel
theorem dX7_isLess_64 : decode cX7_isLess 64 = .ok (.iconst 0, 1) := by decide +kernel
theorem dX7_isLess_65 : decode cX7_isLess 65 = .ok (.ireturn, 1) := by decide +kernel
set_option maxRecDepth 20000 in
theorem ggX7_isWell_X7_isLess : GoodIn wsX7_isWell wsX7_isLess := goodIn_r _ [5, 6, 7, 8, 9, 4, 10, 11, 12, 13, 14, 15, 16, 17, 18, 19, 20, 21, 22, 23, 24, 25, 26, 27, 28, 29, 30] (by decide +kernel) (by decide +kernel)
set_option maxRecDepth 20000 in
theorem gX7_isWell_X7_isLess : GoodIn wsX7_isWell (wsV RX7 106 RX7 yX7_isLess wsX7_isLess) := goodIn_app (goodIn_of _ (by decide +kernel)) ggX7_isWell_X7_isLess
theorem dX7_isWell_0 : decode cX7_isWell 0 = .ok (.iconst 1, 1) := by decide +kernel
theorem dX7_isWell_1 : decode cX7_isWell 1 = .ok (.istore_n 2, 1) := by decide +kernel
theorem dX7_isWell_2 : decode cX7_isWell 2 = .ok (.iconst 0, 1) := by decide +kernel
theorem dX7_isWell_3 : decode cX7_isWell 3 = .ok (.istore_n 3, 1) := by decide +kernel
theorem dX7_isWell_4 : decode cX7_isWell 4 = .ok (.iload_n 3, 1) := by decide +kernel
theorem dX7_isWell_5 : decode cX7_isWell 5 = .ok (.iload_n 1, 1) := by decide +kernel
theorem dX7_isWell_6 : decode cX7_isWell 6 = .ok (.if_icmp .ge 28, 3) := by decide +kernel
theorem dX7_isWell_9 : decode cX7_isWell 9 = .ok (.iload_n 2, 1) := by decide +kernel
theorem dX7_isWell_10 : decode cX7_isWell 10 = .ok (.ifCond .eq 16, 3) := by decide +kernel
theorem dX7_isWell_13 : decode cX7_isWell 13 = .ok (.aload_n 0, 1) := by decide +kernel
theorem dX7_isWell_14 : decode cX7_isWell 14 = .ok (.iload_n 3, 1) := by decide +kernel
theorem dX7_isWell_15 : decode cX7_isWell 15 = .ok (.iload_n 1, 1) := by decide +kernel
theorem dX7_isWell_16 : decode cX7_isWell 16 = .ok (.invokevirtual 106, 3) := by decide +kernel
theorem dX7_isWell_19 : decode cX7_isWell 19 = .ok (.ifCond .eq 7, 3) := by decide +kernel
theorem dX7_isWell_22 : decode cX7_isWell 22 = .ok (.iconst 1, 1) := by decide +kernel
theorem dX7_isWell_23 : decode cX7_isWell 23 = .ok (.goto 4, 3) := by decide +kernel
theorem dX7_isWell_26 : decode cX7_isWell 26 = .ok (.iconst 0, 1) := by decide +kernel
theorem dX7_isWell_27 : decode cX7_isWell 27 = .ok (.istore_n 2, 1) := by decide +kernel
theorem dX7_isWell_28 : decode cX7_isWell 28 = .ok (.iinc 3 1, 3) := by decide +kernel
theorem dX7_isWell_31 : decode cX7_isWell 31 = .ok (.goto (-27), 3) := by decide +kernel
theorem dX7_isWell_34 : decode cX7_isWell 34 = .ok (.iload_n 2, 1) := by decide +kernel
theorem dX7_isWell_35 : decode cX7_isWell 35 = .ok (.ireturn, 1) := by decide +kernel
set_option maxRecDepth 20000 in
theorem ggX7_badly_X7_layRow : GoodIn wsX7_badly wsX7_layRow := goodIn_r _ [5, 6, 7, 8, 26, 27, 28, 29, 30, 31, 32, 33, 34, 35, 36, 37, 38, 39, 40, 41, 42, 43, 44] (by decide +kernel) (by decide +kernel)
set_option maxRecDepth 20000 in
theorem gX7_badly_X7_layRow : GoodIn wsX7_badly (wsV RX7 110 RX7 yX7_layRow wsX7_layRow) := goodIn_app (goodIn_of _ (by decide +kernel)) ggX7_badly_X7_layRow
set_option maxRecDepth 20000 in
theorem ggX7_badly_X7_figures : GoodIn wsX7_badly wsX7_figures := goodIn_r _ [12, 6, 7, 26, 27, 28, 29, 30, 31, 32, 33, 34, 35, 36, 37, 38, 39, 40, 41, 42, 43, 44] (by decide +kernel) (by decide +kernel)
set_option maxRecDepth 20000 in
theorem gX7_badly_X7_figures : GoodIn wsX7_badly (wsV RX7 113 RX7 yX7_figures wsX7_figures) := goodIn_app (goodIn_of _ (by decide +kernel)) ggX7_badly_X7_figures
set_option maxRecDepth 20000 in
theorem ggX7_badly_X7_pointAt : GoodIn wsX7_badly wsX7_pointAt := goodIn_r _ [16, 6, 7, 26, 27, 28, 29, 30, 31, 32, 33, 34, 35, 36, 37, 38, 39, 40, 41, 42, 43, 44] (by decide +kernel) (by decide +kernel)
set_option maxRecDepth 20000 in
theorem gX7_badly_X7_pointAt : GoodIn wsX7_badly (wsV RX7 117 RX7 yX7_pointAt wsX7_pointAt) := goodIn_app (goodIn_of _ (by decide +kernel)) ggX7_badly_X7_pointAt
set_option maxRecDepth 20000 in
theorem ggX7_badly_X7_isLess : GoodIn wsX7_badly wsX7_isLess := goodIn_r _ [20, 8, 21, 22, 23, 4, 24, 25, 26, 27, 28, 29, 30, 31, 32, 33, 34, 35, 36, 37, 38, 39, 40, 41, 42, 43, 44] (by decide +kernel) (by decide +kernel)
set_option maxRecDepth 20000 in
theorem gX7_badly_X7_isLess : GoodIn wsX7_badly (wsV RX7 106 RX7 yX7_isLess wsX7_isLess) := goodIn_app (goodIn_of _ (by decide +kernel)) ggX7_badly_X7_isLess
theorem dX7_badly_0 : decode cX7_badly 0 = .ok (.aload_n 0, 1) := by decide +kernel
theorem dX7_badly_1 : decode cX7_badly 1 = .ok (.invokevirtual 110, 3) := by decide +kernel
theorem dX7_badly_4 : decode cX7_badly 4 = .ok (.aload_n 0, 1) := by decide +kernel
theorem dX7_badly_5 : decode cX7_badly 5 = .ok (.invokevirtual 113, 3) := by decide +kernel
theorem dX7_badly_8 : decode cX7_badly 8 = .ok (.istore_n 1, 1) := by decide +kernel
theorem dX7_badly_9 : decode cX7_badly 9 = .ok (.aload_n 0, 1) := by decide +kernel
theorem dX7_badly_10 : decode cX7_badly 10 = .ok (.invokevirtual 117, 3) := by decide +kernel
theorem dX7_badly_13 : decode cX7_badly 13 = .ok (.istore_n 2, 1) := by decide +kernel
theorem dX7_badly_14 : decode cX7_badly 14 = .ok (.iconst 0, 1) := by decide +kernel
theorem dX7_badly_15 : decode cX7_badly 15 = .ok (.istore_n 3, 1) := by decide +kernel
theorem dX7_badly_16 : decode cX7_badly 16 = .ok (.iload_n 3, 1) := by decide +kernel
theorem dX7_badly_17 : decode cX7_badly 17 = .ok (.iload_n 1, 1) := by decide +kernel
theorem dX7_badly_18 : decode cX7_badly 18 = .ok (.if_icmp .ge 35, 3) := by decide +kernel
theorem dX7_badly_21 : decode cX7_badly 21 = .ok (.aload_n 0, 1) := by decide +kernel
theorem dX7_badly_22 : decode cX7_badly 22 = .ok (.iload_n 3, 1) := by decide +kernel
theorem dX7_badly_23 : decode cX7_badly 23 = .ok (.iload_n 1, 1) := by decide +kernel
theorem dX7_badly_24 : decode cX7_badly 24 = .ok (.invokevirtual 106, 3) := by decide +kernel
theorem dX7_badly_27 : decode cX7_badly 27 = .ok (.ifCond .ne 20, 3) := by decide +kernel
theorem dX7_badly_30 : decode cX7_badly 30 = .ok (.iload_n 2, 1) := by decide +kernel
theorem dX7_badly_31 : decode cX7_badly 31 = .ok (.ifCond .lt 14, 3) := by decide +kernel
theorem dX7_badly_34 : decode cX7_badly 34 = .ok (.iload_n 3, 1) := by decide +kernel
theorem dX7_badly_35 : decode cX7_badly 35 = .ok (.iload_n 2, 1) := by decide +kernel
theorem dX7_badly_36 : decode cX7_badly 36 = .ok (.if_icmp .lt 9, 3) := by decide +kernel
theorem dX7_badly_39 : decode cX7_badly 39 = .ok (.iload_n 3, 1) := by decide +kernel
theorem dX7_badly_40 : decode cX7_badly 40 = .ok (.iconst 1, 1) := by decide +kernel
theorem dX7_badly_41 : decode cX7_badly 41 = .ok (.iadd, 1) := by decide +kernel
theorem dX7_badly_42 : decode cX7_badly 42 = .ok (.goto 4, 3) := by decide +kernel
theorem dX7_badly_45 : decode cX7_badly 45 = .ok (.iload_n 3, 1) := by decide +kernel
theorem dX7_badly_46 : decode cX7_badly 46 = .ok (.ireturn, 1) := by decide +kernel
theorem dX7_badly_47 : decode cX7_badly 47 = .ok (.iinc 3 1, 3) := by decide +kernel
theorem dX7_badly_50 : decode cX7_badly 50 = .ok (.goto (-34), 3) := by decide +kernel
theorem dX7_badly_53 : decode cX7_badly 53 = .ok (.iconst (-1), 1) := by decide +kernel
theorem dX7_badly_54 : decode cX7_badly 54 = .ok (.ireturn, 1) := by decide +kernel
set_option maxRecDepth 20000 in
theorem ggX7_shiftNow_X7_pointAt : GoodIn wsX7_shiftNow wsX7_pointAt := goodIn_r _ [6, 1, 7, 8, 9, 10, 11, 12, 13, 14, 15, 16, 17, 18, 19, 20, 21, 22, 23, 24, 25, 26] (by decide +kernel) (by decide +kernel)
set_option maxRecDepth 20000 in
theorem gX7_shiftNow_X7_pointAt : GoodIn wsX7_shiftNow (wsV RX7 117 RX7 yX7_pointAt wsX7_pointAt) := goodIn_app (goodIn_of _ (by decide +kernel)) ggX7_shiftNow_X7_pointAt
theorem dX7_shiftNow_0 : decode cX7_shiftNow 0 = .ok (.aload_n 0, 1) := by decide +kernel
theorem dX7_shiftNow_1 : decode cX7_shiftNow 1 = .ok (.invokevirtual 117, 3) := by decide +kernel
theorem dX7_shiftNow_4 : decode cX7_shiftNow 4 = .ok (.ifCond .ge 7, 3) := by decide +kernel
theorem dX7_shiftNow_7 : decode cX7_shiftNow 7 = .ok (.iconst 0, 1) := by decide +kernel
theorem dX7_shiftNow_8 : decode cX7_shiftNow 8 = .ok (.goto 14, 3) := by decide +kernel
theorem dX7_shiftNow_11 : decode cX7_shiftNow 11 = .ok (.aload_n 0, 1) := by decide +kernel
theorem dX7_shiftNow_12 : decode cX7_shiftNow 12 = .ok (.getfield 99, 3) := by decide +kernel
theorem dX7_shiftNow_15 : decode cX7_shiftNow 15 = .ok (.iconst 1, 1) := by decide +kernel
theorem dX7_shiftNow_16 : decode cX7_shiftNow 16 = .ok (.isub, 1) := by decide +kernel
theorem dX7_shiftNow_17 : decode cX7_shiftNow 17 = .ok (.aload_n 0, 1) := by decide +kernel
theorem dX7_shiftNow_18 : decode cX7_shiftNow 18 = .ok (.invokevirtual 117, 3) := by decide +kernel
theorem dX7_shiftNow_21 : decode cX7_shiftNow 21 = .ok (.isub, 1) := by decide +kernel
theorem dX7_shiftNow_22 : decode cX7_shiftNow 22 = .ok (.ireturn, 1) := by decide +kernel
set_option maxRecDepth 20000 in
theorem ggX7_layWorth_X7_layRow : GoodIn wsX7_layWorth wsX7_layRow := goodIn_r _ [11, 12, 13, 4, 21, 22, 23, 24, 25, 26, 27, 28, 29, 30, 31, 32, 33, 34, 35, 36, 37, 38, 39] (by decide +kernel) (by decide +kernel)
set_option maxRecDepth 20000 in
theorem gX7_layWorth_X7_layRow : GoodIn wsX7_layWorth (wsV RX7 110 RX7 yX7_layRow wsX7_layRow) := goodIn_app (goodIn_of _ (by decide +kernel)) ggX7_layWorth_X7_layRow
set_option maxRecDepth 20000 in
theorem ggX7_layWorth_X7_figures : GoodIn wsX7_layWorth wsX7_figures := goodIn_r _ [17, 12, 13, 21, 22, 23, 24, 25, 26, 27, 28, 29, 30, 31, 32, 33, 34, 35, 36, 37, 38, 39] (by decide +kernel) (by decide +kernel)
set_option maxRecDepth 20000 in
theorem gX7_layWorth_X7_figures : GoodIn wsX7_layWorth (wsV RX7 113 RX7 yX7_figures wsX7_figures) := goodIn_app (goodIn_of _ (by decide +kernel)) ggX7_layWorth_X7_figures
set_option maxRecDepth 20000 in
theorem ggX7_layWorth_X7_in : GoodIn wsX7_layWorth wsX7_in := goodIn_r _ [20] (by decide +kernel) (by decide +kernel)
set_option maxRecDepth 20000 in
theorem gX7_layWorth_X7_in : GoodIn wsX7_layWorth (va_wsS RX7 131 yX7_in wsX7_in) := goodIn_app (goodIn_of _ (by decide +kernel)) ggX7_layWorth_X7_in
theorem dX7_layWorth_0 : decode cX7_layWorth 0 = .ok (.aload_n 0, 1) := by decide +kernel
theorem dX7_layWorth_1 : decode cX7_layWorth 1 = .ok (.lconst 0, 1) := by decide +kernel
theorem dX7_layWorth_2 : decode cX7_layWorth 2 = .ok (.putfield 120, 3) := by decide +kernel
theorem dX7_layWorth_5 : decode cX7_layWorth 5 = .ok (.aload_n 0, 1) := by decide +kernel
theorem dX7_layWorth_6 : decode cX7_layWorth 6 = .ok (.lconst 0, 1) := by decide +kernel
theorem dX7_layWorth_7 : decode cX7_layWorth 7 = .ok (.putfield 124, 3) := by decide +kernel
theorem dX7_layWorth_10 : decode cX7_layWorth 10 = .ok (.iconst 1, 1) := by decide +kernel
theorem dX7_layWorth_11 : decode cX7_layWorth 11 = .ok (.istore_n 1, 1) := by decide +kernel
theorem dX7_layWorth_12 : decode cX7_layWorth 12 = .ok (.aload_n 0, 1) := by decide +kernel
theorem dX7_layWorth_13 : decode cX7_layWorth 13 = .ok (.invokevirtual 110, 3) := by decide +kernel
theorem dX7_layWorth_16 : decode cX7_layWorth 16 = .ok (.iconst 0, 1) := by decide +kernel
theorem dX7_layWorth_17 : decode cX7_layWorth 17 = .ok (.istore_n 2, 1) := by decide +kernel
theorem dX7_layWorth_18 : decode cX7_layWorth 18 = .ok (.iload_n 2, 1) := by decide +kernel
theorem dX7_layWorth_19 : decode cX7_layWorth 19 = .ok (.aload_n 0, 1) := by decide +kernel
theorem dX7_layWorth_20 : decode cX7_layWorth 20 = .ok (.invokevirtual 113, 3) := by decide +kernel
theorem dX7_layWorth_23 : decode cX7_layWorth 23 = .ok (.if_icmp .ge 98, 3) := by decide +kernel
theorem dX7_layWorth_26 : decode cX7_layWorth 26 = .ok (.iload_n 1, 1) := by decide +kernel
theorem dX7_layWorth_27 : decode cX7_layWorth 27 = .ok (.ifCond .eq 94, 3) := by decide +kernel
theorem dX7_layWorth_30 : decode cX7_layWorth 30 = .ok (.aload_n 0, 1) := by decide +kernel
theorem dX7_layWorth_31 : decode cX7_layWorth 31 = .ok (.getfield 124, 3) := by decide +kernel
theorem dX7_layWorth_34 : decode cX7_layWorth 34 = .ok (.aload_n 0, 1) := by decide +kernel
theorem dX7_layWorth_35 : decode cX7_layWorth 35 = .ok (.getfield 7, 3) := by decide +kernel
theorem dX7_layWorth_38 : decode cX7_layWorth 38 = .ok (.iconst 1, 1) := by decide +kernel
theorem dX7_layWorth_39 : decode cX7_layWorth 39 = .ok (.iaload, 1) := by decide +kernel
theorem dX7_layWorth_40 : decode cX7_layWorth 40 = .ok (.i2l, 1) := by decide +kernel
theorem dX7_layWorth_41 : decode cX7_layWorth 41 = .ok (.lmul, 1) := by decide +kernel
theorem dX7_layWorth_42 : decode cX7_layWorth 42 = .ok (.aload_n 0, 1) := by decide +kernel
theorem dX7_layWorth_43 : decode cX7_layWorth 43 = .ok (.getfield 35, 3) := by decide +kernel
theorem dX7_layWorth_46 : decode cX7_layWorth 46 = .ok (.iload_n 2, 1) := by decide +kernel
theorem dX7_layWorth_47 : decode cX7_layWorth 47 = .ok (.iaload, 1) := by decide +kernel
theorem dX7_layWorth_48 : decode cX7_layWorth 48 = .ok (.i2l, 1) := by decide +kernel
theorem dX7_layWorth_49 : decode cX7_layWorth 49 = .ok (.ladd, 1) := by decide +kernel
theorem dX7_layWorth_50 : decode cX7_layWorth 50 = .ok (.lstore_n 3, 1) := by decide +kernel
theorem dX7_layWorth_51 : decode cX7_layWorth 51 = .ok (.aload_n 0, 1) := by decide +kernel
theorem dX7_layWorth_52 : decode cX7_layWorth 52 = .ok (.aload_n 0, 1) := by decide +kernel
theorem dX7_layWorth_53 : decode cX7_layWorth 53 = .ok (.getfield 120, 3) := by decide +kernel
theorem dX7_layWorth_56 : decode cX7_layWorth 56 = .ok (.aload_n 0, 1) := by decide +kernel
theorem dX7_layWorth_57 : decode cX7_layWorth 57 = .ok (.getfield 124, 3) := by decide +kernel
theorem dX7_layWorth_60 : decode cX7_layWorth 60 = .ok (.aload_n 0, 1) := by decide +kernel
theorem dX7_layWorth_61 : decode cX7_layWorth 61 = .ok (.getfield 7, 3) := by decide +kernel
theorem dX7_layWorth_64 : decode cX7_layWorth 64 = .ok (.iconst 0, 1) := by decide +kernel
theorem dX7_layWorth_65 : decode cX7_layWorth 65 = .ok (.iaload, 1) := by decide +kernel
theorem dX7_layWorth_66 : decode cX7_layWorth 66 = .ok (.i2l, 1) := by decide +kernel
theorem dX7_layWorth_67 : decode cX7_layWorth 67 = .ok (.lmul, 1) := by decide +kernel
theorem dX7_layWorth_68 : decode cX7_layWorth 68 = .ok (.ladd, 1) := by decide +kernel
theorem dX7_layWorth_69 : decode cX7_layWorth 69 = .ok (.putfield 124, 3) := by decide +kernel
theorem dX7_layWorth_72 : decode cX7_layWorth 72 = .ok (.aload_n 0, 1) := by decide +kernel
theorem dX7_layWorth_73 : decode cX7_layWorth 73 = .ok (.lload_n 3, 1) := by decide +kernel
theorem dX7_layWorth_74 : decode cX7_layWorth 74 = .ok (.putfield 120, 3) := by decide +kernel
theorem dX7_layWorth_77 : decode cX7_layWorth 77 = .ok (.aload_n 0, 1) := by decide +kernel
theorem dX7_layWorth_78 : decode cX7_layWorth 78 = .ok (.getfield 120, 3) := by decide +kernel
theorem dX7_layWorth_81 : decode cX7_layWorth 81 = .ok (.ldc2_w 127, 3) := by decide +kernel
theorem dX7_layWorth_84 : decode cX7_layWorth 84 = .ok (.ldc2_w 129, 3) := by decide +kernel
theorem dX7_layWorth_87 : decode cX7_layWorth 87 = .ok (.invokestatic 131, 3) := by decide +kernel
theorem dX7_layWorth_90 : decode cX7_layWorth 90 = .ok (.ifCond .eq 23, 3) := by decide +kernel
theorem dX7_layWorth_93 : decode cX7_layWorth 93 = .ok (.aload_n 0, 1) := by decide +kernel
theorem dX7_layWorth_94 : decode cX7_layWorth 94 = .ok (.getfield 124, 3) := by decide +kernel
theorem dX7_layWorth_97 : decode cX7_layWorth 97 = .ok (.ldc2_w 127, 3) := by decide +kernel
theorem dX7_layWorth_100 : decode cX7_layWorth 100 = .ok (.ldc2_w 129, 3) := by decide +kernel
theorem dX7_layWorth_103 : decode cX7_layWorth 103 = .ok (.invokestatic 131, 3) := by decide +kernel
theorem dX7_layWorth_106 : decode cX7_layWorth 106 = .ok (.ifCond .eq 7, 3) := by decide +kernel
theorem dX7_layWorth_109 : decode cX7_layWorth 109 = .ok (.iconst 1, 1) := by decide +kernel
theorem dX7_layWorth_110 : decode cX7_layWorth 110 = .ok (.goto 4, 3) := by decide +kernel
theorem dX7_layWorth_113 : decode cX7_layWorth 113 = .ok (.iconst 0, 1) := by decide +kernel
theorem dX7_layWorth_114 : decode cX7_layWorth 114 = .ok (.istore_n 1, 1) := by decide +kernel
theorem dX7_layWorth_115 : decode cX7_layWorth 115 = .ok (.iinc 2 1, 3) := by decide +kernel
theorem dX7_layWorth_118 : decode cX7_layWorth 118 = .ok (.goto (-100), 3) := by decide +kernel
theorem dX7_layWorth_121 : decode cX7_layWorth 121 = .ok (.iload_n 1, 1) := by decide +kernel
theorem dX7_layWorth_122 : decode cX7_layWorth 122 = .ok (.ireturn, 1) := by decide +kernel
set_option maxRecDepth 20000 in
theorem ggX7_normalMany_X7_layWorth : GoodIn wsX7_normalMany wsX7_layWorth := goodIn_r _ [11, 2, 3, 12, 13, 14, 15, 16, 17, 18, 10, 19, 20, 21, 22, 23, 24, 25, 26, 27, 28, 77, 78, 79, 80, 81, 82, 83, 84, 85, 86, 87, 88, 89, 90, 91, 92, 93, 94, 95] (by decide +kernel) (by decide +kernel)
set_option maxRecDepth 20000 in
theorem gX7_normalMany_X7_layWorth : GoodIn wsX7_normalMany (wsV RX7 135 RX7 yX7_layWorth wsX7_layWorth) := goodIn_app (goodIn_of _ (by decide +kernel)) ggX7_normalMany_X7_layWorth
set_option maxRecDepth 20000 in
theorem ggX7_normalMany_X7_signOf : GoodIn wsX7_normalMany wsX7_signOf := goodIn_r _ [32, 33, 12, 34, 35, 10, 36, 37, 38, 39, 40, 41, 77, 78, 79, 80, 81, 82, 83, 84, 85, 86, 87, 88, 89, 90, 91, 92, 93, 94, 95] (by decide +kernel) (by decide +kernel)
set_option maxRecDepth 20000 in
theorem gX7_normalMany_X7_signOf : GoodIn wsX7_normalMany (wsV RX7 68 RX7 yX7_signOf wsX7_signOf) := goodIn_app (goodIn_of _ (by decide +kernel)) ggX7_normalMany_X7_signOf
set_option maxRecDepth 20000 in
theorem ggX7_normalMany_X7_layWritten : GoodIn wsX7_normalMany wsX7_layWritten := goodIn_r _ [45, 5, 46, 47, 48, 49, 50, 51, 52, 53, 10, 54, 12, 29, 30, 31, 32, 33, 34, 35, 36, 37, 38, 39, 40, 41, 55, 56, 57, 58, 6, 59, 60, 61, 62, 63, 64, 65, 66, 67, 68, 69, 70, 71, 72, 73, 74, 75, 76, 77, 78, 79, 80, 81, 82, 83, 84, 85, 86, 87, 88, 89, 90, 91, 92, 93, 94, 95] (by decide +kernel) (by decide +kernel)
set_option maxRecDepth 20000 in
theorem gX7_normalMany_X7_layWritten : GoodIn wsX7_normalMany (wsV RX7 141 RX7 yX7_layWritten wsX7_layWritten) := goodIn_app (goodIn_of _ (by decide +kernel)) ggX7_normalMany_X7_layWritten
theorem dX7_normalMany_0 : decode cX7_normalMany 0 = .ok (.aload_n 0, 1) := by decide +kernel
theorem dX7_normalMany_1 : decode cX7_normalMany 1 = .ok (.invokevirtual 135, 3) := by decide +kernel
theorem dX7_normalMany_4 : decode cX7_normalMany 4 = .ok (.ifCond .ne 6, 3) := by decide +kernel
theorem dX7_normalMany_7 : decode cX7_normalMany 7 = .ok (.ldc 139, 2) := by decide +kernel
theorem dX7_normalMany_9 : decode cX7_normalMany 9 = .ok (.ireturn, 1) := by decide +kernel
theorem dX7_normalMany_10 : decode cX7_normalMany 10 = .ok (.aload_n 0, 1) := by decide +kernel
theorem dX7_normalMany_11 : decode cX7_normalMany 11 = .ok (.aload_n 0, 1) := by decide +kernel
theorem dX7_normalMany_12 : decode cX7_normalMany 12 = .ok (.getfield 120, 3) := by decide +kernel
theorem dX7_normalMany_15 : decode cX7_normalMany 15 = .ok (.aload_n 0, 1) := by decide +kernel
theorem dX7_normalMany_16 : decode cX7_normalMany 16 = .ok (.getfield 124, 3) := by decide +kernel
theorem dX7_normalMany_19 : decode cX7_normalMany 19 = .ok (.invokevirtual 68, 3) := by decide +kernel
theorem dX7_normalMany_22 : decode cX7_normalMany 22 = .ok (.ifCond .ge 6, 3) := by decide +kernel
theorem dX7_normalMany_25 : decode cX7_normalMany 25 = .ok (.ldc 140, 2) := by decide +kernel
theorem dX7_normalMany_27 : decode cX7_normalMany 27 = .ok (.ireturn, 1) := by decide +kernel
theorem dX7_normalMany_28 : decode cX7_normalMany 28 = .ok (.aload_n 0, 1) := by decide +kernel
theorem dX7_normalMany_29 : decode cX7_normalMany 29 = .ok (.aload_n 0, 1) := by decide +kernel
theorem dX7_normalMany_30 : decode cX7_normalMany 30 = .ok (.getfield 120, 3) := by decide +kernel
theorem dX7_normalMany_33 : decode cX7_normalMany 33 = .ok (.aload_n 0, 1) := by decide +kernel
theorem dX7_normalMany_34 : decode cX7_normalMany 34 = .ok (.getfield 124, 3) := by decide +kernel
theorem dX7_normalMany_37 : decode cX7_normalMany 37 = .ok (.invokevirtual 141, 3) := by decide +kernel
theorem dX7_normalMany_40 : decode cX7_normalMany 40 = .ok (.aload_n 0, 1) := by decide +kernel
theorem dX7_normalMany_41 : decode cX7_normalMany 41 = .ok (.getfield 65, 3) := by decide +kernel
theorem dX7_normalMany_44 : decode cX7_normalMany 44 = .ok (.iconst 1, 1) := by decide +kernel
theorem dX7_normalMany_45 : decode cX7_normalMany 45 = .ok (.iadd, 1) := by decide +kernel
theorem dX7_normalMany_46 : decode cX7_normalMany 46 = .ok (.aload_n 0, 1) := by decide +kernel
theorem dX7_normalMany_47 : decode cX7_normalMany 47 = .ok (.getfield 78, 3) := by decide +kernel
theorem dX7_normalMany_50 : decode cX7_normalMany 50 = .ok (.iadd, 1) := by decide +kernel
theorem dX7_normalMany_51 : decode cX7_normalMany 51 = .ok (.ireturn, 1) := by decide +kernel
set_option maxRecDepth 20000 in
theorem ggX7_layNext_X7_figures : GoodIn wsX7_layNext wsX7_figures := goodIn_r _ [6, 7, 8, 26, 27, 28, 29, 30, 31, 32, 33, 34, 35, 36, 37, 38, 39, 40, 41, 42, 43, 44] (by decide +kernel) (by decide +kernel)
set_option maxRecDepth 20000 in
theorem gX7_layNext_X7_figures : GoodIn wsX7_layNext (wsV RX7 113 RX7 yX7_figures wsX7_figures) := goodIn_app (goodIn_of _ (by decide +kernel)) ggX7_layNext_X7_figures
set_option maxRecDepth 20000 in
theorem ggX7_layNext_X7_layRow : GoodIn wsX7_layNext wsX7_layRow := goodIn_r _ [12, 7, 8, 1, 26, 27, 28, 29, 30, 31, 32, 33, 34, 35, 36, 37, 38, 39, 40, 41, 42, 43, 44] (by decide +kernel) (by decide +kernel)
set_option maxRecDepth 20000 in
theorem gX7_layNext_X7_layRow : GoodIn wsX7_layNext (wsV RX7 110 RX7 yX7_layRow wsX7_layRow) := goodIn_app (goodIn_of _ (by decide +kernel)) ggX7_layNext_X7_layRow
set_option maxRecDepth 20000 in
theorem ggX7_layNext_X7_isWell : GoodIn wsX7_layNext wsX7_isWell := goodIn_r _ [16, 17, 18, 19, 5, 20, 1, 21, 22, 23, 24, 25, 26, 27, 28, 29, 30, 31, 32, 33, 34, 35, 36, 37, 38, 39, 40, 41, 42, 43, 44] (by decide +kernel) (by decide +kernel)
set_option maxRecDepth 20000 in
theorem gX7_layNext_X7_isWell : GoodIn wsX7_layNext (wsV RX7 144 RX7 yX7_isWell wsX7_isWell) := goodIn_app (goodIn_of _ (by decide +kernel)) ggX7_layNext_X7_isWell
theorem dX7_layNext_0 : decode cX7_layNext 0 = .ok (.aload_n 0, 1) := by decide +kernel
theorem dX7_layNext_1 : decode cX7_layNext 1 = .ok (.invokevirtual 113, 3) := by decide +kernel
theorem dX7_layNext_4 : decode cX7_layNext 4 = .ok (.istore_n 1, 1) := by decide +kernel
theorem dX7_layNext_5 : decode cX7_layNext 5 = .ok (.iload_n 1, 1) := by decide +kernel
theorem dX7_layNext_6 : decode cX7_layNext 6 = .ok (.iconst 1, 1) := by decide +kernel
theorem dX7_layNext_7 : decode cX7_layNext 7 = .ok (.isub, 1) := by decide +kernel
theorem dX7_layNext_8 : decode cX7_layNext 8 = .ok (.istore_n 2, 1) := by decide +kernel
theorem dX7_layNext_9 : decode cX7_layNext 9 = .ok (.iload_n 2, 1) := by decide +kernel
theorem dX7_layNext_10 : decode cX7_layNext 10 = .ok (.ifCond .lt 72, 3) := by decide +kernel
theorem dX7_layNext_13 : decode cX7_layNext 13 = .ok (.iconst 1, 1) := by decide +kernel
theorem dX7_layNext_14 : decode cX7_layNext 14 = .ok (.istore_n 3, 1) := by decide +kernel
theorem dX7_layNext_15 : decode cX7_layNext 15 = .ok (.iload_n 3, 1) := by decide +kernel
theorem dX7_layNext_16 : decode cX7_layNext 16 = .ok (.bipush 9, 2) := by decide +kernel
theorem dX7_layNext_18 : decode cX7_layNext 18 = .ok (.if_icmp .gt 58, 3) := by decide +kernel
theorem dX7_layNext_21 : decode cX7_layNext 21 = .ok (.aload_n 0, 1) := by decide +kernel
theorem dX7_layNext_22 : decode cX7_layNext 22 = .ok (.invokevirtual 110, 3) := by decide +kernel
theorem dX7_layNext_25 : decode cX7_layNext 25 = .ok (.aload_n 0, 1) := by decide +kernel
theorem dX7_layNext_26 : decode cX7_layNext 26 = .ok (.getfield 35, 3) := by decide +kernel
theorem dX7_layNext_29 : decode cX7_layNext 29 = .ok (.iload_n 2, 1) := by decide +kernel
theorem dX7_layNext_30 : decode cX7_layNext 30 = .ok (.dup2, 1) := by decide +kernel
theorem dX7_layNext_31 : decode cX7_layNext 31 = .ok (.iaload, 1) := by decide +kernel
theorem dX7_layNext_32 : decode cX7_layNext 32 = .ok (.iload_n 3, 1) := by decide +kernel
theorem dX7_layNext_33 : decode cX7_layNext 33 = .ok (.iadd, 1) := by decide +kernel
theorem dX7_layNext_34 : decode cX7_layNext 34 = .ok (.iastore, 1) := by decide +kernel
theorem dX7_layNext_35 : decode cX7_layNext 35 = .ok (.iload_n 2, 1) := by decide +kernel
theorem dX7_layNext_36 : decode cX7_layNext 36 = .ok (.iconst 1, 1) := by decide +kernel
theorem dX7_layNext_37 : decode cX7_layNext 37 = .ok (.iadd, 1) := by decide +kernel
theorem dX7_layNext_38 : decode cX7_layNext 38 = .ok (.istore 4, 2) := by decide +kernel
theorem dX7_layNext_40 : decode cX7_layNext 40 = .ok (.iload 4, 2) := by decide +kernel
theorem dX7_layNext_42 : decode cX7_layNext 42 = .ok (.iload_n 1, 1) := by decide +kernel
theorem dX7_layNext_43 : decode cX7_layNext 43 = .ok (.if_icmp .ge 17, 3) := by decide +kernel
theorem dX7_layNext_46 : decode cX7_layNext 46 = .ok (.aload_n 0, 1) := by decide +kernel
theorem dX7_layNext_47 : decode cX7_layNext 47 = .ok (.getfield 35, 3) := by decide +kernel
theorem dX7_layNext_50 : decode cX7_layNext 50 = .ok (.iload 4, 2) := by decide +kernel
theorem dX7_layNext_52 : decode cX7_layNext 52 = .ok (.iconst 0, 1) := by decide +kernel
theorem dX7_layNext_53 : decode cX7_layNext 53 = .ok (.iastore, 1) := by decide +kernel
theorem dX7_layNext_54 : decode cX7_layNext 54 = .ok (.iinc 4 1, 3) := by decide +kernel
theorem dX7_layNext_57 : decode cX7_layNext 57 = .ok (.goto (-17), 3) := by decide +kernel
theorem dX7_layNext_60 : decode cX7_layNext 60 = .ok (.aload_n 0, 1) := by decide +kernel
theorem dX7_layNext_61 : decode cX7_layNext 61 = .ok (.iload_n 1, 1) := by decide +kernel
theorem dX7_layNext_62 : decode cX7_layNext 62 = .ok (.invokevirtual 144, 3) := by decide +kernel
theorem dX7_layNext_65 : decode cX7_layNext 65 = .ok (.ifCond .eq 5, 3) := by decide +kernel
theorem dX7_layNext_68 : decode cX7_layNext 68 = .ok (.iconst 1, 1) := by decide +kernel
theorem dX7_layNext_69 : decode cX7_layNext 69 = .ok (.ireturn, 1) := by decide +kernel
theorem dX7_layNext_70 : decode cX7_layNext 70 = .ok (.iinc 3 1, 3) := by decide +kernel
theorem dX7_layNext_73 : decode cX7_layNext 73 = .ok (.goto (-58), 3) := by decide +kernel
theorem dX7_layNext_76 : decode cX7_layNext 76 = .ok (.iinc 2 (-1), 3) := by decide +kernel
theorem dX7_layNext_79 : decode cX7_layNext 79 = .ok (.goto (-70), 3) := by decide +kernel
theorem dX7_layNext_82 : decode cX7_layNext 82 = .ok (.iconst 0, 1) := by decide +kernel
theorem dX7_layNext_83 : decode cX7_layNext 83 = .ok (.ireturn, 1) := by decide +kernel
set_option maxRecDepth 20000 in
theorem ggX7_isShelf_X7_in : GoodIn wsX7_isShelf wsX7_in := goodIn_r _ [5] (by decide +kernel) (by decide +kernel)
set_option maxRecDepth 20000 in
theorem gX7_isShelf_X7_in : GoodIn wsX7_isShelf (va_wsS RX7 131 yX7_in wsX7_in) := goodIn_app (goodIn_of _ (by decide +kernel)) ggX7_isShelf_X7_in
theorem dX7_isShelf_0 : decode cX7_isShelf 0 = .ok (.iload_n 0, 1) := by decide +kernel
theorem dX7_isShelf_1 : decode cX7_isShelf 1 = .ok (.i2l, 1) := by decide +kernel
theorem dX7_isShelf_2 : decode cX7_isShelf 2 = .ok (.lconst 0, 1) := by decide +kernel
theorem dX7_isShelf_3 : decode cX7_isShelf 3 = .ok (.ldc2_w 147, 3) := by decide +kernel
theorem dX7_isShelf_6 : decode cX7_isShelf 6 = .ok (.invokestatic 131, 3) := by decide +kernel
theorem dX7_isShelf_9 : decode cX7_isShelf 9 = .ok (.ireturn, 1) := by decide +kernel
theorem dX7_mOf_0 : decode cX7_mOf 0 = .ok (.aload_n 0, 1) := by decide +kernel
theorem dX7_mOf_1 : decode cX7_mOf 1 = .ok (.getfield 7, 3) := by decide +kernel
theorem dX7_mOf_4 : decode cX7_mOf 4 = .ok (.iconst 2, 1) := by decide +kernel
theorem dX7_mOf_5 : decode cX7_mOf 5 = .ok (.iconst 2, 1) := by decide +kernel
theorem dX7_mOf_6 : decode cX7_mOf 6 = .ok (.iload_n 1, 1) := by decide +kernel
theorem dX7_mOf_7 : decode cX7_mOf 7 = .ok (.imul, 1) := by decide +kernel
theorem dX7_mOf_8 : decode cX7_mOf 8 = .ok (.iadd, 1) := by decide +kernel
theorem dX7_mOf_9 : decode cX7_mOf 9 = .ok (.iaload, 1) := by decide +kernel
theorem dX7_mOf_10 : decode cX7_mOf 10 = .ok (.ireturn, 1) := by decide +kernel
theorem dX7_nOf_0 : decode cX7_nOf 0 = .ok (.aload_n 0, 1) := by decide +kernel
theorem dX7_nOf_1 : decode cX7_nOf 1 = .ok (.getfield 7, 3) := by decide +kernel
theorem dX7_nOf_4 : decode cX7_nOf 4 = .ok (.iconst 3, 1) := by decide +kernel
theorem dX7_nOf_5 : decode cX7_nOf 5 = .ok (.iconst 2, 1) := by decide +kernel
theorem dX7_nOf_6 : decode cX7_nOf 6 = .ok (.iload_n 1, 1) := by decide +kernel
theorem dX7_nOf_7 : decode cX7_nOf 7 = .ok (.imul, 1) := by decide +kernel
theorem dX7_nOf_8 : decode cX7_nOf 8 = .ok (.iadd, 1) := by decide +kernel
theorem dX7_nOf_9 : decode cX7_nOf 9 = .ok (.iaload, 1) := by decide +kernel
theorem dX7_nOf_10 : decode cX7_nOf 10 = .ok (.ireturn, 1) := by decide +kernel
set_option maxRecDepth 20000 in
theorem ggX7_set_X7_remember : GoodIn wsX7_set wsX7_remember := goodIn_r _ [6, 7, 8, 9, 10, 5, 11, 1, 25, 26, 27, 28, 29, 30, 31, 32, 33, 34, 35, 36, 37, 38, 39, 40, 41, 42, 43] (by decide +kernel) (by decide +kernel)
set_option maxRecDepth 20000 in
theorem gX7_set_X7_remember : GoodIn wsX7_set (wsV RX7 149 RX7 yX7_remember wsX7_remember) := goodIn_app (goodIn_of _ (by decide +kernel)) ggX7_set_X7_remember
set_option maxRecDepth 20000 in
theorem ggX7_set_X7_signOf : GoodIn wsX7_set wsX7_signOf := goodIn_r _ [15, 16, 1, 17, 18, 5, 19, 20, 21, 22, 23, 24, 25, 26, 27, 28, 29, 30, 31, 32, 33, 34, 35, 36, 37, 38, 39, 40, 41, 42, 43] (by decide +kernel) (by decide +kernel)
set_option maxRecDepth 20000 in
theorem gX7_set_X7_signOf : GoodIn wsX7_set (wsV RX7 68 RX7 yX7_signOf wsX7_signOf) := goodIn_app (goodIn_of _ (by decide +kernel)) ggX7_set_X7_signOf
theorem dX7_set_0 : decode cX7_set 0 = .ok (.aload_n 0, 1) := by decide +kernel
theorem dX7_set_1 : decode cX7_set 1 = .ok (.invokevirtual 149, 3) := by decide +kernel
theorem dX7_set_4 : decode cX7_set 4 = .ok (.aload_n 0, 1) := by decide +kernel
theorem dX7_set_5 : decode cX7_set 5 = .ok (.getfield 7, 3) := by decide +kernel
theorem dX7_set_8 : decode cX7_set 8 = .ok (.iconst 2, 1) := by decide +kernel
theorem dX7_set_9 : decode cX7_set 9 = .ok (.iconst 2, 1) := by decide +kernel
theorem dX7_set_10 : decode cX7_set 10 = .ok (.iload_n 1, 1) := by decide +kernel
theorem dX7_set_11 : decode cX7_set 11 = .ok (.imul, 1) := by decide +kernel
theorem dX7_set_12 : decode cX7_set 12 = .ok (.iadd, 1) := by decide +kernel
theorem dX7_set_13 : decode cX7_set 13 = .ok (.lload_n 2, 1) := by decide +kernel
theorem dX7_set_14 : decode cX7_set 14 = .ok (.l2i, 1) := by decide +kernel
theorem dX7_set_15 : decode cX7_set 15 = .ok (.iastore, 1) := by decide +kernel
theorem dX7_set_16 : decode cX7_set 16 = .ok (.aload_n 0, 1) := by decide +kernel
theorem dX7_set_17 : decode cX7_set 17 = .ok (.getfield 7, 3) := by decide +kernel
theorem dX7_set_20 : decode cX7_set 20 = .ok (.iconst 3, 1) := by decide +kernel
theorem dX7_set_21 : decode cX7_set 21 = .ok (.iconst 2, 1) := by decide +kernel
theorem dX7_set_22 : decode cX7_set 22 = .ok (.iload_n 1, 1) := by decide +kernel
theorem dX7_set_23 : decode cX7_set 23 = .ok (.imul, 1) := by decide +kernel
theorem dX7_set_24 : decode cX7_set 24 = .ok (.iadd, 1) := by decide +kernel
theorem dX7_set_25 : decode cX7_set 25 = .ok (.lload 4, 2) := by decide +kernel
theorem dX7_set_27 : decode cX7_set 27 = .ok (.l2i, 1) := by decide +kernel
theorem dX7_set_28 : decode cX7_set 28 = .ok (.iastore, 1) := by decide +kernel
theorem dX7_set_29 : decode cX7_set 29 = .ok (.aload_n 0, 1) := by decide +kernel
theorem dX7_set_30 : decode cX7_set 30 = .ok (.lload_n 2, 1) := by decide +kernel
theorem dX7_set_31 : decode cX7_set 31 = .ok (.lload 4, 2) := by decide +kernel
theorem dX7_set_33 : decode cX7_set 33 = .ok (.invokevirtual 68, 3) := by decide +kernel
theorem dX7_set_36 : decode cX7_set 36 = .ok (.ireturn, 1) := by decide +kernel
set_option maxRecDepth 20000 in
theorem ggX7_base_X7_in : GoodIn wsX7_base wsX7_in := goodIn_r _ [8] (by decide +kernel) (by decide +kernel)
set_option maxRecDepth 20000 in
theorem gX7_base_X7_in : GoodIn wsX7_base (va_wsS RX7 131 yX7_in wsX7_in) := goodIn_app (goodIn_of _ (by decide +kernel)) ggX7_base_X7_in
set_option maxRecDepth 20000 in
theorem ggX7_base_X7_remember : GoodIn wsX7_base wsX7_remember := goodIn_r _ [12, 13, 14, 15, 16, 7, 17, 4, 22, 23, 24, 25, 26, 27, 28, 29, 30, 31, 32, 33, 34, 35, 36, 37, 38, 39, 40] (by decide +kernel) (by decide +kernel)
set_option maxRecDepth 20000 in
theorem gX7_base_X7_remember : GoodIn wsX7_base (wsV RX7 149 RX7 yX7_remember wsX7_remember) := goodIn_app (goodIn_of _ (by decide +kernel)) ggX7_base_X7_remember
set_option maxRecDepth 20000 in
theorem ggX7_base_X7_top : GoodIn wsX7_base wsX7_top := goodIn_r _ [21, 4, 22, 23, 24, 25, 26, 27, 28, 29, 30, 31, 32, 33, 34, 35, 36, 37, 38, 39, 40] (by decide +kernel) (by decide +kernel)
set_option maxRecDepth 20000 in
theorem gX7_base_X7_top : GoodIn wsX7_base (wsV RX7 157 RX7 yX7_top wsX7_top) := goodIn_app (goodIn_of _ (by decide +kernel)) ggX7_base_X7_top
theorem dX7_base_0 : decode cX7_base 0 = .ok (.iload_n 1, 1) := by decide +kernel
theorem dX7_base_1 : decode cX7_base 1 = .ok (.i2l, 1) := by decide +kernel
theorem dX7_base_2 : decode cX7_base 2 = .ok (.lconst 1, 1) := by decide +kernel
theorem dX7_base_3 : decode cX7_base 3 = .ok (.ldc2_w 152, 3) := by decide +kernel
theorem dX7_base_6 : decode cX7_base 6 = .ok (.invokestatic 131, 3) := by decide +kernel
theorem dX7_base_9 : decode cX7_base 9 = .ok (.ifCond .eq 47, 3) := by decide +kernel
theorem dX7_base_12 : decode cX7_base 12 = .ok (.iload_n 2, 1) := by decide +kernel
theorem dX7_base_13 : decode cX7_base 13 = .ok (.ifCond .eq 43, 3) := by decide +kernel
theorem dX7_base_16 : decode cX7_base 16 = .ok (.iload_n 2, 1) := by decide +kernel
theorem dX7_base_17 : decode cX7_base 17 = .ok (.i2l, 1) := by decide +kernel
theorem dX7_base_18 : decode cX7_base 18 = .ok (.iconst 2, 1) := by decide +kernel
theorem dX7_base_19 : decode cX7_base 19 = .ok (.iload_n 1, 1) := by decide +kernel
theorem dX7_base_20 : decode cX7_base 20 = .ok (.isub, 1) := by decide +kernel
theorem dX7_base_21 : decode cX7_base 21 = .ok (.iconst (-1), 1) := by decide +kernel
theorem dX7_base_22 : decode cX7_base 22 = .ok (.if_icmp .ge 10, 3) := by decide +kernel
theorem dX7_base_25 : decode cX7_base 25 = .ok (.iconst 2, 1) := by decide +kernel
theorem dX7_base_26 : decode cX7_base 26 = .ok (.iload_n 1, 1) := by decide +kernel
theorem dX7_base_27 : decode cX7_base 27 = .ok (.isub, 1) := by decide +kernel
theorem dX7_base_28 : decode cX7_base 28 = .ok (.i2l, 1) := by decide +kernel
theorem dX7_base_29 : decode cX7_base 29 = .ok (.goto 15, 3) := by decide +kernel
theorem dX7_base_32 : decode cX7_base 32 = .ok (.iload_n 1, 1) := by decide +kernel
theorem dX7_base_33 : decode cX7_base 33 = .ok (.iconst 3, 1) := by decide +kernel
theorem dX7_base_34 : decode cX7_base 34 = .ok (.if_icmp .ge 7, 3) := by decide +kernel
theorem dX7_base_37 : decode cX7_base 37 = .ok (.lconst 1, 1) := by decide +kernel
theorem dX7_base_38 : decode cX7_base 38 = .ok (.goto 6, 3) := by decide +kernel
theorem dX7_base_41 : decode cX7_base 41 = .ok (.ldc2_w 154, 3) := by decide +kernel
theorem dX7_base_44 : decode cX7_base 44 = .ok (.iload_n 1, 1) := by decide +kernel
theorem dX7_base_45 : decode cX7_base 45 = .ok (.i2l, 1) := by decide +kernel
theorem dX7_base_46 : decode cX7_base 46 = .ok (.invokestatic 131, 3) := by decide +kernel
theorem dX7_base_49 : decode cX7_base 49 = .ok (.ifCond .eq 7, 3) := by decide +kernel
theorem dX7_base_52 : decode cX7_base 52 = .ok (.iconst 1, 1) := by decide +kernel
theorem dX7_base_53 : decode cX7_base 53 = .ok (.goto 4, 3) := by decide +kernel
theorem dX7_base_56 : decode cX7_base 56 = .ok (.iconst 0, 1) := by decide +kernel
theorem dX7_base_57 : decode cX7_base 57 = .ok (.istore_n 3, 1) := by decide +kernel
theorem dX7_base_58 : decode cX7_base 58 = .ok (.iload_n 3, 1) := by decide +kernel
theorem dX7_base_59 : decode cX7_base 59 = .ok (.ifCond .ne 6, 3) := by decide +kernel
theorem dX7_base_62 : decode cX7_base 62 = .ok (.ldc 156, 2) := by decide +kernel
theorem dX7_base_64 : decode cX7_base 64 = .ok (.ireturn, 1) := by decide +kernel
theorem dX7_base_65 : decode cX7_base 65 = .ok (.aload_n 0, 1) := by decide +kernel
theorem dX7_base_66 : decode cX7_base 66 = .ok (.invokevirtual 149, 3) := by decide +kernel
theorem dX7_base_69 : decode cX7_base 69 = .ok (.aload_n 0, 1) := by decide +kernel
theorem dX7_base_70 : decode cX7_base 70 = .ok (.getfield 7, 3) := by decide +kernel
theorem dX7_base_73 : decode cX7_base 73 = .ok (.iconst 0, 1) := by decide +kernel
theorem dX7_base_74 : decode cX7_base 74 = .ok (.iload_n 1, 1) := by decide +kernel
theorem dX7_base_75 : decode cX7_base 75 = .ok (.iastore, 1) := by decide +kernel
theorem dX7_base_76 : decode cX7_base 76 = .ok (.aload_n 0, 1) := by decide +kernel
theorem dX7_base_77 : decode cX7_base 77 = .ok (.getfield 7, 3) := by decide +kernel
theorem dX7_base_80 : decode cX7_base 80 = .ok (.iconst 1, 1) := by decide +kernel
theorem dX7_base_81 : decode cX7_base 81 = .ok (.iload_n 2, 1) := by decide +kernel
theorem dX7_base_82 : decode cX7_base 82 = .ok (.iastore, 1) := by decide +kernel
theorem dX7_base_83 : decode cX7_base 83 = .ok (.aload_n 0, 1) := by decide +kernel
theorem dX7_base_84 : decode cX7_base 84 = .ok (.invokevirtual 157, 3) := by decide +kernel
theorem dX7_base_87 : decode cX7_base 87 = .ok (.ireturn, 1) := by decide +kernel
set_option maxRecDepth 20000 in
theorem ggX7_put_X7_isShelf : GoodIn wsX7_put wsX7_isShelf := goodIn_r _ [8, 9, 10, 11, 7, 12] (by decide +kernel) (by decide +kernel)
set_option maxRecDepth 20000 in
theorem gX7_put_X7_isShelf : GoodIn wsX7_put (va_wsS RX7 160 yX7_isShelf wsX7_isShelf) := goodIn_app (goodIn_of _ (by decide +kernel)) ggX7_put_X7_isShelf
set_option maxRecDepth 20000 in
theorem ggX7_put_X7_in : GoodIn wsX7_put wsX7_in := goodIn_r _ [12] (by decide +kernel) (by decide +kernel)
set_option maxRecDepth 20000 in
theorem gX7_put_X7_in : GoodIn wsX7_put (va_wsS RX7 131 yX7_in wsX7_in) := goodIn_app (goodIn_of _ (by decide +kernel)) ggX7_put_X7_in
set_option maxRecDepth 20000 in
theorem ggX7_put_X7_set : GoodIn wsX7_put wsX7_set := goodIn_r _ [16, 17, 18, 19, 20, 7, 21, 22, 23, 24, 25, 26, 27, 28, 29, 30, 31, 32, 33, 34, 35, 36, 37, 38, 39, 40, 41, 42, 43, 44, 45, 46, 47, 48, 49, 50, 51, 52, 53, 54, 55, 56, 57, 58] (by decide +kernel) (by decide +kernel)
set_option maxRecDepth 20000 in
theorem gX7_put_X7_set : GoodIn wsX7_put (wsV RX7 164 RX7 yX7_set wsX7_set) := goodIn_app (goodIn_of _ (by decide +kernel)) ggX7_put_X7_set
theorem dX7_put_0 : decode cX7_put 0 = .ok (.iload_n 1, 1) := by decide +kernel
theorem dX7_put_1 : decode cX7_put 1 = .ok (.invokestatic 160, 3) := by decide +kernel
theorem dX7_put_4 : decode cX7_put 4 = .ok (.ifCond .ne 6, 3) := by decide +kernel
theorem dX7_put_7 : decode cX7_put 7 = .ok (.ldc 163, 2) := by decide +kernel
theorem dX7_put_9 : decode cX7_put 9 = .ok (.ireturn, 1) := by decide +kernel
theorem dX7_put_10 : decode cX7_put 10 = .ok (.iload_n 2, 1) := by decide +kernel
theorem dX7_put_11 : decode cX7_put 11 = .ok (.i2l, 1) := by decide +kernel
theorem dX7_put_12 : decode cX7_put 12 = .ok (.ldc2_w 127, 3) := by decide +kernel
theorem dX7_put_15 : decode cX7_put 15 = .ok (.ldc2_w 129, 3) := by decide +kernel
theorem dX7_put_18 : decode cX7_put 18 = .ok (.invokestatic 131, 3) := by decide +kernel
theorem dX7_put_21 : decode cX7_put 21 = .ok (.ifCond .eq 29, 3) := by decide +kernel
theorem dX7_put_24 : decode cX7_put 24 = .ok (.iload_n 3, 1) := by decide +kernel
theorem dX7_put_25 : decode cX7_put 25 = .ok (.i2l, 1) := by decide +kernel
theorem dX7_put_26 : decode cX7_put 26 = .ok (.ldc2_w 127, 3) := by decide +kernel
theorem dX7_put_29 : decode cX7_put 29 = .ok (.ldc2_w 129, 3) := by decide +kernel
theorem dX7_put_32 : decode cX7_put 32 = .ok (.invokestatic 131, 3) := by decide +kernel
theorem dX7_put_35 : decode cX7_put 35 = .ok (.ifCond .eq 15, 3) := by decide +kernel
theorem dX7_put_38 : decode cX7_put 38 = .ok (.aload_n 0, 1) := by decide +kernel
theorem dX7_put_39 : decode cX7_put 39 = .ok (.iload_n 1, 1) := by decide +kernel
theorem dX7_put_40 : decode cX7_put 40 = .ok (.iload_n 2, 1) := by decide +kernel
theorem dX7_put_41 : decode cX7_put 41 = .ok (.i2l, 1) := by decide +kernel
theorem dX7_put_42 : decode cX7_put 42 = .ok (.iload_n 3, 1) := by decide +kernel
theorem dX7_put_43 : decode cX7_put 43 = .ok (.i2l, 1) := by decide +kernel
theorem dX7_put_44 : decode cX7_put 44 = .ok (.invokevirtual 164, 3) := by decide +kernel
theorem dX7_put_47 : decode cX7_put 47 = .ok (.goto 5, 3) := by decide +kernel
theorem dX7_put_50 : decode cX7_put 50 = .ok (.ldc 156, 2) := by decide +kernel
theorem dX7_put_52 : decode cX7_put 52 = .ok (.ireturn, 1) := by decide +kernel
set_option maxRecDepth 20000 in
theorem ggX7_setIn_X7_in : GoodIn wsX7_setIn wsX7_in := goodIn_r _ [7] (by decide +kernel) (by decide +kernel)
set_option maxRecDepth 20000 in
theorem gX7_setIn_X7_in : GoodIn wsX7_setIn (va_wsS RX7 131 yX7_in wsX7_in) := goodIn_app (goodIn_of _ (by decide +kernel)) ggX7_setIn_X7_in
set_option maxRecDepth 20000 in
theorem ggX7_setIn_X7_set : GoodIn wsX7_setIn wsX7_set := goodIn_r _ [11, 12, 13, 14, 15, 6, 16, 17, 18, 19, 20, 21, 22, 23, 24, 25, 26, 27, 28, 29, 30, 31, 32, 33, 34, 35, 36, 37, 38, 39, 40, 41, 42, 43, 44, 45, 46, 47, 48, 49, 50, 51, 52, 53] (by decide +kernel) (by decide +kernel)
set_option maxRecDepth 20000 in
theorem gX7_setIn_X7_set : GoodIn wsX7_setIn (wsV RX7 164 RX7 yX7_set wsX7_set) := goodIn_app (goodIn_of _ (by decide +kernel)) ggX7_setIn_X7_set
theorem dX7_setIn_0 : decode cX7_setIn 0 = .ok (.lload_n 2, 1) := by decide +kernel
theorem dX7_setIn_1 : decode cX7_setIn 1 = .ok (.ldc2_w 127, 3) := by decide +kernel
theorem dX7_setIn_4 : decode cX7_setIn 4 = .ok (.ldc2_w 129, 3) := by decide +kernel
theorem dX7_setIn_7 : decode cX7_setIn 7 = .ok (.invokestatic 131, 3) := by decide +kernel
theorem dX7_setIn_10 : decode cX7_setIn 10 = .ok (.ifCond .eq 28, 3) := by decide +kernel
theorem dX7_setIn_13 : decode cX7_setIn 13 = .ok (.lload 4, 2) := by decide +kernel
theorem dX7_setIn_15 : decode cX7_setIn 15 = .ok (.ldc2_w 127, 3) := by decide +kernel
theorem dX7_setIn_18 : decode cX7_setIn 18 = .ok (.ldc2_w 129, 3) := by decide +kernel
theorem dX7_setIn_21 : decode cX7_setIn 21 = .ok (.invokestatic 131, 3) := by decide +kernel
theorem dX7_setIn_24 : decode cX7_setIn 24 = .ok (.ifCond .eq 14, 3) := by decide +kernel
theorem dX7_setIn_27 : decode cX7_setIn 27 = .ok (.aload_n 0, 1) := by decide +kernel
theorem dX7_setIn_28 : decode cX7_setIn 28 = .ok (.iload_n 1, 1) := by decide +kernel
theorem dX7_setIn_29 : decode cX7_setIn 29 = .ok (.lload_n 2, 1) := by decide +kernel
theorem dX7_setIn_30 : decode cX7_setIn 30 = .ok (.lload 4, 2) := by decide +kernel
theorem dX7_setIn_32 : decode cX7_setIn 32 = .ok (.invokevirtual 164, 3) := by decide +kernel
theorem dX7_setIn_35 : decode cX7_setIn 35 = .ok (.goto 5, 3) := by decide +kernel
theorem dX7_setIn_38 : decode cX7_setIn 38 = .ok (.ldc 139, 2) := by decide +kernel
theorem dX7_setIn_40 : decode cX7_setIn 40 = .ok (.ireturn, 1) := by decide +kernel
set_option maxRecDepth 20000 in
theorem ggX7_deed_X7_isShelf : GoodIn wsX7_deed wsX7_isShelf := goodIn_r _ [7, 8, 9, 10, 6, 11] (by decide +kernel) (by decide +kernel)
set_option maxRecDepth 20000 in
theorem gX7_deed_X7_isShelf : GoodIn wsX7_deed (va_wsS RX7 160 yX7_isShelf wsX7_isShelf) := goodIn_app (goodIn_of _ (by decide +kernel)) ggX7_deed_X7_isShelf
set_option maxRecDepth 20000 in
theorem ggX7_deed_X7_mOf : GoodIn wsX7_deed wsX7_mOf := goodIn_r _ [15, 2, 53, 54, 55, 56, 57, 58, 59, 60, 61, 62, 63, 64, 65, 66, 67, 68, 69, 70, 71] (by decide +kernel) (by decide +kernel)
set_option maxRecDepth 20000 in
theorem gX7_deed_X7_mOf : GoodIn wsX7_deed (wsV RX7 168 RX7 yX7_mOf wsX7_mOf) := goodIn_app (goodIn_of _ (by decide +kernel)) ggX7_deed_X7_mOf
set_option maxRecDepth 20000 in
theorem ggX7_deed_X7_nOf : GoodIn wsX7_deed wsX7_nOf := goodIn_r _ [19, 2, 53, 54, 55, 56, 57, 58, 59, 60, 61, 62, 63, 64, 65, 66, 67, 68, 69, 70, 71] (by decide +kernel) (by decide +kernel)
set_option maxRecDepth 20000 in
theorem gX7_deed_X7_nOf : GoodIn wsX7_deed (wsV RX7 171 RX7 yX7_nOf wsX7_nOf) := goodIn_app (goodIn_of _ (by decide +kernel)) ggX7_deed_X7_nOf
set_option maxRecDepth 20000 in
theorem ggX7_deed_X7_setIn : GoodIn wsX7_deed wsX7_setIn := goodIn_r _ [23, 24, 25, 26, 9, 10, 6, 11, 27, 28, 29, 30, 2, 31, 32, 33, 34, 35, 36, 37, 38, 39, 40, 41, 42, 43, 44, 45, 46, 47, 48, 49, 50, 51, 52, 53, 54, 55, 56, 57, 58, 59, 60, 61, 62, 63, 64, 65, 66, 67, 68, 69, 70, 71] (by decide +kernel) (by decide +kernel)
set_option maxRecDepth 20000 in
theorem gX7_deed_X7_setIn : GoodIn wsX7_deed (wsV RX7 174 RX7 yX7_setIn wsX7_setIn) := goodIn_app (goodIn_of _ (by decide +kernel)) ggX7_deed_X7_setIn
theorem dX7_deed_0 : decode cX7_deed 0 = .ok (.iload_n 1, 1) := by decide +kernel
theorem dX7_deed_1 : decode cX7_deed 1 = .ok (.invokestatic 160, 3) := by decide +kernel
theorem dX7_deed_4 : decode cX7_deed 4 = .ok (.ifCond .eq 18, 3) := by decide +kernel
theorem dX7_deed_7 : decode cX7_deed 7 = .ok (.iload_n 3, 1) := by decide +kernel
theorem dX7_deed_8 : decode cX7_deed 8 = .ok (.invokestatic 160, 3) := by decide +kernel
theorem dX7_deed_11 : decode cX7_deed 11 = .ok (.ifCond .eq 11, 3) := by decide +kernel
theorem dX7_deed_14 : decode cX7_deed 14 = .ok (.iload 4, 2) := by decide +kernel
theorem dX7_deed_16 : decode cX7_deed 16 = .ok (.invokestatic 160, 3) := by decide +kernel
theorem dX7_deed_19 : decode cX7_deed 19 = .ok (.ifCond .ne 6, 3) := by decide +kernel
theorem dX7_deed_22 : decode cX7_deed 22 = .ok (.ldc 163, 2) := by decide +kernel
theorem dX7_deed_24 : decode cX7_deed 24 = .ok (.ireturn, 1) := by decide +kernel
theorem dX7_deed_25 : decode cX7_deed 25 = .ok (.aload_n 0, 1) := by decide +kernel
theorem dX7_deed_26 : decode cX7_deed 26 = .ok (.iload_n 3, 1) := by decide +kernel
theorem dX7_deed_27 : decode cX7_deed 27 = .ok (.invokevirtual 168, 3) := by decide +kernel
theorem dX7_deed_30 : decode cX7_deed 30 = .ok (.i2l, 1) := by decide +kernel
theorem dX7_deed_31 : decode cX7_deed 31 = .ok (.lstore 5, 2) := by decide +kernel
theorem dX7_deed_33 : decode cX7_deed 33 = .ok (.aload_n 0, 1) := by decide +kernel
theorem dX7_deed_34 : decode cX7_deed 34 = .ok (.iload_n 3, 1) := by decide +kernel
theorem dX7_deed_35 : decode cX7_deed 35 = .ok (.invokevirtual 171, 3) := by decide +kernel
theorem dX7_deed_38 : decode cX7_deed 38 = .ok (.i2l, 1) := by decide +kernel
theorem dX7_deed_39 : decode cX7_deed 39 = .ok (.lstore 7, 2) := by decide +kernel
theorem dX7_deed_41 : decode cX7_deed 41 = .ok (.aload_n 0, 1) := by decide +kernel
theorem dX7_deed_42 : decode cX7_deed 42 = .ok (.iload 4, 2) := by decide +kernel
theorem dX7_deed_44 : decode cX7_deed 44 = .ok (.invokevirtual 168, 3) := by decide +kernel
theorem dX7_deed_47 : decode cX7_deed 47 = .ok (.i2l, 1) := by decide +kernel
theorem dX7_deed_48 : decode cX7_deed 48 = .ok (.lstore 9, 2) := by decide +kernel
theorem dX7_deed_50 : decode cX7_deed 50 = .ok (.aload_n 0, 1) := by decide +kernel
theorem dX7_deed_51 : decode cX7_deed 51 = .ok (.iload 4, 2) := by decide +kernel
theorem dX7_deed_53 : decode cX7_deed 53 = .ok (.invokevirtual 171, 3) := by decide +kernel
theorem dX7_deed_56 : decode cX7_deed 56 = .ok (.i2l, 1) := by decide +kernel
theorem dX7_deed_57 : decode cX7_deed 57 = .ok (.lstore 11, 2) := by decide +kernel
theorem dX7_deed_59 : decode cX7_deed 59 = .ok (.iload_n 2, 1) := by decide +kernel
theorem dX7_deed_60 : decode cX7_deed 60 = .ok (.tableswitch 143 0 3 #[32, 48, 64, 114], 32) := by decide +kernel
theorem dX7_deed_92 : decode cX7_deed 92 = .ok (.aload_n 0, 1) := by decide +kernel
theorem dX7_deed_93 : decode cX7_deed 93 = .ok (.iload_n 1, 1) := by decide +kernel
theorem dX7_deed_94 : decode cX7_deed 94 = .ok (.lload 5, 2) := by decide +kernel
theorem dX7_deed_96 : decode cX7_deed 96 = .ok (.lload 9, 2) := by decide +kernel
theorem dX7_deed_98 : decode cX7_deed 98 = .ok (.ladd, 1) := by decide +kernel
theorem dX7_deed_99 : decode cX7_deed 99 = .ok (.lload 7, 2) := by decide +kernel
theorem dX7_deed_101 : decode cX7_deed 101 = .ok (.lload 11, 2) := by decide +kernel
theorem dX7_deed_103 : decode cX7_deed 103 = .ok (.ladd, 1) := by decide +kernel
theorem dX7_deed_104 : decode cX7_deed 104 = .ok (.invokevirtual 174, 3) := by decide +kernel
theorem dX7_deed_107 : decode cX7_deed 107 = .ok (.ireturn, 1) := by decide +kernel
theorem dX7_deed_108 : decode cX7_deed 108 = .ok (.aload_n 0, 1) := by decide +kernel
theorem dX7_deed_109 : decode cX7_deed 109 = .ok (.iload_n 1, 1) := by decide +kernel
theorem dX7_deed_110 : decode cX7_deed 110 = .ok (.lload 5, 2) := by decide +kernel
theorem dX7_deed_112 : decode cX7_deed 112 = .ok (.lload 9, 2) := by decide +kernel
theorem dX7_deed_114 : decode cX7_deed 114 = .ok (.lsub, 1) := by decide +kernel
theorem dX7_deed_115 : decode cX7_deed 115 = .ok (.lload 7, 2) := by decide +kernel
theorem dX7_deed_117 : decode cX7_deed 117 = .ok (.lload 11, 2) := by decide +kernel
theorem dX7_deed_119 : decode cX7_deed 119 = .ok (.lsub, 1) := by decide +kernel
theorem dX7_deed_120 : decode cX7_deed 120 = .ok (.invokevirtual 174, 3) := by decide +kernel
theorem dX7_deed_123 : decode cX7_deed 123 = .ok (.ireturn, 1) := by decide +kernel
theorem dX7_deed_124 : decode cX7_deed 124 = .ok (.aload_n 0, 1) := by decide +kernel
theorem dX7_deed_125 : decode cX7_deed 125 = .ok (.iload_n 1, 1) := by decide +kernel
theorem dX7_deed_126 : decode cX7_deed 126 = .ok (.lload 5, 2) := by decide +kernel
theorem dX7_deed_128 : decode cX7_deed 128 = .ok (.lload 9, 2) := by decide +kernel
theorem dX7_deed_130 : decode cX7_deed 130 = .ok (.lmul, 1) := by decide +kernel
theorem dX7_deed_131 : decode cX7_deed 131 = .ok (.aload_n 0, 1) := by decide +kernel
theorem dX7_deed_132 : decode cX7_deed 132 = .ok (.getfield 7, 3) := by decide +kernel
theorem dX7_deed_135 : decode cX7_deed 135 = .ok (.iconst 1, 1) := by decide +kernel
theorem dX7_deed_136 : decode cX7_deed 136 = .ok (.iaload, 1) := by decide +kernel
theorem dX7_deed_137 : decode cX7_deed 137 = .ok (.i2l, 1) := by decide +kernel
theorem dX7_deed_138 : decode cX7_deed 138 = .ok (.lload 7, 2) := by decide +kernel
theorem dX7_deed_140 : decode cX7_deed 140 = .ok (.lmul, 1) := by decide +kernel
theorem dX7_deed_141 : decode cX7_deed 141 = .ok (.lload 11, 2) := by decide +kernel
theorem dX7_deed_143 : decode cX7_deed 143 = .ok (.lmul, 1) := by decide +kernel
theorem dX7_deed_144 : decode cX7_deed 144 = .ok (.ladd, 1) := by decide +kernel
theorem dX7_deed_145 : decode cX7_deed 145 = .ok (.lload 5, 2) := by decide +kernel
theorem dX7_deed_147 : decode cX7_deed 147 = .ok (.lload 11, 2) := by decide +kernel
theorem dX7_deed_149 : decode cX7_deed 149 = .ok (.lmul, 1) := by decide +kernel
theorem dX7_deed_150 : decode cX7_deed 150 = .ok (.lload 7, 2) := by decide +kernel
theorem dX7_deed_152 : decode cX7_deed 152 = .ok (.lload 9, 2) := by decide +kernel
theorem dX7_deed_154 : decode cX7_deed 154 = .ok (.lmul, 1) := by decide +kernel
theorem dX7_deed_155 : decode cX7_deed 155 = .ok (.ladd, 1) := by decide +kernel
theorem dX7_deed_156 : decode cX7_deed 156 = .ok (.aload_n 0, 1) := by decide +kernel
theorem dX7_deed_157 : decode cX7_deed 157 = .ok (.getfield 7, 3) := by decide +kernel
theorem dX7_deed_160 : decode cX7_deed 160 = .ok (.iconst 0, 1) := by decide +kernel
theorem dX7_deed_161 : decode cX7_deed 161 = .ok (.iaload, 1) := by decide +kernel
theorem dX7_deed_162 : decode cX7_deed 162 = .ok (.i2l, 1) := by decide +kernel
theorem dX7_deed_163 : decode cX7_deed 163 = .ok (.lload 7, 2) := by decide +kernel
theorem dX7_deed_165 : decode cX7_deed 165 = .ok (.lmul, 1) := by decide +kernel
theorem dX7_deed_166 : decode cX7_deed 166 = .ok (.lload 11, 2) := by decide +kernel
theorem dX7_deed_168 : decode cX7_deed 168 = .ok (.lmul, 1) := by decide +kernel
theorem dX7_deed_169 : decode cX7_deed 169 = .ok (.ladd, 1) := by decide +kernel
theorem dX7_deed_170 : decode cX7_deed 170 = .ok (.invokevirtual 174, 3) := by decide +kernel
theorem dX7_deed_173 : decode cX7_deed 173 = .ok (.ireturn, 1) := by decide +kernel
theorem dX7_deed_174 : decode cX7_deed 174 = .ok (.aload_n 0, 1) := by decide +kernel
theorem dX7_deed_175 : decode cX7_deed 175 = .ok (.iload_n 1, 1) := by decide +kernel
theorem dX7_deed_176 : decode cX7_deed 176 = .ok (.lload 7, 2) := by decide +kernel
theorem dX7_deed_178 : decode cX7_deed 178 = .ok (.aload_n 0, 1) := by decide +kernel
theorem dX7_deed_179 : decode cX7_deed 179 = .ok (.getfield 7, 3) := by decide +kernel
theorem dX7_deed_182 : decode cX7_deed 182 = .ok (.iconst 1, 1) := by decide +kernel
theorem dX7_deed_183 : decode cX7_deed 183 = .ok (.iaload, 1) := by decide +kernel
theorem dX7_deed_184 : decode cX7_deed 184 = .ok (.i2l, 1) := by decide +kernel
theorem dX7_deed_185 : decode cX7_deed 185 = .ok (.lmul, 1) := by decide +kernel
theorem dX7_deed_186 : decode cX7_deed 186 = .ok (.lload 5, 2) := by decide +kernel
theorem dX7_deed_188 : decode cX7_deed 188 = .ok (.lload 7, 2) := by decide +kernel
theorem dX7_deed_190 : decode cX7_deed 190 = .ok (.aload_n 0, 1) := by decide +kernel
theorem dX7_deed_191 : decode cX7_deed 191 = .ok (.getfield 7, 3) := by decide +kernel
theorem dX7_deed_194 : decode cX7_deed 194 = .ok (.iconst 0, 1) := by decide +kernel
theorem dX7_deed_195 : decode cX7_deed 195 = .ok (.iaload, 1) := by decide +kernel
theorem dX7_deed_196 : decode cX7_deed 196 = .ok (.i2l, 1) := by decide +kernel
theorem dX7_deed_197 : decode cX7_deed 197 = .ok (.lmul, 1) := by decide +kernel
theorem dX7_deed_198 : decode cX7_deed 198 = .ok (.ladd, 1) := by decide +kernel
theorem dX7_deed_199 : decode cX7_deed 199 = .ok (.invokevirtual 174, 3) := by decide +kernel
theorem dX7_deed_202 : decode cX7_deed 202 = .ok (.ireturn, 1) := by decide +kernel
theorem dX7_deed_203 : decode cX7_deed 203 = .ok (.ldc 156, 2) := by decide +kernel
theorem dX7_deed_205 : decode cX7_deed 205 = .ok (.ireturn, 1) := by decide +kernel
set_option maxRecDepth 20000 in
theorem ggX7_drift_X7_isShelf : GoodIn wsX7_drift wsX7_isShelf := goodIn_r _ [11, 12, 13, 14, 10, 15] (by decide +kernel) (by decide +kernel)
set_option maxRecDepth 20000 in
theorem gX7_drift_X7_isShelf : GoodIn wsX7_drift (va_wsS RX7 160 yX7_isShelf wsX7_isShelf) := goodIn_app (goodIn_of _ (by decide +kernel)) ggX7_drift_X7_isShelf
set_option maxRecDepth 20000 in
theorem ggX7_drift_X7_in : GoodIn wsX7_drift wsX7_in := goodIn_r _ [15] (by decide +kernel) (by decide +kernel)
set_option maxRecDepth 20000 in
theorem gX7_drift_X7_in : GoodIn wsX7_drift (va_wsS RX7 131 yX7_in wsX7_in) := goodIn_app (goodIn_of _ (by decide +kernel)) ggX7_drift_X7_in
set_option maxRecDepth 20000 in
theorem ggX7_drift_X7_signOf : GoodIn wsX7_drift wsX7_signOf := goodIn_r _ [19, 20, 21, 22, 23, 10, 24, 25, 26, 27, 28, 29, 47, 48, 49, 50, 51, 52, 53, 54, 55, 56, 57, 58, 59, 60, 61, 62, 63, 64, 65] (by decide +kernel) (by decide +kernel)
set_option maxRecDepth 20000 in
theorem gX7_drift_X7_signOf : GoodIn wsX7_drift (wsV RX7 68 RX7 yX7_signOf wsX7_signOf) := goodIn_app (goodIn_of _ (by decide +kernel)) ggX7_drift_X7_signOf
set_option maxRecDepth 20000 in
theorem ggX7_drift_X7_set : GoodIn wsX7_drift wsX7_set := goodIn_r _ [33, 21, 34, 35, 36, 10, 37, 38, 39, 40, 41, 42, 16, 17, 18, 19, 20, 22, 23, 24, 25, 26, 27, 28, 29, 47, 48, 49, 50, 51, 52, 53, 54, 55, 56, 57, 58, 59, 60, 61, 62, 63, 64, 65] (by decide +kernel) (by decide +kernel)
set_option maxRecDepth 20000 in
theorem gX7_drift_X7_set : GoodIn wsX7_drift (wsV RX7 164 RX7 yX7_set wsX7_set) := goodIn_app (goodIn_of _ (by decide +kernel)) ggX7_drift_X7_set
set_option maxRecDepth 20000 in
theorem ggX7_drift_X7_mOf : GoodIn wsX7_drift wsX7_mOf := goodIn_r _ [46, 21, 47, 48, 49, 50, 51, 52, 53, 54, 55, 56, 57, 58, 59, 60, 61, 62, 63, 64, 65] (by decide +kernel) (by decide +kernel)
set_option maxRecDepth 20000 in
theorem gX7_drift_X7_mOf : GoodIn wsX7_drift (wsV RX7 168 RX7 yX7_mOf wsX7_mOf) := goodIn_app (goodIn_of _ (by decide +kernel)) ggX7_drift_X7_mOf
theorem dX7_drift_0 : decode cX7_drift 0 = .ok (.iload_n 1, 1) := by decide +kernel
theorem dX7_drift_1 : decode cX7_drift 1 = .ok (.invokestatic 160, 3) := by decide +kernel
theorem dX7_drift_4 : decode cX7_drift 4 = .ok (.ifCond .ne 6, 3) := by decide +kernel
theorem dX7_drift_7 : decode cX7_drift 7 = .ok (.ldc 163, 2) := by decide +kernel
theorem dX7_drift_9 : decode cX7_drift 9 = .ok (.ireturn, 1) := by decide +kernel
theorem dX7_drift_10 : decode cX7_drift 10 = .ok (.iload_n 2, 1) := by decide +kernel
theorem dX7_drift_11 : decode cX7_drift 11 = .ok (.i2l, 1) := by decide +kernel
theorem dX7_drift_12 : decode cX7_drift 12 = .ok (.lconst 1, 1) := by decide +kernel
theorem dX7_drift_13 : decode cX7_drift 13 = .ok (.ldc2_w 129, 3) := by decide +kernel
theorem dX7_drift_16 : decode cX7_drift 16 = .ok (.invokestatic 131, 3) := by decide +kernel
theorem dX7_drift_19 : decode cX7_drift 19 = .ok (.ifCond .ne 6, 3) := by decide +kernel
theorem dX7_drift_22 : decode cX7_drift 22 = .ok (.ldc 156, 2) := by decide +kernel
theorem dX7_drift_24 : decode cX7_drift 24 = .ok (.ireturn, 1) := by decide +kernel
theorem dX7_drift_25 : decode cX7_drift 25 = .ok (.iload_n 2, 1) := by decide +kernel
theorem dX7_drift_26 : decode cX7_drift 26 = .ok (.i2l, 1) := by decide +kernel
theorem dX7_drift_27 : decode cX7_drift 27 = .ok (.ldc2_w 177, 3) := by decide +kernel
theorem dX7_drift_30 : decode cX7_drift 30 = .ok (.lmul, 1) := by decide +kernel
theorem dX7_drift_31 : decode cX7_drift 31 = .ok (.ldc2_w 179, 3) := by decide +kernel
theorem dX7_drift_34 : decode cX7_drift 34 = .ok (.lrem, 1) := by decide +kernel
theorem dX7_drift_35 : decode cX7_drift 35 = .ok (.lstore_n 3, 1) := by decide +kernel
theorem dX7_drift_36 : decode cX7_drift 36 = .ok (.lload_n 3, 1) := by decide +kernel
theorem dX7_drift_37 : decode cX7_drift 37 = .ok (.ldc2_w 181, 3) := by decide +kernel
theorem dX7_drift_40 : decode cX7_drift 40 = .ok (.lrem, 1) := by decide +kernel
theorem dX7_drift_41 : decode cX7_drift 41 = .ok (.ldc2_w 183, 3) := by decide +kernel
theorem dX7_drift_44 : decode cX7_drift 44 = .ok (.lsub, 1) := by decide +kernel
theorem dX7_drift_45 : decode cX7_drift 45 = .ok (.lstore 5, 2) := by decide +kernel
theorem dX7_drift_47 : decode cX7_drift 47 = .ok (.lload_n 3, 1) := by decide +kernel
theorem dX7_drift_48 : decode cX7_drift 48 = .ok (.ldc2_w 177, 3) := by decide +kernel
theorem dX7_drift_51 : decode cX7_drift 51 = .ok (.lmul, 1) := by decide +kernel
theorem dX7_drift_52 : decode cX7_drift 52 = .ok (.ldc2_w 179, 3) := by decide +kernel
theorem dX7_drift_55 : decode cX7_drift 55 = .ok (.lrem, 1) := by decide +kernel
theorem dX7_drift_56 : decode cX7_drift 56 = .ok (.lstore_n 3, 1) := by decide +kernel
theorem dX7_drift_57 : decode cX7_drift 57 = .ok (.lload_n 3, 1) := by decide +kernel
theorem dX7_drift_58 : decode cX7_drift 58 = .ok (.ldc2_w 181, 3) := by decide +kernel
theorem dX7_drift_61 : decode cX7_drift 61 = .ok (.lrem, 1) := by decide +kernel
theorem dX7_drift_62 : decode cX7_drift 62 = .ok (.ldc2_w 183, 3) := by decide +kernel
theorem dX7_drift_65 : decode cX7_drift 65 = .ok (.lsub, 1) := by decide +kernel
theorem dX7_drift_66 : decode cX7_drift 66 = .ok (.lstore 7, 2) := by decide +kernel
theorem dX7_drift_68 : decode cX7_drift 68 = .ok (.aload_n 0, 1) := by decide +kernel
theorem dX7_drift_69 : decode cX7_drift 69 = .ok (.lload 5, 2) := by decide +kernel
theorem dX7_drift_71 : decode cX7_drift 71 = .ok (.lload 7, 2) := by decide +kernel
theorem dX7_drift_73 : decode cX7_drift 73 = .ok (.invokevirtual 68, 3) := by decide +kernel
theorem dX7_drift_76 : decode cX7_drift 76 = .ok (.ifCond .ge 7, 3) := by decide +kernel
theorem dX7_drift_79 : decode cX7_drift 79 = .ok (.iconst 1, 1) := by decide +kernel
theorem dX7_drift_80 : decode cX7_drift 80 = .ok (.goto 4, 3) := by decide +kernel
theorem dX7_drift_83 : decode cX7_drift 83 = .ok (.iconst 0, 1) := by decide +kernel
theorem dX7_drift_84 : decode cX7_drift 84 = .ok (.istore 9, 2) := by decide +kernel
theorem dX7_drift_86 : decode cX7_drift 86 = .ok (.aload_n 0, 1) := by decide +kernel
theorem dX7_drift_87 : decode cX7_drift 87 = .ok (.iload_n 1, 1) := by decide +kernel
theorem dX7_drift_88 : decode cX7_drift 88 = .ok (.iload 9, 2) := by decide +kernel
theorem dX7_drift_90 : decode cX7_drift 90 = .ok (.ifCond .eq 9, 3) := by decide +kernel
theorem dX7_drift_93 : decode cX7_drift 93 = .ok (.lload 5, 2) := by decide +kernel
theorem dX7_drift_95 : decode cX7_drift 95 = .ok (.lneg, 1) := by decide +kernel
theorem dX7_drift_96 : decode cX7_drift 96 = .ok (.goto 5, 3) := by decide +kernel
theorem dX7_drift_99 : decode cX7_drift 99 = .ok (.lload 5, 2) := by decide +kernel
theorem dX7_drift_101 : decode cX7_drift 101 = .ok (.iload 9, 2) := by decide +kernel
theorem dX7_drift_103 : decode cX7_drift 103 = .ok (.ifCond .eq 9, 3) := by decide +kernel
theorem dX7_drift_106 : decode cX7_drift 106 = .ok (.lload 7, 2) := by decide +kernel
theorem dX7_drift_108 : decode cX7_drift 108 = .ok (.lneg, 1) := by decide +kernel
theorem dX7_drift_109 : decode cX7_drift 109 = .ok (.goto 5, 3) := by decide +kernel
theorem dX7_drift_112 : decode cX7_drift 112 = .ok (.lload 7, 2) := by decide +kernel
theorem dX7_drift_114 : decode cX7_drift 114 = .ok (.invokevirtual 164, 3) := by decide +kernel
theorem dX7_drift_117 : decode cX7_drift 117 = .ok (.istore 10, 2) := by decide +kernel
theorem dX7_drift_119 : decode cX7_drift 119 = .ok (.iload 10, 2) := by decide +kernel
theorem dX7_drift_121 : decode cX7_drift 121 = .ok (.ifCond .ge 7, 3) := by decide +kernel
theorem dX7_drift_124 : decode cX7_drift 124 = .ok (.iconst (-1), 1) := by decide +kernel
theorem dX7_drift_125 : decode cX7_drift 125 = .ok (.goto 12, 3) := by decide +kernel
theorem dX7_drift_128 : decode cX7_drift 128 = .ok (.aload_n 0, 1) := by decide +kernel
theorem dX7_drift_129 : decode cX7_drift 129 = .ok (.iload_n 1, 1) := by decide +kernel
theorem dX7_drift_130 : decode cX7_drift 130 = .ok (.invokevirtual 168, 3) := by decide +kernel
theorem dX7_drift_133 : decode cX7_drift 133 = .ok (.sipush 2000, 3) := by decide +kernel
theorem dX7_drift_136 : decode cX7_drift 136 = .ok (.iadd, 1) := by decide +kernel
theorem dX7_drift_137 : decode cX7_drift 137 = .ok (.ireturn, 1) := by decide +kernel
set_option maxRecDepth 20000 in
theorem ggX7_undo_X7_copyRow : GoodIn wsX7_undo wsX7_copyRow := goodIn_r _ [7, 8, 9, 10, 11, 12, 13, 14, 15, 16, 17, 18, 19, 20, 21, 22, 23, 24, 25, 26, 27] (by decide +kernel) (by decide +kernel)
set_option maxRecDepth 20000 in
theorem gX7_undo_X7_copyRow : GoodIn wsX7_undo (wsV RX7 38 RX7 yX7_copyRow wsX7_copyRow) := goodIn_app (goodIn_of _ (by decide +kernel)) ggX7_undo_X7_copyRow
theorem dX7_undo_0 : decode cX7_undo 0 = .ok (.aload_n 0, 1) := by decide +kernel
theorem dX7_undo_1 : decode cX7_undo 1 = .ok (.getfield 42, 3) := by decide +kernel
theorem dX7_undo_4 : decode cX7_undo 4 = .ok (.ifCond .ne 6, 3) := by decide +kernel
theorem dX7_undo_7 : decode cX7_undo 7 = .ok (.ldc 140, 2) := by decide +kernel
theorem dX7_undo_9 : decode cX7_undo 9 = .ok (.ireturn, 1) := by decide +kernel
theorem dX7_undo_10 : decode cX7_undo 10 = .ok (.iconst 0, 1) := by decide +kernel
theorem dX7_undo_11 : decode cX7_undo 11 = .ok (.istore_n 1, 1) := by decide +kernel
theorem dX7_undo_12 : decode cX7_undo 12 = .ok (.iload_n 1, 1) := by decide +kernel
theorem dX7_undo_13 : decode cX7_undo 13 = .ok (.bipush 8, 2) := by decide +kernel
theorem dX7_undo_15 : decode cX7_undo 15 = .ok (.if_icmp .ge 23, 3) := by decide +kernel
theorem dX7_undo_18 : decode cX7_undo 18 = .ok (.aload_n 0, 1) := by decide +kernel
theorem dX7_undo_19 : decode cX7_undo 19 = .ok (.bipush 10, 2) := by decide +kernel
theorem dX7_undo_21 : decode cX7_undo 21 = .ok (.iload_n 1, 1) := by decide +kernel
theorem dX7_undo_22 : decode cX7_undo 22 = .ok (.iconst 1, 1) := by decide +kernel
theorem dX7_undo_23 : decode cX7_undo 23 = .ok (.iadd, 1) := by decide +kernel
theorem dX7_undo_24 : decode cX7_undo 24 = .ok (.imul, 1) := by decide +kernel
theorem dX7_undo_25 : decode cX7_undo 25 = .ok (.bipush 10, 2) := by decide +kernel
theorem dX7_undo_27 : decode cX7_undo 27 = .ok (.iload_n 1, 1) := by decide +kernel
theorem dX7_undo_28 : decode cX7_undo 28 = .ok (.imul, 1) := by decide +kernel
theorem dX7_undo_29 : decode cX7_undo 29 = .ok (.invokevirtual 38, 3) := by decide +kernel
theorem dX7_undo_32 : decode cX7_undo 32 = .ok (.iinc 1 1, 3) := by decide +kernel
theorem dX7_undo_35 : decode cX7_undo 35 = .ok (.goto (-23), 3) := by decide +kernel
theorem dX7_undo_38 : decode cX7_undo 38 = .ok (.aload_n 0, 1) := by decide +kernel
theorem dX7_undo_39 : decode cX7_undo 39 = .ok (.dup, 1) := by decide +kernel
theorem dX7_undo_40 : decode cX7_undo 40 = .ok (.getfield 42, 3) := by decide +kernel
theorem dX7_undo_43 : decode cX7_undo 43 = .ok (.iconst 1, 1) := by decide +kernel
theorem dX7_undo_44 : decode cX7_undo 44 = .ok (.isub, 1) := by decide +kernel
theorem dX7_undo_45 : decode cX7_undo 45 = .ok (.putfield 42, 3) := by decide +kernel
theorem dX7_undo_48 : decode cX7_undo 48 = .ok (.aload_n 0, 1) := by decide +kernel
theorem dX7_undo_49 : decode cX7_undo 49 = .ok (.getfield 42, 3) := by decide +kernel
theorem dX7_undo_52 : decode cX7_undo 52 = .ok (.ireturn, 1) := by decide +kernel
set_option maxRecDepth 20000 in
theorem ggX7_well_X7_layRow : GoodIn wsX7_well wsX7_layRow := goodIn_r _ [5, 6, 7, 8, 26, 27, 28, 29, 30, 31, 32, 33, 34, 35, 36, 37, 38, 39, 40, 41, 42, 43, 44] (by decide +kernel) (by decide +kernel)
set_option maxRecDepth 20000 in
theorem gX7_well_X7_layRow : GoodIn wsX7_well (wsV RX7 110 RX7 yX7_layRow wsX7_layRow) := goodIn_app (goodIn_of _ (by decide +kernel)) ggX7_well_X7_layRow
set_option maxRecDepth 20000 in
theorem ggX7_well_X7_figures : GoodIn wsX7_well wsX7_figures := goodIn_r _ [12, 6, 7, 26, 27, 28, 29, 30, 31, 32, 33, 34, 35, 36, 37, 38, 39, 40, 41, 42, 43, 44] (by decide +kernel) (by decide +kernel)
set_option maxRecDepth 20000 in
theorem gX7_well_X7_figures : GoodIn wsX7_well (wsV RX7 113 RX7 yX7_figures wsX7_figures) := goodIn_app (goodIn_of _ (by decide +kernel)) ggX7_well_X7_figures
set_option maxRecDepth 20000 in
theorem ggX7_well_X7_isWell : GoodIn wsX7_well wsX7_isWell := goodIn_r _ [16, 17, 18, 19, 4, 20, 8, 21, 22, 23, 24, 25, 26, 27, 28, 29, 30, 31, 32, 33, 34, 35, 36, 37, 38, 39, 40, 41, 42, 43, 44] (by decide +kernel) (by decide +kernel)
set_option maxRecDepth 20000 in
theorem gX7_well_X7_isWell : GoodIn wsX7_well (wsV RX7 144 RX7 yX7_isWell wsX7_isWell) := goodIn_app (goodIn_of _ (by decide +kernel)) ggX7_well_X7_isWell
theorem dX7_well_0 : decode cX7_well 0 = .ok (.aload_n 0, 1) := by decide +kernel
theorem dX7_well_1 : decode cX7_well 1 = .ok (.invokevirtual 110, 3) := by decide +kernel
theorem dX7_well_4 : decode cX7_well 4 = .ok (.aload_n 0, 1) := by decide +kernel
theorem dX7_well_5 : decode cX7_well 5 = .ok (.aload_n 0, 1) := by decide +kernel
theorem dX7_well_6 : decode cX7_well 6 = .ok (.invokevirtual 113, 3) := by decide +kernel
theorem dX7_well_9 : decode cX7_well 9 = .ok (.invokevirtual 144, 3) := by decide +kernel
theorem dX7_well_12 : decode cX7_well 12 = .ok (.ifCond .eq 7, 3) := by decide +kernel
theorem dX7_well_15 : decode cX7_well 15 = .ok (.iconst 1, 1) := by decide +kernel
theorem dX7_well_16 : decode cX7_well 16 = .ok (.goto 4, 3) := by decide +kernel
theorem dX7_well_19 : decode cX7_well 19 = .ok (.iconst 0, 1) := by decide +kernel
theorem dX7_well_20 : decode cX7_well 20 = .ok (.ireturn, 1) := by decide +kernel
set_option maxRecDepth 20000 in
theorem ggX7_worth_X7_layWorth : GoodIn wsX7_worth wsX7_layWorth := goodIn_r _ [9, 2, 3, 10, 11, 12, 13, 14, 15, 16, 8, 17, 18, 19, 20, 21, 22, 23, 24, 25, 26, 27, 28, 29, 30, 31, 32, 33, 34, 35, 36, 37, 38, 39, 40, 41, 42, 43, 44, 45] (by decide +kernel) (by decide +kernel)
set_option maxRecDepth 20000 in
theorem gX7_worth_X7_layWorth : GoodIn wsX7_worth (wsV RX7 135 RX7 yX7_layWorth wsX7_layWorth) := goodIn_app (goodIn_of _ (by decide +kernel)) ggX7_worth_X7_layWorth
theorem dX7_worth_0 : decode cX7_worth 0 = .ok (.aload_n 0, 1) := by decide +kernel
theorem dX7_worth_1 : decode cX7_worth 1 = .ok (.invokevirtual 135, 3) := by decide +kernel
theorem dX7_worth_4 : decode cX7_worth 4 = .ok (.ifCond .ne 6, 3) := by decide +kernel
theorem dX7_worth_7 : decode cX7_worth 7 = .ok (.ldc 139, 2) := by decide +kernel
theorem dX7_worth_9 : decode cX7_worth 9 = .ok (.ireturn, 1) := by decide +kernel
theorem dX7_worth_10 : decode cX7_worth 10 = .ok (.iload_n 1, 1) := by decide +kernel
theorem dX7_worth_11 : decode cX7_worth 11 = .ok (.ifCond .ne 10, 3) := by decide +kernel
theorem dX7_worth_14 : decode cX7_worth 14 = .ok (.aload_n 0, 1) := by decide +kernel
theorem dX7_worth_15 : decode cX7_worth 15 = .ok (.getfield 120, 3) := by decide +kernel
theorem dX7_worth_18 : decode cX7_worth 18 = .ok (.goto 7, 3) := by decide +kernel
theorem dX7_worth_21 : decode cX7_worth 21 = .ok (.aload_n 0, 1) := by decide +kernel
theorem dX7_worth_22 : decode cX7_worth 22 = .ok (.getfield 124, 3) := by decide +kernel
theorem dX7_worth_25 : decode cX7_worth 25 = .ok (.l2i, 1) := by decide +kernel
theorem dX7_worth_26 : decode cX7_worth 26 = .ok (.ldc 185, 2) := by decide +kernel
theorem dX7_worth_28 : decode cX7_worth 28 = .ok (.iadd, 1) := by decide +kernel
theorem dX7_worth_29 : decode cX7_worth 29 = .ok (.ireturn, 1) := by decide +kernel
set_option maxRecDepth 20000 in
theorem ggX7_told_X7_top : GoodIn wsX7_told wsX7_top := goodIn_r _ [9, 1, 120, 121, 122, 123, 124, 125, 126, 127, 128, 129, 130, 131, 132, 133, 134, 135, 136, 137, 138] (by decide +kernel) (by decide +kernel)
set_option maxRecDepth 20000 in
theorem gX7_told_X7_top : GoodIn wsX7_told (wsV RX7 157 RX7 yX7_top wsX7_top) := goodIn_app (goodIn_of _ (by decide +kernel)) ggX7_told_X7_top
set_option maxRecDepth 20000 in
theorem ggX7_told_X7_wholeOf : GoodIn wsX7_told wsX7_wholeOf := goodIn_r _ [13, 14, 1, 15, 16, 17, 8, 18, 19, 20, 21, 22, 23, 24, 25, 120, 121, 122, 123, 124, 125, 126, 127, 128, 129, 130, 131, 132, 133, 134, 135, 136, 137, 138] (by decide +kernel) (by decide +kernel)
set_option maxRecDepth 20000 in
theorem gX7_told_X7_wholeOf : GoodIn wsX7_told (wsV RX7 88 RX7 yX7_wholeOf wsX7_wholeOf) := goodIn_app (goodIn_of _ (by decide +kernel)) ggX7_told_X7_wholeOf
set_option maxRecDepth 20000 in
theorem ggX7_told_X7_well : GoodIn wsX7_told wsX7_well := goodIn_r _ [29, 30, 31, 32, 8, 33, 2, 34, 35, 36, 37, 38, 39, 40, 41, 42, 43, 44, 45, 46, 47, 48, 49, 50, 51, 1, 120, 121, 122, 123, 124, 125, 126, 127, 128, 129, 130, 131, 132, 133, 134, 135, 136, 137, 138] (by decide +kernel) (by decide +kernel)
set_option maxRecDepth 20000 in
theorem gX7_told_X7_well : GoodIn wsX7_told (wsV RX7 186 RX7 yX7_well wsX7_well) := goodIn_app (goodIn_of _ (by decide +kernel)) ggX7_told_X7_well
set_option maxRecDepth 20000 in
theorem ggX7_told_X7_badly : GoodIn wsX7_told wsX7_badly := goodIn_r _ [55, 30, 31, 32, 8, 33, 2, 34, 35, 36, 37, 38, 39, 56, 57, 58, 59, 44, 45, 46, 47, 48, 49, 50, 51, 1, 120, 121, 122, 123, 124, 125, 126, 127, 128, 129, 130, 131, 132, 133, 134, 135, 136, 137, 138] (by decide +kernel) (by decide +kernel)
set_option maxRecDepth 20000 in
theorem gX7_told_X7_badly : GoodIn wsX7_told (wsV RX7 189 RX7 yX7_badly wsX7_badly) := goodIn_app (goodIn_of _ (by decide +kernel)) ggX7_told_X7_badly
set_option maxRecDepth 20000 in
theorem ggX7_told_X7_shiftNow : GoodIn wsX7_told wsX7_shiftNow := goodIn_r _ [63, 2, 56, 57, 58, 8, 59, 34, 120, 121, 122, 123, 124, 125, 126, 127, 128, 129, 130, 131, 132, 133, 134, 135, 136, 137, 138] (by decide +kernel) (by decide +kernel)
set_option maxRecDepth 20000 in
theorem gX7_told_X7_shiftNow : GoodIn wsX7_told (wsV RX7 192 RX7 yX7_shiftNow wsX7_shiftNow) := goodIn_app (goodIn_of _ (by decide +kernel)) ggX7_told_X7_shiftNow
set_option maxRecDepth 20000 in
theorem ggX7_told_X7_worth : GoodIn wsX7_told wsX7_worth := goodIn_r _ [67, 68, 69, 70, 71, 72, 73, 74, 8, 75, 1, 35, 76, 77, 30, 31, 32, 33, 2, 34, 36, 37, 38, 39, 78, 79, 80, 120, 121, 122, 123, 124, 125, 126, 127, 128, 129, 130, 131, 132, 133, 134, 135, 136, 137, 138] (by decide +kernel) (by decide +kernel)
set_option maxRecDepth 20000 in
theorem gX7_told_X7_worth : GoodIn wsX7_told (wsV RX7 195 RX7 yX7_worth wsX7_worth) := goodIn_app (goodIn_of _ (by decide +kernel)) ggX7_told_X7_worth
set_option maxRecDepth 20000 in
theorem ggX7_told_X7_normalMany : GoodIn wsX7_told wsX7_normalMany := goodIn_r _ [84, 68, 69, 70, 85, 86, 87, 72, 73, 74, 8, 75, 1, 35, 76, 77, 30, 31, 32, 33, 2, 34, 36, 37, 38, 39, 78, 79, 80, 88, 89, 90, 91, 14, 92, 93, 94, 15, 16, 17, 18, 19, 95, 96, 97, 98, 99, 100, 101, 102, 103, 104, 105, 106, 107, 108, 109, 110, 111, 112, 113, 114, 115, 116, 117, 118, 119, 10, 11, 12, 13, 20, 21, 22, 23, 24, 25, 120, 121, 122, 123, 124, 125, 126, 127, 128, 129, 130, 131, 132, 133, 134, 135, 136, 137, 138] (by decide +kernel) (by decide +kernel)
set_option maxRecDepth 20000 in
theorem gX7_told_X7_normalMany : GoodIn wsX7_told (wsV RX7 198 RX7 yX7_normalMany wsX7_normalMany) := goodIn_app (goodIn_of _ (by decide +kernel)) ggX7_told_X7_normalMany
theorem dX7_told_0 : decode cX7_told 0 = .ok (.iload_n 1, 1) := by decide +kernel
theorem dX7_told_1 : decode cX7_told 1 = .ok (.tableswitch 132 0 11 #[63, 70, 80, 85, 93, 98, 103, 108, 113, 113, 122, 127], 63) := by decide +kernel
theorem dX7_told_64 : decode cX7_told 64 = .ok (.aload_n 0, 1) := by decide +kernel
theorem dX7_told_65 : decode cX7_told 65 = .ok (.getfield 7, 3) := by decide +kernel
theorem dX7_told_68 : decode cX7_told 68 = .ok (.iconst 0, 1) := by decide +kernel
theorem dX7_told_69 : decode cX7_told 69 = .ok (.iaload, 1) := by decide +kernel
theorem dX7_told_70 : decode cX7_told 70 = .ok (.ireturn, 1) := by decide +kernel
theorem dX7_told_71 : decode cX7_told 71 = .ok (.aload_n 0, 1) := by decide +kernel
theorem dX7_told_72 : decode cX7_told 72 = .ok (.getfield 7, 3) := by decide +kernel
theorem dX7_told_75 : decode cX7_told 75 = .ok (.iconst 1, 1) := by decide +kernel
theorem dX7_told_76 : decode cX7_told 76 = .ok (.iaload, 1) := by decide +kernel
theorem dX7_told_77 : decode cX7_told 77 = .ok (.bipush 10, 2) := by decide +kernel
theorem dX7_told_79 : decode cX7_told 79 = .ok (.iadd, 1) := by decide +kernel
theorem dX7_told_80 : decode cX7_told 80 = .ok (.ireturn, 1) := by decide +kernel
theorem dX7_told_81 : decode cX7_told 81 = .ok (.aload_n 0, 1) := by decide +kernel
theorem dX7_told_82 : decode cX7_told 82 = .ok (.invokevirtual 157, 3) := by decide +kernel
theorem dX7_told_85 : decode cX7_told 85 = .ok (.ireturn, 1) := by decide +kernel
theorem dX7_told_86 : decode cX7_told 86 = .ok (.aload_n 0, 1) := by decide +kernel
theorem dX7_told_87 : decode cX7_told 87 = .ok (.lconst 0, 1) := by decide +kernel
theorem dX7_told_88 : decode cX7_told 88 = .ok (.lconst 1, 1) := by decide +kernel
theorem dX7_told_89 : decode cX7_told 89 = .ok (.invokevirtual 88, 3) := by decide +kernel
theorem dX7_told_92 : decode cX7_told 92 = .ok (.l2i, 1) := by decide +kernel
theorem dX7_told_93 : decode cX7_told 93 = .ok (.ireturn, 1) := by decide +kernel
theorem dX7_told_94 : decode cX7_told 94 = .ok (.aload_n 0, 1) := by decide +kernel
theorem dX7_told_95 : decode cX7_told 95 = .ok (.getfield 99, 3) := by decide +kernel
theorem dX7_told_98 : decode cX7_told 98 = .ok (.ireturn, 1) := by decide +kernel
theorem dX7_told_99 : decode cX7_told 99 = .ok (.aload_n 0, 1) := by decide +kernel
theorem dX7_told_100 : decode cX7_told 100 = .ok (.invokevirtual 186, 3) := by decide +kernel
theorem dX7_told_103 : decode cX7_told 103 = .ok (.ireturn, 1) := by decide +kernel
theorem dX7_told_104 : decode cX7_told 104 = .ok (.aload_n 0, 1) := by decide +kernel
theorem dX7_told_105 : decode cX7_told 105 = .ok (.invokevirtual 189, 3) := by decide +kernel
theorem dX7_told_108 : decode cX7_told 108 = .ok (.ireturn, 1) := by decide +kernel
theorem dX7_told_109 : decode cX7_told 109 = .ok (.aload_n 0, 1) := by decide +kernel
theorem dX7_told_110 : decode cX7_told 110 = .ok (.invokevirtual 192, 3) := by decide +kernel
theorem dX7_told_113 : decode cX7_told 113 = .ok (.ireturn, 1) := by decide +kernel
theorem dX7_told_114 : decode cX7_told 114 = .ok (.aload_n 0, 1) := by decide +kernel
theorem dX7_told_115 : decode cX7_told 115 = .ok (.iload_n 1, 1) := by decide +kernel
theorem dX7_told_116 : decode cX7_told 116 = .ok (.bipush 8, 2) := by decide +kernel
theorem dX7_told_118 : decode cX7_told 118 = .ok (.isub, 1) := by decide +kernel
theorem dX7_told_119 : decode cX7_told 119 = .ok (.invokevirtual 195, 3) := by decide +kernel
theorem dX7_told_122 : decode cX7_told 122 = .ok (.ireturn, 1) := by decide +kernel
theorem dX7_told_123 : decode cX7_told 123 = .ok (.aload_n 0, 1) := by decide +kernel
theorem dX7_told_124 : decode cX7_told 124 = .ok (.invokevirtual 198, 3) := by decide +kernel
theorem dX7_told_127 : decode cX7_told 127 = .ok (.ireturn, 1) := by decide +kernel
theorem dX7_told_128 : decode cX7_told 128 = .ok (.aload_n 0, 1) := by decide +kernel
theorem dX7_told_129 : decode cX7_told 129 = .ok (.getfield 42, 3) := by decide +kernel
theorem dX7_told_132 : decode cX7_told 132 = .ok (.ireturn, 1) := by decide +kernel
theorem dX7_told_133 : decode cX7_told 133 = .ok (.ldc 156, 2) := by decide +kernel
theorem dX7_told_135 : decode cX7_told 135 = .ok (.ireturn, 1) := by decide +kernel
set_option maxRecDepth 20000 in
theorem ggX7_writtenOf_X7_mOf : GoodIn wsX7_writtenOf wsX7_mOf := goodIn_r _ [11, 12, 62, 63, 64, 65, 66, 67, 68, 69, 70, 71, 72, 73, 74, 75, 76, 77, 78, 79, 80] (by decide +kernel) (by decide +kernel)
set_option maxRecDepth 20000 in
theorem gX7_writtenOf_X7_mOf : GoodIn wsX7_writtenOf (wsV RX7 168 RX7 yX7_mOf wsX7_mOf) := goodIn_app (goodIn_of _ (by decide +kernel)) ggX7_writtenOf_X7_mOf
set_option maxRecDepth 20000 in
theorem ggX7_writtenOf_X7_nOf : GoodIn wsX7_writtenOf wsX7_nOf := goodIn_r _ [16, 12, 62, 63, 64, 65, 66, 67, 68, 69, 70, 71, 72, 73, 74, 75, 76, 77, 78, 79, 80] (by decide +kernel) (by decide +kernel)
set_option maxRecDepth 20000 in
theorem gX7_writtenOf_X7_nOf : GoodIn wsX7_writtenOf (wsV RX7 171 RX7 yX7_nOf wsX7_nOf) := goodIn_app (goodIn_of _ (by decide +kernel)) ggX7_writtenOf_X7_nOf
set_option maxRecDepth 20000 in
theorem ggX7_writtenOf_X7_signOf : GoodIn wsX7_writtenOf wsX7_signOf := goodIn_r _ [20, 21, 12, 22, 23, 10, 24, 25, 26, 27, 28, 29, 62, 63, 64, 65, 66, 67, 68, 69, 70, 71, 72, 73, 74, 75, 76, 77, 78, 79, 80] (by decide +kernel) (by decide +kernel)
set_option maxRecDepth 20000 in
theorem gX7_writtenOf_X7_signOf : GoodIn wsX7_writtenOf (wsV RX7 68 RX7 yX7_signOf wsX7_signOf) := goodIn_app (goodIn_of _ (by decide +kernel)) ggX7_writtenOf_X7_signOf
set_option maxRecDepth 20000 in
theorem ggX7_writtenOf_X7_layWritten : GoodIn wsX7_writtenOf wsX7_layWritten := goodIn_r _ [33, 2, 34, 35, 36, 37, 38, 39, 40, 41, 10, 42, 12, 17, 18, 19, 20, 21, 22, 23, 24, 25, 26, 27, 28, 29, 43, 44, 45, 46, 3, 4, 5, 6, 47, 48, 49, 50, 51, 52, 53, 54, 55, 56, 57, 58, 59, 60, 61, 62, 63, 64, 65, 66, 67, 68, 69, 70, 71, 72, 73, 74, 75, 76, 77, 78, 79, 80] (by decide +kernel) (by decide +kernel)
set_option maxRecDepth 20000 in
theorem gX7_writtenOf_X7_layWritten : GoodIn wsX7_writtenOf (wsV RX7 141 RX7 yX7_layWritten wsX7_layWritten) := goodIn_app (goodIn_of _ (by decide +kernel)) ggX7_writtenOf_X7_layWritten
theorem dX7_writtenOf_0 : decode cX7_writtenOf 0 = .ok (.aload_n 0, 1) := by decide +kernel
theorem dX7_writtenOf_1 : decode cX7_writtenOf 1 = .ok (.aload_n 0, 1) := by decide +kernel
theorem dX7_writtenOf_2 : decode cX7_writtenOf 2 = .ok (.iload_n 1, 1) := by decide +kernel
theorem dX7_writtenOf_3 : decode cX7_writtenOf 3 = .ok (.invokevirtual 168, 3) := by decide +kernel
theorem dX7_writtenOf_6 : decode cX7_writtenOf 6 = .ok (.i2l, 1) := by decide +kernel
theorem dX7_writtenOf_7 : decode cX7_writtenOf 7 = .ok (.aload_n 0, 1) := by decide +kernel
theorem dX7_writtenOf_8 : decode cX7_writtenOf 8 = .ok (.iload_n 1, 1) := by decide +kernel
theorem dX7_writtenOf_9 : decode cX7_writtenOf 9 = .ok (.invokevirtual 171, 3) := by decide +kernel
theorem dX7_writtenOf_12 : decode cX7_writtenOf 12 = .ok (.i2l, 1) := by decide +kernel
theorem dX7_writtenOf_13 : decode cX7_writtenOf 13 = .ok (.invokevirtual 68, 3) := by decide +kernel
theorem dX7_writtenOf_16 : decode cX7_writtenOf 16 = .ok (.ifCond .ge 6, 3) := by decide +kernel
theorem dX7_writtenOf_19 : decode cX7_writtenOf 19 = .ok (.ldc 140, 2) := by decide +kernel
theorem dX7_writtenOf_21 : decode cX7_writtenOf 21 = .ok (.ireturn, 1) := by decide +kernel
theorem dX7_writtenOf_22 : decode cX7_writtenOf 22 = .ok (.aload_n 0, 1) := by decide +kernel
theorem dX7_writtenOf_23 : decode cX7_writtenOf 23 = .ok (.aload_n 0, 1) := by decide +kernel
theorem dX7_writtenOf_24 : decode cX7_writtenOf 24 = .ok (.iload_n 1, 1) := by decide +kernel
theorem dX7_writtenOf_25 : decode cX7_writtenOf 25 = .ok (.invokevirtual 168, 3) := by decide +kernel
theorem dX7_writtenOf_28 : decode cX7_writtenOf 28 = .ok (.i2l, 1) := by decide +kernel
theorem dX7_writtenOf_29 : decode cX7_writtenOf 29 = .ok (.aload_n 0, 1) := by decide +kernel
theorem dX7_writtenOf_30 : decode cX7_writtenOf 30 = .ok (.iload_n 1, 1) := by decide +kernel
theorem dX7_writtenOf_31 : decode cX7_writtenOf 31 = .ok (.invokevirtual 171, 3) := by decide +kernel
theorem dX7_writtenOf_34 : decode cX7_writtenOf 34 = .ok (.i2l, 1) := by decide +kernel
theorem dX7_writtenOf_35 : decode cX7_writtenOf 35 = .ok (.invokevirtual 141, 3) := by decide +kernel
theorem dX7_writtenOf_38 : decode cX7_writtenOf 38 = .ok (.iload_n 2, 1) := by decide +kernel
theorem dX7_writtenOf_39 : decode cX7_writtenOf 39 = .ok (.tableswitch 63 3 6 #[29, 36, 41, 46], 29) := by decide +kernel
theorem dX7_writtenOf_68 : decode cX7_writtenOf 68 = .ok (.aload_n 0, 1) := by decide +kernel
theorem dX7_writtenOf_69 : decode cX7_writtenOf 69 = .ok (.getfield 65, 3) := by decide +kernel
theorem dX7_writtenOf_72 : decode cX7_writtenOf 72 = .ok (.iconst 1, 1) := by decide +kernel
theorem dX7_writtenOf_73 : decode cX7_writtenOf 73 = .ok (.iadd, 1) := by decide +kernel
theorem dX7_writtenOf_74 : decode cX7_writtenOf 74 = .ok (.ireturn, 1) := by decide +kernel
theorem dX7_writtenOf_75 : decode cX7_writtenOf 75 = .ok (.aload_n 0, 1) := by decide +kernel
theorem dX7_writtenOf_76 : decode cX7_writtenOf 76 = .ok (.getfield 78, 3) := by decide +kernel
theorem dX7_writtenOf_79 : decode cX7_writtenOf 79 = .ok (.ireturn, 1) := by decide +kernel
theorem dX7_writtenOf_80 : decode cX7_writtenOf 80 = .ok (.aload_n 0, 1) := by decide +kernel
theorem dX7_writtenOf_81 : decode cX7_writtenOf 81 = .ok (.getfield 81, 3) := by decide +kernel
theorem dX7_writtenOf_84 : decode cX7_writtenOf 84 = .ok (.ireturn, 1) := by decide +kernel
theorem dX7_writtenOf_85 : decode cX7_writtenOf 85 = .ok (.aload_n 0, 1) := by decide +kernel
theorem dX7_writtenOf_86 : decode cX7_writtenOf 86 = .ok (.getfield 81, 3) := by decide +kernel
theorem dX7_writtenOf_89 : decode cX7_writtenOf 89 = .ok (.iconst 1, 1) := by decide +kernel
theorem dX7_writtenOf_90 : decode cX7_writtenOf 90 = .ok (.if_icmp .ne 7, 3) := by decide +kernel
theorem dX7_writtenOf_93 : decode cX7_writtenOf 93 = .ok (.iconst (-1), 1) := by decide +kernel
theorem dX7_writtenOf_94 : decode cX7_writtenOf 94 = .ok (.goto 7, 3) := by decide +kernel
theorem dX7_writtenOf_97 : decode cX7_writtenOf 97 = .ok (.aload_n 0, 1) := by decide +kernel
theorem dX7_writtenOf_98 : decode cX7_writtenOf 98 = .ok (.getfield 72, 3) := by decide +kernel
theorem dX7_writtenOf_101 : decode cX7_writtenOf 101 = .ok (.ireturn, 1) := by decide +kernel
theorem dX7_writtenOf_102 : decode cX7_writtenOf 102 = .ok (.aload_n 0, 1) := by decide +kernel
theorem dX7_writtenOf_103 : decode cX7_writtenOf 103 = .ok (.getfield 81, 3) := by decide +kernel
theorem dX7_writtenOf_106 : decode cX7_writtenOf 106 = .ok (.iconst 1, 1) := by decide +kernel
theorem dX7_writtenOf_107 : decode cX7_writtenOf 107 = .ok (.if_icmp .ne 7, 3) := by decide +kernel
theorem dX7_writtenOf_110 : decode cX7_writtenOf 110 = .ok (.iconst (-1), 1) := by decide +kernel
theorem dX7_writtenOf_111 : decode cX7_writtenOf 111 = .ok (.goto 7, 3) := by decide +kernel
theorem dX7_writtenOf_114 : decode cX7_writtenOf 114 = .ok (.aload_n 0, 1) := by decide +kernel
theorem dX7_writtenOf_115 : decode cX7_writtenOf 115 = .ok (.getfield 75, 3) := by decide +kernel
theorem dX7_writtenOf_118 : decode cX7_writtenOf 118 = .ok (.ireturn, 1) := by decide +kernel
set_option maxRecDepth 20000 in
theorem ggX7_shelf_X7_isShelf : GoodIn wsX7_shelf wsX7_isShelf := goodIn_r _ [8, 2, 9, 10, 7, 11] (by decide +kernel) (by decide +kernel)
set_option maxRecDepth 20000 in
theorem gX7_shelf_X7_isShelf : GoodIn wsX7_shelf (va_wsS RX7 160 yX7_isShelf wsX7_isShelf) := goodIn_app (goodIn_of _ (by decide +kernel)) ggX7_shelf_X7_isShelf
set_option maxRecDepth 20000 in
theorem ggX7_shelf_X7_mOf : GoodIn wsX7_shelf wsX7_mOf := goodIn_r _ [15, 16, 76, 77, 78, 79, 80, 81, 82, 83, 84, 85, 86, 87, 88, 89, 90, 91, 92, 93, 94] (by decide +kernel) (by decide +kernel)
set_option maxRecDepth 20000 in
theorem gX7_shelf_X7_mOf : GoodIn wsX7_shelf (wsV RX7 168 RX7 yX7_mOf wsX7_mOf) := goodIn_app (goodIn_of _ (by decide +kernel)) ggX7_shelf_X7_mOf
set_option maxRecDepth 20000 in
theorem ggX7_shelf_X7_nOf : GoodIn wsX7_shelf wsX7_nOf := goodIn_r _ [20, 16, 76, 77, 78, 79, 80, 81, 82, 83, 84, 85, 86, 87, 88, 89, 90, 91, 92, 93, 94] (by decide +kernel) (by decide +kernel)
set_option maxRecDepth 20000 in
theorem gX7_shelf_X7_nOf : GoodIn wsX7_shelf (wsV RX7 171 RX7 yX7_nOf wsX7_nOf) := goodIn_app (goodIn_of _ (by decide +kernel)) ggX7_shelf_X7_nOf
set_option maxRecDepth 20000 in
theorem ggX7_shelf_X7_signOf : GoodIn wsX7_shelf wsX7_signOf := goodIn_r _ [24, 25, 16, 26, 27, 7, 28, 29, 30, 31, 32, 33, 76, 77, 78, 79, 80, 81, 82, 83, 84, 85, 86, 87, 88, 89, 90, 91, 92, 93, 94] (by decide +kernel) (by decide +kernel)
set_option maxRecDepth 20000 in
theorem gX7_shelf_X7_signOf : GoodIn wsX7_shelf (wsV RX7 68 RX7 yX7_signOf wsX7_signOf) := goodIn_app (goodIn_of _ (by decide +kernel)) ggX7_shelf_X7_signOf
set_option maxRecDepth 20000 in
theorem ggX7_shelf_X7_wholeOf : GoodIn wsX7_shelf wsX7_wholeOf := goodIn_r _ [37, 25, 16, 29, 30, 31, 7, 32, 33, 38, 39, 40, 41, 42, 43, 76, 77, 78, 79, 80, 81, 82, 83, 84, 85, 86, 87, 88, 89, 90, 91, 92, 93, 94] (by decide +kernel) (by decide +kernel)
set_option maxRecDepth 20000 in
theorem gX7_shelf_X7_wholeOf : GoodIn wsX7_shelf (wsV RX7 88 RX7 yX7_wholeOf wsX7_wholeOf) := goodIn_app (goodIn_of _ (by decide +kernel)) ggX7_shelf_X7_wholeOf
set_option maxRecDepth 20000 in
theorem ggX7_shelf_X7_in : GoodIn wsX7_shelf wsX7_in := goodIn_r _ [11] (by decide +kernel) (by decide +kernel)
set_option maxRecDepth 20000 in
theorem gX7_shelf_X7_in : GoodIn wsX7_shelf (va_wsS RX7 131 yX7_in wsX7_in) := goodIn_app (goodIn_of _ (by decide +kernel)) ggX7_shelf_X7_in
set_option maxRecDepth 20000 in
theorem ggX7_shelf_X7_writtenOf : GoodIn wsX7_shelf wsX7_writtenOf := goodIn_r _ [47, 48, 49, 50, 51, 52, 53, 12, 13, 14, 7, 15, 16, 17, 18, 19, 20, 21, 22, 23, 24, 25, 26, 27, 28, 29, 30, 31, 32, 33, 54, 55, 56, 57, 58, 59, 60, 61, 62, 63, 64, 65, 66, 67, 68, 69, 70, 71, 72, 73, 74, 75, 34, 35, 36, 37, 38, 39, 40, 41, 42, 43, 76, 77, 78, 79, 80, 81, 82, 83, 84, 85, 86, 87, 88, 89, 90, 91, 92, 93, 94] (by decide +kernel) (by decide +kernel)
set_option maxRecDepth 20000 in
theorem gX7_shelf_X7_writtenOf : GoodIn wsX7_shelf (wsV RX7 203 RX7 yX7_writtenOf wsX7_writtenOf) := goodIn_app (goodIn_of _ (by decide +kernel)) ggX7_shelf_X7_writtenOf
theorem dX7_shelf_0 : decode cX7_shelf 0 = .ok (.iload_n 1, 1) := by decide +kernel
theorem dX7_shelf_1 : decode cX7_shelf 1 = .ok (.invokestatic 160, 3) := by decide +kernel
theorem dX7_shelf_4 : decode cX7_shelf 4 = .ok (.ifCond .ne 6, 3) := by decide +kernel
theorem dX7_shelf_7 : decode cX7_shelf 7 = .ok (.ldc 163, 2) := by decide +kernel
theorem dX7_shelf_9 : decode cX7_shelf 9 = .ok (.ireturn, 1) := by decide +kernel
theorem dX7_shelf_10 : decode cX7_shelf 10 = .ok (.iload_n 2, 1) := by decide +kernel
theorem dX7_shelf_11 : decode cX7_shelf 11 = .ok (.tableswitch 96 0 8 #[49, 55, 61, 96, 96, 96, 96, 96, 78], 49) := by decide +kernel
theorem dX7_shelf_60 : decode cX7_shelf 60 = .ok (.aload_n 0, 1) := by decide +kernel
theorem dX7_shelf_61 : decode cX7_shelf 61 = .ok (.iload_n 1, 1) := by decide +kernel
theorem dX7_shelf_62 : decode cX7_shelf 62 = .ok (.invokevirtual 168, 3) := by decide +kernel
theorem dX7_shelf_65 : decode cX7_shelf 65 = .ok (.ireturn, 1) := by decide +kernel
theorem dX7_shelf_66 : decode cX7_shelf 66 = .ok (.aload_n 0, 1) := by decide +kernel
theorem dX7_shelf_67 : decode cX7_shelf 67 = .ok (.iload_n 1, 1) := by decide +kernel
theorem dX7_shelf_68 : decode cX7_shelf 68 = .ok (.invokevirtual 171, 3) := by decide +kernel
theorem dX7_shelf_71 : decode cX7_shelf 71 = .ok (.ireturn, 1) := by decide +kernel
theorem dX7_shelf_72 : decode cX7_shelf 72 = .ok (.aload_n 0, 1) := by decide +kernel
theorem dX7_shelf_73 : decode cX7_shelf 73 = .ok (.aload_n 0, 1) := by decide +kernel
theorem dX7_shelf_74 : decode cX7_shelf 74 = .ok (.iload_n 1, 1) := by decide +kernel
theorem dX7_shelf_75 : decode cX7_shelf 75 = .ok (.invokevirtual 168, 3) := by decide +kernel
theorem dX7_shelf_78 : decode cX7_shelf 78 = .ok (.i2l, 1) := by decide +kernel
theorem dX7_shelf_79 : decode cX7_shelf 79 = .ok (.aload_n 0, 1) := by decide +kernel
theorem dX7_shelf_80 : decode cX7_shelf 80 = .ok (.iload_n 1, 1) := by decide +kernel
theorem dX7_shelf_81 : decode cX7_shelf 81 = .ok (.invokevirtual 171, 3) := by decide +kernel
theorem dX7_shelf_84 : decode cX7_shelf 84 = .ok (.i2l, 1) := by decide +kernel
theorem dX7_shelf_85 : decode cX7_shelf 85 = .ok (.invokevirtual 68, 3) := by decide +kernel
theorem dX7_shelf_88 : decode cX7_shelf 88 = .ok (.ireturn, 1) := by decide +kernel
theorem dX7_shelf_89 : decode cX7_shelf 89 = .ok (.aload_n 0, 1) := by decide +kernel
theorem dX7_shelf_90 : decode cX7_shelf 90 = .ok (.aload_n 0, 1) := by decide +kernel
theorem dX7_shelf_91 : decode cX7_shelf 91 = .ok (.iload_n 1, 1) := by decide +kernel
theorem dX7_shelf_92 : decode cX7_shelf 92 = .ok (.invokevirtual 168, 3) := by decide +kernel
theorem dX7_shelf_95 : decode cX7_shelf 95 = .ok (.i2l, 1) := by decide +kernel
theorem dX7_shelf_96 : decode cX7_shelf 96 = .ok (.aload_n 0, 1) := by decide +kernel
theorem dX7_shelf_97 : decode cX7_shelf 97 = .ok (.iload_n 1, 1) := by decide +kernel
theorem dX7_shelf_98 : decode cX7_shelf 98 = .ok (.invokevirtual 171, 3) := by decide +kernel
theorem dX7_shelf_101 : decode cX7_shelf 101 = .ok (.i2l, 1) := by decide +kernel
theorem dX7_shelf_102 : decode cX7_shelf 102 = .ok (.invokevirtual 88, 3) := by decide +kernel
theorem dX7_shelf_105 : decode cX7_shelf 105 = .ok (.l2i, 1) := by decide +kernel
theorem dX7_shelf_106 : decode cX7_shelf 106 = .ok (.ireturn, 1) := by decide +kernel
theorem dX7_shelf_107 : decode cX7_shelf 107 = .ok (.iload_n 2, 1) := by decide +kernel
theorem dX7_shelf_108 : decode cX7_shelf 108 = .ok (.i2l, 1) := by decide +kernel
theorem dX7_shelf_109 : decode cX7_shelf 109 = .ok (.ldc2_w 147, 3) := by decide +kernel
theorem dX7_shelf_112 : decode cX7_shelf 112 = .ok (.ldc2_w 201, 3) := by decide +kernel
theorem dX7_shelf_115 : decode cX7_shelf 115 = .ok (.invokestatic 131, 3) := by decide +kernel
theorem dX7_shelf_118 : decode cX7_shelf 118 = .ok (.ifCond .eq 12, 3) := by decide +kernel
theorem dX7_shelf_121 : decode cX7_shelf 121 = .ok (.aload_n 0, 1) := by decide +kernel
theorem dX7_shelf_122 : decode cX7_shelf 122 = .ok (.iload_n 1, 1) := by decide +kernel
theorem dX7_shelf_123 : decode cX7_shelf 123 = .ok (.iload_n 2, 1) := by decide +kernel
theorem dX7_shelf_124 : decode cX7_shelf 124 = .ok (.invokevirtual 203, 3) := by decide +kernel
theorem dX7_shelf_127 : decode cX7_shelf 127 = .ok (.goto 5, 3) := by decide +kernel
theorem dX7_shelf_130 : decode cX7_shelf 130 = .ok (.ldc 156, 2) := by decide +kernel
theorem dX7_shelf_132 : decode cX7_shelf 132 = .ok (.ireturn, 1) := by decide +kernel
set_option maxRecDepth 20000 in
theorem ggX7_figure_X7_isShelf : GoodIn wsX7_figure wsX7_isShelf := goodIn_r _ [9, 10, 11, 12, 8, 13] (by decide +kernel) (by decide +kernel)
set_option maxRecDepth 20000 in
theorem gX7_figure_X7_isShelf : GoodIn wsX7_figure (va_wsS RX7 160 yX7_isShelf wsX7_isShelf) := goodIn_app (goodIn_of _ (by decide +kernel)) ggX7_figure_X7_isShelf
set_option maxRecDepth 20000 in
theorem ggX7_figure_X7_in : GoodIn wsX7_figure wsX7_in := goodIn_r _ [13] (by decide +kernel) (by decide +kernel)
set_option maxRecDepth 20000 in
theorem gX7_figure_X7_in : GoodIn wsX7_figure (va_wsS RX7 131 yX7_in wsX7_in) := goodIn_app (goodIn_of _ (by decide +kernel)) ggX7_figure_X7_in
set_option maxRecDepth 20000 in
theorem ggX7_figure_X7_mOf : GoodIn wsX7_figure wsX7_mOf := goodIn_r _ [17, 18, 77, 78, 79, 80, 81, 82, 83, 84, 85, 86, 87, 88, 89, 90, 91, 92, 93, 94, 95] (by decide +kernel) (by decide +kernel)
set_option maxRecDepth 20000 in
theorem gX7_figure_X7_mOf : GoodIn wsX7_figure (wsV RX7 168 RX7 yX7_mOf wsX7_mOf) := goodIn_app (goodIn_of _ (by decide +kernel)) ggX7_figure_X7_mOf
set_option maxRecDepth 20000 in
theorem ggX7_figure_X7_nOf : GoodIn wsX7_figure wsX7_nOf := goodIn_r _ [22, 18, 77, 78, 79, 80, 81, 82, 83, 84, 85, 86, 87, 88, 89, 90, 91, 92, 93, 94, 95] (by decide +kernel) (by decide +kernel)
set_option maxRecDepth 20000 in
theorem gX7_figure_X7_nOf : GoodIn wsX7_figure (wsV RX7 171 RX7 yX7_nOf wsX7_nOf) := goodIn_app (goodIn_of _ (by decide +kernel)) ggX7_figure_X7_nOf
set_option maxRecDepth 20000 in
theorem ggX7_figure_X7_signOf : GoodIn wsX7_figure wsX7_signOf := goodIn_r _ [26, 27, 18, 28, 29, 8, 30, 31, 32, 33, 34, 35, 77, 78, 79, 80, 81, 82, 83, 84, 85, 86, 87, 88, 89, 90, 91, 92, 93, 94, 95] (by decide +kernel) (by decide +kernel)
set_option maxRecDepth 20000 in
theorem gX7_figure_X7_signOf : GoodIn wsX7_figure (wsV RX7 68 RX7 yX7_signOf wsX7_signOf) := goodIn_app (goodIn_of _ (by decide +kernel)) ggX7_figure_X7_signOf
set_option maxRecDepth 20000 in
theorem ggX7_figure_X7_layWritten : GoodIn wsX7_figure wsX7_layWritten := goodIn_r _ [39, 40, 41, 42, 43, 44, 45, 46, 47, 48, 8, 49, 18, 23, 24, 25, 26, 27, 28, 29, 30, 31, 32, 33, 34, 35, 50, 51, 52, 53, 54, 55, 56, 57, 58, 59, 60, 61, 62, 63, 64, 65, 66, 67, 68, 69, 70, 71, 72, 77, 78, 79, 80, 81, 82, 83, 84, 85, 86, 87, 88, 89, 90, 91, 92, 93, 94, 95] (by decide +kernel) (by decide +kernel)
set_option maxRecDepth 20000 in
theorem gX7_figure_X7_layWritten : GoodIn wsX7_figure (wsV RX7 141 RX7 yX7_layWritten wsX7_layWritten) := goodIn_app (goodIn_of _ (by decide +kernel)) ggX7_figure_X7_layWritten
set_option maxRecDepth 20000 in
theorem ggX7_figure_X7_figureAt : GoodIn wsX7_figure wsX7_figureAt := goodIn_r _ [76, 40, 43, 54, 58, 77, 78, 79, 80, 81, 82, 83, 84, 85, 86, 87, 88, 89, 90, 91, 92, 93, 94, 95] (by decide +kernel) (by decide +kernel)
set_option maxRecDepth 20000 in
theorem gX7_figure_X7_figureAt : GoodIn wsX7_figure (wsV RX7 211 RX7 yX7_figureAt wsX7_figureAt) := goodIn_app (goodIn_of _ (by decide +kernel)) ggX7_figure_X7_figureAt
theorem dX7_figure_0 : decode cX7_figure 0 = .ok (.iload_n 1, 1) := by decide +kernel
theorem dX7_figure_1 : decode cX7_figure 1 = .ok (.invokestatic 160, 3) := by decide +kernel
theorem dX7_figure_4 : decode cX7_figure 4 = .ok (.ifCond .ne 6, 3) := by decide +kernel
theorem dX7_figure_7 : decode cX7_figure 7 = .ok (.ldc 163, 2) := by decide +kernel
theorem dX7_figure_9 : decode cX7_figure 9 = .ok (.ireturn, 1) := by decide +kernel
theorem dX7_figure_10 : decode cX7_figure 10 = .ok (.iload_n 2, 1) := by decide +kernel
theorem dX7_figure_11 : decode cX7_figure 11 = .ok (.i2l, 1) := by decide +kernel
theorem dX7_figure_12 : decode cX7_figure 12 = .ok (.ldc2_w 207, 3) := by decide +kernel
theorem dX7_figure_15 : decode cX7_figure 15 = .ok (.ldc2_w 209, 3) := by decide +kernel
theorem dX7_figure_18 : decode cX7_figure 18 = .ok (.invokestatic 131, 3) := by decide +kernel
theorem dX7_figure_21 : decode cX7_figure 21 = .ok (.ifCond .ne 6, 3) := by decide +kernel
theorem dX7_figure_24 : decode cX7_figure 24 = .ok (.ldc 156, 2) := by decide +kernel
theorem dX7_figure_26 : decode cX7_figure 26 = .ok (.ireturn, 1) := by decide +kernel
theorem dX7_figure_27 : decode cX7_figure 27 = .ok (.aload_n 0, 1) := by decide +kernel
theorem dX7_figure_28 : decode cX7_figure 28 = .ok (.aload_n 0, 1) := by decide +kernel
theorem dX7_figure_29 : decode cX7_figure 29 = .ok (.iload_n 1, 1) := by decide +kernel
theorem dX7_figure_30 : decode cX7_figure 30 = .ok (.invokevirtual 168, 3) := by decide +kernel
theorem dX7_figure_33 : decode cX7_figure 33 = .ok (.i2l, 1) := by decide +kernel
theorem dX7_figure_34 : decode cX7_figure 34 = .ok (.aload_n 0, 1) := by decide +kernel
theorem dX7_figure_35 : decode cX7_figure 35 = .ok (.iload_n 1, 1) := by decide +kernel
theorem dX7_figure_36 : decode cX7_figure 36 = .ok (.invokevirtual 171, 3) := by decide +kernel
theorem dX7_figure_39 : decode cX7_figure 39 = .ok (.i2l, 1) := by decide +kernel
theorem dX7_figure_40 : decode cX7_figure 40 = .ok (.invokevirtual 68, 3) := by decide +kernel
theorem dX7_figure_43 : decode cX7_figure 43 = .ok (.ifCond .ge 6, 3) := by decide +kernel
theorem dX7_figure_46 : decode cX7_figure 46 = .ok (.ldc 140, 2) := by decide +kernel
theorem dX7_figure_48 : decode cX7_figure 48 = .ok (.ireturn, 1) := by decide +kernel
theorem dX7_figure_49 : decode cX7_figure 49 = .ok (.aload_n 0, 1) := by decide +kernel
theorem dX7_figure_50 : decode cX7_figure 50 = .ok (.aload_n 0, 1) := by decide +kernel
theorem dX7_figure_51 : decode cX7_figure 51 = .ok (.iload_n 1, 1) := by decide +kernel
theorem dX7_figure_52 : decode cX7_figure 52 = .ok (.invokevirtual 168, 3) := by decide +kernel
theorem dX7_figure_55 : decode cX7_figure 55 = .ok (.i2l, 1) := by decide +kernel
theorem dX7_figure_56 : decode cX7_figure 56 = .ok (.aload_n 0, 1) := by decide +kernel
theorem dX7_figure_57 : decode cX7_figure 57 = .ok (.iload_n 1, 1) := by decide +kernel
theorem dX7_figure_58 : decode cX7_figure 58 = .ok (.invokevirtual 171, 3) := by decide +kernel
theorem dX7_figure_61 : decode cX7_figure 61 = .ok (.i2l, 1) := by decide +kernel
theorem dX7_figure_62 : decode cX7_figure 62 = .ok (.invokevirtual 141, 3) := by decide +kernel
theorem dX7_figure_65 : decode cX7_figure 65 = .ok (.aload_n 0, 1) := by decide +kernel
theorem dX7_figure_66 : decode cX7_figure 66 = .ok (.iload_n 2, 1) := by decide +kernel
theorem dX7_figure_67 : decode cX7_figure 67 = .ok (.invokevirtual 211, 3) := by decide +kernel
theorem dX7_figure_70 : decode cX7_figure 70 = .ok (.ireturn, 1) := by decide +kernel
set_option maxRecDepth 20000 in
theorem ggX7_compare_X7_isShelf : GoodIn wsX7_compare wsX7_isShelf := goodIn_r _ [5, 6, 7, 8, 4, 9] (by decide +kernel) (by decide +kernel)
set_option maxRecDepth 20000 in
theorem gX7_compare_X7_isShelf : GoodIn wsX7_compare (va_wsS RX7 160 yX7_isShelf wsX7_isShelf) := goodIn_app (goodIn_of _ (by decide +kernel)) ggX7_compare_X7_isShelf
set_option maxRecDepth 20000 in
theorem ggX7_compare_X7_mOf : GoodIn wsX7_compare wsX7_mOf := goodIn_r _ [13, 14, 32, 33, 34, 35, 36, 37, 38, 39, 40, 41, 42, 43, 44, 45, 46, 47, 48, 49, 50] (by decide +kernel) (by decide +kernel)
set_option maxRecDepth 20000 in
theorem gX7_compare_X7_mOf : GoodIn wsX7_compare (wsV RX7 168 RX7 yX7_mOf wsX7_mOf) := goodIn_app (goodIn_of _ (by decide +kernel)) ggX7_compare_X7_mOf
set_option maxRecDepth 20000 in
theorem ggX7_compare_X7_nOf : GoodIn wsX7_compare wsX7_nOf := goodIn_r _ [18, 14, 32, 33, 34, 35, 36, 37, 38, 39, 40, 41, 42, 43, 44, 45, 46, 47, 48, 49, 50] (by decide +kernel) (by decide +kernel)
set_option maxRecDepth 20000 in
theorem gX7_compare_X7_nOf : GoodIn wsX7_compare (wsV RX7 171 RX7 yX7_nOf wsX7_nOf) := goodIn_app (goodIn_of _ (by decide +kernel)) ggX7_compare_X7_nOf
set_option maxRecDepth 20000 in
theorem ggX7_compare_X7_signOf : GoodIn wsX7_compare wsX7_signOf := goodIn_r _ [22, 23, 14, 24, 25, 4, 26, 27, 28, 29, 30, 31, 32, 33, 34, 35, 36, 37, 38, 39, 40, 41, 42, 43, 44, 45, 46, 47, 48, 49, 50] (by decide +kernel) (by decide +kernel)
set_option maxRecDepth 20000 in
theorem gX7_compare_X7_signOf : GoodIn wsX7_compare (wsV RX7 68 RX7 yX7_signOf wsX7_signOf) := goodIn_app (goodIn_of _ (by decide +kernel)) ggX7_compare_X7_signOf
theorem dX7_compare_0 : decode cX7_compare 0 = .ok (.iload_n 1, 1) := by decide +kernel
theorem dX7_compare_1 : decode cX7_compare 1 = .ok (.invokestatic 160, 3) := by decide +kernel
theorem dX7_compare_4 : decode cX7_compare 4 = .ok (.ifCond .eq 10, 3) := by decide +kernel
theorem dX7_compare_7 : decode cX7_compare 7 = .ok (.iload_n 2, 1) := by decide +kernel
theorem dX7_compare_8 : decode cX7_compare 8 = .ok (.invokestatic 160, 3) := by decide +kernel
theorem dX7_compare_11 : decode cX7_compare 11 = .ok (.ifCond .ne 6, 3) := by decide +kernel
theorem dX7_compare_14 : decode cX7_compare 14 = .ok (.ldc 163, 2) := by decide +kernel
theorem dX7_compare_16 : decode cX7_compare 16 = .ok (.ireturn, 1) := by decide +kernel
theorem dX7_compare_17 : decode cX7_compare 17 = .ok (.aload_n 0, 1) := by decide +kernel
theorem dX7_compare_18 : decode cX7_compare 18 = .ok (.aload_n 0, 1) := by decide +kernel
theorem dX7_compare_19 : decode cX7_compare 19 = .ok (.iload_n 1, 1) := by decide +kernel
theorem dX7_compare_20 : decode cX7_compare 20 = .ok (.invokevirtual 168, 3) := by decide +kernel
theorem dX7_compare_23 : decode cX7_compare 23 = .ok (.i2l, 1) := by decide +kernel
theorem dX7_compare_24 : decode cX7_compare 24 = .ok (.aload_n 0, 1) := by decide +kernel
theorem dX7_compare_25 : decode cX7_compare 25 = .ok (.iload_n 2, 1) := by decide +kernel
theorem dX7_compare_26 : decode cX7_compare 26 = .ok (.invokevirtual 168, 3) := by decide +kernel
theorem dX7_compare_29 : decode cX7_compare 29 = .ok (.i2l, 1) := by decide +kernel
theorem dX7_compare_30 : decode cX7_compare 30 = .ok (.lsub, 1) := by decide +kernel
theorem dX7_compare_31 : decode cX7_compare 31 = .ok (.aload_n 0, 1) := by decide +kernel
theorem dX7_compare_32 : decode cX7_compare 32 = .ok (.iload_n 1, 1) := by decide +kernel
theorem dX7_compare_33 : decode cX7_compare 33 = .ok (.invokevirtual 171, 3) := by decide +kernel
theorem dX7_compare_36 : decode cX7_compare 36 = .ok (.i2l, 1) := by decide +kernel
theorem dX7_compare_37 : decode cX7_compare 37 = .ok (.aload_n 0, 1) := by decide +kernel
theorem dX7_compare_38 : decode cX7_compare 38 = .ok (.iload_n 2, 1) := by decide +kernel
theorem dX7_compare_39 : decode cX7_compare 39 = .ok (.invokevirtual 171, 3) := by decide +kernel
theorem dX7_compare_42 : decode cX7_compare 42 = .ok (.i2l, 1) := by decide +kernel
theorem dX7_compare_43 : decode cX7_compare 43 = .ok (.lsub, 1) := by decide +kernel
theorem dX7_compare_44 : decode cX7_compare 44 = .ok (.invokevirtual 68, 3) := by decide +kernel
theorem dX7_compare_47 : decode cX7_compare 47 = .ok (.ireturn, 1) := by decide +kernel
set_option maxRecDepth 20000 in
theorem ggX7_beside_X7_isShelf : GoodIn wsX7_beside wsX7_isShelf := goodIn_r _ [6, 7, 8, 9, 5, 10] (by decide +kernel) (by decide +kernel)
set_option maxRecDepth 20000 in
theorem gX7_beside_X7_isShelf : GoodIn wsX7_beside (va_wsS RX7 160 yX7_isShelf wsX7_isShelf) := goodIn_app (goodIn_of _ (by decide +kernel)) ggX7_beside_X7_isShelf
set_option maxRecDepth 20000 in
theorem ggX7_beside_X7_nOf : GoodIn wsX7_beside wsX7_nOf := goodIn_r _ [14, 2, 35, 36, 37, 38, 39, 40, 41, 42, 43, 44, 45, 46, 47, 48, 49, 50, 51, 52, 53] (by decide +kernel) (by decide +kernel)
set_option maxRecDepth 20000 in
theorem gX7_beside_X7_nOf : GoodIn wsX7_beside (wsV RX7 171 RX7 yX7_nOf wsX7_nOf) := goodIn_app (goodIn_of _ (by decide +kernel)) ggX7_beside_X7_nOf
set_option maxRecDepth 20000 in
theorem ggX7_beside_X7_mOf : GoodIn wsX7_beside wsX7_mOf := goodIn_r _ [18, 2, 35, 36, 37, 38, 39, 40, 41, 42, 43, 44, 45, 46, 47, 48, 49, 50, 51, 52, 53] (by decide +kernel) (by decide +kernel)
set_option maxRecDepth 20000 in
theorem gX7_beside_X7_mOf : GoodIn wsX7_beside (wsV RX7 168 RX7 yX7_mOf wsX7_mOf) := goodIn_app (goodIn_of _ (by decide +kernel)) ggX7_beside_X7_mOf
set_option maxRecDepth 20000 in
theorem ggX7_beside_X7_wholeOf : GoodIn wsX7_beside wsX7_wholeOf := goodIn_r _ [22, 23, 2, 24, 25, 26, 5, 27, 28, 29, 30, 31, 32, 33, 34, 35, 36, 37, 38, 39, 40, 41, 42, 43, 44, 45, 46, 47, 48, 49, 50, 51, 52, 53] (by decide +kernel) (by decide +kernel)
set_option maxRecDepth 20000 in
theorem gX7_beside_X7_wholeOf : GoodIn wsX7_beside (wsV RX7 88 RX7 yX7_wholeOf wsX7_wholeOf) := goodIn_app (goodIn_of _ (by decide +kernel)) ggX7_beside_X7_wholeOf
theorem dX7_beside_0 : decode cX7_beside 0 = .ok (.iload_n 1, 1) := by decide +kernel
theorem dX7_beside_1 : decode cX7_beside 1 = .ok (.invokestatic 160, 3) := by decide +kernel
theorem dX7_beside_4 : decode cX7_beside 4 = .ok (.ifCond .ne 6, 3) := by decide +kernel
theorem dX7_beside_7 : decode cX7_beside 7 = .ok (.ldc 163, 2) := by decide +kernel
theorem dX7_beside_9 : decode cX7_beside 9 = .ok (.ireturn, 1) := by decide +kernel
theorem dX7_beside_10 : decode cX7_beside 10 = .ok (.aload_n 0, 1) := by decide +kernel
theorem dX7_beside_11 : decode cX7_beside 11 = .ok (.iload_n 1, 1) := by decide +kernel
theorem dX7_beside_12 : decode cX7_beside 12 = .ok (.invokevirtual 171, 3) := by decide +kernel
theorem dX7_beside_15 : decode cX7_beside 15 = .ok (.i2l, 1) := by decide +kernel
theorem dX7_beside_16 : decode cX7_beside 16 = .ok (.lstore_n 2, 1) := by decide +kernel
theorem dX7_beside_17 : decode cX7_beside 17 = .ok (.aload_n 0, 1) := by decide +kernel
theorem dX7_beside_18 : decode cX7_beside 18 = .ok (.aload_n 0, 1) := by decide +kernel
theorem dX7_beside_19 : decode cX7_beside 19 = .ok (.iload_n 1, 1) := by decide +kernel
theorem dX7_beside_20 : decode cX7_beside 20 = .ok (.invokevirtual 168, 3) := by decide +kernel
theorem dX7_beside_23 : decode cX7_beside 23 = .ok (.i2l, 1) := by decide +kernel
theorem dX7_beside_24 : decode cX7_beside 24 = .ok (.lload_n 2, 1) := by decide +kernel
theorem dX7_beside_25 : decode cX7_beside 25 = .ok (.aload_n 0, 1) := by decide +kernel
theorem dX7_beside_26 : decode cX7_beside 26 = .ok (.getfield 7, 3) := by decide +kernel
theorem dX7_beside_29 : decode cX7_beside 29 = .ok (.iconst 0, 1) := by decide +kernel
theorem dX7_beside_30 : decode cX7_beside 30 = .ok (.iaload, 1) := by decide +kernel
theorem dX7_beside_31 : decode cX7_beside 31 = .ok (.i2l, 1) := by decide +kernel
theorem dX7_beside_32 : decode cX7_beside 32 = .ok (.lmul, 1) := by decide +kernel
theorem dX7_beside_33 : decode cX7_beside 33 = .ok (.ladd, 1) := by decide +kernel
theorem dX7_beside_34 : decode cX7_beside 34 = .ok (.lload_n 2, 1) := by decide +kernel
theorem dX7_beside_35 : decode cX7_beside 35 = .ok (.lneg, 1) := by decide +kernel
theorem dX7_beside_36 : decode cX7_beside 36 = .ok (.invokevirtual 88, 3) := by decide +kernel
theorem dX7_beside_39 : decode cX7_beside 39 = .ok (.l2i, 1) := by decide +kernel
theorem dX7_beside_40 : decode cX7_beside 40 = .ok (.ireturn, 1) := by decide +kernel
set_option maxRecDepth 20000 in
theorem ggX7_norm_X7_isShelf : GoodIn wsX7_norm wsX7_isShelf := goodIn_r _ [6, 7, 8, 9, 5, 10] (by decide +kernel) (by decide +kernel)
set_option maxRecDepth 20000 in
theorem gX7_norm_X7_isShelf : GoodIn wsX7_norm (va_wsS RX7 160 yX7_isShelf wsX7_isShelf) := goodIn_app (goodIn_of _ (by decide +kernel)) ggX7_norm_X7_isShelf
set_option maxRecDepth 20000 in
theorem ggX7_norm_X7_mOf : GoodIn wsX7_norm wsX7_mOf := goodIn_r _ [14, 2, 19, 20, 21, 22, 23, 24, 25, 26, 27, 28, 29, 30, 31, 32, 33, 34, 35, 36, 37] (by decide +kernel) (by decide +kernel)
set_option maxRecDepth 20000 in
theorem gX7_norm_X7_mOf : GoodIn wsX7_norm (wsV RX7 168 RX7 yX7_mOf wsX7_mOf) := goodIn_app (goodIn_of _ (by decide +kernel)) ggX7_norm_X7_mOf
set_option maxRecDepth 20000 in
theorem ggX7_norm_X7_nOf : GoodIn wsX7_norm wsX7_nOf := goodIn_r _ [18, 2, 19, 20, 21, 22, 23, 24, 25, 26, 27, 28, 29, 30, 31, 32, 33, 34, 35, 36, 37] (by decide +kernel) (by decide +kernel)
set_option maxRecDepth 20000 in
theorem gX7_norm_X7_nOf : GoodIn wsX7_norm (wsV RX7 171 RX7 yX7_nOf wsX7_nOf) := goodIn_app (goodIn_of _ (by decide +kernel)) ggX7_norm_X7_nOf
theorem dX7_norm_0 : decode cX7_norm 0 = .ok (.iload_n 1, 1) := by decide +kernel
theorem dX7_norm_1 : decode cX7_norm 1 = .ok (.invokestatic 160, 3) := by decide +kernel
theorem dX7_norm_4 : decode cX7_norm 4 = .ok (.ifCond .ne 7, 3) := by decide +kernel
theorem dX7_norm_7 : decode cX7_norm 7 = .ok (.ldc2_w 214, 3) := by decide +kernel
theorem dX7_norm_10 : decode cX7_norm 10 = .ok (.lreturn, 1) := by decide +kernel
theorem dX7_norm_11 : decode cX7_norm 11 = .ok (.aload_n 0, 1) := by decide +kernel
theorem dX7_norm_12 : decode cX7_norm 12 = .ok (.iload_n 1, 1) := by decide +kernel
theorem dX7_norm_13 : decode cX7_norm 13 = .ok (.invokevirtual 168, 3) := by decide +kernel
theorem dX7_norm_16 : decode cX7_norm 16 = .ok (.i2l, 1) := by decide +kernel
theorem dX7_norm_17 : decode cX7_norm 17 = .ok (.lstore_n 2, 1) := by decide +kernel
theorem dX7_norm_18 : decode cX7_norm 18 = .ok (.aload_n 0, 1) := by decide +kernel
theorem dX7_norm_19 : decode cX7_norm 19 = .ok (.iload_n 1, 1) := by decide +kernel
theorem dX7_norm_20 : decode cX7_norm 20 = .ok (.invokevirtual 171, 3) := by decide +kernel
theorem dX7_norm_23 : decode cX7_norm 23 = .ok (.i2l, 1) := by decide +kernel
theorem dX7_norm_24 : decode cX7_norm 24 = .ok (.lstore 4, 2) := by decide +kernel
theorem dX7_norm_26 : decode cX7_norm 26 = .ok (.lload_n 2, 1) := by decide +kernel
theorem dX7_norm_27 : decode cX7_norm 27 = .ok (.lload_n 2, 1) := by decide +kernel
theorem dX7_norm_28 : decode cX7_norm 28 = .ok (.lmul, 1) := by decide +kernel
theorem dX7_norm_29 : decode cX7_norm 29 = .ok (.aload_n 0, 1) := by decide +kernel
theorem dX7_norm_30 : decode cX7_norm 30 = .ok (.getfield 7, 3) := by decide +kernel
theorem dX7_norm_33 : decode cX7_norm 33 = .ok (.iconst 0, 1) := by decide +kernel
theorem dX7_norm_34 : decode cX7_norm 34 = .ok (.iaload, 1) := by decide +kernel
theorem dX7_norm_35 : decode cX7_norm 35 = .ok (.i2l, 1) := by decide +kernel
theorem dX7_norm_36 : decode cX7_norm 36 = .ok (.lload_n 2, 1) := by decide +kernel
theorem dX7_norm_37 : decode cX7_norm 37 = .ok (.lmul, 1) := by decide +kernel
theorem dX7_norm_38 : decode cX7_norm 38 = .ok (.lload 4, 2) := by decide +kernel
theorem dX7_norm_40 : decode cX7_norm 40 = .ok (.lmul, 1) := by decide +kernel
theorem dX7_norm_41 : decode cX7_norm 41 = .ok (.ladd, 1) := by decide +kernel
theorem dX7_norm_42 : decode cX7_norm 42 = .ok (.aload_n 0, 1) := by decide +kernel
theorem dX7_norm_43 : decode cX7_norm 43 = .ok (.getfield 7, 3) := by decide +kernel
theorem dX7_norm_46 : decode cX7_norm 46 = .ok (.iconst 1, 1) := by decide +kernel
theorem dX7_norm_47 : decode cX7_norm 47 = .ok (.iaload, 1) := by decide +kernel
theorem dX7_norm_48 : decode cX7_norm 48 = .ok (.i2l, 1) := by decide +kernel
theorem dX7_norm_49 : decode cX7_norm 49 = .ok (.lload 4, 2) := by decide +kernel
theorem dX7_norm_51 : decode cX7_norm 51 = .ok (.lmul, 1) := by decide +kernel
theorem dX7_norm_52 : decode cX7_norm 52 = .ok (.lload 4, 2) := by decide +kernel
theorem dX7_norm_54 : decode cX7_norm 54 = .ok (.lmul, 1) := by decide +kernel
theorem dX7_norm_55 : decode cX7_norm 55 = .ok (.lsub, 1) := by decide +kernel
theorem dX7_norm_56 : decode cX7_norm 56 = .ok (.lreturn, 1) := by decide +kernel
set_option maxRecDepth 20000 in
theorem ggX7_feed_X7_pointAt : GoodIn wsX7_feed wsX7_pointAt := goodIn_r _ [11, 4, 6, 15, 16, 17, 18, 19, 20, 21, 22, 23, 24, 25, 26, 27, 28, 29, 30, 31, 32, 33] (by decide +kernel) (by decide +kernel)
set_option maxRecDepth 20000 in
theorem gX7_feed_X7_pointAt : GoodIn wsX7_feed (wsV RX7 117 RX7 yX7_pointAt wsX7_pointAt) := goodIn_app (goodIn_of _ (by decide +kernel)) ggX7_feed_X7_pointAt
set_option maxRecDepth 20000 in
theorem ggX7_feed_X7_in : GoodIn wsX7_feed wsX7_in := goodIn_r _ [14] (by decide +kernel) (by decide +kernel)
set_option maxRecDepth 20000 in
theorem gX7_feed_X7_in : GoodIn wsX7_feed (va_wsS RX7 131 yX7_in wsX7_in) := goodIn_app (goodIn_of _ (by decide +kernel)) ggX7_feed_X7_in
theorem dX7_feed_0 : decode cX7_feed 0 = .ok (.iload_n 1, 1) := by decide +kernel
theorem dX7_feed_1 : decode cX7_feed 1 = .ok (.bipush 46, 2) := by decide +kernel
theorem dX7_feed_3 : decode cX7_feed 3 = .ok (.if_icmp .ne 14, 3) := by decide +kernel
theorem dX7_feed_6 : decode cX7_feed 6 = .ok (.aload_n 0, 1) := by decide +kernel
theorem dX7_feed_7 : decode cX7_feed 7 = .ok (.invokevirtual 117, 3) := by decide +kernel
theorem dX7_feed_10 : decode cX7_feed 10 = .ok (.ifCond .ge 7, 3) := by decide +kernel
theorem dX7_feed_13 : decode cX7_feed 13 = .ok (.iconst 1, 1) := by decide +kernel
theorem dX7_feed_14 : decode cX7_feed 14 = .ok (.goto 4, 3) := by decide +kernel
theorem dX7_feed_17 : decode cX7_feed 17 = .ok (.iconst 0, 1) := by decide +kernel
theorem dX7_feed_18 : decode cX7_feed 18 = .ok (.istore_n 2, 1) := by decide +kernel
theorem dX7_feed_19 : decode cX7_feed 19 = .ok (.iload_n 2, 1) := by decide +kernel
theorem dX7_feed_20 : decode cX7_feed 20 = .ok (.ifCond .ne 20, 3) := by decide +kernel
theorem dX7_feed_23 : decode cX7_feed 23 = .ok (.iload_n 1, 1) := by decide +kernel
theorem dX7_feed_24 : decode cX7_feed 24 = .ok (.i2l, 1) := by decide +kernel
theorem dX7_feed_25 : decode cX7_feed 25 = .ok (.ldc2_w 216, 3) := by decide +kernel
theorem dX7_feed_28 : decode cX7_feed 28 = .ok (.ldc2_w 218, 3) := by decide +kernel
theorem dX7_feed_31 : decode cX7_feed 31 = .ok (.invokestatic 131, 3) := by decide +kernel
theorem dX7_feed_34 : decode cX7_feed 34 = .ok (.ifCond .ne 6, 3) := by decide +kernel
theorem dX7_feed_37 : decode cX7_feed 37 = .ok (.ldc 156, 2) := by decide +kernel
theorem dX7_feed_39 : decode cX7_feed 39 = .ok (.ireturn, 1) := by decide +kernel
theorem dX7_feed_40 : decode cX7_feed 40 = .ok (.aload_n 0, 1) := by decide +kernel
theorem dX7_feed_41 : decode cX7_feed 41 = .ok (.getfield 99, 3) := by decide +kernel
theorem dX7_feed_44 : decode cX7_feed 44 = .ok (.bipush 60, 2) := by decide +kernel
theorem dX7_feed_46 : decode cX7_feed 46 = .ok (.if_icmp .ne 6, 3) := by decide +kernel
theorem dX7_feed_49 : decode cX7_feed 49 = .ok (.ldc 139, 2) := by decide +kernel
theorem dX7_feed_51 : decode cX7_feed 51 = .ok (.ireturn, 1) := by decide +kernel
theorem dX7_feed_52 : decode cX7_feed 52 = .ok (.aload_n 0, 1) := by decide +kernel
theorem dX7_feed_53 : decode cX7_feed 53 = .ok (.getfield 13, 3) := by decide +kernel
theorem dX7_feed_56 : decode cX7_feed 56 = .ok (.aload_n 0, 1) := by decide +kernel
theorem dX7_feed_57 : decode cX7_feed 57 = .ok (.getfield 99, 3) := by decide +kernel
theorem dX7_feed_60 : decode cX7_feed 60 = .ok (.iload_n 1, 1) := by decide +kernel
theorem dX7_feed_61 : decode cX7_feed 61 = .ok (.iastore, 1) := by decide +kernel
theorem dX7_feed_62 : decode cX7_feed 62 = .ok (.aload_n 0, 1) := by decide +kernel
theorem dX7_feed_63 : decode cX7_feed 63 = .ok (.dup, 1) := by decide +kernel
theorem dX7_feed_64 : decode cX7_feed 64 = .ok (.getfield 99, 3) := by decide +kernel
theorem dX7_feed_67 : decode cX7_feed 67 = .ok (.iconst 1, 1) := by decide +kernel
theorem dX7_feed_68 : decode cX7_feed 68 = .ok (.iadd, 1) := by decide +kernel
theorem dX7_feed_69 : decode cX7_feed 69 = .ok (.putfield 99, 3) := by decide +kernel
theorem dX7_feed_72 : decode cX7_feed 72 = .ok (.aload_n 0, 1) := by decide +kernel
theorem dX7_feed_73 : decode cX7_feed 73 = .ok (.getfield 99, 3) := by decide +kernel
theorem dX7_feed_76 : decode cX7_feed 76 = .ok (.ireturn, 1) := by decide +kernel
theorem dX7_clear_0 : decode cX7_clear 0 = .ok (.aload_n 0, 1) := by decide +kernel
theorem dX7_clear_1 : decode cX7_clear 1 = .ok (.getfield 99, 3) := by decide +kernel
theorem dX7_clear_4 : decode cX7_clear 4 = .ok (.istore_n 1, 1) := by decide +kernel
theorem dX7_clear_5 : decode cX7_clear 5 = .ok (.aload_n 0, 1) := by decide +kernel
theorem dX7_clear_6 : decode cX7_clear 6 = .ok (.iconst 0, 1) := by decide +kernel
theorem dX7_clear_7 : decode cX7_clear 7 = .ok (.putfield 99, 3) := by decide +kernel
theorem dX7_clear_10 : decode cX7_clear 10 = .ok (.iload_n 1, 1) := by decide +kernel
theorem dX7_clear_11 : decode cX7_clear 11 = .ok (.ireturn, 1) := by decide +kernel
set_option maxRecDepth 20000 in
theorem ggX7_normal_X7_normalMany : GoodIn wsX7_normal wsX7_normalMany := goodIn_r _ [7, 8, 9, 10, 11, 2, 12, 13, 14, 15, 6, 16, 17, 18, 19, 20, 21, 22, 23, 24, 25, 26, 27, 28, 29, 30, 31, 32, 33, 34, 35, 36, 37, 38, 39, 40, 41, 42, 43, 44, 45, 46, 47, 48, 49, 50, 51, 52, 53, 54, 55, 56, 57, 58, 59, 60, 61, 62, 63, 64, 65, 66, 67, 68, 69, 70, 71, 72, 73, 74, 75, 76, 77, 78, 79, 80, 81, 86, 87, 88, 89, 90, 91, 92, 93, 94, 95, 96, 97, 98, 99, 100, 101, 102, 103, 104] (by decide +kernel) (by decide +kernel)
set_option maxRecDepth 20000 in
theorem gX7_normal_X7_normalMany : GoodIn wsX7_normal (wsV RX7 198 RX7 yX7_normalMany wsX7_normalMany) := goodIn_app (goodIn_of _ (by decide +kernel)) ggX7_normal_X7_normalMany
set_option maxRecDepth 20000 in
theorem ggX7_normal_X7_figureAt : GoodIn wsX7_normal wsX7_figureAt := goodIn_r _ [85, 2, 53, 12, 67, 86, 87, 88, 89, 90, 91, 92, 93, 94, 95, 96, 97, 98, 99, 100, 101, 102, 103, 104] (by decide +kernel) (by decide +kernel)
set_option maxRecDepth 20000 in
theorem gX7_normal_X7_figureAt : GoodIn wsX7_normal (wsV RX7 211 RX7 yX7_figureAt wsX7_figureAt) := goodIn_app (goodIn_of _ (by decide +kernel)) ggX7_normal_X7_figureAt
theorem dX7_normal_0 : decode cX7_normal 0 = .ok (.iload_n 1, 1) := by decide +kernel
theorem dX7_normal_1 : decode cX7_normal 1 = .ok (.ifCond .ge 6, 3) := by decide +kernel
theorem dX7_normal_4 : decode cX7_normal 4 = .ok (.ldc 156, 2) := by decide +kernel
theorem dX7_normal_6 : decode cX7_normal 6 = .ok (.ireturn, 1) := by decide +kernel
theorem dX7_normal_7 : decode cX7_normal 7 = .ok (.aload_n 0, 1) := by decide +kernel
theorem dX7_normal_8 : decode cX7_normal 8 = .ok (.invokevirtual 198, 3) := by decide +kernel
theorem dX7_normal_11 : decode cX7_normal 11 = .ok (.istore_n 2, 1) := by decide +kernel
theorem dX7_normal_12 : decode cX7_normal 12 = .ok (.iload_n 2, 1) := by decide +kernel
theorem dX7_normal_13 : decode cX7_normal 13 = .ok (.ifCond .ge 5, 3) := by decide +kernel
theorem dX7_normal_16 : decode cX7_normal 16 = .ok (.iload_n 2, 1) := by decide +kernel
theorem dX7_normal_17 : decode cX7_normal 17 = .ok (.ireturn, 1) := by decide +kernel
theorem dX7_normal_18 : decode cX7_normal 18 = .ok (.iload_n 1, 1) := by decide +kernel
theorem dX7_normal_19 : decode cX7_normal 19 = .ok (.iload_n 2, 1) := by decide +kernel
theorem dX7_normal_20 : decode cX7_normal 20 = .ok (.if_icmp .ge 16, 3) := by decide +kernel
theorem dX7_normal_23 : decode cX7_normal 23 = .ok (.aload_n 0, 1) := by decide +kernel
theorem dX7_normal_24 : decode cX7_normal 24 = .ok (.aload_n 0, 1) := by decide +kernel
theorem dX7_normal_25 : decode cX7_normal 25 = .ok (.getfield 65, 3) := by decide +kernel
theorem dX7_normal_28 : decode cX7_normal 28 = .ok (.iload_n 1, 1) := by decide +kernel
theorem dX7_normal_29 : decode cX7_normal 29 = .ok (.isub, 1) := by decide +kernel
theorem dX7_normal_30 : decode cX7_normal 30 = .ok (.invokevirtual 211, 3) := by decide +kernel
theorem dX7_normal_33 : decode cX7_normal 33 = .ok (.goto 4, 3) := by decide +kernel
theorem dX7_normal_36 : decode cX7_normal 36 = .ok (.iconst (-1), 1) := by decide +kernel
theorem dX7_normal_37 : decode cX7_normal 37 = .ok (.ireturn, 1) := by decide +kernel
set_option maxRecDepth 20000 in
theorem ggX7_next_X7_figures : GoodIn wsX7_next wsX7_figures := goodIn_r _ [7, 8, 9, 31, 32, 33, 34, 35, 36, 37, 38, 39, 40, 41, 42, 43, 44, 45, 46, 47, 48, 49] (by decide +kernel) (by decide +kernel)
set_option maxRecDepth 20000 in
theorem gX7_next_X7_figures : GoodIn wsX7_next (wsV RX7 113 RX7 yX7_figures wsX7_figures) := goodIn_app (goodIn_of _ (by decide +kernel)) ggX7_next_X7_figures
set_option maxRecDepth 20000 in
theorem ggX7_next_X7_layNext : GoodIn wsX7_next wsX7_layNext := goodIn_r _ [13, 2, 3, 4, 5, 6, 7, 8, 9, 14, 15, 16, 17, 18, 19, 20, 21, 22, 23, 24, 25, 26, 27, 28, 29, 30, 31, 32, 33, 34, 35, 36, 37, 38, 39, 40, 41, 42, 43, 44, 45, 46, 47, 48, 49] (by decide +kernel) (by decide +kernel)
set_option maxRecDepth 20000 in
theorem gX7_next_X7_layNext : GoodIn wsX7_next (wsV RX7 220 RX7 yX7_layNext wsX7_layNext) := goodIn_app (goodIn_of _ (by decide +kernel)) ggX7_next_X7_layNext
theorem dX7_next_0 : decode cX7_next 0 = .ok (.iload_n 1, 1) := by decide +kernel
theorem dX7_next_1 : decode cX7_next 1 = .ok (.ifCond .ge 6, 3) := by decide +kernel
theorem dX7_next_4 : decode cX7_next 4 = .ok (.ldc 156, 2) := by decide +kernel
theorem dX7_next_6 : decode cX7_next 6 = .ok (.ireturn, 1) := by decide +kernel
theorem dX7_next_7 : decode cX7_next 7 = .ok (.iload_n 1, 1) := by decide +kernel
theorem dX7_next_8 : decode cX7_next 8 = .ok (.aload_n 0, 1) := by decide +kernel
theorem dX7_next_9 : decode cX7_next 9 = .ok (.invokevirtual 113, 3) := by decide +kernel
theorem dX7_next_12 : decode cX7_next 12 = .ok (.if_icmp .ge 19, 3) := by decide +kernel
theorem dX7_next_15 : decode cX7_next 15 = .ok (.aload_n 0, 1) := by decide +kernel
theorem dX7_next_16 : decode cX7_next 16 = .ok (.invokevirtual 220, 3) := by decide +kernel
theorem dX7_next_19 : decode cX7_next 19 = .ok (.ifCond .eq 12, 3) := by decide +kernel
theorem dX7_next_22 : decode cX7_next 22 = .ok (.aload_n 0, 1) := by decide +kernel
theorem dX7_next_23 : decode cX7_next 23 = .ok (.getfield 35, 3) := by decide +kernel
theorem dX7_next_26 : decode cX7_next 26 = .ok (.iload_n 1, 1) := by decide +kernel
theorem dX7_next_27 : decode cX7_next 27 = .ok (.iaload, 1) := by decide +kernel
theorem dX7_next_28 : decode cX7_next 28 = .ok (.goto 4, 3) := by decide +kernel
theorem dX7_next_31 : decode cX7_next 31 = .ok (.iconst (-1), 1) := by decide +kernel
theorem dX7_next_32 : decode cX7_next 32 = .ok (.ireturn, 1) := by decide +kernel
set_option maxRecDepth 20000 in
theorem ggX7_one_X7_oneAt : GoodIn wsX7_one wsX7_oneAt := goodIn_r _ [6, 7, 8, 9, 10, 11, 12, 13, 14, 15, 16, 17, 18, 19, 20, 21, 22, 23, 24, 25, 26] (by decide +kernel) (by decide +kernel)
set_option maxRecDepth 20000 in
theorem gX7_one_X7_oneAt : GoodIn wsX7_one (wsV RX7 102 RX7 yX7_oneAt wsX7_oneAt) := goodIn_app (goodIn_of _ (by decide +kernel)) ggX7_one_X7_oneAt
theorem dX7_one_0 : decode cX7_one 0 = .ok (.iload_n 1, 1) := by decide +kernel
theorem dX7_one_1 : decode cX7_one 1 = .ok (.ifCond .ge 8, 3) := by decide +kernel
theorem dX7_one_4 : decode cX7_one 4 = .ok (.ldc 156, 2) := by decide +kernel
theorem dX7_one_6 : decode cX7_one 6 = .ok (.goto 8, 3) := by decide +kernel
theorem dX7_one_9 : decode cX7_one 9 = .ok (.aload_n 0, 1) := by decide +kernel
theorem dX7_one_10 : decode cX7_one 10 = .ok (.iload_n 1, 1) := by decide +kernel
theorem dX7_one_11 : decode cX7_one 11 = .ok (.invokevirtual 102, 3) := by decide +kernel
theorem dX7_one_14 : decode cX7_one 14 = .ok (.ireturn, 1) := by decide +kernel
set_option maxRecDepth 20000 in
theorem ggX7_read_X7_isShelf : GoodIn wsX7_read wsX7_isShelf := goodIn_r _ [8, 9, 10, 11, 7, 12] (by decide +kernel) (by decide +kernel)
set_option maxRecDepth 20000 in
theorem gX7_read_X7_isShelf : GoodIn wsX7_read (va_wsS RX7 160 yX7_isShelf wsX7_isShelf) := goodIn_app (goodIn_of _ (by decide +kernel)) ggX7_read_X7_isShelf
set_option maxRecDepth 20000 in
theorem ggX7_read_X7_layWorth : GoodIn wsX7_read wsX7_layWorth := goodIn_r _ [16, 3, 4, 17, 18, 19, 20, 21, 22, 23, 7, 24, 25, 26, 27, 28, 29, 30, 10, 11, 12, 65, 66, 67, 68, 69, 70, 71, 72, 73, 74, 75, 76, 77, 78, 79, 80, 81, 82, 83] (by decide +kernel) (by decide +kernel)
set_option maxRecDepth 20000 in
theorem gX7_read_X7_layWorth : GoodIn wsX7_read (wsV RX7 135 RX7 yX7_layWorth wsX7_layWorth) := goodIn_app (goodIn_of _ (by decide +kernel)) ggX7_read_X7_layWorth
set_option maxRecDepth 20000 in
theorem ggX7_read_X7_set : GoodIn wsX7_read wsX7_set := goodIn_r _ [34, 17, 35, 36, 37, 7, 38, 39, 40, 41, 42, 43, 44, 45, 46, 47, 48, 49, 50, 51, 52, 53, 54, 55, 56, 65, 66, 67, 68, 69, 70, 71, 72, 73, 74, 75, 76, 77, 78, 79, 80, 81, 82, 83] (by decide +kernel) (by decide +kernel)
set_option maxRecDepth 20000 in
theorem gX7_read_X7_set : GoodIn wsX7_read (wsV RX7 164 RX7 yX7_set wsX7_set) := goodIn_app (goodIn_of _ (by decide +kernel)) ggX7_read_X7_set
set_option maxRecDepth 20000 in
theorem ggX7_read_X7_shiftNow : GoodIn wsX7_read wsX7_shiftNow := goodIn_r _ [60, 25, 61, 62, 63, 7, 64, 26, 65, 66, 67, 68, 69, 70, 71, 72, 73, 74, 75, 76, 77, 78, 79, 80, 81, 82, 83] (by decide +kernel) (by decide +kernel)
set_option maxRecDepth 20000 in
theorem gX7_read_X7_shiftNow : GoodIn wsX7_read (wsV RX7 192 RX7 yX7_shiftNow wsX7_shiftNow) := goodIn_app (goodIn_of _ (by decide +kernel)) ggX7_read_X7_shiftNow
theorem dX7_read_0 : decode cX7_read 0 = .ok (.iload_n 1, 1) := by decide +kernel
theorem dX7_read_1 : decode cX7_read 1 = .ok (.invokestatic 160, 3) := by decide +kernel
theorem dX7_read_4 : decode cX7_read 4 = .ok (.ifCond .ne 6, 3) := by decide +kernel
theorem dX7_read_7 : decode cX7_read 7 = .ok (.ldc 163, 2) := by decide +kernel
theorem dX7_read_9 : decode cX7_read 9 = .ok (.ireturn, 1) := by decide +kernel
theorem dX7_read_10 : decode cX7_read 10 = .ok (.aload_n 0, 1) := by decide +kernel
theorem dX7_read_11 : decode cX7_read 11 = .ok (.invokevirtual 135, 3) := by decide +kernel
theorem dX7_read_14 : decode cX7_read 14 = .ok (.ifCond .ne 6, 3) := by decide +kernel
theorem dX7_read_17 : decode cX7_read 17 = .ok (.ldc 139, 2) := by decide +kernel
theorem dX7_read_19 : decode cX7_read 19 = .ok (.ireturn, 1) := by decide +kernel
theorem dX7_read_20 : decode cX7_read 20 = .ok (.aload_n 0, 1) := by decide +kernel
theorem dX7_read_21 : decode cX7_read 21 = .ok (.iload_n 1, 1) := by decide +kernel
theorem dX7_read_22 : decode cX7_read 22 = .ok (.aload_n 0, 1) := by decide +kernel
theorem dX7_read_23 : decode cX7_read 23 = .ok (.getfield 120, 3) := by decide +kernel
theorem dX7_read_26 : decode cX7_read 26 = .ok (.aload_n 0, 1) := by decide +kernel
theorem dX7_read_27 : decode cX7_read 27 = .ok (.getfield 124, 3) := by decide +kernel
theorem dX7_read_30 : decode cX7_read 30 = .ok (.invokevirtual 164, 3) := by decide +kernel
theorem dX7_read_33 : decode cX7_read 33 = .ok (.pop, 1) := by decide +kernel
theorem dX7_read_34 : decode cX7_read 34 = .ok (.aload_n 0, 1) := by decide +kernel
theorem dX7_read_35 : decode cX7_read 35 = .ok (.invokevirtual 192, 3) := by decide +kernel
theorem dX7_read_38 : decode cX7_read 38 = .ok (.ireturn, 1) := by decide +kernel
set_option maxRecDepth 20000 in
theorem ggX7_write_X7_isShelf : GoodIn wsX7_write wsX7_isShelf := goodIn_r _ [11, 12, 13, 14, 10, 15] (by decide +kernel) (by decide +kernel)
set_option maxRecDepth 20000 in
theorem gX7_write_X7_isShelf : GoodIn wsX7_write (va_wsS RX7 160 yX7_isShelf wsX7_isShelf) := goodIn_app (goodIn_of _ (by decide +kernel)) ggX7_write_X7_isShelf
set_option maxRecDepth 20000 in
theorem ggX7_write_X7_mOf : GoodIn wsX7_write wsX7_mOf := goodIn_r _ [19, 20, 77, 78, 79, 80, 81, 82, 83, 84, 85, 86, 87, 88, 89, 90, 91, 92, 93, 94, 95] (by decide +kernel) (by decide +kernel)
set_option maxRecDepth 20000 in
theorem gX7_write_X7_mOf : GoodIn wsX7_write (wsV RX7 168 RX7 yX7_mOf wsX7_mOf) := goodIn_app (goodIn_of _ (by decide +kernel)) ggX7_write_X7_mOf
set_option maxRecDepth 20000 in
theorem ggX7_write_X7_nOf : GoodIn wsX7_write wsX7_nOf := goodIn_r _ [24, 20, 77, 78, 79, 80, 81, 82, 83, 84, 85, 86, 87, 88, 89, 90, 91, 92, 93, 94, 95] (by decide +kernel) (by decide +kernel)
set_option maxRecDepth 20000 in
theorem gX7_write_X7_nOf : GoodIn wsX7_write (wsV RX7 171 RX7 yX7_nOf wsX7_nOf) := goodIn_app (goodIn_of _ (by decide +kernel)) ggX7_write_X7_nOf
set_option maxRecDepth 20000 in
theorem ggX7_write_X7_signOf : GoodIn wsX7_write wsX7_signOf := goodIn_r _ [28, 29, 20, 30, 31, 10, 32, 33, 34, 35, 36, 37, 77, 78, 79, 80, 81, 82, 83, 84, 85, 86, 87, 88, 89, 90, 91, 92, 93, 94, 95] (by decide +kernel) (by decide +kernel)
set_option maxRecDepth 20000 in
theorem gX7_write_X7_signOf : GoodIn wsX7_write (wsV RX7 68 RX7 yX7_signOf wsX7_signOf) := goodIn_app (goodIn_of _ (by decide +kernel)) ggX7_write_X7_signOf
set_option maxRecDepth 20000 in
theorem ggX7_write_X7_layWritten : GoodIn wsX7_write wsX7_layWritten := goodIn_r _ [41, 3, 42, 43, 44, 45, 46, 47, 48, 49, 10, 50, 20, 25, 26, 27, 28, 29, 30, 31, 32, 33, 34, 35, 36, 37, 51, 52, 53, 54, 4, 55, 56, 57, 58, 59, 60, 61, 62, 63, 64, 65, 66, 67, 68, 69, 70, 71, 72, 77, 78, 79, 80, 81, 82, 83, 84, 85, 86, 87, 88, 89, 90, 91, 92, 93, 94, 95] (by decide +kernel) (by decide +kernel)
set_option maxRecDepth 20000 in
theorem gX7_write_X7_layWritten : GoodIn wsX7_write (wsV RX7 141 RX7 yX7_layWritten wsX7_layWritten) := goodIn_app (goodIn_of _ (by decide +kernel)) ggX7_write_X7_layWritten
set_option maxRecDepth 20000 in
theorem ggX7_write_X7_figureAt : GoodIn wsX7_write wsX7_figureAt := goodIn_r _ [76, 3, 44, 4, 58, 77, 78, 79, 80, 81, 82, 83, 84, 85, 86, 87, 88, 89, 90, 91, 92, 93, 94, 95] (by decide +kernel) (by decide +kernel)
set_option maxRecDepth 20000 in
theorem gX7_write_X7_figureAt : GoodIn wsX7_write (wsV RX7 211 RX7 yX7_figureAt wsX7_figureAt) := goodIn_app (goodIn_of _ (by decide +kernel)) ggX7_write_X7_figureAt
theorem dX7_write_0 : decode cX7_write 0 = .ok (.iload_n 1, 1) := by decide +kernel
theorem dX7_write_1 : decode cX7_write 1 = .ok (.invokestatic 160, 3) := by decide +kernel
theorem dX7_write_4 : decode cX7_write 4 = .ok (.ifCond .ne 6, 3) := by decide +kernel
theorem dX7_write_7 : decode cX7_write 7 = .ok (.ldc 163, 2) := by decide +kernel
theorem dX7_write_9 : decode cX7_write 9 = .ok (.ireturn, 1) := by decide +kernel
theorem dX7_write_10 : decode cX7_write 10 = .ok (.aload_n 0, 1) := by decide +kernel
theorem dX7_write_11 : decode cX7_write 11 = .ok (.aload_n 0, 1) := by decide +kernel
theorem dX7_write_12 : decode cX7_write 12 = .ok (.iload_n 1, 1) := by decide +kernel
theorem dX7_write_13 : decode cX7_write 13 = .ok (.invokevirtual 168, 3) := by decide +kernel
theorem dX7_write_16 : decode cX7_write 16 = .ok (.i2l, 1) := by decide +kernel
theorem dX7_write_17 : decode cX7_write 17 = .ok (.aload_n 0, 1) := by decide +kernel
theorem dX7_write_18 : decode cX7_write 18 = .ok (.iload_n 1, 1) := by decide +kernel
theorem dX7_write_19 : decode cX7_write 19 = .ok (.invokevirtual 171, 3) := by decide +kernel
theorem dX7_write_22 : decode cX7_write 22 = .ok (.i2l, 1) := by decide +kernel
theorem dX7_write_23 : decode cX7_write 23 = .ok (.invokevirtual 68, 3) := by decide +kernel
theorem dX7_write_26 : decode cX7_write 26 = .ok (.ifCond .ge 6, 3) := by decide +kernel
theorem dX7_write_29 : decode cX7_write 29 = .ok (.ldc 140, 2) := by decide +kernel
theorem dX7_write_31 : decode cX7_write 31 = .ok (.ireturn, 1) := by decide +kernel
theorem dX7_write_32 : decode cX7_write 32 = .ok (.aload_n 0, 1) := by decide +kernel
theorem dX7_write_33 : decode cX7_write 33 = .ok (.aload_n 0, 1) := by decide +kernel
theorem dX7_write_34 : decode cX7_write 34 = .ok (.iload_n 1, 1) := by decide +kernel
theorem dX7_write_35 : decode cX7_write 35 = .ok (.invokevirtual 168, 3) := by decide +kernel
theorem dX7_write_38 : decode cX7_write 38 = .ok (.i2l, 1) := by decide +kernel
theorem dX7_write_39 : decode cX7_write 39 = .ok (.aload_n 0, 1) := by decide +kernel
theorem dX7_write_40 : decode cX7_write 40 = .ok (.iload_n 1, 1) := by decide +kernel
theorem dX7_write_41 : decode cX7_write 41 = .ok (.invokevirtual 171, 3) := by decide +kernel
theorem dX7_write_44 : decode cX7_write 44 = .ok (.i2l, 1) := by decide +kernel
theorem dX7_write_45 : decode cX7_write 45 = .ok (.invokevirtual 141, 3) := by decide +kernel
theorem dX7_write_48 : decode cX7_write 48 = .ok (.aload_n 0, 1) := by decide +kernel
theorem dX7_write_49 : decode cX7_write 49 = .ok (.getfield 65, 3) := by decide +kernel
theorem dX7_write_52 : decode cX7_write 52 = .ok (.iconst 1, 1) := by decide +kernel
theorem dX7_write_53 : decode cX7_write 53 = .ok (.iadd, 1) := by decide +kernel
theorem dX7_write_54 : decode cX7_write 54 = .ok (.aload_n 0, 1) := by decide +kernel
theorem dX7_write_55 : decode cX7_write 55 = .ok (.getfield 78, 3) := by decide +kernel
theorem dX7_write_58 : decode cX7_write 58 = .ok (.ifCond .le 12, 3) := by decide +kernel
theorem dX7_write_61 : decode cX7_write 61 = .ok (.iconst 1, 1) := by decide +kernel
theorem dX7_write_62 : decode cX7_write 62 = .ok (.aload_n 0, 1) := by decide +kernel
theorem dX7_write_63 : decode cX7_write 63 = .ok (.getfield 78, 3) := by decide +kernel
theorem dX7_write_66 : decode cX7_write 66 = .ok (.iadd, 1) := by decide +kernel
theorem dX7_write_67 : decode cX7_write 67 = .ok (.goto 4, 3) := by decide +kernel
theorem dX7_write_70 : decode cX7_write 70 = .ok (.iconst 0, 1) := by decide +kernel
theorem dX7_write_71 : decode cX7_write 71 = .ok (.iadd, 1) := by decide +kernel
theorem dX7_write_72 : decode cX7_write 72 = .ok (.istore_n 2, 1) := by decide +kernel
theorem dX7_write_73 : decode cX7_write 73 = .ok (.iload_n 2, 1) := by decide +kernel
theorem dX7_write_74 : decode cX7_write 74 = .ok (.bipush 60, 2) := by decide +kernel
theorem dX7_write_76 : decode cX7_write 76 = .ok (.if_icmp .le 6, 3) := by decide +kernel
theorem dX7_write_79 : decode cX7_write 79 = .ok (.ldc 139, 2) := by decide +kernel
theorem dX7_write_81 : decode cX7_write 81 = .ok (.ireturn, 1) := by decide +kernel
theorem dX7_write_82 : decode cX7_write 82 = .ok (.aload_n 0, 1) := by decide +kernel
theorem dX7_write_83 : decode cX7_write 83 = .ok (.iconst 0, 1) := by decide +kernel
theorem dX7_write_84 : decode cX7_write 84 = .ok (.putfield 99, 3) := by decide +kernel
theorem dX7_write_87 : decode cX7_write 87 = .ok (.aload_n 0, 1) := by decide +kernel
theorem dX7_write_88 : decode cX7_write 88 = .ok (.getfield 65, 3) := by decide +kernel
theorem dX7_write_91 : decode cX7_write 91 = .ok (.istore_n 3, 1) := by decide +kernel
theorem dX7_write_92 : decode cX7_write 92 = .ok (.iload_n 3, 1) := by decide +kernel
theorem dX7_write_93 : decode cX7_write 93 = .ok (.aload_n 0, 1) := by decide +kernel
theorem dX7_write_94 : decode cX7_write 94 = .ok (.getfield 78, 3) := by decide +kernel
theorem dX7_write_97 : decode cX7_write 97 = .ok (.ineg, 1) := by decide +kernel
theorem dX7_write_98 : decode cX7_write 98 = .ok (.if_icmp .lt 62, 3) := by decide +kernel
theorem dX7_write_101 : decode cX7_write 101 = .ok (.iload_n 3, 1) := by decide +kernel
theorem dX7_write_102 : decode cX7_write 102 = .ok (.iconst (-1), 1) := by decide +kernel
theorem dX7_write_103 : decode cX7_write 103 = .ok (.if_icmp .ne 24, 3) := by decide +kernel
theorem dX7_write_106 : decode cX7_write 106 = .ok (.aload_n 0, 1) := by decide +kernel
theorem dX7_write_107 : decode cX7_write 107 = .ok (.getfield 13, 3) := by decide +kernel
theorem dX7_write_110 : decode cX7_write 110 = .ok (.aload_n 0, 1) := by decide +kernel
theorem dX7_write_111 : decode cX7_write 111 = .ok (.getfield 99, 3) := by decide +kernel
theorem dX7_write_114 : decode cX7_write 114 = .ok (.bipush 46, 2) := by decide +kernel
theorem dX7_write_116 : decode cX7_write 116 = .ok (.iastore, 1) := by decide +kernel
theorem dX7_write_117 : decode cX7_write 117 = .ok (.aload_n 0, 1) := by decide +kernel
theorem dX7_write_118 : decode cX7_write 118 = .ok (.dup, 1) := by decide +kernel
theorem dX7_write_119 : decode cX7_write 119 = .ok (.getfield 99, 3) := by decide +kernel
theorem dX7_write_122 : decode cX7_write 122 = .ok (.iconst 1, 1) := by decide +kernel
theorem dX7_write_123 : decode cX7_write 123 = .ok (.iadd, 1) := by decide +kernel
theorem dX7_write_124 : decode cX7_write 124 = .ok (.putfield 99, 3) := by decide +kernel
theorem dX7_write_127 : decode cX7_write 127 = .ok (.aload_n 0, 1) := by decide +kernel
theorem dX7_write_128 : decode cX7_write 128 = .ok (.getfield 13, 3) := by decide +kernel
theorem dX7_write_131 : decode cX7_write 131 = .ok (.aload_n 0, 1) := by decide +kernel
theorem dX7_write_132 : decode cX7_write 132 = .ok (.getfield 99, 3) := by decide +kernel
theorem dX7_write_135 : decode cX7_write 135 = .ok (.bipush 48, 2) := by decide +kernel
theorem dX7_write_137 : decode cX7_write 137 = .ok (.aload_n 0, 1) := by decide +kernel
theorem dX7_write_138 : decode cX7_write 138 = .ok (.iload_n 3, 1) := by decide +kernel
theorem dX7_write_139 : decode cX7_write 139 = .ok (.invokevirtual 211, 3) := by decide +kernel
theorem dX7_write_142 : decode cX7_write 142 = .ok (.iadd, 1) := by decide +kernel
theorem dX7_write_143 : decode cX7_write 143 = .ok (.iastore, 1) := by decide +kernel
theorem dX7_write_144 : decode cX7_write 144 = .ok (.aload_n 0, 1) := by decide +kernel
theorem dX7_write_145 : decode cX7_write 145 = .ok (.dup, 1) := by decide +kernel
theorem dX7_write_146 : decode cX7_write 146 = .ok (.getfield 99, 3) := by decide +kernel
theorem dX7_write_149 : decode cX7_write 149 = .ok (.iconst 1, 1) := by decide +kernel
theorem dX7_write_150 : decode cX7_write 150 = .ok (.iadd, 1) := by decide +kernel
theorem dX7_write_151 : decode cX7_write 151 = .ok (.putfield 99, 3) := by decide +kernel
theorem dX7_write_154 : decode cX7_write 154 = .ok (.iinc 3 (-1), 3) := by decide +kernel
theorem dX7_write_157 : decode cX7_write 157 = .ok (.goto (-65), 3) := by decide +kernel
theorem dX7_write_160 : decode cX7_write 160 = .ok (.aload_n 0, 1) := by decide +kernel
theorem dX7_write_161 : decode cX7_write 161 = .ok (.getfield 99, 3) := by decide +kernel
theorem dX7_write_164 : decode cX7_write 164 = .ok (.ireturn, 1) := by decide +kernel
set_option maxRecDepth 20000 in
theorem ggX7_keep_X7_in : GoodIn wsX7_keep wsX7_in := goodIn_r _ [7] (by decide +kernel) (by decide +kernel)
set_option maxRecDepth 20000 in
theorem gX7_keep_X7_in : GoodIn wsX7_keep (va_wsS RX7 131 yX7_in wsX7_in) := goodIn_app (goodIn_of _ (by decide +kernel)) ggX7_keep_X7_in
set_option maxRecDepth 20000 in
theorem ggX7_keep_X7_copyRow : GoodIn wsX7_keep wsX7_copyRow := goodIn_r _ [11, 12, 13, 14, 15, 16, 17, 18, 19, 20, 21, 22, 23, 24, 25, 26, 27, 28, 29, 30, 31] (by decide +kernel) (by decide +kernel)
set_option maxRecDepth 20000 in
theorem gX7_keep_X7_copyRow : GoodIn wsX7_keep (wsV RX7 38 RX7 yX7_copyRow wsX7_copyRow) := goodIn_app (goodIn_of _ (by decide +kernel)) ggX7_keep_X7_copyRow
theorem dX7_keep_0 : decode cX7_keep 0 = .ok (.iload_n 1, 1) := by decide +kernel
theorem dX7_keep_1 : decode cX7_keep 1 = .ok (.i2l, 1) := by decide +kernel
theorem dX7_keep_2 : decode cX7_keep 2 = .ok (.lconst 0, 1) := by decide +kernel
theorem dX7_keep_3 : decode cX7_keep 3 = .ok (.lconst 1, 1) := by decide +kernel
theorem dX7_keep_4 : decode cX7_keep 4 = .ok (.invokestatic 131, 3) := by decide +kernel
theorem dX7_keep_7 : decode cX7_keep 7 = .ok (.ifCond .ne 6, 3) := by decide +kernel
theorem dX7_keep_10 : decode cX7_keep 10 = .ok (.ldc 163, 2) := by decide +kernel
theorem dX7_keep_12 : decode cX7_keep 12 = .ok (.ireturn, 1) := by decide +kernel
theorem dX7_keep_13 : decode cX7_keep 13 = .ok (.aload_n 0, 1) := by decide +kernel
theorem dX7_keep_14 : decode cX7_keep 14 = .ok (.iconst 0, 1) := by decide +kernel
theorem dX7_keep_15 : decode cX7_keep 15 = .ok (.bipush 90, 2) := by decide +kernel
theorem dX7_keep_17 : decode cX7_keep 17 = .ok (.bipush 10, 2) := by decide +kernel
theorem dX7_keep_19 : decode cX7_keep 19 = .ok (.iload_n 1, 1) := by decide +kernel
theorem dX7_keep_20 : decode cX7_keep 20 = .ok (.imul, 1) := by decide +kernel
theorem dX7_keep_21 : decode cX7_keep 21 = .ok (.iadd, 1) := by decide +kernel
theorem dX7_keep_22 : decode cX7_keep 22 = .ok (.invokevirtual 38, 3) := by decide +kernel
theorem dX7_keep_25 : decode cX7_keep 25 = .ok (.aload_n 0, 1) := by decide +kernel
theorem dX7_keep_26 : decode cX7_keep 26 = .ok (.dup, 1) := by decide +kernel
theorem dX7_keep_27 : decode cX7_keep 27 = .ok (.getfield 223, 3) := by decide +kernel
theorem dX7_keep_30 : decode cX7_keep 30 = .ok (.iconst 1, 1) := by decide +kernel
theorem dX7_keep_31 : decode cX7_keep 31 = .ok (.iload_n 1, 1) := by decide +kernel
theorem dX7_keep_32 : decode cX7_keep 32 = .ok (.ishl, 1) := by decide +kernel
theorem dX7_keep_33 : decode cX7_keep 33 = .ok (.ior, 1) := by decide +kernel
theorem dX7_keep_34 : decode cX7_keep 34 = .ok (.putfield 223, 3) := by decide +kernel
theorem dX7_keep_37 : decode cX7_keep 37 = .ok (.aload_n 0, 1) := by decide +kernel
theorem dX7_keep_38 : decode cX7_keep 38 = .ok (.iconst 0, 1) := by decide +kernel
theorem dX7_keep_39 : decode cX7_keep 39 = .ok (.putfield 42, 3) := by decide +kernel
theorem dX7_keep_42 : decode cX7_keep 42 = .ok (.iconst 1, 1) := by decide +kernel
theorem dX7_keep_43 : decode cX7_keep 43 = .ok (.ireturn, 1) := by decide +kernel
set_option maxRecDepth 20000 in
theorem ggX7_goBack_X7_in : GoodIn wsX7_goBack wsX7_in := goodIn_r _ [8] (by decide +kernel) (by decide +kernel)
set_option maxRecDepth 20000 in
theorem gX7_goBack_X7_in : GoodIn wsX7_goBack (va_wsS RX7 131 yX7_in wsX7_in) := goodIn_app (goodIn_of _ (by decide +kernel)) ggX7_goBack_X7_in
set_option maxRecDepth 20000 in
theorem ggX7_goBack_X7_has : GoodIn wsX7_goBack wsX7_has := goodIn_r _ [11] (by decide +kernel) (by decide +kernel)
set_option maxRecDepth 20000 in
theorem gX7_goBack_X7_has : GoodIn wsX7_goBack (va_wsS RX7 226 yX7_has wsX7_has) := goodIn_app (goodIn_of _ (by decide +kernel)) ggX7_goBack_X7_has
set_option maxRecDepth 20000 in
theorem ggX7_goBack_X7_copyRow : GoodIn wsX7_goBack wsX7_copyRow := goodIn_r _ [15, 16, 17, 18, 19, 20, 21, 22, 23, 24, 25, 26, 27, 28, 29, 30, 31, 32, 33, 34, 35] (by decide +kernel) (by decide +kernel)
set_option maxRecDepth 20000 in
theorem gX7_goBack_X7_copyRow : GoodIn wsX7_goBack (wsV RX7 38 RX7 yX7_copyRow wsX7_copyRow) := goodIn_app (goodIn_of _ (by decide +kernel)) ggX7_goBack_X7_copyRow
theorem dX7_goBack_0 : decode cX7_goBack 0 = .ok (.iload_n 1, 1) := by decide +kernel
theorem dX7_goBack_1 : decode cX7_goBack 1 = .ok (.i2l, 1) := by decide +kernel
theorem dX7_goBack_2 : decode cX7_goBack 2 = .ok (.lconst 0, 1) := by decide +kernel
theorem dX7_goBack_3 : decode cX7_goBack 3 = .ok (.lconst 1, 1) := by decide +kernel
theorem dX7_goBack_4 : decode cX7_goBack 4 = .ok (.invokestatic 131, 3) := by decide +kernel
theorem dX7_goBack_7 : decode cX7_goBack 7 = .ok (.ifCond .ne 6, 3) := by decide +kernel
theorem dX7_goBack_10 : decode cX7_goBack 10 = .ok (.ldc 163, 2) := by decide +kernel
theorem dX7_goBack_12 : decode cX7_goBack 12 = .ok (.ireturn, 1) := by decide +kernel
theorem dX7_goBack_13 : decode cX7_goBack 13 = .ok (.aload_n 0, 1) := by decide +kernel
theorem dX7_goBack_14 : decode cX7_goBack 14 = .ok (.getfield 223, 3) := by decide +kernel
theorem dX7_goBack_17 : decode cX7_goBack 17 = .ok (.iload_n 1, 1) := by decide +kernel
theorem dX7_goBack_18 : decode cX7_goBack 18 = .ok (.invokestatic 226, 3) := by decide +kernel
theorem dX7_goBack_21 : decode cX7_goBack 21 = .ok (.ifCond .ne 6, 3) := by decide +kernel
theorem dX7_goBack_24 : decode cX7_goBack 24 = .ok (.ldc 140, 2) := by decide +kernel
theorem dX7_goBack_26 : decode cX7_goBack 26 = .ok (.ireturn, 1) := by decide +kernel
theorem dX7_goBack_27 : decode cX7_goBack 27 = .ok (.aload_n 0, 1) := by decide +kernel
theorem dX7_goBack_28 : decode cX7_goBack 28 = .ok (.bipush 90, 2) := by decide +kernel
theorem dX7_goBack_30 : decode cX7_goBack 30 = .ok (.bipush 10, 2) := by decide +kernel
theorem dX7_goBack_32 : decode cX7_goBack 32 = .ok (.iload_n 1, 1) := by decide +kernel
theorem dX7_goBack_33 : decode cX7_goBack 33 = .ok (.imul, 1) := by decide +kernel
theorem dX7_goBack_34 : decode cX7_goBack 34 = .ok (.iadd, 1) := by decide +kernel
theorem dX7_goBack_35 : decode cX7_goBack 35 = .ok (.iconst 0, 1) := by decide +kernel
theorem dX7_goBack_36 : decode cX7_goBack 36 = .ok (.invokevirtual 38, 3) := by decide +kernel
theorem dX7_goBack_39 : decode cX7_goBack 39 = .ok (.aload_n 0, 1) := by decide +kernel
theorem dX7_goBack_40 : decode cX7_goBack 40 = .ok (.iconst 0, 1) := by decide +kernel
theorem dX7_goBack_41 : decode cX7_goBack 41 = .ok (.putfield 42, 3) := by decide +kernel
theorem dX7_goBack_44 : decode cX7_goBack 44 = .ok (.iconst 1, 1) := by decide +kernel
theorem dX7_goBack_45 : decode cX7_goBack 45 = .ok (.ireturn, 1) := by decide +kernel
theorem dJ13_compare_74951_0 : decode cJ13_compare_74951 0 = .ok (.lload_n 0, 1) := by decide +kernel
theorem dJ13_compare_74951_1 : decode cJ13_compare_74951 1 = .ok (.lload_n 2, 1) := by decide +kernel
theorem dJ13_compare_74951_2 : decode cJ13_compare_74951 2 = .ok (.lcmp, 1) := by decide +kernel
theorem dJ13_compare_74951_3 : decode cJ13_compare_74951 3 = .ok (.ifCond .ge 7, 3) := by decide +kernel
theorem dJ13_compare_74951_6 : decode cJ13_compare_74951 6 = .ok (.iconst (-1), 1) := by decide +kernel
theorem dJ13_compare_74951_7 : decode cJ13_compare_74951 7 = .ok (.goto 14, 3) := by decide +kernel
theorem dJ13_compare_74951_10 : decode cJ13_compare_74951 10 = .ok (.lload_n 0, 1) := by decide +kernel
theorem dJ13_compare_74951_11 : decode cJ13_compare_74951 11 = .ok (.lload_n 2, 1) := by decide +kernel
theorem dJ13_compare_74951_12 : decode cJ13_compare_74951 12 = .ok (.lcmp, 1) := by decide +kernel
theorem dJ13_compare_74951_13 : decode cJ13_compare_74951 13 = .ok (.ifCond .ne 7, 3) := by decide +kernel
theorem dJ13_compare_74951_16 : decode cJ13_compare_74951 16 = .ok (.iconst 0, 1) := by decide +kernel
theorem dJ13_compare_74951_17 : decode cJ13_compare_74951 17 = .ok (.goto 4, 3) := by decide +kernel
theorem dJ13_compare_74951_20 : decode cJ13_compare_74951 20 = .ok (.iconst 1, 1) := by decide +kernel
theorem dJ13_compare_74951_21 : decode cJ13_compare_74951 21 = .ok (.ireturn, 1) := by decide +kernel
theorem dJ9_abs_067f4_0 : decode cJ9_abs_067f4 0 = .ok (.lload_n 0, 1) := by decide +kernel
theorem dJ9_abs_067f4_1 : decode cJ9_abs_067f4 1 = .ok (.lconst 0, 1) := by decide +kernel
theorem dJ9_abs_067f4_2 : decode cJ9_abs_067f4 2 = .ok (.lcmp, 1) := by decide +kernel
theorem dJ9_abs_067f4_3 : decode cJ9_abs_067f4 3 = .ok (.ifCond .ge 8, 3) := by decide +kernel
theorem dJ9_abs_067f4_6 : decode cJ9_abs_067f4 6 = .ok (.lload_n 0, 1) := by decide +kernel
theorem dJ9_abs_067f4_7 : decode cJ9_abs_067f4 7 = .ok (.lneg, 1) := by decide +kernel
theorem dJ9_abs_067f4_8 : decode cJ9_abs_067f4 8 = .ok (.goto 4, 3) := by decide +kernel
theorem dJ9_abs_067f4_11 : decode cJ9_abs_067f4 11 = .ok (.lload_n 0, 1) := by decide +kernel
theorem dJ9_abs_067f4_12 : decode cJ9_abs_067f4 12 = .ok (.lreturn, 1) := by decide +kernel
set_option maxRecDepth 20000 in
theorem ggL_law_X6_init : GoodIn wsL_law wsX6_init := goodIn_r _ [8, 9, 10, 11, 12, 13, 14, 15, 16, 17, 18, 19, 20, 21, 22, 23, 24, 25, 26, 27, 28, 29, 30, 31, 32, 33, 34, 35, 36, 37, 38, 39, 40, 41, 42, 43, 44, 45, 46, 47, 48, 49, 50, 51, 52, 53, 54, 55, 56, 57, 58, 59, 60, 61, 62, 63, 64, 65, 66, 67, 68, 69, 70, 71, 72, 73, 74, 75, 76, 77, 78, 79, 80, 81, 82, 83, 84, 85, 86, 87, 670, 671, 672, 646, 647, 648, 649, 650, 673, 674, 675, 676, 677, 678, 679, 680, 681, 682, 683, 684, 685, 686, 687, 688, 689, 690, 691, 692, 693, 694, 695, 696, 697, 698, 699, 700, 701] (by decide +kernel) (by decide +kernel)
set_option maxRecDepth 20000 in
theorem gL_law_X6_init : GoodIn wsL_law (wsX6_init) := ggL_law_X6_init
set_option maxRecDepth 20000 in
theorem ggL_law_X7_init : GoodIn wsL_law wsX7_init := goodIn_r _ [90, 91, 10, 11, 39, 92, 93, 94, 95, 77, 96, 97, 98, 99, 100, 651, 652, 653, 654, 655, 656, 657, 658, 659, 660, 661, 662, 663, 664, 665, 666, 667, 668, 669] (by decide +kernel) (by decide +kernel)
set_option maxRecDepth 20000 in
theorem gL_law_X7_init : GoodIn wsL_law (wsX7_init) := ggL_law_X7_init
set_option maxRecDepth 20000 in
theorem ggL_law_X6_base : GoodIn wsL_law wsX6_base := goodIn_r _ [104, 105, 19, 15, 106, 107, 37, 108, 109, 110, 111, 18, 112, 50, 51, 52, 113, 114, 115, 14, 116, 38, 40, 117, 118, 119, 120, 41, 121, 122, 123, 124, 45, 46, 125, 126, 127, 128, 646, 647, 648, 649, 650, 670, 671, 672, 673, 674, 675, 700, 701] (by decide +kernel) (by decide +kernel)
set_option maxRecDepth 20000 in
theorem gL_law_X6_base : GoodIn wsL_law (wsV RL 13 RX6 yX6_base wsX6_base) := goodIn_app (goodIn_of _ (by decide +kernel)) ggL_law_X6_base
set_option maxRecDepth 20000 in
theorem ggL_law_X7_base : GoodIn wsL_law wsX7_base := goodIn_r _ [132, 133, 134, 135, 92, 136, 137, 5, 138, 139, 140, 141, 142, 143, 144, 145, 146, 147, 148, 149, 150, 151, 651, 652, 653, 654, 655, 656, 657, 658, 659, 660, 661, 662, 663, 664, 665, 666, 667, 668, 669] (by decide +kernel) (by decide +kernel)
set_option maxRecDepth 20000 in
theorem gL_law_X7_base : GoodIn wsL_law (wsV RL 17 RX7 yX7_base wsX7_base) := goodIn_app (goodIn_of _ (by decide +kernel)) ggL_law_X7_base
set_option maxRecDepth 20000 in
theorem ggL_law_X6_put : GoodIn wsL_law wsX6_put := goodIn_r _ [155, 156, 105, 157, 158, 2, 159, 160, 161, 162, 163, 164, 165, 166, 167, 168, 169, 19, 15, 109, 110, 111, 18, 112, 50, 51, 52, 113, 114, 115, 14, 116, 38, 40, 117, 118, 119, 120, 41, 170, 171, 172, 173, 174, 175, 176, 37, 177, 178, 45, 179, 180, 181, 182, 183, 184, 185, 186, 187, 46, 646, 647, 648, 649, 650, 670, 671, 672, 673, 674, 675, 700, 701] (by decide +kernel) (by decide +kernel)
set_option maxRecDepth 20000 in
theorem gL_law_X6_put : GoodIn wsL_law (wsV RL 18 RX6 yX6_put wsX6_put) := goodIn_app (goodIn_of _ (by decide +kernel)) ggL_law_X6_put
set_option maxRecDepth 20000 in
theorem ggL_law_X7_put : GoodIn wsL_law wsX7_put := goodIn_r _ [191, 192, 193, 194, 135, 195, 196, 5, 197, 198, 136, 137, 138, 199, 200, 201, 202, 92, 139, 140, 141, 142, 143, 144, 145, 146, 147, 203, 204, 205, 206, 207, 208, 209, 210, 211, 212, 213, 214, 215, 651, 652, 653, 654, 655, 656, 657, 658, 659, 660, 661, 662, 663, 664, 665, 666, 667, 668, 669] (by decide +kernel) (by decide +kernel)
set_option maxRecDepth 20000 in
theorem gL_law_X7_put : GoodIn wsL_law (wsV RL 22 RX7 yX7_put wsX7_put) := goodIn_app (goodIn_of _ (by decide +kernel)) ggL_law_X7_put
set_option maxRecDepth 20000 in
theorem ggL_law_X6_deed : GoodIn wsL_law wsX6_deed := goodIn_r _ [219, 156, 15, 105, 157, 158, 2, 159, 165, 166, 167, 168, 169, 19, 160, 161, 162, 163, 164, 109, 110, 111, 18, 112, 50, 51, 52, 113, 114, 115, 14, 116, 38, 40, 117, 118, 119, 120, 41, 170, 171, 172, 173, 174, 175, 176, 37, 177, 178, 45, 179, 180, 181, 182, 183, 184, 185, 186, 187, 46, 220, 221, 222, 223, 224, 225, 226, 227, 646, 647, 648, 649, 650, 670, 671, 672, 700, 701, 673, 674, 675] (by decide +kernel) (by decide +kernel)
set_option maxRecDepth 20000 in
theorem gL_law_X6_deed : GoodIn wsL_law (wsV RL 23 RX6 yX6_deed wsX6_deed) := goodIn_app (goodIn_of _ (by decide +kernel)) ggL_law_X6_deed
set_option maxRecDepth 20000 in
theorem ggL_law_X7_deed : GoodIn wsL_law wsX7_deed := goodIn_r _ [231, 192, 92, 135, 195, 196, 5, 197, 198, 136, 137, 138, 232, 233, 234, 235, 236, 237, 238, 239, 240, 241, 242, 243, 193, 194, 244, 199, 200, 201, 202, 139, 140, 141, 142, 143, 144, 145, 146, 147, 203, 204, 205, 206, 207, 208, 209, 210, 211, 212, 213, 214, 215, 651, 652, 653, 654, 655, 656, 657, 658, 659, 660, 661, 662, 663, 664, 665, 666, 667, 668, 669] (by decide +kernel) (by decide +kernel)
set_option maxRecDepth 20000 in
theorem gL_law_X7_deed : GoodIn wsL_law (wsV RL 27 RX7 yX7_deed wsX7_deed) := goodIn_app (goodIn_of _ (by decide +kernel)) ggL_law_X7_deed
set_option maxRecDepth 20000 in
theorem ggL_law_X6_drift : GoodIn wsL_law wsX6_drift := goodIn_r _ [248, 156, 249, 105, 250, 251, 15, 157, 158, 2, 159, 252, 253, 254, 255, 256, 174, 175, 176, 37, 177, 178, 45, 179, 180, 181, 182, 183, 184, 185, 186, 187, 46, 165, 166, 167, 168, 169, 19, 160, 161, 162, 163, 164, 109, 110, 111, 18, 112, 50, 51, 52, 113, 114, 115, 14, 116, 38, 40, 117, 118, 119, 120, 41, 170, 171, 172, 173, 646, 647, 648, 649, 650, 670, 671, 672, 700, 701, 673, 674, 675] (by decide +kernel) (by decide +kernel)
set_option maxRecDepth 20000 in
theorem gL_law_X6_drift : GoodIn wsL_law (wsV RL 28 RX6 yX6_drift wsX6_drift) := goodIn_app (goodIn_of _ (by decide +kernel)) ggL_law_X6_drift
set_option maxRecDepth 20000 in
theorem ggL_law_X7_drift : GoodIn wsL_law wsX7_drift := goodIn_r _ [260, 192, 194, 135, 261, 262, 263, 264, 195, 196, 5, 197, 198, 136, 137, 138, 203, 204, 205, 206, 207, 92, 208, 209, 210, 211, 212, 213, 214, 215, 199, 200, 201, 202, 139, 140, 141, 142, 143, 144, 145, 146, 147, 232, 233, 234, 235, 651, 652, 653, 654, 655, 656, 657, 658, 659, 660, 661, 662, 663, 664, 665, 666, 667, 668, 669] (by decide +kernel) (by decide +kernel)
set_option maxRecDepth 20000 in
theorem gL_law_X7_drift : GoodIn wsL_law (wsV RL 31 RX7 yX7_drift wsX7_drift) := goodIn_app (goodIn_of _ (by decide +kernel)) ggL_law_X7_drift
set_option maxRecDepth 20000 in
theorem ggL_law_X6_undo : GoodIn wsL_law wsX6_undo := goodIn_r _ [268, 19, 269, 15, 270, 271, 272, 18, 273, 52, 50, 51, 274, 275, 276, 14, 277, 38, 40, 117, 118, 119, 120, 41, 278, 122, 123, 37, 124, 45, 46, 646, 647, 648, 649, 650, 673, 674, 675, 670, 671, 672, 700, 701] (by decide +kernel) (by decide +kernel)
set_option maxRecDepth 20000 in
theorem gL_law_X6_undo : GoodIn wsL_law (wsV RL 32 RX6 yX6_undo wsX6_undo) := goodIn_app (goodIn_of _ (by decide +kernel)) ggL_law_X6_undo
set_option maxRecDepth 20000 in
theorem ggL_law_X7_undo : GoodIn wsL_law wsX7_undo := goodIn_r _ [282, 143, 283, 144, 145, 146, 5, 147, 92, 651, 652, 653, 654, 655, 656, 657, 658, 659, 660, 661, 662, 663, 664, 665, 666, 667, 668, 669] (by decide +kernel) (by decide +kernel)
set_option maxRecDepth 20000 in
theorem gL_law_X7_undo : GoodIn wsL_law (wsV RL 36 RX7 yX7_undo wsX7_undo) := goodIn_app (goodIn_of _ (by decide +kernel)) ggL_law_X7_undo
set_option maxRecDepth 20000 in
theorem ggL_law_X6_told : GoodIn wsL_law wsX6_told := goodIn_r _ [287, 15, 27, 288, 169, 31, 19, 105, 125, 126, 127, 37, 128, 46, 45, 289, 290, 291, 292, 293, 294, 295, 296, 178, 183, 184, 185, 186, 187, 297, 298, 299, 300, 301, 302, 303, 26, 304, 64, 305, 306, 307, 308, 65, 309, 310, 311, 312, 62, 313, 314, 315, 316, 317, 318, 319, 320, 321, 322, 323, 324, 325, 326, 327, 328, 329, 330, 66, 67, 331, 225, 226, 227, 332, 221, 222, 223, 161, 2, 162, 163, 164, 333, 334, 335, 336, 337, 338, 339, 30, 340, 84, 85, 86, 87, 82, 83, 341, 342, 343, 344, 78, 79, 345, 346, 347, 175, 176, 177, 179, 180, 181, 182, 348, 349, 350, 351, 72, 71, 352, 353, 354, 355, 356, 357, 358, 359, 73, 75, 76, 80, 81, 74, 360, 361, 362, 363, 364, 365, 366, 367, 368, 369, 370, 371, 646, 647, 648, 649, 650, 670, 671, 672, 700, 701, 678, 679, 680, 681, 682, 683, 673, 674, 675, 684, 685, 686, 687, 688, 689, 690, 691, 692, 693, 694, 695, 696, 697, 698, 699] (by decide +kernel) (by decide +kernel)
set_option maxRecDepth 20000 in
theorem gL_law_X6_told : GoodIn wsL_law (wsV RL 37 RX6 yX6_told wsX6_told) := goodIn_app (goodIn_of _ (by decide +kernel)) ggL_law_X6_told
set_option maxRecDepth 20000 in
theorem ggL_law_X7_told : GoodIn wsL_law wsX7_told := goodIn_r _ [375, 92, 376, 143, 135, 148, 149, 150, 5, 151, 377, 378, 379, 380, 207, 211, 212, 213, 214, 215, 381, 382, 383, 384, 385, 386, 387, 388, 389, 390, 391, 392, 393, 394, 93, 100, 395, 396, 397, 398, 399, 400, 401, 402, 403, 404, 405, 406, 407, 408, 409, 410, 411, 412, 413, 414, 415, 416, 417, 418, 419, 420, 421, 422, 423, 424, 425, 426, 244, 427, 428, 429, 430, 431, 432, 433, 193, 194, 136, 137, 138, 434, 435, 436, 437, 283, 438, 439, 203, 204, 205, 206, 208, 209, 210, 440, 441, 442, 443, 98, 99, 94, 96, 97, 444, 445, 446, 447, 448, 449, 450, 451, 452, 453, 454, 95, 455, 456, 457, 458, 651, 652, 653, 654, 655, 656, 657, 658, 659, 660, 661, 662, 663, 664, 665, 666, 667, 668, 669] (by decide +kernel) (by decide +kernel)
set_option maxRecDepth 20000 in
theorem gL_law_X7_told : GoodIn wsL_law (wsV RL 41 RX7 yX7_told wsX7_told) := goodIn_app (goodIn_of _ (by decide +kernel)) ggL_law_X7_told
set_option maxRecDepth 20000 in
theorem ggL_law_X6_shelf : GoodIn wsL_law wsX6_shelf := goodIn_r _ [462, 156, 15, 31, 269, 105, 157, 158, 2, 159, 170, 171, 172, 173, 174, 175, 176, 37, 177, 178, 45, 179, 180, 181, 182, 183, 184, 185, 186, 187, 46, 463, 464, 465, 466, 337, 338, 339, 30, 340, 84, 85, 86, 87, 82, 83, 341, 342, 343, 344, 78, 79, 345, 221, 222, 223, 346, 225, 226, 227, 347, 348, 349, 350, 351, 72, 71, 352, 353, 354, 355, 356, 357, 358, 359, 73, 75, 76, 80, 81, 74, 360, 361, 362, 363, 364, 365, 366, 367, 467, 468, 469, 470, 289, 290, 291, 292, 293, 294, 295, 296, 297, 298, 299, 300, 646, 647, 648, 649, 650, 670, 671, 672, 700, 701, 684, 685, 686, 687, 688, 689, 690, 691, 692, 693, 694, 695, 696, 697, 698, 699] (by decide +kernel) (by decide +kernel)
set_option maxRecDepth 20000 in
theorem gL_law_X6_shelf : GoodIn wsL_law (wsV RL 42 RX6 yX6_shelf wsX6_shelf) := goodIn_app (goodIn_of _ (by decide +kernel)) ggL_law_X6_shelf
set_option maxRecDepth 20000 in
theorem ggL_law_X7_shelf : GoodIn wsL_law wsX7_shelf := goodIn_r _ [474, 192, 198, 475, 135, 195, 196, 5, 197, 136, 137, 138, 232, 233, 234, 235, 92, 236, 237, 238, 239, 203, 204, 205, 206, 207, 208, 209, 210, 211, 212, 213, 214, 215, 377, 378, 379, 380, 381, 382, 383, 384, 385, 386, 476, 477, 478, 479, 283, 438, 439, 452, 453, 454, 440, 441, 442, 443, 98, 99, 94, 96, 97, 444, 445, 446, 447, 448, 449, 450, 451, 95, 455, 456, 457, 458, 651, 652, 653, 654, 655, 656, 657, 658, 659, 660, 661, 662, 663, 664, 665, 666, 667, 668, 669] (by decide +kernel) (by decide +kernel)
set_option maxRecDepth 20000 in
theorem gL_law_X7_shelf : GoodIn wsL_law (wsV RL 45 RX7 yX7_shelf wsX7_shelf) := goodIn_app (goodIn_of _ (by decide +kernel)) ggL_law_X7_shelf
set_option maxRecDepth 20000 in
theorem ggL_law_X6_figure : GoodIn wsL_law wsX6_figure := goodIn_r _ [483, 156, 105, 269, 31, 157, 158, 2, 159, 463, 464, 465, 466, 15, 170, 171, 172, 173, 174, 175, 176, 37, 177, 178, 45, 179, 180, 181, 182, 183, 184, 185, 186, 187, 46, 337, 338, 339, 30, 340, 84, 85, 86, 87, 82, 83, 341, 342, 343, 344, 78, 79, 345, 221, 222, 223, 346, 225, 226, 227, 347, 348, 349, 350, 351, 72, 71, 352, 353, 354, 355, 356, 357, 358, 359, 73, 75, 76, 80, 81, 74, 360, 361, 362, 363, 364, 365, 366, 367, 484, 485, 486, 487, 646, 647, 648, 649, 650, 684, 685, 686, 687, 688, 689, 690, 691, 692, 693, 694, 695, 696, 697, 698, 699, 670, 671, 672, 700, 701] (by decide +kernel) (by decide +kernel)
set_option maxRecDepth 20000 in
theorem gL_law_X6_figure : GoodIn wsL_law (wsV RL 46 RX6 yX6_figure wsX6_figure) := goodIn_app (goodIn_of _ (by decide +kernel)) ggL_law_X6_figure
set_option maxRecDepth 20000 in
theorem ggL_law_X7_figure : GoodIn wsL_law wsX7_figure := goodIn_r _ [491, 192, 492, 493, 135, 283, 195, 196, 5, 197, 198, 136, 137, 138, 232, 233, 234, 235, 92, 236, 237, 238, 239, 203, 204, 205, 206, 207, 208, 209, 210, 211, 212, 213, 214, 215, 440, 441, 442, 443, 438, 98, 99, 94, 96, 97, 444, 445, 446, 447, 448, 449, 450, 451, 439, 452, 453, 454, 95, 455, 456, 457, 458, 377, 378, 379, 380, 381, 382, 383, 384, 385, 386, 494, 495, 496, 497, 651, 652, 653, 654, 655, 656, 657, 658, 659, 660, 661, 662, 663, 664, 665, 666, 667, 668, 669] (by decide +kernel) (by decide +kernel)
set_option maxRecDepth 20000 in
theorem gL_law_X7_figure : GoodIn wsL_law (wsV RL 49 RX7 yX7_figure wsX7_figure) := goodIn_app (goodIn_of _ (by decide +kernel)) ggL_law_X7_figure
set_option maxRecDepth 20000 in
theorem ggL_law_X6_compare : GoodIn wsL_law wsX6_compare := goodIn_r _ [501, 156, 15, 157, 158, 2, 159, 174, 175, 176, 37, 177, 178, 45, 179, 180, 181, 182, 183, 184, 185, 186, 187, 46, 646, 647, 648, 649, 650, 670, 671, 672, 700, 701] (by decide +kernel) (by decide +kernel)
set_option maxRecDepth 20000 in
theorem gL_law_X6_compare : GoodIn wsL_law (wsV RL 50 RX6 yX6_compare wsX6_compare) := goodIn_app (goodIn_of _ (by decide +kernel)) ggL_law_X6_compare
set_option maxRecDepth 20000 in
theorem ggL_law_X7_compare : GoodIn wsL_law wsX7_compare := goodIn_r _ [505, 192, 195, 196, 5, 197, 198, 136, 137, 138, 232, 233, 234, 235, 92, 236, 237, 238, 239, 203, 204, 205, 206, 207, 208, 209, 210, 211, 212, 213, 214, 215, 651, 652, 653, 654, 655, 656, 657, 658, 659, 660, 661, 662, 663, 664, 665, 666, 667, 668, 669] (by decide +kernel) (by decide +kernel)
set_option maxRecDepth 20000 in
theorem gL_law_X7_compare : GoodIn wsL_law (wsV RL 53 RX7 yX7_compare wsX7_compare) := goodIn_app (goodIn_of _ (by decide +kernel)) ggL_law_X7_compare
set_option maxRecDepth 20000 in
theorem ggL_law_X6_beside : GoodIn wsL_law wsX6_beside := goodIn_r _ [509, 156, 15, 157, 158, 2, 159, 289, 290, 291, 37, 292, 293, 294, 295, 296, 45, 178, 183, 184, 185, 186, 187, 46, 297, 298, 299, 300, 646, 647, 648, 649, 650, 670, 671, 672, 700, 701] (by decide +kernel) (by decide +kernel)
set_option maxRecDepth 20000 in
theorem gL_law_X6_beside : GoodIn wsL_law (wsV RL 54 RX6 yX6_beside wsX6_beside) := goodIn_app (goodIn_of _ (by decide +kernel)) ggL_law_X6_beside
set_option maxRecDepth 20000 in
theorem ggL_law_X7_beside : GoodIn wsL_law wsX7_beside := goodIn_r _ [513, 192, 92, 195, 196, 5, 197, 198, 136, 137, 138, 236, 237, 238, 239, 232, 233, 234, 235, 377, 378, 379, 380, 207, 211, 212, 213, 214, 215, 381, 382, 383, 384, 385, 386, 651, 652, 653, 654, 655, 656, 657, 658, 659, 660, 661, 662, 663, 664, 665, 666, 667, 668, 669] (by decide +kernel) (by decide +kernel)
set_option maxRecDepth 20000 in
theorem gL_law_X7_beside : GoodIn wsL_law (wsV RL 57 RX7 yX7_beside wsX7_beside) := goodIn_app (goodIn_of _ (by decide +kernel)) ggL_law_X7_beside
set_option maxRecDepth 20000 in
theorem ggL_law_X6_norm : GoodIn wsL_law wsX6_norm := goodIn_r _ [517, 518, 15, 157, 158, 2, 159, 646, 647, 648, 649, 650, 670, 671, 672, 700, 701] (by decide +kernel) (by decide +kernel)
set_option maxRecDepth 20000 in
theorem gL_law_X6_norm : GoodIn wsL_law (wsV RL 58 RX6 yX6_norm wsX6_norm) := goodIn_app (goodIn_of _ (by decide +kernel)) ggL_law_X6_norm
set_option maxRecDepth 20000 in
theorem ggL_law_X7_norm : GoodIn wsL_law wsX7_norm := goodIn_r _ [522, 523, 92, 195, 196, 5, 197, 198, 136, 137, 138, 232, 233, 234, 235, 236, 237, 238, 239, 651, 652, 653, 654, 655, 656, 657, 658, 659, 660, 661, 662, 663, 664, 665, 666, 667, 668, 669] (by decide +kernel) (by decide +kernel)
set_option maxRecDepth 20000 in
theorem gL_law_X7_norm : GoodIn wsL_law (wsV RL 62 RX7 yX7_norm wsX7_norm) := goodIn_app (goodIn_of _ (by decide +kernel)) ggL_law_X7_norm
set_option maxRecDepth 20000 in
theorem ggL_law_X6_feed : GoodIn wsL_law wsX6_feed := goodIn_r _ [527, 27, 105, 169, 528, 306, 307, 26, 308, 65, 301, 302, 303, 304, 64, 305, 529, 530, 531, 532, 533, 534, 535, 536, 62, 646, 647, 648, 649, 650, 678, 679, 680, 681, 682, 683] (by decide +kernel) (by decide +kernel)
set_option maxRecDepth 20000 in
theorem gL_law_X6_feed : GoodIn wsL_law (wsV RL 63 RX6 yX6_feed wsX6_feed) := goodIn_app (goodIn_of _ (by decide +kernel)) ggL_law_X6_feed
set_option maxRecDepth 20000 in
theorem ggL_law_X7_feed : GoodIn wsL_law wsX7_feed := goodIn_r _ [540, 541, 542, 135, 376, 244, 93, 415, 416, 417, 5, 418, 136, 137, 138, 651, 652, 653, 654, 655, 656, 657, 658, 659, 660, 661, 662, 663, 664, 665, 666, 667, 668, 669] (by decide +kernel) (by decide +kernel)
set_option maxRecDepth 20000 in
theorem gL_law_X7_feed : GoodIn wsL_law (wsV RL 66 RX7 yX7_feed wsX7_feed) := goodIn_app (goodIn_of _ (by decide +kernel)) ggL_law_X7_feed
set_option maxRecDepth 20000 in
theorem ggL_law_X6_clear : GoodIn wsL_law wsX6_clear := goodIn_r _ [546, 27, 301, 302, 303, 26, 304, 64, 305, 306, 307, 308, 65, 547, 548, 549, 550, 646, 647, 648, 649, 650, 678, 679, 680, 681, 682, 683] (by decide +kernel) (by decide +kernel)
set_option maxRecDepth 20000 in
theorem gL_law_X6_clear : GoodIn wsL_law (wsV RL 67 RX6 yX6_clear wsX6_clear) := goodIn_app (goodIn_of _ (by decide +kernel)) ggL_law_X6_clear
set_option maxRecDepth 20000 in
theorem ggL_law_X7_clear : GoodIn wsL_law wsX7_clear := goodIn_r _ [554, 376, 651, 652, 653, 654, 655, 656, 657, 658, 659, 660, 661, 662, 663, 664, 665, 666, 667, 668, 669] (by decide +kernel) (by decide +kernel)
set_option maxRecDepth 20000 in
theorem gL_law_X7_clear : GoodIn wsL_law (wsV RL 70 RX7 yX7_clear wsX7_clear) := goodIn_app (goodIn_of _ (by decide +kernel)) ggL_law_X7_clear
set_option maxRecDepth 20000 in
theorem ggL_law_X6_normal : GoodIn wsL_law wsX6_normal := goodIn_r _ [558, 105, 169, 31, 333, 334, 335, 2, 336, 27, 15, 327, 328, 329, 26, 330, 64, 62, 66, 67, 331, 225, 226, 37, 227, 45, 332, 221, 222, 223, 46, 161, 162, 163, 164, 337, 338, 339, 30, 340, 84, 85, 86, 87, 82, 83, 341, 342, 343, 344, 78, 79, 345, 346, 347, 175, 176, 177, 178, 179, 180, 181, 182, 183, 184, 185, 186, 187, 348, 349, 350, 351, 72, 71, 352, 353, 354, 355, 356, 357, 358, 359, 73, 75, 76, 80, 81, 74, 360, 361, 362, 363, 364, 365, 366, 367, 484, 485, 486, 487, 646, 647, 648, 649, 650, 684, 685, 686, 687, 688, 689, 690, 691, 692, 693, 694, 695, 696, 697, 698, 699, 670, 671, 672, 678, 679, 680, 681, 682, 683, 700, 701] (by decide +kernel) (by decide +kernel)
set_option maxRecDepth 20000 in
theorem gL_law_X6_normal : GoodIn wsL_law (wsV RL 71 RX6 yX6_normal wsX6_normal) := goodIn_app (goodIn_of _ (by decide +kernel)) ggL_law_X6_normal
set_option maxRecDepth 20000 in
theorem ggL_law_X7_normal : GoodIn wsL_law wsX7_normal := goodIn_r _ [562, 135, 438, 434, 435, 436, 5, 437, 244, 427, 428, 283, 439, 430, 431, 432, 433, 92, 100, 193, 194, 391, 392, 393, 394, 376, 93, 395, 396, 397, 398, 136, 137, 138, 203, 204, 205, 206, 207, 208, 209, 210, 211, 212, 213, 214, 215, 440, 441, 442, 443, 98, 99, 94, 96, 97, 444, 445, 446, 447, 448, 449, 450, 451, 452, 453, 454, 95, 455, 456, 457, 458, 377, 378, 379, 380, 381, 382, 383, 384, 385, 386, 494, 495, 496, 497, 651, 652, 653, 654, 655, 656, 657, 658, 659, 660, 661, 662, 663, 664, 665, 666, 667, 668, 669] (by decide +kernel) (by decide +kernel)
set_option maxRecDepth 20000 in
theorem gL_law_X7_normal : GoodIn wsL_law (wsV RL 74 RX7 yX7_normal wsX7_normal) := goodIn_app (goodIn_of _ (by decide +kernel)) ggL_law_X7_normal
set_option maxRecDepth 20000 in
theorem ggL_law_X6_next : GoodIn wsL_law wsX6_next := goodIn_r _ [566, 105, 27, 15, 567, 568, 569, 26, 570, 62, 63, 64, 571, 118, 119, 120, 313, 314, 315, 316, 317, 318, 319, 320, 321, 37, 322, 46, 45, 646, 647, 648, 649, 650, 678, 679, 680, 681, 682, 683, 670, 671, 672, 700, 701] (by decide +kernel) (by decide +kernel)
set_option maxRecDepth 20000 in
theorem gL_law_X6_next : GoodIn wsL_law (wsV RL 75 RX6 yX6_next wsX6_next) := goodIn_app (goodIn_of _ (by decide +kernel)) ggL_law_X6_next
set_option maxRecDepth 20000 in
theorem ggL_law_X7_next : GoodIn wsL_law wsX7_next := goodIn_r _ [575, 135, 100, 395, 396, 397, 5, 398, 376, 93, 576, 577, 578, 579, 391, 392, 393, 394, 399, 400, 401, 402, 403, 404, 405, 406, 407, 408, 409, 410, 92, 651, 652, 653, 654, 655, 656, 657, 658, 659, 660, 661, 662, 663, 664, 665, 666, 667, 668, 669] (by decide +kernel) (by decide +kernel)
set_option maxRecDepth 20000 in
theorem gL_law_X7_next : GoodIn wsL_law (wsV RL 78 RX7 yX7_next wsX7_next) := goodIn_app (goodIn_of _ (by decide +kernel)) ggL_law_X7_next
set_option maxRecDepth 20000 in
theorem ggL_law_X6_one : GoodIn wsL_law wsX6_one := goodIn_r _ [583, 105, 15, 584, 320, 321, 37, 322, 46, 45, 646, 647, 648, 649, 650, 670, 671, 672, 700, 701] (by decide +kernel) (by decide +kernel)
set_option maxRecDepth 20000 in
theorem gL_law_X6_one : GoodIn wsL_law (wsV RL 79 RX6 yX6_one wsX6_one) := goodIn_app (goodIn_of _ (by decide +kernel)) ggL_law_X6_one
set_option maxRecDepth 20000 in
theorem ggL_law_X7_one : GoodIn wsL_law wsX7_one := goodIn_r _ [588, 135, 407, 408, 409, 5, 410, 92, 651, 652, 653, 654, 655, 656, 657, 658, 659, 660, 661, 662, 663, 664, 665, 666, 667, 668, 669] (by decide +kernel) (by decide +kernel)
set_option maxRecDepth 20000 in
theorem gL_law_X7_one : GoodIn wsL_law (wsV RL 82 RX7 yX7_one wsX7_one) := goodIn_app (goodIn_of _ (by decide +kernel)) ggL_law_X7_one
set_option maxRecDepth 20000 in
theorem ggL_law_X6_read : GoodIn wsL_law wsX6_read := goodIn_r _ [592, 156, 27, 15, 169, 157, 158, 2, 159, 327, 328, 329, 26, 330, 64, 62, 66, 67, 331, 225, 226, 37, 227, 45, 332, 221, 222, 223, 46, 161, 162, 163, 164, 165, 166, 167, 168, 19, 160, 109, 110, 111, 18, 112, 50, 51, 52, 113, 114, 115, 14, 116, 38, 40, 117, 118, 119, 120, 41, 170, 171, 172, 173, 174, 175, 176, 177, 178, 179, 180, 181, 182, 183, 184, 185, 186, 187, 323, 324, 325, 326, 65, 305, 306, 307, 308, 646, 647, 648, 649, 650, 670, 671, 672, 678, 679, 680, 681, 682, 683, 700, 701, 673, 674, 675] (by decide +kernel) (by decide +kernel)
set_option maxRecDepth 20000 in
theorem gL_law_X6_read : GoodIn wsL_law (wsV RL 83 RX6 yX6_read wsX6_read) := goodIn_app (goodIn_of _ (by decide +kernel)) ggL_law_X6_read
set_option maxRecDepth 20000 in
theorem ggL_law_X7_read : GoodIn wsL_law wsX7_read := goodIn_r _ [596, 192, 244, 427, 428, 195, 196, 5, 197, 198, 136, 137, 138, 430, 431, 432, 433, 92, 100, 193, 194, 391, 392, 393, 394, 376, 93, 395, 396, 397, 398, 199, 200, 201, 202, 139, 140, 141, 142, 143, 144, 145, 146, 147, 203, 204, 205, 206, 207, 208, 209, 210, 211, 212, 213, 214, 215, 419, 420, 421, 422, 415, 416, 417, 418, 651, 652, 653, 654, 655, 656, 657, 658, 659, 660, 661, 662, 663, 664, 665, 666, 667, 668, 669] (by decide +kernel) (by decide +kernel)
set_option maxRecDepth 20000 in
theorem gL_law_X7_read : GoodIn wsL_law (wsV RL 86 RX7 yX7_read wsX7_read) := goodIn_app (goodIn_of _ (by decide +kernel)) ggL_law_X7_read
set_option maxRecDepth 20000 in
theorem ggL_law_X6_write : GoodIn wsL_law wsX6_write := goodIn_r _ [600, 156, 269, 31, 169, 27, 157, 158, 2, 159, 463, 464, 465, 466, 15, 170, 171, 172, 173, 174, 175, 176, 37, 177, 178, 45, 179, 180, 181, 182, 183, 184, 185, 186, 187, 46, 337, 338, 339, 30, 340, 84, 85, 86, 87, 82, 83, 341, 342, 343, 344, 78, 79, 345, 221, 222, 223, 346, 225, 226, 227, 347, 348, 349, 350, 351, 72, 71, 352, 353, 354, 355, 356, 357, 358, 359, 73, 75, 76, 80, 81, 74, 360, 361, 362, 363, 364, 365, 366, 367, 368, 369, 370, 371, 601, 602, 603, 26, 604, 65, 605, 548, 549, 550, 64, 606, 607, 534, 535, 536, 62, 646, 647, 648, 649, 650, 684, 685, 686, 687, 688, 689, 690, 691, 692, 693, 694, 695, 696, 697, 698, 699, 670, 671, 672, 700, 701, 678, 679, 680, 681, 682, 683] (by decide +kernel) (by decide +kernel)
set_option maxRecDepth 20000 in
theorem gL_law_X6_write : GoodIn wsL_law (wsV RL 87 RX6 yX6_write wsX6_write) := goodIn_app (goodIn_of _ (by decide +kernel)) ggL_law_X6_write
set_option maxRecDepth 20000 in
theorem ggL_law_X7_write : GoodIn wsL_law wsX7_write := goodIn_r _ [611, 192, 283, 438, 439, 244, 376, 93, 195, 196, 5, 197, 198, 136, 137, 138, 232, 233, 234, 235, 92, 236, 237, 238, 239, 203, 204, 205, 206, 207, 208, 209, 210, 211, 212, 213, 214, 215, 440, 441, 442, 443, 98, 99, 94, 96, 97, 444, 445, 446, 447, 448, 449, 450, 451, 452, 453, 454, 95, 455, 456, 457, 458, 377, 378, 379, 380, 381, 382, 383, 384, 385, 386, 494, 495, 496, 497, 651, 652, 653, 654, 655, 656, 657, 658, 659, 660, 661, 662, 663, 664, 665, 666, 667, 668, 669] (by decide +kernel) (by decide +kernel)
set_option maxRecDepth 20000 in
theorem gL_law_X7_write : GoodIn wsL_law (wsV RL 90 RX7 yX7_write wsX7_write) := goodIn_app (goodIn_of _ (by decide +kernel)) ggL_law_X7_write
set_option maxRecDepth 20000 in
theorem ggL_law_X6_keep : GoodIn wsL_law wsX6_keep := goodIn_r _ [615, 156, 23, 15, 19, 616, 617, 618, 22, 619, 56, 58, 620, 114, 115, 14, 116, 38, 40, 117, 118, 119, 120, 41, 621, 622, 623, 18, 624, 52, 646, 647, 648, 649, 650, 676, 677, 670, 671, 672, 700, 701, 673, 674, 675] (by decide +kernel) (by decide +kernel)
set_option maxRecDepth 20000 in
theorem gL_law_X6_keep : GoodIn wsL_law (wsV RL 91 RX6 yX6_keep wsX6_keep) := goodIn_app (goodIn_of _ (by decide +kernel)) ggL_law_X6_keep
set_option maxRecDepth 20000 in
theorem ggL_law_X7_keep : GoodIn wsL_law wsX7_keep := goodIn_r _ [628, 192, 629, 143, 136, 137, 5, 138, 144, 145, 146, 147, 92, 651, 652, 653, 654, 655, 656, 657, 658, 659, 660, 661, 662, 663, 664, 665, 666, 667, 668, 669] (by decide +kernel) (by decide +kernel)
set_option maxRecDepth 20000 in
theorem gL_law_X7_keep : GoodIn wsL_law (wsV RL 94 RX7 yX7_keep wsX7_keep) := goodIn_app (goodIn_of _ (by decide +kernel)) ggL_law_X7_keep
set_option maxRecDepth 20000 in
theorem ggL_law_X6_goBack : GoodIn wsL_law wsX6_goBack := goodIn_r _ [633, 156, 23, 269, 15, 19, 634, 635, 636, 22, 637, 56, 638, 275, 276, 14, 277, 38, 40, 117, 118, 119, 120, 41, 278, 122, 123, 37, 124, 45, 46, 621, 622, 623, 18, 624, 52, 646, 647, 648, 649, 650, 676, 677, 670, 671, 672, 700, 701, 673, 674, 675] (by decide +kernel) (by decide +kernel)
set_option maxRecDepth 20000 in
theorem gL_law_X6_goBack : GoodIn wsL_law (wsV RL 95 RX6 yX6_goBack wsX6_goBack) := goodIn_app (goodIn_of _ (by decide +kernel)) ggL_law_X6_goBack
set_option maxRecDepth 20000 in
theorem ggL_law_X7_goBack : GoodIn wsL_law wsX7_goBack := goodIn_r _ [642, 192, 629, 283, 143, 136, 137, 5, 138, 643, 644, 645, 144, 145, 146, 147, 92, 651, 652, 653, 654, 655, 656, 657, 658, 659, 660, 661, 662, 663, 664, 665, 666, 667, 668, 669] (by decide +kernel) (by decide +kernel)
set_option maxRecDepth 20000 in
theorem gL_law_X7_goBack : GoodIn wsL_law (wsV RL 98 RX7 yX7_goBack wsX7_goBack) := goodIn_app (goodIn_of _ (by decide +kernel)) ggL_law_X7_goBack
