theorem dX6_init_0 : decode cX6_init 0 = .ok (.aload_n 0, 1) := by decide +kernel
theorem dX6_init_1 : decode cX6_init 1 = .ok (.invokespecial 3, 3) := by decide +kernel
theorem dX6_init_4 : decode cX6_init 4 = .ok (.aload_n 0, 1) := by decide +kernel
theorem dX6_init_5 : decode cX6_init 5 = .ok (.new 9, 3) := by decide +kernel
theorem dX6_init_8 : decode cX6_init 8 = .ok (.dup, 1) := by decide +kernel
theorem dX6_init_9 : decode cX6_init 9 = .ok (.invokespecial 11, 3) := by decide +kernel
theorem dX6_init_12 : decode cX6_init 12 = .ok (.putfield 12, 3) := by decide +kernel
theorem dX6_init_15 : decode cX6_init 15 = .ok (.aload_n 0, 1) := by decide +kernel
theorem dX6_init_16 : decode cX6_init 16 = .ok (.new 16, 3) := by decide +kernel
theorem dX6_init_19 : decode cX6_init 19 = .ok (.dup, 1) := by decide +kernel
theorem dX6_init_20 : decode cX6_init 20 = .ok (.invokespecial 18, 3) := by decide +kernel
theorem dX6_init_23 : decode cX6_init 23 = .ok (.putfield 19, 3) := by decide +kernel
theorem dX6_init_26 : decode cX6_init 26 = .ok (.aload_n 0, 1) := by decide +kernel
theorem dX6_init_27 : decode cX6_init 27 = .ok (.new 23, 3) := by decide +kernel
theorem dX6_init_30 : decode cX6_init 30 = .ok (.dup, 1) := by decide +kernel
theorem dX6_init_31 : decode cX6_init 31 = .ok (.invokespecial 25, 3) := by decide +kernel
theorem dX6_init_34 : decode cX6_init 34 = .ok (.putfield 26, 3) := by decide +kernel
theorem dX6_init_37 : decode cX6_init 37 = .ok (.aload_n 0, 1) := by decide +kernel
theorem dX6_init_38 : decode cX6_init 38 = .ok (.new 30, 3) := by decide +kernel
theorem dX6_init_41 : decode cX6_init 41 = .ok (.dup, 1) := by decide +kernel
theorem dX6_init_42 : decode cX6_init 42 = .ok (.invokespecial 32, 3) := by decide +kernel
theorem dX6_init_45 : decode cX6_init 45 = .ok (.putfield 33, 3) := by decide +kernel
theorem dX6_init_48 : decode cX6_init 48 = .ok (.aload_n 0, 1) := by decide +kernel
theorem dX6_init_49 : decode cX6_init 49 = .ok (.new 37, 3) := by decide +kernel
theorem dX6_init_52 : decode cX6_init 52 = .ok (.dup, 1) := by decide +kernel
theorem dX6_init_53 : decode cX6_init 53 = .ok (.invokespecial 39, 3) := by decide +kernel
theorem dX6_init_56 : decode cX6_init 56 = .ok (.putfield 40, 3) := by decide +kernel
theorem dX6_init_59 : decode cX6_init 59 = .ok (.return_, 1) := by decide +kernel
set_option maxRecDepth 20000 in
theorem ggX6_base_X0_canBe : GoodIn wsX6_base wsX0_canBe := goodIn_r _ [7] (by decide +kernel) (by decide +kernel)
set_option maxRecDepth 20000 in
theorem gX6_base_X0_canBe : GoodIn wsX6_base (va_wsS RX6 44 yX0_canBe wsX0_canBe) := goodIn_app (goodIn_of _ (by decide +kernel)) ggX6_base_X0_canBe
set_option maxRecDepth 20000 in
theorem ggX6_base_X1_remember : GoodIn wsX6_base wsX1_remember := goodIn_r _ [12, 13, 14, 15, 16, 17, 18, 19, 20, 21, 22, 23, 24, 25, 26, 27, 46, 47, 48, 43, 44, 45, 49, 50] (by decide +kernel) (by decide +kernel)
set_option maxRecDepth 20000 in
theorem gX6_base_X1_remember : GoodIn wsX6_base (wsV RX6 51 RX1 yX1_remember wsX1_remember) := goodIn_app (goodIn_of _ (by decide +kernel)) ggX6_base_X1_remember
set_option maxRecDepth 20000 in
theorem ggX6_base_X0_become : GoodIn wsX6_base wsX0_become := goodIn_r _ [31, 32, 33, 49, 50] (by decide +kernel) (by decide +kernel)
set_option maxRecDepth 20000 in
theorem gX6_base_X0_become : GoodIn wsX6_base (wsV RX6 59 RX0 yX0_become wsX0_become) := goodIn_app (goodIn_of _ (by decide +kernel)) ggX6_base_X0_become
set_option maxRecDepth 20000 in
theorem ggX6_base_X0_top : GoodIn wsX6_base wsX0_top := goodIn_r _ [37, 33, 32, 49, 50] (by decide +kernel) (by decide +kernel)
set_option maxRecDepth 20000 in
theorem gX6_base_X0_top : GoodIn wsX6_base (wsV RX6 63 RX0 yX0_top wsX0_top) := goodIn_app (goodIn_of _ (by decide +kernel)) ggX6_base_X0_top
theorem dX6_base_0 : decode cX6_base 0 = .ok (.iload_n 1, 1) := by decide +kernel
theorem dX6_base_1 : decode cX6_base 1 = .ok (.iload_n 2, 1) := by decide +kernel
theorem dX6_base_2 : decode cX6_base 2 = .ok (.invokestatic 44, 3) := by decide +kernel
theorem dX6_base_5 : decode cX6_base 5 = .ok (.ifCond .ne 6, 3) := by decide +kernel
theorem dX6_base_8 : decode cX6_base 8 = .ok (.ldc 50, 2) := by decide +kernel
theorem dX6_base_10 : decode cX6_base 10 = .ok (.ireturn, 1) := by decide +kernel
theorem dX6_base_11 : decode cX6_base 11 = .ok (.aload_n 0, 1) := by decide +kernel
theorem dX6_base_12 : decode cX6_base 12 = .ok (.getfield 19, 3) := by decide +kernel
theorem dX6_base_15 : decode cX6_base 15 = .ok (.aload_n 0, 1) := by decide +kernel
theorem dX6_base_16 : decode cX6_base 16 = .ok (.getfield 12, 3) := by decide +kernel
theorem dX6_base_19 : decode cX6_base 19 = .ok (.invokevirtual 51, 3) := by decide +kernel
theorem dX6_base_22 : decode cX6_base 22 = .ok (.aload_n 0, 1) := by decide +kernel
theorem dX6_base_23 : decode cX6_base 23 = .ok (.getfield 12, 3) := by decide +kernel
theorem dX6_base_26 : decode cX6_base 26 = .ok (.getfield 55, 3) := by decide +kernel
theorem dX6_base_29 : decode cX6_base 29 = .ok (.iload_n 1, 1) := by decide +kernel
theorem dX6_base_30 : decode cX6_base 30 = .ok (.iload_n 2, 1) := by decide +kernel
theorem dX6_base_31 : decode cX6_base 31 = .ok (.invokevirtual 59, 3) := by decide +kernel
theorem dX6_base_34 : decode cX6_base 34 = .ok (.aload_n 0, 1) := by decide +kernel
theorem dX6_base_35 : decode cX6_base 35 = .ok (.getfield 12, 3) := by decide +kernel
theorem dX6_base_38 : decode cX6_base 38 = .ok (.getfield 55, 3) := by decide +kernel
theorem dX6_base_41 : decode cX6_base 41 = .ok (.invokevirtual 63, 3) := by decide +kernel
theorem dX6_base_44 : decode cX6_base 44 = .ok (.ireturn, 1) := by decide +kernel
set_option maxRecDepth 20000 in
theorem ggX6_put_X6_isNoShelf : GoodIn wsX6_put wsX6_isNoShelf := goodIn_r _ [6] (by decide +kernel) (by decide +kernel)
set_option maxRecDepth 20000 in
theorem gX6_put_X6_isNoShelf : GoodIn wsX6_put (va_wsS RX6 67 yX6_isNoShelf wsX6_isNoShelf) := goodIn_app (goodIn_of _ (by decide +kernel)) ggX6_put_X6_isNoShelf
set_option maxRecDepth 20000 in
theorem ggX6_put_X6_isOutOfBounds : GoodIn wsX6_put wsX6_isOutOfBounds := goodIn_r _ [9, 10, 11] (by decide +kernel) (by decide +kernel)
set_option maxRecDepth 20000 in
theorem gX6_put_X6_isOutOfBounds : GoodIn wsX6_put (va_wsS RX6 72 yX6_isOutOfBounds wsX6_isOutOfBounds) := goodIn_app (goodIn_of _ (by decide +kernel)) ggX6_put_X6_isOutOfBounds
set_option maxRecDepth 20000 in
theorem ggX6_put_X6_lay : GoodIn wsX6_put wsX6_lay := goodIn_r _ [15, 16, 17, 18, 7, 8, 5, 9, 10, 11, 19, 20, 21, 22, 23, 24, 25, 26, 27, 28, 29, 30, 31, 32, 33, 34, 35, 36, 37, 38, 39, 40, 41, 42, 43, 44, 45, 46, 47, 48, 49, 50, 51, 52, 53, 54, 55, 56, 57, 58, 59, 60, 61, 62, 63, 64, 65, 66, 67, 68, 69, 70, 71, 72] (by decide +kernel) (by decide +kernel)
set_option maxRecDepth 20000 in
theorem gX6_put_X6_lay : GoodIn wsX6_put (wsV RX6 76 RX6 yX6_lay wsX6_lay) := goodIn_app (goodIn_of _ (by decide +kernel)) ggX6_put_X6_lay
theorem dX6_put_0 : decode cX6_put 0 = .ok (.iload_n 1, 1) := by decide +kernel
theorem dX6_put_1 : decode cX6_put 1 = .ok (.invokestatic 67, 3) := by decide +kernel
theorem dX6_put_4 : decode cX6_put 4 = .ok (.ifCond .eq 6, 3) := by decide +kernel
theorem dX6_put_7 : decode cX6_put 7 = .ok (.ldc 71, 2) := by decide +kernel
theorem dX6_put_9 : decode cX6_put 9 = .ok (.ireturn, 1) := by decide +kernel
theorem dX6_put_10 : decode cX6_put 10 = .ok (.iload_n 2, 1) := by decide +kernel
theorem dX6_put_11 : decode cX6_put 11 = .ok (.i2l, 1) := by decide +kernel
theorem dX6_put_12 : decode cX6_put 12 = .ok (.invokestatic 72, 3) := by decide +kernel
theorem dX6_put_15 : decode cX6_put 15 = .ok (.ifCond .ne 11, 3) := by decide +kernel
theorem dX6_put_18 : decode cX6_put 18 = .ok (.iload_n 3, 1) := by decide +kernel
theorem dX6_put_19 : decode cX6_put 19 = .ok (.i2l, 1) := by decide +kernel
theorem dX6_put_20 : decode cX6_put 20 = .ok (.invokestatic 72, 3) := by decide +kernel
theorem dX6_put_23 : decode cX6_put 23 = .ok (.ifCond .eq 6, 3) := by decide +kernel
theorem dX6_put_26 : decode cX6_put 26 = .ok (.ldc 50, 2) := by decide +kernel
theorem dX6_put_28 : decode cX6_put 28 = .ok (.ireturn, 1) := by decide +kernel
theorem dX6_put_29 : decode cX6_put 29 = .ok (.aload_n 0, 1) := by decide +kernel
theorem dX6_put_30 : decode cX6_put 30 = .ok (.iload_n 1, 1) := by decide +kernel
theorem dX6_put_31 : decode cX6_put 31 = .ok (.iload_n 2, 1) := by decide +kernel
theorem dX6_put_32 : decode cX6_put 32 = .ok (.i2l, 1) := by decide +kernel
theorem dX6_put_33 : decode cX6_put 33 = .ok (.iload_n 3, 1) := by decide +kernel
theorem dX6_put_34 : decode cX6_put 34 = .ok (.i2l, 1) := by decide +kernel
theorem dX6_put_35 : decode cX6_put 35 = .ok (.invokevirtual 76, 3) := by decide +kernel
theorem dX6_put_38 : decode cX6_put 38 = .ok (.ireturn, 1) := by decide +kernel
set_option maxRecDepth 20000 in
theorem ggX6_deed_X6_isNoShelf : GoodIn wsX6_deed wsX6_isNoShelf := goodIn_r _ [7] (by decide +kernel) (by decide +kernel)
set_option maxRecDepth 20000 in
theorem gX6_deed_X6_isNoShelf : GoodIn wsX6_deed (va_wsS RX6 67 yX6_isNoShelf wsX6_isNoShelf) := goodIn_app (goodIn_of _ (by decide +kernel)) ggX6_deed_X6_isNoShelf
set_option maxRecDepth 20000 in
theorem ggX6_deed_X6_lay : GoodIn wsX6_deed wsX6_lay := goodIn_r _ [11, 12, 13, 2, 14, 15, 6, 16, 17, 18, 19, 20, 21, 22, 23, 24, 25, 26, 27, 28, 29, 30, 31, 32, 33, 34, 35, 36, 37, 38, 39, 40, 41, 42, 43, 44, 45, 46, 47, 48, 49, 50, 51, 52, 53, 54, 55, 56, 57, 58, 59, 68, 69, 70, 71, 72, 73, 74, 75, 78, 79, 80, 76, 77] (by decide +kernel) (by decide +kernel)
set_option maxRecDepth 20000 in
theorem gX6_deed_X6_lay : GoodIn wsX6_deed (wsV RX6 76 RX6 yX6_lay wsX6_lay) := goodIn_app (goodIn_of _ (by decide +kernel)) ggX6_deed_X6_lay
set_option maxRecDepth 20000 in
theorem ggX6_deed_X0_raisedM : GoodIn wsX6_deed wsX0_raisedM := goodIn_r _ [63, 59, 76, 77] (by decide +kernel) (by decide +kernel)
set_option maxRecDepth 20000 in
theorem gX6_deed_X0_raisedM : GoodIn wsX6_deed (wsV RX6 94 RX0 yX0_raisedM wsX0_raisedM) := goodIn_app (goodIn_of _ (by decide +kernel)) ggX6_deed_X0_raisedM
set_option maxRecDepth 20000 in
theorem ggX6_deed_X0_raisedN : GoodIn wsX6_deed wsX0_raisedN := goodIn_r _ [67, 49, 76, 77] (by decide +kernel) (by decide +kernel)
set_option maxRecDepth 20000 in
theorem gX6_deed_X0_raisedN : GoodIn wsX6_deed (wsV RX6 98 RX0 yX0_raisedN wsX0_raisedN) := goodIn_app (goodIn_of _ (by decide +kernel)) ggX6_deed_X0_raisedN
theorem dX6_deed_0 : decode cX6_deed 0 = .ok (.iload_n 1, 1) := by decide +kernel
theorem dX6_deed_1 : decode cX6_deed 1 = .ok (.invokestatic 67, 3) := by decide +kernel
theorem dX6_deed_4 : decode cX6_deed 4 = .ok (.ifCond .ne 18, 3) := by decide +kernel
theorem dX6_deed_7 : decode cX6_deed 7 = .ok (.iload_n 3, 1) := by decide +kernel
theorem dX6_deed_8 : decode cX6_deed 8 = .ok (.invokestatic 67, 3) := by decide +kernel
theorem dX6_deed_11 : decode cX6_deed 11 = .ok (.ifCond .ne 11, 3) := by decide +kernel
theorem dX6_deed_14 : decode cX6_deed 14 = .ok (.iload 4, 2) := by decide +kernel
theorem dX6_deed_16 : decode cX6_deed 16 = .ok (.invokestatic 67, 3) := by decide +kernel
theorem dX6_deed_19 : decode cX6_deed 19 = .ok (.ifCond .eq 6, 3) := by decide +kernel
theorem dX6_deed_22 : decode cX6_deed 22 = .ok (.ldc 71, 2) := by decide +kernel
theorem dX6_deed_24 : decode cX6_deed 24 = .ok (.ireturn, 1) := by decide +kernel
theorem dX6_deed_25 : decode cX6_deed 25 = .ok (.aload_n 0, 1) := by decide +kernel
theorem dX6_deed_26 : decode cX6_deed 26 = .ok (.getfield 12, 3) := by decide +kernel
theorem dX6_deed_29 : decode cX6_deed 29 = .ok (.getfield 80, 3) := by decide +kernel
theorem dX6_deed_32 : decode cX6_deed 32 = .ok (.iload_n 3, 1) := by decide +kernel
theorem dX6_deed_33 : decode cX6_deed 33 = .ok (.iaload, 1) := by decide +kernel
theorem dX6_deed_34 : decode cX6_deed 34 = .ok (.i2l, 1) := by decide +kernel
theorem dX6_deed_35 : decode cX6_deed 35 = .ok (.lstore 5, 2) := by decide +kernel
theorem dX6_deed_37 : decode cX6_deed 37 = .ok (.aload_n 0, 1) := by decide +kernel
theorem dX6_deed_38 : decode cX6_deed 38 = .ok (.getfield 12, 3) := by decide +kernel
theorem dX6_deed_41 : decode cX6_deed 41 = .ok (.getfield 84, 3) := by decide +kernel
theorem dX6_deed_44 : decode cX6_deed 44 = .ok (.iload_n 3, 1) := by decide +kernel
theorem dX6_deed_45 : decode cX6_deed 45 = .ok (.iaload, 1) := by decide +kernel
theorem dX6_deed_46 : decode cX6_deed 46 = .ok (.i2l, 1) := by decide +kernel
theorem dX6_deed_47 : decode cX6_deed 47 = .ok (.lstore 7, 2) := by decide +kernel
theorem dX6_deed_49 : decode cX6_deed 49 = .ok (.aload_n 0, 1) := by decide +kernel
theorem dX6_deed_50 : decode cX6_deed 50 = .ok (.getfield 12, 3) := by decide +kernel
theorem dX6_deed_53 : decode cX6_deed 53 = .ok (.getfield 80, 3) := by decide +kernel
theorem dX6_deed_56 : decode cX6_deed 56 = .ok (.iload 4, 2) := by decide +kernel
theorem dX6_deed_58 : decode cX6_deed 58 = .ok (.iaload, 1) := by decide +kernel
theorem dX6_deed_59 : decode cX6_deed 59 = .ok (.i2l, 1) := by decide +kernel
theorem dX6_deed_60 : decode cX6_deed 60 = .ok (.lstore 9, 2) := by decide +kernel
theorem dX6_deed_62 : decode cX6_deed 62 = .ok (.aload_n 0, 1) := by decide +kernel
theorem dX6_deed_63 : decode cX6_deed 63 = .ok (.getfield 12, 3) := by decide +kernel
theorem dX6_deed_66 : decode cX6_deed 66 = .ok (.getfield 84, 3) := by decide +kernel
theorem dX6_deed_69 : decode cX6_deed 69 = .ok (.iload 4, 2) := by decide +kernel
theorem dX6_deed_71 : decode cX6_deed 71 = .ok (.iaload, 1) := by decide +kernel
theorem dX6_deed_72 : decode cX6_deed 72 = .ok (.i2l, 1) := by decide +kernel
theorem dX6_deed_73 : decode cX6_deed 73 = .ok (.lstore 11, 2) := by decide +kernel
theorem dX6_deed_75 : decode cX6_deed 75 = .ok (.iload_n 2, 1) := by decide +kernel
theorem dX6_deed_76 : decode cX6_deed 76 = .ok (.tableswitch 154 0 3 #[32, 48, 64, 122], 32) := by decide +kernel
theorem dX6_deed_108 : decode cX6_deed 108 = .ok (.aload_n 0, 1) := by decide +kernel
theorem dX6_deed_109 : decode cX6_deed 109 = .ok (.iload_n 1, 1) := by decide +kernel
theorem dX6_deed_110 : decode cX6_deed 110 = .ok (.lload 5, 2) := by decide +kernel
theorem dX6_deed_112 : decode cX6_deed 112 = .ok (.lload 9, 2) := by decide +kernel
theorem dX6_deed_114 : decode cX6_deed 114 = .ok (.ladd, 1) := by decide +kernel
theorem dX6_deed_115 : decode cX6_deed 115 = .ok (.lload 7, 2) := by decide +kernel
theorem dX6_deed_117 : decode cX6_deed 117 = .ok (.lload 11, 2) := by decide +kernel
theorem dX6_deed_119 : decode cX6_deed 119 = .ok (.ladd, 1) := by decide +kernel
theorem dX6_deed_120 : decode cX6_deed 120 = .ok (.invokevirtual 76, 3) := by decide +kernel
theorem dX6_deed_123 : decode cX6_deed 123 = .ok (.ireturn, 1) := by decide +kernel
theorem dX6_deed_124 : decode cX6_deed 124 = .ok (.aload_n 0, 1) := by decide +kernel
theorem dX6_deed_125 : decode cX6_deed 125 = .ok (.iload_n 1, 1) := by decide +kernel
theorem dX6_deed_126 : decode cX6_deed 126 = .ok (.lload 5, 2) := by decide +kernel
theorem dX6_deed_128 : decode cX6_deed 128 = .ok (.lload 9, 2) := by decide +kernel
theorem dX6_deed_130 : decode cX6_deed 130 = .ok (.lsub, 1) := by decide +kernel
theorem dX6_deed_131 : decode cX6_deed 131 = .ok (.lload 7, 2) := by decide +kernel
theorem dX6_deed_133 : decode cX6_deed 133 = .ok (.lload 11, 2) := by decide +kernel
theorem dX6_deed_135 : decode cX6_deed 135 = .ok (.lsub, 1) := by decide +kernel
theorem dX6_deed_136 : decode cX6_deed 136 = .ok (.invokevirtual 76, 3) := by decide +kernel
theorem dX6_deed_139 : decode cX6_deed 139 = .ok (.ireturn, 1) := by decide +kernel
theorem dX6_deed_140 : decode cX6_deed 140 = .ok (.aload_n 0, 1) := by decide +kernel
theorem dX6_deed_141 : decode cX6_deed 141 = .ok (.iload_n 1, 1) := by decide +kernel
theorem dX6_deed_142 : decode cX6_deed 142 = .ok (.lload 5, 2) := by decide +kernel
theorem dX6_deed_144 : decode cX6_deed 144 = .ok (.lload 9, 2) := by decide +kernel
theorem dX6_deed_146 : decode cX6_deed 146 = .ok (.lmul, 1) := by decide +kernel
theorem dX6_deed_147 : decode cX6_deed 147 = .ok (.lload 7, 2) := by decide +kernel
theorem dX6_deed_149 : decode cX6_deed 149 = .ok (.lload 11, 2) := by decide +kernel
theorem dX6_deed_151 : decode cX6_deed 151 = .ok (.lmul, 1) := by decide +kernel
theorem dX6_deed_152 : decode cX6_deed 152 = .ok (.aload_n 0, 1) := by decide +kernel
theorem dX6_deed_153 : decode cX6_deed 153 = .ok (.getfield 12, 3) := by decide +kernel
theorem dX6_deed_156 : decode cX6_deed 156 = .ok (.getfield 55, 3) := by decide +kernel
theorem dX6_deed_159 : decode cX6_deed 159 = .ok (.getfield 87, 3) := by decide +kernel
theorem dX6_deed_162 : decode cX6_deed 162 = .ok (.i2l, 1) := by decide +kernel
theorem dX6_deed_163 : decode cX6_deed 163 = .ok (.lmul, 1) := by decide +kernel
theorem dX6_deed_164 : decode cX6_deed 164 = .ok (.ladd, 1) := by decide +kernel
theorem dX6_deed_165 : decode cX6_deed 165 = .ok (.lload 5, 2) := by decide +kernel
theorem dX6_deed_167 : decode cX6_deed 167 = .ok (.lload 11, 2) := by decide +kernel
theorem dX6_deed_169 : decode cX6_deed 169 = .ok (.lmul, 1) := by decide +kernel
theorem dX6_deed_170 : decode cX6_deed 170 = .ok (.lload 7, 2) := by decide +kernel
theorem dX6_deed_172 : decode cX6_deed 172 = .ok (.lload 9, 2) := by decide +kernel
theorem dX6_deed_174 : decode cX6_deed 174 = .ok (.lmul, 1) := by decide +kernel
theorem dX6_deed_175 : decode cX6_deed 175 = .ok (.ladd, 1) := by decide +kernel
theorem dX6_deed_176 : decode cX6_deed 176 = .ok (.lload 7, 2) := by decide +kernel
theorem dX6_deed_178 : decode cX6_deed 178 = .ok (.lload 11, 2) := by decide +kernel
theorem dX6_deed_180 : decode cX6_deed 180 = .ok (.lmul, 1) := by decide +kernel
theorem dX6_deed_181 : decode cX6_deed 181 = .ok (.aload_n 0, 1) := by decide +kernel
theorem dX6_deed_182 : decode cX6_deed 182 = .ok (.getfield 12, 3) := by decide +kernel
theorem dX6_deed_185 : decode cX6_deed 185 = .ok (.getfield 55, 3) := by decide +kernel
theorem dX6_deed_188 : decode cX6_deed 188 = .ok (.getfield 91, 3) := by decide +kernel
theorem dX6_deed_191 : decode cX6_deed 191 = .ok (.i2l, 1) := by decide +kernel
theorem dX6_deed_192 : decode cX6_deed 192 = .ok (.lmul, 1) := by decide +kernel
theorem dX6_deed_193 : decode cX6_deed 193 = .ok (.ladd, 1) := by decide +kernel
theorem dX6_deed_194 : decode cX6_deed 194 = .ok (.invokevirtual 76, 3) := by decide +kernel
theorem dX6_deed_197 : decode cX6_deed 197 = .ok (.ireturn, 1) := by decide +kernel
theorem dX6_deed_198 : decode cX6_deed 198 = .ok (.aload_n 0, 1) := by decide +kernel
theorem dX6_deed_199 : decode cX6_deed 199 = .ok (.iload_n 1, 1) := by decide +kernel
theorem dX6_deed_200 : decode cX6_deed 200 = .ok (.aload_n 0, 1) := by decide +kernel
theorem dX6_deed_201 : decode cX6_deed 201 = .ok (.getfield 12, 3) := by decide +kernel
theorem dX6_deed_204 : decode cX6_deed 204 = .ok (.getfield 55, 3) := by decide +kernel
theorem dX6_deed_207 : decode cX6_deed 207 = .ok (.lload 7, 2) := by decide +kernel
theorem dX6_deed_209 : decode cX6_deed 209 = .ok (.invokevirtual 94, 3) := by decide +kernel
theorem dX6_deed_212 : decode cX6_deed 212 = .ok (.aload_n 0, 1) := by decide +kernel
theorem dX6_deed_213 : decode cX6_deed 213 = .ok (.getfield 12, 3) := by decide +kernel
theorem dX6_deed_216 : decode cX6_deed 216 = .ok (.getfield 55, 3) := by decide +kernel
theorem dX6_deed_219 : decode cX6_deed 219 = .ok (.lload 5, 2) := by decide +kernel
theorem dX6_deed_221 : decode cX6_deed 221 = .ok (.lload 7, 2) := by decide +kernel
theorem dX6_deed_223 : decode cX6_deed 223 = .ok (.invokevirtual 98, 3) := by decide +kernel
theorem dX6_deed_226 : decode cX6_deed 226 = .ok (.invokevirtual 76, 3) := by decide +kernel
theorem dX6_deed_229 : decode cX6_deed 229 = .ok (.ireturn, 1) := by decide +kernel
theorem dX6_deed_230 : decode cX6_deed 230 = .ok (.ldc 50, 2) := by decide +kernel
theorem dX6_deed_232 : decode cX6_deed 232 = .ok (.ireturn, 1) := by decide +kernel
set_option maxRecDepth 20000 in
theorem ggX6_drift_X6_isNoShelf : GoodIn wsX6_drift wsX6_isNoShelf := goodIn_r _ [10] (by decide +kernel) (by decide +kernel)
set_option maxRecDepth 20000 in
theorem gX6_drift_X6_isNoShelf : GoodIn wsX6_drift (va_wsS RX6 67 yX6_isNoShelf wsX6_isNoShelf) := goodIn_app (goodIn_of _ (by decide +kernel)) ggX6_drift_X6_isNoShelf
set_option maxRecDepth 20000 in
theorem ggX6_drift_X6_lot : GoodIn wsX6_drift wsX6_lot := goodIn_r _ [13, 14, 15] (by decide +kernel) (by decide +kernel)
set_option maxRecDepth 20000 in
theorem gX6_drift_X6_lot : GoodIn wsX6_drift (va_wsS RX6 103 yX6_lot wsX6_lot) := goodIn_app (goodIn_of _ (by decide +kernel)) ggX6_drift_X6_lot
set_option maxRecDepth 20000 in
theorem ggX6_drift_X0_sign : GoodIn wsX6_drift wsX0_sign := goodIn_r _ [20, 21, 22, 23, 24, 25, 26, 27, 28, 29, 19, 30, 31, 32, 76, 77] (by decide +kernel) (by decide +kernel)
set_option maxRecDepth 20000 in
theorem gX6_drift_X0_sign : GoodIn wsX6_drift (wsV RX6 110 RX0 yX0_sign wsX0_sign) := goodIn_app (goodIn_of _ (by decide +kernel)) ggX6_drift_X0_sign
set_option maxRecDepth 20000 in
theorem ggX6_drift_X6_lay : GoodIn wsX6_drift wsX6_lay := goodIn_r _ [36, 37, 38, 6, 39, 40, 9, 41, 42, 43, 44, 45, 46, 47, 48, 49, 50, 51, 52, 53, 54, 55, 56, 57, 58, 59, 60, 61, 62, 63, 64, 65, 66, 67, 16, 17, 18, 19, 20, 21, 22, 23, 24, 25, 26, 27, 28, 29, 30, 31, 32, 68, 69, 70, 71, 72, 73, 74, 75, 78, 79, 80, 76, 77] (by decide +kernel) (by decide +kernel)
set_option maxRecDepth 20000 in
theorem gX6_drift_X6_lay : GoodIn wsX6_drift (wsV RX6 76 RX6 yX6_lay wsX6_lay) := goodIn_app (goodIn_of _ (by decide +kernel)) ggX6_drift_X6_lay
theorem dX6_drift_0 : decode cX6_drift 0 = .ok (.iload_n 1, 1) := by decide +kernel
theorem dX6_drift_1 : decode cX6_drift 1 = .ok (.invokestatic 67, 3) := by decide +kernel
theorem dX6_drift_4 : decode cX6_drift 4 = .ok (.ifCond .eq 6, 3) := by decide +kernel
theorem dX6_drift_7 : decode cX6_drift 7 = .ok (.ldc 71, 2) := by decide +kernel
theorem dX6_drift_9 : decode cX6_drift 9 = .ok (.ireturn, 1) := by decide +kernel
theorem dX6_drift_10 : decode cX6_drift 10 = .ok (.iload_n 2, 1) := by decide +kernel
theorem dX6_drift_11 : decode cX6_drift 11 = .ok (.iconst 1, 1) := by decide +kernel
theorem dX6_drift_12 : decode cX6_drift 12 = .ok (.if_icmp .lt 9, 3) := by decide +kernel
theorem dX6_drift_15 : decode cX6_drift 15 = .ok (.iload_n 2, 1) := by decide +kernel
theorem dX6_drift_16 : decode cX6_drift 16 = .ok (.ldc 102, 2) := by decide +kernel
theorem dX6_drift_18 : decode cX6_drift 18 = .ok (.if_icmp .le 6, 3) := by decide +kernel
theorem dX6_drift_21 : decode cX6_drift 21 = .ok (.ldc 50, 2) := by decide +kernel
theorem dX6_drift_23 : decode cX6_drift 23 = .ok (.ireturn, 1) := by decide +kernel
theorem dX6_drift_24 : decode cX6_drift 24 = .ok (.iload_n 2, 1) := by decide +kernel
theorem dX6_drift_25 : decode cX6_drift 25 = .ok (.i2l, 1) := by decide +kernel
theorem dX6_drift_26 : decode cX6_drift 26 = .ok (.invokestatic 103, 3) := by decide +kernel
theorem dX6_drift_29 : decode cX6_drift 29 = .ok (.lstore_n 3, 1) := by decide +kernel
theorem dX6_drift_30 : decode cX6_drift 30 = .ok (.lload_n 3, 1) := by decide +kernel
theorem dX6_drift_31 : decode cX6_drift 31 = .ok (.ldc2_w 106, 3) := by decide +kernel
theorem dX6_drift_34 : decode cX6_drift 34 = .ok (.lrem, 1) := by decide +kernel
theorem dX6_drift_35 : decode cX6_drift 35 = .ok (.ldc2_w 108, 3) := by decide +kernel
theorem dX6_drift_38 : decode cX6_drift 38 = .ok (.lsub, 1) := by decide +kernel
theorem dX6_drift_39 : decode cX6_drift 39 = .ok (.lstore 5, 2) := by decide +kernel
theorem dX6_drift_41 : decode cX6_drift 41 = .ok (.lload_n 3, 1) := by decide +kernel
theorem dX6_drift_42 : decode cX6_drift 42 = .ok (.invokestatic 103, 3) := by decide +kernel
theorem dX6_drift_45 : decode cX6_drift 45 = .ok (.lstore_n 3, 1) := by decide +kernel
theorem dX6_drift_46 : decode cX6_drift 46 = .ok (.lload_n 3, 1) := by decide +kernel
theorem dX6_drift_47 : decode cX6_drift 47 = .ok (.ldc2_w 106, 3) := by decide +kernel
theorem dX6_drift_50 : decode cX6_drift 50 = .ok (.lrem, 1) := by decide +kernel
theorem dX6_drift_51 : decode cX6_drift 51 = .ok (.ldc2_w 108, 3) := by decide +kernel
theorem dX6_drift_54 : decode cX6_drift 54 = .ok (.lsub, 1) := by decide +kernel
theorem dX6_drift_55 : decode cX6_drift 55 = .ok (.lstore 7, 2) := by decide +kernel
theorem dX6_drift_57 : decode cX6_drift 57 = .ok (.aload_n 0, 1) := by decide +kernel
theorem dX6_drift_58 : decode cX6_drift 58 = .ok (.getfield 12, 3) := by decide +kernel
theorem dX6_drift_61 : decode cX6_drift 61 = .ok (.getfield 55, 3) := by decide +kernel
theorem dX6_drift_64 : decode cX6_drift 64 = .ok (.lload 5, 2) := by decide +kernel
theorem dX6_drift_66 : decode cX6_drift 66 = .ok (.lload 7, 2) := by decide +kernel
theorem dX6_drift_68 : decode cX6_drift 68 = .ok (.invokevirtual 110, 3) := by decide +kernel
theorem dX6_drift_71 : decode cX6_drift 71 = .ok (.ifCond .ge 13, 3) := by decide +kernel
theorem dX6_drift_74 : decode cX6_drift 74 = .ok (.lload 5, 2) := by decide +kernel
theorem dX6_drift_76 : decode cX6_drift 76 = .ok (.lneg, 1) := by decide +kernel
theorem dX6_drift_77 : decode cX6_drift 77 = .ok (.lstore 5, 2) := by decide +kernel
theorem dX6_drift_79 : decode cX6_drift 79 = .ok (.lload 7, 2) := by decide +kernel
theorem dX6_drift_81 : decode cX6_drift 81 = .ok (.lneg, 1) := by decide +kernel
theorem dX6_drift_82 : decode cX6_drift 82 = .ok (.lstore 7, 2) := by decide +kernel
theorem dX6_drift_84 : decode cX6_drift 84 = .ok (.aload_n 0, 1) := by decide +kernel
theorem dX6_drift_85 : decode cX6_drift 85 = .ok (.iload_n 1, 1) := by decide +kernel
theorem dX6_drift_86 : decode cX6_drift 86 = .ok (.lload 5, 2) := by decide +kernel
theorem dX6_drift_88 : decode cX6_drift 88 = .ok (.lload 7, 2) := by decide +kernel
theorem dX6_drift_90 : decode cX6_drift 90 = .ok (.invokevirtual 76, 3) := by decide +kernel
theorem dX6_drift_93 : decode cX6_drift 93 = .ok (.pop, 1) := by decide +kernel
theorem dX6_drift_94 : decode cX6_drift 94 = .ok (.lload 5, 2) := by decide +kernel
theorem dX6_drift_96 : decode cX6_drift 96 = .ok (.l2i, 1) := by decide +kernel
theorem dX6_drift_97 : decode cX6_drift 97 = .ok (.sipush 2000, 3) := by decide +kernel
theorem dX6_drift_100 : decode cX6_drift 100 = .ok (.iadd, 1) := by decide +kernel
theorem dX6_drift_101 : decode cX6_drift 101 = .ok (.ireturn, 1) := by decide +kernel
set_option maxRecDepth 20000 in
theorem ggX6_undo_X1_takeBack : GoodIn wsX6_undo wsX1_takeBack := goodIn_r _ [8, 9, 10, 11, 12, 13, 14, 15, 16, 17, 18, 19, 20, 21, 22, 23, 24, 25, 26, 27, 28, 29, 30, 36, 37, 38, 39, 40, 41, 42, 43] (by decide +kernel) (by decide +kernel)
set_option maxRecDepth 20000 in
theorem gX6_undo_X1_takeBack : GoodIn wsX6_undo (wsV RX6 118 RX1 yX1_takeBack wsX1_takeBack) := goodIn_app (goodIn_of _ (by decide +kernel)) ggX6_undo_X1_takeBack
theorem dX6_undo_0 : decode cX6_undo 0 = .ok (.aload_n 0, 1) := by decide +kernel
theorem dX6_undo_1 : decode cX6_undo 1 = .ok (.getfield 19, 3) := by decide +kernel
theorem dX6_undo_4 : decode cX6_undo 4 = .ok (.getfield 114, 3) := by decide +kernel
theorem dX6_undo_7 : decode cX6_undo 7 = .ok (.ifCond .ne 6, 3) := by decide +kernel
theorem dX6_undo_10 : decode cX6_undo 10 = .ok (.ldc 117, 2) := by decide +kernel
theorem dX6_undo_12 : decode cX6_undo 12 = .ok (.ireturn, 1) := by decide +kernel
theorem dX6_undo_13 : decode cX6_undo 13 = .ok (.aload_n 0, 1) := by decide +kernel
theorem dX6_undo_14 : decode cX6_undo 14 = .ok (.getfield 19, 3) := by decide +kernel
theorem dX6_undo_17 : decode cX6_undo 17 = .ok (.aload_n 0, 1) := by decide +kernel
theorem dX6_undo_18 : decode cX6_undo 18 = .ok (.getfield 12, 3) := by decide +kernel
theorem dX6_undo_21 : decode cX6_undo 21 = .ok (.invokevirtual 118, 3) := by decide +kernel
theorem dX6_undo_24 : decode cX6_undo 24 = .ok (.aload_n 0, 1) := by decide +kernel
theorem dX6_undo_25 : decode cX6_undo 25 = .ok (.getfield 19, 3) := by decide +kernel
theorem dX6_undo_28 : decode cX6_undo 28 = .ok (.getfield 114, 3) := by decide +kernel
theorem dX6_undo_31 : decode cX6_undo 31 = .ok (.ireturn, 1) := by decide +kernel
set_option maxRecDepth 20000 in
theorem ggX6_told_X0_top : GoodIn wsX6_told wsX0_top := goodIn_r _ [12, 13, 14, 153, 154] (by decide +kernel) (by decide +kernel)
set_option maxRecDepth 20000 in
theorem gX6_told_X0_top : GoodIn wsX6_told (wsV RX6 63 RX0 yX0_top wsX0_top) := goodIn_app (goodIn_of _ (by decide +kernel)) ggX6_told_X0_top
set_option maxRecDepth 20000 in
theorem ggX6_told_X0_wholePart : GoodIn wsX6_told wsX0_wholePart := goodIn_r _ [18, 19, 20, 21, 22, 14, 23, 24, 25, 26, 11, 27, 28, 13, 29, 30, 31, 32, 153, 154] (by decide +kernel) (by decide +kernel)
set_option maxRecDepth 20000 in
theorem gX6_told_X0_wholePart : GoodIn wsX6_told (wsV RX6 121 RX0 yX0_wholePart wsX0_wholePart) := goodIn_app (goodIn_of _ (by decide +kernel)) ggX6_told_X0_wholePart
set_option maxRecDepth 20000 in
theorem ggX6_told_X4_signs : GoodIn wsX6_told wsX4_signs := goodIn_r _ [37, 38, 39, 40, 41, 36, 42, 43, 155, 156, 157, 158, 159, 160] (by decide +kernel) (by decide +kernel)
set_option maxRecDepth 20000 in
theorem gX6_told_X4_signs : GoodIn wsX6_told (wsV RX6 124 RX4 yX4_signs wsX4_signs) := goodIn_app (goodIn_of _ (by decide +kernel)) ggX6_told_X4_signs
set_option maxRecDepth 20000 in
theorem ggX6_told_X4_badly : GoodIn wsX6_told wsX4_badly := goodIn_r _ [47, 48, 38, 43, 49, 50, 36, 51, 52, 53, 54, 55, 56, 57, 11, 58, 13, 14, 39, 40, 41, 42, 155, 156, 157, 158, 159, 160, 153, 154] (by decide +kernel) (by decide +kernel)
set_option maxRecDepth 20000 in
theorem gX6_told_X4_badly : GoodIn wsX6_told (wsV RX6 127 RX4 yX4_badly wsX4_badly) := goodIn_app (goodIn_of _ (by decide +kernel)) ggX6_told_X4_badly
set_option maxRecDepth 20000 in
theorem ggX6_told_X4_shift : GoodIn wsX6_told wsX4_shift := goodIn_r _ [62, 38, 43, 39, 40, 41, 36, 42, 155, 156, 157, 158, 159, 160] (by decide +kernel) (by decide +kernel)
set_option maxRecDepth 20000 in
theorem gX6_told_X4_shift : GoodIn wsX6_told (wsV RX6 131 RX4 yX4_shift wsX4_shift) := goodIn_app (goodIn_of _ (by decide +kernel)) ggX6_told_X4_shift
set_option maxRecDepth 20000 in
theorem ggX6_told_X4_reckon : GoodIn wsX6_told wsX4_reckon := goodIn_r _ [66, 38, 48, 67, 68, 69, 70, 71, 11, 72, 14, 73, 74, 75, 76, 13, 77, 78, 79, 80, 81, 155, 156, 157, 158, 159, 160, 153, 154] (by decide +kernel) (by decide +kernel)
set_option maxRecDepth 20000 in
theorem gX6_told_X4_reckon : GoodIn wsX6_told (wsV RX6 134 RX4 yX4_reckon wsX4_reckon) := goodIn_app (goodIn_of _ (by decide +kernel)) ggX6_told_X4_reckon
set_option maxRecDepth 20000 in
theorem ggX6_told_X6_spellWord : GoodIn wsX6_told wsX6_spellWord := goodIn_r _ [85, 2, 1, 5, 63, 64, 65, 36, 66, 38, 48, 67, 68, 69, 70, 71, 11, 72, 14, 73, 74, 75, 76, 13, 77, 78, 79, 80, 81, 86, 87, 88, 89, 90, 91, 92, 93, 94, 95, 96, 97, 98, 99, 100, 101, 102, 103, 104, 105, 106, 107, 108, 23, 109, 110, 111, 112, 24, 25, 26, 27, 28, 113, 114, 115, 116, 117, 118, 119, 120, 121, 122, 123, 124, 125, 126, 127, 128, 129, 130, 131, 132, 133, 134, 135, 136, 137, 138, 139, 140, 145, 146, 147, 148, 149, 150, 151, 152, 155, 156, 157, 158, 159, 160, 153, 154, 164, 165, 166, 167, 168, 169, 170, 171, 172, 173, 174, 175, 176, 177, 178, 179] (by decide +kernel) (by decide +kernel)
set_option maxRecDepth 20000 in
theorem gX6_told_X6_spellWord : GoodIn wsX6_told (wsV RX6 146 RX6 yX6_spellWord wsX6_spellWord) := goodIn_app (goodIn_of _ (by decide +kernel)) ggX6_told_X6_spellWord
set_option maxRecDepth 20000 in
theorem ggX6_told_X5_figureCount : GoodIn wsX6_told wsX5_figureCount := goodIn_r _ [144, 117, 127, 164, 165, 166, 167, 168, 169, 170, 171, 172, 173, 174, 175, 176, 177, 178, 179] (by decide +kernel) (by decide +kernel)
set_option maxRecDepth 20000 in
theorem gX6_told_X5_figureCount : GoodIn wsX6_told (wsV RX6 150 RX5 yX5_figureCount wsX5_figureCount) := goodIn_app (goodIn_of _ (by decide +kernel)) ggX6_told_X5_figureCount
theorem dX6_told_0 : decode cX6_told 0 = .ok (.iload_n 1, 1) := by decide +kernel
theorem dX6_told_1 : decode cX6_told 1 = .ok (.tableswitch 262 0 11 #[63, 74, 88, 99, 113, 121, 145, 160, 168, 201, 234, 254], 63) := by decide +kernel
theorem dX6_told_64 : decode cX6_told 64 = .ok (.aload_n 0, 1) := by decide +kernel
theorem dX6_told_65 : decode cX6_told 65 = .ok (.getfield 12, 3) := by decide +kernel
theorem dX6_told_68 : decode cX6_told 68 = .ok (.getfield 55, 3) := by decide +kernel
theorem dX6_told_71 : decode cX6_told 71 = .ok (.getfield 91, 3) := by decide +kernel
theorem dX6_told_74 : decode cX6_told 74 = .ok (.ireturn, 1) := by decide +kernel
theorem dX6_told_75 : decode cX6_told 75 = .ok (.aload_n 0, 1) := by decide +kernel
theorem dX6_told_76 : decode cX6_told 76 = .ok (.getfield 12, 3) := by decide +kernel
theorem dX6_told_79 : decode cX6_told 79 = .ok (.getfield 55, 3) := by decide +kernel
theorem dX6_told_82 : decode cX6_told 82 = .ok (.getfield 87, 3) := by decide +kernel
theorem dX6_told_85 : decode cX6_told 85 = .ok (.bipush 10, 2) := by decide +kernel
theorem dX6_told_87 : decode cX6_told 87 = .ok (.iadd, 1) := by decide +kernel
theorem dX6_told_88 : decode cX6_told 88 = .ok (.ireturn, 1) := by decide +kernel
theorem dX6_told_89 : decode cX6_told 89 = .ok (.aload_n 0, 1) := by decide +kernel
theorem dX6_told_90 : decode cX6_told 90 = .ok (.getfield 12, 3) := by decide +kernel
theorem dX6_told_93 : decode cX6_told 93 = .ok (.getfield 55, 3) := by decide +kernel
theorem dX6_told_96 : decode cX6_told 96 = .ok (.invokevirtual 63, 3) := by decide +kernel
theorem dX6_told_99 : decode cX6_told 99 = .ok (.ireturn, 1) := by decide +kernel
theorem dX6_told_100 : decode cX6_told 100 = .ok (.aload_n 0, 1) := by decide +kernel
theorem dX6_told_101 : decode cX6_told 101 = .ok (.getfield 12, 3) := by decide +kernel
theorem dX6_told_104 : decode cX6_told 104 = .ok (.getfield 55, 3) := by decide +kernel
theorem dX6_told_107 : decode cX6_told 107 = .ok (.lconst 0, 1) := by decide +kernel
theorem dX6_told_108 : decode cX6_told 108 = .ok (.lconst 1, 1) := by decide +kernel
theorem dX6_told_109 : decode cX6_told 109 = .ok (.invokevirtual 121, 3) := by decide +kernel
theorem dX6_told_112 : decode cX6_told 112 = .ok (.l2i, 1) := by decide +kernel
theorem dX6_told_113 : decode cX6_told 113 = .ok (.ireturn, 1) := by decide +kernel
theorem dX6_told_114 : decode cX6_told 114 = .ok (.aload_n 0, 1) := by decide +kernel
theorem dX6_told_115 : decode cX6_told 115 = .ok (.getfield 33, 3) := by decide +kernel
theorem dX6_told_118 : decode cX6_told 118 = .ok (.invokevirtual 124, 3) := by decide +kernel
theorem dX6_told_121 : decode cX6_told 121 = .ok (.ireturn, 1) := by decide +kernel
theorem dX6_told_122 : decode cX6_told 122 = .ok (.aload_n 0, 1) := by decide +kernel
theorem dX6_told_123 : decode cX6_told 123 = .ok (.getfield 33, 3) := by decide +kernel
theorem dX6_told_126 : decode cX6_told 126 = .ok (.aload_n 0, 1) := by decide +kernel
theorem dX6_told_127 : decode cX6_told 127 = .ok (.getfield 12, 3) := by decide +kernel
theorem dX6_told_130 : decode cX6_told 130 = .ok (.getfield 55, 3) := by decide +kernel
theorem dX6_told_133 : decode cX6_told 133 = .ok (.invokevirtual 127, 3) := by decide +kernel
theorem dX6_told_136 : decode cX6_told 136 = .ok (.iconst (-1), 1) := by decide +kernel
theorem dX6_told_137 : decode cX6_told 137 = .ok (.if_icmp .ne 7, 3) := by decide +kernel
theorem dX6_told_140 : decode cX6_told 140 = .ok (.iconst 1, 1) := by decide +kernel
theorem dX6_told_141 : decode cX6_told 141 = .ok (.goto 4, 3) := by decide +kernel
theorem dX6_told_144 : decode cX6_told 144 = .ok (.iconst 0, 1) := by decide +kernel
theorem dX6_told_145 : decode cX6_told 145 = .ok (.ireturn, 1) := by decide +kernel
theorem dX6_told_146 : decode cX6_told 146 = .ok (.aload_n 0, 1) := by decide +kernel
theorem dX6_told_147 : decode cX6_told 147 = .ok (.getfield 33, 3) := by decide +kernel
theorem dX6_told_150 : decode cX6_told 150 = .ok (.aload_n 0, 1) := by decide +kernel
theorem dX6_told_151 : decode cX6_told 151 = .ok (.getfield 12, 3) := by decide +kernel
theorem dX6_told_154 : decode cX6_told 154 = .ok (.getfield 55, 3) := by decide +kernel
theorem dX6_told_157 : decode cX6_told 157 = .ok (.invokevirtual 127, 3) := by decide +kernel
theorem dX6_told_160 : decode cX6_told 160 = .ok (.ireturn, 1) := by decide +kernel
theorem dX6_told_161 : decode cX6_told 161 = .ok (.aload_n 0, 1) := by decide +kernel
theorem dX6_told_162 : decode cX6_told 162 = .ok (.getfield 33, 3) := by decide +kernel
theorem dX6_told_165 : decode cX6_told 165 = .ok (.invokevirtual 131, 3) := by decide +kernel
theorem dX6_told_168 : decode cX6_told 168 = .ok (.ireturn, 1) := by decide +kernel
theorem dX6_told_169 : decode cX6_told 169 = .ok (.aload_n 0, 1) := by decide +kernel
theorem dX6_told_170 : decode cX6_told 170 = .ok (.getfield 33, 3) := by decide +kernel
theorem dX6_told_173 : decode cX6_told 173 = .ok (.aload_n 0, 1) := by decide +kernel
theorem dX6_told_174 : decode cX6_told 174 = .ok (.getfield 12, 3) := by decide +kernel
theorem dX6_told_177 : decode cX6_told 177 = .ok (.getfield 55, 3) := by decide +kernel
theorem dX6_told_180 : decode cX6_told 180 = .ok (.invokevirtual 134, 3) := by decide +kernel
theorem dX6_told_183 : decode cX6_told 183 = .ok (.ifCond .eq 16, 3) := by decide +kernel
theorem dX6_told_186 : decode cX6_told 186 = .ok (.aload_n 0, 1) := by decide +kernel
theorem dX6_told_187 : decode cX6_told 187 = .ok (.getfield 33, 3) := by decide +kernel
theorem dX6_told_190 : decode cX6_told 190 = .ok (.getfield 138, 3) := by decide +kernel
theorem dX6_told_193 : decode cX6_told 193 = .ok (.ldc 141, 2) := by decide +kernel
theorem dX6_told_195 : decode cX6_told 195 = .ok (.iadd, 1) := by decide +kernel
theorem dX6_told_196 : decode cX6_told 196 = .ok (.goto 5, 3) := by decide +kernel
theorem dX6_told_199 : decode cX6_told 199 = .ok (.ldc 142, 2) := by decide +kernel
theorem dX6_told_201 : decode cX6_told 201 = .ok (.ireturn, 1) := by decide +kernel
theorem dX6_told_202 : decode cX6_told 202 = .ok (.aload_n 0, 1) := by decide +kernel
theorem dX6_told_203 : decode cX6_told 203 = .ok (.getfield 33, 3) := by decide +kernel
theorem dX6_told_206 : decode cX6_told 206 = .ok (.aload_n 0, 1) := by decide +kernel
theorem dX6_told_207 : decode cX6_told 207 = .ok (.getfield 12, 3) := by decide +kernel
theorem dX6_told_210 : decode cX6_told 210 = .ok (.getfield 55, 3) := by decide +kernel
theorem dX6_told_213 : decode cX6_told 213 = .ok (.invokevirtual 134, 3) := by decide +kernel
theorem dX6_told_216 : decode cX6_told 216 = .ok (.ifCond .eq 16, 3) := by decide +kernel
theorem dX6_told_219 : decode cX6_told 219 = .ok (.aload_n 0, 1) := by decide +kernel
theorem dX6_told_220 : decode cX6_told 220 = .ok (.getfield 33, 3) := by decide +kernel
theorem dX6_told_223 : decode cX6_told 223 = .ok (.getfield 143, 3) := by decide +kernel
theorem dX6_told_226 : decode cX6_told 226 = .ok (.ldc 141, 2) := by decide +kernel
theorem dX6_told_228 : decode cX6_told 228 = .ok (.iadd, 1) := by decide +kernel
theorem dX6_told_229 : decode cX6_told 229 = .ok (.goto 5, 3) := by decide +kernel
theorem dX6_told_232 : decode cX6_told 232 = .ok (.ldc 142, 2) := by decide +kernel
theorem dX6_told_234 : decode cX6_told 234 = .ok (.ireturn, 1) := by decide +kernel
theorem dX6_told_235 : decode cX6_told 235 = .ok (.aload_n 0, 1) := by decide +kernel
theorem dX6_told_236 : decode cX6_told 236 = .ok (.invokevirtual 146, 3) := by decide +kernel
theorem dX6_told_239 : decode cX6_told 239 = .ok (.ifCond .eq 13, 3) := by decide +kernel
theorem dX6_told_242 : decode cX6_told 242 = .ok (.aload_n 0, 1) := by decide +kernel
theorem dX6_told_243 : decode cX6_told 243 = .ok (.getfield 40, 3) := by decide +kernel
theorem dX6_told_246 : decode cX6_told 246 = .ok (.invokevirtual 150, 3) := by decide +kernel
theorem dX6_told_249 : decode cX6_told 249 = .ok (.goto 5, 3) := by decide +kernel
theorem dX6_told_252 : decode cX6_told 252 = .ok (.ldc 142, 2) := by decide +kernel
theorem dX6_told_254 : decode cX6_told 254 = .ok (.ireturn, 1) := by decide +kernel
theorem dX6_told_255 : decode cX6_told 255 = .ok (.aload_n 0, 1) := by decide +kernel
theorem dX6_told_256 : decode cX6_told 256 = .ok (.getfield 19, 3) := by decide +kernel
theorem dX6_told_259 : decode cX6_told 259 = .ok (.getfield 114, 3) := by decide +kernel
theorem dX6_told_262 : decode cX6_told 262 = .ok (.ireturn, 1) := by decide +kernel
theorem dX6_told_263 : decode cX6_told 263 = .ok (.ldc 50, 2) := by decide +kernel
theorem dX6_told_265 : decode cX6_told 265 = .ok (.ireturn, 1) := by decide +kernel
set_option maxRecDepth 20000 in
theorem ggX6_shelf_X6_isNoShelf : GoodIn wsX6_shelf wsX6_isNoShelf := goodIn_r _ [9] (by decide +kernel) (by decide +kernel)
set_option maxRecDepth 20000 in
theorem gX6_shelf_X6_isNoShelf : GoodIn wsX6_shelf (va_wsS RX6 67 yX6_isNoShelf wsX6_isNoShelf) := goodIn_app (goodIn_of _ (by decide +kernel)) ggX6_shelf_X6_isNoShelf
set_option maxRecDepth 20000 in
theorem ggX6_shelf_X6_signOf : GoodIn wsX6_shelf wsX6_signOf := goodIn_r _ [13, 2, 14, 15, 16, 17, 18, 19, 20, 21, 22, 23, 24, 25, 26, 27, 28, 29, 30, 105, 106, 107, 108, 109, 110, 111, 112, 113, 114] (by decide +kernel) (by decide +kernel)
set_option maxRecDepth 20000 in
theorem gX6_shelf_X6_signOf : GoodIn wsX6_shelf (wsV RX6 153 RX6 yX6_signOf wsX6_signOf) := goodIn_app (goodIn_of _ (by decide +kernel)) ggX6_shelf_X6_signOf
set_option maxRecDepth 20000 in
theorem ggX6_shelf_X6_spellShelf : GoodIn wsX6_shelf wsX6_spellShelf := goodIn_r _ [34, 3, 2, 10, 11, 12, 8, 13, 14, 15, 16, 17, 18, 19, 20, 21, 22, 23, 24, 25, 26, 27, 28, 29, 30, 35, 36, 37, 38, 39, 40, 41, 42, 43, 44, 45, 46, 47, 48, 49, 50, 51, 52, 53, 54, 55, 56, 57, 58, 59, 60, 61, 62, 63, 64, 65, 66, 67, 68, 69, 70, 71, 72, 73, 74, 75, 76, 77, 78, 79, 80, 81, 82, 83, 84, 85, 86, 87, 88, 105, 106, 107, 108, 109, 110, 111, 112, 113, 114, 115, 116, 117, 118, 119, 120, 121, 122, 123, 124, 125, 126, 127, 128, 129, 130] (by decide +kernel) (by decide +kernel)
set_option maxRecDepth 20000 in
theorem gX6_shelf_X6_spellShelf : GoodIn wsX6_shelf (wsV RX6 157 RX6 yX6_spellShelf wsX6_spellShelf) := goodIn_app (goodIn_of _ (by decide +kernel)) ggX6_shelf_X6_spellShelf
set_option maxRecDepth 20000 in
theorem ggX6_shelf_X5_tell : GoodIn wsX6_shelf wsX5_tell := goodIn_r _ [92, 65, 75, 80, 76, 77, 115, 116, 117, 118, 119, 120, 121, 122, 123, 124, 125, 126, 127, 128, 129, 130] (by decide +kernel) (by decide +kernel)
set_option maxRecDepth 20000 in
theorem gX6_shelf_X5_tell : GoodIn wsX6_shelf (wsV RX6 160 RX5 yX5_tell wsX5_tell) := goodIn_app (goodIn_of _ (by decide +kernel)) ggX6_shelf_X5_tell
set_option maxRecDepth 20000 in
theorem ggX6_shelf_X0_wholePart : GoodIn wsX6_shelf wsX0_wholePart := goodIn_r _ [96, 97, 98, 99, 100, 20, 19, 25, 26, 27, 17, 28, 29, 30, 101, 102, 103, 104, 113, 114] (by decide +kernel) (by decide +kernel)
set_option maxRecDepth 20000 in
theorem gX6_shelf_X0_wholePart : GoodIn wsX6_shelf (wsV RX6 121 RX0 yX0_wholePart wsX0_wholePart) := goodIn_app (goodIn_of _ (by decide +kernel)) ggX6_shelf_X0_wholePart
theorem dX6_shelf_0 : decode cX6_shelf 0 = .ok (.iload_n 1, 1) := by decide +kernel
theorem dX6_shelf_1 : decode cX6_shelf 1 = .ok (.invokestatic 67, 3) := by decide +kernel
theorem dX6_shelf_4 : decode cX6_shelf 4 = .ok (.ifCond .eq 6, 3) := by decide +kernel
theorem dX6_shelf_7 : decode cX6_shelf 7 = .ok (.ldc 71, 2) := by decide +kernel
theorem dX6_shelf_9 : decode cX6_shelf 9 = .ok (.ireturn, 1) := by decide +kernel
theorem dX6_shelf_10 : decode cX6_shelf 10 = .ok (.iload_n 2, 1) := by decide +kernel
theorem dX6_shelf_11 : decode cX6_shelf 11 = .ok (.tableswitch 129 0 8 #[49, 59, 69, 75, 75, 75, 75, 75, 97], 49) := by decide +kernel
theorem dX6_shelf_60 : decode cX6_shelf 60 = .ok (.aload_n 0, 1) := by decide +kernel
theorem dX6_shelf_61 : decode cX6_shelf 61 = .ok (.getfield 12, 3) := by decide +kernel
theorem dX6_shelf_64 : decode cX6_shelf 64 = .ok (.getfield 80, 3) := by decide +kernel
theorem dX6_shelf_67 : decode cX6_shelf 67 = .ok (.iload_n 1, 1) := by decide +kernel
theorem dX6_shelf_68 : decode cX6_shelf 68 = .ok (.iaload, 1) := by decide +kernel
theorem dX6_shelf_69 : decode cX6_shelf 69 = .ok (.ireturn, 1) := by decide +kernel
theorem dX6_shelf_70 : decode cX6_shelf 70 = .ok (.aload_n 0, 1) := by decide +kernel
theorem dX6_shelf_71 : decode cX6_shelf 71 = .ok (.getfield 12, 3) := by decide +kernel
theorem dX6_shelf_74 : decode cX6_shelf 74 = .ok (.getfield 84, 3) := by decide +kernel
theorem dX6_shelf_77 : decode cX6_shelf 77 = .ok (.iload_n 1, 1) := by decide +kernel
theorem dX6_shelf_78 : decode cX6_shelf 78 = .ok (.iaload, 1) := by decide +kernel
theorem dX6_shelf_79 : decode cX6_shelf 79 = .ok (.ireturn, 1) := by decide +kernel
theorem dX6_shelf_80 : decode cX6_shelf 80 = .ok (.aload_n 0, 1) := by decide +kernel
theorem dX6_shelf_81 : decode cX6_shelf 81 = .ok (.iload_n 1, 1) := by decide +kernel
theorem dX6_shelf_82 : decode cX6_shelf 82 = .ok (.invokevirtual 153, 3) := by decide +kernel
theorem dX6_shelf_85 : decode cX6_shelf 85 = .ok (.ireturn, 1) := by decide +kernel
theorem dX6_shelf_86 : decode cX6_shelf 86 = .ok (.aload_n 0, 1) := by decide +kernel
theorem dX6_shelf_87 : decode cX6_shelf 87 = .ok (.iload_n 1, 1) := by decide +kernel
theorem dX6_shelf_88 : decode cX6_shelf 88 = .ok (.invokevirtual 157, 3) := by decide +kernel
theorem dX6_shelf_91 : decode cX6_shelf 91 = .ok (.ifCond .eq 14, 3) := by decide +kernel
theorem dX6_shelf_94 : decode cX6_shelf 94 = .ok (.aload_n 0, 1) := by decide +kernel
theorem dX6_shelf_95 : decode cX6_shelf 95 = .ok (.getfield 40, 3) := by decide +kernel
theorem dX6_shelf_98 : decode cX6_shelf 98 = .ok (.iload_n 2, 1) := by decide +kernel
theorem dX6_shelf_99 : decode cX6_shelf 99 = .ok (.invokevirtual 160, 3) := by decide +kernel
theorem dX6_shelf_102 : decode cX6_shelf 102 = .ok (.goto 5, 3) := by decide +kernel
theorem dX6_shelf_105 : decode cX6_shelf 105 = .ok (.ldc 117, 2) := by decide +kernel
theorem dX6_shelf_107 : decode cX6_shelf 107 = .ok (.ireturn, 1) := by decide +kernel
theorem dX6_shelf_108 : decode cX6_shelf 108 = .ok (.aload_n 0, 1) := by decide +kernel
theorem dX6_shelf_109 : decode cX6_shelf 109 = .ok (.getfield 12, 3) := by decide +kernel
theorem dX6_shelf_112 : decode cX6_shelf 112 = .ok (.getfield 55, 3) := by decide +kernel
theorem dX6_shelf_115 : decode cX6_shelf 115 = .ok (.aload_n 0, 1) := by decide +kernel
theorem dX6_shelf_116 : decode cX6_shelf 116 = .ok (.getfield 12, 3) := by decide +kernel
theorem dX6_shelf_119 : decode cX6_shelf 119 = .ok (.getfield 80, 3) := by decide +kernel
theorem dX6_shelf_122 : decode cX6_shelf 122 = .ok (.iload_n 1, 1) := by decide +kernel
theorem dX6_shelf_123 : decode cX6_shelf 123 = .ok (.iaload, 1) := by decide +kernel
theorem dX6_shelf_124 : decode cX6_shelf 124 = .ok (.i2l, 1) := by decide +kernel
theorem dX6_shelf_125 : decode cX6_shelf 125 = .ok (.aload_n 0, 1) := by decide +kernel
theorem dX6_shelf_126 : decode cX6_shelf 126 = .ok (.getfield 12, 3) := by decide +kernel
theorem dX6_shelf_129 : decode cX6_shelf 129 = .ok (.getfield 84, 3) := by decide +kernel
theorem dX6_shelf_132 : decode cX6_shelf 132 = .ok (.iload_n 1, 1) := by decide +kernel
theorem dX6_shelf_133 : decode cX6_shelf 133 = .ok (.iaload, 1) := by decide +kernel
theorem dX6_shelf_134 : decode cX6_shelf 134 = .ok (.i2l, 1) := by decide +kernel
theorem dX6_shelf_135 : decode cX6_shelf 135 = .ok (.invokevirtual 121, 3) := by decide +kernel
theorem dX6_shelf_138 : decode cX6_shelf 138 = .ok (.l2i, 1) := by decide +kernel
theorem dX6_shelf_139 : decode cX6_shelf 139 = .ok (.ireturn, 1) := by decide +kernel
theorem dX6_shelf_140 : decode cX6_shelf 140 = .ok (.ldc 50, 2) := by decide +kernel
theorem dX6_shelf_142 : decode cX6_shelf 142 = .ok (.ireturn, 1) := by decide +kernel
set_option maxRecDepth 20000 in
theorem ggX6_figure_X6_isNoShelf : GoodIn wsX6_figure wsX6_isNoShelf := goodIn_r _ [8] (by decide +kernel) (by decide +kernel)
set_option maxRecDepth 20000 in
theorem gX6_figure_X6_isNoShelf : GoodIn wsX6_figure (va_wsS RX6 67 yX6_isNoShelf wsX6_isNoShelf) := goodIn_app (goodIn_of _ (by decide +kernel)) ggX6_figure_X6_isNoShelf
set_option maxRecDepth 20000 in
theorem ggX6_figure_X6_spellShelf : GoodIn wsX6_figure wsX6_spellShelf := goodIn_r _ [12, 4, 13, 14, 15, 16, 7, 17, 18, 19, 20, 21, 22, 23, 24, 25, 26, 27, 28, 29, 30, 31, 32, 33, 34, 35, 36, 37, 38, 39, 40, 41, 42, 43, 44, 45, 46, 47, 48, 49, 50, 51, 52, 53, 54, 55, 56, 57, 58, 59, 60, 61, 62, 63, 64, 65, 66, 67, 68, 69, 70, 71, 72, 73, 74, 75, 76, 77, 78, 79, 80, 81, 82, 83, 84, 85, 86, 87, 88, 93, 94, 95, 96, 97, 114, 115, 116, 117, 118, 98, 99, 100, 101, 102, 103, 104, 105, 106, 107, 108, 109, 110, 111, 112, 113] (by decide +kernel) (by decide +kernel)
set_option maxRecDepth 20000 in
theorem gX6_figure_X6_spellShelf : GoodIn wsX6_figure (wsV RX6 157 RX6 yX6_spellShelf wsX6_spellShelf) := goodIn_app (goodIn_of _ (by decide +kernel)) ggX6_figure_X6_spellShelf
set_option maxRecDepth 20000 in
theorem ggX6_figure_X5_hasFigure : GoodIn wsX6_figure wsX5_hasFigure := goodIn_r _ [92, 65, 75, 98, 99, 100, 101, 102, 103, 104, 105, 106, 107, 108, 109, 110, 111, 112, 113] (by decide +kernel) (by decide +kernel)
set_option maxRecDepth 20000 in
theorem gX6_figure_X5_hasFigure : GoodIn wsX6_figure (wsV RX6 166 RX5 yX5_hasFigure wsX5_hasFigure) := goodIn_app (goodIn_of _ (by decide +kernel)) ggX6_figure_X5_hasFigure
theorem dX6_figure_0 : decode cX6_figure 0 = .ok (.iload_n 1, 1) := by decide +kernel
theorem dX6_figure_1 : decode cX6_figure 1 = .ok (.invokestatic 67, 3) := by decide +kernel
theorem dX6_figure_4 : decode cX6_figure 4 = .ok (.ifCond .eq 6, 3) := by decide +kernel
theorem dX6_figure_7 : decode cX6_figure 7 = .ok (.ldc 71, 2) := by decide +kernel
theorem dX6_figure_9 : decode cX6_figure 9 = .ok (.ireturn, 1) := by decide +kernel
theorem dX6_figure_10 : decode cX6_figure 10 = .ok (.iload_n 2, 1) := by decide +kernel
theorem dX6_figure_11 : decode cX6_figure 11 = .ok (.bipush (-40), 2) := by decide +kernel
theorem dX6_figure_13 : decode cX6_figure 13 = .ok (.if_icmp .lt 9, 3) := by decide +kernel
theorem dX6_figure_16 : decode cX6_figure 16 = .ok (.iload_n 2, 1) := by decide +kernel
theorem dX6_figure_17 : decode cX6_figure 17 = .ok (.bipush 60, 2) := by decide +kernel
theorem dX6_figure_19 : decode cX6_figure 19 = .ok (.if_icmp .le 6, 3) := by decide +kernel
theorem dX6_figure_22 : decode cX6_figure 22 = .ok (.ldc 50, 2) := by decide +kernel
theorem dX6_figure_24 : decode cX6_figure 24 = .ok (.ireturn, 1) := by decide +kernel
theorem dX6_figure_25 : decode cX6_figure 25 = .ok (.aload_n 0, 1) := by decide +kernel
theorem dX6_figure_26 : decode cX6_figure 26 = .ok (.iload_n 1, 1) := by decide +kernel
theorem dX6_figure_27 : decode cX6_figure 27 = .ok (.invokevirtual 157, 3) := by decide +kernel
theorem dX6_figure_30 : decode cX6_figure 30 = .ok (.ifCond .ne 6, 3) := by decide +kernel
theorem dX6_figure_33 : decode cX6_figure 33 = .ok (.ldc 117, 2) := by decide +kernel
theorem dX6_figure_35 : decode cX6_figure 35 = .ok (.ireturn, 1) := by decide +kernel
theorem dX6_figure_36 : decode cX6_figure 36 = .ok (.aload_n 0, 1) := by decide +kernel
theorem dX6_figure_37 : decode cX6_figure 37 = .ok (.getfield 40, 3) := by decide +kernel
theorem dX6_figure_40 : decode cX6_figure 40 = .ok (.getfield 163, 3) := by decide +kernel
theorem dX6_figure_43 : decode cX6_figure 43 = .ok (.iconst 1, 1) := by decide +kernel
theorem dX6_figure_44 : decode cX6_figure 44 = .ok (.isub, 1) := by decide +kernel
theorem dX6_figure_45 : decode cX6_figure 45 = .ok (.iload_n 2, 1) := by decide +kernel
theorem dX6_figure_46 : decode cX6_figure 46 = .ok (.isub, 1) := by decide +kernel
theorem dX6_figure_47 : decode cX6_figure 47 = .ok (.istore_n 3, 1) := by decide +kernel
theorem dX6_figure_48 : decode cX6_figure 48 = .ok (.aload_n 0, 1) := by decide +kernel
theorem dX6_figure_49 : decode cX6_figure 49 = .ok (.getfield 40, 3) := by decide +kernel
theorem dX6_figure_52 : decode cX6_figure 52 = .ok (.iload_n 3, 1) := by decide +kernel
theorem dX6_figure_53 : decode cX6_figure 53 = .ok (.invokevirtual 166, 3) := by decide +kernel
theorem dX6_figure_56 : decode cX6_figure 56 = .ok (.ifCond .eq 15, 3) := by decide +kernel
theorem dX6_figure_59 : decode cX6_figure 59 = .ok (.aload_n 0, 1) := by decide +kernel
theorem dX6_figure_60 : decode cX6_figure 60 = .ok (.getfield 40, 3) := by decide +kernel
theorem dX6_figure_63 : decode cX6_figure 63 = .ok (.getfield 169, 3) := by decide +kernel
theorem dX6_figure_66 : decode cX6_figure 66 = .ok (.iload_n 3, 1) := by decide +kernel
theorem dX6_figure_67 : decode cX6_figure 67 = .ok (.iaload, 1) := by decide +kernel
theorem dX6_figure_68 : decode cX6_figure 68 = .ok (.goto 4, 3) := by decide +kernel
theorem dX6_figure_71 : decode cX6_figure 71 = .ok (.iconst 0, 1) := by decide +kernel
theorem dX6_figure_72 : decode cX6_figure 72 = .ok (.ireturn, 1) := by decide +kernel
set_option maxRecDepth 20000 in
theorem ggX6_compare_X6_isNoShelf : GoodIn wsX6_compare wsX6_isNoShelf := goodIn_r _ [6] (by decide +kernel) (by decide +kernel)
set_option maxRecDepth 20000 in
theorem gX6_compare_X6_isNoShelf : GoodIn wsX6_compare (va_wsS RX6 67 yX6_isNoShelf wsX6_isNoShelf) := goodIn_app (goodIn_of _ (by decide +kernel)) ggX6_compare_X6_isNoShelf
set_option maxRecDepth 20000 in
theorem ggX6_compare_X0_sign : GoodIn wsX6_compare wsX0_sign := goodIn_r _ [11, 12, 13, 14, 15, 16, 17, 18, 19, 20, 10, 21, 22, 23, 32, 33] (by decide +kernel) (by decide +kernel)
set_option maxRecDepth 20000 in
theorem gX6_compare_X0_sign : GoodIn wsX6_compare (wsV RX6 110 RX0 yX0_sign wsX0_sign) := goodIn_app (goodIn_of _ (by decide +kernel)) ggX6_compare_X0_sign
theorem dX6_compare_0 : decode cX6_compare 0 = .ok (.iload_n 1, 1) := by decide +kernel
theorem dX6_compare_1 : decode cX6_compare 1 = .ok (.invokestatic 67, 3) := by decide +kernel
theorem dX6_compare_4 : decode cX6_compare 4 = .ok (.ifCond .ne 10, 3) := by decide +kernel
theorem dX6_compare_7 : decode cX6_compare 7 = .ok (.iload_n 2, 1) := by decide +kernel
theorem dX6_compare_8 : decode cX6_compare 8 = .ok (.invokestatic 67, 3) := by decide +kernel
theorem dX6_compare_11 : decode cX6_compare 11 = .ok (.ifCond .eq 6, 3) := by decide +kernel
theorem dX6_compare_14 : decode cX6_compare 14 = .ok (.ldc 71, 2) := by decide +kernel
theorem dX6_compare_16 : decode cX6_compare 16 = .ok (.ireturn, 1) := by decide +kernel
theorem dX6_compare_17 : decode cX6_compare 17 = .ok (.aload_n 0, 1) := by decide +kernel
theorem dX6_compare_18 : decode cX6_compare 18 = .ok (.getfield 12, 3) := by decide +kernel
theorem dX6_compare_21 : decode cX6_compare 21 = .ok (.getfield 55, 3) := by decide +kernel
theorem dX6_compare_24 : decode cX6_compare 24 = .ok (.aload_n 0, 1) := by decide +kernel
theorem dX6_compare_25 : decode cX6_compare 25 = .ok (.getfield 12, 3) := by decide +kernel
theorem dX6_compare_28 : decode cX6_compare 28 = .ok (.getfield 80, 3) := by decide +kernel
theorem dX6_compare_31 : decode cX6_compare 31 = .ok (.iload_n 1, 1) := by decide +kernel
theorem dX6_compare_32 : decode cX6_compare 32 = .ok (.iaload, 1) := by decide +kernel
theorem dX6_compare_33 : decode cX6_compare 33 = .ok (.i2l, 1) := by decide +kernel
theorem dX6_compare_34 : decode cX6_compare 34 = .ok (.aload_n 0, 1) := by decide +kernel
theorem dX6_compare_35 : decode cX6_compare 35 = .ok (.getfield 12, 3) := by decide +kernel
theorem dX6_compare_38 : decode cX6_compare 38 = .ok (.getfield 80, 3) := by decide +kernel
theorem dX6_compare_41 : decode cX6_compare 41 = .ok (.iload_n 2, 1) := by decide +kernel
theorem dX6_compare_42 : decode cX6_compare 42 = .ok (.iaload, 1) := by decide +kernel
theorem dX6_compare_43 : decode cX6_compare 43 = .ok (.i2l, 1) := by decide +kernel
theorem dX6_compare_44 : decode cX6_compare 44 = .ok (.lsub, 1) := by decide +kernel
theorem dX6_compare_45 : decode cX6_compare 45 = .ok (.aload_n 0, 1) := by decide +kernel
theorem dX6_compare_46 : decode cX6_compare 46 = .ok (.getfield 12, 3) := by decide +kernel
theorem dX6_compare_49 : decode cX6_compare 49 = .ok (.getfield 84, 3) := by decide +kernel
theorem dX6_compare_52 : decode cX6_compare 52 = .ok (.iload_n 1, 1) := by decide +kernel
theorem dX6_compare_53 : decode cX6_compare 53 = .ok (.iaload, 1) := by decide +kernel
theorem dX6_compare_54 : decode cX6_compare 54 = .ok (.i2l, 1) := by decide +kernel
theorem dX6_compare_55 : decode cX6_compare 55 = .ok (.aload_n 0, 1) := by decide +kernel
theorem dX6_compare_56 : decode cX6_compare 56 = .ok (.getfield 12, 3) := by decide +kernel
theorem dX6_compare_59 : decode cX6_compare 59 = .ok (.getfield 84, 3) := by decide +kernel
theorem dX6_compare_62 : decode cX6_compare 62 = .ok (.iload_n 2, 1) := by decide +kernel
theorem dX6_compare_63 : decode cX6_compare 63 = .ok (.iaload, 1) := by decide +kernel
theorem dX6_compare_64 : decode cX6_compare 64 = .ok (.i2l, 1) := by decide +kernel
theorem dX6_compare_65 : decode cX6_compare 65 = .ok (.lsub, 1) := by decide +kernel
theorem dX6_compare_66 : decode cX6_compare 66 = .ok (.invokevirtual 110, 3) := by decide +kernel
theorem dX6_compare_69 : decode cX6_compare 69 = .ok (.ireturn, 1) := by decide +kernel
set_option maxRecDepth 20000 in
theorem ggX6_beside_X6_isNoShelf : GoodIn wsX6_beside wsX6_isNoShelf := goodIn_r _ [6] (by decide +kernel) (by decide +kernel)
set_option maxRecDepth 20000 in
theorem gX6_beside_X6_isNoShelf : GoodIn wsX6_beside (va_wsS RX6 67 yX6_isNoShelf wsX6_isNoShelf) := goodIn_app (goodIn_of _ (by decide +kernel)) ggX6_beside_X6_isNoShelf
set_option maxRecDepth 20000 in
theorem ggX6_beside_X0_wholePart : GoodIn wsX6_beside wsX0_wholePart := goodIn_r _ [11, 12, 13, 14, 15, 16, 17, 18, 19, 20, 10, 21, 22, 23, 24, 25, 26, 27, 36, 37] (by decide +kernel) (by decide +kernel)
set_option maxRecDepth 20000 in
theorem gX6_beside_X0_wholePart : GoodIn wsX6_beside (wsV RX6 121 RX0 yX0_wholePart wsX0_wholePart) := goodIn_app (goodIn_of _ (by decide +kernel)) ggX6_beside_X0_wholePart
theorem dX6_beside_0 : decode cX6_beside 0 = .ok (.iload_n 1, 1) := by decide +kernel
theorem dX6_beside_1 : decode cX6_beside 1 = .ok (.invokestatic 67, 3) := by decide +kernel
theorem dX6_beside_4 : decode cX6_beside 4 = .ok (.ifCond .eq 6, 3) := by decide +kernel
theorem dX6_beside_7 : decode cX6_beside 7 = .ok (.ldc 71, 2) := by decide +kernel
theorem dX6_beside_9 : decode cX6_beside 9 = .ok (.ireturn, 1) := by decide +kernel
theorem dX6_beside_10 : decode cX6_beside 10 = .ok (.aload_n 0, 1) := by decide +kernel
theorem dX6_beside_11 : decode cX6_beside 11 = .ok (.getfield 12, 3) := by decide +kernel
theorem dX6_beside_14 : decode cX6_beside 14 = .ok (.getfield 84, 3) := by decide +kernel
theorem dX6_beside_17 : decode cX6_beside 17 = .ok (.iload_n 1, 1) := by decide +kernel
theorem dX6_beside_18 : decode cX6_beside 18 = .ok (.iaload, 1) := by decide +kernel
theorem dX6_beside_19 : decode cX6_beside 19 = .ok (.i2l, 1) := by decide +kernel
theorem dX6_beside_20 : decode cX6_beside 20 = .ok (.lstore_n 2, 1) := by decide +kernel
theorem dX6_beside_21 : decode cX6_beside 21 = .ok (.aload_n 0, 1) := by decide +kernel
theorem dX6_beside_22 : decode cX6_beside 22 = .ok (.getfield 12, 3) := by decide +kernel
theorem dX6_beside_25 : decode cX6_beside 25 = .ok (.getfield 55, 3) := by decide +kernel
theorem dX6_beside_28 : decode cX6_beside 28 = .ok (.aload_n 0, 1) := by decide +kernel
theorem dX6_beside_29 : decode cX6_beside 29 = .ok (.getfield 12, 3) := by decide +kernel
theorem dX6_beside_32 : decode cX6_beside 32 = .ok (.getfield 80, 3) := by decide +kernel
theorem dX6_beside_35 : decode cX6_beside 35 = .ok (.iload_n 1, 1) := by decide +kernel
theorem dX6_beside_36 : decode cX6_beside 36 = .ok (.iaload, 1) := by decide +kernel
theorem dX6_beside_37 : decode cX6_beside 37 = .ok (.i2l, 1) := by decide +kernel
theorem dX6_beside_38 : decode cX6_beside 38 = .ok (.lload_n 2, 1) := by decide +kernel
theorem dX6_beside_39 : decode cX6_beside 39 = .ok (.aload_n 0, 1) := by decide +kernel
theorem dX6_beside_40 : decode cX6_beside 40 = .ok (.getfield 12, 3) := by decide +kernel
theorem dX6_beside_43 : decode cX6_beside 43 = .ok (.getfield 55, 3) := by decide +kernel
theorem dX6_beside_46 : decode cX6_beside 46 = .ok (.getfield 91, 3) := by decide +kernel
theorem dX6_beside_49 : decode cX6_beside 49 = .ok (.i2l, 1) := by decide +kernel
theorem dX6_beside_50 : decode cX6_beside 50 = .ok (.lmul, 1) := by decide +kernel
theorem dX6_beside_51 : decode cX6_beside 51 = .ok (.ladd, 1) := by decide +kernel
theorem dX6_beside_52 : decode cX6_beside 52 = .ok (.lload_n 2, 1) := by decide +kernel
theorem dX6_beside_53 : decode cX6_beside 53 = .ok (.lneg, 1) := by decide +kernel
theorem dX6_beside_54 : decode cX6_beside 54 = .ok (.invokevirtual 121, 3) := by decide +kernel
theorem dX6_beside_57 : decode cX6_beside 57 = .ok (.l2i, 1) := by decide +kernel
theorem dX6_beside_58 : decode cX6_beside 58 = .ok (.ireturn, 1) := by decide +kernel
set_option maxRecDepth 20000 in
theorem ggX6_norm_X6_isNoShelf : GoodIn wsX6_norm wsX6_isNoShelf := goodIn_r _ [6] (by decide +kernel) (by decide +kernel)
set_option maxRecDepth 20000 in
theorem gX6_norm_X6_isNoShelf : GoodIn wsX6_norm (va_wsS RX6 67 yX6_isNoShelf wsX6_isNoShelf) := goodIn_app (goodIn_of _ (by decide +kernel)) ggX6_norm_X6_isNoShelf
theorem dX6_norm_0 : decode cX6_norm 0 = .ok (.iload_n 1, 1) := by decide +kernel
theorem dX6_norm_1 : decode cX6_norm 1 = .ok (.invokestatic 67, 3) := by decide +kernel
theorem dX6_norm_4 : decode cX6_norm 4 = .ok (.ifCond .eq 7, 3) := by decide +kernel
theorem dX6_norm_7 : decode cX6_norm 7 = .ok (.ldc2_w 172, 3) := by decide +kernel
theorem dX6_norm_10 : decode cX6_norm 10 = .ok (.lreturn, 1) := by decide +kernel
theorem dX6_norm_11 : decode cX6_norm 11 = .ok (.aload_n 0, 1) := by decide +kernel
theorem dX6_norm_12 : decode cX6_norm 12 = .ok (.getfield 12, 3) := by decide +kernel
theorem dX6_norm_15 : decode cX6_norm 15 = .ok (.getfield 80, 3) := by decide +kernel
theorem dX6_norm_18 : decode cX6_norm 18 = .ok (.iload_n 1, 1) := by decide +kernel
theorem dX6_norm_19 : decode cX6_norm 19 = .ok (.iaload, 1) := by decide +kernel
theorem dX6_norm_20 : decode cX6_norm 20 = .ok (.i2l, 1) := by decide +kernel
theorem dX6_norm_21 : decode cX6_norm 21 = .ok (.lstore_n 2, 1) := by decide +kernel
theorem dX6_norm_22 : decode cX6_norm 22 = .ok (.aload_n 0, 1) := by decide +kernel
theorem dX6_norm_23 : decode cX6_norm 23 = .ok (.getfield 12, 3) := by decide +kernel
theorem dX6_norm_26 : decode cX6_norm 26 = .ok (.getfield 84, 3) := by decide +kernel
theorem dX6_norm_29 : decode cX6_norm 29 = .ok (.iload_n 1, 1) := by decide +kernel
theorem dX6_norm_30 : decode cX6_norm 30 = .ok (.iaload, 1) := by decide +kernel
theorem dX6_norm_31 : decode cX6_norm 31 = .ok (.i2l, 1) := by decide +kernel
theorem dX6_norm_32 : decode cX6_norm 32 = .ok (.lstore 4, 2) := by decide +kernel
theorem dX6_norm_34 : decode cX6_norm 34 = .ok (.lload_n 2, 1) := by decide +kernel
theorem dX6_norm_35 : decode cX6_norm 35 = .ok (.lload_n 2, 1) := by decide +kernel
theorem dX6_norm_36 : decode cX6_norm 36 = .ok (.lmul, 1) := by decide +kernel
theorem dX6_norm_37 : decode cX6_norm 37 = .ok (.aload_n 0, 1) := by decide +kernel
theorem dX6_norm_38 : decode cX6_norm 38 = .ok (.getfield 12, 3) := by decide +kernel
theorem dX6_norm_41 : decode cX6_norm 41 = .ok (.getfield 55, 3) := by decide +kernel
theorem dX6_norm_44 : decode cX6_norm 44 = .ok (.getfield 91, 3) := by decide +kernel
theorem dX6_norm_47 : decode cX6_norm 47 = .ok (.i2l, 1) := by decide +kernel
theorem dX6_norm_48 : decode cX6_norm 48 = .ok (.lload_n 2, 1) := by decide +kernel
theorem dX6_norm_49 : decode cX6_norm 49 = .ok (.lmul, 1) := by decide +kernel
theorem dX6_norm_50 : decode cX6_norm 50 = .ok (.lload 4, 2) := by decide +kernel
theorem dX6_norm_52 : decode cX6_norm 52 = .ok (.lmul, 1) := by decide +kernel
theorem dX6_norm_53 : decode cX6_norm 53 = .ok (.ladd, 1) := by decide +kernel
theorem dX6_norm_54 : decode cX6_norm 54 = .ok (.aload_n 0, 1) := by decide +kernel
theorem dX6_norm_55 : decode cX6_norm 55 = .ok (.getfield 12, 3) := by decide +kernel
theorem dX6_norm_58 : decode cX6_norm 58 = .ok (.getfield 55, 3) := by decide +kernel
theorem dX6_norm_61 : decode cX6_norm 61 = .ok (.getfield 87, 3) := by decide +kernel
theorem dX6_norm_64 : decode cX6_norm 64 = .ok (.i2l, 1) := by decide +kernel
theorem dX6_norm_65 : decode cX6_norm 65 = .ok (.lload 4, 2) := by decide +kernel
theorem dX6_norm_67 : decode cX6_norm 67 = .ok (.lmul, 1) := by decide +kernel
theorem dX6_norm_68 : decode cX6_norm 68 = .ok (.lload 4, 2) := by decide +kernel
theorem dX6_norm_70 : decode cX6_norm 70 = .ok (.lmul, 1) := by decide +kernel
theorem dX6_norm_71 : decode cX6_norm 71 = .ok (.lsub, 1) := by decide +kernel
theorem dX6_norm_72 : decode cX6_norm 72 = .ok (.lreturn, 1) := by decide +kernel
set_option maxRecDepth 20000 in
theorem ggX6_feed_X4_hasPoint : GoodIn wsX6_feed wsX4_hasPoint := goodIn_r _ [8, 9, 30, 31, 32, 33, 34, 35] (by decide +kernel) (by decide +kernel)
set_option maxRecDepth 20000 in
theorem gX6_feed_X4_hasPoint : GoodIn wsX6_feed (wsV RX6 174 RX4 yX4_hasPoint wsX4_hasPoint) := goodIn_app (goodIn_of _ (by decide +kernel)) ggX6_feed_X4_hasPoint
set_option maxRecDepth 20000 in
theorem ggX6_feed_X4_signs : GoodIn wsX6_feed wsX4_signs := goodIn_r _ [13, 14, 15, 5, 6, 7, 8, 9, 30, 31, 32, 33, 34, 35] (by decide +kernel) (by decide +kernel)
set_option maxRecDepth 20000 in
theorem gX6_feed_X4_signs : GoodIn wsX6_feed (wsV RX6 124 RX4 yX4_signs wsX4_signs) := goodIn_app (goodIn_of _ (by decide +kernel)) ggX6_feed_X4_signs
set_option maxRecDepth 20000 in
theorem ggX6_feed_X4_addPoint : GoodIn wsX6_feed wsX4_addPoint := goodIn_r _ [19, 14, 9, 30, 31, 32, 33, 34, 35] (by decide +kernel) (by decide +kernel)
set_option maxRecDepth 20000 in
theorem gX6_feed_X4_addPoint : GoodIn wsX6_feed (wsV RX6 177 RX4 yX4_addPoint wsX4_addPoint) := goodIn_app (goodIn_of _ (by decide +kernel)) ggX6_feed_X4_addPoint
set_option maxRecDepth 20000 in
theorem ggX6_feed_X4_addFigure : GoodIn wsX6_feed wsX4_addFigure := goodIn_r _ [23, 14, 24, 30, 31, 32, 33, 34, 35] (by decide +kernel) (by decide +kernel)
set_option maxRecDepth 20000 in
theorem gX6_feed_X4_addFigure : GoodIn wsX6_feed (wsV RX6 180 RX4 yX4_addFigure wsX4_addFigure) := goodIn_app (goodIn_of _ (by decide +kernel)) ggX6_feed_X4_addFigure
theorem dX6_feed_0 : decode cX6_feed 0 = .ok (.iload_n 1, 1) := by decide +kernel
theorem dX6_feed_1 : decode cX6_feed 1 = .ok (.bipush 46, 2) := by decide +kernel
theorem dX6_feed_3 : decode cX6_feed 3 = .ok (.if_icmp .ne 7, 3) := by decide +kernel
theorem dX6_feed_6 : decode cX6_feed 6 = .ok (.iconst 1, 1) := by decide +kernel
theorem dX6_feed_7 : decode cX6_feed 7 = .ok (.goto 4, 3) := by decide +kernel
theorem dX6_feed_10 : decode cX6_feed 10 = .ok (.iconst 0, 1) := by decide +kernel
theorem dX6_feed_11 : decode cX6_feed 11 = .ok (.istore_n 2, 1) := by decide +kernel
theorem dX6_feed_12 : decode cX6_feed 12 = .ok (.iload_n 1, 1) := by decide +kernel
theorem dX6_feed_13 : decode cX6_feed 13 = .ok (.bipush 48, 2) := by decide +kernel
theorem dX6_feed_15 : decode cX6_feed 15 = .ok (.if_icmp .lt 13, 3) := by decide +kernel
theorem dX6_feed_18 : decode cX6_feed 18 = .ok (.iload_n 1, 1) := by decide +kernel
theorem dX6_feed_19 : decode cX6_feed 19 = .ok (.bipush 57, 2) := by decide +kernel
theorem dX6_feed_21 : decode cX6_feed 21 = .ok (.if_icmp .gt 7, 3) := by decide +kernel
theorem dX6_feed_24 : decode cX6_feed 24 = .ok (.iconst 1, 1) := by decide +kernel
theorem dX6_feed_25 : decode cX6_feed 25 = .ok (.goto 4, 3) := by decide +kernel
theorem dX6_feed_28 : decode cX6_feed 28 = .ok (.iconst 0, 1) := by decide +kernel
theorem dX6_feed_29 : decode cX6_feed 29 = .ok (.istore_n 3, 1) := by decide +kernel
theorem dX6_feed_30 : decode cX6_feed 30 = .ok (.iload_n 2, 1) := by decide +kernel
theorem dX6_feed_31 : decode cX6_feed 31 = .ok (.ifCond .ne 7, 3) := by decide +kernel
theorem dX6_feed_34 : decode cX6_feed 34 = .ok (.iload_n 3, 1) := by decide +kernel
theorem dX6_feed_35 : decode cX6_feed 35 = .ok (.ifCond .eq 17, 3) := by decide +kernel
theorem dX6_feed_38 : decode cX6_feed 38 = .ok (.iload_n 2, 1) := by decide +kernel
theorem dX6_feed_39 : decode cX6_feed 39 = .ok (.ifCond .eq 16, 3) := by decide +kernel
theorem dX6_feed_42 : decode cX6_feed 42 = .ok (.aload_n 0, 1) := by decide +kernel
theorem dX6_feed_43 : decode cX6_feed 43 = .ok (.getfield 33, 3) := by decide +kernel
theorem dX6_feed_46 : decode cX6_feed 46 = .ok (.invokevirtual 174, 3) := by decide +kernel
theorem dX6_feed_49 : decode cX6_feed 49 = .ok (.ifCond .eq 6, 3) := by decide +kernel
theorem dX6_feed_52 : decode cX6_feed 52 = .ok (.ldc 50, 2) := by decide +kernel
theorem dX6_feed_54 : decode cX6_feed 54 = .ok (.ireturn, 1) := by decide +kernel
theorem dX6_feed_55 : decode cX6_feed 55 = .ok (.aload_n 0, 1) := by decide +kernel
theorem dX6_feed_56 : decode cX6_feed 56 = .ok (.getfield 33, 3) := by decide +kernel
theorem dX6_feed_59 : decode cX6_feed 59 = .ok (.invokevirtual 124, 3) := by decide +kernel
theorem dX6_feed_62 : decode cX6_feed 62 = .ok (.bipush 60, 2) := by decide +kernel
theorem dX6_feed_64 : decode cX6_feed 64 = .ok (.if_icmp .lt 6, 3) := by decide +kernel
theorem dX6_feed_67 : decode cX6_feed 67 = .ok (.ldc 142, 2) := by decide +kernel
theorem dX6_feed_69 : decode cX6_feed 69 = .ok (.ireturn, 1) := by decide +kernel
theorem dX6_feed_70 : decode cX6_feed 70 = .ok (.iload_n 2, 1) := by decide +kernel
theorem dX6_feed_71 : decode cX6_feed 71 = .ok (.ifCond .eq 13, 3) := by decide +kernel
theorem dX6_feed_74 : decode cX6_feed 74 = .ok (.aload_n 0, 1) := by decide +kernel
theorem dX6_feed_75 : decode cX6_feed 75 = .ok (.getfield 33, 3) := by decide +kernel
theorem dX6_feed_78 : decode cX6_feed 78 = .ok (.invokevirtual 177, 3) := by decide +kernel
theorem dX6_feed_81 : decode cX6_feed 81 = .ok (.goto 14, 3) := by decide +kernel
theorem dX6_feed_84 : decode cX6_feed 84 = .ok (.aload_n 0, 1) := by decide +kernel
theorem dX6_feed_85 : decode cX6_feed 85 = .ok (.getfield 33, 3) := by decide +kernel
theorem dX6_feed_88 : decode cX6_feed 88 = .ok (.iload_n 1, 1) := by decide +kernel
theorem dX6_feed_89 : decode cX6_feed 89 = .ok (.bipush 48, 2) := by decide +kernel
theorem dX6_feed_91 : decode cX6_feed 91 = .ok (.isub, 1) := by decide +kernel
theorem dX6_feed_92 : decode cX6_feed 92 = .ok (.invokevirtual 180, 3) := by decide +kernel
theorem dX6_feed_95 : decode cX6_feed 95 = .ok (.aload_n 0, 1) := by decide +kernel
theorem dX6_feed_96 : decode cX6_feed 96 = .ok (.getfield 33, 3) := by decide +kernel
theorem dX6_feed_99 : decode cX6_feed 99 = .ok (.invokevirtual 124, 3) := by decide +kernel
theorem dX6_feed_102 : decode cX6_feed 102 = .ok (.ireturn, 1) := by decide +kernel
set_option maxRecDepth 20000 in
theorem ggX6_clear_X4_signs : GoodIn wsX6_clear wsX4_signs := goodIn_r _ [6, 7, 8, 9, 10, 5, 11, 12, 22, 23, 24, 25, 26, 27] (by decide +kernel) (by decide +kernel)
set_option maxRecDepth 20000 in
theorem gX6_clear_X4_signs : GoodIn wsX6_clear (wsV RX6 124 RX4 yX4_signs wsX4_signs) := goodIn_app (goodIn_of _ (by decide +kernel)) ggX6_clear_X4_signs
set_option maxRecDepth 20000 in
theorem ggX6_clear_X4_empty : GoodIn wsX6_clear wsX4_empty := goodIn_r _ [16, 7, 12, 22, 23, 24, 25, 26, 27] (by decide +kernel) (by decide +kernel)
set_option maxRecDepth 20000 in
theorem gX6_clear_X4_empty : GoodIn wsX6_clear (wsV RX6 184 RX4 yX4_empty wsX4_empty) := goodIn_app (goodIn_of _ (by decide +kernel)) ggX6_clear_X4_empty
theorem dX6_clear_0 : decode cX6_clear 0 = .ok (.aload_n 0, 1) := by decide +kernel
theorem dX6_clear_1 : decode cX6_clear 1 = .ok (.getfield 33, 3) := by decide +kernel
theorem dX6_clear_4 : decode cX6_clear 4 = .ok (.invokevirtual 124, 3) := by decide +kernel
theorem dX6_clear_7 : decode cX6_clear 7 = .ok (.istore_n 1, 1) := by decide +kernel
theorem dX6_clear_8 : decode cX6_clear 8 = .ok (.aload_n 0, 1) := by decide +kernel
theorem dX6_clear_9 : decode cX6_clear 9 = .ok (.getfield 33, 3) := by decide +kernel
theorem dX6_clear_12 : decode cX6_clear 12 = .ok (.invokevirtual 184, 3) := by decide +kernel
theorem dX6_clear_15 : decode cX6_clear 15 = .ok (.iload_n 1, 1) := by decide +kernel
theorem dX6_clear_16 : decode cX6_clear 16 = .ok (.ireturn, 1) := by decide +kernel
set_option maxRecDepth 20000 in
theorem ggX6_normal_X6_spellWord : GoodIn wsX6_normal wsX6_spellWord := goodIn_r _ [8, 9, 10, 3, 11, 12, 13, 14, 15, 16, 17, 18, 19, 20, 21, 22, 23, 24, 25, 26, 27, 28, 29, 30, 31, 7, 32, 33, 34, 35, 36, 37, 38, 39, 40, 41, 42, 43, 44, 45, 46, 47, 48, 49, 50, 51, 52, 53, 54, 55, 56, 57, 58, 59, 60, 61, 62, 63, 64, 65, 66, 67, 68, 69, 70, 71, 72, 73, 74, 75, 76, 77, 78, 79, 80, 81, 82, 83, 84, 85, 86, 87, 88, 89, 90, 91, 92, 93, 94, 95, 100, 101, 102, 103, 104, 121, 122, 123, 124, 125, 126, 127, 128, 129, 130, 131, 105, 106, 107, 108, 109, 110, 111, 112, 113, 114, 115, 116, 117, 118, 119, 120] (by decide +kernel) (by decide +kernel)
set_option maxRecDepth 20000 in
theorem gX6_normal_X6_spellWord : GoodIn wsX6_normal (wsV RX6 146 RX6 yX6_spellWord wsX6_spellWord) := goodIn_app (goodIn_of _ (by decide +kernel)) ggX6_normal_X6_spellWord
set_option maxRecDepth 20000 in
theorem ggX6_normal_X5_hasFigure : GoodIn wsX6_normal wsX5_hasFigure := goodIn_r _ [99, 72, 82, 105, 106, 107, 108, 109, 110, 111, 112, 113, 114, 115, 116, 117, 118, 119, 120] (by decide +kernel) (by decide +kernel)
set_option maxRecDepth 20000 in
theorem gX6_normal_X5_hasFigure : GoodIn wsX6_normal (wsV RX6 166 RX5 yX5_hasFigure wsX5_hasFigure) := goodIn_app (goodIn_of _ (by decide +kernel)) ggX6_normal_X5_hasFigure
theorem dX6_normal_0 : decode cX6_normal 0 = .ok (.iload_n 1, 1) := by decide +kernel
theorem dX6_normal_1 : decode cX6_normal 1 = .ok (.ifCond .ge 6, 3) := by decide +kernel
theorem dX6_normal_4 : decode cX6_normal 4 = .ok (.ldc 50, 2) := by decide +kernel
theorem dX6_normal_6 : decode cX6_normal 6 = .ok (.ireturn, 1) := by decide +kernel
theorem dX6_normal_7 : decode cX6_normal 7 = .ok (.aload_n 0, 1) := by decide +kernel
theorem dX6_normal_8 : decode cX6_normal 8 = .ok (.invokevirtual 146, 3) := by decide +kernel
theorem dX6_normal_11 : decode cX6_normal 11 = .ok (.ifCond .ne 6, 3) := by decide +kernel
theorem dX6_normal_14 : decode cX6_normal 14 = .ok (.ldc 142, 2) := by decide +kernel
theorem dX6_normal_16 : decode cX6_normal 16 = .ok (.ireturn, 1) := by decide +kernel
theorem dX6_normal_17 : decode cX6_normal 17 = .ok (.aload_n 0, 1) := by decide +kernel
theorem dX6_normal_18 : decode cX6_normal 18 = .ok (.getfield 40, 3) := by decide +kernel
theorem dX6_normal_21 : decode cX6_normal 21 = .ok (.iload_n 1, 1) := by decide +kernel
theorem dX6_normal_22 : decode cX6_normal 22 = .ok (.invokevirtual 166, 3) := by decide +kernel
theorem dX6_normal_25 : decode cX6_normal 25 = .ok (.ifCond .eq 15, 3) := by decide +kernel
theorem dX6_normal_28 : decode cX6_normal 28 = .ok (.aload_n 0, 1) := by decide +kernel
theorem dX6_normal_29 : decode cX6_normal 29 = .ok (.getfield 40, 3) := by decide +kernel
theorem dX6_normal_32 : decode cX6_normal 32 = .ok (.getfield 169, 3) := by decide +kernel
theorem dX6_normal_35 : decode cX6_normal 35 = .ok (.iload_n 1, 1) := by decide +kernel
theorem dX6_normal_36 : decode cX6_normal 36 = .ok (.iaload, 1) := by decide +kernel
theorem dX6_normal_37 : decode cX6_normal 37 = .ok (.goto 4, 3) := by decide +kernel
theorem dX6_normal_40 : decode cX6_normal 40 = .ok (.iconst (-1), 1) := by decide +kernel
theorem dX6_normal_41 : decode cX6_normal 41 = .ok (.ireturn, 1) := by decide +kernel
set_option maxRecDepth 20000 in
theorem ggX6_next_X4_findFollower : GoodIn wsX6_next wsX4_findFollower := goodIn_r _ [8, 9, 10, 11, 12, 13, 14, 15, 16, 17, 7, 18, 19, 20, 21, 22, 23, 24, 25, 26, 27, 28, 34, 35, 36, 37, 38, 39, 43, 44] (by decide +kernel) (by decide +kernel)
set_option maxRecDepth 20000 in
theorem gX6_next_X4_findFollower : GoodIn wsX6_next (wsV RX6 188 RX4 yX4_findFollower wsX4_findFollower) := goodIn_app (goodIn_of _ (by decide +kernel)) ggX6_next_X4_findFollower
theorem dX6_next_0 : decode cX6_next 0 = .ok (.iload_n 1, 1) := by decide +kernel
theorem dX6_next_1 : decode cX6_next 1 = .ok (.ifCond .ge 6, 3) := by decide +kernel
theorem dX6_next_4 : decode cX6_next 4 = .ok (.ldc 50, 2) := by decide +kernel
theorem dX6_next_6 : decode cX6_next 6 = .ok (.ireturn, 1) := by decide +kernel
theorem dX6_next_7 : decode cX6_next 7 = .ok (.iload_n 1, 1) := by decide +kernel
theorem dX6_next_8 : decode cX6_next 8 = .ok (.aload_n 0, 1) := by decide +kernel
theorem dX6_next_9 : decode cX6_next 9 = .ok (.getfield 33, 3) := by decide +kernel
theorem dX6_next_12 : decode cX6_next 12 = .ok (.getfield 187, 3) := by decide +kernel
theorem dX6_next_15 : decode cX6_next 15 = .ok (.if_icmp .ge 20, 3) := by decide +kernel
theorem dX6_next_18 : decode cX6_next 18 = .ok (.aload_n 0, 1) := by decide +kernel
theorem dX6_next_19 : decode cX6_next 19 = .ok (.getfield 33, 3) := by decide +kernel
theorem dX6_next_22 : decode cX6_next 22 = .ok (.aload_n 0, 1) := by decide +kernel
theorem dX6_next_23 : decode cX6_next 23 = .ok (.getfield 12, 3) := by decide +kernel
theorem dX6_next_26 : decode cX6_next 26 = .ok (.getfield 55, 3) := by decide +kernel
theorem dX6_next_29 : decode cX6_next 29 = .ok (.invokevirtual 188, 3) := by decide +kernel
theorem dX6_next_32 : decode cX6_next 32 = .ok (.ifCond .ne 5, 3) := by decide +kernel
theorem dX6_next_35 : decode cX6_next 35 = .ok (.iconst (-1), 1) := by decide +kernel
theorem dX6_next_36 : decode cX6_next 36 = .ok (.ireturn, 1) := by decide +kernel
theorem dX6_next_37 : decode cX6_next 37 = .ok (.aload_n 0, 1) := by decide +kernel
theorem dX6_next_38 : decode cX6_next 38 = .ok (.getfield 33, 3) := by decide +kernel
theorem dX6_next_41 : decode cX6_next 41 = .ok (.getfield 191, 3) := by decide +kernel
theorem dX6_next_44 : decode cX6_next 44 = .ok (.iload_n 1, 1) := by decide +kernel
theorem dX6_next_45 : decode cX6_next 45 = .ok (.iaload, 1) := by decide +kernel
theorem dX6_next_46 : decode cX6_next 46 = .ok (.ireturn, 1) := by decide +kernel
set_option maxRecDepth 20000 in
theorem ggX6_one_X0_figureOfOne : GoodIn wsX6_one wsX0_figureOfOne := goodIn_r _ [7, 8, 9, 18, 19] (by decide +kernel) (by decide +kernel)
set_option maxRecDepth 20000 in
theorem gX6_one_X0_figureOfOne : GoodIn wsX6_one (wsV RX6 194 RX0 yX0_figureOfOne wsX0_figureOfOne) := goodIn_app (goodIn_of _ (by decide +kernel)) ggX6_one_X0_figureOfOne
theorem dX6_one_0 : decode cX6_one 0 = .ok (.iload_n 1, 1) := by decide +kernel
theorem dX6_one_1 : decode cX6_one 1 = .ok (.ifCond .ge 6, 3) := by decide +kernel
theorem dX6_one_4 : decode cX6_one 4 = .ok (.ldc 50, 2) := by decide +kernel
theorem dX6_one_6 : decode cX6_one 6 = .ok (.ireturn, 1) := by decide +kernel
theorem dX6_one_7 : decode cX6_one 7 = .ok (.aload_n 0, 1) := by decide +kernel
theorem dX6_one_8 : decode cX6_one 8 = .ok (.getfield 12, 3) := by decide +kernel
theorem dX6_one_11 : decode cX6_one 11 = .ok (.getfield 55, 3) := by decide +kernel
theorem dX6_one_14 : decode cX6_one 14 = .ok (.iload_n 1, 1) := by decide +kernel
theorem dX6_one_15 : decode cX6_one 15 = .ok (.invokevirtual 194, 3) := by decide +kernel
theorem dX6_one_18 : decode cX6_one 18 = .ok (.ireturn, 1) := by decide +kernel
set_option maxRecDepth 20000 in
theorem ggX6_read_X6_isNoShelf : GoodIn wsX6_read wsX6_isNoShelf := goodIn_r _ [8] (by decide +kernel) (by decide +kernel)
set_option maxRecDepth 20000 in
theorem gX6_read_X6_isNoShelf : GoodIn wsX6_read (va_wsS RX6 67 yX6_isNoShelf wsX6_isNoShelf) := goodIn_app (goodIn_of _ (by decide +kernel)) ggX6_read_X6_isNoShelf
set_option maxRecDepth 20000 in
theorem ggX6_read_X4_reckon : GoodIn wsX6_read wsX4_reckon := goodIn_r _ [13, 14, 15, 16, 17, 18, 19, 20, 21, 22, 23, 24, 25, 26, 27, 28, 29, 7, 30, 31, 32, 94, 95, 96, 97, 98, 99, 100, 101] (by decide +kernel) (by decide +kernel)
set_option maxRecDepth 20000 in
theorem gX6_read_X4_reckon : GoodIn wsX6_read (wsV RX6 134 RX4 yX4_reckon wsX4_reckon) := goodIn_app (goodIn_of _ (by decide +kernel)) ggX6_read_X4_reckon
set_option maxRecDepth 20000 in
theorem ggX6_read_X6_lay : GoodIn wsX6_read wsX6_lay := goodIn_r _ [36, 4, 37, 3, 38, 29, 7, 30, 31, 32, 39, 40, 41, 42, 43, 44, 45, 46, 47, 48, 49, 50, 51, 52, 53, 54, 55, 56, 57, 58, 59, 60, 61, 62, 63, 64, 65, 21, 66, 67, 23, 68, 69, 70, 71, 72, 73, 74, 75, 76, 28, 86, 87, 88, 89, 90, 91, 92, 93, 102, 103, 104, 100, 101] (by decide +kernel) (by decide +kernel)
set_option maxRecDepth 20000 in
theorem gX6_read_X6_lay : GoodIn wsX6_read (wsV RX6 76 RX6 yX6_lay wsX6_lay) := goodIn_app (goodIn_of _ (by decide +kernel)) ggX6_read_X6_lay
set_option maxRecDepth 20000 in
theorem ggX6_read_X4_shift : GoodIn wsX6_read wsX4_shift := goodIn_r _ [80, 14, 81, 82, 83, 84, 12, 85, 94, 95, 96, 97, 98, 99] (by decide +kernel) (by decide +kernel)
set_option maxRecDepth 20000 in
theorem gX6_read_X4_shift : GoodIn wsX6_read (wsV RX6 131 RX4 yX4_shift wsX4_shift) := goodIn_app (goodIn_of _ (by decide +kernel)) ggX6_read_X4_shift
theorem dX6_read_0 : decode cX6_read 0 = .ok (.iload_n 1, 1) := by decide +kernel
theorem dX6_read_1 : decode cX6_read 1 = .ok (.invokestatic 67, 3) := by decide +kernel
theorem dX6_read_4 : decode cX6_read 4 = .ok (.ifCond .eq 6, 3) := by decide +kernel
theorem dX6_read_7 : decode cX6_read 7 = .ok (.ldc 71, 2) := by decide +kernel
theorem dX6_read_9 : decode cX6_read 9 = .ok (.ireturn, 1) := by decide +kernel
theorem dX6_read_10 : decode cX6_read 10 = .ok (.aload_n 0, 1) := by decide +kernel
theorem dX6_read_11 : decode cX6_read 11 = .ok (.getfield 33, 3) := by decide +kernel
theorem dX6_read_14 : decode cX6_read 14 = .ok (.aload_n 0, 1) := by decide +kernel
theorem dX6_read_15 : decode cX6_read 15 = .ok (.getfield 12, 3) := by decide +kernel
theorem dX6_read_18 : decode cX6_read 18 = .ok (.getfield 55, 3) := by decide +kernel
theorem dX6_read_21 : decode cX6_read 21 = .ok (.invokevirtual 134, 3) := by decide +kernel
theorem dX6_read_24 : decode cX6_read 24 = .ok (.ifCond .ne 6, 3) := by decide +kernel
theorem dX6_read_27 : decode cX6_read 27 = .ok (.ldc 142, 2) := by decide +kernel
theorem dX6_read_29 : decode cX6_read 29 = .ok (.ireturn, 1) := by decide +kernel
theorem dX6_read_30 : decode cX6_read 30 = .ok (.aload_n 0, 1) := by decide +kernel
theorem dX6_read_31 : decode cX6_read 31 = .ok (.iload_n 1, 1) := by decide +kernel
theorem dX6_read_32 : decode cX6_read 32 = .ok (.aload_n 0, 1) := by decide +kernel
theorem dX6_read_33 : decode cX6_read 33 = .ok (.getfield 33, 3) := by decide +kernel
theorem dX6_read_36 : decode cX6_read 36 = .ok (.getfield 138, 3) := by decide +kernel
theorem dX6_read_39 : decode cX6_read 39 = .ok (.i2l, 1) := by decide +kernel
theorem dX6_read_40 : decode cX6_read 40 = .ok (.aload_n 0, 1) := by decide +kernel
theorem dX6_read_41 : decode cX6_read 41 = .ok (.getfield 33, 3) := by decide +kernel
theorem dX6_read_44 : decode cX6_read 44 = .ok (.getfield 143, 3) := by decide +kernel
theorem dX6_read_47 : decode cX6_read 47 = .ok (.i2l, 1) := by decide +kernel
theorem dX6_read_48 : decode cX6_read 48 = .ok (.invokevirtual 76, 3) := by decide +kernel
theorem dX6_read_51 : decode cX6_read 51 = .ok (.pop, 1) := by decide +kernel
theorem dX6_read_52 : decode cX6_read 52 = .ok (.aload_n 0, 1) := by decide +kernel
theorem dX6_read_53 : decode cX6_read 53 = .ok (.getfield 33, 3) := by decide +kernel
theorem dX6_read_56 : decode cX6_read 56 = .ok (.invokevirtual 131, 3) := by decide +kernel
theorem dX6_read_59 : decode cX6_read 59 = .ok (.ireturn, 1) := by decide +kernel
set_option maxRecDepth 20000 in
theorem ggX6_write_X6_isNoShelf : GoodIn wsX6_write wsX6_isNoShelf := goodIn_r _ [9] (by decide +kernel) (by decide +kernel)
set_option maxRecDepth 20000 in
theorem gX6_write_X6_isNoShelf : GoodIn wsX6_write (va_wsS RX6 67 yX6_isNoShelf wsX6_isNoShelf) := goodIn_app (goodIn_of _ (by decide +kernel)) ggX6_write_X6_isNoShelf
set_option maxRecDepth 20000 in
theorem ggX6_write_X6_spellShelf : GoodIn wsX6_write wsX6_spellShelf := goodIn_r _ [13, 3, 14, 15, 16, 17, 8, 18, 19, 20, 21, 22, 23, 24, 25, 26, 27, 28, 29, 30, 31, 32, 33, 34, 35, 36, 37, 38, 39, 40, 41, 42, 43, 44, 45, 46, 47, 48, 49, 50, 51, 52, 53, 54, 55, 56, 57, 58, 59, 60, 61, 62, 63, 64, 65, 66, 67, 68, 69, 70, 71, 72, 73, 74, 75, 76, 77, 78, 79, 80, 81, 82, 83, 84, 85, 86, 87, 88, 89, 111, 112, 113, 114, 115, 132, 133, 134, 135, 136, 116, 117, 118, 119, 120, 121, 122, 123, 124, 125, 126, 127, 128, 129, 130, 131] (by decide +kernel) (by decide +kernel)
set_option maxRecDepth 20000 in
theorem gX6_write_X6_spellShelf : GoodIn wsX6_write (wsV RX6 157 RX6 yX6_spellShelf wsX6_spellShelf) := goodIn_app (goodIn_of _ (by decide +kernel)) ggX6_write_X6_spellShelf
set_option maxRecDepth 20000 in
theorem ggX6_write_X5_figureCount : GoodIn wsX6_write wsX5_figureCount := goodIn_r _ [93, 66, 76, 116, 117, 118, 119, 120, 121, 122, 123, 124, 125, 126, 127, 128, 129, 130, 131] (by decide +kernel) (by decide +kernel)
set_option maxRecDepth 20000 in
theorem gX6_write_X5_figureCount : GoodIn wsX6_write (wsV RX6 150 RX5 yX5_figureCount wsX5_figureCount) := goodIn_app (goodIn_of _ (by decide +kernel)) ggX6_write_X5_figureCount
set_option maxRecDepth 20000 in
theorem ggX6_write_X4_copyFrom : GoodIn wsX6_write wsX4_copyFrom := goodIn_r _ [98, 99, 100, 101, 102, 97, 103, 104, 105, 91, 92, 39, 93, 66, 76, 106, 107, 108, 109, 110, 116, 117, 118, 119, 120, 121, 122, 123, 124, 125, 126, 127, 128, 129, 130, 131, 137, 138, 139, 140, 141, 142] (by decide +kernel) (by decide +kernel)
set_option maxRecDepth 20000 in
theorem gX6_write_X4_copyFrom : GoodIn wsX6_write (wsV RX6 200 RX4 yX4_copyFrom wsX4_copyFrom) := goodIn_app (goodIn_of _ (by decide +kernel)) ggX6_write_X4_copyFrom
theorem dX6_write_0 : decode cX6_write 0 = .ok (.iload_n 1, 1) := by decide +kernel
theorem dX6_write_1 : decode cX6_write 1 = .ok (.invokestatic 67, 3) := by decide +kernel
theorem dX6_write_4 : decode cX6_write 4 = .ok (.ifCond .eq 6, 3) := by decide +kernel
theorem dX6_write_7 : decode cX6_write 7 = .ok (.ldc 71, 2) := by decide +kernel
theorem dX6_write_9 : decode cX6_write 9 = .ok (.ireturn, 1) := by decide +kernel
theorem dX6_write_10 : decode cX6_write 10 = .ok (.aload_n 0, 1) := by decide +kernel
theorem dX6_write_11 : decode cX6_write 11 = .ok (.iload_n 1, 1) := by decide +kernel
theorem dX6_write_12 : decode cX6_write 12 = .ok (.invokevirtual 157, 3) := by decide +kernel
theorem dX6_write_15 : decode cX6_write 15 = .ok (.ifCond .ne 6, 3) := by decide +kernel
theorem dX6_write_18 : decode cX6_write 18 = .ok (.ldc 117, 2) := by decide +kernel
theorem dX6_write_20 : decode cX6_write 20 = .ok (.ireturn, 1) := by decide +kernel
theorem dX6_write_21 : decode cX6_write 21 = .ok (.aload_n 0, 1) := by decide +kernel
theorem dX6_write_22 : decode cX6_write 22 = .ok (.getfield 40, 3) := by decide +kernel
theorem dX6_write_25 : decode cX6_write 25 = .ok (.invokevirtual 150, 3) := by decide +kernel
theorem dX6_write_28 : decode cX6_write 28 = .ok (.aload_n 0, 1) := by decide +kernel
theorem dX6_write_29 : decode cX6_write 29 = .ok (.getfield 40, 3) := by decide +kernel
theorem dX6_write_32 : decode cX6_write 32 = .ok (.getfield 197, 3) := by decide +kernel
theorem dX6_write_35 : decode cX6_write 35 = .ok (.ifCond .le 7, 3) := by decide +kernel
theorem dX6_write_38 : decode cX6_write 38 = .ok (.iconst 1, 1) := by decide +kernel
theorem dX6_write_39 : decode cX6_write 39 = .ok (.goto 4, 3) := by decide +kernel
theorem dX6_write_42 : decode cX6_write 42 = .ok (.iconst 0, 1) := by decide +kernel
theorem dX6_write_43 : decode cX6_write 43 = .ok (.iadd, 1) := by decide +kernel
theorem dX6_write_44 : decode cX6_write 44 = .ok (.istore_n 2, 1) := by decide +kernel
theorem dX6_write_45 : decode cX6_write 45 = .ok (.iload_n 2, 1) := by decide +kernel
theorem dX6_write_46 : decode cX6_write 46 = .ok (.bipush 60, 2) := by decide +kernel
theorem dX6_write_48 : decode cX6_write 48 = .ok (.if_icmp .le 6, 3) := by decide +kernel
theorem dX6_write_51 : decode cX6_write 51 = .ok (.ldc 142, 2) := by decide +kernel
theorem dX6_write_53 : decode cX6_write 53 = .ok (.ireturn, 1) := by decide +kernel
theorem dX6_write_54 : decode cX6_write 54 = .ok (.aload_n 0, 1) := by decide +kernel
theorem dX6_write_55 : decode cX6_write 55 = .ok (.getfield 33, 3) := by decide +kernel
theorem dX6_write_58 : decode cX6_write 58 = .ok (.aload_n 0, 1) := by decide +kernel
theorem dX6_write_59 : decode cX6_write 59 = .ok (.getfield 40, 3) := by decide +kernel
theorem dX6_write_62 : decode cX6_write 62 = .ok (.invokevirtual 200, 3) := by decide +kernel
theorem dX6_write_65 : decode cX6_write 65 = .ok (.iload_n 2, 1) := by decide +kernel
theorem dX6_write_66 : decode cX6_write 66 = .ok (.ireturn, 1) := by decide +kernel
set_option maxRecDepth 20000 in
theorem ggX6_keep_X2_take : GoodIn wsX6_keep wsX2_take := goodIn_r _ [9, 10, 11, 12, 13, 14, 15, 16, 17, 18, 19, 20, 21, 22, 23, 35, 36, 37, 38, 39, 40, 41] (by decide +kernel) (by decide +kernel)
set_option maxRecDepth 20000 in
theorem gX6_keep_X2_take : GoodIn wsX6_keep (wsV RX6 204 RX2 yX2_take wsX2_take) := goodIn_app (goodIn_of _ (by decide +kernel)) ggX6_keep_X2_take
set_option maxRecDepth 20000 in
theorem ggX6_keep_X1_forget : GoodIn wsX6_keep wsX1_forget := goodIn_r _ [28, 29, 42, 43, 44] (by decide +kernel) (by decide +kernel)
set_option maxRecDepth 20000 in
theorem gX6_keep_X1_forget : GoodIn wsX6_keep (wsV RX6 208 RX1 yX1_forget wsX1_forget) := goodIn_app (goodIn_of _ (by decide +kernel)) ggX6_keep_X1_forget
theorem dX6_keep_0 : decode cX6_keep 0 = .ok (.iload_n 1, 1) := by decide +kernel
theorem dX6_keep_1 : decode cX6_keep 1 = .ok (.ifCond .lt 8, 3) := by decide +kernel
theorem dX6_keep_4 : decode cX6_keep 4 = .ok (.iload_n 1, 1) := by decide +kernel
theorem dX6_keep_5 : decode cX6_keep 5 = .ok (.iconst 2, 1) := by decide +kernel
theorem dX6_keep_6 : decode cX6_keep 6 = .ok (.if_icmp .lt 6, 3) := by decide +kernel
theorem dX6_keep_9 : decode cX6_keep 9 = .ok (.ldc 71, 2) := by decide +kernel
theorem dX6_keep_11 : decode cX6_keep 11 = .ok (.ireturn, 1) := by decide +kernel
theorem dX6_keep_12 : decode cX6_keep 12 = .ok (.aload_n 0, 1) := by decide +kernel
theorem dX6_keep_13 : decode cX6_keep 13 = .ok (.getfield 26, 3) := by decide +kernel
theorem dX6_keep_16 : decode cX6_keep 16 = .ok (.iload_n 1, 1) := by decide +kernel
theorem dX6_keep_17 : decode cX6_keep 17 = .ok (.aload_n 0, 1) := by decide +kernel
theorem dX6_keep_18 : decode cX6_keep 18 = .ok (.getfield 12, 3) := by decide +kernel
theorem dX6_keep_21 : decode cX6_keep 21 = .ok (.invokevirtual 204, 3) := by decide +kernel
theorem dX6_keep_24 : decode cX6_keep 24 = .ok (.aload_n 0, 1) := by decide +kernel
theorem dX6_keep_25 : decode cX6_keep 25 = .ok (.getfield 19, 3) := by decide +kernel
theorem dX6_keep_28 : decode cX6_keep 28 = .ok (.invokevirtual 208, 3) := by decide +kernel
theorem dX6_keep_31 : decode cX6_keep 31 = .ok (.iconst 1, 1) := by decide +kernel
theorem dX6_keep_32 : decode cX6_keep 32 = .ok (.ireturn, 1) := by decide +kernel
set_option maxRecDepth 20000 in
theorem ggX6_goBack_X2_give : GoodIn wsX6_goBack wsX2_give := goodIn_r _ [10, 11, 12, 13, 14, 15, 16, 17, 18, 19, 20, 21, 22, 23, 24, 25, 26, 27, 28, 29, 30, 42, 43, 44, 45, 46, 47, 48] (by decide +kernel) (by decide +kernel)
set_option maxRecDepth 20000 in
theorem gX6_goBack_X2_give : GoodIn wsX6_goBack (wsV RX6 215 RX2 yX2_give wsX2_give) := goodIn_app (goodIn_of _ (by decide +kernel)) ggX6_goBack_X2_give
set_option maxRecDepth 20000 in
theorem ggX6_goBack_X1_forget : GoodIn wsX6_goBack wsX1_forget := goodIn_r _ [35, 36, 49, 50, 51] (by decide +kernel) (by decide +kernel)
set_option maxRecDepth 20000 in
theorem gX6_goBack_X1_forget : GoodIn wsX6_goBack (wsV RX6 208 RX1 yX1_forget wsX1_forget) := goodIn_app (goodIn_of _ (by decide +kernel)) ggX6_goBack_X1_forget
theorem dX6_goBack_0 : decode cX6_goBack 0 = .ok (.iload_n 1, 1) := by decide +kernel
theorem dX6_goBack_1 : decode cX6_goBack 1 = .ok (.ifCond .lt 8, 3) := by decide +kernel
theorem dX6_goBack_4 : decode cX6_goBack 4 = .ok (.iload_n 1, 1) := by decide +kernel
theorem dX6_goBack_5 : decode cX6_goBack 5 = .ok (.iconst 2, 1) := by decide +kernel
theorem dX6_goBack_6 : decode cX6_goBack 6 = .ok (.if_icmp .lt 6, 3) := by decide +kernel
theorem dX6_goBack_9 : decode cX6_goBack 9 = .ok (.ldc 71, 2) := by decide +kernel
theorem dX6_goBack_11 : decode cX6_goBack 11 = .ok (.ireturn, 1) := by decide +kernel
theorem dX6_goBack_12 : decode cX6_goBack 12 = .ok (.aload_n 0, 1) := by decide +kernel
theorem dX6_goBack_13 : decode cX6_goBack 13 = .ok (.getfield 26, 3) := by decide +kernel
theorem dX6_goBack_16 : decode cX6_goBack 16 = .ok (.getfield 211, 3) := by decide +kernel
theorem dX6_goBack_19 : decode cX6_goBack 19 = .ok (.iload_n 1, 1) := by decide +kernel
theorem dX6_goBack_20 : decode cX6_goBack 20 = .ok (.baload, 1) := by decide +kernel
theorem dX6_goBack_21 : decode cX6_goBack 21 = .ok (.ifCond .ne 6, 3) := by decide +kernel
theorem dX6_goBack_24 : decode cX6_goBack 24 = .ok (.ldc 117, 2) := by decide +kernel
theorem dX6_goBack_26 : decode cX6_goBack 26 = .ok (.ireturn, 1) := by decide +kernel
theorem dX6_goBack_27 : decode cX6_goBack 27 = .ok (.aload_n 0, 1) := by decide +kernel
theorem dX6_goBack_28 : decode cX6_goBack 28 = .ok (.getfield 26, 3) := by decide +kernel
theorem dX6_goBack_31 : decode cX6_goBack 31 = .ok (.iload_n 1, 1) := by decide +kernel
theorem dX6_goBack_32 : decode cX6_goBack 32 = .ok (.aload_n 0, 1) := by decide +kernel
theorem dX6_goBack_33 : decode cX6_goBack 33 = .ok (.getfield 12, 3) := by decide +kernel
theorem dX6_goBack_36 : decode cX6_goBack 36 = .ok (.invokevirtual 215, 3) := by decide +kernel
theorem dX6_goBack_39 : decode cX6_goBack 39 = .ok (.aload_n 0, 1) := by decide +kernel
theorem dX6_goBack_40 : decode cX6_goBack 40 = .ok (.getfield 19, 3) := by decide +kernel
theorem dX6_goBack_43 : decode cX6_goBack 43 = .ok (.invokevirtual 208, 3) := by decide +kernel
theorem dX6_goBack_46 : decode cX6_goBack 46 = .ok (.iconst 1, 1) := by decide +kernel
theorem dX6_goBack_47 : decode cX6_goBack 47 = .ok (.ireturn, 1) := by decide +kernel
theorem dX6_isNoShelf_0 : decode cX6_isNoShelf 0 = .ok (.iload_n 0, 1) := by decide +kernel
theorem dX6_isNoShelf_1 : decode cX6_isNoShelf 1 = .ok (.ifCond .lt 8, 3) := by decide +kernel
theorem dX6_isNoShelf_4 : decode cX6_isNoShelf 4 = .ok (.iload_n 0, 1) := by decide +kernel
theorem dX6_isNoShelf_5 : decode cX6_isNoShelf 5 = .ok (.iconst 4, 1) := by decide +kernel
theorem dX6_isNoShelf_6 : decode cX6_isNoShelf 6 = .ok (.if_icmp .lt 7, 3) := by decide +kernel
theorem dX6_isNoShelf_9 : decode cX6_isNoShelf 9 = .ok (.iconst 1, 1) := by decide +kernel
theorem dX6_isNoShelf_10 : decode cX6_isNoShelf 10 = .ok (.goto 4, 3) := by decide +kernel
theorem dX6_isNoShelf_13 : decode cX6_isNoShelf 13 = .ok (.iconst 0, 1) := by decide +kernel
theorem dX6_isNoShelf_14 : decode cX6_isNoShelf 14 = .ok (.ireturn, 1) := by decide +kernel
theorem dX6_isOutOfBounds_0 : decode cX6_isOutOfBounds 0 = .ok (.lload_n 0, 1) := by decide +kernel
theorem dX6_isOutOfBounds_1 : decode cX6_isOutOfBounds 1 = .ok (.ldc2_w 218, 3) := by decide +kernel
theorem dX6_isOutOfBounds_4 : decode cX6_isOutOfBounds 4 = .ok (.lcmp, 1) := by decide +kernel
theorem dX6_isOutOfBounds_5 : decode cX6_isOutOfBounds 5 = .ok (.ifCond .lt 11, 3) := by decide +kernel
theorem dX6_isOutOfBounds_8 : decode cX6_isOutOfBounds 8 = .ok (.lload_n 0, 1) := by decide +kernel
theorem dX6_isOutOfBounds_9 : decode cX6_isOutOfBounds 9 = .ok (.ldc2_w 220, 3) := by decide +kernel
theorem dX6_isOutOfBounds_12 : decode cX6_isOutOfBounds 12 = .ok (.lcmp, 1) := by decide +kernel
theorem dX6_isOutOfBounds_13 : decode cX6_isOutOfBounds 13 = .ok (.ifCond .le 7, 3) := by decide +kernel
theorem dX6_isOutOfBounds_16 : decode cX6_isOutOfBounds 16 = .ok (.iconst 1, 1) := by decide +kernel
theorem dX6_isOutOfBounds_17 : decode cX6_isOutOfBounds 17 = .ok (.goto 4, 3) := by decide +kernel
theorem dX6_isOutOfBounds_20 : decode cX6_isOutOfBounds 20 = .ok (.iconst 0, 1) := by decide +kernel
theorem dX6_isOutOfBounds_21 : decode cX6_isOutOfBounds 21 = .ok (.ireturn, 1) := by decide +kernel
theorem dX6_lot_0 : decode cX6_lot 0 = .ok (.lload_n 0, 1) := by decide +kernel
theorem dX6_lot_1 : decode cX6_lot 1 = .ok (.ldc2_w 222, 3) := by decide +kernel
theorem dX6_lot_4 : decode cX6_lot 4 = .ok (.lmul, 1) := by decide +kernel
theorem dX6_lot_5 : decode cX6_lot 5 = .ok (.ldc2_w 224, 3) := by decide +kernel
theorem dX6_lot_8 : decode cX6_lot 8 = .ok (.lrem, 1) := by decide +kernel
theorem dX6_lot_9 : decode cX6_lot 9 = .ok (.lreturn, 1) := by decide +kernel
set_option maxRecDepth 20000 in
theorem ggX6_signOf_X0_sign : GoodIn wsX6_signOf wsX0_sign := goodIn_r _ [6, 7, 8, 9, 10, 11, 12, 13, 14, 15, 5, 16, 17, 18, 27, 28] (by decide +kernel) (by decide +kernel)
set_option maxRecDepth 20000 in
theorem gX6_signOf_X0_sign : GoodIn wsX6_signOf (wsV RX6 110 RX0 yX0_sign wsX0_sign) := goodIn_app (goodIn_of _ (by decide +kernel)) ggX6_signOf_X0_sign
theorem dX6_signOf_0 : decode cX6_signOf 0 = .ok (.aload_n 0, 1) := by decide +kernel
theorem dX6_signOf_1 : decode cX6_signOf 1 = .ok (.getfield 12, 3) := by decide +kernel
theorem dX6_signOf_4 : decode cX6_signOf 4 = .ok (.getfield 55, 3) := by decide +kernel
theorem dX6_signOf_7 : decode cX6_signOf 7 = .ok (.aload_n 0, 1) := by decide +kernel
theorem dX6_signOf_8 : decode cX6_signOf 8 = .ok (.getfield 12, 3) := by decide +kernel
theorem dX6_signOf_11 : decode cX6_signOf 11 = .ok (.getfield 80, 3) := by decide +kernel
theorem dX6_signOf_14 : decode cX6_signOf 14 = .ok (.iload_n 1, 1) := by decide +kernel
theorem dX6_signOf_15 : decode cX6_signOf 15 = .ok (.iaload, 1) := by decide +kernel
theorem dX6_signOf_16 : decode cX6_signOf 16 = .ok (.i2l, 1) := by decide +kernel
theorem dX6_signOf_17 : decode cX6_signOf 17 = .ok (.aload_n 0, 1) := by decide +kernel
theorem dX6_signOf_18 : decode cX6_signOf 18 = .ok (.getfield 12, 3) := by decide +kernel
theorem dX6_signOf_21 : decode cX6_signOf 21 = .ok (.getfield 84, 3) := by decide +kernel
theorem dX6_signOf_24 : decode cX6_signOf 24 = .ok (.iload_n 1, 1) := by decide +kernel
theorem dX6_signOf_25 : decode cX6_signOf 25 = .ok (.iaload, 1) := by decide +kernel
theorem dX6_signOf_26 : decode cX6_signOf 26 = .ok (.i2l, 1) := by decide +kernel
theorem dX6_signOf_27 : decode cX6_signOf 27 = .ok (.invokevirtual 110, 3) := by decide +kernel
theorem dX6_signOf_30 : decode cX6_signOf 30 = .ok (.ireturn, 1) := by decide +kernel
set_option maxRecDepth 20000 in
theorem ggX6_lay_X6_isOutOfBounds : GoodIn wsX6_lay wsX6_isOutOfBounds := goodIn_r _ [7, 8, 9] (by decide +kernel) (by decide +kernel)
set_option maxRecDepth 20000 in
theorem gX6_lay_X6_isOutOfBounds : GoodIn wsX6_lay (va_wsS RX6 72 yX6_isOutOfBounds wsX6_isOutOfBounds) := goodIn_app (goodIn_of _ (by decide +kernel)) ggX6_lay_X6_isOutOfBounds
set_option maxRecDepth 20000 in
theorem ggX6_lay_X1_remember : GoodIn wsX6_lay wsX1_remember := goodIn_r _ [14, 15, 16, 17, 18, 19, 20, 21, 22, 23, 24, 25, 26, 27, 28, 29, 59, 60, 61, 56, 57, 58, 62, 63] (by decide +kernel) (by decide +kernel)
set_option maxRecDepth 20000 in
theorem gX6_lay_X1_remember : GoodIn wsX6_lay (wsV RX6 51 RX1 yX1_remember wsX1_remember) := goodIn_app (goodIn_of _ (by decide +kernel)) ggX6_lay_X1_remember
set_option maxRecDepth 20000 in
theorem ggX6_lay_X6_signOf : GoodIn wsX6_lay wsX6_signOf := goodIn_r _ [33, 3, 34, 35, 36, 37, 38, 39, 40, 41, 42, 43, 44, 45, 46, 47, 48, 49, 50, 51, 52, 53, 54, 55, 56, 57, 58, 62, 63] (by decide +kernel) (by decide +kernel)
set_option maxRecDepth 20000 in
theorem gX6_lay_X6_signOf : GoodIn wsX6_lay (wsV RX6 153 RX6 yX6_signOf wsX6_signOf) := goodIn_app (goodIn_of _ (by decide +kernel)) ggX6_lay_X6_signOf
theorem dX6_lay_0 : decode cX6_lay 0 = .ok (.lload_n 2, 1) := by decide +kernel
theorem dX6_lay_1 : decode cX6_lay 1 = .ok (.invokestatic 72, 3) := by decide +kernel
theorem dX6_lay_4 : decode cX6_lay 4 = .ok (.ifCond .ne 11, 3) := by decide +kernel
theorem dX6_lay_7 : decode cX6_lay 7 = .ok (.lload 4, 2) := by decide +kernel
theorem dX6_lay_9 : decode cX6_lay 9 = .ok (.invokestatic 72, 3) := by decide +kernel
theorem dX6_lay_12 : decode cX6_lay 12 = .ok (.ifCond .eq 6, 3) := by decide +kernel
theorem dX6_lay_15 : decode cX6_lay 15 = .ok (.ldc 142, 2) := by decide +kernel
theorem dX6_lay_17 : decode cX6_lay 17 = .ok (.ireturn, 1) := by decide +kernel
theorem dX6_lay_18 : decode cX6_lay 18 = .ok (.aload_n 0, 1) := by decide +kernel
theorem dX6_lay_19 : decode cX6_lay 19 = .ok (.getfield 19, 3) := by decide +kernel
theorem dX6_lay_22 : decode cX6_lay 22 = .ok (.aload_n 0, 1) := by decide +kernel
theorem dX6_lay_23 : decode cX6_lay 23 = .ok (.getfield 12, 3) := by decide +kernel
theorem dX6_lay_26 : decode cX6_lay 26 = .ok (.invokevirtual 51, 3) := by decide +kernel
theorem dX6_lay_29 : decode cX6_lay 29 = .ok (.aload_n 0, 1) := by decide +kernel
theorem dX6_lay_30 : decode cX6_lay 30 = .ok (.getfield 12, 3) := by decide +kernel
theorem dX6_lay_33 : decode cX6_lay 33 = .ok (.getfield 80, 3) := by decide +kernel
theorem dX6_lay_36 : decode cX6_lay 36 = .ok (.iload_n 1, 1) := by decide +kernel
theorem dX6_lay_37 : decode cX6_lay 37 = .ok (.lload_n 2, 1) := by decide +kernel
theorem dX6_lay_38 : decode cX6_lay 38 = .ok (.l2i, 1) := by decide +kernel
theorem dX6_lay_39 : decode cX6_lay 39 = .ok (.iastore, 1) := by decide +kernel
theorem dX6_lay_40 : decode cX6_lay 40 = .ok (.aload_n 0, 1) := by decide +kernel
theorem dX6_lay_41 : decode cX6_lay 41 = .ok (.getfield 12, 3) := by decide +kernel
theorem dX6_lay_44 : decode cX6_lay 44 = .ok (.getfield 84, 3) := by decide +kernel
theorem dX6_lay_47 : decode cX6_lay 47 = .ok (.iload_n 1, 1) := by decide +kernel
theorem dX6_lay_48 : decode cX6_lay 48 = .ok (.lload 4, 2) := by decide +kernel
theorem dX6_lay_50 : decode cX6_lay 50 = .ok (.l2i, 1) := by decide +kernel
theorem dX6_lay_51 : decode cX6_lay 51 = .ok (.iastore, 1) := by decide +kernel
theorem dX6_lay_52 : decode cX6_lay 52 = .ok (.aload_n 0, 1) := by decide +kernel
theorem dX6_lay_53 : decode cX6_lay 53 = .ok (.iload_n 1, 1) := by decide +kernel
theorem dX6_lay_54 : decode cX6_lay 54 = .ok (.invokevirtual 153, 3) := by decide +kernel
theorem dX6_lay_57 : decode cX6_lay 57 = .ok (.ireturn, 1) := by decide +kernel
set_option maxRecDepth 20000 in
theorem ggX6_spellShelf_X6_signOf : GoodIn wsX6_spellShelf wsX6_signOf := goodIn_r _ [7, 2, 8, 9, 10, 11, 12, 13, 14, 15, 16, 17, 18, 19, 20, 21, 22, 23, 24, 79, 80, 81, 82, 83, 84, 85, 86, 87, 88] (by decide +kernel) (by decide +kernel)
set_option maxRecDepth 20000 in
theorem gX6_spellShelf_X6_signOf : GoodIn wsX6_spellShelf (wsV RX6 153 RX6 yX6_signOf wsX6_signOf) := goodIn_app (goodIn_of _ (by decide +kernel)) ggX6_spellShelf_X6_signOf
set_option maxRecDepth 20000 in
theorem ggX6_spellShelf_X5_spell : GoodIn wsX6_spellShelf wsX5_spell := goodIn_r _ [29, 30, 31, 32, 33, 34, 35, 36, 37, 38, 28, 39, 40, 41, 42, 43, 44, 11, 45, 24, 46, 47, 48, 49, 14, 50, 9, 10, 12, 13, 15, 16, 17, 18, 19, 20, 21, 22, 23, 51, 52, 53, 54, 55, 56, 57, 58, 59, 60, 61, 62, 63, 64, 65, 66, 67, 68, 69, 70, 71, 72, 73, 74, 75, 76, 77, 78, 89, 90, 91, 92, 93, 94, 95, 96, 97, 98, 99, 100, 101, 102, 103, 104, 87, 88] (by decide +kernel) (by decide +kernel)
set_option maxRecDepth 20000 in
theorem gX6_spellShelf_X5_spell : GoodIn wsX6_spellShelf (wsV RX6 226 RX5 yX5_spell wsX5_spell) := goodIn_app (goodIn_of _ (by decide +kernel)) ggX6_spellShelf_X5_spell
theorem dX6_spellShelf_0 : decode cX6_spellShelf 0 = .ok (.aload_n 0, 1) := by decide +kernel
theorem dX6_spellShelf_1 : decode cX6_spellShelf 1 = .ok (.iload_n 1, 1) := by decide +kernel
theorem dX6_spellShelf_2 : decode cX6_spellShelf 2 = .ok (.invokevirtual 153, 3) := by decide +kernel
theorem dX6_spellShelf_5 : decode cX6_spellShelf 5 = .ok (.ifCond .ge 5, 3) := by decide +kernel
theorem dX6_spellShelf_8 : decode cX6_spellShelf 8 = .ok (.iconst 0, 1) := by decide +kernel
theorem dX6_spellShelf_9 : decode cX6_spellShelf 9 = .ok (.ireturn, 1) := by decide +kernel
theorem dX6_spellShelf_10 : decode cX6_spellShelf 10 = .ok (.aload_n 0, 1) := by decide +kernel
theorem dX6_spellShelf_11 : decode cX6_spellShelf 11 = .ok (.getfield 40, 3) := by decide +kernel
theorem dX6_spellShelf_14 : decode cX6_spellShelf 14 = .ok (.aload_n 0, 1) := by decide +kernel
theorem dX6_spellShelf_15 : decode cX6_spellShelf 15 = .ok (.getfield 12, 3) := by decide +kernel
theorem dX6_spellShelf_18 : decode cX6_spellShelf 18 = .ok (.getfield 55, 3) := by decide +kernel
theorem dX6_spellShelf_21 : decode cX6_spellShelf 21 = .ok (.aload_n 0, 1) := by decide +kernel
theorem dX6_spellShelf_22 : decode cX6_spellShelf 22 = .ok (.getfield 12, 3) := by decide +kernel
theorem dX6_spellShelf_25 : decode cX6_spellShelf 25 = .ok (.getfield 80, 3) := by decide +kernel
theorem dX6_spellShelf_28 : decode cX6_spellShelf 28 = .ok (.iload_n 1, 1) := by decide +kernel
theorem dX6_spellShelf_29 : decode cX6_spellShelf 29 = .ok (.iaload, 1) := by decide +kernel
theorem dX6_spellShelf_30 : decode cX6_spellShelf 30 = .ok (.aload_n 0, 1) := by decide +kernel
theorem dX6_spellShelf_31 : decode cX6_spellShelf 31 = .ok (.getfield 12, 3) := by decide +kernel
theorem dX6_spellShelf_34 : decode cX6_spellShelf 34 = .ok (.getfield 84, 3) := by decide +kernel
theorem dX6_spellShelf_37 : decode cX6_spellShelf 37 = .ok (.iload_n 1, 1) := by decide +kernel
theorem dX6_spellShelf_38 : decode cX6_spellShelf 38 = .ok (.iaload, 1) := by decide +kernel
theorem dX6_spellShelf_39 : decode cX6_spellShelf 39 = .ok (.invokevirtual 226, 3) := by decide +kernel
theorem dX6_spellShelf_42 : decode cX6_spellShelf 42 = .ok (.iconst 1, 1) := by decide +kernel
theorem dX6_spellShelf_43 : decode cX6_spellShelf 43 = .ok (.ireturn, 1) := by decide +kernel
set_option maxRecDepth 20000 in
theorem ggX6_spellWord_X4_reckon : GoodIn wsX6_spellWord wsX4_reckon := goodIn_r _ [8, 9, 10, 11, 12, 13, 14, 15, 16, 17, 18, 19, 20, 21, 22, 23, 24, 25, 26, 27, 28, 98, 99, 100, 101, 102, 103, 104, 105] (by decide +kernel) (by decide +kernel)
set_option maxRecDepth 20000 in
theorem gX6_spellWord_X4_reckon : GoodIn wsX6_spellWord (wsV RX6 134 RX4 yX4_reckon wsX4_reckon) := goodIn_app (goodIn_of _ (by decide +kernel)) ggX6_spellWord_X4_reckon
set_option maxRecDepth 20000 in
theorem ggX6_spellWord_X5_spell : GoodIn wsX6_spellWord wsX5_spell := goodIn_r _ [33, 34, 35, 36, 37, 38, 39, 40, 41, 42, 32, 43, 44, 45, 46, 20, 21, 16, 22, 23, 47, 14, 15, 17, 18, 48, 49, 50, 51, 52, 53, 54, 55, 56, 57, 58, 59, 60, 61, 62, 63, 64, 65, 66, 67, 68, 69, 70, 71, 72, 73, 74, 75, 76, 77, 78, 79, 80, 81, 82, 83, 84, 85, 86, 87, 88, 89, 106, 107, 108, 109, 110, 111, 112, 113, 114, 115, 116, 117, 118, 119, 120, 121, 104, 105] (by decide +kernel) (by decide +kernel)
set_option maxRecDepth 20000 in
theorem gX6_spellWord_X5_spell : GoodIn wsX6_spellWord (wsV RX6 226 RX5 yX5_spell wsX5_spell) := goodIn_app (goodIn_of _ (by decide +kernel)) ggX6_spellWord_X5_spell
theorem dX6_spellWord_0 : decode cX6_spellWord 0 = .ok (.aload_n 0, 1) := by decide +kernel
theorem dX6_spellWord_1 : decode cX6_spellWord 1 = .ok (.getfield 33, 3) := by decide +kernel
theorem dX6_spellWord_4 : decode cX6_spellWord 4 = .ok (.aload_n 0, 1) := by decide +kernel
theorem dX6_spellWord_5 : decode cX6_spellWord 5 = .ok (.getfield 12, 3) := by decide +kernel
theorem dX6_spellWord_8 : decode cX6_spellWord 8 = .ok (.getfield 55, 3) := by decide +kernel
theorem dX6_spellWord_11 : decode cX6_spellWord 11 = .ok (.invokevirtual 134, 3) := by decide +kernel
theorem dX6_spellWord_14 : decode cX6_spellWord 14 = .ok (.ifCond .ne 5, 3) := by decide +kernel
theorem dX6_spellWord_17 : decode cX6_spellWord 17 = .ok (.iconst 0, 1) := by decide +kernel
theorem dX6_spellWord_18 : decode cX6_spellWord 18 = .ok (.ireturn, 1) := by decide +kernel
theorem dX6_spellWord_19 : decode cX6_spellWord 19 = .ok (.aload_n 0, 1) := by decide +kernel
theorem dX6_spellWord_20 : decode cX6_spellWord 20 = .ok (.getfield 40, 3) := by decide +kernel
theorem dX6_spellWord_23 : decode cX6_spellWord 23 = .ok (.aload_n 0, 1) := by decide +kernel
theorem dX6_spellWord_24 : decode cX6_spellWord 24 = .ok (.getfield 12, 3) := by decide +kernel
theorem dX6_spellWord_27 : decode cX6_spellWord 27 = .ok (.getfield 55, 3) := by decide +kernel
theorem dX6_spellWord_30 : decode cX6_spellWord 30 = .ok (.aload_n 0, 1) := by decide +kernel
theorem dX6_spellWord_31 : decode cX6_spellWord 31 = .ok (.getfield 33, 3) := by decide +kernel
theorem dX6_spellWord_34 : decode cX6_spellWord 34 = .ok (.getfield 138, 3) := by decide +kernel
theorem dX6_spellWord_37 : decode cX6_spellWord 37 = .ok (.aload_n 0, 1) := by decide +kernel
theorem dX6_spellWord_38 : decode cX6_spellWord 38 = .ok (.getfield 33, 3) := by decide +kernel
theorem dX6_spellWord_41 : decode cX6_spellWord 41 = .ok (.getfield 143, 3) := by decide +kernel
theorem dX6_spellWord_44 : decode cX6_spellWord 44 = .ok (.invokevirtual 226, 3) := by decide +kernel
theorem dX6_spellWord_47 : decode cX6_spellWord 47 = .ok (.iconst 1, 1) := by decide +kernel
theorem dX6_spellWord_48 : decode cX6_spellWord 48 = .ok (.ireturn, 1) := by decide +kernel
