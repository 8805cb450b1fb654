set_option maxRecDepth 20000 in
theorem ggX5_init_X1_init : GoodIn wsX5_init wsX1_init := goodIn_r _ [24, 25, 2, 3, 26, 27, 28, 29, 30, 31, 32, 11, 12, 33, 34, 35, 36, 37, 38, 39, 40, 41, 58, 59, 60, 61, 62, 69] (by decide +kernel) (by decide +kernel)
set_option maxRecDepth 20000 in
theorem gX5_init_X1_init : GoodIn wsX5_init (wsX1_init) := ggX5_init_X1_init
set_option maxRecDepth 20000 in
theorem ggX5_init_X4_init : GoodIn wsX5_init wsX4_init := goodIn_r _ [35, 36, 2, 3, 29, 37, 69] (by decide +kernel) (by decide +kernel)
set_option maxRecDepth 20000 in
theorem gX5_init_X4_init_n27 : GoodIn wsX5_init (wsX4_init) := ggX5_init_X4_init
set_option maxRecDepth 20000 in
theorem ggX5_init_X3_init : GoodIn wsX5_init wsX3_init := goodIn_r _ [44, 45, 2, 3, 46, 27, 47, 29, 48, 49, 50, 16, 51, 70, 71, 72] (by decide +kernel) (by decide +kernel)
set_option maxRecDepth 20000 in
theorem gX5_init_X3_init : GoodIn wsX5_init (wsX3_init) := ggX5_init_X3_init
set_option maxRecDepth 20000 in
theorem ggX5_init_X2_init : GoodIn wsX5_init wsX2_init := goodIn_r _ [53, 54, 2, 3, 55, 56, 27, 57, 73, 74, 75] (by decide +kernel) (by decide +kernel)
set_option maxRecDepth 20000 in
theorem gX5_init_X2_init_n45 : GoodIn wsX5_init (wsX2_init) := ggX5_init_X2_init
theorem dX5_init_0 : decode cX5_init 0 = .ok (.aload_n 0, 1) := by decide +kernel
theorem dX5_init_1 : decode cX5_init 1 = .ok (.invokespecial 3, 3) := by decide +kernel
theorem dX5_init_4 : decode cX5_init 4 = .ok (.aload_n 0, 1) := by decide +kernel
theorem dX5_init_5 : decode cX5_init 5 = .ok (.new 9, 3) := by decide +kernel
theorem dX5_init_8 : decode cX5_init 8 = .ok (.dup, 1) := by decide +kernel
theorem dX5_init_9 : decode cX5_init 9 = .ok (.invokespecial 11, 3) := by decide +kernel
theorem dX5_init_12 : decode cX5_init 12 = .ok (.putfield 12, 3) := by decide +kernel
theorem dX5_init_15 : decode cX5_init 15 = .ok (.aload_n 0, 1) := by decide +kernel
theorem dX5_init_16 : decode cX5_init 16 = .ok (.new 9, 3) := by decide +kernel
theorem dX5_init_19 : decode cX5_init 19 = .ok (.dup, 1) := by decide +kernel
theorem dX5_init_20 : decode cX5_init 20 = .ok (.invokespecial 11, 3) := by decide +kernel
theorem dX5_init_23 : decode cX5_init 23 = .ok (.putfield 18, 3) := by decide +kernel
theorem dX5_init_26 : decode cX5_init 26 = .ok (.aload_n 0, 1) := by decide +kernel
theorem dX5_init_27 : decode cX5_init 27 = .ok (.iconst 0, 1) := by decide +kernel
theorem dX5_init_28 : decode cX5_init 28 = .ok (.putfield 21, 3) := by decide +kernel
theorem dX5_init_31 : decode cX5_init 31 = .ok (.aload_n 0, 1) := by decide +kernel
theorem dX5_init_32 : decode cX5_init 32 = .ok (.new 25, 3) := by decide +kernel
theorem dX5_init_35 : decode cX5_init 35 = .ok (.dup, 1) := by decide +kernel
theorem dX5_init_36 : decode cX5_init 36 = .ok (.invokespecial 27, 3) := by decide +kernel
theorem dX5_init_39 : decode cX5_init 39 = .ok (.putfield 28, 3) := by decide +kernel
theorem dX5_init_42 : decode cX5_init 42 = .ok (.aload_n 0, 1) := by decide +kernel
theorem dX5_init_43 : decode cX5_init 43 = .ok (.new 32, 3) := by decide +kernel
theorem dX5_init_46 : decode cX5_init 46 = .ok (.dup, 1) := by decide +kernel
theorem dX5_init_47 : decode cX5_init 47 = .ok (.invokespecial 34, 3) := by decide +kernel
theorem dX5_init_50 : decode cX5_init 50 = .ok (.putfield 35, 3) := by decide +kernel
theorem dX5_init_53 : decode cX5_init 53 = .ok (.aload_n 0, 1) := by decide +kernel
theorem dX5_init_54 : decode cX5_init 54 = .ok (.iconst 4, 1) := by decide +kernel
theorem dX5_init_55 : decode cX5_init 55 = .ok (.anewarray 39, 3) := by decide +kernel
theorem dX5_init_58 : decode cX5_init 58 = .ok (.putfield 41, 3) := by decide +kernel
theorem dX5_init_61 : decode cX5_init 61 = .ok (.iconst 0, 1) := by decide +kernel
theorem dX5_init_62 : decode cX5_init 62 = .ok (.istore_n 1, 1) := by decide +kernel
theorem dX5_init_63 : decode cX5_init 63 = .ok (.iload_n 1, 1) := by decide +kernel
theorem dX5_init_64 : decode cX5_init 64 = .ok (.iconst 4, 1) := by decide +kernel
theorem dX5_init_65 : decode cX5_init 65 = .ok (.if_icmp .ge 22, 3) := by decide +kernel
theorem dX5_init_68 : decode cX5_init 68 = .ok (.aload_n 0, 1) := by decide +kernel
theorem dX5_init_69 : decode cX5_init 69 = .ok (.getfield 41, 3) := by decide +kernel
theorem dX5_init_72 : decode cX5_init 72 = .ok (.iload_n 1, 1) := by decide +kernel
theorem dX5_init_73 : decode cX5_init 73 = .ok (.new 39, 3) := by decide +kernel
theorem dX5_init_76 : decode cX5_init 76 = .ok (.dup, 1) := by decide +kernel
theorem dX5_init_77 : decode cX5_init 77 = .ok (.invokespecial 45, 3) := by decide +kernel
theorem dX5_init_80 : decode cX5_init 80 = .ok (.aastore, 1) := by decide +kernel
theorem dX5_init_81 : decode cX5_init 81 = .ok (.iinc 1 1, 3) := by decide +kernel
theorem dX5_init_84 : decode cX5_init 84 = .ok (.goto (-21), 3) := by decide +kernel
theorem dX5_init_87 : decode cX5_init 87 = .ok (.return_, 1) := by decide +kernel
set_option maxRecDepth 20000 in
theorem ggX5_ground_X1_begin : GoodIn wsX5_ground wsX1_begin := goodIn_r _ [7, 8, 9, 10, 11, 12, 13, 14, 15, 16, 17, 18, 19, 20, 21, 22, 23, 24, 25, 26, 33, 34, 35, 36, 37, 38] (by decide +kernel) (by decide +kernel)
set_option maxRecDepth 20000 in
theorem gX5_ground_X1_begin : GoodIn wsX5_ground (wsV RX5 50 RX1 yX1_begin wsX1_begin) := goodIn_app (goodIn_of _ (by decide +kernel)) ggX5_ground_X1_begin
theorem dX5_ground_0 : decode cX5_ground 0 = .ok (.iload_n 1, 1) := by decide +kernel
theorem dX5_ground_1 : decode cX5_ground 1 = .ok (.iconst 1, 1) := by decide +kernel
theorem dX5_ground_2 : decode cX5_ground 2 = .ok (.if_icmp .lt 9, 3) := by decide +kernel
theorem dX5_ground_5 : decode cX5_ground 5 = .ok (.iload_n 1, 1) := by decide +kernel
theorem dX5_ground_6 : decode cX5_ground 6 = .ok (.bipush 6, 2) := by decide +kernel
theorem dX5_ground_8 : decode cX5_ground 8 = .ok (.if_icmp .le 6, 3) := by decide +kernel
theorem dX5_ground_11 : decode cX5_ground 11 = .ok (.bipush (-2), 2) := by decide +kernel
theorem dX5_ground_13 : decode cX5_ground 13 = .ok (.ireturn, 1) := by decide +kernel
theorem dX5_ground_14 : decode cX5_ground 14 = .ok (.aload_n 0, 1) := by decide +kernel
theorem dX5_ground_15 : decode cX5_ground 15 = .ok (.getfield 12, 3) := by decide +kernel
theorem dX5_ground_18 : decode cX5_ground 18 = .ok (.getfield 46, 3) := by decide +kernel
theorem dX5_ground_21 : decode cX5_ground 21 = .ok (.istore_n 2, 1) := by decide +kernel
theorem dX5_ground_22 : decode cX5_ground 22 = .ok (.aload_n 0, 1) := by decide +kernel
theorem dX5_ground_23 : decode cX5_ground 23 = .ok (.getfield 12, 3) := by decide +kernel
theorem dX5_ground_26 : decode cX5_ground 26 = .ok (.iload_n 1, 1) := by decide +kernel
theorem dX5_ground_27 : decode cX5_ground 27 = .ok (.invokevirtual 50, 3) := by decide +kernel
theorem dX5_ground_30 : decode cX5_ground 30 = .ok (.iload_n 2, 1) := by decide +kernel
theorem dX5_ground_31 : decode cX5_ground 31 = .ok (.ireturn, 1) := by decide +kernel
set_option maxRecDepth 20000 in
theorem ggX5_tell_X5_noFamily : GoodIn wsX5_tell wsX5_noFamily := goodIn_r _ [7] (by decide +kernel) (by decide +kernel)
set_option maxRecDepth 20000 in
theorem gX5_tell_X5_noFamily : GoodIn wsX5_tell (va_wsS RX5 54 yX5_noFamily wsX5_noFamily) := goodIn_app (goodIn_of _ (by decide +kernel)) ggX5_tell_X5_noFamily
set_option maxRecDepth 20000 in
theorem ggX5_tell_X5_noSet : GoodIn wsX5_tell wsX5_noSet := goodIn_r _ [11, 1, 12, 31, 32, 33, 34, 35, 36, 37, 38, 39, 40, 41] (by decide +kernel) (by decide +kernel)
set_option maxRecDepth 20000 in
theorem gX5_tell_X5_noSet : GoodIn wsX5_tell (wsV RX5 58 RX5 yX5_noSet wsX5_noSet) := goodIn_app (goodIn_of _ (by decide +kernel)) ggX5_tell_X5_noSet
set_option maxRecDepth 20000 in
theorem ggX5_tell_X1_become : GoodIn wsX5_tell wsX1_become := goodIn_r _ [17, 18, 19, 20, 21, 22, 23, 24, 25, 26, 37, 38, 39, 40, 41] (by decide +kernel) (by decide +kernel)
set_option maxRecDepth 20000 in
theorem gX5_tell_X1_become : GoodIn wsX5_tell (wsV RX5 67 RX1 yX1_become wsX1_become) := goodIn_app (goodIn_of _ (by decide +kernel)) ggX5_tell_X1_become
set_option maxRecDepth 20000 in
theorem ggX5_tell_X0_holds : GoodIn wsX5_tell wsX0_holds := goodIn_r _ [30] (by decide +kernel) (by decide +kernel)
set_option maxRecDepth 20000 in
theorem gX5_tell_X0_holds : GoodIn wsX5_tell (va_wsS RX5 71 yX0_holds wsX0_holds) := goodIn_app (goodIn_of _ (by decide +kernel)) ggX5_tell_X0_holds
theorem dX5_tell_0 : decode cX5_tell 0 = .ok (.iload_n 1, 1) := by decide +kernel
theorem dX5_tell_1 : decode cX5_tell 1 = .ok (.invokestatic 54, 3) := by decide +kernel
theorem dX5_tell_4 : decode cX5_tell 4 = .ok (.ifCond .ne 20, 3) := by decide +kernel
theorem dX5_tell_7 : decode cX5_tell 7 = .ok (.aload_n 0, 1) := by decide +kernel
theorem dX5_tell_8 : decode cX5_tell 8 = .ok (.iload_n 2, 1) := by decide +kernel
theorem dX5_tell_9 : decode cX5_tell 9 = .ok (.invokevirtual 58, 3) := by decide +kernel
theorem dX5_tell_12 : decode cX5_tell 12 = .ok (.ifCond .ne 12, 3) := by decide +kernel
theorem dX5_tell_15 : decode cX5_tell 15 = .ok (.iload_n 3, 1) := by decide +kernel
theorem dX5_tell_16 : decode cX5_tell 16 = .ok (.ifCond .lt 8, 3) := by decide +kernel
theorem dX5_tell_19 : decode cX5_tell 19 = .ok (.iload_n 3, 1) := by decide +kernel
theorem dX5_tell_20 : decode cX5_tell 20 = .ok (.iconst 1, 1) := by decide +kernel
theorem dX5_tell_21 : decode cX5_tell 21 = .ok (.if_icmp .le 6, 3) := by decide +kernel
theorem dX5_tell_24 : decode cX5_tell 24 = .ok (.bipush (-2), 2) := by decide +kernel
theorem dX5_tell_26 : decode cX5_tell 26 = .ok (.ireturn, 1) := by decide +kernel
theorem dX5_tell_27 : decode cX5_tell 27 = .ok (.aload_n 0, 1) := by decide +kernel
theorem dX5_tell_28 : decode cX5_tell 28 = .ok (.getfield 12, 3) := by decide +kernel
theorem dX5_tell_31 : decode cX5_tell 31 = .ok (.getfield 61, 3) := by decide +kernel
theorem dX5_tell_34 : decode cX5_tell 34 = .ok (.iload_n 1, 1) := by decide +kernel
theorem dX5_tell_35 : decode cX5_tell 35 = .ok (.laload, 1) := by decide +kernel
theorem dX5_tell_36 : decode cX5_tell 36 = .ok (.lstore 4, 2) := by decide +kernel
theorem dX5_tell_38 : decode cX5_tell 38 = .ok (.lconst 1, 1) := by decide +kernel
theorem dX5_tell_39 : decode cX5_tell 39 = .ok (.iload_n 2, 1) := by decide +kernel
theorem dX5_tell_40 : decode cX5_tell 40 = .ok (.lshl, 1) := by decide +kernel
theorem dX5_tell_41 : decode cX5_tell 41 = .ok (.lstore 6, 2) := by decide +kernel
theorem dX5_tell_43 : decode cX5_tell 43 = .ok (.aload_n 0, 1) := by decide +kernel
theorem dX5_tell_44 : decode cX5_tell 44 = .ok (.getfield 12, 3) := by decide +kernel
theorem dX5_tell_47 : decode cX5_tell 47 = .ok (.iload_n 1, 1) := by decide +kernel
theorem dX5_tell_48 : decode cX5_tell 48 = .ok (.iload_n 3, 1) := by decide +kernel
theorem dX5_tell_49 : decode cX5_tell 49 = .ok (.iconst 1, 1) := by decide +kernel
theorem dX5_tell_50 : decode cX5_tell 50 = .ok (.if_icmp .ne 11, 3) := by decide +kernel
theorem dX5_tell_53 : decode cX5_tell 53 = .ok (.lload 4, 2) := by decide +kernel
theorem dX5_tell_55 : decode cX5_tell 55 = .ok (.lload 6, 2) := by decide +kernel
theorem dX5_tell_57 : decode cX5_tell 57 = .ok (.lor, 1) := by decide +kernel
theorem dX5_tell_58 : decode cX5_tell 58 = .ok (.goto 12, 3) := by decide +kernel
theorem dX5_tell_61 : decode cX5_tell 61 = .ok (.lload 4, 2) := by decide +kernel
theorem dX5_tell_63 : decode cX5_tell 63 = .ok (.lload 6, 2) := by decide +kernel
theorem dX5_tell_65 : decode cX5_tell 65 = .ok (.ldc2_w 65, 3) := by decide +kernel
theorem dX5_tell_68 : decode cX5_tell 68 = .ok (.lxor, 1) := by decide +kernel
theorem dX5_tell_69 : decode cX5_tell 69 = .ok (.land, 1) := by decide +kernel
theorem dX5_tell_70 : decode cX5_tell 70 = .ok (.iconst 0, 1) := by decide +kernel
theorem dX5_tell_71 : decode cX5_tell 71 = .ok (.invokevirtual 67, 3) := by decide +kernel
theorem dX5_tell_74 : decode cX5_tell 74 = .ok (.pop, 1) := by decide +kernel
theorem dX5_tell_75 : decode cX5_tell 75 = .ok (.lload 4, 2) := by decide +kernel
theorem dX5_tell_77 : decode cX5_tell 77 = .ok (.iload_n 2, 1) := by decide +kernel
theorem dX5_tell_78 : decode cX5_tell 78 = .ok (.invokestatic 71, 3) := by decide +kernel
theorem dX5_tell_81 : decode cX5_tell 81 = .ok (.ifCond .eq 7, 3) := by decide +kernel
theorem dX5_tell_84 : decode cX5_tell 84 = .ok (.iconst 1, 1) := by decide +kernel
theorem dX5_tell_85 : decode cX5_tell 85 = .ok (.goto 4, 3) := by decide +kernel
theorem dX5_tell_88 : decode cX5_tell 88 = .ok (.iconst 0, 1) := by decide +kernel
theorem dX5_tell_89 : decode cX5_tell 89 = .ok (.ireturn, 1) := by decide +kernel
set_option maxRecDepth 20000 in
theorem ggX5_sized_X5_noFamily : GoodIn wsX5_sized wsX5_noFamily := goodIn_r _ [6] (by decide +kernel) (by decide +kernel)
set_option maxRecDepth 20000 in
theorem gX5_sized_X5_noFamily : GoodIn wsX5_sized (va_wsS RX5 54 yX5_noFamily wsX5_noFamily) := goodIn_app (goodIn_of _ (by decide +kernel)) ggX5_sized_X5_noFamily
set_option maxRecDepth 20000 in
theorem ggX5_sized_X0_ofSizes : GoodIn wsX5_sized wsX0_ofSizes := goodIn_r _ [10, 11, 12, 13, 14, 15, 16, 17] (by decide +kernel) (by decide +kernel)
set_option maxRecDepth 20000 in
theorem gX5_sized_X0_ofSizes : GoodIn wsX5_sized (va_wsS RX5 77 yX0_ofSizes wsX0_ofSizes) := goodIn_app (goodIn_of _ (by decide +kernel)) ggX5_sized_X0_ofSizes
set_option maxRecDepth 20000 in
theorem ggX5_sized_X1_become : GoodIn wsX5_sized wsX1_become := goodIn_r _ [22, 23, 24, 25, 26, 27, 28, 29, 30, 31, 38, 39, 40, 41, 42] (by decide +kernel) (by decide +kernel)
set_option maxRecDepth 20000 in
theorem gX5_sized_X1_become : GoodIn wsX5_sized (wsV RX5 67 RX1 yX1_become wsX1_become) := goodIn_app (goodIn_of _ (by decide +kernel)) ggX5_sized_X1_become
theorem dX5_sized_0 : decode cX5_sized 0 = .ok (.iload_n 1, 1) := by decide +kernel
theorem dX5_sized_1 : decode cX5_sized 1 = .ok (.invokestatic 54, 3) := by decide +kernel
theorem dX5_sized_4 : decode cX5_sized 4 = .ok (.ifCond .ne 23, 3) := by decide +kernel
theorem dX5_sized_7 : decode cX5_sized 7 = .ok (.iload_n 2, 1) := by decide +kernel
theorem dX5_sized_8 : decode cX5_sized 8 = .ok (.ifCond .lt 19, 3) := by decide +kernel
theorem dX5_sized_11 : decode cX5_sized 11 = .ok (.iload_n 3, 1) := by decide +kernel
theorem dX5_sized_12 : decode cX5_sized 12 = .ok (.aload_n 0, 1) := by decide +kernel
theorem dX5_sized_13 : decode cX5_sized 13 = .ok (.getfield 12, 3) := by decide +kernel
theorem dX5_sized_16 : decode cX5_sized 16 = .ok (.getfield 46, 3) := by decide +kernel
theorem dX5_sized_19 : decode cX5_sized 19 = .ok (.if_icmp .gt 8, 3) := by decide +kernel
theorem dX5_sized_22 : decode cX5_sized 22 = .ok (.iload_n 2, 1) := by decide +kernel
theorem dX5_sized_23 : decode cX5_sized 23 = .ok (.iload_n 3, 1) := by decide +kernel
theorem dX5_sized_24 : decode cX5_sized 24 = .ok (.if_icmp .le 6, 3) := by decide +kernel
theorem dX5_sized_27 : decode cX5_sized 27 = .ok (.bipush (-2), 2) := by decide +kernel
theorem dX5_sized_29 : decode cX5_sized 29 = .ok (.ireturn, 1) := by decide +kernel
theorem dX5_sized_30 : decode cX5_sized 30 = .ok (.aload_n 0, 1) := by decide +kernel
theorem dX5_sized_31 : decode cX5_sized 31 = .ok (.getfield 12, 3) := by decide +kernel
theorem dX5_sized_34 : decode cX5_sized 34 = .ok (.iload_n 1, 1) := by decide +kernel
theorem dX5_sized_35 : decode cX5_sized 35 = .ok (.iload_n 2, 1) := by decide +kernel
theorem dX5_sized_36 : decode cX5_sized 36 = .ok (.iload_n 3, 1) := by decide +kernel
theorem dX5_sized_37 : decode cX5_sized 37 = .ok (.aload_n 0, 1) := by decide +kernel
theorem dX5_sized_38 : decode cX5_sized 38 = .ok (.getfield 12, 3) := by decide +kernel
theorem dX5_sized_41 : decode cX5_sized 41 = .ok (.getfield 46, 3) := by decide +kernel
theorem dX5_sized_44 : decode cX5_sized 44 = .ok (.invokestatic 77, 3) := by decide +kernel
theorem dX5_sized_47 : decode cX5_sized 47 = .ok (.iconst 1, 1) := by decide +kernel
theorem dX5_sized_48 : decode cX5_sized 48 = .ok (.invokevirtual 67, 3) := by decide +kernel
theorem dX5_sized_51 : decode cX5_sized 51 = .ok (.ireturn, 1) := by decide +kernel
set_option maxRecDepth 20000 in
theorem ggX5_tabled_X5_noFamily : GoodIn wsX5_tabled wsX5_noFamily := goodIn_r _ [6] (by decide +kernel) (by decide +kernel)
set_option maxRecDepth 20000 in
theorem gX5_tabled_X5_noFamily : GoodIn wsX5_tabled (va_wsS RX5 54 yX5_noFamily wsX5_noFamily) := goodIn_app (goodIn_of _ (by decide +kernel)) ggX5_tabled_X5_noFamily
set_option maxRecDepth 20000 in
theorem ggX5_tabled_X5_determinant : GoodIn wsX5_tabled wsX5_determinant := goodIn_r _ [10, 11, 1, 12, 13, 14, 15, 16, 17, 18, 19, 20, 21, 22, 23, 24, 25, 26, 27, 28, 29, 30, 31, 32, 33, 34, 35, 36, 37, 38, 39, 40, 41, 42, 43, 44, 45, 46, 61, 62, 63, 64, 65, 66, 67, 68, 69, 70, 71, 72] (by decide +kernel) (by decide +kernel)
set_option maxRecDepth 20000 in
theorem gX5_tabled_X5_determinant : GoodIn wsX5_tabled (wsV RX5 81 RX5 yX5_determinant wsX5_determinant) := goodIn_app (goodIn_of _ (by decide +kernel)) ggX5_tabled_X5_determinant
set_option maxRecDepth 20000 in
theorem ggX5_tabled_X1_become : GoodIn wsX5_tabled wsX1_become := goodIn_r _ [51, 52, 53, 54, 55, 56, 57, 58, 59, 60, 67, 68, 69, 70, 71] (by decide +kernel) (by decide +kernel)
set_option maxRecDepth 20000 in
theorem gX5_tabled_X1_become : GoodIn wsX5_tabled (wsV RX5 67 RX1 yX1_become wsX1_become) := goodIn_app (goodIn_of _ (by decide +kernel)) ggX5_tabled_X1_become
theorem dX5_tabled_0 : decode cX5_tabled 0 = .ok (.iload_n 1, 1) := by decide +kernel
theorem dX5_tabled_1 : decode cX5_tabled 1 = .ok (.invokestatic 54, 3) := by decide +kernel
theorem dX5_tabled_4 : decode cX5_tabled 4 = .ok (.ifCond .eq 6, 3) := by decide +kernel
theorem dX5_tabled_7 : decode cX5_tabled 7 = .ok (.bipush (-2), 2) := by decide +kernel
theorem dX5_tabled_9 : decode cX5_tabled 9 = .ok (.ireturn, 1) := by decide +kernel
theorem dX5_tabled_10 : decode cX5_tabled 10 = .ok (.lconst 0, 1) := by decide +kernel
theorem dX5_tabled_11 : decode cX5_tabled 11 = .ok (.lstore_n 2, 1) := by decide +kernel
theorem dX5_tabled_12 : decode cX5_tabled 12 = .ok (.iconst 0, 1) := by decide +kernel
theorem dX5_tabled_13 : decode cX5_tabled 13 = .ok (.istore 4, 2) := by decide +kernel
theorem dX5_tabled_15 : decode cX5_tabled 15 = .ok (.iload 4, 2) := by decide +kernel
theorem dX5_tabled_17 : decode cX5_tabled 17 = .ok (.iconst 1, 1) := by decide +kernel
theorem dX5_tabled_18 : decode cX5_tabled 18 = .ok (.aload_n 0, 1) := by decide +kernel
theorem dX5_tabled_19 : decode cX5_tabled 19 = .ok (.getfield 12, 3) := by decide +kernel
theorem dX5_tabled_22 : decode cX5_tabled 22 = .ok (.getfield 46, 3) := by decide +kernel
theorem dX5_tabled_25 : decode cX5_tabled 25 = .ok (.ishl, 1) := by decide +kernel
theorem dX5_tabled_26 : decode cX5_tabled 26 = .ok (.if_icmp .ge 25, 3) := by decide +kernel
theorem dX5_tabled_29 : decode cX5_tabled 29 = .ok (.aload_n 0, 1) := by decide +kernel
theorem dX5_tabled_30 : decode cX5_tabled 30 = .ok (.iload 4, 2) := by decide +kernel
theorem dX5_tabled_32 : decode cX5_tabled 32 = .ok (.invokevirtual 81, 3) := by decide +kernel
theorem dX5_tabled_35 : decode cX5_tabled 35 = .ok (.ifCond .eq 10, 3) := by decide +kernel
theorem dX5_tabled_38 : decode cX5_tabled 38 = .ok (.lload_n 2, 1) := by decide +kernel
theorem dX5_tabled_39 : decode cX5_tabled 39 = .ok (.lconst 1, 1) := by decide +kernel
theorem dX5_tabled_40 : decode cX5_tabled 40 = .ok (.iload 4, 2) := by decide +kernel
theorem dX5_tabled_42 : decode cX5_tabled 42 = .ok (.lshl, 1) := by decide +kernel
theorem dX5_tabled_43 : decode cX5_tabled 43 = .ok (.lor, 1) := by decide +kernel
theorem dX5_tabled_44 : decode cX5_tabled 44 = .ok (.lstore_n 2, 1) := by decide +kernel
theorem dX5_tabled_45 : decode cX5_tabled 45 = .ok (.iinc 4 1, 3) := by decide +kernel
theorem dX5_tabled_48 : decode cX5_tabled 48 = .ok (.goto (-33), 3) := by decide +kernel
theorem dX5_tabled_51 : decode cX5_tabled 51 = .ok (.aload_n 0, 1) := by decide +kernel
theorem dX5_tabled_52 : decode cX5_tabled 52 = .ok (.getfield 12, 3) := by decide +kernel
theorem dX5_tabled_55 : decode cX5_tabled 55 = .ok (.iload_n 1, 1) := by decide +kernel
theorem dX5_tabled_56 : decode cX5_tabled 56 = .ok (.lload_n 2, 1) := by decide +kernel
theorem dX5_tabled_57 : decode cX5_tabled 57 = .ok (.iconst 2, 1) := by decide +kernel
theorem dX5_tabled_58 : decode cX5_tabled 58 = .ok (.invokevirtual 67, 3) := by decide +kernel
theorem dX5_tabled_61 : decode cX5_tabled 61 = .ok (.ireturn, 1) := by decide +kernel
set_option maxRecDepth 20000 in
theorem ggX5_twist_X5_noFamily : GoodIn wsX5_twist wsX5_noFamily := goodIn_r _ [6] (by decide +kernel) (by decide +kernel)
set_option maxRecDepth 20000 in
theorem gX5_twist_X5_noFamily : GoodIn wsX5_twist (va_wsS RX5 54 yX5_noFamily wsX5_noFamily) := goodIn_app (goodIn_of _ (by decide +kernel)) ggX5_twist_X5_noFamily
set_option maxRecDepth 20000 in
theorem ggX5_twist_X5_noSet : GoodIn wsX5_twist wsX5_noSet := goodIn_r _ [10, 1, 11, 38, 39, 40, 41, 42, 43, 44, 45, 46, 47, 48] (by decide +kernel) (by decide +kernel)
set_option maxRecDepth 20000 in
theorem gX5_twist_X5_noSet : GoodIn wsX5_twist (wsV RX5 58 RX5 yX5_noSet wsX5_noSet) := goodIn_app (goodIn_of _ (by decide +kernel)) ggX5_twist_X5_noSet
set_option maxRecDepth 20000 in
theorem ggX5_twist_X1_isMissing : GoodIn wsX5_twist wsX1_isMissing := goodIn_r _ [16, 17, 44, 45, 46, 47, 48] (by decide +kernel) (by decide +kernel)
set_option maxRecDepth 20000 in
theorem gX5_twist_X1_isMissing : GoodIn wsX5_twist (wsV RX5 85 RX1 yX1_isMissing wsX1_isMissing) := goodIn_app (goodIn_of _ (by decide +kernel)) ggX5_twist_X1_isMissing
set_option maxRecDepth 20000 in
theorem ggX5_twist_X0_twisted : GoodIn wsX5_twist wsX0_twisted := goodIn_r _ [21, 22, 23, 20, 24, 25] (by decide +kernel) (by decide +kernel)
set_option maxRecDepth 20000 in
theorem gX5_twist_X0_twisted : GoodIn wsX5_twist (va_wsS RX5 88 yX0_twisted wsX0_twisted) := goodIn_app (goodIn_of _ (by decide +kernel)) ggX5_twist_X0_twisted
set_option maxRecDepth 20000 in
theorem ggX5_twist_X1_become : GoodIn wsX5_twist wsX1_become := goodIn_r _ [29, 30, 17, 31, 32, 33, 34, 35, 36, 37, 44, 45, 46, 47, 48] (by decide +kernel) (by decide +kernel)
set_option maxRecDepth 20000 in
theorem gX5_twist_X1_become : GoodIn wsX5_twist (wsV RX5 67 RX1 yX1_become wsX1_become) := goodIn_app (goodIn_of _ (by decide +kernel)) ggX5_twist_X1_become
theorem dX5_twist_0 : decode cX5_twist 0 = .ok (.iload_n 1, 1) := by decide +kernel
theorem dX5_twist_1 : decode cX5_twist 1 = .ok (.invokestatic 54, 3) := by decide +kernel
theorem dX5_twist_4 : decode cX5_twist 4 = .ok (.ifCond .ne 18, 3) := by decide +kernel
theorem dX5_twist_7 : decode cX5_twist 7 = .ok (.aload_n 0, 1) := by decide +kernel
theorem dX5_twist_8 : decode cX5_twist 8 = .ok (.iload_n 2, 1) := by decide +kernel
theorem dX5_twist_9 : decode cX5_twist 9 = .ok (.invokevirtual 58, 3) := by decide +kernel
theorem dX5_twist_12 : decode cX5_twist 12 = .ok (.ifCond .ne 10, 3) := by decide +kernel
theorem dX5_twist_15 : decode cX5_twist 15 = .ok (.iload_n 3, 1) := by decide +kernel
theorem dX5_twist_16 : decode cX5_twist 16 = .ok (.invokestatic 54, 3) := by decide +kernel
theorem dX5_twist_19 : decode cX5_twist 19 = .ok (.ifCond .eq 6, 3) := by decide +kernel
theorem dX5_twist_22 : decode cX5_twist 22 = .ok (.bipush (-2), 2) := by decide +kernel
theorem dX5_twist_24 : decode cX5_twist 24 = .ok (.ireturn, 1) := by decide +kernel
theorem dX5_twist_25 : decode cX5_twist 25 = .ok (.aload_n 0, 1) := by decide +kernel
theorem dX5_twist_26 : decode cX5_twist 26 = .ok (.getfield 12, 3) := by decide +kernel
theorem dX5_twist_29 : decode cX5_twist 29 = .ok (.iload_n 1, 1) := by decide +kernel
theorem dX5_twist_30 : decode cX5_twist 30 = .ok (.invokevirtual 85, 3) := by decide +kernel
theorem dX5_twist_33 : decode cX5_twist 33 = .ok (.ifCond .eq 6, 3) := by decide +kernel
theorem dX5_twist_36 : decode cX5_twist 36 = .ok (.bipush (-11), 2) := by decide +kernel
theorem dX5_twist_38 : decode cX5_twist 38 = .ok (.ireturn, 1) := by decide +kernel
theorem dX5_twist_39 : decode cX5_twist 39 = .ok (.aload_n 0, 1) := by decide +kernel
theorem dX5_twist_40 : decode cX5_twist 40 = .ok (.getfield 12, 3) := by decide +kernel
theorem dX5_twist_43 : decode cX5_twist 43 = .ok (.iload_n 3, 1) := by decide +kernel
theorem dX5_twist_44 : decode cX5_twist 44 = .ok (.aload_n 0, 1) := by decide +kernel
theorem dX5_twist_45 : decode cX5_twist 45 = .ok (.getfield 12, 3) := by decide +kernel
theorem dX5_twist_48 : decode cX5_twist 48 = .ok (.getfield 61, 3) := by decide +kernel
theorem dX5_twist_51 : decode cX5_twist 51 = .ok (.iload_n 1, 1) := by decide +kernel
theorem dX5_twist_52 : decode cX5_twist 52 = .ok (.laload, 1) := by decide +kernel
theorem dX5_twist_53 : decode cX5_twist 53 = .ok (.iload_n 2, 1) := by decide +kernel
theorem dX5_twist_54 : decode cX5_twist 54 = .ok (.invokestatic 88, 3) := by decide +kernel
theorem dX5_twist_57 : decode cX5_twist 57 = .ok (.iconst 3, 1) := by decide +kernel
theorem dX5_twist_58 : decode cX5_twist 58 = .ok (.invokevirtual 67, 3) := by decide +kernel
theorem dX5_twist_61 : decode cX5_twist 61 = .ok (.ireturn, 1) := by decide +kernel
set_option maxRecDepth 20000 in
theorem ggX5_dual_X5_noFamily : GoodIn wsX5_dual wsX5_noFamily := goodIn_r _ [7] (by decide +kernel) (by decide +kernel)
set_option maxRecDepth 20000 in
theorem gX5_dual_X5_noFamily : GoodIn wsX5_dual (va_wsS RX5 54 yX5_noFamily wsX5_noFamily) := goodIn_app (goodIn_of _ (by decide +kernel)) ggX5_dual_X5_noFamily
set_option maxRecDepth 20000 in
theorem ggX5_dual_X1_isMissing : GoodIn wsX5_dual wsX1_isMissing := goodIn_r _ [12, 13, 40, 41, 42, 43, 44] (by decide +kernel) (by decide +kernel)
set_option maxRecDepth 20000 in
theorem gX5_dual_X1_isMissing : GoodIn wsX5_dual (wsV RX5 85 RX1 yX1_isMissing wsX1_isMissing) := goodIn_app (goodIn_of _ (by decide +kernel)) ggX5_dual_X1_isMissing
set_option maxRecDepth 20000 in
theorem ggX5_dual_X0_twisted : GoodIn wsX5_dual wsX0_twisted := goodIn_r _ [17, 18, 19, 16, 20, 21] (by decide +kernel) (by decide +kernel)
set_option maxRecDepth 20000 in
theorem gX5_dual_X0_twisted : GoodIn wsX5_dual (va_wsS RX5 88 yX0_twisted wsX0_twisted) := goodIn_app (goodIn_of _ (by decide +kernel)) ggX5_dual_X0_twisted
set_option maxRecDepth 20000 in
theorem ggX5_dual_X1_become : GoodIn wsX5_dual wsX1_become := goodIn_r _ [25, 26, 13, 27, 28, 29, 30, 31, 32, 33, 40, 41, 42, 43, 44] (by decide +kernel) (by decide +kernel)
set_option maxRecDepth 20000 in
theorem gX5_dual_X1_become : GoodIn wsX5_dual (wsV RX5 67 RX1 yX1_become wsX1_become) := goodIn_app (goodIn_of _ (by decide +kernel)) ggX5_dual_X1_become
theorem dX5_dual_0 : decode cX5_dual 0 = .ok (.iload_n 1, 1) := by decide +kernel
theorem dX5_dual_1 : decode cX5_dual 1 = .ok (.invokestatic 54, 3) := by decide +kernel
theorem dX5_dual_4 : decode cX5_dual 4 = .ok (.ifCond .ne 10, 3) := by decide +kernel
theorem dX5_dual_7 : decode cX5_dual 7 = .ok (.iload_n 2, 1) := by decide +kernel
theorem dX5_dual_8 : decode cX5_dual 8 = .ok (.invokestatic 54, 3) := by decide +kernel
theorem dX5_dual_11 : decode cX5_dual 11 = .ok (.ifCond .eq 6, 3) := by decide +kernel
theorem dX5_dual_14 : decode cX5_dual 14 = .ok (.bipush (-2), 2) := by decide +kernel
theorem dX5_dual_16 : decode cX5_dual 16 = .ok (.ireturn, 1) := by decide +kernel
theorem dX5_dual_17 : decode cX5_dual 17 = .ok (.aload_n 0, 1) := by decide +kernel
theorem dX5_dual_18 : decode cX5_dual 18 = .ok (.getfield 12, 3) := by decide +kernel
theorem dX5_dual_21 : decode cX5_dual 21 = .ok (.iload_n 1, 1) := by decide +kernel
theorem dX5_dual_22 : decode cX5_dual 22 = .ok (.invokevirtual 85, 3) := by decide +kernel
theorem dX5_dual_25 : decode cX5_dual 25 = .ok (.ifCond .eq 6, 3) := by decide +kernel
theorem dX5_dual_28 : decode cX5_dual 28 = .ok (.bipush (-11), 2) := by decide +kernel
theorem dX5_dual_30 : decode cX5_dual 30 = .ok (.ireturn, 1) := by decide +kernel
theorem dX5_dual_31 : decode cX5_dual 31 = .ok (.iconst 1, 1) := by decide +kernel
theorem dX5_dual_32 : decode cX5_dual 32 = .ok (.aload_n 0, 1) := by decide +kernel
theorem dX5_dual_33 : decode cX5_dual 33 = .ok (.getfield 12, 3) := by decide +kernel
theorem dX5_dual_36 : decode cX5_dual 36 = .ok (.getfield 46, 3) := by decide +kernel
theorem dX5_dual_39 : decode cX5_dual 39 = .ok (.ishl, 1) := by decide +kernel
theorem dX5_dual_40 : decode cX5_dual 40 = .ok (.iconst 1, 1) := by decide +kernel
theorem dX5_dual_41 : decode cX5_dual 41 = .ok (.isub, 1) := by decide +kernel
theorem dX5_dual_42 : decode cX5_dual 42 = .ok (.istore_n 3, 1) := by decide +kernel
theorem dX5_dual_43 : decode cX5_dual 43 = .ok (.aload_n 0, 1) := by decide +kernel
theorem dX5_dual_44 : decode cX5_dual 44 = .ok (.getfield 12, 3) := by decide +kernel
theorem dX5_dual_47 : decode cX5_dual 47 = .ok (.iload_n 2, 1) := by decide +kernel
theorem dX5_dual_48 : decode cX5_dual 48 = .ok (.aload_n 0, 1) := by decide +kernel
theorem dX5_dual_49 : decode cX5_dual 49 = .ok (.getfield 12, 3) := by decide +kernel
theorem dX5_dual_52 : decode cX5_dual 52 = .ok (.getfield 61, 3) := by decide +kernel
theorem dX5_dual_55 : decode cX5_dual 55 = .ok (.iload_n 1, 1) := by decide +kernel
theorem dX5_dual_56 : decode cX5_dual 56 = .ok (.laload, 1) := by decide +kernel
theorem dX5_dual_57 : decode cX5_dual 57 = .ok (.iload_n 3, 1) := by decide +kernel
theorem dX5_dual_58 : decode cX5_dual 58 = .ok (.invokestatic 88, 3) := by decide +kernel
theorem dX5_dual_61 : decode cX5_dual 61 = .ok (.iconst 5, 1) := by decide +kernel
theorem dX5_dual_62 : decode cX5_dual 62 = .ok (.invokevirtual 67, 3) := by decide +kernel
theorem dX5_dual_65 : decode cX5_dual 65 = .ok (.ireturn, 1) := by decide +kernel
set_option maxRecDepth 20000 in
theorem ggX5_reduce_X5_noFamily : GoodIn wsX5_reduce wsX5_noFamily := goodIn_r _ [6] (by decide +kernel) (by decide +kernel)
set_option maxRecDepth 20000 in
theorem gX5_reduce_X5_noFamily : GoodIn wsX5_reduce (va_wsS RX5 54 yX5_noFamily wsX5_noFamily) := goodIn_app (goodIn_of _ (by decide +kernel)) ggX5_reduce_X5_noFamily
set_option maxRecDepth 20000 in
theorem ggX5_reduce_X5_noPoint : GoodIn wsX5_reduce wsX5_noPoint := goodIn_r _ [10, 1, 11, 38, 39, 40, 41, 42, 43, 44, 45, 46, 47, 48] (by decide +kernel) (by decide +kernel)
set_option maxRecDepth 20000 in
theorem gX5_reduce_X5_noPoint : GoodIn wsX5_reduce (wsV RX5 92 RX5 yX5_noPoint wsX5_noPoint) := goodIn_app (goodIn_of _ (by decide +kernel)) ggX5_reduce_X5_noPoint
set_option maxRecDepth 20000 in
theorem ggX5_reduce_X1_isMissing : GoodIn wsX5_reduce wsX1_isMissing := goodIn_r _ [16, 17, 44, 45, 46, 47, 48] (by decide +kernel) (by decide +kernel)
set_option maxRecDepth 20000 in
theorem gX5_reduce_X1_isMissing : GoodIn wsX5_reduce (wsV RX5 85 RX1 yX1_isMissing wsX1_isMissing) := goodIn_app (goodIn_of _ (by decide +kernel)) ggX5_reduce_X1_isMissing
set_option maxRecDepth 20000 in
theorem ggX5_reduce_X0_leftOut : GoodIn wsX5_reduce wsX0_leftOut := goodIn_r _ [21, 22] (by decide +kernel) (by decide +kernel)
set_option maxRecDepth 20000 in
theorem gX5_reduce_X0_leftOut : GoodIn wsX5_reduce (va_wsS RX5 95 yX0_leftOut wsX0_leftOut) := goodIn_app (goodIn_of _ (by decide +kernel)) ggX5_reduce_X0_leftOut
set_option maxRecDepth 20000 in
theorem ggX5_reduce_X0_drawnTogether : GoodIn wsX5_reduce wsX0_drawnTogether := goodIn_r _ [25] (by decide +kernel) (by decide +kernel)
set_option maxRecDepth 20000 in
theorem gX5_reduce_X0_drawnTogether : GoodIn wsX5_reduce (va_wsS RX5 98 yX0_drawnTogether wsX0_drawnTogether) := goodIn_app (goodIn_of _ (by decide +kernel)) ggX5_reduce_X0_drawnTogether
set_option maxRecDepth 20000 in
theorem ggX5_reduce_X1_become : GoodIn wsX5_reduce wsX1_become := goodIn_r _ [29, 30, 17, 31, 32, 33, 34, 35, 36, 37, 44, 45, 46, 47, 48] (by decide +kernel) (by decide +kernel)
set_option maxRecDepth 20000 in
theorem gX5_reduce_X1_become : GoodIn wsX5_reduce (wsV RX5 67 RX1 yX1_become wsX1_become) := goodIn_app (goodIn_of _ (by decide +kernel)) ggX5_reduce_X1_become
theorem dX5_reduce_0 : decode cX5_reduce 0 = .ok (.iload_n 1, 1) := by decide +kernel
theorem dX5_reduce_1 : decode cX5_reduce 1 = .ok (.invokestatic 54, 3) := by decide +kernel
theorem dX5_reduce_4 : decode cX5_reduce 4 = .ok (.ifCond .ne 28, 3) := by decide +kernel
theorem dX5_reduce_7 : decode cX5_reduce 7 = .ok (.aload_n 0, 1) := by decide +kernel
theorem dX5_reduce_8 : decode cX5_reduce 8 = .ok (.iload_n 2, 1) := by decide +kernel
theorem dX5_reduce_9 : decode cX5_reduce 9 = .ok (.invokevirtual 92, 3) := by decide +kernel
theorem dX5_reduce_12 : decode cX5_reduce 12 = .ok (.ifCond .ne 20, 3) := by decide +kernel
theorem dX5_reduce_15 : decode cX5_reduce 15 = .ok (.iload_n 3, 1) := by decide +kernel
theorem dX5_reduce_16 : decode cX5_reduce 16 = .ok (.ifCond .lt 16, 3) := by decide +kernel
theorem dX5_reduce_19 : decode cX5_reduce 19 = .ok (.iload_n 3, 1) := by decide +kernel
theorem dX5_reduce_20 : decode cX5_reduce 20 = .ok (.iconst 1, 1) := by decide +kernel
theorem dX5_reduce_21 : decode cX5_reduce 21 = .ok (.if_icmp .gt 11, 3) := by decide +kernel
theorem dX5_reduce_24 : decode cX5_reduce 24 = .ok (.iload 4, 2) := by decide +kernel
theorem dX5_reduce_26 : decode cX5_reduce 26 = .ok (.invokestatic 54, 3) := by decide +kernel
theorem dX5_reduce_29 : decode cX5_reduce 29 = .ok (.ifCond .eq 6, 3) := by decide +kernel
theorem dX5_reduce_32 : decode cX5_reduce 32 = .ok (.bipush (-2), 2) := by decide +kernel
theorem dX5_reduce_34 : decode cX5_reduce 34 = .ok (.ireturn, 1) := by decide +kernel
theorem dX5_reduce_35 : decode cX5_reduce 35 = .ok (.aload_n 0, 1) := by decide +kernel
theorem dX5_reduce_36 : decode cX5_reduce 36 = .ok (.getfield 12, 3) := by decide +kernel
theorem dX5_reduce_39 : decode cX5_reduce 39 = .ok (.iload_n 1, 1) := by decide +kernel
theorem dX5_reduce_40 : decode cX5_reduce 40 = .ok (.invokevirtual 85, 3) := by decide +kernel
theorem dX5_reduce_43 : decode cX5_reduce 43 = .ok (.ifCond .eq 6, 3) := by decide +kernel
theorem dX5_reduce_46 : decode cX5_reduce 46 = .ok (.bipush (-11), 2) := by decide +kernel
theorem dX5_reduce_48 : decode cX5_reduce 48 = .ok (.ireturn, 1) := by decide +kernel
theorem dX5_reduce_49 : decode cX5_reduce 49 = .ok (.aload_n 0, 1) := by decide +kernel
theorem dX5_reduce_50 : decode cX5_reduce 50 = .ok (.getfield 12, 3) := by decide +kernel
theorem dX5_reduce_53 : decode cX5_reduce 53 = .ok (.getfield 61, 3) := by decide +kernel
theorem dX5_reduce_56 : decode cX5_reduce 56 = .ok (.iload_n 1, 1) := by decide +kernel
theorem dX5_reduce_57 : decode cX5_reduce 57 = .ok (.laload, 1) := by decide +kernel
theorem dX5_reduce_58 : decode cX5_reduce 58 = .ok (.lstore 5, 2) := by decide +kernel
theorem dX5_reduce_60 : decode cX5_reduce 60 = .ok (.iload_n 3, 1) := by decide +kernel
theorem dX5_reduce_61 : decode cX5_reduce 61 = .ok (.ifCond .ne 12, 3) := by decide +kernel
theorem dX5_reduce_64 : decode cX5_reduce 64 = .ok (.lload 5, 2) := by decide +kernel
theorem dX5_reduce_66 : decode cX5_reduce 66 = .ok (.iload_n 2, 1) := by decide +kernel
theorem dX5_reduce_67 : decode cX5_reduce 67 = .ok (.invokestatic 95, 3) := by decide +kernel
theorem dX5_reduce_70 : decode cX5_reduce 70 = .ok (.goto 9, 3) := by decide +kernel
theorem dX5_reduce_73 : decode cX5_reduce 73 = .ok (.lload 5, 2) := by decide +kernel
theorem dX5_reduce_75 : decode cX5_reduce 75 = .ok (.iload_n 2, 1) := by decide +kernel
theorem dX5_reduce_76 : decode cX5_reduce 76 = .ok (.invokestatic 98, 3) := by decide +kernel
theorem dX5_reduce_79 : decode cX5_reduce 79 = .ok (.lstore 7, 2) := by decide +kernel
theorem dX5_reduce_81 : decode cX5_reduce 81 = .ok (.aload_n 0, 1) := by decide +kernel
theorem dX5_reduce_82 : decode cX5_reduce 82 = .ok (.getfield 12, 3) := by decide +kernel
theorem dX5_reduce_85 : decode cX5_reduce 85 = .ok (.iload 4, 2) := by decide +kernel
theorem dX5_reduce_87 : decode cX5_reduce 87 = .ok (.lload 7, 2) := by decide +kernel
theorem dX5_reduce_89 : decode cX5_reduce 89 = .ok (.iconst 4, 1) := by decide +kernel
theorem dX5_reduce_90 : decode cX5_reduce 90 = .ok (.invokevirtual 67, 3) := by decide +kernel
theorem dX5_reduce_93 : decode cX5_reduce 93 = .ok (.ireturn, 1) := by decide +kernel
set_option maxRecDepth 20000 in
theorem ggX5_clear_X5_noFamily : GoodIn wsX5_clear wsX5_noFamily := goodIn_r _ [6] (by decide +kernel) (by decide +kernel)
set_option maxRecDepth 20000 in
theorem gX5_clear_X5_noFamily : GoodIn wsX5_clear (va_wsS RX5 54 yX5_noFamily wsX5_noFamily) := goodIn_app (goodIn_of _ (by decide +kernel)) ggX5_clear_X5_noFamily
set_option maxRecDepth 20000 in
theorem ggX5_clear_X1_isMissing : GoodIn wsX5_clear wsX1_isMissing := goodIn_r _ [11, 12, 32, 33, 34, 35, 36] (by decide +kernel) (by decide +kernel)
set_option maxRecDepth 20000 in
theorem gX5_clear_X1_isMissing : GoodIn wsX5_clear (wsV RX5 85 RX1 yX1_isMissing wsX1_isMissing) := goodIn_app (goodIn_of _ (by decide +kernel)) ggX5_clear_X1_isMissing
set_option maxRecDepth 20000 in
theorem ggX5_clear_J13_bitCount_95d88 : GoodIn wsX5_clear wsJ13_bitCount_95d88 := goodIn_r _ [16, 17, 18, 19] (by decide +kernel) (by decide +kernel)
set_option maxRecDepth 20000 in
theorem gX5_clear_J13_bitCount_95d88 : GoodIn wsX5_clear (va_wsS RX5 101 yJ13_bitCount_95d88 wsJ13_bitCount_95d88) := goodIn_app (goodIn_of _ (by decide +kernel)) ggX5_clear_J13_bitCount_95d88
set_option maxRecDepth 20000 in
theorem ggX5_clear_X1_become : GoodIn wsX5_clear wsX1_become := goodIn_r _ [23, 24, 12, 25, 14, 15, 16, 17, 18, 19, 32, 33, 34, 35, 36] (by decide +kernel) (by decide +kernel)
set_option maxRecDepth 20000 in
theorem gX5_clear_X1_become : GoodIn wsX5_clear (wsV RX5 67 RX1 yX1_become wsX1_become) := goodIn_app (goodIn_of _ (by decide +kernel)) ggX5_clear_X1_become
theorem dX5_clear_0 : decode cX5_clear 0 = .ok (.iload_n 1, 1) := by decide +kernel
theorem dX5_clear_1 : decode cX5_clear 1 = .ok (.invokestatic 54, 3) := by decide +kernel
theorem dX5_clear_4 : decode cX5_clear 4 = .ok (.ifCond .eq 6, 3) := by decide +kernel
theorem dX5_clear_7 : decode cX5_clear 7 = .ok (.bipush (-2), 2) := by decide +kernel
theorem dX5_clear_9 : decode cX5_clear 9 = .ok (.ireturn, 1) := by decide +kernel
theorem dX5_clear_10 : decode cX5_clear 10 = .ok (.aload_n 0, 1) := by decide +kernel
theorem dX5_clear_11 : decode cX5_clear 11 = .ok (.getfield 12, 3) := by decide +kernel
theorem dX5_clear_14 : decode cX5_clear 14 = .ok (.iload_n 1, 1) := by decide +kernel
theorem dX5_clear_15 : decode cX5_clear 15 = .ok (.invokevirtual 85, 3) := by decide +kernel
theorem dX5_clear_18 : decode cX5_clear 18 = .ok (.ifCond .eq 6, 3) := by decide +kernel
theorem dX5_clear_21 : decode cX5_clear 21 = .ok (.bipush (-11), 2) := by decide +kernel
theorem dX5_clear_23 : decode cX5_clear 23 = .ok (.ireturn, 1) := by decide +kernel
theorem dX5_clear_24 : decode cX5_clear 24 = .ok (.aload_n 0, 1) := by decide +kernel
theorem dX5_clear_25 : decode cX5_clear 25 = .ok (.getfield 12, 3) := by decide +kernel
theorem dX5_clear_28 : decode cX5_clear 28 = .ok (.getfield 61, 3) := by decide +kernel
theorem dX5_clear_31 : decode cX5_clear 31 = .ok (.iload_n 1, 1) := by decide +kernel
theorem dX5_clear_32 : decode cX5_clear 32 = .ok (.laload, 1) := by decide +kernel
theorem dX5_clear_33 : decode cX5_clear 33 = .ok (.invokestatic 101, 3) := by decide +kernel
theorem dX5_clear_36 : decode cX5_clear 36 = .ok (.istore_n 2, 1) := by decide +kernel
theorem dX5_clear_37 : decode cX5_clear 37 = .ok (.aload_n 0, 1) := by decide +kernel
theorem dX5_clear_38 : decode cX5_clear 38 = .ok (.getfield 12, 3) := by decide +kernel
theorem dX5_clear_41 : decode cX5_clear 41 = .ok (.iload_n 1, 1) := by decide +kernel
theorem dX5_clear_42 : decode cX5_clear 42 = .ok (.lconst 0, 1) := by decide +kernel
theorem dX5_clear_43 : decode cX5_clear 43 = .ok (.iconst (-1), 1) := by decide +kernel
theorem dX5_clear_44 : decode cX5_clear 44 = .ok (.invokevirtual 67, 3) := by decide +kernel
theorem dX5_clear_47 : decode cX5_clear 47 = .ok (.pop, 1) := by decide +kernel
theorem dX5_clear_48 : decode cX5_clear 48 = .ok (.iload_n 2, 1) := by decide +kernel
theorem dX5_clear_49 : decode cX5_clear 49 = .ok (.ireturn, 1) := by decide +kernel
set_option maxRecDepth 20000 in
theorem ggX5_has_X5_noFamily : GoodIn wsX5_has wsX5_noFamily := goodIn_r _ [6] (by decide +kernel) (by decide +kernel)
set_option maxRecDepth 20000 in
theorem gX5_has_X5_noFamily : GoodIn wsX5_has (va_wsS RX5 54 yX5_noFamily wsX5_noFamily) := goodIn_app (goodIn_of _ (by decide +kernel)) ggX5_has_X5_noFamily
set_option maxRecDepth 20000 in
theorem ggX5_has_X5_noSet : GoodIn wsX5_has wsX5_noSet := goodIn_r _ [10, 1, 11, 22, 23, 24, 25, 26, 27, 28, 29, 30, 31, 32] (by decide +kernel) (by decide +kernel)
set_option maxRecDepth 20000 in
theorem gX5_has_X5_noSet : GoodIn wsX5_has (wsV RX5 58 RX5 yX5_noSet wsX5_noSet) := goodIn_app (goodIn_of _ (by decide +kernel)) ggX5_has_X5_noSet
set_option maxRecDepth 20000 in
theorem ggX5_has_X1_isMissing : GoodIn wsX5_has wsX1_isMissing := goodIn_r _ [16, 17, 28, 29, 30, 31, 32] (by decide +kernel) (by decide +kernel)
set_option maxRecDepth 20000 in
theorem gX5_has_X1_isMissing : GoodIn wsX5_has (wsV RX5 85 RX1 yX1_isMissing wsX1_isMissing) := goodIn_app (goodIn_of _ (by decide +kernel)) ggX5_has_X1_isMissing
set_option maxRecDepth 20000 in
theorem ggX5_has_X0_holds : GoodIn wsX5_has wsX0_holds := goodIn_r _ [21] (by decide +kernel) (by decide +kernel)
set_option maxRecDepth 20000 in
theorem gX5_has_X0_holds : GoodIn wsX5_has (va_wsS RX5 71 yX0_holds wsX0_holds) := goodIn_app (goodIn_of _ (by decide +kernel)) ggX5_has_X0_holds
theorem dX5_has_0 : decode cX5_has 0 = .ok (.iload_n 1, 1) := by decide +kernel
theorem dX5_has_1 : decode cX5_has 1 = .ok (.invokestatic 54, 3) := by decide +kernel
theorem dX5_has_4 : decode cX5_has 4 = .ok (.ifCond .ne 11, 3) := by decide +kernel
theorem dX5_has_7 : decode cX5_has 7 = .ok (.aload_n 0, 1) := by decide +kernel
theorem dX5_has_8 : decode cX5_has 8 = .ok (.iload_n 2, 1) := by decide +kernel
theorem dX5_has_9 : decode cX5_has 9 = .ok (.invokevirtual 58, 3) := by decide +kernel
theorem dX5_has_12 : decode cX5_has 12 = .ok (.ifCond .eq 6, 3) := by decide +kernel
theorem dX5_has_15 : decode cX5_has 15 = .ok (.bipush (-2), 2) := by decide +kernel
theorem dX5_has_17 : decode cX5_has 17 = .ok (.ireturn, 1) := by decide +kernel
theorem dX5_has_18 : decode cX5_has 18 = .ok (.aload_n 0, 1) := by decide +kernel
theorem dX5_has_19 : decode cX5_has 19 = .ok (.getfield 12, 3) := by decide +kernel
theorem dX5_has_22 : decode cX5_has 22 = .ok (.iload_n 1, 1) := by decide +kernel
theorem dX5_has_23 : decode cX5_has 23 = .ok (.invokevirtual 85, 3) := by decide +kernel
theorem dX5_has_26 : decode cX5_has 26 = .ok (.ifCond .eq 6, 3) := by decide +kernel
theorem dX5_has_29 : decode cX5_has 29 = .ok (.bipush (-11), 2) := by decide +kernel
theorem dX5_has_31 : decode cX5_has 31 = .ok (.ireturn, 1) := by decide +kernel
theorem dX5_has_32 : decode cX5_has 32 = .ok (.aload_n 0, 1) := by decide +kernel
theorem dX5_has_33 : decode cX5_has 33 = .ok (.getfield 12, 3) := by decide +kernel
theorem dX5_has_36 : decode cX5_has 36 = .ok (.getfield 61, 3) := by decide +kernel
theorem dX5_has_39 : decode cX5_has 39 = .ok (.iload_n 1, 1) := by decide +kernel
theorem dX5_has_40 : decode cX5_has 40 = .ok (.laload, 1) := by decide +kernel
theorem dX5_has_41 : decode cX5_has 41 = .ok (.iload_n 2, 1) := by decide +kernel
theorem dX5_has_42 : decode cX5_has 42 = .ok (.invokestatic 71, 3) := by decide +kernel
theorem dX5_has_45 : decode cX5_has 45 = .ok (.ifCond .eq 7, 3) := by decide +kernel
theorem dX5_has_48 : decode cX5_has 48 = .ok (.iconst 1, 1) := by decide +kernel
theorem dX5_has_49 : decode cX5_has 49 = .ok (.goto 4, 3) := by decide +kernel
theorem dX5_has_52 : decode cX5_has 52 = .ok (.iconst 0, 1) := by decide +kernel
theorem dX5_has_53 : decode cX5_has 53 = .ok (.ireturn, 1) := by decide +kernel
set_option maxRecDepth 20000 in
theorem ggX5_member_X5_noFamily : GoodIn wsX5_member wsX5_noFamily := goodIn_r _ [6] (by decide +kernel) (by decide +kernel)
set_option maxRecDepth 20000 in
theorem gX5_member_X5_noFamily : GoodIn wsX5_member (va_wsS RX5 54 yX5_noFamily wsX5_noFamily) := goodIn_app (goodIn_of _ (by decide +kernel)) ggX5_member_X5_noFamily
set_option maxRecDepth 20000 in
theorem ggX5_member_X1_isMissing : GoodIn wsX5_member wsX1_isMissing := goodIn_r _ [11, 12, 34, 35, 36, 37, 38] (by decide +kernel) (by decide +kernel)
set_option maxRecDepth 20000 in
theorem gX5_member_X1_isMissing : GoodIn wsX5_member (wsV RX5 85 RX1 yX1_isMissing wsX1_isMissing) := goodIn_app (goodIn_of _ (by decide +kernel)) ggX5_member_X1_isMissing
set_option maxRecDepth 20000 in
theorem ggX5_member_J13_bitCount_95d88 : GoodIn wsX5_member wsJ13_bitCount_95d88 := goodIn_r _ [16, 17, 18, 19] (by decide +kernel) (by decide +kernel)
set_option maxRecDepth 20000 in
theorem gX5_member_J13_bitCount_95d88 : GoodIn wsX5_member (va_wsS RX5 101 yJ13_bitCount_95d88 wsJ13_bitCount_95d88) := goodIn_app (goodIn_of _ (by decide +kernel)) ggX5_member_J13_bitCount_95d88
set_option maxRecDepth 20000 in
theorem ggX5_member_X0_atPlace : GoodIn wsX5_member wsX0_atPlace := goodIn_r _ [23, 24, 25, 22, 26, 27, 14, 15, 16, 17, 18, 19] (by decide +kernel) (by decide +kernel)
set_option maxRecDepth 20000 in
theorem gX5_member_X0_atPlace : GoodIn wsX5_member (va_wsS RX5 105 yX0_atPlace wsX0_atPlace) := goodIn_app (goodIn_of _ (by decide +kernel)) ggX5_member_X0_atPlace
theorem dX5_member_0 : decode cX5_member 0 = .ok (.iload_n 1, 1) := by decide +kernel
theorem dX5_member_1 : decode cX5_member 1 = .ok (.invokestatic 54, 3) := by decide +kernel
theorem dX5_member_4 : decode cX5_member 4 = .ok (.ifCond .ne 8, 3) := by decide +kernel
theorem dX5_member_7 : decode cX5_member 7 = .ok (.iload_n 2, 1) := by decide +kernel
theorem dX5_member_8 : decode cX5_member 8 = .ok (.iconst (-1), 1) := by decide +kernel
theorem dX5_member_9 : decode cX5_member 9 = .ok (.if_icmp .ge 6, 3) := by decide +kernel
theorem dX5_member_12 : decode cX5_member 12 = .ok (.bipush (-2), 2) := by decide +kernel
theorem dX5_member_14 : decode cX5_member 14 = .ok (.ireturn, 1) := by decide +kernel
theorem dX5_member_15 : decode cX5_member 15 = .ok (.aload_n 0, 1) := by decide +kernel
theorem dX5_member_16 : decode cX5_member 16 = .ok (.getfield 12, 3) := by decide +kernel
theorem dX5_member_19 : decode cX5_member 19 = .ok (.iload_n 1, 1) := by decide +kernel
theorem dX5_member_20 : decode cX5_member 20 = .ok (.invokevirtual 85, 3) := by decide +kernel
theorem dX5_member_23 : decode cX5_member 23 = .ok (.ifCond .eq 6, 3) := by decide +kernel
theorem dX5_member_26 : decode cX5_member 26 = .ok (.bipush (-11), 2) := by decide +kernel
theorem dX5_member_28 : decode cX5_member 28 = .ok (.ireturn, 1) := by decide +kernel
theorem dX5_member_29 : decode cX5_member 29 = .ok (.aload_n 0, 1) := by decide +kernel
theorem dX5_member_30 : decode cX5_member 30 = .ok (.getfield 12, 3) := by decide +kernel
theorem dX5_member_33 : decode cX5_member 33 = .ok (.getfield 61, 3) := by decide +kernel
theorem dX5_member_36 : decode cX5_member 36 = .ok (.iload_n 1, 1) := by decide +kernel
theorem dX5_member_37 : decode cX5_member 37 = .ok (.laload, 1) := by decide +kernel
theorem dX5_member_38 : decode cX5_member 38 = .ok (.lstore_n 3, 1) := by decide +kernel
theorem dX5_member_39 : decode cX5_member 39 = .ok (.iload_n 2, 1) := by decide +kernel
theorem dX5_member_40 : decode cX5_member 40 = .ok (.iconst (-1), 1) := by decide +kernel
theorem dX5_member_41 : decode cX5_member 41 = .ok (.if_icmp .ne 8, 3) := by decide +kernel
theorem dX5_member_44 : decode cX5_member 44 = .ok (.lload_n 3, 1) := by decide +kernel
theorem dX5_member_45 : decode cX5_member 45 = .ok (.invokestatic 101, 3) := by decide +kernel
theorem dX5_member_48 : decode cX5_member 48 = .ok (.ireturn, 1) := by decide +kernel
theorem dX5_member_49 : decode cX5_member 49 = .ok (.iload_n 2, 1) := by decide +kernel
theorem dX5_member_50 : decode cX5_member 50 = .ok (.lload_n 3, 1) := by decide +kernel
theorem dX5_member_51 : decode cX5_member 51 = .ok (.invokestatic 101, 3) := by decide +kernel
theorem dX5_member_54 : decode cX5_member 54 = .ok (.if_icmp .lt 6, 3) := by decide +kernel
theorem dX5_member_57 : decode cX5_member 57 = .ok (.bipush (-12), 2) := by decide +kernel
theorem dX5_member_59 : decode cX5_member 59 = .ok (.ireturn, 1) := by decide +kernel
theorem dX5_member_60 : decode cX5_member 60 = .ok (.lload_n 3, 1) := by decide +kernel
theorem dX5_member_61 : decode cX5_member 61 = .ok (.iload_n 2, 1) := by decide +kernel
theorem dX5_member_62 : decode cX5_member 62 = .ok (.invokestatic 105, 3) := by decide +kernel
theorem dX5_member_65 : decode cX5_member 65 = .ok (.ireturn, 1) := by decide +kernel
set_option maxRecDepth 20000 in
theorem ggX5_of_X5_noFamily : GoodIn wsX5_of wsX5_noFamily := goodIn_r _ [8] (by decide +kernel) (by decide +kernel)
set_option maxRecDepth 20000 in
theorem gX5_of_X5_noFamily : GoodIn wsX5_of (va_wsS RX5 54 yX5_noFamily wsX5_noFamily) := goodIn_app (goodIn_of _ (by decide +kernel)) ggX5_of_X5_noFamily
set_option maxRecDepth 20000 in
theorem ggX5_of_X1_isMissing : GoodIn wsX5_of wsX1_isMissing := goodIn_r _ [13, 14, 70, 71, 72, 73, 74] (by decide +kernel) (by decide +kernel)
set_option maxRecDepth 20000 in
theorem gX5_of_X1_isMissing : GoodIn wsX5_of (wsV RX5 85 RX1 yX1_isMissing wsX1_isMissing) := goodIn_app (goodIn_of _ (by decide +kernel)) ggX5_of_X1_isMissing
set_option maxRecDepth 20000 in
theorem ggX5_of_X0_sizes : GoodIn wsX5_of wsX0_sizes := goodIn_r _ [18, 19, 20, 17, 21, 22, 23, 24, 25, 26, 27, 28] (by decide +kernel) (by decide +kernel)
set_option maxRecDepth 20000 in
theorem gX5_of_X0_sizes : GoodIn wsX5_of (va_wsS RX5 109 yX0_sizes wsX0_sizes) := goodIn_app (goodIn_of _ (by decide +kernel)) ggX5_of_X0_sizes
set_option maxRecDepth 20000 in
theorem ggX5_of_X0_isExchanging : GoodIn wsX5_of wsX0_isExchanging := goodIn_r _ [31, 32, 33, 17, 34, 19, 20, 21, 35, 36, 37, 38, 39, 40, 41, 42, 43, 44, 45, 46, 47] (by decide +kernel) (by decide +kernel)
set_option maxRecDepth 20000 in
theorem gX5_of_X0_isExchanging : GoodIn wsX5_of (va_wsS RX5 116 yX0_isExchanging wsX0_isExchanging) := goodIn_app (goodIn_of _ (by decide +kernel)) ggX5_of_X0_isExchanging
set_option maxRecDepth 20000 in
theorem ggX5_of_X0_isEven : GoodIn wsX5_of wsX0_isEven := goodIn_r _ [50] (by decide +kernel) (by decide +kernel)
set_option maxRecDepth 20000 in
theorem gX5_of_X0_isEven : GoodIn wsX5_of (va_wsS RX5 119 yX0_isEven wsX0_isEven) := goodIn_app (goodIn_of _ (by decide +kernel)) ggX5_of_X0_isEven
set_option maxRecDepth 20000 in
theorem ggX5_of_J6_bitCount_0f7a4 : GoodIn wsX5_of wsJ6_bitCount_0f7a4 := goodIn_r _ [25, 26, 27, 28] (by decide +kernel) (by decide +kernel)
set_option maxRecDepth 20000 in
theorem gX5_of_J6_bitCount_0f7a4 : GoodIn wsX5_of (va_wsS RX5 122 yJ6_bitCount_0f7a4 wsJ6_bitCount_0f7a4) := goodIn_app (goodIn_of _ (by decide +kernel)) ggX5_of_J6_bitCount_0f7a4
set_option maxRecDepth 20000 in
theorem ggX5_of_X0_loops : GoodIn wsX5_of wsX0_loops := goodIn_r _ [54] (by decide +kernel) (by decide +kernel)
set_option maxRecDepth 20000 in
theorem gX5_of_X0_loops : GoodIn wsX5_of (va_wsS RX5 126 yX0_loops wsX0_loops) := goodIn_app (goodIn_of _ (by decide +kernel)) ggX5_of_X0_loops
set_option maxRecDepth 20000 in
theorem ggX5_of_X0_coloops : GoodIn wsX5_of wsX0_coloops := goodIn_r _ [57, 47] (by decide +kernel) (by decide +kernel)
set_option maxRecDepth 20000 in
theorem gX5_of_X0_coloops : GoodIn wsX5_of (va_wsS RX5 129 yX0_coloops wsX0_coloops) := goodIn_app (goodIn_of _ (by decide +kernel)) ggX5_of_X0_coloops
set_option maxRecDepth 20000 in
theorem ggX5_of_X5_leastBit : GoodIn wsX5_of wsX5_leastBit := goodIn_r _ [60, 51, 23, 24, 25, 26, 27, 28] (by decide +kernel) (by decide +kernel)
set_option maxRecDepth 20000 in
theorem gX5_of_X5_leastBit : GoodIn wsX5_of (va_wsS RX5 132 yX5_leastBit wsX5_leastBit) := goodIn_app (goodIn_of _ (by decide +kernel)) ggX5_of_X5_leastBit
set_option maxRecDepth 20000 in
theorem ggX5_of_X5_greatestBit : GoodIn wsX5_of wsX5_greatestBit := goodIn_r _ [63] (by decide +kernel) (by decide +kernel)
set_option maxRecDepth 20000 in
theorem gX5_of_X5_greatestBit : GoodIn wsX5_of (va_wsS RX5 135 yX5_greatestBit wsX5_greatestBit) := goodIn_app (goodIn_of _ (by decide +kernel)) ggX5_of_X5_greatestBit
theorem dX5_of_0 : decode cX5_of 0 = .ok (.iload_n 1, 1) := by decide +kernel
theorem dX5_of_1 : decode cX5_of 1 = .ok (.invokestatic 54, 3) := by decide +kernel
theorem dX5_of_4 : decode cX5_of 4 = .ok (.ifCond .ne 13, 3) := by decide +kernel
theorem dX5_of_7 : decode cX5_of 7 = .ok (.iload_n 2, 1) := by decide +kernel
theorem dX5_of_8 : decode cX5_of 8 = .ok (.ifCond .lt 9, 3) := by decide +kernel
theorem dX5_of_11 : decode cX5_of 11 = .ok (.iload_n 2, 1) := by decide +kernel
theorem dX5_of_12 : decode cX5_of 12 = .ok (.bipush 7, 2) := by decide +kernel
theorem dX5_of_14 : decode cX5_of 14 = .ok (.if_icmp .le 6, 3) := by decide +kernel
theorem dX5_of_17 : decode cX5_of 17 = .ok (.bipush (-2), 2) := by decide +kernel
theorem dX5_of_19 : decode cX5_of 19 = .ok (.ireturn, 1) := by decide +kernel
theorem dX5_of_20 : decode cX5_of 20 = .ok (.aload_n 0, 1) := by decide +kernel
theorem dX5_of_21 : decode cX5_of 21 = .ok (.getfield 12, 3) := by decide +kernel
theorem dX5_of_24 : decode cX5_of 24 = .ok (.iload_n 1, 1) := by decide +kernel
theorem dX5_of_25 : decode cX5_of 25 = .ok (.invokevirtual 85, 3) := by decide +kernel
theorem dX5_of_28 : decode cX5_of 28 = .ok (.ifCond .eq 6, 3) := by decide +kernel
theorem dX5_of_31 : decode cX5_of 31 = .ok (.bipush (-11), 2) := by decide +kernel
theorem dX5_of_33 : decode cX5_of 33 = .ok (.ireturn, 1) := by decide +kernel
theorem dX5_of_34 : decode cX5_of 34 = .ok (.aload_n 0, 1) := by decide +kernel
theorem dX5_of_35 : decode cX5_of 35 = .ok (.getfield 12, 3) := by decide +kernel
theorem dX5_of_38 : decode cX5_of 38 = .ok (.getfield 61, 3) := by decide +kernel
theorem dX5_of_41 : decode cX5_of 41 = .ok (.iload_n 1, 1) := by decide +kernel
theorem dX5_of_42 : decode cX5_of 42 = .ok (.laload, 1) := by decide +kernel
theorem dX5_of_43 : decode cX5_of 43 = .ok (.lstore_n 3, 1) := by decide +kernel
theorem dX5_of_44 : decode cX5_of 44 = .ok (.lload_n 3, 1) := by decide +kernel
theorem dX5_of_45 : decode cX5_of 45 = .ok (.invokestatic 109, 3) := by decide +kernel
theorem dX5_of_48 : decode cX5_of 48 = .ok (.istore 5, 2) := by decide +kernel
theorem dX5_of_50 : decode cX5_of 50 = .ok (.iload_n 2, 1) := by decide +kernel
theorem dX5_of_51 : decode cX5_of 51 = .ok (.tableswitch 130 0 6 #[41, 51, 71, 85, 100, 112, 124], 41) := by decide +kernel
theorem dX5_of_92 : decode cX5_of 92 = .ok (.aload_n 0, 1) := by decide +kernel
theorem dX5_of_93 : decode cX5_of 93 = .ok (.getfield 12, 3) := by decide +kernel
theorem dX5_of_96 : decode cX5_of 96 = .ok (.getfield 112, 3) := by decide +kernel
theorem dX5_of_99 : decode cX5_of 99 = .ok (.iload_n 1, 1) := by decide +kernel
theorem dX5_of_100 : decode cX5_of 100 = .ok (.iaload, 1) := by decide +kernel
theorem dX5_of_101 : decode cX5_of 101 = .ok (.ireturn, 1) := by decide +kernel
theorem dX5_of_102 : decode cX5_of 102 = .ok (.lload_n 3, 1) := by decide +kernel
theorem dX5_of_103 : decode cX5_of 103 = .ok (.aload_n 0, 1) := by decide +kernel
theorem dX5_of_104 : decode cX5_of 104 = .ok (.getfield 12, 3) := by decide +kernel
theorem dX5_of_107 : decode cX5_of 107 = .ok (.getfield 46, 3) := by decide +kernel
theorem dX5_of_110 : decode cX5_of 110 = .ok (.invokestatic 116, 3) := by decide +kernel
theorem dX5_of_113 : decode cX5_of 113 = .ok (.ifCond .eq 7, 3) := by decide +kernel
theorem dX5_of_116 : decode cX5_of 116 = .ok (.iconst 1, 1) := by decide +kernel
theorem dX5_of_117 : decode cX5_of 117 = .ok (.goto 4, 3) := by decide +kernel
theorem dX5_of_120 : decode cX5_of 120 = .ok (.iconst 0, 1) := by decide +kernel
theorem dX5_of_121 : decode cX5_of 121 = .ok (.ireturn, 1) := by decide +kernel
theorem dX5_of_122 : decode cX5_of 122 = .ok (.iload 5, 2) := by decide +kernel
theorem dX5_of_124 : decode cX5_of 124 = .ok (.invokestatic 119, 3) := by decide +kernel
theorem dX5_of_127 : decode cX5_of 127 = .ok (.ifCond .eq 7, 3) := by decide +kernel
theorem dX5_of_130 : decode cX5_of 130 = .ok (.iconst 1, 1) := by decide +kernel
theorem dX5_of_131 : decode cX5_of 131 = .ok (.goto 4, 3) := by decide +kernel
theorem dX5_of_134 : decode cX5_of 134 = .ok (.iconst 0, 1) := by decide +kernel
theorem dX5_of_135 : decode cX5_of 135 = .ok (.ireturn, 1) := by decide +kernel
theorem dX5_of_136 : decode cX5_of 136 = .ok (.iload 5, 2) := by decide +kernel
theorem dX5_of_138 : decode cX5_of 138 = .ok (.invokestatic 122, 3) := by decide +kernel
theorem dX5_of_141 : decode cX5_of 141 = .ok (.iconst 1, 1) := by decide +kernel
theorem dX5_of_142 : decode cX5_of 142 = .ok (.if_icmp .gt 7, 3) := by decide +kernel
theorem dX5_of_145 : decode cX5_of 145 = .ok (.iconst 1, 1) := by decide +kernel
theorem dX5_of_146 : decode cX5_of 146 = .ok (.goto 4, 3) := by decide +kernel
theorem dX5_of_149 : decode cX5_of 149 = .ok (.iconst 0, 1) := by decide +kernel
theorem dX5_of_150 : decode cX5_of 150 = .ok (.ireturn, 1) := by decide +kernel
theorem dX5_of_151 : decode cX5_of 151 = .ok (.lload_n 3, 1) := by decide +kernel
theorem dX5_of_152 : decode cX5_of 152 = .ok (.aload_n 0, 1) := by decide +kernel
theorem dX5_of_153 : decode cX5_of 153 = .ok (.getfield 12, 3) := by decide +kernel
theorem dX5_of_156 : decode cX5_of 156 = .ok (.getfield 46, 3) := by decide +kernel
theorem dX5_of_159 : decode cX5_of 159 = .ok (.invokestatic 126, 3) := by decide +kernel
theorem dX5_of_162 : decode cX5_of 162 = .ok (.ireturn, 1) := by decide +kernel
theorem dX5_of_163 : decode cX5_of 163 = .ok (.lload_n 3, 1) := by decide +kernel
theorem dX5_of_164 : decode cX5_of 164 = .ok (.aload_n 0, 1) := by decide +kernel
theorem dX5_of_165 : decode cX5_of 165 = .ok (.getfield 12, 3) := by decide +kernel
theorem dX5_of_168 : decode cX5_of 168 = .ok (.getfield 46, 3) := by decide +kernel
theorem dX5_of_171 : decode cX5_of 171 = .ok (.invokestatic 129, 3) := by decide +kernel
theorem dX5_of_174 : decode cX5_of 174 = .ok (.ireturn, 1) := by decide +kernel
theorem dX5_of_175 : decode cX5_of 175 = .ok (.iload 5, 2) := by decide +kernel
theorem dX5_of_177 : decode cX5_of 177 = .ok (.invokestatic 132, 3) := by decide +kernel
theorem dX5_of_180 : decode cX5_of 180 = .ok (.ireturn, 1) := by decide +kernel
theorem dX5_of_181 : decode cX5_of 181 = .ok (.iload 5, 2) := by decide +kernel
theorem dX5_of_183 : decode cX5_of 183 = .ok (.invokestatic 135, 3) := by decide +kernel
theorem dX5_of_186 : decode cX5_of 186 = .ok (.ireturn, 1) := by decide +kernel
set_option maxRecDepth 20000 in
theorem ggX5_taken_X5_noFamily : GoodIn wsX5_taken wsX5_noFamily := goodIn_r _ [7] (by decide +kernel) (by decide +kernel)
set_option maxRecDepth 20000 in
theorem gX5_taken_X5_noFamily : GoodIn wsX5_taken (va_wsS RX5 54 yX5_noFamily wsX5_noFamily) := goodIn_app (goodIn_of _ (by decide +kernel)) ggX5_taken_X5_noFamily
set_option maxRecDepth 20000 in
theorem ggX5_taken_X1_isMissing : GoodIn wsX5_taken wsX1_isMissing := goodIn_r _ [12, 13, 31, 32, 33, 34, 35] (by decide +kernel) (by decide +kernel)
set_option maxRecDepth 20000 in
theorem gX5_taken_X1_isMissing : GoodIn wsX5_taken (wsV RX5 85 RX1 yX1_isMissing wsX1_isMissing) := goodIn_app (goodIn_of _ (by decide +kernel)) ggX5_taken_X1_isMissing
set_option maxRecDepth 20000 in
theorem ggX5_taken_X5_isUnder : GoodIn wsX5_taken wsX5_isUnder := goodIn_r _ [16, 17] (by decide +kernel) (by decide +kernel)
set_option maxRecDepth 20000 in
theorem gX5_taken_X5_isUnder : GoodIn wsX5_taken (va_wsS RX5 138 yX5_isUnder wsX5_isUnder) := goodIn_app (goodIn_of _ (by decide +kernel)) ggX5_taken_X5_isUnder
set_option maxRecDepth 20000 in
theorem ggX5_taken_J13_bitCount_95d88 : GoodIn wsX5_taken wsJ13_bitCount_95d88 := goodIn_r _ [21, 22, 23, 24] (by decide +kernel) (by decide +kernel)
set_option maxRecDepth 20000 in
theorem gX5_taken_J13_bitCount_95d88 : GoodIn wsX5_taken (va_wsS RX5 101 yJ13_bitCount_95d88 wsJ13_bitCount_95d88) := goodIn_app (goodIn_of _ (by decide +kernel)) ggX5_taken_J13_bitCount_95d88
theorem dX5_taken_0 : decode cX5_taken 0 = .ok (.iload_n 1, 1) := by decide +kernel
theorem dX5_taken_1 : decode cX5_taken 1 = .ok (.invokestatic 54, 3) := by decide +kernel
theorem dX5_taken_4 : decode cX5_taken 4 = .ok (.ifCond .ne 13, 3) := by decide +kernel
theorem dX5_taken_7 : decode cX5_taken 7 = .ok (.iload_n 2, 1) := by decide +kernel
theorem dX5_taken_8 : decode cX5_taken 8 = .ok (.ifCond .lt 9, 3) := by decide +kernel
theorem dX5_taken_11 : decode cX5_taken 11 = .ok (.iload_n 2, 1) := by decide +kernel
theorem dX5_taken_12 : decode cX5_taken 12 = .ok (.bipush 6, 2) := by decide +kernel
theorem dX5_taken_14 : decode cX5_taken 14 = .ok (.if_icmp .lt 6, 3) := by decide +kernel
theorem dX5_taken_17 : decode cX5_taken 17 = .ok (.bipush (-2), 2) := by decide +kernel
theorem dX5_taken_19 : decode cX5_taken 19 = .ok (.ireturn, 1) := by decide +kernel
theorem dX5_taken_20 : decode cX5_taken 20 = .ok (.aload_n 0, 1) := by decide +kernel
theorem dX5_taken_21 : decode cX5_taken 21 = .ok (.getfield 12, 3) := by decide +kernel
theorem dX5_taken_24 : decode cX5_taken 24 = .ok (.iload_n 1, 1) := by decide +kernel
theorem dX5_taken_25 : decode cX5_taken 25 = .ok (.invokevirtual 85, 3) := by decide +kernel
theorem dX5_taken_28 : decode cX5_taken 28 = .ok (.ifCond .eq 6, 3) := by decide +kernel
theorem dX5_taken_31 : decode cX5_taken 31 = .ok (.bipush (-11), 2) := by decide +kernel
theorem dX5_taken_33 : decode cX5_taken 33 = .ok (.ireturn, 1) := by decide +kernel
theorem dX5_taken_34 : decode cX5_taken 34 = .ok (.aload_n 0, 1) := by decide +kernel
theorem dX5_taken_35 : decode cX5_taken 35 = .ok (.getfield 12, 3) := by decide +kernel
theorem dX5_taken_38 : decode cX5_taken 38 = .ok (.getfield 112, 3) := by decide +kernel
theorem dX5_taken_41 : decode cX5_taken 41 = .ok (.iload_n 1, 1) := by decide +kernel
theorem dX5_taken_42 : decode cX5_taken 42 = .ok (.iaload, 1) := by decide +kernel
theorem dX5_taken_43 : decode cX5_taken 43 = .ok (.iload_n 2, 1) := by decide +kernel
theorem dX5_taken_44 : decode cX5_taken 44 = .ok (.invokestatic 138, 3) := by decide +kernel
theorem dX5_taken_47 : decode cX5_taken 47 = .ok (.ifCond .eq 18, 3) := by decide +kernel
theorem dX5_taken_50 : decode cX5_taken 50 = .ok (.aload_n 0, 1) := by decide +kernel
theorem dX5_taken_51 : decode cX5_taken 51 = .ok (.getfield 12, 3) := by decide +kernel
theorem dX5_taken_54 : decode cX5_taken 54 = .ok (.getfield 61, 3) := by decide +kernel
theorem dX5_taken_57 : decode cX5_taken 57 = .ok (.iload_n 1, 1) := by decide +kernel
theorem dX5_taken_58 : decode cX5_taken 58 = .ok (.laload, 1) := by decide +kernel
theorem dX5_taken_59 : decode cX5_taken 59 = .ok (.invokestatic 101, 3) := by decide +kernel
theorem dX5_taken_62 : decode cX5_taken 62 = .ok (.goto 5, 3) := by decide +kernel
theorem dX5_taken_65 : decode cX5_taken 65 = .ok (.bipush (-13), 2) := by decide +kernel
theorem dX5_taken_67 : decode cX5_taken 67 = .ok (.ireturn, 1) := by decide +kernel
set_option maxRecDepth 20000 in
theorem ggX5_fails_X5_noFamily : GoodIn wsX5_fails wsX5_noFamily := goodIn_r _ [7] (by decide +kernel) (by decide +kernel)
set_option maxRecDepth 20000 in
theorem gX5_fails_X5_noFamily : GoodIn wsX5_fails (va_wsS RX5 54 yX5_noFamily wsX5_noFamily) := goodIn_app (goodIn_of _ (by decide +kernel)) ggX5_fails_X5_noFamily
set_option maxRecDepth 20000 in
theorem ggX5_fails_X1_isMissing : GoodIn wsX5_fails wsX1_isMissing := goodIn_r _ [12, 13, 56, 57, 58, 59, 60] (by decide +kernel) (by decide +kernel)
set_option maxRecDepth 20000 in
theorem gX5_fails_X1_isMissing : GoodIn wsX5_fails (wsV RX5 85 RX1 yX1_isMissing wsX1_isMissing) := goodIn_app (goodIn_of _ (by decide +kernel)) ggX5_fails_X1_isMissing
set_option maxRecDepth 20000 in
theorem ggX5_fails_X0_firstStuck : GoodIn wsX5_fails wsX0_firstStuck := goodIn_r _ [17, 18, 19, 16, 20, 21, 22, 23, 24, 25, 26, 27, 28, 29, 30, 31, 32, 33] (by decide +kernel) (by decide +kernel)
set_option maxRecDepth 20000 in
theorem gX5_fails_X0_firstStuck : GoodIn wsX5_fails (va_wsS RX5 142 yX0_firstStuck wsX0_firstStuck) := goodIn_app (goodIn_of _ (by decide +kernel)) ggX5_fails_X0_firstStuck
set_option maxRecDepth 20000 in
theorem ggX5_fails_X0_firstUnmet : GoodIn wsX5_fails wsX0_firstUnmet := goodIn_r _ [36, 21, 22, 16, 23, 24, 25, 26, 27, 28, 29, 18, 19, 20, 30, 31, 32, 33, 37, 38, 39, 40, 41, 42, 43, 44, 45, 46] (by decide +kernel) (by decide +kernel)
set_option maxRecDepth 20000 in
theorem gX5_fails_X0_firstUnmet : GoodIn wsX5_fails (va_wsS RX5 145 yX0_firstUnmet wsX0_firstUnmet) := goodIn_app (goodIn_of _ (by decide +kernel)) ggX5_fails_X0_firstUnmet
set_option maxRecDepth 20000 in
theorem ggX5_fails_X0_firstLonePoint : GoodIn wsX5_fails wsX0_firstLonePoint := goodIn_r _ [49, 24, 25, 16, 26, 27, 28, 29, 18, 19, 20, 30, 31, 32, 33] (by decide +kernel) (by decide +kernel)
set_option maxRecDepth 20000 in
theorem gX5_fails_X0_firstLonePoint : GoodIn wsX5_fails (va_wsS RX5 149 yX0_firstLonePoint wsX0_firstLonePoint) := goodIn_app (goodIn_of _ (by decide +kernel)) ggX5_fails_X0_firstLonePoint
theorem dX5_fails_0 : decode cX5_fails 0 = .ok (.iload_n 1, 1) := by decide +kernel
theorem dX5_fails_1 : decode cX5_fails 1 = .ok (.invokestatic 54, 3) := by decide +kernel
theorem dX5_fails_4 : decode cX5_fails 4 = .ok (.ifCond .ne 12, 3) := by decide +kernel
theorem dX5_fails_7 : decode cX5_fails 7 = .ok (.iload_n 2, 1) := by decide +kernel
theorem dX5_fails_8 : decode cX5_fails 8 = .ok (.ifCond .lt 8, 3) := by decide +kernel
theorem dX5_fails_11 : decode cX5_fails 11 = .ok (.iload_n 2, 1) := by decide +kernel
theorem dX5_fails_12 : decode cX5_fails 12 = .ok (.iconst 2, 1) := by decide +kernel
theorem dX5_fails_13 : decode cX5_fails 13 = .ok (.if_icmp .le 6, 3) := by decide +kernel
theorem dX5_fails_16 : decode cX5_fails 16 = .ok (.bipush (-2), 2) := by decide +kernel
theorem dX5_fails_18 : decode cX5_fails 18 = .ok (.ireturn, 1) := by decide +kernel
theorem dX5_fails_19 : decode cX5_fails 19 = .ok (.aload_n 0, 1) := by decide +kernel
theorem dX5_fails_20 : decode cX5_fails 20 = .ok (.getfield 12, 3) := by decide +kernel
theorem dX5_fails_23 : decode cX5_fails 23 = .ok (.iload_n 1, 1) := by decide +kernel
theorem dX5_fails_24 : decode cX5_fails 24 = .ok (.invokevirtual 85, 3) := by decide +kernel
theorem dX5_fails_27 : decode cX5_fails 27 = .ok (.ifCond .eq 6, 3) := by decide +kernel
theorem dX5_fails_30 : decode cX5_fails 30 = .ok (.bipush (-11), 2) := by decide +kernel
theorem dX5_fails_32 : decode cX5_fails 32 = .ok (.ireturn, 1) := by decide +kernel
theorem dX5_fails_33 : decode cX5_fails 33 = .ok (.aload_n 0, 1) := by decide +kernel
theorem dX5_fails_34 : decode cX5_fails 34 = .ok (.getfield 12, 3) := by decide +kernel
theorem dX5_fails_37 : decode cX5_fails 37 = .ok (.getfield 61, 3) := by decide +kernel
theorem dX5_fails_40 : decode cX5_fails 40 = .ok (.iload_n 1, 1) := by decide +kernel
theorem dX5_fails_41 : decode cX5_fails 41 = .ok (.laload, 1) := by decide +kernel
theorem dX5_fails_42 : decode cX5_fails 42 = .ok (.lstore_n 3, 1) := by decide +kernel
theorem dX5_fails_43 : decode cX5_fails 43 = .ok (.lload_n 3, 1) := by decide +kernel
theorem dX5_fails_44 : decode cX5_fails 44 = .ok (.aload_n 0, 1) := by decide +kernel
theorem dX5_fails_45 : decode cX5_fails 45 = .ok (.getfield 12, 3) := by decide +kernel
theorem dX5_fails_48 : decode cX5_fails 48 = .ok (.getfield 46, 3) := by decide +kernel
theorem dX5_fails_51 : decode cX5_fails 51 = .ok (.invokestatic 142, 3) := by decide +kernel
theorem dX5_fails_54 : decode cX5_fails 54 = .ok (.istore 5, 2) := by decide +kernel
theorem dX5_fails_56 : decode cX5_fails 56 = .ok (.iload 5, 2) := by decide +kernel
theorem dX5_fails_58 : decode cX5_fails 58 = .ok (.iconst (-1), 1) := by decide +kernel
theorem dX5_fails_59 : decode cX5_fails 59 = .ok (.if_icmp .eq 7, 3) := by decide +kernel
theorem dX5_fails_62 : decode cX5_fails 62 = .ok (.iload_n 2, 1) := by decide +kernel
theorem dX5_fails_63 : decode cX5_fails 63 = .ok (.ifCond .ne 6, 3) := by decide +kernel
theorem dX5_fails_66 : decode cX5_fails 66 = .ok (.iload 5, 2) := by decide +kernel
theorem dX5_fails_68 : decode cX5_fails 68 = .ok (.ireturn, 1) := by decide +kernel
theorem dX5_fails_69 : decode cX5_fails 69 = .ok (.lload_n 3, 1) := by decide +kernel
theorem dX5_fails_70 : decode cX5_fails 70 = .ok (.iload 5, 2) := by decide +kernel
theorem dX5_fails_72 : decode cX5_fails 72 = .ok (.aload_n 0, 1) := by decide +kernel
theorem dX5_fails_73 : decode cX5_fails 73 = .ok (.getfield 12, 3) := by decide +kernel
theorem dX5_fails_76 : decode cX5_fails 76 = .ok (.getfield 46, 3) := by decide +kernel
theorem dX5_fails_79 : decode cX5_fails 79 = .ok (.invokestatic 145, 3) := by decide +kernel
theorem dX5_fails_82 : decode cX5_fails 82 = .ok (.istore 6, 2) := by decide +kernel
theorem dX5_fails_84 : decode cX5_fails 84 = .ok (.iload_n 2, 1) := by decide +kernel
theorem dX5_fails_85 : decode cX5_fails 85 = .ok (.iconst 1, 1) := by decide +kernel
theorem dX5_fails_86 : decode cX5_fails 86 = .ok (.if_icmp .ne 8, 3) := by decide +kernel
theorem dX5_fails_89 : decode cX5_fails 89 = .ok (.iload 6, 2) := by decide +kernel
theorem dX5_fails_91 : decode cX5_fails 91 = .ok (.goto 18, 3) := by decide +kernel
theorem dX5_fails_94 : decode cX5_fails 94 = .ok (.lload_n 3, 1) := by decide +kernel
theorem dX5_fails_95 : decode cX5_fails 95 = .ok (.iload 5, 2) := by decide +kernel
theorem dX5_fails_97 : decode cX5_fails 97 = .ok (.iload 6, 2) := by decide +kernel
theorem dX5_fails_99 : decode cX5_fails 99 = .ok (.aload_n 0, 1) := by decide +kernel
theorem dX5_fails_100 : decode cX5_fails 100 = .ok (.getfield 12, 3) := by decide +kernel
theorem dX5_fails_103 : decode cX5_fails 103 = .ok (.getfield 46, 3) := by decide +kernel
theorem dX5_fails_106 : decode cX5_fails 106 = .ok (.invokestatic 149, 3) := by decide +kernel
theorem dX5_fails_109 : decode cX5_fails 109 = .ok (.ireturn, 1) := by decide +kernel
set_option maxRecDepth 20000 in
theorem ggX5_partner_X5_noFamily : GoodIn wsX5_partner wsX5_noFamily := goodIn_r _ [7] (by decide +kernel) (by decide +kernel)
set_option maxRecDepth 20000 in
theorem gX5_partner_X5_noFamily : GoodIn wsX5_partner (va_wsS RX5 54 yX5_noFamily wsX5_noFamily) := goodIn_app (goodIn_of _ (by decide +kernel)) ggX5_partner_X5_noFamily
set_option maxRecDepth 20000 in
theorem ggX5_partner_X5_noSet : GoodIn wsX5_partner wsX5_noSet := goodIn_r _ [11, 1, 3, 40, 41, 42, 43, 44, 45, 46, 47, 48, 49, 50] (by decide +kernel) (by decide +kernel)
set_option maxRecDepth 20000 in
theorem gX5_partner_X5_noSet : GoodIn wsX5_partner (wsV RX5 58 RX5 yX5_noSet wsX5_noSet) := goodIn_app (goodIn_of _ (by decide +kernel)) ggX5_partner_X5_noSet
set_option maxRecDepth 20000 in
theorem ggX5_partner_X5_noPoint : GoodIn wsX5_partner wsX5_noPoint := goodIn_r _ [15, 1, 3, 40, 41, 42, 43, 44, 45, 46, 47, 48, 49, 50] (by decide +kernel) (by decide +kernel)
set_option maxRecDepth 20000 in
theorem gX5_partner_X5_noPoint : GoodIn wsX5_partner (wsV RX5 92 RX5 yX5_noPoint wsX5_noPoint) := goodIn_app (goodIn_of _ (by decide +kernel)) ggX5_partner_X5_noPoint
set_option maxRecDepth 20000 in
theorem ggX5_partner_X1_isMissing : GoodIn wsX5_partner wsX1_isMissing := goodIn_r _ [20, 21, 46, 47, 48, 49, 50] (by decide +kernel) (by decide +kernel)
set_option maxRecDepth 20000 in
theorem gX5_partner_X1_isMissing : GoodIn wsX5_partner (wsV RX5 85 RX1 yX1_isMissing wsX1_isMissing) := goodIn_app (goodIn_of _ (by decide +kernel)) ggX5_partner_X1_isMissing
set_option maxRecDepth 20000 in
theorem ggX5_partner_X0_holds : GoodIn wsX5_partner wsX0_holds := goodIn_r _ [25] (by decide +kernel) (by decide +kernel)
set_option maxRecDepth 20000 in
theorem gX5_partner_X0_holds : GoodIn wsX5_partner (va_wsS RX5 71 yX0_holds wsX0_holds) := goodIn_app (goodIn_of _ (by decide +kernel)) ggX5_partner_X0_holds
set_option maxRecDepth 20000 in
theorem ggX5_partner_X0_partners : GoodIn wsX5_partner wsX0_partners := goodIn_r _ [28, 29, 23, 24, 25] (by decide +kernel) (by decide +kernel)
set_option maxRecDepth 20000 in
theorem gX5_partner_X0_partners : GoodIn wsX5_partner (va_wsS RX5 153 yX0_partners wsX0_partners) := goodIn_app (goodIn_of _ (by decide +kernel)) ggX5_partner_X0_partners
set_option maxRecDepth 20000 in
theorem ggX5_partner_X5_leastBit : GoodIn wsX5_partner wsX5_leastBit := goodIn_r _ [32, 33, 34, 35, 36, 37, 38, 39] (by decide +kernel) (by decide +kernel)
set_option maxRecDepth 20000 in
theorem gX5_partner_X5_leastBit : GoodIn wsX5_partner (va_wsS RX5 132 yX5_leastBit wsX5_leastBit) := goodIn_app (goodIn_of _ (by decide +kernel)) ggX5_partner_X5_leastBit
theorem dX5_partner_0 : decode cX5_partner 0 = .ok (.iload_n 1, 1) := by decide +kernel
theorem dX5_partner_1 : decode cX5_partner 1 = .ok (.invokestatic 54, 3) := by decide +kernel
theorem dX5_partner_4 : decode cX5_partner 4 = .ok (.ifCond .ne 28, 3) := by decide +kernel
theorem dX5_partner_7 : decode cX5_partner 7 = .ok (.aload_n 0, 1) := by decide +kernel
theorem dX5_partner_8 : decode cX5_partner 8 = .ok (.iload_n 2, 1) := by decide +kernel
theorem dX5_partner_9 : decode cX5_partner 9 = .ok (.invokevirtual 58, 3) := by decide +kernel
theorem dX5_partner_12 : decode cX5_partner 12 = .ok (.ifCond .ne 20, 3) := by decide +kernel
theorem dX5_partner_15 : decode cX5_partner 15 = .ok (.aload_n 0, 1) := by decide +kernel
theorem dX5_partner_16 : decode cX5_partner 16 = .ok (.iload_n 3, 1) := by decide +kernel
theorem dX5_partner_17 : decode cX5_partner 17 = .ok (.invokevirtual 58, 3) := by decide +kernel
theorem dX5_partner_20 : decode cX5_partner 20 = .ok (.ifCond .ne 12, 3) := by decide +kernel
theorem dX5_partner_23 : decode cX5_partner 23 = .ok (.aload_n 0, 1) := by decide +kernel
theorem dX5_partner_24 : decode cX5_partner 24 = .ok (.iload 4, 2) := by decide +kernel
theorem dX5_partner_26 : decode cX5_partner 26 = .ok (.invokevirtual 92, 3) := by decide +kernel
theorem dX5_partner_29 : decode cX5_partner 29 = .ok (.ifCond .eq 6, 3) := by decide +kernel
theorem dX5_partner_32 : decode cX5_partner 32 = .ok (.bipush (-2), 2) := by decide +kernel
theorem dX5_partner_34 : decode cX5_partner 34 = .ok (.ireturn, 1) := by decide +kernel
theorem dX5_partner_35 : decode cX5_partner 35 = .ok (.aload_n 0, 1) := by decide +kernel
theorem dX5_partner_36 : decode cX5_partner 36 = .ok (.getfield 12, 3) := by decide +kernel
theorem dX5_partner_39 : decode cX5_partner 39 = .ok (.iload_n 1, 1) := by decide +kernel
theorem dX5_partner_40 : decode cX5_partner 40 = .ok (.invokevirtual 85, 3) := by decide +kernel
theorem dX5_partner_43 : decode cX5_partner 43 = .ok (.ifCond .eq 6, 3) := by decide +kernel
theorem dX5_partner_46 : decode cX5_partner 46 = .ok (.bipush (-11), 2) := by decide +kernel
theorem dX5_partner_48 : decode cX5_partner 48 = .ok (.ireturn, 1) := by decide +kernel
theorem dX5_partner_49 : decode cX5_partner 49 = .ok (.aload_n 0, 1) := by decide +kernel
theorem dX5_partner_50 : decode cX5_partner 50 = .ok (.getfield 12, 3) := by decide +kernel
theorem dX5_partner_53 : decode cX5_partner 53 = .ok (.getfield 61, 3) := by decide +kernel
theorem dX5_partner_56 : decode cX5_partner 56 = .ok (.iload_n 1, 1) := by decide +kernel
theorem dX5_partner_57 : decode cX5_partner 57 = .ok (.laload, 1) := by decide +kernel
theorem dX5_partner_58 : decode cX5_partner 58 = .ok (.lstore 5, 2) := by decide +kernel
theorem dX5_partner_60 : decode cX5_partner 60 = .ok (.iload_n 2, 1) := by decide +kernel
theorem dX5_partner_61 : decode cX5_partner 61 = .ok (.iload_n 3, 1) := by decide +kernel
theorem dX5_partner_62 : decode cX5_partner 62 = .ok (.ixor, 1) := by decide +kernel
theorem dX5_partner_63 : decode cX5_partner 63 = .ok (.istore 7, 2) := by decide +kernel
theorem dX5_partner_65 : decode cX5_partner 65 = .ok (.lload 5, 2) := by decide +kernel
theorem dX5_partner_67 : decode cX5_partner 67 = .ok (.iload_n 2, 1) := by decide +kernel
theorem dX5_partner_68 : decode cX5_partner 68 = .ok (.invokestatic 71, 3) := by decide +kernel
theorem dX5_partner_71 : decode cX5_partner 71 = .ok (.ifCond .eq 22, 3) := by decide +kernel
theorem dX5_partner_74 : decode cX5_partner 74 = .ok (.lload 5, 2) := by decide +kernel
theorem dX5_partner_76 : decode cX5_partner 76 = .ok (.iload_n 3, 1) := by decide +kernel
theorem dX5_partner_77 : decode cX5_partner 77 = .ok (.invokestatic 71, 3) := by decide +kernel
theorem dX5_partner_80 : decode cX5_partner 80 = .ok (.ifCond .eq 13, 3) := by decide +kernel
theorem dX5_partner_83 : decode cX5_partner 83 = .ok (.iload 7, 2) := by decide +kernel
theorem dX5_partner_85 : decode cX5_partner 85 = .ok (.iload 4, 2) := by decide +kernel
theorem dX5_partner_87 : decode cX5_partner 87 = .ok (.ishr, 1) := by decide +kernel
theorem dX5_partner_88 : decode cX5_partner 88 = .ok (.iconst 1, 1) := by decide +kernel
theorem dX5_partner_89 : decode cX5_partner 89 = .ok (.iand, 1) := by decide +kernel
theorem dX5_partner_90 : decode cX5_partner 90 = .ok (.ifCond .ne 6, 3) := by decide +kernel
theorem dX5_partner_93 : decode cX5_partner 93 = .ok (.bipush (-3), 2) := by decide +kernel
theorem dX5_partner_95 : decode cX5_partner 95 = .ok (.ireturn, 1) := by decide +kernel
theorem dX5_partner_96 : decode cX5_partner 96 = .ok (.lload 5, 2) := by decide +kernel
theorem dX5_partner_98 : decode cX5_partner 98 = .ok (.iload_n 2, 1) := by decide +kernel
theorem dX5_partner_99 : decode cX5_partner 99 = .ok (.iload 4, 2) := by decide +kernel
theorem dX5_partner_101 : decode cX5_partner 101 = .ok (.aload_n 0, 1) := by decide +kernel
theorem dX5_partner_102 : decode cX5_partner 102 = .ok (.getfield 12, 3) := by decide +kernel
theorem dX5_partner_105 : decode cX5_partner 105 = .ok (.getfield 46, 3) := by decide +kernel
theorem dX5_partner_108 : decode cX5_partner 108 = .ok (.invokestatic 153, 3) := by decide +kernel
theorem dX5_partner_111 : decode cX5_partner 111 = .ok (.iload 7, 2) := by decide +kernel
theorem dX5_partner_113 : decode cX5_partner 113 = .ok (.iand, 1) := by decide +kernel
theorem dX5_partner_114 : decode cX5_partner 114 = .ok (.invokestatic 132, 3) := by decide +kernel
theorem dX5_partner_117 : decode cX5_partner 117 = .ok (.ireturn, 1) := by decide +kernel
set_option maxRecDepth 20000 in
theorem ggX5_near_X5_noFamily : GoodIn wsX5_near wsX5_noFamily := goodIn_r _ [6] (by decide +kernel) (by decide +kernel)
set_option maxRecDepth 20000 in
theorem gX5_near_X5_noFamily : GoodIn wsX5_near (va_wsS RX5 54 yX5_noFamily wsX5_noFamily) := goodIn_app (goodIn_of _ (by decide +kernel)) ggX5_near_X5_noFamily
set_option maxRecDepth 20000 in
theorem ggX5_near_X5_noSet : GoodIn wsX5_near wsX5_noSet := goodIn_r _ [10, 1, 11, 43, 44, 45, 46, 47, 48, 49, 50, 51, 52, 53] (by decide +kernel) (by decide +kernel)
set_option maxRecDepth 20000 in
theorem gX5_near_X5_noSet : GoodIn wsX5_near (wsV RX5 58 RX5 yX5_noSet wsX5_noSet) := goodIn_app (goodIn_of _ (by decide +kernel)) ggX5_near_X5_noSet
set_option maxRecDepth 20000 in
theorem ggX5_near_X1_isMissing : GoodIn wsX5_near wsX1_isMissing := goodIn_r _ [16, 17, 49, 50, 51, 52, 53] (by decide +kernel) (by decide +kernel)
set_option maxRecDepth 20000 in
theorem gX5_near_X1_isMissing : GoodIn wsX5_near (wsV RX5 85 RX1 yX1_isMissing wsX1_isMissing) := goodIn_app (goodIn_of _ (by decide +kernel)) ggX5_near_X1_isMissing
set_option maxRecDepth 20000 in
theorem ggX5_near_X0_twisted : GoodIn wsX5_near wsX0_twisted := goodIn_r _ [21, 22, 23, 20, 24, 25] (by decide +kernel) (by decide +kernel)
set_option maxRecDepth 20000 in
theorem gX5_near_X0_twisted : GoodIn wsX5_near (va_wsS RX5 88 yX0_twisted wsX0_twisted) := goodIn_app (goodIn_of _ (by decide +kernel)) ggX5_near_X0_twisted
set_option maxRecDepth 20000 in
theorem ggX5_near_X0_sizes : GoodIn wsX5_near wsX0_sizes := goodIn_r _ [28, 29, 30, 20, 31, 32, 33, 34, 35, 36, 37, 38] (by decide +kernel) (by decide +kernel)
set_option maxRecDepth 20000 in
theorem gX5_near_X0_sizes : GoodIn wsX5_near (va_wsS RX5 109 yX0_sizes wsX0_sizes) := goodIn_app (goodIn_of _ (by decide +kernel)) ggX5_near_X0_sizes
set_option maxRecDepth 20000 in
theorem ggX5_near_X5_leastBit : GoodIn wsX5_near wsX5_leastBit := goodIn_r _ [41, 42, 33, 34, 35, 36, 37, 38] (by decide +kernel) (by decide +kernel)
set_option maxRecDepth 20000 in
theorem gX5_near_X5_leastBit : GoodIn wsX5_near (va_wsS RX5 132 yX5_leastBit wsX5_leastBit) := goodIn_app (goodIn_of _ (by decide +kernel)) ggX5_near_X5_leastBit
theorem dX5_near_0 : decode cX5_near 0 = .ok (.iload_n 1, 1) := by decide +kernel
theorem dX5_near_1 : decode cX5_near 1 = .ok (.invokestatic 54, 3) := by decide +kernel
theorem dX5_near_4 : decode cX5_near 4 = .ok (.ifCond .ne 11, 3) := by decide +kernel
theorem dX5_near_7 : decode cX5_near 7 = .ok (.aload_n 0, 1) := by decide +kernel
theorem dX5_near_8 : decode cX5_near 8 = .ok (.iload_n 2, 1) := by decide +kernel
theorem dX5_near_9 : decode cX5_near 9 = .ok (.invokevirtual 58, 3) := by decide +kernel
theorem dX5_near_12 : decode cX5_near 12 = .ok (.ifCond .eq 6, 3) := by decide +kernel
theorem dX5_near_15 : decode cX5_near 15 = .ok (.bipush (-2), 2) := by decide +kernel
theorem dX5_near_17 : decode cX5_near 17 = .ok (.ireturn, 1) := by decide +kernel
theorem dX5_near_18 : decode cX5_near 18 = .ok (.aload_n 0, 1) := by decide +kernel
theorem dX5_near_19 : decode cX5_near 19 = .ok (.getfield 12, 3) := by decide +kernel
theorem dX5_near_22 : decode cX5_near 22 = .ok (.iload_n 1, 1) := by decide +kernel
theorem dX5_near_23 : decode cX5_near 23 = .ok (.invokevirtual 85, 3) := by decide +kernel
theorem dX5_near_26 : decode cX5_near 26 = .ok (.ifCond .eq 6, 3) := by decide +kernel
theorem dX5_near_29 : decode cX5_near 29 = .ok (.bipush (-11), 2) := by decide +kernel
theorem dX5_near_31 : decode cX5_near 31 = .ok (.ireturn, 1) := by decide +kernel
theorem dX5_near_32 : decode cX5_near 32 = .ok (.aload_n 0, 1) := by decide +kernel
theorem dX5_near_33 : decode cX5_near 33 = .ok (.getfield 12, 3) := by decide +kernel
theorem dX5_near_36 : decode cX5_near 36 = .ok (.getfield 61, 3) := by decide +kernel
theorem dX5_near_39 : decode cX5_near 39 = .ok (.iload_n 1, 1) := by decide +kernel
theorem dX5_near_40 : decode cX5_near 40 = .ok (.laload, 1) := by decide +kernel
theorem dX5_near_41 : decode cX5_near 41 = .ok (.iload_n 2, 1) := by decide +kernel
theorem dX5_near_42 : decode cX5_near 42 = .ok (.invokestatic 88, 3) := by decide +kernel
theorem dX5_near_45 : decode cX5_near 45 = .ok (.invokestatic 109, 3) := by decide +kernel
theorem dX5_near_48 : decode cX5_near 48 = .ok (.invokestatic 132, 3) := by decide +kernel
theorem dX5_near_51 : decode cX5_near 51 = .ok (.ireturn, 1) := by decide +kernel
set_option maxRecDepth 20000 in
theorem ggX5_apart_X5_noFamily : GoodIn wsX5_apart wsX5_noFamily := goodIn_r _ [7] (by decide +kernel) (by decide +kernel)
set_option maxRecDepth 20000 in
theorem gX5_apart_X5_noFamily : GoodIn wsX5_apart (va_wsS RX5 54 yX5_noFamily wsX5_noFamily) := goodIn_app (goodIn_of _ (by decide +kernel)) ggX5_apart_X5_noFamily
set_option maxRecDepth 20000 in
theorem ggX5_apart_X5_noSet : GoodIn wsX5_apart wsX5_noSet := goodIn_r _ [11, 1, 3, 36, 37, 38, 39, 40, 41, 42, 43, 44, 45, 46] (by decide +kernel) (by decide +kernel)
set_option maxRecDepth 20000 in
theorem gX5_apart_X5_noSet : GoodIn wsX5_apart (wsV RX5 58 RX5 yX5_noSet wsX5_noSet) := goodIn_app (goodIn_of _ (by decide +kernel)) ggX5_apart_X5_noSet
set_option maxRecDepth 20000 in
theorem ggX5_apart_X1_isMissing : GoodIn wsX5_apart wsX1_isMissing := goodIn_r _ [16, 17, 42, 43, 44, 45, 46] (by decide +kernel) (by decide +kernel)
set_option maxRecDepth 20000 in
theorem gX5_apart_X1_isMissing : GoodIn wsX5_apart (wsV RX5 85 RX1 yX1_isMissing wsX1_isMissing) := goodIn_app (goodIn_of _ (by decide +kernel)) ggX5_apart_X1_isMissing
set_option maxRecDepth 20000 in
theorem ggX5_apart_X0_holds : GoodIn wsX5_apart wsX0_holds := goodIn_r _ [21] (by decide +kernel) (by decide +kernel)
set_option maxRecDepth 20000 in
theorem gX5_apart_X0_holds : GoodIn wsX5_apart (va_wsS RX5 71 yX0_holds wsX0_holds) := goodIn_app (goodIn_of _ (by decide +kernel)) ggX5_apart_X0_holds
set_option maxRecDepth 20000 in
theorem ggX5_apart_X0_exchangesBetween : GoodIn wsX5_apart wsX0_exchangesBetween := goodIn_r _ [24, 25, 19, 20, 21, 26, 27, 28, 29, 30, 31, 32, 33, 34, 35] (by decide +kernel) (by decide +kernel)
set_option maxRecDepth 20000 in
theorem gX5_apart_X0_exchangesBetween : GoodIn wsX5_apart (va_wsS RX5 156 yX0_exchangesBetween wsX0_exchangesBetween) := goodIn_app (goodIn_of _ (by decide +kernel)) ggX5_apart_X0_exchangesBetween
theorem dX5_apart_0 : decode cX5_apart 0 = .ok (.iload_n 1, 1) := by decide +kernel
theorem dX5_apart_1 : decode cX5_apart 1 = .ok (.invokestatic 54, 3) := by decide +kernel
theorem dX5_apart_4 : decode cX5_apart 4 = .ok (.ifCond .ne 19, 3) := by decide +kernel
theorem dX5_apart_7 : decode cX5_apart 7 = .ok (.aload_n 0, 1) := by decide +kernel
theorem dX5_apart_8 : decode cX5_apart 8 = .ok (.iload_n 2, 1) := by decide +kernel
theorem dX5_apart_9 : decode cX5_apart 9 = .ok (.invokevirtual 58, 3) := by decide +kernel
theorem dX5_apart_12 : decode cX5_apart 12 = .ok (.ifCond .ne 11, 3) := by decide +kernel
theorem dX5_apart_15 : decode cX5_apart 15 = .ok (.aload_n 0, 1) := by decide +kernel
theorem dX5_apart_16 : decode cX5_apart 16 = .ok (.iload_n 3, 1) := by decide +kernel
theorem dX5_apart_17 : decode cX5_apart 17 = .ok (.invokevirtual 58, 3) := by decide +kernel
theorem dX5_apart_20 : decode cX5_apart 20 = .ok (.ifCond .eq 6, 3) := by decide +kernel
theorem dX5_apart_23 : decode cX5_apart 23 = .ok (.bipush (-2), 2) := by decide +kernel
theorem dX5_apart_25 : decode cX5_apart 25 = .ok (.ireturn, 1) := by decide +kernel
theorem dX5_apart_26 : decode cX5_apart 26 = .ok (.aload_n 0, 1) := by decide +kernel
theorem dX5_apart_27 : decode cX5_apart 27 = .ok (.getfield 12, 3) := by decide +kernel
theorem dX5_apart_30 : decode cX5_apart 30 = .ok (.iload_n 1, 1) := by decide +kernel
theorem dX5_apart_31 : decode cX5_apart 31 = .ok (.invokevirtual 85, 3) := by decide +kernel
theorem dX5_apart_34 : decode cX5_apart 34 = .ok (.ifCond .eq 6, 3) := by decide +kernel
theorem dX5_apart_37 : decode cX5_apart 37 = .ok (.bipush (-11), 2) := by decide +kernel
theorem dX5_apart_39 : decode cX5_apart 39 = .ok (.ireturn, 1) := by decide +kernel
theorem dX5_apart_40 : decode cX5_apart 40 = .ok (.aload_n 0, 1) := by decide +kernel
theorem dX5_apart_41 : decode cX5_apart 41 = .ok (.getfield 12, 3) := by decide +kernel
theorem dX5_apart_44 : decode cX5_apart 44 = .ok (.getfield 61, 3) := by decide +kernel
theorem dX5_apart_47 : decode cX5_apart 47 = .ok (.iload_n 1, 1) := by decide +kernel
theorem dX5_apart_48 : decode cX5_apart 48 = .ok (.laload, 1) := by decide +kernel
theorem dX5_apart_49 : decode cX5_apart 49 = .ok (.lstore 4, 2) := by decide +kernel
theorem dX5_apart_51 : decode cX5_apart 51 = .ok (.lload 4, 2) := by decide +kernel
theorem dX5_apart_53 : decode cX5_apart 53 = .ok (.iload_n 2, 1) := by decide +kernel
theorem dX5_apart_54 : decode cX5_apart 54 = .ok (.invokestatic 71, 3) := by decide +kernel
theorem dX5_apart_57 : decode cX5_apart 57 = .ok (.ifCond .eq 12, 3) := by decide +kernel
theorem dX5_apart_60 : decode cX5_apart 60 = .ok (.lload 4, 2) := by decide +kernel
theorem dX5_apart_62 : decode cX5_apart 62 = .ok (.iload_n 3, 1) := by decide +kernel
theorem dX5_apart_63 : decode cX5_apart 63 = .ok (.invokestatic 71, 3) := by decide +kernel
theorem dX5_apart_66 : decode cX5_apart 66 = .ok (.ifCond .ne 6, 3) := by decide +kernel
theorem dX5_apart_69 : decode cX5_apart 69 = .ok (.bipush (-3), 2) := by decide +kernel
theorem dX5_apart_71 : decode cX5_apart 71 = .ok (.ireturn, 1) := by decide +kernel
theorem dX5_apart_72 : decode cX5_apart 72 = .ok (.lload 4, 2) := by decide +kernel
theorem dX5_apart_74 : decode cX5_apart 74 = .ok (.iload_n 2, 1) := by decide +kernel
theorem dX5_apart_75 : decode cX5_apart 75 = .ok (.iload_n 3, 1) := by decide +kernel
theorem dX5_apart_76 : decode cX5_apart 76 = .ok (.aload_n 0, 1) := by decide +kernel
theorem dX5_apart_77 : decode cX5_apart 77 = .ok (.getfield 12, 3) := by decide +kernel
theorem dX5_apart_80 : decode cX5_apart 80 = .ok (.getfield 46, 3) := by decide +kernel
theorem dX5_apart_83 : decode cX5_apart 83 = .ok (.invokestatic 156, 3) := by decide +kernel
theorem dX5_apart_86 : decode cX5_apart 86 = .ok (.ireturn, 1) := by decide +kernel
set_option maxRecDepth 20000 in
theorem ggX5_weight_X5_noPoint : GoodIn wsX5_weight wsX5_noPoint := goodIn_r _ [7, 1, 8, 9, 10, 11, 12, 13, 14, 15, 16, 17, 18, 19] (by decide +kernel) (by decide +kernel)
set_option maxRecDepth 20000 in
theorem gX5_weight_X5_noPoint : GoodIn wsX5_weight (wsV RX5 92 RX5 yX5_noPoint wsX5_noPoint) := goodIn_app (goodIn_of _ (by decide +kernel)) ggX5_weight_X5_noPoint
theorem dX5_weight_0 : decode cX5_weight 0 = .ok (.aload_n 0, 1) := by decide +kernel
theorem dX5_weight_1 : decode cX5_weight 1 = .ok (.iload_n 1, 1) := by decide +kernel
theorem dX5_weight_2 : decode cX5_weight 2 = .ok (.invokevirtual 92, 3) := by decide +kernel
theorem dX5_weight_5 : decode cX5_weight 5 = .ok (.ifCond .ne 15, 3) := by decide +kernel
theorem dX5_weight_8 : decode cX5_weight 8 = .ok (.iload_n 2, 1) := by decide +kernel
theorem dX5_weight_9 : decode cX5_weight 9 = .ok (.bipush (-99), 2) := by decide +kernel
theorem dX5_weight_11 : decode cX5_weight 11 = .ok (.if_icmp .lt 9, 3) := by decide +kernel
theorem dX5_weight_14 : decode cX5_weight 14 = .ok (.iload_n 2, 1) := by decide +kernel
theorem dX5_weight_15 : decode cX5_weight 15 = .ok (.bipush 99, 2) := by decide +kernel
theorem dX5_weight_17 : decode cX5_weight 17 = .ok (.if_icmp .le 7, 3) := by decide +kernel
theorem dX5_weight_20 : decode cX5_weight 20 = .ok (.sipush (-1000), 3) := by decide +kernel
theorem dX5_weight_23 : decode cX5_weight 23 = .ok (.ireturn, 1) := by decide +kernel
theorem dX5_weight_24 : decode cX5_weight 24 = .ok (.aload_n 0, 1) := by decide +kernel
theorem dX5_weight_25 : decode cX5_weight 25 = .ok (.getfield 12, 3) := by decide +kernel
theorem dX5_weight_28 : decode cX5_weight 28 = .ok (.getfield 159, 3) := by decide +kernel
theorem dX5_weight_31 : decode cX5_weight 31 = .ok (.iload_n 1, 1) := by decide +kernel
theorem dX5_weight_32 : decode cX5_weight 32 = .ok (.iaload, 1) := by decide +kernel
theorem dX5_weight_33 : decode cX5_weight 33 = .ok (.istore_n 3, 1) := by decide +kernel
theorem dX5_weight_34 : decode cX5_weight 34 = .ok (.aload_n 0, 1) := by decide +kernel
theorem dX5_weight_35 : decode cX5_weight 35 = .ok (.getfield 12, 3) := by decide +kernel
theorem dX5_weight_38 : decode cX5_weight 38 = .ok (.getfield 159, 3) := by decide +kernel
theorem dX5_weight_41 : decode cX5_weight 41 = .ok (.iload_n 1, 1) := by decide +kernel
theorem dX5_weight_42 : decode cX5_weight 42 = .ok (.iload_n 2, 1) := by decide +kernel
theorem dX5_weight_43 : decode cX5_weight 43 = .ok (.iastore, 1) := by decide +kernel
theorem dX5_weight_44 : decode cX5_weight 44 = .ok (.iload_n 3, 1) := by decide +kernel
theorem dX5_weight_45 : decode cX5_weight 45 = .ok (.ireturn, 1) := by decide +kernel
set_option maxRecDepth 20000 in
theorem ggX5_weighs_X5_noSet : GoodIn wsX5_weighs wsX5_noSet := goodIn_r _ [6, 1, 7, 15, 16, 17, 18, 19, 20, 21, 22, 23, 24, 25] (by decide +kernel) (by decide +kernel)
set_option maxRecDepth 20000 in
theorem gX5_weighs_X5_noSet : GoodIn wsX5_weighs (wsV RX5 58 RX5 yX5_noSet wsX5_noSet) := goodIn_app (goodIn_of _ (by decide +kernel)) ggX5_weighs_X5_noSet
set_option maxRecDepth 20000 in
theorem ggX5_weighs_X1_weightOf : GoodIn wsX5_weighs wsX1_weightOf := goodIn_r _ [12, 13, 14, 21, 22, 23, 24, 25] (by decide +kernel) (by decide +kernel)
set_option maxRecDepth 20000 in
theorem gX5_weighs_X1_weightOf : GoodIn wsX5_weighs (wsV RX5 162 RX1 yX1_weightOf wsX1_weightOf) := goodIn_app (goodIn_of _ (by decide +kernel)) ggX5_weighs_X1_weightOf
theorem dX5_weighs_0 : decode cX5_weighs 0 = .ok (.aload_n 0, 1) := by decide +kernel
theorem dX5_weighs_1 : decode cX5_weighs 1 = .ok (.iload_n 1, 1) := by decide +kernel
theorem dX5_weighs_2 : decode cX5_weighs 2 = .ok (.invokevirtual 58, 3) := by decide +kernel
theorem dX5_weighs_5 : decode cX5_weighs 5 = .ok (.ifCond .eq 9, 3) := by decide +kernel
theorem dX5_weighs_8 : decode cX5_weighs 8 = .ok (.sipush (-1000), 3) := by decide +kernel
theorem dX5_weighs_11 : decode cX5_weighs 11 = .ok (.goto 11, 3) := by decide +kernel
theorem dX5_weighs_14 : decode cX5_weighs 14 = .ok (.aload_n 0, 1) := by decide +kernel
theorem dX5_weighs_15 : decode cX5_weighs 15 = .ok (.getfield 12, 3) := by decide +kernel
theorem dX5_weighs_18 : decode cX5_weighs 18 = .ok (.iload_n 1, 1) := by decide +kernel
theorem dX5_weighs_19 : decode cX5_weighs 19 = .ok (.invokevirtual 162, 3) := by decide +kernel
theorem dX5_weighs_22 : decode cX5_weighs 22 = .ok (.ireturn, 1) := by decide +kernel
set_option maxRecDepth 20000 in
theorem ggX5_greed_X5_noFamily : GoodIn wsX5_greed wsX5_noFamily := goodIn_r _ [6] (by decide +kernel) (by decide +kernel)
set_option maxRecDepth 20000 in
theorem gX5_greed_X5_noFamily : GoodIn wsX5_greed (va_wsS RX5 54 yX5_noFamily wsX5_noFamily) := goodIn_app (goodIn_of _ (by decide +kernel)) ggX5_greed_X5_noFamily
set_option maxRecDepth 20000 in
theorem ggX5_greed_X1_isMissing : GoodIn wsX5_greed wsX1_isMissing := goodIn_r _ [11, 12, 34, 35, 36, 37, 38] (by decide +kernel) (by decide +kernel)
set_option maxRecDepth 20000 in
theorem gX5_greed_X1_isMissing : GoodIn wsX5_greed (wsV RX5 85 RX1 yX1_isMissing wsX1_isMissing) := goodIn_app (goodIn_of _ (by decide +kernel)) ggX5_greed_X1_isMissing
set_option maxRecDepth 20000 in
theorem ggX5_greed_X1_byGreed : GoodIn wsX5_greed wsX1_byGreed := goodIn_r _ [16, 17, 18, 19, 20, 21, 22, 10, 23, 24, 25, 26, 27, 34, 35, 36, 37, 38] (by decide +kernel) (by decide +kernel)
set_option maxRecDepth 20000 in
theorem gX5_greed_X1_byGreed : GoodIn wsX5_greed (wsV RX5 165 RX1 yX1_byGreed wsX1_byGreed) := goodIn_app (goodIn_of _ (by decide +kernel)) ggX5_greed_X1_byGreed
theorem dX5_greed_0 : decode cX5_greed 0 = .ok (.iload_n 1, 1) := by decide +kernel
theorem dX5_greed_1 : decode cX5_greed 1 = .ok (.invokestatic 54, 3) := by decide +kernel
theorem dX5_greed_4 : decode cX5_greed 4 = .ok (.ifCond .eq 6, 3) := by decide +kernel
theorem dX5_greed_7 : decode cX5_greed 7 = .ok (.bipush (-2), 2) := by decide +kernel
theorem dX5_greed_9 : decode cX5_greed 9 = .ok (.ireturn, 1) := by decide +kernel
theorem dX5_greed_10 : decode cX5_greed 10 = .ok (.aload_n 0, 1) := by decide +kernel
theorem dX5_greed_11 : decode cX5_greed 11 = .ok (.getfield 12, 3) := by decide +kernel
theorem dX5_greed_14 : decode cX5_greed 14 = .ok (.iload_n 1, 1) := by decide +kernel
theorem dX5_greed_15 : decode cX5_greed 15 = .ok (.invokevirtual 85, 3) := by decide +kernel
theorem dX5_greed_18 : decode cX5_greed 18 = .ok (.ifCond .eq 8, 3) := by decide +kernel
theorem dX5_greed_21 : decode cX5_greed 21 = .ok (.bipush (-11), 2) := by decide +kernel
theorem dX5_greed_23 : decode cX5_greed 23 = .ok (.goto 19, 3) := by decide +kernel
theorem dX5_greed_26 : decode cX5_greed 26 = .ok (.aload_n 0, 1) := by decide +kernel
theorem dX5_greed_27 : decode cX5_greed 27 = .ok (.getfield 12, 3) := by decide +kernel
theorem dX5_greed_30 : decode cX5_greed 30 = .ok (.aload_n 0, 1) := by decide +kernel
theorem dX5_greed_31 : decode cX5_greed 31 = .ok (.getfield 12, 3) := by decide +kernel
theorem dX5_greed_34 : decode cX5_greed 34 = .ok (.getfield 61, 3) := by decide +kernel
theorem dX5_greed_37 : decode cX5_greed 37 = .ok (.iload_n 1, 1) := by decide +kernel
theorem dX5_greed_38 : decode cX5_greed 38 = .ok (.laload, 1) := by decide +kernel
theorem dX5_greed_39 : decode cX5_greed 39 = .ok (.invokevirtual 165, 3) := by decide +kernel
theorem dX5_greed_42 : decode cX5_greed 42 = .ok (.ireturn, 1) := by decide +kernel
set_option maxRecDepth 20000 in
theorem ggX5_best_X5_noFamily : GoodIn wsX5_best wsX5_noFamily := goodIn_r _ [6] (by decide +kernel) (by decide +kernel)
set_option maxRecDepth 20000 in
theorem gX5_best_X5_noFamily : GoodIn wsX5_best (va_wsS RX5 54 yX5_noFamily wsX5_noFamily) := goodIn_app (goodIn_of _ (by decide +kernel)) ggX5_best_X5_noFamily
set_option maxRecDepth 20000 in
theorem ggX5_best_X1_isMissing : GoodIn wsX5_best wsX1_isMissing := goodIn_r _ [11, 12, 33, 34, 35, 36, 37] (by decide +kernel) (by decide +kernel)
set_option maxRecDepth 20000 in
theorem gX5_best_X1_isMissing : GoodIn wsX5_best (wsV RX5 85 RX1 yX1_isMissing wsX1_isMissing) := goodIn_app (goodIn_of _ (by decide +kernel)) ggX5_best_X1_isMissing
set_option maxRecDepth 20000 in
theorem ggX5_best_X1_byLooking : GoodIn wsX5_best wsX1_byLooking := goodIn_r _ [16, 17, 18, 19, 20, 21, 22, 23, 24, 10, 25, 26, 33, 34, 35, 36, 37] (by decide +kernel) (by decide +kernel)
set_option maxRecDepth 20000 in
theorem gX5_best_X1_byLooking : GoodIn wsX5_best (wsV RX5 168 RX1 yX1_byLooking wsX1_byLooking) := goodIn_app (goodIn_of _ (by decide +kernel)) ggX5_best_X1_byLooking
theorem dX5_best_0 : decode cX5_best 0 = .ok (.iload_n 1, 1) := by decide +kernel
theorem dX5_best_1 : decode cX5_best 1 = .ok (.invokestatic 54, 3) := by decide +kernel
theorem dX5_best_4 : decode cX5_best 4 = .ok (.ifCond .eq 6, 3) := by decide +kernel
theorem dX5_best_7 : decode cX5_best 7 = .ok (.bipush (-2), 2) := by decide +kernel
theorem dX5_best_9 : decode cX5_best 9 = .ok (.ireturn, 1) := by decide +kernel
theorem dX5_best_10 : decode cX5_best 10 = .ok (.aload_n 0, 1) := by decide +kernel
theorem dX5_best_11 : decode cX5_best 11 = .ok (.getfield 12, 3) := by decide +kernel
theorem dX5_best_14 : decode cX5_best 14 = .ok (.iload_n 1, 1) := by decide +kernel
theorem dX5_best_15 : decode cX5_best 15 = .ok (.invokevirtual 85, 3) := by decide +kernel
theorem dX5_best_18 : decode cX5_best 18 = .ok (.ifCond .eq 8, 3) := by decide +kernel
theorem dX5_best_21 : decode cX5_best 21 = .ok (.bipush (-11), 2) := by decide +kernel
theorem dX5_best_23 : decode cX5_best 23 = .ok (.goto 19, 3) := by decide +kernel
theorem dX5_best_26 : decode cX5_best 26 = .ok (.aload_n 0, 1) := by decide +kernel
theorem dX5_best_27 : decode cX5_best 27 = .ok (.getfield 12, 3) := by decide +kernel
theorem dX5_best_30 : decode cX5_best 30 = .ok (.aload_n 0, 1) := by decide +kernel
theorem dX5_best_31 : decode cX5_best 31 = .ok (.getfield 12, 3) := by decide +kernel
theorem dX5_best_34 : decode cX5_best 34 = .ok (.getfield 61, 3) := by decide +kernel
theorem dX5_best_37 : decode cX5_best 37 = .ok (.iload_n 1, 1) := by decide +kernel
theorem dX5_best_38 : decode cX5_best 38 = .ok (.laload, 1) := by decide +kernel
theorem dX5_best_39 : decode cX5_best 39 = .ok (.invokevirtual 168, 3) := by decide +kernel
theorem dX5_best_42 : decode cX5_best 42 = .ok (.ireturn, 1) := by decide +kernel
set_option maxRecDepth 20000 in
theorem ggX5_entry_X5_noPoint : GoodIn wsX5_entry wsX5_noPoint := goodIn_r _ [7, 1, 8, 23, 24, 25, 26, 27, 28, 29, 30, 31, 32, 33] (by decide +kernel) (by decide +kernel)
set_option maxRecDepth 20000 in
theorem gX5_entry_X5_noPoint : GoodIn wsX5_entry (wsV RX5 92 RX5 yX5_noPoint wsX5_noPoint) := goodIn_app (goodIn_of _ (by decide +kernel)) ggX5_entry_X5_noPoint
set_option maxRecDepth 20000 in
theorem ggX5_entry_X4_at : GoodIn wsX5_entry wsX4_at := goodIn_r _ [13, 14, 34] (by decide +kernel) (by decide +kernel)
set_option maxRecDepth 20000 in
theorem gX5_entry_X4_at : GoodIn wsX5_entry (wsV RX5 174 RX4 yX4_at wsX4_at) := goodIn_app (goodIn_of _ (by decide +kernel)) ggX5_entry_X4_at
set_option maxRecDepth 20000 in
theorem ggX5_entry_X4_write : GoodIn wsX5_entry wsX4_write := goodIn_r _ [18, 14, 19, 20, 21, 22, 34] (by decide +kernel) (by decide +kernel)
set_option maxRecDepth 20000 in
theorem gX5_entry_X4_write : GoodIn wsX5_entry (wsV RX5 178 RX4 yX4_write wsX4_write) := goodIn_app (goodIn_of _ (by decide +kernel)) ggX5_entry_X4_write
theorem dX5_entry_0 : decode cX5_entry 0 = .ok (.aload_n 0, 1) := by decide +kernel
theorem dX5_entry_1 : decode cX5_entry 1 = .ok (.iload_n 1, 1) := by decide +kernel
theorem dX5_entry_2 : decode cX5_entry 2 = .ok (.invokevirtual 92, 3) := by decide +kernel
theorem dX5_entry_5 : decode cX5_entry 5 = .ok (.ifCond .ne 26, 3) := by decide +kernel
theorem dX5_entry_8 : decode cX5_entry 8 = .ok (.aload_n 0, 1) := by decide +kernel
theorem dX5_entry_9 : decode cX5_entry 9 = .ok (.iload_n 2, 1) := by decide +kernel
theorem dX5_entry_10 : decode cX5_entry 10 = .ok (.invokevirtual 92, 3) := by decide +kernel
theorem dX5_entry_13 : decode cX5_entry 13 = .ok (.ifCond .ne 18, 3) := by decide +kernel
theorem dX5_entry_16 : decode cX5_entry 16 = .ok (.iload_n 1, 1) := by decide +kernel
theorem dX5_entry_17 : decode cX5_entry 17 = .ok (.iload_n 2, 1) := by decide +kernel
theorem dX5_entry_18 : decode cX5_entry 18 = .ok (.if_icmp .eq 13, 3) := by decide +kernel
theorem dX5_entry_21 : decode cX5_entry 21 = .ok (.iload_n 3, 1) := by decide +kernel
theorem dX5_entry_22 : decode cX5_entry 22 = .ok (.ifCond .lt 9, 3) := by decide +kernel
theorem dX5_entry_25 : decode cX5_entry 25 = .ok (.iload_n 3, 1) := by decide +kernel
theorem dX5_entry_26 : decode cX5_entry 26 = .ok (.bipush 7, 2) := by decide +kernel
theorem dX5_entry_28 : decode cX5_entry 28 = .ok (.if_icmp .lt 6, 3) := by decide +kernel
theorem dX5_entry_31 : decode cX5_entry 31 = .ok (.bipush (-2), 2) := by decide +kernel
theorem dX5_entry_33 : decode cX5_entry 33 = .ok (.ireturn, 1) := by decide +kernel
theorem dX5_entry_34 : decode cX5_entry 34 = .ok (.aload_n 0, 1) := by decide +kernel
theorem dX5_entry_35 : decode cX5_entry 35 = .ok (.getfield 12, 3) := by decide +kernel
theorem dX5_entry_38 : decode cX5_entry 38 = .ok (.getfield 171, 3) := by decide +kernel
theorem dX5_entry_41 : decode cX5_entry 41 = .ok (.iload_n 1, 1) := by decide +kernel
theorem dX5_entry_42 : decode cX5_entry 42 = .ok (.iload_n 2, 1) := by decide +kernel
theorem dX5_entry_43 : decode cX5_entry 43 = .ok (.invokevirtual 174, 3) := by decide +kernel
theorem dX5_entry_46 : decode cX5_entry 46 = .ok (.istore 4, 2) := by decide +kernel
theorem dX5_entry_48 : decode cX5_entry 48 = .ok (.aload_n 0, 1) := by decide +kernel
theorem dX5_entry_49 : decode cX5_entry 49 = .ok (.getfield 12, 3) := by decide +kernel
theorem dX5_entry_52 : decode cX5_entry 52 = .ok (.getfield 171, 3) := by decide +kernel
theorem dX5_entry_55 : decode cX5_entry 55 = .ok (.iload_n 1, 1) := by decide +kernel
theorem dX5_entry_56 : decode cX5_entry 56 = .ok (.iload_n 2, 1) := by decide +kernel
theorem dX5_entry_57 : decode cX5_entry 57 = .ok (.iload_n 3, 1) := by decide +kernel
theorem dX5_entry_58 : decode cX5_entry 58 = .ok (.invokevirtual 178, 3) := by decide +kernel
theorem dX5_entry_61 : decode cX5_entry 61 = .ok (.iload 4, 2) := by decide +kernel
theorem dX5_entry_63 : decode cX5_entry 63 = .ok (.ireturn, 1) := by decide +kernel
set_option maxRecDepth 20000 in
theorem ggX5_entryOf_X5_noPoint : GoodIn wsX5_entryOf wsX5_noPoint := goodIn_r _ [7, 1, 8, 15, 16, 17, 18, 19, 20, 21, 22, 23, 24, 25] (by decide +kernel) (by decide +kernel)
set_option maxRecDepth 20000 in
theorem gX5_entryOf_X5_noPoint : GoodIn wsX5_entryOf (wsV RX5 92 RX5 yX5_noPoint wsX5_noPoint) := goodIn_app (goodIn_of _ (by decide +kernel)) ggX5_entryOf_X5_noPoint
set_option maxRecDepth 20000 in
theorem ggX5_entryOf_X4_at : GoodIn wsX5_entryOf wsX4_at := goodIn_r _ [13, 14, 26] (by decide +kernel) (by decide +kernel)
set_option maxRecDepth 20000 in
theorem gX5_entryOf_X4_at : GoodIn wsX5_entryOf (wsV RX5 174 RX4 yX4_at wsX4_at) := goodIn_app (goodIn_of _ (by decide +kernel)) ggX5_entryOf_X4_at
theorem dX5_entryOf_0 : decode cX5_entryOf 0 = .ok (.aload_n 0, 1) := by decide +kernel
theorem dX5_entryOf_1 : decode cX5_entryOf 1 = .ok (.iload_n 1, 1) := by decide +kernel
theorem dX5_entryOf_2 : decode cX5_entryOf 2 = .ok (.invokevirtual 92, 3) := by decide +kernel
theorem dX5_entryOf_5 : decode cX5_entryOf 5 = .ok (.ifCond .ne 11, 3) := by decide +kernel
theorem dX5_entryOf_8 : decode cX5_entryOf 8 = .ok (.aload_n 0, 1) := by decide +kernel
theorem dX5_entryOf_9 : decode cX5_entryOf 9 = .ok (.iload_n 2, 1) := by decide +kernel
theorem dX5_entryOf_10 : decode cX5_entryOf 10 = .ok (.invokevirtual 92, 3) := by decide +kernel
theorem dX5_entryOf_13 : decode cX5_entryOf 13 = .ok (.ifCond .eq 8, 3) := by decide +kernel
theorem dX5_entryOf_16 : decode cX5_entryOf 16 = .ok (.bipush (-2), 2) := by decide +kernel
theorem dX5_entryOf_18 : decode cX5_entryOf 18 = .ok (.goto 15, 3) := by decide +kernel
theorem dX5_entryOf_21 : decode cX5_entryOf 21 = .ok (.aload_n 0, 1) := by decide +kernel
theorem dX5_entryOf_22 : decode cX5_entryOf 22 = .ok (.getfield 12, 3) := by decide +kernel
theorem dX5_entryOf_25 : decode cX5_entryOf 25 = .ok (.getfield 171, 3) := by decide +kernel
theorem dX5_entryOf_28 : decode cX5_entryOf 28 = .ok (.iload_n 1, 1) := by decide +kernel
theorem dX5_entryOf_29 : decode cX5_entryOf 29 = .ok (.iload_n 2, 1) := by decide +kernel
theorem dX5_entryOf_30 : decode cX5_entryOf 30 = .ok (.invokevirtual 174, 3) := by decide +kernel
theorem dX5_entryOf_33 : decode cX5_entryOf 33 = .ok (.ireturn, 1) := by decide +kernel
set_option maxRecDepth 20000 in
theorem ggX5_whole_X5_noSet : GoodIn wsX5_whole wsX5_noSet := goodIn_r _ [5, 6, 7, 48, 49, 50, 51, 52, 53, 54, 55, 56, 57, 58] (by decide +kernel) (by decide +kernel)
set_option maxRecDepth 20000 in
theorem gX5_whole_X5_noSet : GoodIn wsX5_whole (wsV RX5 58 RX5 yX5_noSet wsX5_noSet) := goodIn_app (goodIn_of _ (by decide +kernel)) ggX5_whole_X5_noSet
set_option maxRecDepth 20000 in
theorem ggX5_whole_X5_determinant : GoodIn wsX5_whole wsX5_determinant := goodIn_r _ [11, 12, 6, 13, 14, 15, 16, 17, 18, 19, 20, 21, 22, 23, 24, 25, 26, 27, 28, 29, 30, 31, 32, 33, 34, 35, 36, 37, 38, 39, 40, 41, 42, 43, 44, 45, 46, 47, 48, 49, 50, 51, 52, 53, 54, 55, 56, 57, 58, 59] (by decide +kernel) (by decide +kernel)
set_option maxRecDepth 20000 in
theorem gX5_whole_X5_determinant : GoodIn wsX5_whole (wsV RX5 81 RX5 yX5_determinant wsX5_determinant) := goodIn_app (goodIn_of _ (by decide +kernel)) ggX5_whole_X5_determinant
theorem dX5_whole_0 : decode cX5_whole 0 = .ok (.aload_n 0, 1) := by decide +kernel
theorem dX5_whole_1 : decode cX5_whole 1 = .ok (.iload_n 1, 1) := by decide +kernel
theorem dX5_whole_2 : decode cX5_whole 2 = .ok (.invokevirtual 58, 3) := by decide +kernel
theorem dX5_whole_5 : decode cX5_whole 5 = .ok (.ifCond .eq 8, 3) := by decide +kernel
theorem dX5_whole_8 : decode cX5_whole 8 = .ok (.bipush (-2), 2) := by decide +kernel
theorem dX5_whole_10 : decode cX5_whole 10 = .ok (.goto 8, 3) := by decide +kernel
theorem dX5_whole_13 : decode cX5_whole 13 = .ok (.aload_n 0, 1) := by decide +kernel
theorem dX5_whole_14 : decode cX5_whole 14 = .ok (.iload_n 1, 1) := by decide +kernel
theorem dX5_whole_15 : decode cX5_whole 15 = .ok (.invokevirtual 81, 3) := by decide +kernel
theorem dX5_whole_18 : decode cX5_whole 18 = .ok (.ireturn, 1) := by decide +kernel
set_option maxRecDepth 20000 in
theorem ggX5_pivot_X5_noSet : GoodIn wsX5_pivot wsX5_noSet := goodIn_r _ [7, 1, 8, 52, 53, 54, 55, 56, 57, 58, 59, 60, 61, 62] (by decide +kernel) (by decide +kernel)
set_option maxRecDepth 20000 in
theorem gX5_pivot_X5_noSet : GoodIn wsX5_pivot (wsV RX5 58 RX5 yX5_noSet wsX5_noSet) := goodIn_app (goodIn_of _ (by decide +kernel)) ggX5_pivot_X5_noSet
set_option maxRecDepth 20000 in
theorem ggX5_pivot_X5_determinant : GoodIn wsX5_pivot wsX5_determinant := goodIn_r _ [12, 13, 1, 2, 14, 15, 16, 17, 18, 19, 20, 21, 22, 23, 24, 25, 26, 27, 28, 29, 30, 31, 32, 33, 34, 35, 36, 37, 38, 39, 40, 41, 42, 43, 44, 45, 46, 47, 52, 53, 54, 55, 56, 57, 58, 59, 60, 61, 62, 63] (by decide +kernel) (by decide +kernel)
set_option maxRecDepth 20000 in
theorem gX5_pivot_X5_determinant : GoodIn wsX5_pivot (wsV RX5 81 RX5 yX5_determinant wsX5_determinant) := goodIn_app (goodIn_of _ (by decide +kernel)) ggX5_pivot_X5_determinant
set_option maxRecDepth 20000 in
theorem ggX5_pivot_X4_pivotOn : GoodIn wsX5_pivot wsX4_pivotOn := goodIn_r _ [27, 28, 29, 30, 17, 31, 32, 33, 34, 35, 19, 36, 37, 38, 39, 40, 41, 42, 43, 44, 45, 46, 47, 63] (by decide +kernel) (by decide +kernel)
set_option maxRecDepth 20000 in
theorem gX5_pivot_X4_pivotOn : GoodIn wsX5_pivot (wsV RX5 182 RX4 yX4_pivotOn wsX4_pivotOn) := goodIn_app (goodIn_of _ (by decide +kernel)) ggX5_pivot_X4_pivotOn
set_option maxRecDepth 20000 in
theorem ggX5_pivot_X4_notZero : GoodIn wsX5_pivot wsX4_notZero := goodIn_r _ [51, 19, 63] (by decide +kernel) (by decide +kernel)
set_option maxRecDepth 20000 in
theorem gX5_pivot_X4_notZero : GoodIn wsX5_pivot (wsV RX5 185 RX4 yX4_notZero wsX4_notZero) := goodIn_app (goodIn_of _ (by decide +kernel)) ggX5_pivot_X4_notZero
theorem dX5_pivot_0 : decode cX5_pivot 0 = .ok (.aload_n 0, 1) := by decide +kernel
theorem dX5_pivot_1 : decode cX5_pivot 1 = .ok (.iload_n 1, 1) := by decide +kernel
theorem dX5_pivot_2 : decode cX5_pivot 2 = .ok (.invokevirtual 58, 3) := by decide +kernel
theorem dX5_pivot_5 : decode cX5_pivot 5 = .ok (.ifCond .eq 6, 3) := by decide +kernel
theorem dX5_pivot_8 : decode cX5_pivot 8 = .ok (.bipush (-2), 2) := by decide +kernel
theorem dX5_pivot_10 : decode cX5_pivot 10 = .ok (.ireturn, 1) := by decide +kernel
theorem dX5_pivot_11 : decode cX5_pivot 11 = .ok (.aload_n 0, 1) := by decide +kernel
theorem dX5_pivot_12 : decode cX5_pivot 12 = .ok (.iload_n 1, 1) := by decide +kernel
theorem dX5_pivot_13 : decode cX5_pivot 13 = .ok (.invokevirtual 81, 3) := by decide +kernel
theorem dX5_pivot_16 : decode cX5_pivot 16 = .ok (.ifCond .ne 6, 3) := by decide +kernel
theorem dX5_pivot_19 : decode cX5_pivot 19 = .ok (.bipush (-3), 2) := by decide +kernel
theorem dX5_pivot_21 : decode cX5_pivot 21 = .ok (.ireturn, 1) := by decide +kernel
theorem dX5_pivot_22 : decode cX5_pivot 22 = .ok (.aload_n 0, 1) := by decide +kernel
theorem dX5_pivot_23 : decode cX5_pivot 23 = .ok (.getfield 12, 3) := by decide +kernel
theorem dX5_pivot_26 : decode cX5_pivot 26 = .ok (.getfield 171, 3) := by decide +kernel
theorem dX5_pivot_29 : decode cX5_pivot 29 = .ok (.iload_n 1, 1) := by decide +kernel
theorem dX5_pivot_30 : decode cX5_pivot 30 = .ok (.invokevirtual 182, 3) := by decide +kernel
theorem dX5_pivot_33 : decode cX5_pivot 33 = .ok (.pop, 1) := by decide +kernel
theorem dX5_pivot_34 : decode cX5_pivot 34 = .ok (.aload_n 0, 1) := by decide +kernel
theorem dX5_pivot_35 : decode cX5_pivot 35 = .ok (.getfield 12, 3) := by decide +kernel
theorem dX5_pivot_38 : decode cX5_pivot 38 = .ok (.getfield 171, 3) := by decide +kernel
theorem dX5_pivot_41 : decode cX5_pivot 41 = .ok (.invokevirtual 185, 3) := by decide +kernel
theorem dX5_pivot_44 : decode cX5_pivot 44 = .ok (.ireturn, 1) := by decide +kernel
set_option maxRecDepth 20000 in
theorem ggX5_jumps_X5_noFamily : GoodIn wsX5_jumps wsX5_noFamily := goodIn_r _ [8] (by decide +kernel) (by decide +kernel)
set_option maxRecDepth 20000 in
theorem gX5_jumps_X5_noFamily : GoodIn wsX5_jumps (va_wsS RX5 54 yX5_noFamily wsX5_noFamily) := goodIn_app (goodIn_of _ (by decide +kernel)) ggX5_jumps_X5_noFamily
set_option maxRecDepth 20000 in
theorem ggX5_jumps_X1_isMissing : GoodIn wsX5_jumps wsX1_isMissing := goodIn_r _ [13, 14, 92, 93, 94, 95, 96] (by decide +kernel) (by decide +kernel)
set_option maxRecDepth 20000 in
theorem gX5_jumps_X1_isMissing : GoodIn wsX5_jumps (wsV RX5 85 RX1 yX1_isMissing wsX1_isMissing) := goodIn_app (goodIn_of _ (by decide +kernel)) ggX5_jumps_X1_isMissing
set_option maxRecDepth 20000 in
theorem ggX5_jumps_X3_fill : GoodIn wsX5_jumps wsX3_fill := goodIn_r _ [19, 20, 21, 22, 23, 24, 25, 26, 27, 28, 29, 30, 31, 32, 18, 33, 97, 98, 99] (by decide +kernel) (by decide +kernel)
set_option maxRecDepth 20000 in
theorem gX5_jumps_X3_fill : GoodIn wsX5_jumps (wsV RX5 189 RX3 yX3_fill wsX3_fill) := goodIn_app (goodIn_of _ (by decide +kernel)) ggX5_jumps_X3_fill
set_option maxRecDepth 20000 in
theorem ggX5_jumps_X3_howMany : GoodIn wsX5_jumps wsX3_howMany := goodIn_r _ [37, 21, 38, 39, 40, 41, 42, 43, 44, 97, 98, 99] (by decide +kernel) (by decide +kernel)
set_option maxRecDepth 20000 in
theorem gX5_jumps_X3_howMany : GoodIn wsX5_jumps (wsV RX5 193 RX3 yX3_howMany wsX3_howMany) := goodIn_app (goodIn_of _ (by decide +kernel)) ggX5_jumps_X3_howMany
set_option maxRecDepth 20000 in
theorem ggX5_jumps_X3_areSprung : GoodIn wsX5_jumps wsX3_areSprung := goodIn_r _ [48, 20, 21, 49, 50, 51, 18, 52, 26, 27, 28, 29, 53, 54, 55, 56, 57, 58, 59, 60, 61, 62, 63, 64, 65, 66, 67, 68, 69, 70, 71, 72, 97, 98, 99] (by decide +kernel) (by decide +kernel)
set_option maxRecDepth 20000 in
theorem gX5_jumps_X3_areSprung : GoodIn wsX5_jumps (wsV RX5 196 RX3 yX3_areSprung wsX3_areSprung) := goodIn_app (goodIn_of _ (by decide +kernel)) ggX5_jumps_X3_areSprung
set_option maxRecDepth 20000 in
theorem ggX5_jumps_X3_least : GoodIn wsX5_jumps wsX3_least := goodIn_r _ [76, 20, 77, 49, 50, 51, 18, 52, 21, 26, 27, 28, 29, 97, 98, 99] (by decide +kernel) (by decide +kernel)
set_option maxRecDepth 20000 in
theorem gX5_jumps_X3_least : GoodIn wsX5_jumps (wsV RX5 200 RX3 yX3_least wsX3_least) := goodIn_app (goodIn_of _ (by decide +kernel)) ggX5_jumps_X3_least
set_option maxRecDepth 20000 in
theorem ggX5_jumps_X3_greatest : GoodIn wsX5_jumps wsX3_greatest := goodIn_r _ [81, 20, 77, 82, 83, 84, 85, 49, 50, 51, 18, 52, 21, 26, 27, 28, 29, 97, 98, 99] (by decide +kernel) (by decide +kernel)
set_option maxRecDepth 20000 in
theorem gX5_jumps_X3_greatest : GoodIn wsX5_jumps (wsV RX5 203 RX3 yX3_greatest wsX3_greatest) := goodIn_app (goodIn_of _ (by decide +kernel)) ggX5_jumps_X3_greatest
theorem dX5_jumps_0 : decode cX5_jumps 0 = .ok (.iload_n 1, 1) := by decide +kernel
theorem dX5_jumps_1 : decode cX5_jumps 1 = .ok (.invokestatic 54, 3) := by decide +kernel
theorem dX5_jumps_4 : decode cX5_jumps 4 = .ok (.ifCond .ne 19, 3) := by decide +kernel
theorem dX5_jumps_7 : decode cX5_jumps 7 = .ok (.iload_n 2, 1) := by decide +kernel
theorem dX5_jumps_8 : decode cX5_jumps 8 = .ok (.invokestatic 54, 3) := by decide +kernel
theorem dX5_jumps_11 : decode cX5_jumps 11 = .ok (.ifCond .ne 12, 3) := by decide +kernel
theorem dX5_jumps_14 : decode cX5_jumps 14 = .ok (.iload_n 3, 1) := by decide +kernel
theorem dX5_jumps_15 : decode cX5_jumps 15 = .ok (.ifCond .lt 8, 3) := by decide +kernel
theorem dX5_jumps_18 : decode cX5_jumps 18 = .ok (.iload_n 3, 1) := by decide +kernel
theorem dX5_jumps_19 : decode cX5_jumps 19 = .ok (.iconst 3, 1) := by decide +kernel
theorem dX5_jumps_20 : decode cX5_jumps 20 = .ok (.if_icmp .le 6, 3) := by decide +kernel
theorem dX5_jumps_23 : decode cX5_jumps 23 = .ok (.bipush (-2), 2) := by decide +kernel
theorem dX5_jumps_25 : decode cX5_jumps 25 = .ok (.ireturn, 1) := by decide +kernel
theorem dX5_jumps_26 : decode cX5_jumps 26 = .ok (.aload_n 0, 1) := by decide +kernel
theorem dX5_jumps_27 : decode cX5_jumps 27 = .ok (.getfield 12, 3) := by decide +kernel
theorem dX5_jumps_30 : decode cX5_jumps 30 = .ok (.iload_n 1, 1) := by decide +kernel
theorem dX5_jumps_31 : decode cX5_jumps 31 = .ok (.invokevirtual 85, 3) := by decide +kernel
theorem dX5_jumps_34 : decode cX5_jumps 34 = .ok (.ifCond .ne 14, 3) := by decide +kernel
theorem dX5_jumps_37 : decode cX5_jumps 37 = .ok (.aload_n 0, 1) := by decide +kernel
theorem dX5_jumps_38 : decode cX5_jumps 38 = .ok (.getfield 12, 3) := by decide +kernel
theorem dX5_jumps_41 : decode cX5_jumps 41 = .ok (.iload_n 2, 1) := by decide +kernel
theorem dX5_jumps_42 : decode cX5_jumps 42 = .ok (.invokevirtual 85, 3) := by decide +kernel
theorem dX5_jumps_45 : decode cX5_jumps 45 = .ok (.ifCond .eq 6, 3) := by decide +kernel
theorem dX5_jumps_48 : decode cX5_jumps 48 = .ok (.bipush (-11), 2) := by decide +kernel
theorem dX5_jumps_50 : decode cX5_jumps 50 = .ok (.ireturn, 1) := by decide +kernel
theorem dX5_jumps_51 : decode cX5_jumps 51 = .ok (.aload_n 0, 1) := by decide +kernel
theorem dX5_jumps_52 : decode cX5_jumps 52 = .ok (.getfield 35, 3) := by decide +kernel
theorem dX5_jumps_55 : decode cX5_jumps 55 = .ok (.aload_n 0, 1) := by decide +kernel
theorem dX5_jumps_56 : decode cX5_jumps 56 = .ok (.getfield 12, 3) := by decide +kernel
theorem dX5_jumps_59 : decode cX5_jumps 59 = .ok (.getfield 61, 3) := by decide +kernel
theorem dX5_jumps_62 : decode cX5_jumps 62 = .ok (.iload_n 1, 1) := by decide +kernel
theorem dX5_jumps_63 : decode cX5_jumps 63 = .ok (.laload, 1) := by decide +kernel
theorem dX5_jumps_64 : decode cX5_jumps 64 = .ok (.aload_n 0, 1) := by decide +kernel
theorem dX5_jumps_65 : decode cX5_jumps 65 = .ok (.getfield 12, 3) := by decide +kernel
theorem dX5_jumps_68 : decode cX5_jumps 68 = .ok (.getfield 61, 3) := by decide +kernel
theorem dX5_jumps_71 : decode cX5_jumps 71 = .ok (.iload_n 2, 1) := by decide +kernel
theorem dX5_jumps_72 : decode cX5_jumps 72 = .ok (.laload, 1) := by decide +kernel
theorem dX5_jumps_73 : decode cX5_jumps 73 = .ok (.aload_n 0, 1) := by decide +kernel
theorem dX5_jumps_74 : decode cX5_jumps 74 = .ok (.getfield 12, 3) := by decide +kernel
theorem dX5_jumps_77 : decode cX5_jumps 77 = .ok (.getfield 46, 3) := by decide +kernel
theorem dX5_jumps_80 : decode cX5_jumps 80 = .ok (.invokevirtual 189, 3) := by decide +kernel
theorem dX5_jumps_83 : decode cX5_jumps 83 = .ok (.iload_n 3, 1) := by decide +kernel
theorem dX5_jumps_84 : decode cX5_jumps 84 = .ok (.tableswitch 60 0 2 #[28, 36, 52], 28) := by decide +kernel
theorem dX5_jumps_112 : decode cX5_jumps 112 = .ok (.aload_n 0, 1) := by decide +kernel
theorem dX5_jumps_113 : decode cX5_jumps 113 = .ok (.getfield 35, 3) := by decide +kernel
theorem dX5_jumps_116 : decode cX5_jumps 116 = .ok (.invokevirtual 193, 3) := by decide +kernel
theorem dX5_jumps_119 : decode cX5_jumps 119 = .ok (.ireturn, 1) := by decide +kernel
theorem dX5_jumps_120 : decode cX5_jumps 120 = .ok (.aload_n 0, 1) := by decide +kernel
theorem dX5_jumps_121 : decode cX5_jumps 121 = .ok (.getfield 35, 3) := by decide +kernel
theorem dX5_jumps_124 : decode cX5_jumps 124 = .ok (.invokevirtual 196, 3) := by decide +kernel
theorem dX5_jumps_127 : decode cX5_jumps 127 = .ok (.ifCond .eq 7, 3) := by decide +kernel
theorem dX5_jumps_130 : decode cX5_jumps 130 = .ok (.iconst 1, 1) := by decide +kernel
theorem dX5_jumps_131 : decode cX5_jumps 131 = .ok (.goto 4, 3) := by decide +kernel
theorem dX5_jumps_134 : decode cX5_jumps 134 = .ok (.iconst 0, 1) := by decide +kernel
theorem dX5_jumps_135 : decode cX5_jumps 135 = .ok (.ireturn, 1) := by decide +kernel
theorem dX5_jumps_136 : decode cX5_jumps 136 = .ok (.aload_n 0, 1) := by decide +kernel
theorem dX5_jumps_137 : decode cX5_jumps 137 = .ok (.getfield 35, 3) := by decide +kernel
theorem dX5_jumps_140 : decode cX5_jumps 140 = .ok (.invokevirtual 200, 3) := by decide +kernel
theorem dX5_jumps_143 : decode cX5_jumps 143 = .ok (.ireturn, 1) := by decide +kernel
theorem dX5_jumps_144 : decode cX5_jumps 144 = .ok (.aload_n 0, 1) := by decide +kernel
theorem dX5_jumps_145 : decode cX5_jumps 145 = .ok (.getfield 35, 3) := by decide +kernel
theorem dX5_jumps_148 : decode cX5_jumps 148 = .ok (.invokevirtual 203, 3) := by decide +kernel
theorem dX5_jumps_151 : decode cX5_jumps 151 = .ok (.ireturn, 1) := by decide +kernel
set_option maxRecDepth 20000 in
theorem ggX5_jump_X5_noFamily : GoodIn wsX5_jump wsX5_noFamily := goodIn_r _ [8] (by decide +kernel) (by decide +kernel)
set_option maxRecDepth 20000 in
theorem gX5_jump_X5_noFamily : GoodIn wsX5_jump (va_wsS RX5 54 yX5_noFamily wsX5_noFamily) := goodIn_app (goodIn_of _ (by decide +kernel)) ggX5_jump_X5_noFamily
set_option maxRecDepth 20000 in
theorem ggX5_jump_X3_rowsOver : GoodIn wsX5_jump wsX3_rowsOver := goodIn_r _ [12] (by decide +kernel) (by decide +kernel)
set_option maxRecDepth 20000 in
theorem gX5_jump_X3_rowsOver : GoodIn wsX5_jump (va_wsS RX5 206 yX3_rowsOver wsX3_rowsOver) := goodIn_app (goodIn_of _ (by decide +kernel)) ggX5_jump_X3_rowsOver
set_option maxRecDepth 20000 in
theorem ggX5_jump_X1_isMissing : GoodIn wsX5_jump wsX1_isMissing := goodIn_r _ [17, 18, 51, 52, 53, 54, 55] (by decide +kernel) (by decide +kernel)
set_option maxRecDepth 20000 in
theorem gX5_jump_X1_isMissing : GoodIn wsX5_jump (wsV RX5 85 RX1 yX1_isMissing wsX1_isMissing) := goodIn_app (goodIn_of _ (by decide +kernel)) ggX5_jump_X1_isMissing
set_option maxRecDepth 20000 in
theorem ggX5_jump_X3_fill : GoodIn wsX5_jump wsX3_fill := goodIn_r _ [22, 23, 24, 25, 26, 27, 28, 29, 30, 31, 32, 33, 34, 35, 11, 36, 56, 57, 58] (by decide +kernel) (by decide +kernel)
set_option maxRecDepth 20000 in
theorem gX5_jump_X3_fill : GoodIn wsX5_jump (wsV RX5 189 RX3 yX3_fill wsX3_fill) := goodIn_app (goodIn_of _ (by decide +kernel)) ggX5_jump_X3_fill
set_option maxRecDepth 20000 in
theorem ggX5_jump_X3_holdsNumber : GoodIn wsX5_jump wsX3_holdsNumber := goodIn_r _ [40, 23, 41, 42, 43, 11, 44, 24, 29, 30, 31, 32, 56, 57, 58] (by decide +kernel) (by decide +kernel)
set_option maxRecDepth 20000 in
theorem gX5_jump_X3_holdsNumber : GoodIn wsX5_jump (wsV RX5 209 RX3 yX3_holdsNumber wsX3_holdsNumber) := goodIn_app (goodIn_of _ (by decide +kernel)) ggX5_jump_X3_holdsNumber
theorem dX5_jump_0 : decode cX5_jump 0 = .ok (.iload_n 1, 1) := by decide +kernel
theorem dX5_jump_1 : decode cX5_jump 1 = .ok (.invokestatic 54, 3) := by decide +kernel
theorem dX5_jump_4 : decode cX5_jump 4 = .ok (.ifCond .ne 28, 3) := by decide +kernel
theorem dX5_jump_7 : decode cX5_jump 7 = .ok (.iload_n 2, 1) := by decide +kernel
theorem dX5_jump_8 : decode cX5_jump 8 = .ok (.invokestatic 54, 3) := by decide +kernel
theorem dX5_jump_11 : decode cX5_jump 11 = .ok (.ifCond .ne 21, 3) := by decide +kernel
theorem dX5_jump_14 : decode cX5_jump 14 = .ok (.iload_n 3, 1) := by decide +kernel
theorem dX5_jump_15 : decode cX5_jump 15 = .ok (.ifCond .lt 17, 3) := by decide +kernel
theorem dX5_jump_18 : decode cX5_jump 18 = .ok (.iload_n 3, 1) := by decide +kernel
theorem dX5_jump_19 : decode cX5_jump 19 = .ok (.aload_n 0, 1) := by decide +kernel
theorem dX5_jump_20 : decode cX5_jump 20 = .ok (.getfield 12, 3) := by decide +kernel
theorem dX5_jump_23 : decode cX5_jump 23 = .ok (.getfield 46, 3) := by decide +kernel
theorem dX5_jump_26 : decode cX5_jump 26 = .ok (.invokestatic 206, 3) := by decide +kernel
theorem dX5_jump_29 : decode cX5_jump 29 = .ok (.if_icmp .lt 6, 3) := by decide +kernel
theorem dX5_jump_32 : decode cX5_jump 32 = .ok (.bipush (-2), 2) := by decide +kernel
theorem dX5_jump_34 : decode cX5_jump 34 = .ok (.ireturn, 1) := by decide +kernel
theorem dX5_jump_35 : decode cX5_jump 35 = .ok (.aload_n 0, 1) := by decide +kernel
theorem dX5_jump_36 : decode cX5_jump 36 = .ok (.getfield 12, 3) := by decide +kernel
theorem dX5_jump_39 : decode cX5_jump 39 = .ok (.iload_n 1, 1) := by decide +kernel
theorem dX5_jump_40 : decode cX5_jump 40 = .ok (.invokevirtual 85, 3) := by decide +kernel
theorem dX5_jump_43 : decode cX5_jump 43 = .ok (.ifCond .ne 14, 3) := by decide +kernel
theorem dX5_jump_46 : decode cX5_jump 46 = .ok (.aload_n 0, 1) := by decide +kernel
theorem dX5_jump_47 : decode cX5_jump 47 = .ok (.getfield 12, 3) := by decide +kernel
theorem dX5_jump_50 : decode cX5_jump 50 = .ok (.iload_n 2, 1) := by decide +kernel
theorem dX5_jump_51 : decode cX5_jump 51 = .ok (.invokevirtual 85, 3) := by decide +kernel
theorem dX5_jump_54 : decode cX5_jump 54 = .ok (.ifCond .eq 6, 3) := by decide +kernel
theorem dX5_jump_57 : decode cX5_jump 57 = .ok (.bipush (-11), 2) := by decide +kernel
theorem dX5_jump_59 : decode cX5_jump 59 = .ok (.ireturn, 1) := by decide +kernel
theorem dX5_jump_60 : decode cX5_jump 60 = .ok (.aload_n 0, 1) := by decide +kernel
theorem dX5_jump_61 : decode cX5_jump 61 = .ok (.getfield 35, 3) := by decide +kernel
theorem dX5_jump_64 : decode cX5_jump 64 = .ok (.aload_n 0, 1) := by decide +kernel
theorem dX5_jump_65 : decode cX5_jump 65 = .ok (.getfield 12, 3) := by decide +kernel
theorem dX5_jump_68 : decode cX5_jump 68 = .ok (.getfield 61, 3) := by decide +kernel
theorem dX5_jump_71 : decode cX5_jump 71 = .ok (.iload_n 1, 1) := by decide +kernel
theorem dX5_jump_72 : decode cX5_jump 72 = .ok (.laload, 1) := by decide +kernel
theorem dX5_jump_73 : decode cX5_jump 73 = .ok (.aload_n 0, 1) := by decide +kernel
theorem dX5_jump_74 : decode cX5_jump 74 = .ok (.getfield 12, 3) := by decide +kernel
theorem dX5_jump_77 : decode cX5_jump 77 = .ok (.getfield 61, 3) := by decide +kernel
theorem dX5_jump_80 : decode cX5_jump 80 = .ok (.iload_n 2, 1) := by decide +kernel
theorem dX5_jump_81 : decode cX5_jump 81 = .ok (.laload, 1) := by decide +kernel
theorem dX5_jump_82 : decode cX5_jump 82 = .ok (.aload_n 0, 1) := by decide +kernel
theorem dX5_jump_83 : decode cX5_jump 83 = .ok (.getfield 12, 3) := by decide +kernel
theorem dX5_jump_86 : decode cX5_jump 86 = .ok (.getfield 46, 3) := by decide +kernel
theorem dX5_jump_89 : decode cX5_jump 89 = .ok (.invokevirtual 189, 3) := by decide +kernel
theorem dX5_jump_92 : decode cX5_jump 92 = .ok (.aload_n 0, 1) := by decide +kernel
theorem dX5_jump_93 : decode cX5_jump 93 = .ok (.getfield 35, 3) := by decide +kernel
theorem dX5_jump_96 : decode cX5_jump 96 = .ok (.iload_n 3, 1) := by decide +kernel
theorem dX5_jump_97 : decode cX5_jump 97 = .ok (.invokevirtual 209, 3) := by decide +kernel
theorem dX5_jump_100 : decode cX5_jump 100 = .ok (.ifCond .eq 7, 3) := by decide +kernel
theorem dX5_jump_103 : decode cX5_jump 103 = .ok (.iconst 1, 1) := by decide +kernel
theorem dX5_jump_104 : decode cX5_jump 104 = .ok (.goto 4, 3) := by decide +kernel
theorem dX5_jump_107 : decode cX5_jump 107 = .ok (.iconst 0, 1) := by decide +kernel
theorem dX5_jump_108 : decode cX5_jump 108 = .ok (.ireturn, 1) := by decide +kernel
set_option maxRecDepth 20000 in
theorem ggX5_same_X5_noFamily : GoodIn wsX5_same wsX5_noFamily := goodIn_r _ [7] (by decide +kernel) (by decide +kernel)
set_option maxRecDepth 20000 in
theorem gX5_same_X5_noFamily : GoodIn wsX5_same (va_wsS RX5 54 yX5_noFamily wsX5_noFamily) := goodIn_app (goodIn_of _ (by decide +kernel)) ggX5_same_X5_noFamily
set_option maxRecDepth 20000 in
theorem ggX5_same_X1_isMissing : GoodIn wsX5_same wsX1_isMissing := goodIn_r _ [12, 13, 37, 38, 39, 40, 41] (by decide +kernel) (by decide +kernel)
set_option maxRecDepth 20000 in
theorem gX5_same_X1_isMissing : GoodIn wsX5_same (wsV RX5 85 RX1 yX1_isMissing wsX1_isMissing) := goodIn_app (goodIn_of _ (by decide +kernel)) ggX5_same_X1_isMissing
set_option maxRecDepth 20000 in
theorem ggX5_same_X0_leastTwist : GoodIn wsX5_same wsX0_leastTwist := goodIn_r _ [17, 18, 19, 16, 20, 21, 22, 23, 24] (by decide +kernel) (by decide +kernel)
set_option maxRecDepth 20000 in
theorem gX5_same_X0_leastTwist : GoodIn wsX5_same (va_wsS RX5 212 yX0_leastTwist wsX0_leastTwist) := goodIn_app (goodIn_of _ (by decide +kernel)) ggX5_same_X0_leastTwist
set_option maxRecDepth 20000 in
theorem ggX5_same_X0_areAlike : GoodIn wsX5_same wsX0_areAlike := goodIn_r _ [26, 27, 28, 16, 29, 24, 30, 25] (by decide +kernel) (by decide +kernel)
set_option maxRecDepth 20000 in
theorem gX5_same_X0_areAlike_n216 : GoodIn wsX5_same (wsX0_areAlike) := ggX5_same_X0_areAlike
theorem dX5_same_0 : decode cX5_same 0 = .ok (.iload_n 1, 1) := by decide +kernel
theorem dX5_same_1 : decode cX5_same 1 = .ok (.invokestatic 54, 3) := by decide +kernel
theorem dX5_same_4 : decode cX5_same 4 = .ok (.ifCond .ne 19, 3) := by decide +kernel
theorem dX5_same_7 : decode cX5_same 7 = .ok (.iload_n 2, 1) := by decide +kernel
theorem dX5_same_8 : decode cX5_same 8 = .ok (.invokestatic 54, 3) := by decide +kernel
theorem dX5_same_11 : decode cX5_same 11 = .ok (.ifCond .ne 12, 3) := by decide +kernel
theorem dX5_same_14 : decode cX5_same 14 = .ok (.iload_n 3, 1) := by decide +kernel
theorem dX5_same_15 : decode cX5_same 15 = .ok (.ifCond .lt 8, 3) := by decide +kernel
theorem dX5_same_18 : decode cX5_same 18 = .ok (.iload_n 3, 1) := by decide +kernel
theorem dX5_same_19 : decode cX5_same 19 = .ok (.iconst 2, 1) := by decide +kernel
theorem dX5_same_20 : decode cX5_same 20 = .ok (.if_icmp .le 6, 3) := by decide +kernel
theorem dX5_same_23 : decode cX5_same 23 = .ok (.bipush (-2), 2) := by decide +kernel
theorem dX5_same_25 : decode cX5_same 25 = .ok (.ireturn, 1) := by decide +kernel
theorem dX5_same_26 : decode cX5_same 26 = .ok (.aload_n 0, 1) := by decide +kernel
theorem dX5_same_27 : decode cX5_same 27 = .ok (.getfield 12, 3) := by decide +kernel
theorem dX5_same_30 : decode cX5_same 30 = .ok (.iload_n 1, 1) := by decide +kernel
theorem dX5_same_31 : decode cX5_same 31 = .ok (.invokevirtual 85, 3) := by decide +kernel
theorem dX5_same_34 : decode cX5_same 34 = .ok (.ifCond .ne 14, 3) := by decide +kernel
theorem dX5_same_37 : decode cX5_same 37 = .ok (.aload_n 0, 1) := by decide +kernel
theorem dX5_same_38 : decode cX5_same 38 = .ok (.getfield 12, 3) := by decide +kernel
theorem dX5_same_41 : decode cX5_same 41 = .ok (.iload_n 2, 1) := by decide +kernel
theorem dX5_same_42 : decode cX5_same 42 = .ok (.invokevirtual 85, 3) := by decide +kernel
theorem dX5_same_45 : decode cX5_same 45 = .ok (.ifCond .eq 6, 3) := by decide +kernel
theorem dX5_same_48 : decode cX5_same 48 = .ok (.bipush (-11), 2) := by decide +kernel
theorem dX5_same_50 : decode cX5_same 50 = .ok (.ireturn, 1) := by decide +kernel
theorem dX5_same_51 : decode cX5_same 51 = .ok (.aload_n 0, 1) := by decide +kernel
theorem dX5_same_52 : decode cX5_same 52 = .ok (.getfield 12, 3) := by decide +kernel
theorem dX5_same_55 : decode cX5_same 55 = .ok (.getfield 61, 3) := by decide +kernel
theorem dX5_same_58 : decode cX5_same 58 = .ok (.iload_n 1, 1) := by decide +kernel
theorem dX5_same_59 : decode cX5_same 59 = .ok (.laload, 1) := by decide +kernel
theorem dX5_same_60 : decode cX5_same 60 = .ok (.lstore 4, 2) := by decide +kernel
theorem dX5_same_62 : decode cX5_same 62 = .ok (.aload_n 0, 1) := by decide +kernel
theorem dX5_same_63 : decode cX5_same 63 = .ok (.getfield 12, 3) := by decide +kernel
theorem dX5_same_66 : decode cX5_same 66 = .ok (.getfield 61, 3) := by decide +kernel
theorem dX5_same_69 : decode cX5_same 69 = .ok (.iload_n 2, 1) := by decide +kernel
theorem dX5_same_70 : decode cX5_same 70 = .ok (.laload, 1) := by decide +kernel
theorem dX5_same_71 : decode cX5_same 71 = .ok (.lstore 6, 2) := by decide +kernel
theorem dX5_same_73 : decode cX5_same 73 = .ok (.iload_n 3, 1) := by decide +kernel
theorem dX5_same_74 : decode cX5_same 74 = .ok (.lookupswitch 55 #[(0, 26), (1, 40)], 26) := by decide +kernel
theorem dX5_same_100 : decode cX5_same 100 = .ok (.lload 4, 2) := by decide +kernel
theorem dX5_same_102 : decode cX5_same 102 = .ok (.lload 6, 2) := by decide +kernel
theorem dX5_same_104 : decode cX5_same 104 = .ok (.lcmp, 1) := by decide +kernel
theorem dX5_same_105 : decode cX5_same 105 = .ok (.ifCond .ne 7, 3) := by decide +kernel
theorem dX5_same_108 : decode cX5_same 108 = .ok (.iconst 1, 1) := by decide +kernel
theorem dX5_same_109 : decode cX5_same 109 = .ok (.goto 4, 3) := by decide +kernel
theorem dX5_same_112 : decode cX5_same 112 = .ok (.iconst 0, 1) := by decide +kernel
theorem dX5_same_113 : decode cX5_same 113 = .ok (.ireturn, 1) := by decide +kernel
theorem dX5_same_114 : decode cX5_same 114 = .ok (.lload 4, 2) := by decide +kernel
theorem dX5_same_116 : decode cX5_same 116 = .ok (.lload 6, 2) := by decide +kernel
theorem dX5_same_118 : decode cX5_same 118 = .ok (.aload_n 0, 1) := by decide +kernel
theorem dX5_same_119 : decode cX5_same 119 = .ok (.getfield 12, 3) := by decide +kernel
theorem dX5_same_122 : decode cX5_same 122 = .ok (.getfield 46, 3) := by decide +kernel
theorem dX5_same_125 : decode cX5_same 125 = .ok (.invokestatic 212, 3) := by decide +kernel
theorem dX5_same_128 : decode cX5_same 128 = .ok (.ireturn, 1) := by decide +kernel
theorem dX5_same_129 : decode cX5_same 129 = .ok (.lload 4, 2) := by decide +kernel
theorem dX5_same_131 : decode cX5_same 131 = .ok (.lload 6, 2) := by decide +kernel
theorem dX5_same_133 : decode cX5_same 133 = .ok (.iconst 0, 1) := by decide +kernel
theorem dX5_same_134 : decode cX5_same 134 = .ok (.aload_n 0, 1) := by decide +kernel
theorem dX5_same_135 : decode cX5_same 135 = .ok (.getfield 12, 3) := by decide +kernel
theorem dX5_same_138 : decode cX5_same 138 = .ok (.getfield 46, 3) := by decide +kernel
theorem dX5_same_141 : decode cX5_same 141 = .ok (.invokestatic 216, 3) := by decide +kernel
theorem dX5_same_144 : decode cX5_same 144 = .ok (.ifCond .eq 7, 3) := by decide +kernel
theorem dX5_same_147 : decode cX5_same 147 = .ok (.iconst 1, 1) := by decide +kernel
theorem dX5_same_148 : decode cX5_same 148 = .ok (.goto 4, 3) := by decide +kernel
theorem dX5_same_151 : decode cX5_same 151 = .ok (.iconst 0, 1) := by decide +kernel
theorem dX5_same_152 : decode cX5_same 152 = .ok (.ireturn, 1) := by decide +kernel
set_option maxRecDepth 20000 in
theorem ggX5_row_X5_noRow : GoodIn wsX5_row wsX5_noRow := goodIn_r _ [5] (by decide +kernel) (by decide +kernel)
set_option maxRecDepth 20000 in
theorem gX5_row_X5_noRow : GoodIn wsX5_row (va_wsS RX5 220 yX5_noRow wsX5_noRow) := goodIn_app (goodIn_of _ (by decide +kernel)) ggX5_row_X5_noRow
set_option maxRecDepth 20000 in
theorem ggX5_row_X2_begin : GoodIn wsX5_row wsX2_begin := goodIn_r _ [10, 11, 12, 13, 14, 15, 16, 17, 24, 25, 26] (by decide +kernel) (by decide +kernel)
set_option maxRecDepth 20000 in
theorem gX5_row_X2_begin : GoodIn wsX5_row (wsV RX5 223 RX2 yX2_begin wsX2_begin) := goodIn_app (goodIn_of _ (by decide +kernel)) ggX5_row_X2_begin
theorem dX5_row_0 : decode cX5_row 0 = .ok (.iload_n 1, 1) := by decide +kernel
theorem dX5_row_1 : decode cX5_row 1 = .ok (.invokestatic 220, 3) := by decide +kernel
theorem dX5_row_4 : decode cX5_row 4 = .ok (.ifCond .ne 13, 3) := by decide +kernel
theorem dX5_row_7 : decode cX5_row 7 = .ok (.iload_n 2, 1) := by decide +kernel
theorem dX5_row_8 : decode cX5_row 8 = .ok (.iconst (-1), 1) := by decide +kernel
theorem dX5_row_9 : decode cX5_row 9 = .ok (.if_icmp .lt 8, 3) := by decide +kernel
theorem dX5_row_12 : decode cX5_row 12 = .ok (.iload_n 2, 1) := by decide +kernel
theorem dX5_row_13 : decode cX5_row 13 = .ok (.iconst 4, 1) := by decide +kernel
theorem dX5_row_14 : decode cX5_row 14 = .ok (.if_icmp .lt 6, 3) := by decide +kernel
theorem dX5_row_17 : decode cX5_row 17 = .ok (.bipush (-2), 2) := by decide +kernel
theorem dX5_row_19 : decode cX5_row 19 = .ok (.ireturn, 1) := by decide +kernel
theorem dX5_row_20 : decode cX5_row 20 = .ok (.iload_n 2, 1) := by decide +kernel
theorem dX5_row_21 : decode cX5_row 21 = .ok (.iconst (-1), 1) := by decide +kernel
theorem dX5_row_22 : decode cX5_row 22 = .ok (.if_icmp .ne 16, 3) := by decide +kernel
theorem dX5_row_25 : decode cX5_row 25 = .ok (.aload_n 0, 1) := by decide +kernel
theorem dX5_row_26 : decode cX5_row 26 = .ok (.getfield 41, 3) := by decide +kernel
theorem dX5_row_29 : decode cX5_row 29 = .ok (.iload_n 1, 1) := by decide +kernel
theorem dX5_row_30 : decode cX5_row 30 = .ok (.aaload, 1) := by decide +kernel
theorem dX5_row_31 : decode cX5_row 31 = .ok (.iconst (-1), 1) := by decide +kernel
theorem dX5_row_32 : decode cX5_row 32 = .ok (.iconst 0, 1) := by decide +kernel
theorem dX5_row_33 : decode cX5_row 33 = .ok (.invokevirtual 223, 3) := by decide +kernel
theorem dX5_row_36 : decode cX5_row 36 = .ok (.iconst 1, 1) := by decide +kernel
theorem dX5_row_37 : decode cX5_row 37 = .ok (.ireturn, 1) := by decide +kernel
theorem dX5_row_38 : decode cX5_row 38 = .ok (.iload_n 3, 1) := by decide +kernel
theorem dX5_row_39 : decode cX5_row 39 = .ok (.bipush 80, 2) := by decide +kernel
theorem dX5_row_41 : decode cX5_row 41 = .ok (.if_icmp .le 6, 3) := by decide +kernel
theorem dX5_row_44 : decode cX5_row 44 = .ok (.bipush (-2), 2) := by decide +kernel
theorem dX5_row_46 : decode cX5_row 46 = .ok (.ireturn, 1) := by decide +kernel
theorem dX5_row_47 : decode cX5_row 47 = .ok (.iload_n 3, 1) := by decide +kernel
theorem dX5_row_48 : decode cX5_row 48 = .ok (.ifCond .ge 6, 3) := by decide +kernel
theorem dX5_row_51 : decode cX5_row 51 = .ok (.bipush (-14), 2) := by decide +kernel
theorem dX5_row_53 : decode cX5_row 53 = .ok (.ireturn, 1) := by decide +kernel
theorem dX5_row_54 : decode cX5_row 54 = .ok (.aload_n 0, 1) := by decide +kernel
theorem dX5_row_55 : decode cX5_row 55 = .ok (.getfield 41, 3) := by decide +kernel
theorem dX5_row_58 : decode cX5_row 58 = .ok (.iload_n 1, 1) := by decide +kernel
theorem dX5_row_59 : decode cX5_row 59 = .ok (.aaload, 1) := by decide +kernel
theorem dX5_row_60 : decode cX5_row 60 = .ok (.iload_n 2, 1) := by decide +kernel
theorem dX5_row_61 : decode cX5_row 61 = .ok (.iload_n 3, 1) := by decide +kernel
theorem dX5_row_62 : decode cX5_row 62 = .ok (.invokevirtual 223, 3) := by decide +kernel
theorem dX5_row_65 : decode cX5_row 65 = .ok (.iconst 1, 1) := by decide +kernel
theorem dX5_row_66 : decode cX5_row 66 = .ok (.ireturn, 1) := by decide +kernel
set_option maxRecDepth 20000 in
theorem ggX5_put_X5_noRow : GoodIn wsX5_put wsX5_noRow := goodIn_r _ [5] (by decide +kernel) (by decide +kernel)
set_option maxRecDepth 20000 in
theorem gX5_put_X5_noRow : GoodIn wsX5_put (va_wsS RX5 220 yX5_noRow wsX5_noRow) := goodIn_app (goodIn_of _ (by decide +kernel)) ggX5_put_X5_noRow
set_option maxRecDepth 20000 in
theorem ggX5_put_X2_isMissing : GoodIn wsX5_put wsX2_isMissing := goodIn_r _ [10, 11, 32, 33, 34] (by decide +kernel) (by decide +kernel)
set_option maxRecDepth 20000 in
theorem gX5_put_X2_isMissing : GoodIn wsX5_put (wsV RX5 226 RX2 yX2_isMissing wsX2_isMissing) := goodIn_app (goodIn_of _ (by decide +kernel)) ggX5_put_X2_isMissing
set_option maxRecDepth 20000 in
theorem ggX5_put_X2_hasPlace : GoodIn wsX5_put wsX2_hasPlace := goodIn_r _ [15, 16, 32, 33, 34] (by decide +kernel) (by decide +kernel)
set_option maxRecDepth 20000 in
theorem gX5_put_X2_hasPlace : GoodIn wsX5_put (wsV RX5 228 RX2 yX2_hasPlace wsX2_hasPlace) := goodIn_app (goodIn_of _ (by decide +kernel)) ggX5_put_X2_hasPlace
set_option maxRecDepth 20000 in
theorem ggX5_put_X2_write : GoodIn wsX5_put wsX2_write := goodIn_r _ [20, 21, 22, 23, 24, 9, 25, 11, 32, 33, 34] (by decide +kernel) (by decide +kernel)
set_option maxRecDepth 20000 in
theorem gX5_put_X2_write : GoodIn wsX5_put (wsV RX5 231 RX2 yX2_write wsX2_write) := goodIn_app (goodIn_of _ (by decide +kernel)) ggX5_put_X2_write
theorem dX5_put_0 : decode cX5_put 0 = .ok (.iload_n 1, 1) := by decide +kernel
theorem dX5_put_1 : decode cX5_put 1 = .ok (.invokestatic 220, 3) := by decide +kernel
theorem dX5_put_4 : decode cX5_put 4 = .ok (.ifCond .eq 6, 3) := by decide +kernel
theorem dX5_put_7 : decode cX5_put 7 = .ok (.bipush (-2), 2) := by decide +kernel
theorem dX5_put_9 : decode cX5_put 9 = .ok (.ireturn, 1) := by decide +kernel
theorem dX5_put_10 : decode cX5_put 10 = .ok (.aload_n 0, 1) := by decide +kernel
theorem dX5_put_11 : decode cX5_put 11 = .ok (.getfield 41, 3) := by decide +kernel
theorem dX5_put_14 : decode cX5_put 14 = .ok (.iload_n 1, 1) := by decide +kernel
theorem dX5_put_15 : decode cX5_put 15 = .ok (.aaload, 1) := by decide +kernel
theorem dX5_put_16 : decode cX5_put 16 = .ok (.invokevirtual 226, 3) := by decide +kernel
theorem dX5_put_19 : decode cX5_put 19 = .ok (.ifCond .eq 6, 3) := by decide +kernel
theorem dX5_put_22 : decode cX5_put 22 = .ok (.bipush (-11), 2) := by decide +kernel
theorem dX5_put_24 : decode cX5_put 24 = .ok (.ireturn, 1) := by decide +kernel
theorem dX5_put_25 : decode cX5_put 25 = .ok (.aload_n 0, 1) := by decide +kernel
theorem dX5_put_26 : decode cX5_put 26 = .ok (.getfield 41, 3) := by decide +kernel
theorem dX5_put_29 : decode cX5_put 29 = .ok (.iload_n 1, 1) := by decide +kernel
theorem dX5_put_30 : decode cX5_put 30 = .ok (.aaload, 1) := by decide +kernel
theorem dX5_put_31 : decode cX5_put 31 = .ok (.iload_n 2, 1) := by decide +kernel
theorem dX5_put_32 : decode cX5_put 32 = .ok (.invokevirtual 228, 3) := by decide +kernel
theorem dX5_put_35 : decode cX5_put 35 = .ok (.ifCond .ne 6, 3) := by decide +kernel
theorem dX5_put_38 : decode cX5_put 38 = .ok (.bipush (-12), 2) := by decide +kernel
theorem dX5_put_40 : decode cX5_put 40 = .ok (.ireturn, 1) := by decide +kernel
theorem dX5_put_41 : decode cX5_put 41 = .ok (.aload_n 0, 1) := by decide +kernel
theorem dX5_put_42 : decode cX5_put 42 = .ok (.getfield 41, 3) := by decide +kernel
theorem dX5_put_45 : decode cX5_put 45 = .ok (.iload_n 1, 1) := by decide +kernel
theorem dX5_put_46 : decode cX5_put 46 = .ok (.aaload, 1) := by decide +kernel
theorem dX5_put_47 : decode cX5_put 47 = .ok (.iload_n 2, 1) := by decide +kernel
theorem dX5_put_48 : decode cX5_put 48 = .ok (.lload_n 3, 1) := by decide +kernel
theorem dX5_put_49 : decode cX5_put 49 = .ok (.invokevirtual 231, 3) := by decide +kernel
theorem dX5_put_52 : decode cX5_put 52 = .ok (.iconst 1, 1) := by decide +kernel
theorem dX5_put_53 : decode cX5_put 53 = .ok (.ireturn, 1) := by decide +kernel
set_option maxRecDepth 20000 in
theorem ggX5_get_X5_noRow : GoodIn wsX5_get wsX5_noRow := goodIn_r _ [7] (by decide +kernel) (by decide +kernel)
set_option maxRecDepth 20000 in
theorem gX5_get_X5_noRow : GoodIn wsX5_get (va_wsS RX5 220 yX5_noRow wsX5_noRow) := goodIn_app (goodIn_of _ (by decide +kernel)) ggX5_get_X5_noRow
set_option maxRecDepth 20000 in
theorem ggX5_get_X2_isMissing : GoodIn wsX5_get wsX2_isMissing := goodIn_r _ [12, 13, 25, 26, 27] (by decide +kernel) (by decide +kernel)
set_option maxRecDepth 20000 in
theorem gX5_get_X2_isMissing : GoodIn wsX5_get (wsV RX5 226 RX2 yX2_isMissing wsX2_isMissing) := goodIn_app (goodIn_of _ (by decide +kernel)) ggX5_get_X2_isMissing
set_option maxRecDepth 20000 in
theorem ggX5_get_X2_hasPlace : GoodIn wsX5_get wsX2_hasPlace := goodIn_r _ [17, 18, 25, 26, 27] (by decide +kernel) (by decide +kernel)
set_option maxRecDepth 20000 in
theorem gX5_get_X2_hasPlace : GoodIn wsX5_get (wsV RX5 228 RX2 yX2_hasPlace wsX2_hasPlace) := goodIn_app (goodIn_of _ (by decide +kernel)) ggX5_get_X2_hasPlace
theorem dX5_get_0 : decode cX5_get 0 = .ok (.iload_n 1, 1) := by decide +kernel
theorem dX5_get_1 : decode cX5_get 1 = .ok (.invokestatic 220, 3) := by decide +kernel
theorem dX5_get_4 : decode cX5_get 4 = .ok (.ifCond .ne 28, 3) := by decide +kernel
theorem dX5_get_7 : decode cX5_get 7 = .ok (.aload_n 0, 1) := by decide +kernel
theorem dX5_get_8 : decode cX5_get 8 = .ok (.getfield 41, 3) := by decide +kernel
theorem dX5_get_11 : decode cX5_get 11 = .ok (.iload_n 1, 1) := by decide +kernel
theorem dX5_get_12 : decode cX5_get 12 = .ok (.aaload, 1) := by decide +kernel
theorem dX5_get_13 : decode cX5_get 13 = .ok (.invokevirtual 226, 3) := by decide +kernel
theorem dX5_get_16 : decode cX5_get 16 = .ok (.ifCond .ne 16, 3) := by decide +kernel
theorem dX5_get_19 : decode cX5_get 19 = .ok (.aload_n 0, 1) := by decide +kernel
theorem dX5_get_20 : decode cX5_get 20 = .ok (.getfield 41, 3) := by decide +kernel
theorem dX5_get_23 : decode cX5_get 23 = .ok (.iload_n 1, 1) := by decide +kernel
theorem dX5_get_24 : decode cX5_get 24 = .ok (.aaload, 1) := by decide +kernel
theorem dX5_get_25 : decode cX5_get 25 = .ok (.iload_n 2, 1) := by decide +kernel
theorem dX5_get_26 : decode cX5_get 26 = .ok (.invokevirtual 228, 3) := by decide +kernel
theorem dX5_get_29 : decode cX5_get 29 = .ok (.ifCond .ne 7, 3) := by decide +kernel
theorem dX5_get_32 : decode cX5_get 32 = .ok (.ldc2_w 234, 3) := by decide +kernel
theorem dX5_get_35 : decode cX5_get 35 = .ok (.lreturn, 1) := by decide +kernel
theorem dX5_get_36 : decode cX5_get 36 = .ok (.aload_n 0, 1) := by decide +kernel
theorem dX5_get_37 : decode cX5_get 37 = .ok (.getfield 41, 3) := by decide +kernel
theorem dX5_get_40 : decode cX5_get 40 = .ok (.iload_n 1, 1) := by decide +kernel
theorem dX5_get_41 : decode cX5_get 41 = .ok (.aaload, 1) := by decide +kernel
theorem dX5_get_42 : decode cX5_get 42 = .ok (.getfield 236, 3) := by decide +kernel
theorem dX5_get_45 : decode cX5_get 45 = .ok (.iload_n 2, 1) := by decide +kernel
theorem dX5_get_46 : decode cX5_get 46 = .ok (.laload, 1) := by decide +kernel
theorem dX5_get_47 : decode cX5_get 47 = .ok (.lreturn, 1) := by decide +kernel
set_option maxRecDepth 20000 in
theorem ggX5_copy_X5_noRow : GoodIn wsX5_copy wsX5_noRow := goodIn_r _ [11] (by decide +kernel) (by decide +kernel)
set_option maxRecDepth 20000 in
theorem gX5_copy_X5_noRow : GoodIn wsX5_copy (va_wsS RX5 220 yX5_noRow wsX5_noRow) := goodIn_app (goodIn_of _ (by decide +kernel)) ggX5_copy_X5_noRow
set_option maxRecDepth 20000 in
theorem ggX5_copy_X2_isMissing : GoodIn wsX5_copy wsX2_isMissing := goodIn_r _ [16, 17, 29, 30, 31] (by decide +kernel) (by decide +kernel)
set_option maxRecDepth 20000 in
theorem gX5_copy_X2_isMissing : GoodIn wsX5_copy (wsV RX5 226 RX2 yX2_isMissing wsX2_isMissing) := goodIn_app (goodIn_of _ (by decide +kernel)) ggX5_copy_X2_isMissing
set_option maxRecDepth 20000 in
theorem ggX5_copy_X2_hasStretch : GoodIn wsX5_copy wsX2_hasStretch := goodIn_r _ [21, 22, 29, 30, 31] (by decide +kernel) (by decide +kernel)
set_option maxRecDepth 20000 in
theorem gX5_copy_X2_hasStretch : GoodIn wsX5_copy (wsV RX5 242 RX2 yX2_hasStretch wsX2_hasStretch) := goodIn_app (goodIn_of _ (by decide +kernel)) ggX5_copy_X2_hasStretch
theorem dX5_copy_0 : decode cX5_copy 0 = .ok (.iload_n 1, 1) := by decide +kernel
theorem dX5_copy_1 : decode cX5_copy 1 = .ok (.invokestatic 220, 3) := by decide +kernel
theorem dX5_copy_4 : decode cX5_copy 4 = .ok (.ifCond .ne 10, 3) := by decide +kernel
theorem dX5_copy_7 : decode cX5_copy 7 = .ok (.iload_n 3, 1) := by decide +kernel
theorem dX5_copy_8 : decode cX5_copy 8 = .ok (.invokestatic 220, 3) := by decide +kernel
theorem dX5_copy_11 : decode cX5_copy 11 = .ok (.ifCond .eq 6, 3) := by decide +kernel
theorem dX5_copy_14 : decode cX5_copy 14 = .ok (.bipush (-2), 2) := by decide +kernel
theorem dX5_copy_16 : decode cX5_copy 16 = .ok (.ireturn, 1) := by decide +kernel
theorem dX5_copy_17 : decode cX5_copy 17 = .ok (.aload_n 0, 1) := by decide +kernel
theorem dX5_copy_18 : decode cX5_copy 18 = .ok (.getfield 41, 3) := by decide +kernel
theorem dX5_copy_21 : decode cX5_copy 21 = .ok (.iload_n 1, 1) := by decide +kernel
theorem dX5_copy_22 : decode cX5_copy 22 = .ok (.aaload, 1) := by decide +kernel
theorem dX5_copy_23 : decode cX5_copy 23 = .ok (.astore 6, 2) := by decide +kernel
theorem dX5_copy_25 : decode cX5_copy 25 = .ok (.aload_n 0, 1) := by decide +kernel
theorem dX5_copy_26 : decode cX5_copy 26 = .ok (.getfield 41, 3) := by decide +kernel
theorem dX5_copy_29 : decode cX5_copy 29 = .ok (.iload_n 3, 1) := by decide +kernel
theorem dX5_copy_30 : decode cX5_copy 30 = .ok (.aaload, 1) := by decide +kernel
theorem dX5_copy_31 : decode cX5_copy 31 = .ok (.astore 7, 2) := by decide +kernel
theorem dX5_copy_33 : decode cX5_copy 33 = .ok (.aload 6, 2) := by decide +kernel
theorem dX5_copy_35 : decode cX5_copy 35 = .ok (.invokevirtual 226, 3) := by decide +kernel
theorem dX5_copy_38 : decode cX5_copy 38 = .ok (.ifCond .ne 11, 3) := by decide +kernel
theorem dX5_copy_41 : decode cX5_copy 41 = .ok (.aload 7, 2) := by decide +kernel
theorem dX5_copy_43 : decode cX5_copy 43 = .ok (.invokevirtual 226, 3) := by decide +kernel
theorem dX5_copy_46 : decode cX5_copy 46 = .ok (.ifCond .eq 6, 3) := by decide +kernel
theorem dX5_copy_49 : decode cX5_copy 49 = .ok (.bipush (-11), 2) := by decide +kernel
theorem dX5_copy_51 : decode cX5_copy 51 = .ok (.ireturn, 1) := by decide +kernel
theorem dX5_copy_52 : decode cX5_copy 52 = .ok (.aload 6, 2) := by decide +kernel
theorem dX5_copy_54 : decode cX5_copy 54 = .ok (.getfield 239, 3) := by decide +kernel
theorem dX5_copy_57 : decode cX5_copy 57 = .ok (.aload 7, 2) := by decide +kernel
theorem dX5_copy_59 : decode cX5_copy 59 = .ok (.getfield 239, 3) := by decide +kernel
theorem dX5_copy_62 : decode cX5_copy 62 = .ok (.if_icmp .eq 6, 3) := by decide +kernel
theorem dX5_copy_65 : decode cX5_copy 65 = .ok (.bipush (-13), 2) := by decide +kernel
theorem dX5_copy_67 : decode cX5_copy 67 = .ok (.ireturn, 1) := by decide +kernel
theorem dX5_copy_68 : decode cX5_copy 68 = .ok (.aload 6, 2) := by decide +kernel
theorem dX5_copy_70 : decode cX5_copy 70 = .ok (.iload_n 2, 1) := by decide +kernel
theorem dX5_copy_71 : decode cX5_copy 71 = .ok (.iload 5, 2) := by decide +kernel
theorem dX5_copy_73 : decode cX5_copy 73 = .ok (.invokevirtual 242, 3) := by decide +kernel
theorem dX5_copy_76 : decode cX5_copy 76 = .ok (.ifCond .eq 15, 3) := by decide +kernel
theorem dX5_copy_79 : decode cX5_copy 79 = .ok (.aload 7, 2) := by decide +kernel
theorem dX5_copy_81 : decode cX5_copy 81 = .ok (.iload 4, 2) := by decide +kernel
theorem dX5_copy_83 : decode cX5_copy 83 = .ok (.iload 5, 2) := by decide +kernel
theorem dX5_copy_85 : decode cX5_copy 85 = .ok (.invokevirtual 242, 3) := by decide +kernel
theorem dX5_copy_88 : decode cX5_copy 88 = .ok (.ifCond .ne 6, 3) := by decide +kernel
theorem dX5_copy_91 : decode cX5_copy 91 = .ok (.bipush (-12), 2) := by decide +kernel
theorem dX5_copy_93 : decode cX5_copy 93 = .ok (.ireturn, 1) := by decide +kernel
theorem dX5_copy_94 : decode cX5_copy 94 = .ok (.aload 6, 2) := by decide +kernel
theorem dX5_copy_96 : decode cX5_copy 96 = .ok (.getfield 236, 3) := by decide +kernel
theorem dX5_copy_99 : decode cX5_copy 99 = .ok (.iload_n 2, 1) := by decide +kernel
theorem dX5_copy_100 : decode cX5_copy 100 = .ok (.aload 7, 2) := by decide +kernel
theorem dX5_copy_102 : decode cX5_copy 102 = .ok (.getfield 236, 3) := by decide +kernel
theorem dX5_copy_105 : decode cX5_copy 105 = .ok (.iload 4, 2) := by decide +kernel
theorem dX5_copy_107 : decode cX5_copy 107 = .ok (.iload 5, 2) := by decide +kernel
theorem dX5_copy_109 : decode cX5_copy 109 = .ok (.invokestatic 245, 3) := by decide +kernel
theorem dX5_copy_112 : decode cX5_copy 112 = .ok (.iload 5, 2) := by decide +kernel
theorem dX5_copy_114 : decode cX5_copy 114 = .ok (.ireturn, 1) := by decide +kernel
set_option maxRecDepth 20000 in
theorem ggX5_lay_X5_noFamily : GoodIn wsX5_lay wsX5_noFamily := goodIn_r _ [7] (by decide +kernel) (by decide +kernel)
set_option maxRecDepth 20000 in
theorem gX5_lay_X5_noFamily : GoodIn wsX5_lay (va_wsS RX5 54 yX5_noFamily wsX5_noFamily) := goodIn_app (goodIn_of _ (by decide +kernel)) ggX5_lay_X5_noFamily
set_option maxRecDepth 20000 in
theorem ggX5_lay_X5_noRow : GoodIn wsX5_lay wsX5_noRow := goodIn_r _ [10] (by decide +kernel) (by decide +kernel)
set_option maxRecDepth 20000 in
theorem gX5_lay_X5_noRow : GoodIn wsX5_lay (va_wsS RX5 220 yX5_noRow wsX5_noRow) := goodIn_app (goodIn_of _ (by decide +kernel)) ggX5_lay_X5_noRow
set_option maxRecDepth 20000 in
theorem ggX5_lay_X2_isMissing : GoodIn wsX5_lay wsX2_isMissing := goodIn_r _ [15, 16, 48, 49, 50] (by decide +kernel) (by decide +kernel)
set_option maxRecDepth 20000 in
theorem gX5_lay_X2_isMissing : GoodIn wsX5_lay (wsV RX5 226 RX2 yX2_isMissing wsX2_isMissing) := goodIn_app (goodIn_of _ (by decide +kernel)) ggX5_lay_X2_isMissing
set_option maxRecDepth 20000 in
theorem ggX5_lay_X2_asSets : GoodIn wsX5_lay wsX2_asSets := goodIn_r _ [20, 21, 22, 48, 49, 50] (by decide +kernel) (by decide +kernel)
set_option maxRecDepth 20000 in
theorem gX5_lay_X2_asSets : GoodIn wsX5_lay (wsV RX5 251 RX2 yX2_asSets wsX2_asSets) := goodIn_app (goodIn_of _ (by decide +kernel)) ggX5_lay_X2_asSets
set_option maxRecDepth 20000 in
theorem ggX5_lay_X1_become : GoodIn wsX5_lay wsX1_become := goodIn_r _ [27, 28, 29, 30, 31, 32, 33, 34, 35, 36, 43, 44, 45, 46, 47] (by decide +kernel) (by decide +kernel)
set_option maxRecDepth 20000 in
theorem gX5_lay_X1_become : GoodIn wsX5_lay (wsV RX5 67 RX1 yX1_become wsX1_become) := goodIn_app (goodIn_of _ (by decide +kernel)) ggX5_lay_X1_become
theorem dX5_lay_0 : decode cX5_lay 0 = .ok (.iload_n 1, 1) := by decide +kernel
theorem dX5_lay_1 : decode cX5_lay 1 = .ok (.invokestatic 54, 3) := by decide +kernel
theorem dX5_lay_4 : decode cX5_lay 4 = .ok (.ifCond .ne 10, 3) := by decide +kernel
theorem dX5_lay_7 : decode cX5_lay 7 = .ok (.iload_n 2, 1) := by decide +kernel
theorem dX5_lay_8 : decode cX5_lay 8 = .ok (.invokestatic 220, 3) := by decide +kernel
theorem dX5_lay_11 : decode cX5_lay 11 = .ok (.ifCond .eq 6, 3) := by decide +kernel
theorem dX5_lay_14 : decode cX5_lay 14 = .ok (.bipush (-2), 2) := by decide +kernel
theorem dX5_lay_16 : decode cX5_lay 16 = .ok (.ireturn, 1) := by decide +kernel
theorem dX5_lay_17 : decode cX5_lay 17 = .ok (.aload_n 0, 1) := by decide +kernel
theorem dX5_lay_18 : decode cX5_lay 18 = .ok (.getfield 41, 3) := by decide +kernel
theorem dX5_lay_21 : decode cX5_lay 21 = .ok (.iload_n 2, 1) := by decide +kernel
theorem dX5_lay_22 : decode cX5_lay 22 = .ok (.aaload, 1) := by decide +kernel
theorem dX5_lay_23 : decode cX5_lay 23 = .ok (.invokevirtual 226, 3) := by decide +kernel
theorem dX5_lay_26 : decode cX5_lay 26 = .ok (.ifCond .eq 6, 3) := by decide +kernel
theorem dX5_lay_29 : decode cX5_lay 29 = .ok (.bipush (-11), 2) := by decide +kernel
theorem dX5_lay_31 : decode cX5_lay 31 = .ok (.ireturn, 1) := by decide +kernel
theorem dX5_lay_32 : decode cX5_lay 32 = .ok (.aload_n 0, 1) := by decide +kernel
theorem dX5_lay_33 : decode cX5_lay 33 = .ok (.getfield 12, 3) := by decide +kernel
theorem dX5_lay_36 : decode cX5_lay 36 = .ok (.iload_n 1, 1) := by decide +kernel
theorem dX5_lay_37 : decode cX5_lay 37 = .ok (.aload_n 0, 1) := by decide +kernel
theorem dX5_lay_38 : decode cX5_lay 38 = .ok (.getfield 41, 3) := by decide +kernel
theorem dX5_lay_41 : decode cX5_lay 41 = .ok (.iload_n 2, 1) := by decide +kernel
theorem dX5_lay_42 : decode cX5_lay 42 = .ok (.aaload, 1) := by decide +kernel
theorem dX5_lay_43 : decode cX5_lay 43 = .ok (.aload_n 0, 1) := by decide +kernel
theorem dX5_lay_44 : decode cX5_lay 44 = .ok (.getfield 12, 3) := by decide +kernel
theorem dX5_lay_47 : decode cX5_lay 47 = .ok (.getfield 46, 3) := by decide +kernel
theorem dX5_lay_50 : decode cX5_lay 50 = .ok (.invokevirtual 251, 3) := by decide +kernel
theorem dX5_lay_53 : decode cX5_lay 53 = .ok (.iconst 0, 1) := by decide +kernel
theorem dX5_lay_54 : decode cX5_lay 54 = .ok (.invokevirtual 67, 3) := by decide +kernel
theorem dX5_lay_57 : decode cX5_lay 57 = .ok (.ireturn, 1) := by decide +kernel
set_option maxRecDepth 20000 in
theorem ggX5_film_X5_noFamily : GoodIn wsX5_film wsX5_noFamily := goodIn_r _ [8] (by decide +kernel) (by decide +kernel)
set_option maxRecDepth 20000 in
theorem gX5_film_X5_noFamily : GoodIn wsX5_film (va_wsS RX5 54 yX5_noFamily wsX5_noFamily) := goodIn_app (goodIn_of _ (by decide +kernel)) ggX5_film_X5_noFamily
set_option maxRecDepth 20000 in
theorem ggX5_film_X5_noRow : GoodIn wsX5_film wsX5_noRow := goodIn_r _ [11] (by decide +kernel) (by decide +kernel)
set_option maxRecDepth 20000 in
theorem gX5_film_X5_noRow : GoodIn wsX5_film (va_wsS RX5 220 yX5_noRow wsX5_noRow) := goodIn_app (goodIn_of _ (by decide +kernel)) ggX5_film_X5_noRow
set_option maxRecDepth 20000 in
theorem ggX5_film_X1_isMissing : GoodIn wsX5_film wsX1_isMissing := goodIn_r _ [16, 17, 59, 60, 61, 62, 63] (by decide +kernel) (by decide +kernel)
set_option maxRecDepth 20000 in
theorem gX5_film_X1_isMissing : GoodIn wsX5_film (wsV RX5 85 RX1 yX1_isMissing wsX1_isMissing) := goodIn_app (goodIn_of _ (by decide +kernel)) ggX5_film_X1_isMissing
set_option maxRecDepth 20000 in
theorem ggX5_film_X2_becomeMembers : GoodIn wsX5_film wsX2_becomeMembers := goodIn_r _ [22, 23, 24, 25, 26, 27, 28, 29, 30, 31, 32, 33, 21, 34, 35, 36, 37, 38, 39, 40, 41, 42, 43, 44, 45, 46, 47, 48, 49, 50, 51, 52, 64, 65, 66] (by decide +kernel) (by decide +kernel)
set_option maxRecDepth 20000 in
theorem gX5_film_X2_becomeMembers : GoodIn wsX5_film (wsV RX5 255 RX2 yX2_becomeMembers wsX2_becomeMembers) := goodIn_app (goodIn_of _ (by decide +kernel)) ggX5_film_X2_becomeMembers
theorem dX5_film_0 : decode cX5_film 0 = .ok (.iload_n 1, 1) := by decide +kernel
theorem dX5_film_1 : decode cX5_film 1 = .ok (.invokestatic 54, 3) := by decide +kernel
theorem dX5_film_4 : decode cX5_film 4 = .ok (.ifCond .ne 19, 3) := by decide +kernel
theorem dX5_film_7 : decode cX5_film 7 = .ok (.iload_n 2, 1) := by decide +kernel
theorem dX5_film_8 : decode cX5_film 8 = .ok (.invokestatic 220, 3) := by decide +kernel
theorem dX5_film_11 : decode cX5_film 11 = .ok (.ifCond .ne 12, 3) := by decide +kernel
theorem dX5_film_14 : decode cX5_film 14 = .ok (.iload_n 3, 1) := by decide +kernel
theorem dX5_film_15 : decode cX5_film 15 = .ok (.ifCond .lt 8, 3) := by decide +kernel
theorem dX5_film_18 : decode cX5_film 18 = .ok (.iload_n 3, 1) := by decide +kernel
theorem dX5_film_19 : decode cX5_film 19 = .ok (.iconst 4, 1) := by decide +kernel
theorem dX5_film_20 : decode cX5_film 20 = .ok (.if_icmp .lt 6, 3) := by decide +kernel
theorem dX5_film_23 : decode cX5_film 23 = .ok (.bipush (-2), 2) := by decide +kernel
theorem dX5_film_25 : decode cX5_film 25 = .ok (.ireturn, 1) := by decide +kernel
theorem dX5_film_26 : decode cX5_film 26 = .ok (.aload_n 0, 1) := by decide +kernel
theorem dX5_film_27 : decode cX5_film 27 = .ok (.getfield 12, 3) := by decide +kernel
theorem dX5_film_30 : decode cX5_film 30 = .ok (.iload_n 1, 1) := by decide +kernel
theorem dX5_film_31 : decode cX5_film 31 = .ok (.invokevirtual 85, 3) := by decide +kernel
theorem dX5_film_34 : decode cX5_film 34 = .ok (.ifCond .eq 6, 3) := by decide +kernel
theorem dX5_film_37 : decode cX5_film 37 = .ok (.bipush (-11), 2) := by decide +kernel
theorem dX5_film_39 : decode cX5_film 39 = .ok (.ireturn, 1) := by decide +kernel
theorem dX5_film_40 : decode cX5_film 40 = .ok (.aload_n 0, 1) := by decide +kernel
theorem dX5_film_41 : decode cX5_film 41 = .ok (.getfield 41, 3) := by decide +kernel
theorem dX5_film_44 : decode cX5_film 44 = .ok (.iload_n 2, 1) := by decide +kernel
theorem dX5_film_45 : decode cX5_film 45 = .ok (.aaload, 1) := by decide +kernel
theorem dX5_film_46 : decode cX5_film 46 = .ok (.aload_n 0, 1) := by decide +kernel
theorem dX5_film_47 : decode cX5_film 47 = .ok (.getfield 12, 3) := by decide +kernel
theorem dX5_film_50 : decode cX5_film 50 = .ok (.getfield 61, 3) := by decide +kernel
theorem dX5_film_53 : decode cX5_film 53 = .ok (.iload_n 1, 1) := by decide +kernel
theorem dX5_film_54 : decode cX5_film 54 = .ok (.laload, 1) := by decide +kernel
theorem dX5_film_55 : decode cX5_film 55 = .ok (.iload_n 3, 1) := by decide +kernel
theorem dX5_film_56 : decode cX5_film 56 = .ok (.invokevirtual 255, 3) := by decide +kernel
theorem dX5_film_59 : decode cX5_film 59 = .ok (.aload_n 0, 1) := by decide +kernel
theorem dX5_film_60 : decode cX5_film 60 = .ok (.getfield 41, 3) := by decide +kernel
theorem dX5_film_63 : decode cX5_film 63 = .ok (.iload_n 2, 1) := by decide +kernel
theorem dX5_film_64 : decode cX5_film 64 = .ok (.aaload, 1) := by decide +kernel
theorem dX5_film_65 : decode cX5_film 65 = .ok (.getfield 259, 3) := by decide +kernel
theorem dX5_film_68 : decode cX5_film 68 = .ok (.ireturn, 1) := by decide +kernel
set_option maxRecDepth 20000 in
theorem ggX5_image_X1_takeOver : GoodIn wsX5_image wsX1_takeOver := goodIn_r _ [8, 9, 10, 11, 12, 13, 14, 15, 16, 17, 18, 19, 20, 21, 22, 23, 24, 46, 47, 48, 49, 50, 51] (by decide +kernel) (by decide +kernel)
set_option maxRecDepth 20000 in
theorem gX5_image_X1_takeOver : GoodIn wsX5_image (wsV RX5 262 RX1 yX1_takeOver wsX1_takeOver) := goodIn_app (goodIn_of _ (by decide +kernel)) ggX5_image_X1_takeOver
set_option maxRecDepth 20000 in
theorem ggX5_image_X1_families : GoodIn wsX5_image wsX1_families := goodIn_r _ [28, 29, 30, 31, 7, 32, 15, 46, 47, 48, 49, 50] (by decide +kernel) (by decide +kernel)
set_option maxRecDepth 20000 in
theorem gX5_image_X1_families : GoodIn wsX5_image (wsV RX5 266 RX1 yX1_families wsX1_families) := goodIn_app (goodIn_of _ (by decide +kernel)) ggX5_image_X1_families
set_option maxRecDepth 20000 in
theorem ggX5_image_J6_bitCount_0f7a4 : GoodIn wsX5_image wsJ6_bitCount_0f7a4 := goodIn_r _ [36, 37, 38, 39] (by decide +kernel) (by decide +kernel)
set_option maxRecDepth 20000 in
theorem gX5_image_J6_bitCount_0f7a4 : GoodIn wsX5_image (va_wsS RX5 122 yJ6_bitCount_0f7a4 wsJ6_bitCount_0f7a4) := goodIn_app (goodIn_of _ (by decide +kernel)) ggX5_image_J6_bitCount_0f7a4
theorem dX5_image_0 : decode cX5_image 0 = .ok (.aload_n 0, 1) := by decide +kernel
theorem dX5_image_1 : decode cX5_image 1 = .ok (.getfield 18, 3) := by decide +kernel
theorem dX5_image_4 : decode cX5_image 4 = .ok (.aload_n 0, 1) := by decide +kernel
theorem dX5_image_5 : decode cX5_image 5 = .ok (.getfield 12, 3) := by decide +kernel
theorem dX5_image_8 : decode cX5_image 8 = .ok (.invokevirtual 262, 3) := by decide +kernel
theorem dX5_image_11 : decode cX5_image 11 = .ok (.aload_n 0, 1) := by decide +kernel
theorem dX5_image_12 : decode cX5_image 12 = .ok (.iconst 1, 1) := by decide +kernel
theorem dX5_image_13 : decode cX5_image 13 = .ok (.putfield 21, 3) := by decide +kernel
theorem dX5_image_16 : decode cX5_image 16 = .ok (.aload_n 0, 1) := by decide +kernel
theorem dX5_image_17 : decode cX5_image 17 = .ok (.getfield 12, 3) := by decide +kernel
theorem dX5_image_20 : decode cX5_image 20 = .ok (.invokevirtual 266, 3) := by decide +kernel
theorem dX5_image_23 : decode cX5_image 23 = .ok (.invokestatic 122, 3) := by decide +kernel
theorem dX5_image_26 : decode cX5_image 26 = .ok (.ireturn, 1) := by decide +kernel
set_option maxRecDepth 20000 in
theorem ggX5_back_X1_takeOver : GoodIn wsX5_back wsX1_takeOver := goodIn_r _ [8, 9, 10, 11, 12, 13, 14, 15, 16, 17, 18, 19, 20, 21, 22, 23, 24, 46, 47, 48, 49, 50, 51] (by decide +kernel) (by decide +kernel)
set_option maxRecDepth 20000 in
theorem gX5_back_X1_takeOver : GoodIn wsX5_back (wsV RX5 262 RX1 yX1_takeOver wsX1_takeOver) := goodIn_app (goodIn_of _ (by decide +kernel)) ggX5_back_X1_takeOver
set_option maxRecDepth 20000 in
theorem ggX5_back_X1_families : GoodIn wsX5_back wsX1_families := goodIn_r _ [28, 29, 30, 31, 7, 32, 15, 46, 47, 48, 49, 50] (by decide +kernel) (by decide +kernel)
set_option maxRecDepth 20000 in
theorem gX5_back_X1_families : GoodIn wsX5_back (wsV RX5 266 RX1 yX1_families wsX1_families) := goodIn_app (goodIn_of _ (by decide +kernel)) ggX5_back_X1_families
set_option maxRecDepth 20000 in
theorem ggX5_back_J6_bitCount_0f7a4 : GoodIn wsX5_back wsJ6_bitCount_0f7a4 := goodIn_r _ [36, 37, 38, 39] (by decide +kernel) (by decide +kernel)
set_option maxRecDepth 20000 in
theorem gX5_back_J6_bitCount_0f7a4 : GoodIn wsX5_back (va_wsS RX5 122 yJ6_bitCount_0f7a4 wsJ6_bitCount_0f7a4) := goodIn_app (goodIn_of _ (by decide +kernel)) ggX5_back_J6_bitCount_0f7a4
theorem dX5_back_0 : decode cX5_back 0 = .ok (.aload_n 0, 1) := by decide +kernel
theorem dX5_back_1 : decode cX5_back 1 = .ok (.getfield 21, 3) := by decide +kernel
theorem dX5_back_4 : decode cX5_back 4 = .ok (.ifCond .ne 6, 3) := by decide +kernel
theorem dX5_back_7 : decode cX5_back 7 = .ok (.bipush (-3), 2) := by decide +kernel
theorem dX5_back_9 : decode cX5_back 9 = .ok (.ireturn, 1) := by decide +kernel
theorem dX5_back_10 : decode cX5_back 10 = .ok (.aload_n 0, 1) := by decide +kernel
theorem dX5_back_11 : decode cX5_back 11 = .ok (.getfield 12, 3) := by decide +kernel
theorem dX5_back_14 : decode cX5_back 14 = .ok (.aload_n 0, 1) := by decide +kernel
theorem dX5_back_15 : decode cX5_back 15 = .ok (.getfield 18, 3) := by decide +kernel
theorem dX5_back_18 : decode cX5_back 18 = .ok (.invokevirtual 262, 3) := by decide +kernel
theorem dX5_back_21 : decode cX5_back 21 = .ok (.aload_n 0, 1) := by decide +kernel
theorem dX5_back_22 : decode cX5_back 22 = .ok (.getfield 12, 3) := by decide +kernel
theorem dX5_back_25 : decode cX5_back 25 = .ok (.invokevirtual 266, 3) := by decide +kernel
theorem dX5_back_28 : decode cX5_back 28 = .ok (.invokestatic 122, 3) := by decide +kernel
theorem dX5_back_31 : decode cX5_back 31 = .ok (.ireturn, 1) := by decide +kernel
set_option maxRecDepth 20000 in
theorem ggX5_count_X1_families : GoodIn wsX5_count wsX1_families := goodIn_r _ [8, 9, 10, 11, 7, 12, 13, 38, 39, 40, 41, 42] (by decide +kernel) (by decide +kernel)
set_option maxRecDepth 20000 in
theorem gX5_count_X1_families : GoodIn wsX5_count (wsV RX5 266 RX1 yX1_families wsX1_families) := goodIn_app (goodIn_of _ (by decide +kernel)) ggX5_count_X1_families
set_option maxRecDepth 20000 in
theorem ggX5_count_X5_rowsThere : GoodIn wsX5_count wsX5_rowsThere := goodIn_r _ [18, 19, 20, 21, 22, 23, 24, 25, 32, 33, 34, 35, 36, 37, 43, 44, 45] (by decide +kernel) (by decide +kernel)
set_option maxRecDepth 20000 in
theorem gX5_count_X5_rowsThere : GoodIn wsX5_count (wsV RX5 269 RX5 yX5_rowsThere wsX5_rowsThere) := goodIn_app (goodIn_of _ (by decide +kernel)) ggX5_count_X5_rowsThere
set_option maxRecDepth 20000 in
theorem ggX5_count_X4_notZero : GoodIn wsX5_count wsX4_notZero := goodIn_r _ [30, 31, 46] (by decide +kernel) (by decide +kernel)
set_option maxRecDepth 20000 in
theorem gX5_count_X4_notZero : GoodIn wsX5_count (wsV RX5 185 RX4 yX4_notZero wsX4_notZero) := goodIn_app (goodIn_of _ (by decide +kernel)) ggX5_count_X4_notZero
theorem dX5_count_0 : decode cX5_count 0 = .ok (.iload_n 1, 1) := by decide +kernel
theorem dX5_count_1 : decode cX5_count 1 = .ok (.tableswitch 63 0 3 #[31, 39, 47, 52], 31) := by decide +kernel
theorem dX5_count_32 : decode cX5_count 32 = .ok (.aload_n 0, 1) := by decide +kernel
theorem dX5_count_33 : decode cX5_count 33 = .ok (.getfield 12, 3) := by decide +kernel
theorem dX5_count_36 : decode cX5_count 36 = .ok (.getfield 46, 3) := by decide +kernel
theorem dX5_count_39 : decode cX5_count 39 = .ok (.ireturn, 1) := by decide +kernel
theorem dX5_count_40 : decode cX5_count 40 = .ok (.aload_n 0, 1) := by decide +kernel
theorem dX5_count_41 : decode cX5_count 41 = .ok (.getfield 12, 3) := by decide +kernel
theorem dX5_count_44 : decode cX5_count 44 = .ok (.invokevirtual 266, 3) := by decide +kernel
theorem dX5_count_47 : decode cX5_count 47 = .ok (.ireturn, 1) := by decide +kernel
theorem dX5_count_48 : decode cX5_count 48 = .ok (.aload_n 0, 1) := by decide +kernel
theorem dX5_count_49 : decode cX5_count 49 = .ok (.invokevirtual 269, 3) := by decide +kernel
theorem dX5_count_52 : decode cX5_count 52 = .ok (.ireturn, 1) := by decide +kernel
theorem dX5_count_53 : decode cX5_count 53 = .ok (.aload_n 0, 1) := by decide +kernel
theorem dX5_count_54 : decode cX5_count 54 = .ok (.getfield 12, 3) := by decide +kernel
theorem dX5_count_57 : decode cX5_count 57 = .ok (.getfield 171, 3) := by decide +kernel
theorem dX5_count_60 : decode cX5_count 60 = .ok (.invokevirtual 185, 3) := by decide +kernel
theorem dX5_count_63 : decode cX5_count 63 = .ok (.ireturn, 1) := by decide +kernel
theorem dX5_count_64 : decode cX5_count 64 = .ok (.bipush (-2), 2) := by decide +kernel
theorem dX5_count_66 : decode cX5_count 66 = .ok (.ireturn, 1) := by decide +kernel
theorem dX5_noFamily_0 : decode cX5_noFamily 0 = .ok (.iload_n 0, 1) := by decide +kernel
theorem dX5_noFamily_1 : decode cX5_noFamily 1 = .ok (.ifCond .lt 9, 3) := by decide +kernel
theorem dX5_noFamily_4 : decode cX5_noFamily 4 = .ok (.iload_n 0, 1) := by decide +kernel
theorem dX5_noFamily_5 : decode cX5_noFamily 5 = .ok (.bipush 6, 2) := by decide +kernel
theorem dX5_noFamily_7 : decode cX5_noFamily 7 = .ok (.if_icmp .lt 7, 3) := by decide +kernel
theorem dX5_noFamily_10 : decode cX5_noFamily 10 = .ok (.iconst 1, 1) := by decide +kernel
theorem dX5_noFamily_11 : decode cX5_noFamily 11 = .ok (.goto 4, 3) := by decide +kernel
theorem dX5_noFamily_14 : decode cX5_noFamily 14 = .ok (.iconst 0, 1) := by decide +kernel
theorem dX5_noFamily_15 : decode cX5_noFamily 15 = .ok (.ireturn, 1) := by decide +kernel
theorem dX5_noRow_0 : decode cX5_noRow 0 = .ok (.iload_n 0, 1) := by decide +kernel
theorem dX5_noRow_1 : decode cX5_noRow 1 = .ok (.ifCond .lt 8, 3) := by decide +kernel
theorem dX5_noRow_4 : decode cX5_noRow 4 = .ok (.iload_n 0, 1) := by decide +kernel
theorem dX5_noRow_5 : decode cX5_noRow 5 = .ok (.iconst 4, 1) := by decide +kernel
theorem dX5_noRow_6 : decode cX5_noRow 6 = .ok (.if_icmp .lt 7, 3) := by decide +kernel
theorem dX5_noRow_9 : decode cX5_noRow 9 = .ok (.iconst 1, 1) := by decide +kernel
theorem dX5_noRow_10 : decode cX5_noRow 10 = .ok (.goto 4, 3) := by decide +kernel
theorem dX5_noRow_13 : decode cX5_noRow 13 = .ok (.iconst 0, 1) := by decide +kernel
theorem dX5_noRow_14 : decode cX5_noRow 14 = .ok (.ireturn, 1) := by decide +kernel
theorem dX5_noPoint_0 : decode cX5_noPoint 0 = .ok (.iload_n 1, 1) := by decide +kernel
theorem dX5_noPoint_1 : decode cX5_noPoint 1 = .ok (.ifCond .lt 14, 3) := by decide +kernel
theorem dX5_noPoint_4 : decode cX5_noPoint 4 = .ok (.iload_n 1, 1) := by decide +kernel
theorem dX5_noPoint_5 : decode cX5_noPoint 5 = .ok (.aload_n 0, 1) := by decide +kernel
theorem dX5_noPoint_6 : decode cX5_noPoint 6 = .ok (.getfield 12, 3) := by decide +kernel
theorem dX5_noPoint_9 : decode cX5_noPoint 9 = .ok (.getfield 46, 3) := by decide +kernel
theorem dX5_noPoint_12 : decode cX5_noPoint 12 = .ok (.if_icmp .lt 7, 3) := by decide +kernel
theorem dX5_noPoint_15 : decode cX5_noPoint 15 = .ok (.iconst 1, 1) := by decide +kernel
theorem dX5_noPoint_16 : decode cX5_noPoint 16 = .ok (.goto 4, 3) := by decide +kernel
theorem dX5_noPoint_19 : decode cX5_noPoint 19 = .ok (.iconst 0, 1) := by decide +kernel
theorem dX5_noPoint_20 : decode cX5_noPoint 20 = .ok (.ireturn, 1) := by decide +kernel
theorem dX5_noSet_0 : decode cX5_noSet 0 = .ok (.iload_n 1, 1) := by decide +kernel
theorem dX5_noSet_1 : decode cX5_noSet 1 = .ok (.ifCond .lt 16, 3) := by decide +kernel
theorem dX5_noSet_4 : decode cX5_noSet 4 = .ok (.iload_n 1, 1) := by decide +kernel
theorem dX5_noSet_5 : decode cX5_noSet 5 = .ok (.iconst 1, 1) := by decide +kernel
theorem dX5_noSet_6 : decode cX5_noSet 6 = .ok (.aload_n 0, 1) := by decide +kernel
theorem dX5_noSet_7 : decode cX5_noSet 7 = .ok (.getfield 12, 3) := by decide +kernel
theorem dX5_noSet_10 : decode cX5_noSet 10 = .ok (.getfield 46, 3) := by decide +kernel
theorem dX5_noSet_13 : decode cX5_noSet 13 = .ok (.ishl, 1) := by decide +kernel
theorem dX5_noSet_14 : decode cX5_noSet 14 = .ok (.if_icmp .lt 7, 3) := by decide +kernel
theorem dX5_noSet_17 : decode cX5_noSet 17 = .ok (.iconst 1, 1) := by decide +kernel
theorem dX5_noSet_18 : decode cX5_noSet 18 = .ok (.goto 4, 3) := by decide +kernel
theorem dX5_noSet_21 : decode cX5_noSet 21 = .ok (.iconst 0, 1) := by decide +kernel
theorem dX5_noSet_22 : decode cX5_noSet 22 = .ok (.ireturn, 1) := by decide +kernel
theorem dX5_isUnder_0 : decode cX5_isUnder 0 = .ok (.iload_n 0, 1) := by decide +kernel
theorem dX5_isUnder_1 : decode cX5_isUnder 1 = .ok (.istore_n 2, 1) := by decide +kernel
theorem dX5_isUnder_2 : decode cX5_isUnder 2 = .ok (.iconst 0, 1) := by decide +kernel
theorem dX5_isUnder_3 : decode cX5_isUnder 3 = .ok (.istore_n 3, 1) := by decide +kernel
theorem dX5_isUnder_4 : decode cX5_isUnder 4 = .ok (.iload_n 3, 1) := by decide +kernel
theorem dX5_isUnder_5 : decode cX5_isUnder 5 = .ok (.bipush 6, 2) := by decide +kernel
theorem dX5_isUnder_7 : decode cX5_isUnder 7 = .ok (.if_icmp .ge 32, 3) := by decide +kernel
theorem dX5_isUnder_10 : decode cX5_isUnder 10 = .ok (.iload_n 2, 1) := by decide +kernel
theorem dX5_isUnder_11 : decode cX5_isUnder 11 = .ok (.ifCond .lt 28, 3) := by decide +kernel
theorem dX5_isUnder_14 : decode cX5_isUnder 14 = .ok (.iload_n 2, 1) := by decide +kernel
theorem dX5_isUnder_15 : decode cX5_isUnder 15 = .ok (.bipush 6, 2) := by decide +kernel
theorem dX5_isUnder_17 : decode cX5_isUnder 17 = .ok (.if_icmp .ge 22, 3) := by decide +kernel
theorem dX5_isUnder_20 : decode cX5_isUnder 20 = .ok (.iload_n 2, 1) := by decide +kernel
theorem dX5_isUnder_21 : decode cX5_isUnder 21 = .ok (.iload_n 1, 1) := by decide +kernel
theorem dX5_isUnder_22 : decode cX5_isUnder 22 = .ok (.if_icmp .ne 5, 3) := by decide +kernel
theorem dX5_isUnder_25 : decode cX5_isUnder 25 = .ok (.iconst 1, 1) := by decide +kernel
theorem dX5_isUnder_26 : decode cX5_isUnder 26 = .ok (.ireturn, 1) := by decide +kernel
theorem dX5_isUnder_27 : decode cX5_isUnder 27 = .ok (.getstatic 272, 3) := by decide +kernel
theorem dX5_isUnder_30 : decode cX5_isUnder 30 = .ok (.iload_n 2, 1) := by decide +kernel
theorem dX5_isUnder_31 : decode cX5_isUnder 31 = .ok (.iaload, 1) := by decide +kernel
theorem dX5_isUnder_32 : decode cX5_isUnder 32 = .ok (.istore_n 2, 1) := by decide +kernel
theorem dX5_isUnder_33 : decode cX5_isUnder 33 = .ok (.iinc 3 1, 3) := by decide +kernel
theorem dX5_isUnder_36 : decode cX5_isUnder 36 = .ok (.goto (-32), 3) := by decide +kernel
theorem dX5_isUnder_39 : decode cX5_isUnder 39 = .ok (.iconst 0, 1) := by decide +kernel
theorem dX5_isUnder_40 : decode cX5_isUnder 40 = .ok (.ireturn, 1) := by decide +kernel
set_option maxRecDepth 20000 in
theorem ggX5_determinant_X4_takeOver : GoodIn wsX5_determinant wsX4_takeOver := goodIn_r _ [8, 9, 10, 11, 12, 13, 49] (by decide +kernel) (by decide +kernel)
set_option maxRecDepth 20000 in
theorem gX5_determinant_X4_takeOver : GoodIn wsX5_determinant (wsV RX5 275 RX4 yX4_takeOver wsX4_takeOver) := goodIn_app (goodIn_of _ (by decide +kernel)) ggX5_determinant_X4_takeOver
set_option maxRecDepth 20000 in
theorem ggX5_determinant_X4_pivotOn : GoodIn wsX5_determinant wsX4_pivotOn := goodIn_r _ [17, 18, 19, 20, 7, 21, 22, 23, 24, 25, 9, 26, 27, 28, 29, 30, 31, 32, 33, 34, 35, 36, 37, 49] (by decide +kernel) (by decide +kernel)
set_option maxRecDepth 20000 in
theorem gX5_determinant_X4_pivotOn : GoodIn wsX5_determinant (wsV RX5 182 RX4 yX4_pivotOn wsX4_pivotOn) := goodIn_app (goodIn_of _ (by decide +kernel)) ggX5_determinant_X4_pivotOn
theorem dX5_determinant_0 : decode cX5_determinant 0 = .ok (.aload_n 0, 1) := by decide +kernel
theorem dX5_determinant_1 : decode cX5_determinant 1 = .ok (.getfield 28, 3) := by decide +kernel
theorem dX5_determinant_4 : decode cX5_determinant 4 = .ok (.aload_n 0, 1) := by decide +kernel
theorem dX5_determinant_5 : decode cX5_determinant 5 = .ok (.getfield 12, 3) := by decide +kernel
theorem dX5_determinant_8 : decode cX5_determinant 8 = .ok (.getfield 171, 3) := by decide +kernel
theorem dX5_determinant_11 : decode cX5_determinant 11 = .ok (.invokevirtual 275, 3) := by decide +kernel
theorem dX5_determinant_14 : decode cX5_determinant 14 = .ok (.aload_n 0, 1) := by decide +kernel
theorem dX5_determinant_15 : decode cX5_determinant 15 = .ok (.getfield 28, 3) := by decide +kernel
theorem dX5_determinant_18 : decode cX5_determinant 18 = .ok (.iload_n 1, 1) := by decide +kernel
theorem dX5_determinant_19 : decode cX5_determinant 19 = .ok (.invokevirtual 182, 3) := by decide +kernel
theorem dX5_determinant_22 : decode cX5_determinant 22 = .ok (.ireturn, 1) := by decide +kernel
set_option maxRecDepth 20000 in
theorem ggX5_rowsThere_X2_isMissing : GoodIn wsX5_rowsThere wsX2_isMissing := goodIn_r _ [6, 7, 14, 15, 16] (by decide +kernel) (by decide +kernel)
set_option maxRecDepth 20000 in
theorem gX5_rowsThere_X2_isMissing : GoodIn wsX5_rowsThere (wsV RX5 226 RX2 yX2_isMissing wsX2_isMissing) := goodIn_app (goodIn_of _ (by decide +kernel)) ggX5_rowsThere_X2_isMissing
theorem dX5_rowsThere_0 : decode cX5_rowsThere 0 = .ok (.iconst 0, 1) := by decide +kernel
theorem dX5_rowsThere_1 : decode cX5_rowsThere 1 = .ok (.istore_n 1, 1) := by decide +kernel
theorem dX5_rowsThere_2 : decode cX5_rowsThere 2 = .ok (.iconst 0, 1) := by decide +kernel
theorem dX5_rowsThere_3 : decode cX5_rowsThere 3 = .ok (.istore_n 2, 1) := by decide +kernel
theorem dX5_rowsThere_4 : decode cX5_rowsThere 4 = .ok (.iload_n 2, 1) := by decide +kernel
theorem dX5_rowsThere_5 : decode cX5_rowsThere 5 = .ok (.iconst 4, 1) := by decide +kernel
theorem dX5_rowsThere_6 : decode cX5_rowsThere 6 = .ok (.if_icmp .ge 27, 3) := by decide +kernel
theorem dX5_rowsThere_9 : decode cX5_rowsThere 9 = .ok (.aload_n 0, 1) := by decide +kernel
theorem dX5_rowsThere_10 : decode cX5_rowsThere 10 = .ok (.getfield 41, 3) := by decide +kernel
theorem dX5_rowsThere_13 : decode cX5_rowsThere 13 = .ok (.iload_n 2, 1) := by decide +kernel
theorem dX5_rowsThere_14 : decode cX5_rowsThere 14 = .ok (.aaload, 1) := by decide +kernel
theorem dX5_rowsThere_15 : decode cX5_rowsThere 15 = .ok (.invokevirtual 226, 3) := by decide +kernel
theorem dX5_rowsThere_18 : decode cX5_rowsThere 18 = .ok (.ifCond .ne 9, 3) := by decide +kernel
theorem dX5_rowsThere_21 : decode cX5_rowsThere 21 = .ok (.iload_n 1, 1) := by decide +kernel
theorem dX5_rowsThere_22 : decode cX5_rowsThere 22 = .ok (.iconst 1, 1) := by decide +kernel
theorem dX5_rowsThere_23 : decode cX5_rowsThere 23 = .ok (.iload_n 2, 1) := by decide +kernel
theorem dX5_rowsThere_24 : decode cX5_rowsThere 24 = .ok (.ishl, 1) := by decide +kernel
theorem dX5_rowsThere_25 : decode cX5_rowsThere 25 = .ok (.ior, 1) := by decide +kernel
theorem dX5_rowsThere_26 : decode cX5_rowsThere 26 = .ok (.istore_n 1, 1) := by decide +kernel
theorem dX5_rowsThere_27 : decode cX5_rowsThere 27 = .ok (.iinc 2 1, 3) := by decide +kernel
theorem dX5_rowsThere_30 : decode cX5_rowsThere 30 = .ok (.goto (-26), 3) := by decide +kernel
theorem dX5_rowsThere_33 : decode cX5_rowsThere 33 = .ok (.iload_n 1, 1) := by decide +kernel
theorem dX5_rowsThere_34 : decode cX5_rowsThere 34 = .ok (.ireturn, 1) := by decide +kernel
set_option maxRecDepth 20000 in
theorem ggX5_leastBit_J6_bitCount_0f7a4 : GoodIn wsX5_leastBit wsJ6_bitCount_0f7a4 := goodIn_r _ [4, 5, 6, 7] (by decide +kernel) (by decide +kernel)
set_option maxRecDepth 20000 in
theorem gX5_leastBit_J6_bitCount_0f7a4 : GoodIn wsX5_leastBit (va_wsS RX5 122 yJ6_bitCount_0f7a4 wsJ6_bitCount_0f7a4) := goodIn_app (goodIn_of _ (by decide +kernel)) ggX5_leastBit_J6_bitCount_0f7a4
theorem dX5_leastBit_0 : decode cX5_leastBit 0 = .ok (.iload_n 0, 1) := by decide +kernel
theorem dX5_leastBit_1 : decode cX5_leastBit 1 = .ok (.ifCond .ne 7, 3) := by decide +kernel
theorem dX5_leastBit_4 : decode cX5_leastBit 4 = .ok (.iconst (-1), 1) := by decide +kernel
theorem dX5_leastBit_5 : decode cX5_leastBit 5 = .ok (.goto 12, 3) := by decide +kernel
theorem dX5_leastBit_8 : decode cX5_leastBit 8 = .ok (.iload_n 0, 1) := by decide +kernel
theorem dX5_leastBit_9 : decode cX5_leastBit 9 = .ok (.iload_n 0, 1) := by decide +kernel
theorem dX5_leastBit_10 : decode cX5_leastBit 10 = .ok (.ineg, 1) := by decide +kernel
theorem dX5_leastBit_11 : decode cX5_leastBit 11 = .ok (.iand, 1) := by decide +kernel
theorem dX5_leastBit_12 : decode cX5_leastBit 12 = .ok (.iconst 1, 1) := by decide +kernel
theorem dX5_leastBit_13 : decode cX5_leastBit 13 = .ok (.isub, 1) := by decide +kernel
theorem dX5_leastBit_14 : decode cX5_leastBit 14 = .ok (.invokestatic 122, 3) := by decide +kernel
theorem dX5_leastBit_17 : decode cX5_leastBit 17 = .ok (.ireturn, 1) := by decide +kernel
theorem dX5_greatestBit_0 : decode cX5_greatestBit 0 = .ok (.bipush 6, 2) := by decide +kernel
theorem dX5_greatestBit_2 : decode cX5_greatestBit 2 = .ok (.istore_n 1, 1) := by decide +kernel
theorem dX5_greatestBit_3 : decode cX5_greatestBit 3 = .ok (.iload_n 1, 1) := by decide +kernel
theorem dX5_greatestBit_4 : decode cX5_greatestBit 4 = .ok (.ifCond .lt 19, 3) := by decide +kernel
theorem dX5_greatestBit_7 : decode cX5_greatestBit 7 = .ok (.iload_n 0, 1) := by decide +kernel
theorem dX5_greatestBit_8 : decode cX5_greatestBit 8 = .ok (.iload_n 1, 1) := by decide +kernel
theorem dX5_greatestBit_9 : decode cX5_greatestBit 9 = .ok (.ishr, 1) := by decide +kernel
theorem dX5_greatestBit_10 : decode cX5_greatestBit 10 = .ok (.iconst 1, 1) := by decide +kernel
theorem dX5_greatestBit_11 : decode cX5_greatestBit 11 = .ok (.iand, 1) := by decide +kernel
theorem dX5_greatestBit_12 : decode cX5_greatestBit 12 = .ok (.ifCond .eq 5, 3) := by decide +kernel
theorem dX5_greatestBit_15 : decode cX5_greatestBit 15 = .ok (.iload_n 1, 1) := by decide +kernel
theorem dX5_greatestBit_16 : decode cX5_greatestBit 16 = .ok (.ireturn, 1) := by decide +kernel
theorem dX5_greatestBit_17 : decode cX5_greatestBit 17 = .ok (.iinc 1 (-1), 3) := by decide +kernel
theorem dX5_greatestBit_20 : decode cX5_greatestBit 20 = .ok (.goto (-17), 3) := by decide +kernel
theorem dX5_greatestBit_23 : decode cX5_greatestBit 23 = .ok (.iconst (-1), 1) := by decide +kernel
theorem dX5_greatestBit_24 : decode cX5_greatestBit 24 = .ok (.ireturn, 1) := by decide +kernel
theorem dX6_init_0 : decode cX6_init 0 = .ok (.aload_n 0, 1) := by decide +kernel
theorem dX6_init_1 : decode cX6_init 1 = .ok (.invokespecial 3, 3) := by decide +kernel
theorem dX6_init_4 : decode cX6_init 4 = .ok (.aload_n 0, 1) := by decide +kernel
theorem dX6_init_5 : decode cX6_init 5 = .ok (.iconst 4, 1) := by decide +kernel
theorem dX6_init_6 : decode cX6_init 6 = .ok (.putfield 9, 3) := by decide +kernel
theorem dX6_init_9 : decode cX6_init 9 = .ok (.aload_n 0, 1) := by decide +kernel
theorem dX6_init_10 : decode cX6_init 10 = .ok (.bipush 6, 2) := by decide +kernel
theorem dX6_init_12 : decode cX6_init 12 = .ok (.newarray .long, 2) := by decide +kernel
theorem dX6_init_14 : decode cX6_init 14 = .ok (.putfield 15, 3) := by decide +kernel
theorem dX6_init_17 : decode cX6_init 17 = .ok (.aload_n 0, 1) := by decide +kernel
theorem dX6_init_18 : decode cX6_init 18 = .ok (.bipush 6, 2) := by decide +kernel
theorem dX6_init_20 : decode cX6_init 20 = .ok (.newarray .int, 2) := by decide +kernel
theorem dX6_init_22 : decode cX6_init 22 = .ok (.putfield 19, 3) := by decide +kernel
theorem dX6_init_25 : decode cX6_init 25 = .ok (.aload_n 0, 1) := by decide +kernel
theorem dX6_init_26 : decode cX6_init 26 = .ok (.bipush 6, 2) := by decide +kernel
theorem dX6_init_28 : decode cX6_init 28 = .ok (.newarray .int, 2) := by decide +kernel
theorem dX6_init_30 : decode cX6_init 30 = .ok (.putfield 23, 3) := by decide +kernel
theorem dX6_init_33 : decode cX6_init 33 = .ok (.aload_n 0, 1) := by decide +kernel
theorem dX6_init_34 : decode cX6_init 34 = .ok (.bipush 36, 2) := by decide +kernel
theorem dX6_init_36 : decode cX6_init 36 = .ok (.newarray .int, 2) := by decide +kernel
theorem dX6_init_38 : decode cX6_init 38 = .ok (.putfield 26, 3) := by decide +kernel
theorem dX6_init_41 : decode cX6_init 41 = .ok (.aload_n 0, 1) := by decide +kernel
theorem dX6_init_42 : decode cX6_init 42 = .ok (.iconst (-1), 1) := by decide +kernel
theorem dX6_init_43 : decode cX6_init 43 = .ok (.putfield 29, 3) := by decide +kernel
theorem dX6_init_46 : decode cX6_init 46 = .ok (.aload_n 0, 1) := by decide +kernel
theorem dX6_init_47 : decode cX6_init 47 = .ok (.bipush 6, 2) := by decide +kernel
theorem dX6_init_49 : decode cX6_init 49 = .ok (.newarray .long, 2) := by decide +kernel
theorem dX6_init_51 : decode cX6_init 51 = .ok (.putfield 32, 3) := by decide +kernel
theorem dX6_init_54 : decode cX6_init 54 = .ok (.aload_n 0, 1) := by decide +kernel
theorem dX6_init_55 : decode cX6_init 55 = .ok (.bipush 6, 2) := by decide +kernel
theorem dX6_init_57 : decode cX6_init 57 = .ok (.newarray .int, 2) := by decide +kernel
theorem dX6_init_59 : decode cX6_init 59 = .ok (.putfield 35, 3) := by decide +kernel
theorem dX6_init_62 : decode cX6_init 62 = .ok (.aload_n 0, 1) := by decide +kernel
theorem dX6_init_63 : decode cX6_init 63 = .ok (.bipush 6, 2) := by decide +kernel
theorem dX6_init_65 : decode cX6_init 65 = .ok (.newarray .int, 2) := by decide +kernel
theorem dX6_init_67 : decode cX6_init 67 = .ok (.putfield 38, 3) := by decide +kernel
theorem dX6_init_70 : decode cX6_init 70 = .ok (.aload_n 0, 1) := by decide +kernel
theorem dX6_init_71 : decode cX6_init 71 = .ok (.bipush 36, 2) := by decide +kernel
theorem dX6_init_73 : decode cX6_init 73 = .ok (.newarray .int, 2) := by decide +kernel
theorem dX6_init_75 : decode cX6_init 75 = .ok (.putfield 41, 3) := by decide +kernel
theorem dX6_init_78 : decode cX6_init 78 = .ok (.aload_n 0, 1) := by decide +kernel
theorem dX6_init_79 : decode cX6_init 79 = .ok (.iconst 4, 1) := by decide +kernel
theorem dX6_init_80 : decode cX6_init 80 = .ok (.newarray .int, 2) := by decide +kernel
theorem dX6_init_82 : decode cX6_init 82 = .ok (.putfield 44, 3) := by decide +kernel
theorem dX6_init_85 : decode cX6_init 85 = .ok (.aload_n 0, 1) := by decide +kernel
theorem dX6_init_86 : decode cX6_init 86 = .ok (.iconst 4, 1) := by decide +kernel
theorem dX6_init_87 : decode cX6_init 87 = .ok (.newarray .int, 2) := by decide +kernel
theorem dX6_init_89 : decode cX6_init 89 = .ok (.putfield 47, 3) := by decide +kernel
theorem dX6_init_92 : decode cX6_init 92 = .ok (.aload_n 0, 1) := by decide +kernel
theorem dX6_init_93 : decode cX6_init 93 = .ok (.sipush 320, 3) := by decide +kernel
theorem dX6_init_96 : decode cX6_init 96 = .ok (.newarray .long, 2) := by decide +kernel
