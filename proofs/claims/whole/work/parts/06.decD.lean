theorem dX6_changes_41 : decode cX6_changes 41 = .ok (.iload_n 3, 1) := by decide +kernel
theorem dX6_changes_42 : decode cX6_changes 42 = .ok (.iadd, 1) := by decide +kernel
theorem dX6_changes_43 : decode cX6_changes 43 = .ok (.iaload, 1) := by decide +kernel
theorem dX6_changes_44 : decode cX6_changes 44 = .ok (.iastore, 1) := by decide +kernel
theorem dX6_changes_45 : decode cX6_changes 45 = .ok (.aload_n 0, 1) := by decide +kernel
theorem dX6_changes_46 : decode cX6_changes 46 = .ok (.getfield 59, 3) := by decide +kernel
theorem dX6_changes_49 : decode cX6_changes 49 = .ok (.bipush 6, 2) := by decide +kernel
theorem dX6_changes_51 : decode cX6_changes 51 = .ok (.iload_n 2, 1) := by decide +kernel
theorem dX6_changes_52 : decode cX6_changes 52 = .ok (.imul, 1) := by decide +kernel
theorem dX6_changes_53 : decode cX6_changes 53 = .ok (.iload_n 3, 1) := by decide +kernel
theorem dX6_changes_54 : decode cX6_changes 54 = .ok (.iadd, 1) := by decide +kernel
theorem dX6_changes_55 : decode cX6_changes 55 = .ok (.iload 4, 2) := by decide +kernel
theorem dX6_changes_57 : decode cX6_changes 57 = .ok (.iastore, 1) := by decide +kernel
theorem dX6_changes_58 : decode cX6_changes 58 = .ok (.aload_n 0, 1) := by decide +kernel
theorem dX6_changes_59 : decode cX6_changes 59 = .ok (.getfield 62, 3) := by decide +kernel
theorem dX6_changes_62 : decode cX6_changes 62 = .ok (.bipush 6, 2) := by decide +kernel
theorem dX6_changes_64 : decode cX6_changes 64 = .ok (.iload_n 1, 1) := by decide +kernel
theorem dX6_changes_65 : decode cX6_changes 65 = .ok (.imul, 1) := by decide +kernel
theorem dX6_changes_66 : decode cX6_changes 66 = .ok (.iload_n 3, 1) := by decide +kernel
theorem dX6_changes_67 : decode cX6_changes 67 = .ok (.iadd, 1) := by decide +kernel
theorem dX6_changes_68 : decode cX6_changes 68 = .ok (.iaload, 1) := by decide +kernel
theorem dX6_changes_69 : decode cX6_changes 69 = .ok (.istore 4, 2) := by decide +kernel
theorem dX6_changes_71 : decode cX6_changes 71 = .ok (.aload_n 0, 1) := by decide +kernel
theorem dX6_changes_72 : decode cX6_changes 72 = .ok (.getfield 62, 3) := by decide +kernel
theorem dX6_changes_75 : decode cX6_changes 75 = .ok (.bipush 6, 2) := by decide +kernel
theorem dX6_changes_77 : decode cX6_changes 77 = .ok (.iload_n 1, 1) := by decide +kernel
theorem dX6_changes_78 : decode cX6_changes 78 = .ok (.imul, 1) := by decide +kernel
theorem dX6_changes_79 : decode cX6_changes 79 = .ok (.iload_n 3, 1) := by decide +kernel
theorem dX6_changes_80 : decode cX6_changes 80 = .ok (.iadd, 1) := by decide +kernel
theorem dX6_changes_81 : decode cX6_changes 81 = .ok (.aload_n 0, 1) := by decide +kernel
theorem dX6_changes_82 : decode cX6_changes 82 = .ok (.getfield 62, 3) := by decide +kernel
theorem dX6_changes_85 : decode cX6_changes 85 = .ok (.bipush 6, 2) := by decide +kernel
theorem dX6_changes_87 : decode cX6_changes 87 = .ok (.iload_n 2, 1) := by decide +kernel
theorem dX6_changes_88 : decode cX6_changes 88 = .ok (.imul, 1) := by decide +kernel
theorem dX6_changes_89 : decode cX6_changes 89 = .ok (.iload_n 3, 1) := by decide +kernel
theorem dX6_changes_90 : decode cX6_changes 90 = .ok (.iadd, 1) := by decide +kernel
theorem dX6_changes_91 : decode cX6_changes 91 = .ok (.iaload, 1) := by decide +kernel
theorem dX6_changes_92 : decode cX6_changes 92 = .ok (.iastore, 1) := by decide +kernel
theorem dX6_changes_93 : decode cX6_changes 93 = .ok (.aload_n 0, 1) := by decide +kernel
theorem dX6_changes_94 : decode cX6_changes 94 = .ok (.getfield 62, 3) := by decide +kernel
theorem dX6_changes_97 : decode cX6_changes 97 = .ok (.bipush 6, 2) := by decide +kernel
theorem dX6_changes_99 : decode cX6_changes 99 = .ok (.iload_n 2, 1) := by decide +kernel
theorem dX6_changes_100 : decode cX6_changes 100 = .ok (.imul, 1) := by decide +kernel
theorem dX6_changes_101 : decode cX6_changes 101 = .ok (.iload_n 3, 1) := by decide +kernel
theorem dX6_changes_102 : decode cX6_changes 102 = .ok (.iadd, 1) := by decide +kernel
theorem dX6_changes_103 : decode cX6_changes 103 = .ok (.iload 4, 2) := by decide +kernel
theorem dX6_changes_105 : decode cX6_changes 105 = .ok (.iastore, 1) := by decide +kernel
theorem dX6_changes_106 : decode cX6_changes 106 = .ok (.iinc 3 1, 3) := by decide +kernel
theorem dX6_changes_109 : decode cX6_changes 109 = .ok (.goto (-107), 3) := by decide +kernel
theorem dX6_changes_112 : decode cX6_changes 112 = .ok (.return_, 1) := by decide +kernel
set_option maxRecDepth 20000 in
theorem ggX6_adds_X6_modulo : GoodIn wsX6_adds wsX6_modulo := goodIn_r _ [7] (by decide +kernel) (by decide +kernel)
set_option maxRecDepth 20000 in
theorem gX6_adds_X6_modulo : GoodIn wsX6_adds (va_wsS RX6 162 yX6_modulo wsX6_modulo) := goodIn_app (goodIn_of _ (by decide +kernel)) ggX6_adds_X6_modulo
theorem dX6_adds_0 : decode cX6_adds 0 = .ok (.iconst 0, 1) := by decide +kernel
theorem dX6_adds_1 : decode cX6_adds 1 = .ok (.istore 4, 2) := by decide +kernel
theorem dX6_adds_3 : decode cX6_adds 3 = .ok (.iload 4, 2) := by decide +kernel
theorem dX6_adds_5 : decode cX6_adds 5 = .ok (.aload_n 0, 1) := by decide +kernel
theorem dX6_adds_6 : decode cX6_adds 6 = .ok (.getfield 165, 3) := by decide +kernel
theorem dX6_adds_9 : decode cX6_adds 9 = .ok (.if_icmp .ge 93, 3) := by decide +kernel
theorem dX6_adds_12 : decode cX6_adds 12 = .ok (.aload_n 0, 1) := by decide +kernel
theorem dX6_adds_13 : decode cX6_adds 13 = .ok (.getfield 59, 3) := by decide +kernel
theorem dX6_adds_16 : decode cX6_adds 16 = .ok (.bipush 6, 2) := by decide +kernel
theorem dX6_adds_18 : decode cX6_adds 18 = .ok (.iload_n 1, 1) := by decide +kernel
theorem dX6_adds_19 : decode cX6_adds 19 = .ok (.imul, 1) := by decide +kernel
theorem dX6_adds_20 : decode cX6_adds 20 = .ok (.iload 4, 2) := by decide +kernel
theorem dX6_adds_22 : decode cX6_adds 22 = .ok (.iadd, 1) := by decide +kernel
theorem dX6_adds_23 : decode cX6_adds 23 = .ok (.aload_n 0, 1) := by decide +kernel
theorem dX6_adds_24 : decode cX6_adds 24 = .ok (.getfield 59, 3) := by decide +kernel
theorem dX6_adds_27 : decode cX6_adds 27 = .ok (.bipush 6, 2) := by decide +kernel
theorem dX6_adds_29 : decode cX6_adds 29 = .ok (.iload_n 1, 1) := by decide +kernel
theorem dX6_adds_30 : decode cX6_adds 30 = .ok (.imul, 1) := by decide +kernel
theorem dX6_adds_31 : decode cX6_adds 31 = .ok (.iload 4, 2) := by decide +kernel
theorem dX6_adds_33 : decode cX6_adds 33 = .ok (.iadd, 1) := by decide +kernel
theorem dX6_adds_34 : decode cX6_adds 34 = .ok (.iaload, 1) := by decide +kernel
theorem dX6_adds_35 : decode cX6_adds 35 = .ok (.iload_n 3, 1) := by decide +kernel
theorem dX6_adds_36 : decode cX6_adds 36 = .ok (.aload_n 0, 1) := by decide +kernel
theorem dX6_adds_37 : decode cX6_adds 37 = .ok (.getfield 59, 3) := by decide +kernel
theorem dX6_adds_40 : decode cX6_adds 40 = .ok (.bipush 6, 2) := by decide +kernel
theorem dX6_adds_42 : decode cX6_adds 42 = .ok (.iload_n 2, 1) := by decide +kernel
theorem dX6_adds_43 : decode cX6_adds 43 = .ok (.imul, 1) := by decide +kernel
theorem dX6_adds_44 : decode cX6_adds 44 = .ok (.iload 4, 2) := by decide +kernel
theorem dX6_adds_46 : decode cX6_adds 46 = .ok (.iadd, 1) := by decide +kernel
theorem dX6_adds_47 : decode cX6_adds 47 = .ok (.iaload, 1) := by decide +kernel
theorem dX6_adds_48 : decode cX6_adds 48 = .ok (.imul, 1) := by decide +kernel
theorem dX6_adds_49 : decode cX6_adds 49 = .ok (.iadd, 1) := by decide +kernel
theorem dX6_adds_50 : decode cX6_adds 50 = .ok (.invokestatic 162, 3) := by decide +kernel
theorem dX6_adds_53 : decode cX6_adds 53 = .ok (.iastore, 1) := by decide +kernel
theorem dX6_adds_54 : decode cX6_adds 54 = .ok (.aload_n 0, 1) := by decide +kernel
theorem dX6_adds_55 : decode cX6_adds 55 = .ok (.getfield 62, 3) := by decide +kernel
theorem dX6_adds_58 : decode cX6_adds 58 = .ok (.bipush 6, 2) := by decide +kernel
theorem dX6_adds_60 : decode cX6_adds 60 = .ok (.iload_n 1, 1) := by decide +kernel
theorem dX6_adds_61 : decode cX6_adds 61 = .ok (.imul, 1) := by decide +kernel
theorem dX6_adds_62 : decode cX6_adds 62 = .ok (.iload 4, 2) := by decide +kernel
theorem dX6_adds_64 : decode cX6_adds 64 = .ok (.iadd, 1) := by decide +kernel
theorem dX6_adds_65 : decode cX6_adds 65 = .ok (.aload_n 0, 1) := by decide +kernel
theorem dX6_adds_66 : decode cX6_adds 66 = .ok (.getfield 62, 3) := by decide +kernel
theorem dX6_adds_69 : decode cX6_adds 69 = .ok (.bipush 6, 2) := by decide +kernel
theorem dX6_adds_71 : decode cX6_adds 71 = .ok (.iload_n 1, 1) := by decide +kernel
theorem dX6_adds_72 : decode cX6_adds 72 = .ok (.imul, 1) := by decide +kernel
theorem dX6_adds_73 : decode cX6_adds 73 = .ok (.iload 4, 2) := by decide +kernel
theorem dX6_adds_75 : decode cX6_adds 75 = .ok (.iadd, 1) := by decide +kernel
theorem dX6_adds_76 : decode cX6_adds 76 = .ok (.iaload, 1) := by decide +kernel
theorem dX6_adds_77 : decode cX6_adds 77 = .ok (.iload_n 3, 1) := by decide +kernel
theorem dX6_adds_78 : decode cX6_adds 78 = .ok (.aload_n 0, 1) := by decide +kernel
theorem dX6_adds_79 : decode cX6_adds 79 = .ok (.getfield 62, 3) := by decide +kernel
theorem dX6_adds_82 : decode cX6_adds 82 = .ok (.bipush 6, 2) := by decide +kernel
theorem dX6_adds_84 : decode cX6_adds 84 = .ok (.iload_n 2, 1) := by decide +kernel
theorem dX6_adds_85 : decode cX6_adds 85 = .ok (.imul, 1) := by decide +kernel
theorem dX6_adds_86 : decode cX6_adds 86 = .ok (.iload 4, 2) := by decide +kernel
theorem dX6_adds_88 : decode cX6_adds 88 = .ok (.iadd, 1) := by decide +kernel
theorem dX6_adds_89 : decode cX6_adds 89 = .ok (.iaload, 1) := by decide +kernel
theorem dX6_adds_90 : decode cX6_adds 90 = .ok (.imul, 1) := by decide +kernel
theorem dX6_adds_91 : decode cX6_adds 91 = .ok (.iadd, 1) := by decide +kernel
theorem dX6_adds_92 : decode cX6_adds 92 = .ok (.invokestatic 162, 3) := by decide +kernel
theorem dX6_adds_95 : decode cX6_adds 95 = .ok (.iastore, 1) := by decide +kernel
theorem dX6_adds_96 : decode cX6_adds 96 = .ok (.iinc 4 1, 3) := by decide +kernel
theorem dX6_adds_99 : decode cX6_adds 99 = .ok (.goto (-96), 3) := by decide +kernel
theorem dX6_adds_102 : decode cX6_adds 102 = .ok (.return_, 1) := by decide +kernel
theorem dX6_divides_0 : decode cX6_divides 0 = .ok (.iconst 0, 1) := by decide +kernel
theorem dX6_divides_1 : decode cX6_divides 1 = .ok (.istore_n 3, 1) := by decide +kernel
theorem dX6_divides_2 : decode cX6_divides 2 = .ok (.iload_n 3, 1) := by decide +kernel
theorem dX6_divides_3 : decode cX6_divides 3 = .ok (.aload_n 0, 1) := by decide +kernel
theorem dX6_divides_4 : decode cX6_divides 4 = .ok (.getfield 165, 3) := by decide +kernel
theorem dX6_divides_7 : decode cX6_divides 7 = .ok (.if_icmp .ge 63, 3) := by decide +kernel
theorem dX6_divides_10 : decode cX6_divides 10 = .ok (.aload_n 0, 1) := by decide +kernel
theorem dX6_divides_11 : decode cX6_divides 11 = .ok (.getfield 59, 3) := by decide +kernel
theorem dX6_divides_14 : decode cX6_divides 14 = .ok (.bipush 6, 2) := by decide +kernel
theorem dX6_divides_16 : decode cX6_divides 16 = .ok (.iload_n 1, 1) := by decide +kernel
theorem dX6_divides_17 : decode cX6_divides 17 = .ok (.imul, 1) := by decide +kernel
theorem dX6_divides_18 : decode cX6_divides 18 = .ok (.iload_n 3, 1) := by decide +kernel
theorem dX6_divides_19 : decode cX6_divides 19 = .ok (.iadd, 1) := by decide +kernel
theorem dX6_divides_20 : decode cX6_divides 20 = .ok (.aload_n 0, 1) := by decide +kernel
theorem dX6_divides_21 : decode cX6_divides 21 = .ok (.getfield 59, 3) := by decide +kernel
theorem dX6_divides_24 : decode cX6_divides 24 = .ok (.bipush 6, 2) := by decide +kernel
theorem dX6_divides_26 : decode cX6_divides 26 = .ok (.iload_n 1, 1) := by decide +kernel
theorem dX6_divides_27 : decode cX6_divides 27 = .ok (.imul, 1) := by decide +kernel
theorem dX6_divides_28 : decode cX6_divides 28 = .ok (.iload_n 3, 1) := by decide +kernel
theorem dX6_divides_29 : decode cX6_divides 29 = .ok (.iadd, 1) := by decide +kernel
theorem dX6_divides_30 : decode cX6_divides 30 = .ok (.iaload, 1) := by decide +kernel
theorem dX6_divides_31 : decode cX6_divides 31 = .ok (.iload_n 2, 1) := by decide +kernel
theorem dX6_divides_32 : decode cX6_divides 32 = .ok (.imul, 1) := by decide +kernel
theorem dX6_divides_33 : decode cX6_divides 33 = .ok (.bipush 7, 2) := by decide +kernel
theorem dX6_divides_35 : decode cX6_divides 35 = .ok (.irem, 1) := by decide +kernel
theorem dX6_divides_36 : decode cX6_divides 36 = .ok (.iastore, 1) := by decide +kernel
theorem dX6_divides_37 : decode cX6_divides 37 = .ok (.aload_n 0, 1) := by decide +kernel
theorem dX6_divides_38 : decode cX6_divides 38 = .ok (.getfield 62, 3) := by decide +kernel
theorem dX6_divides_41 : decode cX6_divides 41 = .ok (.bipush 6, 2) := by decide +kernel
theorem dX6_divides_43 : decode cX6_divides 43 = .ok (.iload_n 1, 1) := by decide +kernel
theorem dX6_divides_44 : decode cX6_divides 44 = .ok (.imul, 1) := by decide +kernel
theorem dX6_divides_45 : decode cX6_divides 45 = .ok (.iload_n 3, 1) := by decide +kernel
theorem dX6_divides_46 : decode cX6_divides 46 = .ok (.iadd, 1) := by decide +kernel
theorem dX6_divides_47 : decode cX6_divides 47 = .ok (.aload_n 0, 1) := by decide +kernel
theorem dX6_divides_48 : decode cX6_divides 48 = .ok (.getfield 62, 3) := by decide +kernel
theorem dX6_divides_51 : decode cX6_divides 51 = .ok (.bipush 6, 2) := by decide +kernel
theorem dX6_divides_53 : decode cX6_divides 53 = .ok (.iload_n 1, 1) := by decide +kernel
theorem dX6_divides_54 : decode cX6_divides 54 = .ok (.imul, 1) := by decide +kernel
theorem dX6_divides_55 : decode cX6_divides 55 = .ok (.iload_n 3, 1) := by decide +kernel
theorem dX6_divides_56 : decode cX6_divides 56 = .ok (.iadd, 1) := by decide +kernel
theorem dX6_divides_57 : decode cX6_divides 57 = .ok (.iaload, 1) := by decide +kernel
theorem dX6_divides_58 : decode cX6_divides 58 = .ok (.iload_n 2, 1) := by decide +kernel
theorem dX6_divides_59 : decode cX6_divides 59 = .ok (.imul, 1) := by decide +kernel
theorem dX6_divides_60 : decode cX6_divides 60 = .ok (.bipush 7, 2) := by decide +kernel
theorem dX6_divides_62 : decode cX6_divides 62 = .ok (.irem, 1) := by decide +kernel
theorem dX6_divides_63 : decode cX6_divides 63 = .ok (.iastore, 1) := by decide +kernel
theorem dX6_divides_64 : decode cX6_divides 64 = .ok (.iinc 3 1, 3) := by decide +kernel
theorem dX6_divides_67 : decode cX6_divides 67 = .ok (.goto (-65), 3) := by decide +kernel
theorem dX6_divides_70 : decode cX6_divides 70 = .ok (.return_, 1) := by decide +kernel
set_option maxRecDepth 20000 in
theorem ggX6_wholeOf_X6_loads : GoodIn wsX6_wholeOf wsX6_loads := goodIn_r _ [7, 1, 8, 9, 2, 10, 11, 30, 31, 32, 33, 34, 35, 36, 37, 38, 39, 40, 41, 42, 43, 44, 45, 46, 47, 48, 49, 50, 51, 52, 53, 54] (by decide +kernel) (by decide +kernel)
set_option maxRecDepth 20000 in
theorem gX6_wholeOf_X6_loads : GoodIn wsX6_wholeOf (wsV RX6 168 RX6 yX6_loads wsX6_loads) := goodIn_app (goodIn_of _ (by decide +kernel)) ggX6_wholeOf_X6_loads
set_option maxRecDepth 20000 in
theorem ggX6_wholeOf_X6_changes : GoodIn wsX6_wholeOf wsX6_changes := goodIn_r _ [15, 1, 2, 11, 30, 31, 32, 33, 34, 35, 36, 37, 38, 39, 40, 41, 42, 43, 44, 45, 46, 47, 48, 49, 50, 51, 52, 53, 54] (by decide +kernel) (by decide +kernel)
set_option maxRecDepth 20000 in
theorem gX6_wholeOf_X6_changes : GoodIn wsX6_wholeOf (wsV RX6 172 RX6 yX6_changes wsX6_changes) := goodIn_app (goodIn_of _ (by decide +kernel)) ggX6_wholeOf_X6_changes
set_option maxRecDepth 20000 in
theorem ggX6_wholeOf_X6_modulo : GoodIn wsX6_wholeOf wsX6_modulo := goodIn_r _ [18] (by decide +kernel) (by decide +kernel)
set_option maxRecDepth 20000 in
theorem gX6_wholeOf_X6_modulo : GoodIn wsX6_wholeOf (va_wsS RX6 162 yX6_modulo wsX6_modulo) := goodIn_app (goodIn_of _ (by decide +kernel)) ggX6_wholeOf_X6_modulo
set_option maxRecDepth 20000 in
theorem ggX6_wholeOf_X6_inverse : GoodIn wsX6_wholeOf wsX6_inverse := goodIn_r _ [21] (by decide +kernel) (by decide +kernel)
set_option maxRecDepth 20000 in
theorem gX6_wholeOf_X6_inverse : GoodIn wsX6_wholeOf (va_wsS RX6 176 yX6_inverse wsX6_inverse) := goodIn_app (goodIn_of _ (by decide +kernel)) ggX6_wholeOf_X6_inverse
set_option maxRecDepth 20000 in
theorem ggX6_wholeOf_X6_divides : GoodIn wsX6_wholeOf wsX6_divides := goodIn_r _ [25, 1, 2, 11, 30, 31, 32, 33, 34, 35, 36, 37, 38, 39, 40, 41, 42, 43, 44, 45, 46, 47, 48, 49, 50, 51, 52, 53, 54] (by decide +kernel) (by decide +kernel)
set_option maxRecDepth 20000 in
theorem gX6_wholeOf_X6_divides : GoodIn wsX6_wholeOf (wsV RX6 179 RX6 yX6_divides wsX6_divides) := goodIn_app (goodIn_of _ (by decide +kernel)) ggX6_wholeOf_X6_divides
set_option maxRecDepth 20000 in
theorem ggX6_wholeOf_X6_adds : GoodIn wsX6_wholeOf wsX6_adds := goodIn_r _ [29, 1, 2, 11, 16, 17, 6, 18, 30, 31, 32, 33, 34, 35, 36, 37, 38, 39, 40, 41, 42, 43, 44, 45, 46, 47, 48, 49, 50, 51, 52, 53, 54] (by decide +kernel) (by decide +kernel)
set_option maxRecDepth 20000 in
theorem gX6_wholeOf_X6_adds : GoodIn wsX6_wholeOf (wsV RX6 182 RX6 yX6_adds wsX6_adds) := goodIn_app (goodIn_of _ (by decide +kernel)) ggX6_wholeOf_X6_adds
theorem dX6_wholeOf_0 : decode cX6_wholeOf 0 = .ok (.aload_n 0, 1) := by decide +kernel
theorem dX6_wholeOf_1 : decode cX6_wholeOf 1 = .ok (.iload_n 1, 1) := by decide +kernel
theorem dX6_wholeOf_2 : decode cX6_wholeOf 2 = .ok (.invokevirtual 168, 3) := by decide +kernel
theorem dX6_wholeOf_5 : decode cX6_wholeOf 5 = .ok (.iconst 1, 1) := by decide +kernel
theorem dX6_wholeOf_6 : decode cX6_wholeOf 6 = .ok (.istore_n 2, 1) := by decide +kernel
theorem dX6_wholeOf_7 : decode cX6_wholeOf 7 = .ok (.iconst 0, 1) := by decide +kernel
theorem dX6_wholeOf_8 : decode cX6_wholeOf 8 = .ok (.istore_n 3, 1) := by decide +kernel
theorem dX6_wholeOf_9 : decode cX6_wholeOf 9 = .ok (.iload_n 3, 1) := by decide +kernel
theorem dX6_wholeOf_10 : decode cX6_wholeOf 10 = .ok (.aload_n 0, 1) := by decide +kernel
theorem dX6_wholeOf_11 : decode cX6_wholeOf 11 = .ok (.getfield 165, 3) := by decide +kernel
theorem dX6_wholeOf_14 : decode cX6_wholeOf 14 = .ok (.if_icmp .ge 155, 3) := by decide +kernel
theorem dX6_wholeOf_17 : decode cX6_wholeOf 17 = .ok (.iload_n 3, 1) := by decide +kernel
theorem dX6_wholeOf_18 : decode cX6_wholeOf 18 = .ok (.istore 4, 2) := by decide +kernel
theorem dX6_wholeOf_20 : decode cX6_wholeOf 20 = .ok (.iload 4, 2) := by decide +kernel
theorem dX6_wholeOf_22 : decode cX6_wholeOf 22 = .ok (.aload_n 0, 1) := by decide +kernel
theorem dX6_wholeOf_23 : decode cX6_wholeOf 23 = .ok (.getfield 165, 3) := by decide +kernel
theorem dX6_wholeOf_26 : decode cX6_wholeOf 26 = .ok (.if_icmp .ge 24, 3) := by decide +kernel
theorem dX6_wholeOf_29 : decode cX6_wholeOf 29 = .ok (.aload_n 0, 1) := by decide +kernel
theorem dX6_wholeOf_30 : decode cX6_wholeOf 30 = .ok (.getfield 59, 3) := by decide +kernel
theorem dX6_wholeOf_33 : decode cX6_wholeOf 33 = .ok (.bipush 6, 2) := by decide +kernel
theorem dX6_wholeOf_35 : decode cX6_wholeOf 35 = .ok (.iload 4, 2) := by decide +kernel
theorem dX6_wholeOf_37 : decode cX6_wholeOf 37 = .ok (.imul, 1) := by decide +kernel
theorem dX6_wholeOf_38 : decode cX6_wholeOf 38 = .ok (.iload_n 3, 1) := by decide +kernel
theorem dX6_wholeOf_39 : decode cX6_wholeOf 39 = .ok (.iadd, 1) := by decide +kernel
theorem dX6_wholeOf_40 : decode cX6_wholeOf 40 = .ok (.iaload, 1) := by decide +kernel
theorem dX6_wholeOf_41 : decode cX6_wholeOf 41 = .ok (.ifCond .ne 9, 3) := by decide +kernel
theorem dX6_wholeOf_44 : decode cX6_wholeOf 44 = .ok (.iinc 4 1, 3) := by decide +kernel
theorem dX6_wholeOf_47 : decode cX6_wholeOf 47 = .ok (.goto (-27), 3) := by decide +kernel
theorem dX6_wholeOf_50 : decode cX6_wholeOf 50 = .ok (.iload 4, 2) := by decide +kernel
theorem dX6_wholeOf_52 : decode cX6_wholeOf 52 = .ok (.aload_n 0, 1) := by decide +kernel
theorem dX6_wholeOf_53 : decode cX6_wholeOf 53 = .ok (.getfield 165, 3) := by decide +kernel
theorem dX6_wholeOf_56 : decode cX6_wholeOf 56 = .ok (.if_icmp .ne 5, 3) := by decide +kernel
theorem dX6_wholeOf_59 : decode cX6_wholeOf 59 = .ok (.iconst 0, 1) := by decide +kernel
theorem dX6_wholeOf_60 : decode cX6_wholeOf 60 = .ok (.ireturn, 1) := by decide +kernel
theorem dX6_wholeOf_61 : decode cX6_wholeOf 61 = .ok (.iload 4, 2) := by decide +kernel
theorem dX6_wholeOf_63 : decode cX6_wholeOf 63 = .ok (.iload_n 3, 1) := by decide +kernel
theorem dX6_wholeOf_64 : decode cX6_wholeOf 64 = .ok (.if_icmp .eq 16, 3) := by decide +kernel
theorem dX6_wholeOf_67 : decode cX6_wholeOf 67 = .ok (.aload_n 0, 1) := by decide +kernel
theorem dX6_wholeOf_68 : decode cX6_wholeOf 68 = .ok (.iload 4, 2) := by decide +kernel
theorem dX6_wholeOf_70 : decode cX6_wholeOf 70 = .ok (.iload_n 3, 1) := by decide +kernel
theorem dX6_wholeOf_71 : decode cX6_wholeOf 71 = .ok (.invokevirtual 172, 3) := by decide +kernel
theorem dX6_wholeOf_74 : decode cX6_wholeOf 74 = .ok (.iload_n 2, 1) := by decide +kernel
theorem dX6_wholeOf_75 : decode cX6_wholeOf 75 = .ok (.ineg, 1) := by decide +kernel
theorem dX6_wholeOf_76 : decode cX6_wholeOf 76 = .ok (.invokestatic 162, 3) := by decide +kernel
theorem dX6_wholeOf_79 : decode cX6_wholeOf 79 = .ok (.istore_n 2, 1) := by decide +kernel
theorem dX6_wholeOf_80 : decode cX6_wholeOf 80 = .ok (.iload_n 2, 1) := by decide +kernel
theorem dX6_wholeOf_81 : decode cX6_wholeOf 81 = .ok (.aload_n 0, 1) := by decide +kernel
theorem dX6_wholeOf_82 : decode cX6_wholeOf 82 = .ok (.getfield 59, 3) := by decide +kernel
theorem dX6_wholeOf_85 : decode cX6_wholeOf 85 = .ok (.bipush 6, 2) := by decide +kernel
theorem dX6_wholeOf_87 : decode cX6_wholeOf 87 = .ok (.iload_n 3, 1) := by decide +kernel
theorem dX6_wholeOf_88 : decode cX6_wholeOf 88 = .ok (.imul, 1) := by decide +kernel
theorem dX6_wholeOf_89 : decode cX6_wholeOf 89 = .ok (.iload_n 3, 1) := by decide +kernel
theorem dX6_wholeOf_90 : decode cX6_wholeOf 90 = .ok (.iadd, 1) := by decide +kernel
theorem dX6_wholeOf_91 : decode cX6_wholeOf 91 = .ok (.iaload, 1) := by decide +kernel
theorem dX6_wholeOf_92 : decode cX6_wholeOf 92 = .ok (.imul, 1) := by decide +kernel
theorem dX6_wholeOf_93 : decode cX6_wholeOf 93 = .ok (.bipush 7, 2) := by decide +kernel
theorem dX6_wholeOf_95 : decode cX6_wholeOf 95 = .ok (.irem, 1) := by decide +kernel
theorem dX6_wholeOf_96 : decode cX6_wholeOf 96 = .ok (.istore_n 2, 1) := by decide +kernel
theorem dX6_wholeOf_97 : decode cX6_wholeOf 97 = .ok (.aload_n 0, 1) := by decide +kernel
theorem dX6_wholeOf_98 : decode cX6_wholeOf 98 = .ok (.iload_n 3, 1) := by decide +kernel
theorem dX6_wholeOf_99 : decode cX6_wholeOf 99 = .ok (.aload_n 0, 1) := by decide +kernel
theorem dX6_wholeOf_100 : decode cX6_wholeOf 100 = .ok (.getfield 59, 3) := by decide +kernel
theorem dX6_wholeOf_103 : decode cX6_wholeOf 103 = .ok (.bipush 6, 2) := by decide +kernel
theorem dX6_wholeOf_105 : decode cX6_wholeOf 105 = .ok (.iload_n 3, 1) := by decide +kernel
theorem dX6_wholeOf_106 : decode cX6_wholeOf 106 = .ok (.imul, 1) := by decide +kernel
theorem dX6_wholeOf_107 : decode cX6_wholeOf 107 = .ok (.iload_n 3, 1) := by decide +kernel
theorem dX6_wholeOf_108 : decode cX6_wholeOf 108 = .ok (.iadd, 1) := by decide +kernel
theorem dX6_wholeOf_109 : decode cX6_wholeOf 109 = .ok (.iaload, 1) := by decide +kernel
theorem dX6_wholeOf_110 : decode cX6_wholeOf 110 = .ok (.invokestatic 176, 3) := by decide +kernel
theorem dX6_wholeOf_113 : decode cX6_wholeOf 113 = .ok (.invokevirtual 179, 3) := by decide +kernel
theorem dX6_wholeOf_116 : decode cX6_wholeOf 116 = .ok (.iconst 0, 1) := by decide +kernel
theorem dX6_wholeOf_117 : decode cX6_wholeOf 117 = .ok (.istore 5, 2) := by decide +kernel
theorem dX6_wholeOf_119 : decode cX6_wholeOf 119 = .ok (.iload 5, 2) := by decide +kernel
theorem dX6_wholeOf_121 : decode cX6_wholeOf 121 = .ok (.aload_n 0, 1) := by decide +kernel
theorem dX6_wholeOf_122 : decode cX6_wholeOf 122 = .ok (.getfield 165, 3) := by decide +kernel
theorem dX6_wholeOf_125 : decode cX6_wholeOf 125 = .ok (.if_icmp .ge 38, 3) := by decide +kernel
theorem dX6_wholeOf_128 : decode cX6_wholeOf 128 = .ok (.iload 5, 2) := by decide +kernel
theorem dX6_wholeOf_130 : decode cX6_wholeOf 130 = .ok (.iload_n 3, 1) := by decide +kernel
theorem dX6_wholeOf_131 : decode cX6_wholeOf 131 = .ok (.if_icmp .eq 26, 3) := by decide +kernel
theorem dX6_wholeOf_134 : decode cX6_wholeOf 134 = .ok (.aload_n 0, 1) := by decide +kernel
theorem dX6_wholeOf_135 : decode cX6_wholeOf 135 = .ok (.iload 5, 2) := by decide +kernel
theorem dX6_wholeOf_137 : decode cX6_wholeOf 137 = .ok (.iload_n 3, 1) := by decide +kernel
theorem dX6_wholeOf_138 : decode cX6_wholeOf 138 = .ok (.aload_n 0, 1) := by decide +kernel
theorem dX6_wholeOf_139 : decode cX6_wholeOf 139 = .ok (.getfield 59, 3) := by decide +kernel
theorem dX6_wholeOf_142 : decode cX6_wholeOf 142 = .ok (.bipush 6, 2) := by decide +kernel
theorem dX6_wholeOf_144 : decode cX6_wholeOf 144 = .ok (.iload 5, 2) := by decide +kernel
theorem dX6_wholeOf_146 : decode cX6_wholeOf 146 = .ok (.imul, 1) := by decide +kernel
theorem dX6_wholeOf_147 : decode cX6_wholeOf 147 = .ok (.iload_n 3, 1) := by decide +kernel
theorem dX6_wholeOf_148 : decode cX6_wholeOf 148 = .ok (.iadd, 1) := by decide +kernel
theorem dX6_wholeOf_149 : decode cX6_wholeOf 149 = .ok (.iaload, 1) := by decide +kernel
theorem dX6_wholeOf_150 : decode cX6_wholeOf 150 = .ok (.ineg, 1) := by decide +kernel
theorem dX6_wholeOf_151 : decode cX6_wholeOf 151 = .ok (.invokestatic 162, 3) := by decide +kernel
theorem dX6_wholeOf_154 : decode cX6_wholeOf 154 = .ok (.invokevirtual 182, 3) := by decide +kernel
theorem dX6_wholeOf_157 : decode cX6_wholeOf 157 = .ok (.iinc 5 1, 3) := by decide +kernel
theorem dX6_wholeOf_160 : decode cX6_wholeOf 160 = .ok (.goto (-41), 3) := by decide +kernel
theorem dX6_wholeOf_163 : decode cX6_wholeOf 163 = .ok (.iinc 3 1, 3) := by decide +kernel
theorem dX6_wholeOf_166 : decode cX6_wholeOf 166 = .ok (.goto (-157), 3) := by decide +kernel
theorem dX6_wholeOf_169 : decode cX6_wholeOf 169 = .ok (.iload_n 2, 1) := by decide +kernel
theorem dX6_wholeOf_170 : decode cX6_wholeOf 170 = .ok (.ireturn, 1) := by decide +kernel
set_option maxRecDepth 20000 in
theorem ggX6_whole_X6_isSet : GoodIn wsX6_whole wsX6_isSet := goodIn_r _ [5, 6, 7, 8, 4, 9, 41, 42, 43, 44, 45, 46, 47, 48, 49, 50, 51, 52, 53, 54, 55, 56, 57, 58, 59, 60, 61, 62, 63, 64, 65] (by decide +kernel) (by decide +kernel)
set_option maxRecDepth 20000 in
theorem gX6_whole_X6_isSet : GoodIn wsX6_whole (wsV RX6 100 RX6 yX6_isSet wsX6_isSet) := goodIn_app (goodIn_of _ (by decide +kernel)) ggX6_whole_X6_isSet
set_option maxRecDepth 20000 in
theorem ggX6_whole_X6_wholeOf : GoodIn wsX6_whole wsX6_wholeOf := goodIn_r _ [13, 14, 15, 16, 17, 18, 4, 19, 6, 20, 21, 22, 23, 24, 25, 26, 27, 28, 29, 30, 31, 32, 33, 34, 35, 36, 37, 38, 39, 40, 41, 42, 43, 44, 45, 46, 47, 48, 49, 50, 51, 52, 53, 54, 55, 56, 57, 58, 59, 60, 61, 62, 63, 64, 65] (by decide +kernel) (by decide +kernel)
set_option maxRecDepth 20000 in
theorem gX6_whole_X6_wholeOf : GoodIn wsX6_whole (wsV RX6 115 RX6 yX6_wholeOf wsX6_wholeOf) := goodIn_app (goodIn_of _ (by decide +kernel)) ggX6_whole_X6_wholeOf
theorem dX6_whole_0 : decode cX6_whole 0 = .ok (.aload_n 0, 1) := by decide +kernel
theorem dX6_whole_1 : decode cX6_whole 1 = .ok (.iload_n 1, 1) := by decide +kernel
theorem dX6_whole_2 : decode cX6_whole 2 = .ok (.invokevirtual 100, 3) := by decide +kernel
theorem dX6_whole_5 : decode cX6_whole 5 = .ok (.ifCond .eq 11, 3) := by decide +kernel
theorem dX6_whole_8 : decode cX6_whole 8 = .ok (.aload_n 0, 1) := by decide +kernel
theorem dX6_whole_9 : decode cX6_whole 9 = .ok (.iload_n 1, 1) := by decide +kernel
theorem dX6_whole_10 : decode cX6_whole 10 = .ok (.invokevirtual 115, 3) := by decide +kernel
theorem dX6_whole_13 : decode cX6_whole 13 = .ok (.goto 5, 3) := by decide +kernel
theorem dX6_whole_16 : decode cX6_whole 16 = .ok (.bipush (-2), 2) := by decide +kernel
theorem dX6_whole_18 : decode cX6_whole 18 = .ok (.ireturn, 1) := by decide +kernel
theorem dX6_entries_0 : decode cX6_entries 0 = .ok (.iconst 0, 1) := by decide +kernel
theorem dX6_entries_1 : decode cX6_entries 1 = .ok (.istore_n 1, 1) := by decide +kernel
theorem dX6_entries_2 : decode cX6_entries 2 = .ok (.iconst 0, 1) := by decide +kernel
theorem dX6_entries_3 : decode cX6_entries 3 = .ok (.istore_n 2, 1) := by decide +kernel
theorem dX6_entries_4 : decode cX6_entries 4 = .ok (.iload_n 2, 1) := by decide +kernel
theorem dX6_entries_5 : decode cX6_entries 5 = .ok (.bipush 36, 2) := by decide +kernel
theorem dX6_entries_7 : decode cX6_entries 7 = .ok (.if_icmp .ge 26, 3) := by decide +kernel
theorem dX6_entries_10 : decode cX6_entries 10 = .ok (.iload_n 1, 1) := by decide +kernel
theorem dX6_entries_11 : decode cX6_entries 11 = .ok (.aload_n 0, 1) := by decide +kernel
theorem dX6_entries_12 : decode cX6_entries 12 = .ok (.getfield 26, 3) := by decide +kernel
theorem dX6_entries_15 : decode cX6_entries 15 = .ok (.iload_n 2, 1) := by decide +kernel
theorem dX6_entries_16 : decode cX6_entries 16 = .ok (.iaload, 1) := by decide +kernel
theorem dX6_entries_17 : decode cX6_entries 17 = .ok (.ifCond .ne 7, 3) := by decide +kernel
theorem dX6_entries_20 : decode cX6_entries 20 = .ok (.iconst 0, 1) := by decide +kernel
theorem dX6_entries_21 : decode cX6_entries 21 = .ok (.goto 4, 3) := by decide +kernel
theorem dX6_entries_24 : decode cX6_entries 24 = .ok (.iconst 1, 1) := by decide +kernel
theorem dX6_entries_25 : decode cX6_entries 25 = .ok (.iadd, 1) := by decide +kernel
theorem dX6_entries_26 : decode cX6_entries 26 = .ok (.istore_n 1, 1) := by decide +kernel
theorem dX6_entries_27 : decode cX6_entries 27 = .ok (.iinc 2 1, 3) := by decide +kernel
theorem dX6_entries_30 : decode cX6_entries 30 = .ok (.goto (-26), 3) := by decide +kernel
theorem dX6_entries_33 : decode cX6_entries 33 = .ok (.iload_n 1, 1) := by decide +kernel
theorem dX6_entries_34 : decode cX6_entries 34 = .ok (.ireturn, 1) := by decide +kernel
set_option maxRecDepth 20000 in
theorem ggX6_times_X6_modulo : GoodIn wsX6_times wsX6_modulo := goodIn_r _ [7] (by decide +kernel) (by decide +kernel)
set_option maxRecDepth 20000 in
theorem gX6_times_X6_modulo : GoodIn wsX6_times (va_wsS RX6 162 yX6_modulo wsX6_modulo) := goodIn_app (goodIn_of _ (by decide +kernel)) ggX6_times_X6_modulo
theorem dX6_times_0 : decode cX6_times 0 = .ok (.iconst 0, 1) := by decide +kernel
theorem dX6_times_1 : decode cX6_times 1 = .ok (.istore_n 3, 1) := by decide +kernel
theorem dX6_times_2 : decode cX6_times 2 = .ok (.iconst 0, 1) := by decide +kernel
theorem dX6_times_3 : decode cX6_times 3 = .ok (.istore 4, 2) := by decide +kernel
theorem dX6_times_5 : decode cX6_times 5 = .ok (.iload 4, 2) := by decide +kernel
theorem dX6_times_7 : decode cX6_times 7 = .ok (.aload_n 0, 1) := by decide +kernel
theorem dX6_times_8 : decode cX6_times 8 = .ok (.getfield 9, 3) := by decide +kernel
theorem dX6_times_11 : decode cX6_times 11 = .ok (.if_icmp .ge 37, 3) := by decide +kernel
theorem dX6_times_14 : decode cX6_times 14 = .ok (.iload_n 3, 1) := by decide +kernel
theorem dX6_times_15 : decode cX6_times 15 = .ok (.aload_n 0, 1) := by decide +kernel
theorem dX6_times_16 : decode cX6_times 16 = .ok (.getfield 71, 3) := by decide +kernel
theorem dX6_times_19 : decode cX6_times 19 = .ok (.bipush 6, 2) := by decide +kernel
theorem dX6_times_21 : decode cX6_times 21 = .ok (.iload_n 1, 1) := by decide +kernel
theorem dX6_times_22 : decode cX6_times 22 = .ok (.imul, 1) := by decide +kernel
theorem dX6_times_23 : decode cX6_times 23 = .ok (.iload 4, 2) := by decide +kernel
theorem dX6_times_25 : decode cX6_times 25 = .ok (.iadd, 1) := by decide +kernel
theorem dX6_times_26 : decode cX6_times 26 = .ok (.iaload, 1) := by decide +kernel
theorem dX6_times_27 : decode cX6_times 27 = .ok (.aload_n 0, 1) := by decide +kernel
theorem dX6_times_28 : decode cX6_times 28 = .ok (.getfield 68, 3) := by decide +kernel
theorem dX6_times_31 : decode cX6_times 31 = .ok (.bipush 6, 2) := by decide +kernel
theorem dX6_times_33 : decode cX6_times 33 = .ok (.iload 4, 2) := by decide +kernel
theorem dX6_times_35 : decode cX6_times 35 = .ok (.imul, 1) := by decide +kernel
theorem dX6_times_36 : decode cX6_times 36 = .ok (.iload_n 2, 1) := by decide +kernel
theorem dX6_times_37 : decode cX6_times 37 = .ok (.iadd, 1) := by decide +kernel
theorem dX6_times_38 : decode cX6_times 38 = .ok (.iaload, 1) := by decide +kernel
theorem dX6_times_39 : decode cX6_times 39 = .ok (.imul, 1) := by decide +kernel
theorem dX6_times_40 : decode cX6_times 40 = .ok (.iadd, 1) := by decide +kernel
theorem dX6_times_41 : decode cX6_times 41 = .ok (.istore_n 3, 1) := by decide +kernel
theorem dX6_times_42 : decode cX6_times 42 = .ok (.iinc 4 1, 3) := by decide +kernel
theorem dX6_times_45 : decode cX6_times 45 = .ok (.goto (-40), 3) := by decide +kernel
theorem dX6_times_48 : decode cX6_times 48 = .ok (.iload_n 3, 1) := by decide +kernel
theorem dX6_times_49 : decode cX6_times 49 = .ok (.invokestatic 162, 3) := by decide +kernel
theorem dX6_times_52 : decode cX6_times 52 = .ok (.ireturn, 1) := by decide +kernel
set_option maxRecDepth 20000 in
theorem ggX6_timesBehind_X6_modulo : GoodIn wsX6_timesBehind wsX6_modulo := goodIn_r _ [7] (by decide +kernel) (by decide +kernel)
set_option maxRecDepth 20000 in
theorem gX6_timesBehind_X6_modulo : GoodIn wsX6_timesBehind (va_wsS RX6 162 yX6_modulo wsX6_modulo) := goodIn_app (goodIn_of _ (by decide +kernel)) ggX6_timesBehind_X6_modulo
theorem dX6_timesBehind_0 : decode cX6_timesBehind 0 = .ok (.iconst 0, 1) := by decide +kernel
theorem dX6_timesBehind_1 : decode cX6_timesBehind 1 = .ok (.istore_n 3, 1) := by decide +kernel
theorem dX6_timesBehind_2 : decode cX6_timesBehind 2 = .ok (.iconst 0, 1) := by decide +kernel
theorem dX6_timesBehind_3 : decode cX6_timesBehind 3 = .ok (.istore 4, 2) := by decide +kernel
theorem dX6_timesBehind_5 : decode cX6_timesBehind 5 = .ok (.iload 4, 2) := by decide +kernel
theorem dX6_timesBehind_7 : decode cX6_timesBehind 7 = .ok (.aload_n 0, 1) := by decide +kernel
theorem dX6_timesBehind_8 : decode cX6_timesBehind 8 = .ok (.getfield 9, 3) := by decide +kernel
theorem dX6_timesBehind_11 : decode cX6_timesBehind 11 = .ok (.if_icmp .ge 37, 3) := by decide +kernel
theorem dX6_timesBehind_14 : decode cX6_timesBehind 14 = .ok (.iload_n 3, 1) := by decide +kernel
theorem dX6_timesBehind_15 : decode cX6_timesBehind 15 = .ok (.aload_n 0, 1) := by decide +kernel
theorem dX6_timesBehind_16 : decode cX6_timesBehind 16 = .ok (.getfield 68, 3) := by decide +kernel
theorem dX6_timesBehind_19 : decode cX6_timesBehind 19 = .ok (.bipush 6, 2) := by decide +kernel
theorem dX6_timesBehind_21 : decode cX6_timesBehind 21 = .ok (.iload_n 1, 1) := by decide +kernel
theorem dX6_timesBehind_22 : decode cX6_timesBehind 22 = .ok (.imul, 1) := by decide +kernel
theorem dX6_timesBehind_23 : decode cX6_timesBehind 23 = .ok (.iload 4, 2) := by decide +kernel
theorem dX6_timesBehind_25 : decode cX6_timesBehind 25 = .ok (.iadd, 1) := by decide +kernel
theorem dX6_timesBehind_26 : decode cX6_timesBehind 26 = .ok (.iaload, 1) := by decide +kernel
theorem dX6_timesBehind_27 : decode cX6_timesBehind 27 = .ok (.aload_n 0, 1) := by decide +kernel
theorem dX6_timesBehind_28 : decode cX6_timesBehind 28 = .ok (.getfield 71, 3) := by decide +kernel
theorem dX6_timesBehind_31 : decode cX6_timesBehind 31 = .ok (.bipush 6, 2) := by decide +kernel
theorem dX6_timesBehind_33 : decode cX6_timesBehind 33 = .ok (.iload 4, 2) := by decide +kernel
theorem dX6_timesBehind_35 : decode cX6_timesBehind 35 = .ok (.imul, 1) := by decide +kernel
theorem dX6_timesBehind_36 : decode cX6_timesBehind 36 = .ok (.iload_n 2, 1) := by decide +kernel
theorem dX6_timesBehind_37 : decode cX6_timesBehind 37 = .ok (.iadd, 1) := by decide +kernel
theorem dX6_timesBehind_38 : decode cX6_timesBehind 38 = .ok (.iaload, 1) := by decide +kernel
theorem dX6_timesBehind_39 : decode cX6_timesBehind 39 = .ok (.imul, 1) := by decide +kernel
theorem dX6_timesBehind_40 : decode cX6_timesBehind 40 = .ok (.iadd, 1) := by decide +kernel
theorem dX6_timesBehind_41 : decode cX6_timesBehind 41 = .ok (.istore_n 3, 1) := by decide +kernel
theorem dX6_timesBehind_42 : decode cX6_timesBehind 42 = .ok (.iinc 4 1, 3) := by decide +kernel
theorem dX6_timesBehind_45 : decode cX6_timesBehind 45 = .ok (.goto (-40), 3) := by decide +kernel
theorem dX6_timesBehind_48 : decode cX6_timesBehind 48 = .ok (.iload_n 3, 1) := by decide +kernel
theorem dX6_timesBehind_49 : decode cX6_timesBehind 49 = .ok (.invokestatic 162, 3) := by decide +kernel
theorem dX6_timesBehind_52 : decode cX6_timesBehind 52 = .ok (.ireturn, 1) := by decide +kernel
set_option maxRecDepth 20000 in
theorem ggX6_rest_X6_times : GoodIn wsX6_rest wsX6_times := goodIn_r _ [7, 2, 8, 1, 9, 10, 6, 11, 12, 13, 14, 15, 16, 17, 18, 19, 20, 21, 22, 23, 24, 25, 26, 27, 28, 29, 30, 31, 32, 33, 34, 35, 36] (by decide +kernel) (by decide +kernel)
set_option maxRecDepth 20000 in
theorem gX6_rest_X6_times : GoodIn wsX6_rest (wsV RX6 186 RX6 yX6_times wsX6_times) := goodIn_app (goodIn_of _ (by decide +kernel)) ggX6_rest_X6_times
set_option maxRecDepth 20000 in
theorem ggX6_rest_X6_modulo : GoodIn wsX6_rest wsX6_modulo := goodIn_r _ [11] (by decide +kernel) (by decide +kernel)
set_option maxRecDepth 20000 in
theorem gX6_rest_X6_modulo : GoodIn wsX6_rest (va_wsS RX6 162 yX6_modulo wsX6_modulo) := goodIn_app (goodIn_of _ (by decide +kernel)) ggX6_rest_X6_modulo
theorem dX6_rest_0 : decode cX6_rest 0 = .ok (.aload_n 0, 1) := by decide +kernel
theorem dX6_rest_1 : decode cX6_rest 1 = .ok (.getfield 68, 3) := by decide +kernel
theorem dX6_rest_4 : decode cX6_rest 4 = .ok (.bipush 6, 2) := by decide +kernel
theorem dX6_rest_6 : decode cX6_rest 6 = .ok (.iload_n 1, 1) := by decide +kernel
theorem dX6_rest_7 : decode cX6_rest 7 = .ok (.imul, 1) := by decide +kernel
theorem dX6_rest_8 : decode cX6_rest 8 = .ok (.iload_n 2, 1) := by decide +kernel
theorem dX6_rest_9 : decode cX6_rest 9 = .ok (.iadd, 1) := by decide +kernel
theorem dX6_rest_10 : decode cX6_rest 10 = .ok (.iaload, 1) := by decide +kernel
theorem dX6_rest_11 : decode cX6_rest 11 = .ok (.istore_n 3, 1) := by decide +kernel
theorem dX6_rest_12 : decode cX6_rest 12 = .ok (.iconst 0, 1) := by decide +kernel
theorem dX6_rest_13 : decode cX6_rest 13 = .ok (.istore 4, 2) := by decide +kernel
theorem dX6_rest_15 : decode cX6_rest 15 = .ok (.iload 4, 2) := by decide +kernel
theorem dX6_rest_17 : decode cX6_rest 17 = .ok (.aload_n 0, 1) := by decide +kernel
theorem dX6_rest_18 : decode cX6_rest 18 = .ok (.getfield 9, 3) := by decide +kernel
theorem dX6_rest_21 : decode cX6_rest 21 = .ok (.if_icmp .ge 32, 3) := by decide +kernel
theorem dX6_rest_24 : decode cX6_rest 24 = .ok (.iload_n 3, 1) := by decide +kernel
theorem dX6_rest_25 : decode cX6_rest 25 = .ok (.aload_n 0, 1) := by decide +kernel
theorem dX6_rest_26 : decode cX6_rest 26 = .ok (.getfield 68, 3) := by decide +kernel
theorem dX6_rest_29 : decode cX6_rest 29 = .ok (.bipush 6, 2) := by decide +kernel
theorem dX6_rest_31 : decode cX6_rest 31 = .ok (.iload_n 1, 1) := by decide +kernel
theorem dX6_rest_32 : decode cX6_rest 32 = .ok (.imul, 1) := by decide +kernel
theorem dX6_rest_33 : decode cX6_rest 33 = .ok (.iload 4, 2) := by decide +kernel
theorem dX6_rest_35 : decode cX6_rest 35 = .ok (.iadd, 1) := by decide +kernel
theorem dX6_rest_36 : decode cX6_rest 36 = .ok (.iaload, 1) := by decide +kernel
theorem dX6_rest_37 : decode cX6_rest 37 = .ok (.aload_n 0, 1) := by decide +kernel
theorem dX6_rest_38 : decode cX6_rest 38 = .ok (.iload 4, 2) := by decide +kernel
theorem dX6_rest_40 : decode cX6_rest 40 = .ok (.iload_n 2, 1) := by decide +kernel
theorem dX6_rest_41 : decode cX6_rest 41 = .ok (.invokevirtual 186, 3) := by decide +kernel
theorem dX6_rest_44 : decode cX6_rest 44 = .ok (.imul, 1) := by decide +kernel
theorem dX6_rest_45 : decode cX6_rest 45 = .ok (.isub, 1) := by decide +kernel
theorem dX6_rest_46 : decode cX6_rest 46 = .ok (.istore_n 3, 1) := by decide +kernel
theorem dX6_rest_47 : decode cX6_rest 47 = .ok (.iinc 4 1, 3) := by decide +kernel
theorem dX6_rest_50 : decode cX6_rest 50 = .ok (.goto (-35), 3) := by decide +kernel
theorem dX6_rest_53 : decode cX6_rest 53 = .ok (.iload_n 3, 1) := by decide +kernel
theorem dX6_rest_54 : decode cX6_rest 54 = .ok (.invokestatic 162, 3) := by decide +kernel
theorem dX6_rest_57 : decode cX6_rest 57 = .ok (.ireturn, 1) := by decide +kernel
set_option maxRecDepth 20000 in
theorem ggX6_pivot_X6_isSet : GoodIn wsX6_pivot wsX6_isSet := goodIn_r _ [12, 7, 13, 14, 11, 15, 59, 60, 61, 62, 63, 64, 65, 66, 67, 68, 69, 70, 71, 72, 73, 74, 75, 76, 77, 78, 79, 80, 81, 82, 83] (by decide +kernel) (by decide +kernel)
set_option maxRecDepth 20000 in
theorem gX6_pivot_X6_isSet : GoodIn wsX6_pivot (wsV RX6 100 RX6 yX6_isSet wsX6_isSet) := goodIn_app (goodIn_of _ (by decide +kernel)) ggX6_pivot_X6_isSet
set_option maxRecDepth 20000 in
theorem ggX6_pivot_X6_wholeOf : GoodIn wsX6_pivot wsX6_wholeOf := goodIn_r _ [19, 4, 20, 21, 22, 23, 11, 24, 7, 5, 2, 6, 25, 26, 27, 28, 29, 30, 31, 32, 33, 34, 35, 36, 37, 38, 39, 40, 41, 42, 59, 60, 61, 62, 63, 64, 65, 66, 67, 68, 69, 70, 71, 72, 73, 74, 75, 76, 77, 78, 79, 80, 81, 82, 83] (by decide +kernel) (by decide +kernel)
set_option maxRecDepth 20000 in
theorem gX6_pivot_X6_wholeOf : GoodIn wsX6_pivot (wsV RX6 115 RX6 yX6_wholeOf wsX6_wholeOf) := goodIn_app (goodIn_of _ (by decide +kernel)) ggX6_pivot_X6_wholeOf
set_option maxRecDepth 20000 in
theorem ggX6_pivot_X6_times : GoodIn wsX6_pivot wsX6_times := goodIn_r _ [46, 7, 3, 1, 29, 30, 11, 31, 59, 60, 61, 62, 63, 64, 65, 66, 67, 68, 69, 70, 71, 72, 73, 74, 75, 76, 77, 78, 79, 80, 81, 82, 83] (by decide +kernel) (by decide +kernel)
set_option maxRecDepth 20000 in
theorem gX6_pivot_X6_times : GoodIn wsX6_pivot (wsV RX6 186 RX6 yX6_times wsX6_times) := goodIn_app (goodIn_of _ (by decide +kernel)) ggX6_pivot_X6_times
set_option maxRecDepth 20000 in
theorem ggX6_pivot_X6_modulo : GoodIn wsX6_pivot wsX6_modulo := goodIn_r _ [31] (by decide +kernel) (by decide +kernel)
set_option maxRecDepth 20000 in
theorem gX6_pivot_X6_modulo : GoodIn wsX6_pivot (va_wsS RX6 162 yX6_modulo wsX6_modulo) := goodIn_app (goodIn_of _ (by decide +kernel)) ggX6_pivot_X6_modulo
set_option maxRecDepth 20000 in
theorem ggX6_pivot_X6_timesBehind : GoodIn wsX6_pivot wsX6_timesBehind := goodIn_r _ [50, 7, 1, 3, 29, 30, 11, 31, 59, 60, 61, 62, 63, 64, 65, 66, 67, 68, 69, 70, 71, 72, 73, 74, 75, 76, 77, 78, 79, 80, 81, 82, 83] (by decide +kernel) (by decide +kernel)
set_option maxRecDepth 20000 in
theorem gX6_pivot_X6_timesBehind : GoodIn wsX6_pivot (wsV RX6 189 RX6 yX6_timesBehind wsX6_timesBehind) := goodIn_app (goodIn_of _ (by decide +kernel)) ggX6_pivot_X6_timesBehind
set_option maxRecDepth 20000 in
theorem ggX6_pivot_X6_rest : GoodIn wsX6_pivot wsX6_rest := goodIn_r _ [54, 1, 7, 43, 44, 45, 11, 46, 3, 29, 30, 31, 59, 60, 61, 62, 63, 64, 65, 66, 67, 68, 69, 70, 71, 72, 73, 74, 75, 76, 77, 78, 79, 80, 81, 82, 83] (by decide +kernel) (by decide +kernel)
set_option maxRecDepth 20000 in
theorem gX6_pivot_X6_rest : GoodIn wsX6_pivot (wsV RX6 192 RX6 yX6_rest wsX6_rest) := goodIn_app (goodIn_of _ (by decide +kernel)) ggX6_pivot_X6_rest
set_option maxRecDepth 20000 in
theorem ggX6_pivot_X6_entries : GoodIn wsX6_pivot wsX6_entries := goodIn_r _ [58, 2, 59, 60, 61, 62, 63, 64, 65, 66, 67, 68, 69, 70, 71, 72, 73, 74, 75, 76, 77, 78, 79, 80, 81, 82, 83] (by decide +kernel) (by decide +kernel)
set_option maxRecDepth 20000 in
theorem gX6_pivot_X6_entries : GoodIn wsX6_pivot (wsV RX6 195 RX6 yX6_entries wsX6_entries) := goodIn_app (goodIn_of _ (by decide +kernel)) ggX6_pivot_X6_entries
theorem dX6_pivot_0 : decode cX6_pivot 0 = .ok (.aload_n 0, 1) := by decide +kernel
theorem dX6_pivot_1 : decode cX6_pivot 1 = .ok (.iload_n 1, 1) := by decide +kernel
theorem dX6_pivot_2 : decode cX6_pivot 2 = .ok (.invokevirtual 100, 3) := by decide +kernel
theorem dX6_pivot_5 : decode cX6_pivot 5 = .ok (.ifCond .ne 6, 3) := by decide +kernel
theorem dX6_pivot_8 : decode cX6_pivot 8 = .ok (.bipush (-2), 2) := by decide +kernel
theorem dX6_pivot_10 : decode cX6_pivot 10 = .ok (.ireturn, 1) := by decide +kernel
theorem dX6_pivot_11 : decode cX6_pivot 11 = .ok (.aload_n 0, 1) := by decide +kernel
theorem dX6_pivot_12 : decode cX6_pivot 12 = .ok (.iload_n 1, 1) := by decide +kernel
theorem dX6_pivot_13 : decode cX6_pivot 13 = .ok (.invokevirtual 115, 3) := by decide +kernel
theorem dX6_pivot_16 : decode cX6_pivot 16 = .ok (.ifCond .ne 6, 3) := by decide +kernel
theorem dX6_pivot_19 : decode cX6_pivot 19 = .ok (.bipush (-3), 2) := by decide +kernel
theorem dX6_pivot_21 : decode cX6_pivot 21 = .ok (.ireturn, 1) := by decide +kernel
theorem dX6_pivot_22 : decode cX6_pivot 22 = .ok (.iconst 0, 1) := by decide +kernel
theorem dX6_pivot_23 : decode cX6_pivot 23 = .ok (.istore_n 2, 1) := by decide +kernel
theorem dX6_pivot_24 : decode cX6_pivot 24 = .ok (.iload_n 2, 1) := by decide +kernel
theorem dX6_pivot_25 : decode cX6_pivot 25 = .ok (.bipush 36, 2) := by decide +kernel
theorem dX6_pivot_27 : decode cX6_pivot 27 = .ok (.if_icmp .ge 28, 3) := by decide +kernel
theorem dX6_pivot_30 : decode cX6_pivot 30 = .ok (.aload_n 0, 1) := by decide +kernel
theorem dX6_pivot_31 : decode cX6_pivot 31 = .ok (.getfield 68, 3) := by decide +kernel
theorem dX6_pivot_34 : decode cX6_pivot 34 = .ok (.iload_n 2, 1) := by decide +kernel
theorem dX6_pivot_35 : decode cX6_pivot 35 = .ok (.aload_n 0, 1) := by decide +kernel
theorem dX6_pivot_36 : decode cX6_pivot 36 = .ok (.getfield 26, 3) := by decide +kernel
theorem dX6_pivot_39 : decode cX6_pivot 39 = .ok (.iload_n 2, 1) := by decide +kernel
theorem dX6_pivot_40 : decode cX6_pivot 40 = .ok (.iaload, 1) := by decide +kernel
theorem dX6_pivot_41 : decode cX6_pivot 41 = .ok (.iastore, 1) := by decide +kernel
theorem dX6_pivot_42 : decode cX6_pivot 42 = .ok (.aload_n 0, 1) := by decide +kernel
theorem dX6_pivot_43 : decode cX6_pivot 43 = .ok (.getfield 71, 3) := by decide +kernel
theorem dX6_pivot_46 : decode cX6_pivot 46 = .ok (.iload_n 2, 1) := by decide +kernel
theorem dX6_pivot_47 : decode cX6_pivot 47 = .ok (.iconst 0, 1) := by decide +kernel
theorem dX6_pivot_48 : decode cX6_pivot 48 = .ok (.iastore, 1) := by decide +kernel
theorem dX6_pivot_49 : decode cX6_pivot 49 = .ok (.iinc 2 1, 3) := by decide +kernel
theorem dX6_pivot_52 : decode cX6_pivot 52 = .ok (.goto (-28), 3) := by decide +kernel
theorem dX6_pivot_55 : decode cX6_pivot 55 = .ok (.iconst 0, 1) := by decide +kernel
theorem dX6_pivot_56 : decode cX6_pivot 56 = .ok (.istore_n 2, 1) := by decide +kernel
theorem dX6_pivot_57 : decode cX6_pivot 57 = .ok (.iload_n 2, 1) := by decide +kernel
theorem dX6_pivot_58 : decode cX6_pivot 58 = .ok (.aload_n 0, 1) := by decide +kernel
theorem dX6_pivot_59 : decode cX6_pivot 59 = .ok (.getfield 165, 3) := by decide +kernel
theorem dX6_pivot_62 : decode cX6_pivot 62 = .ok (.if_icmp .ge 57, 3) := by decide +kernel
theorem dX6_pivot_65 : decode cX6_pivot 65 = .ok (.iconst 0, 1) := by decide +kernel
theorem dX6_pivot_66 : decode cX6_pivot 66 = .ok (.istore_n 3, 1) := by decide +kernel
theorem dX6_pivot_67 : decode cX6_pivot 67 = .ok (.iload_n 3, 1) := by decide +kernel
theorem dX6_pivot_68 : decode cX6_pivot 68 = .ok (.aload_n 0, 1) := by decide +kernel
theorem dX6_pivot_69 : decode cX6_pivot 69 = .ok (.getfield 165, 3) := by decide +kernel
theorem dX6_pivot_72 : decode cX6_pivot 72 = .ok (.if_icmp .ge 41, 3) := by decide +kernel
theorem dX6_pivot_75 : decode cX6_pivot 75 = .ok (.aload_n 0, 1) := by decide +kernel
theorem dX6_pivot_76 : decode cX6_pivot 76 = .ok (.getfield 71, 3) := by decide +kernel
theorem dX6_pivot_79 : decode cX6_pivot 79 = .ok (.bipush 6, 2) := by decide +kernel
theorem dX6_pivot_81 : decode cX6_pivot 81 = .ok (.aload_n 0, 1) := by decide +kernel
theorem dX6_pivot_82 : decode cX6_pivot 82 = .ok (.getfield 65, 3) := by decide +kernel
theorem dX6_pivot_85 : decode cX6_pivot 85 = .ok (.iload_n 2, 1) := by decide +kernel
theorem dX6_pivot_86 : decode cX6_pivot 86 = .ok (.iaload, 1) := by decide +kernel
theorem dX6_pivot_87 : decode cX6_pivot 87 = .ok (.imul, 1) := by decide +kernel
theorem dX6_pivot_88 : decode cX6_pivot 88 = .ok (.aload_n 0, 1) := by decide +kernel
theorem dX6_pivot_89 : decode cX6_pivot 89 = .ok (.getfield 65, 3) := by decide +kernel
theorem dX6_pivot_92 : decode cX6_pivot 92 = .ok (.iload_n 3, 1) := by decide +kernel
theorem dX6_pivot_93 : decode cX6_pivot 93 = .ok (.iaload, 1) := by decide +kernel
theorem dX6_pivot_94 : decode cX6_pivot 94 = .ok (.iadd, 1) := by decide +kernel
theorem dX6_pivot_95 : decode cX6_pivot 95 = .ok (.aload_n 0, 1) := by decide +kernel
theorem dX6_pivot_96 : decode cX6_pivot 96 = .ok (.getfield 62, 3) := by decide +kernel
theorem dX6_pivot_99 : decode cX6_pivot 99 = .ok (.bipush 6, 2) := by decide +kernel
theorem dX6_pivot_101 : decode cX6_pivot 101 = .ok (.iload_n 2, 1) := by decide +kernel
theorem dX6_pivot_102 : decode cX6_pivot 102 = .ok (.imul, 1) := by decide +kernel
theorem dX6_pivot_103 : decode cX6_pivot 103 = .ok (.iload_n 3, 1) := by decide +kernel
theorem dX6_pivot_104 : decode cX6_pivot 104 = .ok (.iadd, 1) := by decide +kernel
theorem dX6_pivot_105 : decode cX6_pivot 105 = .ok (.iaload, 1) := by decide +kernel
theorem dX6_pivot_106 : decode cX6_pivot 106 = .ok (.iastore, 1) := by decide +kernel
theorem dX6_pivot_107 : decode cX6_pivot 107 = .ok (.iinc 3 1, 3) := by decide +kernel
theorem dX6_pivot_110 : decode cX6_pivot 110 = .ok (.goto (-43), 3) := by decide +kernel
theorem dX6_pivot_113 : decode cX6_pivot 113 = .ok (.iinc 2 1, 3) := by decide +kernel
theorem dX6_pivot_116 : decode cX6_pivot 116 = .ok (.goto (-59), 3) := by decide +kernel
theorem dX6_pivot_119 : decode cX6_pivot 119 = .ok (.iconst 0, 1) := by decide +kernel
theorem dX6_pivot_120 : decode cX6_pivot 120 = .ok (.istore_n 2, 1) := by decide +kernel
theorem dX6_pivot_121 : decode cX6_pivot 121 = .ok (.iload_n 2, 1) := by decide +kernel
theorem dX6_pivot_122 : decode cX6_pivot 122 = .ok (.aload_n 0, 1) := by decide +kernel
theorem dX6_pivot_123 : decode cX6_pivot 123 = .ok (.getfield 9, 3) := by decide +kernel
theorem dX6_pivot_126 : decode cX6_pivot 126 = .ok (.if_icmp .ge 129, 3) := by decide +kernel
theorem dX6_pivot_129 : decode cX6_pivot 129 = .ok (.iconst 0, 1) := by decide +kernel
theorem dX6_pivot_130 : decode cX6_pivot 130 = .ok (.istore_n 3, 1) := by decide +kernel
theorem dX6_pivot_131 : decode cX6_pivot 131 = .ok (.iload_n 3, 1) := by decide +kernel
theorem dX6_pivot_132 : decode cX6_pivot 132 = .ok (.aload_n 0, 1) := by decide +kernel
theorem dX6_pivot_133 : decode cX6_pivot 133 = .ok (.getfield 9, 3) := by decide +kernel
theorem dX6_pivot_136 : decode cX6_pivot 136 = .ok (.if_icmp .ge 113, 3) := by decide +kernel
theorem dX6_pivot_139 : decode cX6_pivot 139 = .ok (.iload_n 1, 1) := by decide +kernel
theorem dX6_pivot_140 : decode cX6_pivot 140 = .ok (.iload_n 2, 1) := by decide +kernel
theorem dX6_pivot_141 : decode cX6_pivot 141 = .ok (.ishr, 1) := by decide +kernel
theorem dX6_pivot_142 : decode cX6_pivot 142 = .ok (.iconst 1, 1) := by decide +kernel
theorem dX6_pivot_143 : decode cX6_pivot 143 = .ok (.iand, 1) := by decide +kernel
theorem dX6_pivot_144 : decode cX6_pivot 144 = .ok (.iconst 1, 1) := by decide +kernel
theorem dX6_pivot_145 : decode cX6_pivot 145 = .ok (.if_icmp .ne 7, 3) := by decide +kernel
theorem dX6_pivot_148 : decode cX6_pivot 148 = .ok (.iconst 1, 1) := by decide +kernel
theorem dX6_pivot_149 : decode cX6_pivot 149 = .ok (.goto 4, 3) := by decide +kernel
theorem dX6_pivot_152 : decode cX6_pivot 152 = .ok (.iconst 0, 1) := by decide +kernel
theorem dX6_pivot_153 : decode cX6_pivot 153 = .ok (.istore 4, 2) := by decide +kernel
theorem dX6_pivot_155 : decode cX6_pivot 155 = .ok (.iload_n 1, 1) := by decide +kernel
theorem dX6_pivot_156 : decode cX6_pivot 156 = .ok (.iload_n 3, 1) := by decide +kernel
theorem dX6_pivot_157 : decode cX6_pivot 157 = .ok (.ishr, 1) := by decide +kernel
theorem dX6_pivot_158 : decode cX6_pivot 158 = .ok (.iconst 1, 1) := by decide +kernel
theorem dX6_pivot_159 : decode cX6_pivot 159 = .ok (.iand, 1) := by decide +kernel
theorem dX6_pivot_160 : decode cX6_pivot 160 = .ok (.iconst 1, 1) := by decide +kernel
theorem dX6_pivot_161 : decode cX6_pivot 161 = .ok (.if_icmp .ne 7, 3) := by decide +kernel
theorem dX6_pivot_164 : decode cX6_pivot 164 = .ok (.iconst 1, 1) := by decide +kernel
theorem dX6_pivot_165 : decode cX6_pivot 165 = .ok (.goto 4, 3) := by decide +kernel
theorem dX6_pivot_168 : decode cX6_pivot 168 = .ok (.iconst 0, 1) := by decide +kernel
theorem dX6_pivot_169 : decode cX6_pivot 169 = .ok (.istore 5, 2) := by decide +kernel
theorem dX6_pivot_171 : decode cX6_pivot 171 = .ok (.iload 4, 2) := by decide +kernel
theorem dX6_pivot_173 : decode cX6_pivot 173 = .ok (.ifCond .eq 35, 3) := by decide +kernel
theorem dX6_pivot_176 : decode cX6_pivot 176 = .ok (.iload 5, 2) := by decide +kernel
theorem dX6_pivot_178 : decode cX6_pivot 178 = .ok (.ifCond .eq 17, 3) := by decide +kernel
theorem dX6_pivot_181 : decode cX6_pivot 181 = .ok (.aload_n 0, 1) := by decide +kernel
theorem dX6_pivot_182 : decode cX6_pivot 182 = .ok (.getfield 71, 3) := by decide +kernel
theorem dX6_pivot_185 : decode cX6_pivot 185 = .ok (.bipush 6, 2) := by decide +kernel
theorem dX6_pivot_187 : decode cX6_pivot 187 = .ok (.iload_n 2, 1) := by decide +kernel
theorem dX6_pivot_188 : decode cX6_pivot 188 = .ok (.imul, 1) := by decide +kernel
theorem dX6_pivot_189 : decode cX6_pivot 189 = .ok (.iload_n 3, 1) := by decide +kernel
theorem dX6_pivot_190 : decode cX6_pivot 190 = .ok (.iadd, 1) := by decide +kernel
theorem dX6_pivot_191 : decode cX6_pivot 191 = .ok (.iaload, 1) := by decide +kernel
theorem dX6_pivot_192 : decode cX6_pivot 192 = .ok (.goto 36, 3) := by decide +kernel
theorem dX6_pivot_195 : decode cX6_pivot 195 = .ok (.aload_n 0, 1) := by decide +kernel
theorem dX6_pivot_196 : decode cX6_pivot 196 = .ok (.iload_n 2, 1) := by decide +kernel
theorem dX6_pivot_197 : decode cX6_pivot 197 = .ok (.iload_n 3, 1) := by decide +kernel
theorem dX6_pivot_198 : decode cX6_pivot 198 = .ok (.invokevirtual 186, 3) := by decide +kernel
theorem dX6_pivot_201 : decode cX6_pivot 201 = .ok (.ineg, 1) := by decide +kernel
theorem dX6_pivot_202 : decode cX6_pivot 202 = .ok (.invokestatic 162, 3) := by decide +kernel
theorem dX6_pivot_205 : decode cX6_pivot 205 = .ok (.goto 23, 3) := by decide +kernel
theorem dX6_pivot_208 : decode cX6_pivot 208 = .ok (.iload 5, 2) := by decide +kernel
theorem dX6_pivot_210 : decode cX6_pivot 210 = .ok (.ifCond .eq 12, 3) := by decide +kernel
theorem dX6_pivot_213 : decode cX6_pivot 213 = .ok (.aload_n 0, 1) := by decide +kernel
theorem dX6_pivot_214 : decode cX6_pivot 214 = .ok (.iload_n 2, 1) := by decide +kernel
theorem dX6_pivot_215 : decode cX6_pivot 215 = .ok (.iload_n 3, 1) := by decide +kernel
theorem dX6_pivot_216 : decode cX6_pivot 216 = .ok (.invokevirtual 189, 3) := by decide +kernel
theorem dX6_pivot_219 : decode cX6_pivot 219 = .ok (.goto 9, 3) := by decide +kernel
theorem dX6_pivot_222 : decode cX6_pivot 222 = .ok (.aload_n 0, 1) := by decide +kernel
theorem dX6_pivot_223 : decode cX6_pivot 223 = .ok (.iload_n 2, 1) := by decide +kernel
theorem dX6_pivot_224 : decode cX6_pivot 224 = .ok (.iload_n 3, 1) := by decide +kernel
theorem dX6_pivot_225 : decode cX6_pivot 225 = .ok (.invokevirtual 192, 3) := by decide +kernel
theorem dX6_pivot_228 : decode cX6_pivot 228 = .ok (.istore 6, 2) := by decide +kernel
theorem dX6_pivot_230 : decode cX6_pivot 230 = .ok (.aload_n 0, 1) := by decide +kernel
theorem dX6_pivot_231 : decode cX6_pivot 231 = .ok (.getfield 26, 3) := by decide +kernel
theorem dX6_pivot_234 : decode cX6_pivot 234 = .ok (.bipush 6, 2) := by decide +kernel
theorem dX6_pivot_236 : decode cX6_pivot 236 = .ok (.iload_n 2, 1) := by decide +kernel
theorem dX6_pivot_237 : decode cX6_pivot 237 = .ok (.imul, 1) := by decide +kernel
theorem dX6_pivot_238 : decode cX6_pivot 238 = .ok (.iload_n 3, 1) := by decide +kernel
theorem dX6_pivot_239 : decode cX6_pivot 239 = .ok (.iadd, 1) := by decide +kernel
theorem dX6_pivot_240 : decode cX6_pivot 240 = .ok (.iload 6, 2) := by decide +kernel
theorem dX6_pivot_242 : decode cX6_pivot 242 = .ok (.iastore, 1) := by decide +kernel
theorem dX6_pivot_243 : decode cX6_pivot 243 = .ok (.iinc 3 1, 3) := by decide +kernel
theorem dX6_pivot_246 : decode cX6_pivot 246 = .ok (.goto (-115), 3) := by decide +kernel
theorem dX6_pivot_249 : decode cX6_pivot 249 = .ok (.iinc 2 1, 3) := by decide +kernel
theorem dX6_pivot_252 : decode cX6_pivot 252 = .ok (.goto (-131), 3) := by decide +kernel
theorem dX6_pivot_255 : decode cX6_pivot 255 = .ok (.aload_n 0, 1) := by decide +kernel
theorem dX6_pivot_256 : decode cX6_pivot 256 = .ok (.invokevirtual 195, 3) := by decide +kernel
theorem dX6_pivot_259 : decode cX6_pivot 259 = .ok (.ireturn, 1) := by decide +kernel
theorem dX6_three_0 : decode cX6_three 0 = .ok (.iconst 1, 1) := by decide +kernel
theorem dX6_three_1 : decode cX6_three 1 = .ok (.istore_n 1, 1) := by decide +kernel
theorem dX6_three_2 : decode cX6_three 2 = .ok (.iconst 0, 1) := by decide +kernel
theorem dX6_three_3 : decode cX6_three 3 = .ok (.istore_n 2, 1) := by decide +kernel
theorem dX6_three_4 : decode cX6_three 4 = .ok (.iload_n 2, 1) := by decide +kernel
theorem dX6_three_5 : decode cX6_three 5 = .ok (.iload_n 0, 1) := by decide +kernel
theorem dX6_three_6 : decode cX6_three 6 = .ok (.if_icmp .ge 13, 3) := by decide +kernel
theorem dX6_three_9 : decode cX6_three 9 = .ok (.iload_n 1, 1) := by decide +kernel
theorem dX6_three_10 : decode cX6_three 10 = .ok (.iconst 3, 1) := by decide +kernel
theorem dX6_three_11 : decode cX6_three 11 = .ok (.imul, 1) := by decide +kernel
theorem dX6_three_12 : decode cX6_three 12 = .ok (.istore_n 1, 1) := by decide +kernel
theorem dX6_three_13 : decode cX6_three 13 = .ok (.iinc 2 1, 3) := by decide +kernel
theorem dX6_three_16 : decode cX6_three 16 = .ok (.goto (-12), 3) := by decide +kernel
theorem dX6_three_19 : decode cX6_three 19 = .ok (.iload_n 1, 1) := by decide +kernel
theorem dX6_three_20 : decode cX6_three 20 = .ok (.ireturn, 1) := by decide +kernel
set_option maxRecDepth 20000 in
theorem ggX6_rowOf_X6_three : GoodIn wsX6_rowOf wsX6_three := goodIn_r _ [4] (by decide +kernel) (by decide +kernel)
set_option maxRecDepth 20000 in
theorem gX6_rowOf_X6_three : GoodIn wsX6_rowOf (va_wsS RX6 199 yX6_three wsX6_three) := goodIn_app (goodIn_of _ (by decide +kernel)) ggX6_rowOf_X6_three
theorem dX6_rowOf_0 : decode cX6_rowOf 0 = .ok (.iconst 0, 1) := by decide +kernel
theorem dX6_rowOf_1 : decode cX6_rowOf 1 = .ok (.istore_n 1, 1) := by decide +kernel
theorem dX6_rowOf_2 : decode cX6_rowOf 2 = .ok (.iconst 0, 1) := by decide +kernel
theorem dX6_rowOf_3 : decode cX6_rowOf 3 = .ok (.istore_n 2, 1) := by decide +kernel
theorem dX6_rowOf_4 : decode cX6_rowOf 4 = .ok (.iload_n 2, 1) := by decide +kernel
theorem dX6_rowOf_5 : decode cX6_rowOf 5 = .ok (.bipush 6, 2) := by decide +kernel
theorem dX6_rowOf_7 : decode cX6_rowOf 7 = .ok (.if_icmp .ge 22, 3) := by decide +kernel
theorem dX6_rowOf_10 : decode cX6_rowOf 10 = .ok (.iload_n 1, 1) := by decide +kernel
theorem dX6_rowOf_11 : decode cX6_rowOf 11 = .ok (.iload_n 0, 1) := by decide +kernel
theorem dX6_rowOf_12 : decode cX6_rowOf 12 = .ok (.iload_n 2, 1) := by decide +kernel
theorem dX6_rowOf_13 : decode cX6_rowOf 13 = .ok (.ishr, 1) := by decide +kernel
theorem dX6_rowOf_14 : decode cX6_rowOf 14 = .ok (.iconst 1, 1) := by decide +kernel
theorem dX6_rowOf_15 : decode cX6_rowOf 15 = .ok (.iand, 1) := by decide +kernel
theorem dX6_rowOf_16 : decode cX6_rowOf 16 = .ok (.iload_n 2, 1) := by decide +kernel
theorem dX6_rowOf_17 : decode cX6_rowOf 17 = .ok (.invokestatic 199, 3) := by decide +kernel
theorem dX6_rowOf_20 : decode cX6_rowOf 20 = .ok (.imul, 1) := by decide +kernel
theorem dX6_rowOf_21 : decode cX6_rowOf 21 = .ok (.iadd, 1) := by decide +kernel
theorem dX6_rowOf_22 : decode cX6_rowOf 22 = .ok (.istore_n 1, 1) := by decide +kernel
theorem dX6_rowOf_23 : decode cX6_rowOf 23 = .ok (.iinc 2 1, 3) := by decide +kernel
theorem dX6_rowOf_26 : decode cX6_rowOf 26 = .ok (.goto (-22), 3) := by decide +kernel
theorem dX6_rowOf_29 : decode cX6_rowOf 29 = .ok (.iload_n 1, 1) := by decide +kernel
theorem dX6_rowOf_30 : decode cX6_rowOf 30 = .ok (.ireturn, 1) := by decide +kernel
set_option maxRecDepth 20000 in
theorem ggX6_finds_X6_three : GoodIn wsX6_finds wsX6_three := goodIn_r _ [7] (by decide +kernel) (by decide +kernel)
set_option maxRecDepth 20000 in
theorem gX6_finds_X6_three : GoodIn wsX6_finds (va_wsS RX6 199 yX6_three wsX6_three) := goodIn_app (goodIn_of _ (by decide +kernel)) ggX6_finds_X6_three
set_option maxRecDepth 20000 in
theorem ggX6_finds_X6_isMember : GoodIn wsX6_finds wsX6_isMember := goodIn_r _ [11, 12, 16, 17, 18, 19, 20, 21, 22, 23, 24, 25, 26, 27, 28, 29, 30, 31, 32, 33, 34, 35, 36, 37, 38, 39, 40] (by decide +kernel) (by decide +kernel)
set_option maxRecDepth 20000 in
theorem gX6_finds_X6_isMember : GoodIn wsX6_finds (wsV RX6 103 RX6 yX6_isMember wsX6_isMember) := goodIn_app (goodIn_of _ (by decide +kernel)) ggX6_finds_X6_isMember
set_option maxRecDepth 20000 in
theorem ggX6_finds_X6_rowOf : GoodIn wsX6_finds wsX6_rowOf := goodIn_r _ [15, 4, 5, 6, 7] (by decide +kernel) (by decide +kernel)
set_option maxRecDepth 20000 in
theorem gX6_finds_X6_rowOf : GoodIn wsX6_finds (va_wsS RX6 205 yX6_rowOf wsX6_rowOf) := goodIn_app (goodIn_of _ (by decide +kernel)) ggX6_finds_X6_rowOf
theorem dX6_finds_0 : decode cX6_finds 0 = .ok (.aload_n 0, 1) := by decide +kernel
theorem dX6_finds_1 : decode cX6_finds 1 = .ok (.aload_n 0, 1) := by decide +kernel
theorem dX6_finds_2 : decode cX6_finds 2 = .ok (.getfield 9, 3) := by decide +kernel
theorem dX6_finds_5 : decode cX6_finds 5 = .ok (.invokestatic 199, 3) := by decide +kernel
theorem dX6_finds_8 : decode cX6_finds 8 = .ok (.putfield 202, 3) := by decide +kernel
theorem dX6_finds_11 : decode cX6_finds 11 = .ok (.iconst 0, 1) := by decide +kernel
theorem dX6_finds_12 : decode cX6_finds 12 = .ok (.istore_n 3, 1) := by decide +kernel
theorem dX6_finds_13 : decode cX6_finds 13 = .ok (.iload_n 3, 1) := by decide +kernel
theorem dX6_finds_14 : decode cX6_finds 14 = .ok (.aload_n 0, 1) := by decide +kernel
theorem dX6_finds_15 : decode cX6_finds 15 = .ok (.getfield 202, 3) := by decide +kernel
theorem dX6_finds_18 : decode cX6_finds 18 = .ok (.if_icmp .ge 16, 3) := by decide +kernel
theorem dX6_finds_21 : decode cX6_finds 21 = .ok (.aload_n 0, 1) := by decide +kernel
theorem dX6_finds_22 : decode cX6_finds 22 = .ok (.getfield 74, 3) := by decide +kernel
theorem dX6_finds_25 : decode cX6_finds 25 = .ok (.iload_n 3, 1) := by decide +kernel
theorem dX6_finds_26 : decode cX6_finds 26 = .ok (.iconst 0, 1) := by decide +kernel
theorem dX6_finds_27 : decode cX6_finds 27 = .ok (.bastore, 1) := by decide +kernel
theorem dX6_finds_28 : decode cX6_finds 28 = .ok (.iinc 3 1, 3) := by decide +kernel
theorem dX6_finds_31 : decode cX6_finds 31 = .ok (.goto (-18), 3) := by decide +kernel
theorem dX6_finds_34 : decode cX6_finds 34 = .ok (.iconst 0, 1) := by decide +kernel
theorem dX6_finds_35 : decode cX6_finds 35 = .ok (.istore_n 3, 1) := by decide +kernel
theorem dX6_finds_36 : decode cX6_finds 36 = .ok (.iload_n 3, 1) := by decide +kernel
theorem dX6_finds_37 : decode cX6_finds 37 = .ok (.iconst 1, 1) := by decide +kernel
theorem dX6_finds_38 : decode cX6_finds 38 = .ok (.aload_n 0, 1) := by decide +kernel
theorem dX6_finds_39 : decode cX6_finds 39 = .ok (.getfield 9, 3) := by decide +kernel
theorem dX6_finds_42 : decode cX6_finds 42 = .ok (.ishl, 1) := by decide +kernel
theorem dX6_finds_43 : decode cX6_finds 43 = .ok (.if_icmp .ge 64, 3) := by decide +kernel
theorem dX6_finds_46 : decode cX6_finds 46 = .ok (.iconst 0, 1) := by decide +kernel
theorem dX6_finds_47 : decode cX6_finds 47 = .ok (.istore 4, 2) := by decide +kernel
theorem dX6_finds_49 : decode cX6_finds 49 = .ok (.iload 4, 2) := by decide +kernel
theorem dX6_finds_51 : decode cX6_finds 51 = .ok (.iconst 1, 1) := by decide +kernel
theorem dX6_finds_52 : decode cX6_finds 52 = .ok (.aload_n 0, 1) := by decide +kernel
theorem dX6_finds_53 : decode cX6_finds 53 = .ok (.getfield 9, 3) := by decide +kernel
theorem dX6_finds_56 : decode cX6_finds 56 = .ok (.ishl, 1) := by decide +kernel
theorem dX6_finds_57 : decode cX6_finds 57 = .ok (.if_icmp .ge 44, 3) := by decide +kernel
theorem dX6_finds_60 : decode cX6_finds 60 = .ok (.aload_n 0, 1) := by decide +kernel
theorem dX6_finds_61 : decode cX6_finds 61 = .ok (.iload_n 1, 1) := by decide +kernel
theorem dX6_finds_62 : decode cX6_finds 62 = .ok (.iload_n 3, 1) := by decide +kernel
theorem dX6_finds_63 : decode cX6_finds 63 = .ok (.invokevirtual 103, 3) := by decide +kernel
theorem dX6_finds_66 : decode cX6_finds 66 = .ok (.ifCond .eq 35, 3) := by decide +kernel
theorem dX6_finds_69 : decode cX6_finds 69 = .ok (.aload_n 0, 1) := by decide +kernel
theorem dX6_finds_70 : decode cX6_finds 70 = .ok (.iload_n 2, 1) := by decide +kernel
theorem dX6_finds_71 : decode cX6_finds 71 = .ok (.iload 4, 2) := by decide +kernel
theorem dX6_finds_73 : decode cX6_finds 73 = .ok (.invokevirtual 103, 3) := by decide +kernel
theorem dX6_finds_76 : decode cX6_finds 76 = .ok (.ifCond .eq 19, 3) := by decide +kernel
theorem dX6_finds_79 : decode cX6_finds 79 = .ok (.aload_n 0, 1) := by decide +kernel
theorem dX6_finds_80 : decode cX6_finds 80 = .ok (.getfield 74, 3) := by decide +kernel
theorem dX6_finds_83 : decode cX6_finds 83 = .ok (.iload_n 3, 1) := by decide +kernel
theorem dX6_finds_84 : decode cX6_finds 84 = .ok (.invokestatic 205, 3) := by decide +kernel
theorem dX6_finds_87 : decode cX6_finds 87 = .ok (.iload 4, 2) := by decide +kernel
theorem dX6_finds_89 : decode cX6_finds 89 = .ok (.invokestatic 205, 3) := by decide +kernel
theorem dX6_finds_92 : decode cX6_finds 92 = .ok (.iadd, 1) := by decide +kernel
theorem dX6_finds_93 : decode cX6_finds 93 = .ok (.iconst 1, 1) := by decide +kernel
theorem dX6_finds_94 : decode cX6_finds 94 = .ok (.bastore, 1) := by decide +kernel
theorem dX6_finds_95 : decode cX6_finds 95 = .ok (.iinc 4 1, 3) := by decide +kernel
theorem dX6_finds_98 : decode cX6_finds 98 = .ok (.goto (-49), 3) := by decide +kernel
theorem dX6_finds_101 : decode cX6_finds 101 = .ok (.iinc 3 1, 3) := by decide +kernel
theorem dX6_finds_104 : decode cX6_finds 104 = .ok (.goto (-68), 3) := by decide +kernel
theorem dX6_finds_107 : decode cX6_finds 107 = .ok (.return_, 1) := by decide +kernel
set_option maxRecDepth 20000 in
theorem ggX6_step_X6_three : GoodIn wsX6_step wsX6_three := goodIn_r _ [4] (by decide +kernel) (by decide +kernel)
set_option maxRecDepth 20000 in
theorem gX6_step_X6_three : GoodIn wsX6_step (va_wsS RX6 199 yX6_three wsX6_three) := goodIn_app (goodIn_of _ (by decide +kernel)) ggX6_step_X6_three
theorem dX6_step_0 : decode cX6_step 0 = .ok (.iload_n 2, 1) := by decide +kernel
theorem dX6_step_1 : decode cX6_step 1 = .ok (.invokestatic 199, 3) := by decide +kernel
theorem dX6_step_4 : decode cX6_step 4 = .ok (.istore_n 3, 1) := by decide +kernel
theorem dX6_step_5 : decode cX6_step 5 = .ok (.iload_n 0, 1) := by decide +kernel
theorem dX6_step_6 : decode cX6_step 6 = .ok (.iload_n 3, 1) := by decide +kernel
theorem dX6_step_7 : decode cX6_step 7 = .ok (.idiv, 1) := by decide +kernel
theorem dX6_step_8 : decode cX6_step 8 = .ok (.iconst 3, 1) := by decide +kernel
theorem dX6_step_9 : decode cX6_step 9 = .ok (.irem, 1) := by decide +kernel
theorem dX6_step_10 : decode cX6_step 10 = .ok (.istore 4, 2) := by decide +kernel
theorem dX6_step_12 : decode cX6_step 12 = .ok (.iload_n 1, 1) := by decide +kernel
theorem dX6_step_13 : decode cX6_step 13 = .ok (.iload_n 3, 1) := by decide +kernel
theorem dX6_step_14 : decode cX6_step 14 = .ok (.idiv, 1) := by decide +kernel
theorem dX6_step_15 : decode cX6_step 15 = .ok (.iconst 3, 1) := by decide +kernel
theorem dX6_step_16 : decode cX6_step 16 = .ok (.irem, 1) := by decide +kernel
theorem dX6_step_17 : decode cX6_step 17 = .ok (.istore 5, 2) := by decide +kernel
theorem dX6_step_19 : decode cX6_step 19 = .ok (.iload 4, 2) := by decide +kernel
theorem dX6_step_21 : decode cX6_step 21 = .ok (.iload 5, 2) := by decide +kernel
theorem dX6_step_23 : decode cX6_step 23 = .ok (.if_icmp .ne 7, 3) := by decide +kernel
theorem dX6_step_26 : decode cX6_step 26 = .ok (.iconst (-1), 1) := by decide +kernel
theorem dX6_step_27 : decode cX6_step 27 = .ok (.goto 19, 3) := by decide +kernel
theorem dX6_step_30 : decode cX6_step 30 = .ok (.iload 4, 2) := by decide +kernel
theorem dX6_step_32 : decode cX6_step 32 = .ok (.iload 5, 2) := by decide +kernel
theorem dX6_step_34 : decode cX6_step 34 = .ok (.if_icmp .ge 9, 3) := by decide +kernel
theorem dX6_step_37 : decode cX6_step 37 = .ok (.iload_n 0, 1) := by decide +kernel
theorem dX6_step_38 : decode cX6_step 38 = .ok (.iload_n 3, 1) := by decide +kernel
theorem dX6_step_39 : decode cX6_step 39 = .ok (.iadd, 1) := by decide +kernel
theorem dX6_step_40 : decode cX6_step 40 = .ok (.goto 6, 3) := by decide +kernel
theorem dX6_step_43 : decode cX6_step 43 = .ok (.iload_n 0, 1) := by decide +kernel
theorem dX6_step_44 : decode cX6_step 44 = .ok (.iload_n 3, 1) := by decide +kernel
theorem dX6_step_45 : decode cX6_step 45 = .ok (.isub, 1) := by decide +kernel
theorem dX6_step_46 : decode cX6_step 46 = .ok (.ireturn, 1) := by decide +kernel
set_option maxRecDepth 20000 in
theorem ggX6_goesOn_X6_step : GoodIn wsX6_goesOn wsX6_step := goodIn_r _ [6, 7, 8, 5, 9] (by decide +kernel) (by decide +kernel)
set_option maxRecDepth 20000 in
theorem gX6_goesOn_X6_step : GoodIn wsX6_goesOn (va_wsS RX6 208 yX6_step wsX6_step) := goodIn_app (goodIn_of _ (by decide +kernel)) ggX6_goesOn_X6_step
theorem dX6_goesOn_0 : decode cX6_goesOn 0 = .ok (.iconst 0, 1) := by decide +kernel
theorem dX6_goesOn_1 : decode cX6_goesOn 1 = .ok (.istore_n 3, 1) := by decide +kernel
theorem dX6_goesOn_2 : decode cX6_goesOn 2 = .ok (.iload_n 3, 1) := by decide +kernel
theorem dX6_goesOn_3 : decode cX6_goesOn 3 = .ok (.aload_n 0, 1) := by decide +kernel
theorem dX6_goesOn_4 : decode cX6_goesOn 4 = .ok (.getfield 9, 3) := by decide +kernel
theorem dX6_goesOn_7 : decode cX6_goesOn 7 = .ok (.if_icmp .ge 35, 3) := by decide +kernel
theorem dX6_goesOn_10 : decode cX6_goesOn 10 = .ok (.iload_n 1, 1) := by decide +kernel
theorem dX6_goesOn_11 : decode cX6_goesOn 11 = .ok (.iload_n 2, 1) := by decide +kernel
theorem dX6_goesOn_12 : decode cX6_goesOn 12 = .ok (.iload_n 3, 1) := by decide +kernel
theorem dX6_goesOn_13 : decode cX6_goesOn 13 = .ok (.invokestatic 208, 3) := by decide +kernel
theorem dX6_goesOn_16 : decode cX6_goesOn 16 = .ok (.istore 4, 2) := by decide +kernel
theorem dX6_goesOn_18 : decode cX6_goesOn 18 = .ok (.iload 4, 2) := by decide +kernel
theorem dX6_goesOn_20 : decode cX6_goesOn 20 = .ok (.iconst (-1), 1) := by decide +kernel
theorem dX6_goesOn_21 : decode cX6_goesOn 21 = .ok (.if_icmp .eq 15, 3) := by decide +kernel
theorem dX6_goesOn_24 : decode cX6_goesOn 24 = .ok (.aload_n 0, 1) := by decide +kernel
theorem dX6_goesOn_25 : decode cX6_goesOn 25 = .ok (.getfield 74, 3) := by decide +kernel
theorem dX6_goesOn_28 : decode cX6_goesOn 28 = .ok (.iload 4, 2) := by decide +kernel
theorem dX6_goesOn_30 : decode cX6_goesOn 30 = .ok (.baload, 1) := by decide +kernel
theorem dX6_goesOn_31 : decode cX6_goesOn 31 = .ok (.ifCond .eq 5, 3) := by decide +kernel
theorem dX6_goesOn_34 : decode cX6_goesOn 34 = .ok (.iconst 1, 1) := by decide +kernel
theorem dX6_goesOn_35 : decode cX6_goesOn 35 = .ok (.ireturn, 1) := by decide +kernel
theorem dX6_goesOn_36 : decode cX6_goesOn 36 = .ok (.iinc 3 1, 3) := by decide +kernel
theorem dX6_goesOn_39 : decode cX6_goesOn 39 = .ok (.goto (-37), 3) := by decide +kernel
theorem dX6_goesOn_42 : decode cX6_goesOn 42 = .ok (.iconst 0, 1) := by decide +kernel
theorem dX6_goesOn_43 : decode cX6_goesOn 43 = .ok (.ireturn, 1) := by decide +kernel
set_option maxRecDepth 20000 in
theorem ggX6_areSprung_X6_step : GoodIn wsX6_areSprung wsX6_step := goodIn_r _ [7, 8, 9, 6, 10] (by decide +kernel) (by decide +kernel)
set_option maxRecDepth 20000 in
theorem gX6_areSprung_X6_step : GoodIn wsX6_areSprung (va_wsS RX6 208 yX6_step wsX6_step) := goodIn_app (goodIn_of _ (by decide +kernel)) ggX6_areSprung_X6_step
set_option maxRecDepth 20000 in
theorem ggX6_areSprung_X6_goesOn : GoodIn wsX6_areSprung wsX6_goesOn := goodIn_r _ [14, 3, 2, 4, 5, 6, 7, 8, 9, 10, 15, 16, 17, 18, 19, 20, 21, 22, 23, 24, 25, 26, 27, 28, 29, 30, 31, 32, 33, 34, 35, 36, 37, 38, 39] (by decide +kernel) (by decide +kernel)
set_option maxRecDepth 20000 in
theorem gX6_areSprung_X6_goesOn : GoodIn wsX6_areSprung (wsV RX6 212 RX6 yX6_goesOn wsX6_goesOn) := goodIn_app (goodIn_of _ (by decide +kernel)) ggX6_areSprung_X6_goesOn
theorem dX6_areSprung_0 : decode cX6_areSprung 0 = .ok (.iconst 0, 1) := by decide +kernel
theorem dX6_areSprung_1 : decode cX6_areSprung 1 = .ok (.istore_n 1, 1) := by decide +kernel
theorem dX6_areSprung_2 : decode cX6_areSprung 2 = .ok (.iconst 0, 1) := by decide +kernel
theorem dX6_areSprung_3 : decode cX6_areSprung 3 = .ok (.istore_n 2, 1) := by decide +kernel
theorem dX6_areSprung_4 : decode cX6_areSprung 4 = .ok (.iload_n 2, 1) := by decide +kernel
theorem dX6_areSprung_5 : decode cX6_areSprung 5 = .ok (.aload_n 0, 1) := by decide +kernel
theorem dX6_areSprung_6 : decode cX6_areSprung 6 = .ok (.getfield 202, 3) := by decide +kernel
theorem dX6_areSprung_9 : decode cX6_areSprung 9 = .ok (.if_icmp .ge 103, 3) := by decide +kernel
theorem dX6_areSprung_12 : decode cX6_areSprung 12 = .ok (.aload_n 0, 1) := by decide +kernel
theorem dX6_areSprung_13 : decode cX6_areSprung 13 = .ok (.getfield 74, 3) := by decide +kernel
theorem dX6_areSprung_16 : decode cX6_areSprung 16 = .ok (.iload_n 2, 1) := by decide +kernel
theorem dX6_areSprung_17 : decode cX6_areSprung 17 = .ok (.baload, 1) := by decide +kernel
theorem dX6_areSprung_18 : decode cX6_areSprung 18 = .ok (.ifCond .ne 6, 3) := by decide +kernel
theorem dX6_areSprung_21 : decode cX6_areSprung 21 = .ok (.goto 85, 3) := by decide +kernel
theorem dX6_areSprung_24 : decode cX6_areSprung 24 = .ok (.iconst 1, 1) := by decide +kernel
theorem dX6_areSprung_25 : decode cX6_areSprung 25 = .ok (.istore_n 1, 1) := by decide +kernel
theorem dX6_areSprung_26 : decode cX6_areSprung 26 = .ok (.iconst 0, 1) := by decide +kernel
theorem dX6_areSprung_27 : decode cX6_areSprung 27 = .ok (.istore_n 3, 1) := by decide +kernel
theorem dX6_areSprung_28 : decode cX6_areSprung 28 = .ok (.iload_n 3, 1) := by decide +kernel
theorem dX6_areSprung_29 : decode cX6_areSprung 29 = .ok (.aload_n 0, 1) := by decide +kernel
theorem dX6_areSprung_30 : decode cX6_areSprung 30 = .ok (.getfield 202, 3) := by decide +kernel
theorem dX6_areSprung_33 : decode cX6_areSprung 33 = .ok (.if_icmp .ge 73, 3) := by decide +kernel
theorem dX6_areSprung_36 : decode cX6_areSprung 36 = .ok (.iconst 0, 1) := by decide +kernel
theorem dX6_areSprung_37 : decode cX6_areSprung 37 = .ok (.istore 4, 2) := by decide +kernel
theorem dX6_areSprung_39 : decode cX6_areSprung 39 = .ok (.iload 4, 2) := by decide +kernel
theorem dX6_areSprung_41 : decode cX6_areSprung 41 = .ok (.aload_n 0, 1) := by decide +kernel
theorem dX6_areSprung_42 : decode cX6_areSprung 42 = .ok (.getfield 9, 3) := by decide +kernel
theorem dX6_areSprung_45 : decode cX6_areSprung 45 = .ok (.if_icmp .ge 55, 3) := by decide +kernel
theorem dX6_areSprung_48 : decode cX6_areSprung 48 = .ok (.aload_n 0, 1) := by decide +kernel
theorem dX6_areSprung_49 : decode cX6_areSprung 49 = .ok (.getfield 74, 3) := by decide +kernel
theorem dX6_areSprung_52 : decode cX6_areSprung 52 = .ok (.iload_n 3, 1) := by decide +kernel
theorem dX6_areSprung_53 : decode cX6_areSprung 53 = .ok (.baload, 1) := by decide +kernel
theorem dX6_areSprung_54 : decode cX6_areSprung 54 = .ok (.ifCond .eq 46, 3) := by decide +kernel
theorem dX6_areSprung_57 : decode cX6_areSprung 57 = .ok (.iload_n 2, 1) := by decide +kernel
theorem dX6_areSprung_58 : decode cX6_areSprung 58 = .ok (.iload_n 3, 1) := by decide +kernel
theorem dX6_areSprung_59 : decode cX6_areSprung 59 = .ok (.iload 4, 2) := by decide +kernel
theorem dX6_areSprung_61 : decode cX6_areSprung 61 = .ok (.invokestatic 208, 3) := by decide +kernel
theorem dX6_areSprung_64 : decode cX6_areSprung 64 = .ok (.istore 5, 2) := by decide +kernel
theorem dX6_areSprung_66 : decode cX6_areSprung 66 = .ok (.iload 5, 2) := by decide +kernel
theorem dX6_areSprung_68 : decode cX6_areSprung 68 = .ok (.iconst (-1), 1) := by decide +kernel
theorem dX6_areSprung_69 : decode cX6_areSprung 69 = .ok (.if_icmp .eq 25, 3) := by decide +kernel
theorem dX6_areSprung_72 : decode cX6_areSprung 72 = .ok (.aload_n 0, 1) := by decide +kernel
theorem dX6_areSprung_73 : decode cX6_areSprung 73 = .ok (.getfield 74, 3) := by decide +kernel
theorem dX6_areSprung_76 : decode cX6_areSprung 76 = .ok (.iload 5, 2) := by decide +kernel
theorem dX6_areSprung_78 : decode cX6_areSprung 78 = .ok (.baload, 1) := by decide +kernel
theorem dX6_areSprung_79 : decode cX6_areSprung 79 = .ok (.ifCond .ne 15, 3) := by decide +kernel
theorem dX6_areSprung_82 : decode cX6_areSprung 82 = .ok (.aload_n 0, 1) := by decide +kernel
theorem dX6_areSprung_83 : decode cX6_areSprung 83 = .ok (.iload 5, 2) := by decide +kernel
theorem dX6_areSprung_85 : decode cX6_areSprung 85 = .ok (.iload_n 3, 1) := by decide +kernel
theorem dX6_areSprung_86 : decode cX6_areSprung 86 = .ok (.invokevirtual 212, 3) := by decide +kernel
theorem dX6_areSprung_89 : decode cX6_areSprung 89 = .ok (.ifCond .ne 5, 3) := by decide +kernel
theorem dX6_areSprung_92 : decode cX6_areSprung 92 = .ok (.iconst 0, 1) := by decide +kernel
theorem dX6_areSprung_93 : decode cX6_areSprung 93 = .ok (.ireturn, 1) := by decide +kernel
theorem dX6_areSprung_94 : decode cX6_areSprung 94 = .ok (.iinc 4 1, 3) := by decide +kernel
theorem dX6_areSprung_97 : decode cX6_areSprung 97 = .ok (.goto (-58), 3) := by decide +kernel
theorem dX6_areSprung_100 : decode cX6_areSprung 100 = .ok (.iinc 3 1, 3) := by decide +kernel
theorem dX6_areSprung_103 : decode cX6_areSprung 103 = .ok (.goto (-75), 3) := by decide +kernel
theorem dX6_areSprung_106 : decode cX6_areSprung 106 = .ok (.iinc 2 1, 3) := by decide +kernel
theorem dX6_areSprung_109 : decode cX6_areSprung 109 = .ok (.goto (-105), 3) := by decide +kernel
theorem dX6_areSprung_112 : decode cX6_areSprung 112 = .ok (.iload_n 1, 1) := by decide +kernel
theorem dX6_areSprung_113 : decode cX6_areSprung 113 = .ok (.ireturn, 1) := by decide +kernel
set_option maxRecDepth 20000 in
theorem ggX6_jumps_X6_isFamily : GoodIn wsX6_jumps wsX6_isFamily := goodIn_r _ [8, 9, 10, 11, 7, 12] (by decide +kernel) (by decide +kernel)
set_option maxRecDepth 20000 in
theorem gX6_jumps_X6_isFamily : GoodIn wsX6_jumps (va_wsS RX6 96 yX6_isFamily wsX6_isFamily) := goodIn_app (goodIn_of _ (by decide +kernel)) ggX6_jumps_X6_isFamily
set_option maxRecDepth 20000 in
theorem ggX6_jumps_X6_isIn : GoodIn wsX6_jumps wsX6_isIn := goodIn_r _ [12] (by decide +kernel) (by decide +kernel)
set_option maxRecDepth 20000 in
theorem gX6_jumps_X6_isIn : GoodIn wsX6_jumps (va_wsS RX6 86 yX6_isIn wsX6_isIn) := goodIn_app (goodIn_of _ (by decide +kernel)) ggX6_jumps_X6_isIn
set_option maxRecDepth 20000 in
theorem ggX6_jumps_X6_finds : GoodIn wsX6_jumps wsX6_finds := goodIn_r _ [16, 17, 3, 4, 18, 19, 7, 20, 21, 22, 23, 24, 25, 26, 27, 28, 40, 41, 42, 43, 44, 45, 46, 47, 48, 49, 50, 51, 52, 53, 54, 55, 56, 57, 58, 59, 60, 61, 62, 63, 64] (by decide +kernel) (by decide +kernel)
set_option maxRecDepth 20000 in
theorem gX6_jumps_X6_finds : GoodIn wsX6_jumps (wsV RX6 217 RX6 yX6_finds wsX6_finds) := goodIn_app (goodIn_of _ (by decide +kernel)) ggX6_jumps_X6_finds
set_option maxRecDepth 20000 in
theorem ggX6_jumps_X6_areSprung : GoodIn wsX6_jumps wsX6_areSprung := goodIn_r _ [32, 3, 4, 17, 33, 34, 7, 35, 18, 19, 20, 36, 37, 38, 39, 40, 41, 42, 43, 44, 45, 46, 47, 48, 49, 50, 51, 52, 53, 54, 55, 56, 57, 58, 59, 60, 61, 62, 63, 64] (by decide +kernel) (by decide +kernel)
set_option maxRecDepth 20000 in
theorem gX6_jumps_X6_areSprung : GoodIn wsX6_jumps (wsV RX6 220 RX6 yX6_areSprung wsX6_areSprung) := goodIn_app (goodIn_of _ (by decide +kernel)) ggX6_jumps_X6_areSprung
theorem dX6_jumps_0 : decode cX6_jumps 0 = .ok (.iload_n 1, 1) := by decide +kernel
theorem dX6_jumps_1 : decode cX6_jumps 1 = .ok (.invokestatic 96, 3) := by decide +kernel
theorem dX6_jumps_4 : decode cX6_jumps 4 = .ok (.ifCond .eq 22, 3) := by decide +kernel
theorem dX6_jumps_7 : decode cX6_jumps 7 = .ok (.iload_n 2, 1) := by decide +kernel
theorem dX6_jumps_8 : decode cX6_jumps 8 = .ok (.invokestatic 96, 3) := by decide +kernel
theorem dX6_jumps_11 : decode cX6_jumps 11 = .ok (.ifCond .eq 15, 3) := by decide +kernel
theorem dX6_jumps_14 : decode cX6_jumps 14 = .ok (.iload_n 3, 1) := by decide +kernel
theorem dX6_jumps_15 : decode cX6_jumps 15 = .ok (.i2l, 1) := by decide +kernel
theorem dX6_jumps_16 : decode cX6_jumps 16 = .ok (.lconst 0, 1) := by decide +kernel
theorem dX6_jumps_17 : decode cX6_jumps 17 = .ok (.ldc2_w 215, 3) := by decide +kernel
theorem dX6_jumps_20 : decode cX6_jumps 20 = .ok (.invokestatic 86, 3) := by decide +kernel
theorem dX6_jumps_23 : decode cX6_jumps 23 = .ok (.ifCond .ne 6, 3) := by decide +kernel
theorem dX6_jumps_26 : decode cX6_jumps 26 = .ok (.bipush (-2), 2) := by decide +kernel
theorem dX6_jumps_28 : decode cX6_jumps 28 = .ok (.ireturn, 1) := by decide +kernel
theorem dX6_jumps_29 : decode cX6_jumps 29 = .ok (.aload_n 0, 1) := by decide +kernel
theorem dX6_jumps_30 : decode cX6_jumps 30 = .ok (.getfield 19, 3) := by decide +kernel
theorem dX6_jumps_33 : decode cX6_jumps 33 = .ok (.iload_n 1, 1) := by decide +kernel
theorem dX6_jumps_34 : decode cX6_jumps 34 = .ok (.iaload, 1) := by decide +kernel
theorem dX6_jumps_35 : decode cX6_jumps 35 = .ok (.iconst (-1), 1) := by decide +kernel
theorem dX6_jumps_36 : decode cX6_jumps 36 = .ok (.if_icmp .eq 13, 3) := by decide +kernel
theorem dX6_jumps_39 : decode cX6_jumps 39 = .ok (.aload_n 0, 1) := by decide +kernel
theorem dX6_jumps_40 : decode cX6_jumps 40 = .ok (.getfield 19, 3) := by decide +kernel
theorem dX6_jumps_43 : decode cX6_jumps 43 = .ok (.iload_n 2, 1) := by decide +kernel
theorem dX6_jumps_44 : decode cX6_jumps 44 = .ok (.iaload, 1) := by decide +kernel
theorem dX6_jumps_45 : decode cX6_jumps 45 = .ok (.iconst (-1), 1) := by decide +kernel
theorem dX6_jumps_46 : decode cX6_jumps 46 = .ok (.if_icmp .ne 6, 3) := by decide +kernel
theorem dX6_jumps_49 : decode cX6_jumps 49 = .ok (.bipush (-11), 2) := by decide +kernel
theorem dX6_jumps_51 : decode cX6_jumps 51 = .ok (.ireturn, 1) := by decide +kernel
theorem dX6_jumps_52 : decode cX6_jumps 52 = .ok (.aload_n 0, 1) := by decide +kernel
theorem dX6_jumps_53 : decode cX6_jumps 53 = .ok (.iload_n 1, 1) := by decide +kernel
theorem dX6_jumps_54 : decode cX6_jumps 54 = .ok (.iload_n 2, 1) := by decide +kernel
theorem dX6_jumps_55 : decode cX6_jumps 55 = .ok (.invokevirtual 217, 3) := by decide +kernel
theorem dX6_jumps_58 : decode cX6_jumps 58 = .ok (.iload_n 3, 1) := by decide +kernel
theorem dX6_jumps_59 : decode cX6_jumps 59 = .ok (.iconst 1, 1) := by decide +kernel
theorem dX6_jumps_60 : decode cX6_jumps 60 = .ok (.if_icmp .ne 16, 3) := by decide +kernel
theorem dX6_jumps_63 : decode cX6_jumps 63 = .ok (.aload_n 0, 1) := by decide +kernel
theorem dX6_jumps_64 : decode cX6_jumps 64 = .ok (.invokevirtual 220, 3) := by decide +kernel
theorem dX6_jumps_67 : decode cX6_jumps 67 = .ok (.ifCond .eq 7, 3) := by decide +kernel
theorem dX6_jumps_70 : decode cX6_jumps 70 = .ok (.iconst 1, 1) := by decide +kernel
theorem dX6_jumps_71 : decode cX6_jumps 71 = .ok (.goto 4, 3) := by decide +kernel
theorem dX6_jumps_74 : decode cX6_jumps 74 = .ok (.iconst 0, 1) := by decide +kernel
theorem dX6_jumps_75 : decode cX6_jumps 75 = .ok (.ireturn, 1) := by decide +kernel
theorem dX6_jumps_76 : decode cX6_jumps 76 = .ok (.iconst 0, 1) := by decide +kernel
theorem dX6_jumps_77 : decode cX6_jumps 77 = .ok (.istore 4, 2) := by decide +kernel
theorem dX6_jumps_79 : decode cX6_jumps 79 = .ok (.iconst (-1), 1) := by decide +kernel
theorem dX6_jumps_80 : decode cX6_jumps 80 = .ok (.istore 5, 2) := by decide +kernel
theorem dX6_jumps_82 : decode cX6_jumps 82 = .ok (.iconst (-1), 1) := by decide +kernel
theorem dX6_jumps_83 : decode cX6_jumps 83 = .ok (.istore 6, 2) := by decide +kernel
theorem dX6_jumps_85 : decode cX6_jumps 85 = .ok (.iconst 0, 1) := by decide +kernel
theorem dX6_jumps_86 : decode cX6_jumps 86 = .ok (.istore 7, 2) := by decide +kernel
theorem dX6_jumps_88 : decode cX6_jumps 88 = .ok (.iload 7, 2) := by decide +kernel
theorem dX6_jumps_90 : decode cX6_jumps 90 = .ok (.aload_n 0, 1) := by decide +kernel
theorem dX6_jumps_91 : decode cX6_jumps 91 = .ok (.getfield 202, 3) := by decide +kernel
theorem dX6_jumps_94 : decode cX6_jumps 94 = .ok (.if_icmp .ge 44, 3) := by decide +kernel
theorem dX6_jumps_97 : decode cX6_jumps 97 = .ok (.aload_n 0, 1) := by decide +kernel
theorem dX6_jumps_98 : decode cX6_jumps 98 = .ok (.getfield 74, 3) := by decide +kernel
theorem dX6_jumps_101 : decode cX6_jumps 101 = .ok (.iload 7, 2) := by decide +kernel
theorem dX6_jumps_103 : decode cX6_jumps 103 = .ok (.baload, 1) := by decide +kernel
theorem dX6_jumps_104 : decode cX6_jumps 104 = .ok (.ifCond .ne 6, 3) := by decide +kernel
theorem dX6_jumps_107 : decode cX6_jumps 107 = .ok (.goto 25, 3) := by decide +kernel
theorem dX6_jumps_110 : decode cX6_jumps 110 = .ok (.iinc 4 1, 3) := by decide +kernel
theorem dX6_jumps_113 : decode cX6_jumps 113 = .ok (.iload 5, 2) := by decide +kernel
theorem dX6_jumps_115 : decode cX6_jumps 115 = .ok (.iconst (-1), 1) := by decide +kernel
theorem dX6_jumps_116 : decode cX6_jumps 116 = .ok (.if_icmp .ne 8, 3) := by decide +kernel
theorem dX6_jumps_119 : decode cX6_jumps 119 = .ok (.iload 7, 2) := by decide +kernel
theorem dX6_jumps_121 : decode cX6_jumps 121 = .ok (.goto 5, 3) := by decide +kernel
theorem dX6_jumps_124 : decode cX6_jumps 124 = .ok (.iload 5, 2) := by decide +kernel
theorem dX6_jumps_126 : decode cX6_jumps 126 = .ok (.istore 5, 2) := by decide +kernel
theorem dX6_jumps_128 : decode cX6_jumps 128 = .ok (.iload 7, 2) := by decide +kernel
theorem dX6_jumps_130 : decode cX6_jumps 130 = .ok (.istore 6, 2) := by decide +kernel
theorem dX6_jumps_132 : decode cX6_jumps 132 = .ok (.iinc 7 1, 3) := by decide +kernel
theorem dX6_jumps_135 : decode cX6_jumps 135 = .ok (.goto (-47), 3) := by decide +kernel
theorem dX6_jumps_138 : decode cX6_jumps 138 = .ok (.iload_n 3, 1) := by decide +kernel
theorem dX6_jumps_139 : decode cX6_jumps 139 = .ok (.ifCond .ne 8, 3) := by decide +kernel
theorem dX6_jumps_142 : decode cX6_jumps 142 = .ok (.iload 4, 2) := by decide +kernel
theorem dX6_jumps_144 : decode cX6_jumps 144 = .ok (.goto 15, 3) := by decide +kernel
theorem dX6_jumps_147 : decode cX6_jumps 147 = .ok (.iload_n 3, 1) := by decide +kernel
theorem dX6_jumps_148 : decode cX6_jumps 148 = .ok (.iconst 2, 1) := by decide +kernel
theorem dX6_jumps_149 : decode cX6_jumps 149 = .ok (.if_icmp .ne 8, 3) := by decide +kernel
theorem dX6_jumps_152 : decode cX6_jumps 152 = .ok (.iload 5, 2) := by decide +kernel
theorem dX6_jumps_154 : decode cX6_jumps 154 = .ok (.goto 5, 3) := by decide +kernel
theorem dX6_jumps_157 : decode cX6_jumps 157 = .ok (.iload 6, 2) := by decide +kernel
theorem dX6_jumps_159 : decode cX6_jumps 159 = .ok (.ireturn, 1) := by decide +kernel
set_option maxRecDepth 20000 in
theorem ggX6_jump_X6_isFamily : GoodIn wsX6_jump wsX6_isFamily := goodIn_r _ [7, 8, 9, 10, 6, 11] (by decide +kernel) (by decide +kernel)
set_option maxRecDepth 20000 in
theorem gX6_jump_X6_isFamily : GoodIn wsX6_jump (va_wsS RX6 96 yX6_isFamily wsX6_isFamily) := goodIn_app (goodIn_of _ (by decide +kernel)) ggX6_jump_X6_isFamily
set_option maxRecDepth 20000 in
theorem ggX6_jump_X6_three : GoodIn wsX6_jump wsX6_three := goodIn_r _ [14] (by decide +kernel) (by decide +kernel)
set_option maxRecDepth 20000 in
theorem gX6_jump_X6_three : GoodIn wsX6_jump (va_wsS RX6 199 yX6_three wsX6_three) := goodIn_app (goodIn_of _ (by decide +kernel)) ggX6_jump_X6_three
set_option maxRecDepth 20000 in
theorem ggX6_jump_X6_isIn : GoodIn wsX6_jump wsX6_isIn := goodIn_r _ [11] (by decide +kernel) (by decide +kernel)
set_option maxRecDepth 20000 in
theorem gX6_jump_X6_isIn : GoodIn wsX6_jump (va_wsS RX6 86 yX6_isIn wsX6_isIn) := goodIn_app (goodIn_of _ (by decide +kernel)) ggX6_jump_X6_isIn
set_option maxRecDepth 20000 in
theorem ggX6_jump_X6_finds : GoodIn wsX6_jump wsX6_finds := goodIn_r _ [18, 1, 19, 3, 12, 13, 6, 14, 20, 21, 22, 23, 24, 25, 26, 27, 28, 29, 30, 31, 32, 33, 34, 35, 36, 37, 38, 39, 40, 41, 42, 43, 44, 45, 46, 47, 48, 49, 50, 51, 52] (by decide +kernel) (by decide +kernel)
set_option maxRecDepth 20000 in
theorem gX6_jump_X6_finds : GoodIn wsX6_jump (wsV RX6 217 RX6 yX6_finds wsX6_finds) := goodIn_app (goodIn_of _ (by decide +kernel)) ggX6_jump_X6_finds
theorem dX6_jump_0 : decode cX6_jump 0 = .ok (.iload_n 1, 1) := by decide +kernel
theorem dX6_jump_1 : decode cX6_jump 1 = .ok (.invokestatic 96, 3) := by decide +kernel
theorem dX6_jump_4 : decode cX6_jump 4 = .ok (.ifCond .eq 29, 3) := by decide +kernel
theorem dX6_jump_7 : decode cX6_jump 7 = .ok (.iload_n 2, 1) := by decide +kernel
theorem dX6_jump_8 : decode cX6_jump 8 = .ok (.invokestatic 96, 3) := by decide +kernel
theorem dX6_jump_11 : decode cX6_jump 11 = .ok (.ifCond .eq 22, 3) := by decide +kernel
theorem dX6_jump_14 : decode cX6_jump 14 = .ok (.iload_n 3, 1) := by decide +kernel
theorem dX6_jump_15 : decode cX6_jump 15 = .ok (.i2l, 1) := by decide +kernel
theorem dX6_jump_16 : decode cX6_jump 16 = .ok (.lconst 0, 1) := by decide +kernel
theorem dX6_jump_17 : decode cX6_jump 17 = .ok (.aload_n 0, 1) := by decide +kernel
theorem dX6_jump_18 : decode cX6_jump 18 = .ok (.getfield 9, 3) := by decide +kernel
theorem dX6_jump_21 : decode cX6_jump 21 = .ok (.invokestatic 199, 3) := by decide +kernel
theorem dX6_jump_24 : decode cX6_jump 24 = .ok (.iconst 1, 1) := by decide +kernel
theorem dX6_jump_25 : decode cX6_jump 25 = .ok (.isub, 1) := by decide +kernel
theorem dX6_jump_26 : decode cX6_jump 26 = .ok (.i2l, 1) := by decide +kernel
theorem dX6_jump_27 : decode cX6_jump 27 = .ok (.invokestatic 86, 3) := by decide +kernel
theorem dX6_jump_30 : decode cX6_jump 30 = .ok (.ifCond .ne 6, 3) := by decide +kernel
theorem dX6_jump_33 : decode cX6_jump 33 = .ok (.bipush (-2), 2) := by decide +kernel
theorem dX6_jump_35 : decode cX6_jump 35 = .ok (.ireturn, 1) := by decide +kernel
theorem dX6_jump_36 : decode cX6_jump 36 = .ok (.aload_n 0, 1) := by decide +kernel
theorem dX6_jump_37 : decode cX6_jump 37 = .ok (.getfield 19, 3) := by decide +kernel
theorem dX6_jump_40 : decode cX6_jump 40 = .ok (.iload_n 1, 1) := by decide +kernel
theorem dX6_jump_41 : decode cX6_jump 41 = .ok (.iaload, 1) := by decide +kernel
theorem dX6_jump_42 : decode cX6_jump 42 = .ok (.iconst (-1), 1) := by decide +kernel
theorem dX6_jump_43 : decode cX6_jump 43 = .ok (.if_icmp .eq 13, 3) := by decide +kernel
theorem dX6_jump_46 : decode cX6_jump 46 = .ok (.aload_n 0, 1) := by decide +kernel
theorem dX6_jump_47 : decode cX6_jump 47 = .ok (.getfield 19, 3) := by decide +kernel
theorem dX6_jump_50 : decode cX6_jump 50 = .ok (.iload_n 2, 1) := by decide +kernel
theorem dX6_jump_51 : decode cX6_jump 51 = .ok (.iaload, 1) := by decide +kernel
theorem dX6_jump_52 : decode cX6_jump 52 = .ok (.iconst (-1), 1) := by decide +kernel
theorem dX6_jump_53 : decode cX6_jump 53 = .ok (.if_icmp .ne 6, 3) := by decide +kernel
theorem dX6_jump_56 : decode cX6_jump 56 = .ok (.bipush (-11), 2) := by decide +kernel
theorem dX6_jump_58 : decode cX6_jump 58 = .ok (.ireturn, 1) := by decide +kernel
theorem dX6_jump_59 : decode cX6_jump 59 = .ok (.aload_n 0, 1) := by decide +kernel
theorem dX6_jump_60 : decode cX6_jump 60 = .ok (.iload_n 1, 1) := by decide +kernel
theorem dX6_jump_61 : decode cX6_jump 61 = .ok (.iload_n 2, 1) := by decide +kernel
theorem dX6_jump_62 : decode cX6_jump 62 = .ok (.invokevirtual 217, 3) := by decide +kernel
theorem dX6_jump_65 : decode cX6_jump 65 = .ok (.aload_n 0, 1) := by decide +kernel
theorem dX6_jump_66 : decode cX6_jump 66 = .ok (.getfield 74, 3) := by decide +kernel
theorem dX6_jump_69 : decode cX6_jump 69 = .ok (.iload_n 3, 1) := by decide +kernel
theorem dX6_jump_70 : decode cX6_jump 70 = .ok (.baload, 1) := by decide +kernel
theorem dX6_jump_71 : decode cX6_jump 71 = .ok (.ifCond .eq 7, 3) := by decide +kernel
theorem dX6_jump_74 : decode cX6_jump 74 = .ok (.iconst 1, 1) := by decide +kernel
theorem dX6_jump_75 : decode cX6_jump 75 = .ok (.goto 4, 3) := by decide +kernel
theorem dX6_jump_78 : decode cX6_jump 78 = .ok (.iconst 0, 1) := by decide +kernel
theorem dX6_jump_79 : decode cX6_jump 79 = .ok (.ireturn, 1) := by decide +kernel
set_option maxRecDepth 20000 in
theorem ggX6_twistTo_X6_twisted : GoodIn wsX6_twistTo wsX6_twisted := goodIn_r _ [7, 1, 8, 9, 10, 11, 12, 13, 14, 15, 16, 17, 18, 19, 20, 21, 22, 23, 24, 25, 26, 27, 28, 29, 30, 31, 32] (by decide +kernel) (by decide +kernel)
set_option maxRecDepth 20000 in
theorem gX6_twistTo_X6_twisted : GoodIn wsX6_twistTo (wsV RX6 118 RX6 yX6_twisted wsX6_twisted) := goodIn_app (goodIn_of _ (by decide +kernel)) ggX6_twistTo_X6_twisted
theorem dX6_twistTo_0 : decode cX6_twistTo 0 = .ok (.iconst 0, 1) := by decide +kernel
theorem dX6_twistTo_1 : decode cX6_twistTo 1 = .ok (.istore_n 3, 1) := by decide +kernel
theorem dX6_twistTo_2 : decode cX6_twistTo 2 = .ok (.iload_n 3, 1) := by decide +kernel
theorem dX6_twistTo_3 : decode cX6_twistTo 3 = .ok (.iconst 1, 1) := by decide +kernel
theorem dX6_twistTo_4 : decode cX6_twistTo 4 = .ok (.aload_n 0, 1) := by decide +kernel
theorem dX6_twistTo_5 : decode cX6_twistTo 5 = .ok (.getfield 9, 3) := by decide +kernel
theorem dX6_twistTo_8 : decode cX6_twistTo 8 = .ok (.ishl, 1) := by decide +kernel
theorem dX6_twistTo_9 : decode cX6_twistTo 9 = .ok (.if_icmp .ge 32, 3) := by decide +kernel
theorem dX6_twistTo_12 : decode cX6_twistTo 12 = .ok (.aload_n 0, 1) := by decide +kernel
theorem dX6_twistTo_13 : decode cX6_twistTo 13 = .ok (.aload_n 0, 1) := by decide +kernel
theorem dX6_twistTo_14 : decode cX6_twistTo 14 = .ok (.getfield 15, 3) := by decide +kernel
theorem dX6_twistTo_17 : decode cX6_twistTo 17 = .ok (.iload_n 1, 1) := by decide +kernel
theorem dX6_twistTo_18 : decode cX6_twistTo 18 = .ok (.laload, 1) := by decide +kernel
theorem dX6_twistTo_19 : decode cX6_twistTo 19 = .ok (.iload_n 3, 1) := by decide +kernel
theorem dX6_twistTo_20 : decode cX6_twistTo 20 = .ok (.invokevirtual 118, 3) := by decide +kernel
theorem dX6_twistTo_23 : decode cX6_twistTo 23 = .ok (.aload_n 0, 1) := by decide +kernel
theorem dX6_twistTo_24 : decode cX6_twistTo 24 = .ok (.getfield 15, 3) := by decide +kernel
theorem dX6_twistTo_27 : decode cX6_twistTo 27 = .ok (.iload_n 2, 1) := by decide +kernel
theorem dX6_twistTo_28 : decode cX6_twistTo 28 = .ok (.laload, 1) := by decide +kernel
theorem dX6_twistTo_29 : decode cX6_twistTo 29 = .ok (.lcmp, 1) := by decide +kernel
theorem dX6_twistTo_30 : decode cX6_twistTo 30 = .ok (.ifCond .ne 5, 3) := by decide +kernel
theorem dX6_twistTo_33 : decode cX6_twistTo 33 = .ok (.iload_n 3, 1) := by decide +kernel
theorem dX6_twistTo_34 : decode cX6_twistTo 34 = .ok (.ireturn, 1) := by decide +kernel
theorem dX6_twistTo_35 : decode cX6_twistTo 35 = .ok (.iinc 3 1, 3) := by decide +kernel
theorem dX6_twistTo_38 : decode cX6_twistTo 38 = .ok (.goto (-36), 3) := by decide +kernel
theorem dX6_twistTo_41 : decode cX6_twistTo 41 = .ok (.iconst (-1), 1) := by decide +kernel
theorem dX6_twistTo_42 : decode cX6_twistTo 42 = .ok (.ireturn, 1) := by decide +kernel
set_option maxRecDepth 20000 in
theorem ggX6_isRenamed_X6_isMember : GoodIn wsX6_isRenamed wsX6_isMember := goodIn_r _ [7, 8, 9, 10, 11, 12, 13, 14, 15, 16, 17, 18, 19, 20, 21, 22, 23, 24, 25, 26, 27, 28, 29, 30, 31, 32, 33] (by decide +kernel) (by decide +kernel)
set_option maxRecDepth 20000 in
theorem gX6_isRenamed_X6_isMember : GoodIn wsX6_isRenamed (wsV RX6 103 RX6 yX6_isMember wsX6_isMember) := goodIn_app (goodIn_of _ (by decide +kernel)) ggX6_isRenamed_X6_isMember
theorem dX6_isRenamed_0 : decode cX6_isRenamed 0 = .ok (.iconst 0, 1) := by decide +kernel
theorem dX6_isRenamed_1 : decode cX6_isRenamed 1 = .ok (.istore_n 3, 1) := by decide +kernel
theorem dX6_isRenamed_2 : decode cX6_isRenamed 2 = .ok (.iload_n 3, 1) := by decide +kernel
theorem dX6_isRenamed_3 : decode cX6_isRenamed 3 = .ok (.iconst 1, 1) := by decide +kernel
theorem dX6_isRenamed_4 : decode cX6_isRenamed 4 = .ok (.aload_n 0, 1) := by decide +kernel
theorem dX6_isRenamed_5 : decode cX6_isRenamed 5 = .ok (.getfield 9, 3) := by decide +kernel
theorem dX6_isRenamed_8 : decode cX6_isRenamed 8 = .ok (.ishl, 1) := by decide +kernel
theorem dX6_isRenamed_9 : decode cX6_isRenamed 9 = .ok (.if_icmp .ge 67, 3) := by decide +kernel
theorem dX6_isRenamed_12 : decode cX6_isRenamed 12 = .ok (.iconst 0, 1) := by decide +kernel
theorem dX6_isRenamed_13 : decode cX6_isRenamed 13 = .ok (.istore 4, 2) := by decide +kernel
theorem dX6_isRenamed_15 : decode cX6_isRenamed 15 = .ok (.iconst 0, 1) := by decide +kernel
theorem dX6_isRenamed_16 : decode cX6_isRenamed 16 = .ok (.istore 5, 2) := by decide +kernel
theorem dX6_isRenamed_18 : decode cX6_isRenamed 18 = .ok (.iload 5, 2) := by decide +kernel
theorem dX6_isRenamed_20 : decode cX6_isRenamed 20 = .ok (.aload_n 0, 1) := by decide +kernel
theorem dX6_isRenamed_21 : decode cX6_isRenamed 21 = .ok (.getfield 9, 3) := by decide +kernel
theorem dX6_isRenamed_24 : decode cX6_isRenamed 24 = .ok (.if_icmp .ge 28, 3) := by decide +kernel
theorem dX6_isRenamed_27 : decode cX6_isRenamed 27 = .ok (.iload 4, 2) := by decide +kernel
theorem dX6_isRenamed_29 : decode cX6_isRenamed 29 = .ok (.iload_n 3, 1) := by decide +kernel
theorem dX6_isRenamed_30 : decode cX6_isRenamed 30 = .ok (.iload 5, 2) := by decide +kernel
theorem dX6_isRenamed_32 : decode cX6_isRenamed 32 = .ok (.ishr, 1) := by decide +kernel
theorem dX6_isRenamed_33 : decode cX6_isRenamed 33 = .ok (.iconst 1, 1) := by decide +kernel
theorem dX6_isRenamed_34 : decode cX6_isRenamed 34 = .ok (.iand, 1) := by decide +kernel
theorem dX6_isRenamed_35 : decode cX6_isRenamed 35 = .ok (.aload_n 0, 1) := by decide +kernel
theorem dX6_isRenamed_36 : decode cX6_isRenamed 36 = .ok (.getfield 78, 3) := by decide +kernel
theorem dX6_isRenamed_39 : decode cX6_isRenamed 39 = .ok (.iload 5, 2) := by decide +kernel
theorem dX6_isRenamed_41 : decode cX6_isRenamed 41 = .ok (.iaload, 1) := by decide +kernel
theorem dX6_isRenamed_42 : decode cX6_isRenamed 42 = .ok (.ishl, 1) := by decide +kernel
theorem dX6_isRenamed_43 : decode cX6_isRenamed 43 = .ok (.ior, 1) := by decide +kernel
theorem dX6_isRenamed_44 : decode cX6_isRenamed 44 = .ok (.istore 4, 2) := by decide +kernel
theorem dX6_isRenamed_46 : decode cX6_isRenamed 46 = .ok (.iinc 5 1, 3) := by decide +kernel
theorem dX6_isRenamed_49 : decode cX6_isRenamed 49 = .ok (.goto (-31), 3) := by decide +kernel
theorem dX6_isRenamed_52 : decode cX6_isRenamed 52 = .ok (.aload_n 0, 1) := by decide +kernel
theorem dX6_isRenamed_53 : decode cX6_isRenamed 53 = .ok (.iload_n 1, 1) := by decide +kernel
theorem dX6_isRenamed_54 : decode cX6_isRenamed 54 = .ok (.iload_n 3, 1) := by decide +kernel
theorem dX6_isRenamed_55 : decode cX6_isRenamed 55 = .ok (.invokevirtual 103, 3) := by decide +kernel
theorem dX6_isRenamed_58 : decode cX6_isRenamed 58 = .ok (.aload_n 0, 1) := by decide +kernel
theorem dX6_isRenamed_59 : decode cX6_isRenamed 59 = .ok (.iload_n 2, 1) := by decide +kernel
theorem dX6_isRenamed_60 : decode cX6_isRenamed 60 = .ok (.iload 4, 2) := by decide +kernel
theorem dX6_isRenamed_62 : decode cX6_isRenamed 62 = .ok (.invokevirtual 103, 3) := by decide +kernel
theorem dX6_isRenamed_65 : decode cX6_isRenamed 65 = .ok (.if_icmp .eq 5, 3) := by decide +kernel
theorem dX6_isRenamed_68 : decode cX6_isRenamed 68 = .ok (.iconst 0, 1) := by decide +kernel
theorem dX6_isRenamed_69 : decode cX6_isRenamed 69 = .ok (.ireturn, 1) := by decide +kernel
theorem dX6_isRenamed_70 : decode cX6_isRenamed 70 = .ok (.iinc 3 1, 3) := by decide +kernel
theorem dX6_isRenamed_73 : decode cX6_isRenamed 73 = .ok (.goto (-71), 3) := by decide +kernel
theorem dX6_isRenamed_76 : decode cX6_isRenamed 76 = .ok (.iconst 1, 1) := by decide +kernel
theorem dX6_isRenamed_77 : decode cX6_isRenamed 77 = .ok (.ireturn, 1) := by decide +kernel
set_option maxRecDepth 20000 in
theorem ggX6_areAlike_X6_isRenamed : GoodIn wsX6_areAlike wsX6_isRenamed := goodIn_r _ [7, 1, 2, 8, 9, 10, 6, 11, 12, 16, 17, 18, 19, 20, 21, 22, 23, 24, 25, 26, 27, 28, 29, 30, 31, 32, 33, 34, 35, 36, 37, 38, 39, 40] (by decide +kernel) (by decide +kernel)
set_option maxRecDepth 20000 in
theorem gX6_areAlike_X6_isRenamed : GoodIn wsX6_areAlike (wsV RX6 224 RX6 yX6_isRenamed wsX6_isRenamed) := goodIn_app (goodIn_of _ (by decide +kernel)) ggX6_areAlike_X6_isRenamed
set_option maxRecDepth 20000 in
theorem ggX6_areAlike_X6_areAlike : GoodIn wsX6_areAlike wsX6_areAlike := goodIn_r _ [0, 1, 2, 3, 4, 5, 6, 7, 8, 9, 10, 11, 12, 13, 14, 15, 16, 17, 18, 19, 20, 21, 22, 23, 24, 25, 26, 27, 28, 29, 30, 31, 32, 33, 34, 35, 36, 37, 38, 39, 40] (by decide +kernel) (by decide +kernel)
set_option maxRecDepth 20000 in
theorem gX6_areAlike_X6_areAlike : GoodIn wsX6_areAlike (wsV RX6 227 RX6 yX6_areAlike wsX6_areAlike) := goodIn_app (goodIn_of _ (by decide +kernel)) ggX6_areAlike_X6_areAlike
theorem dX6_areAlike_0 : decode cX6_areAlike 0 = .ok (.iload_n 3, 1) := by decide +kernel
theorem dX6_areAlike_1 : decode cX6_areAlike 1 = .ok (.aload_n 0, 1) := by decide +kernel
theorem dX6_areAlike_2 : decode cX6_areAlike 2 = .ok (.getfield 9, 3) := by decide +kernel
theorem dX6_areAlike_5 : decode cX6_areAlike 5 = .ok (.if_icmp .ne 10, 3) := by decide +kernel
theorem dX6_areAlike_8 : decode cX6_areAlike 8 = .ok (.aload_n 0, 1) := by decide +kernel
theorem dX6_areAlike_9 : decode cX6_areAlike 9 = .ok (.iload_n 1, 1) := by decide +kernel
theorem dX6_areAlike_10 : decode cX6_areAlike 10 = .ok (.iload_n 2, 1) := by decide +kernel
theorem dX6_areAlike_11 : decode cX6_areAlike 11 = .ok (.invokevirtual 224, 3) := by decide +kernel
theorem dX6_areAlike_14 : decode cX6_areAlike 14 = .ok (.ireturn, 1) := by decide +kernel
theorem dX6_areAlike_15 : decode cX6_areAlike 15 = .ok (.iconst 0, 1) := by decide +kernel
theorem dX6_areAlike_16 : decode cX6_areAlike 16 = .ok (.istore 5, 2) := by decide +kernel
theorem dX6_areAlike_18 : decode cX6_areAlike 18 = .ok (.iload 5, 2) := by decide +kernel
theorem dX6_areAlike_20 : decode cX6_areAlike 20 = .ok (.aload_n 0, 1) := by decide +kernel
theorem dX6_areAlike_21 : decode cX6_areAlike 21 = .ok (.getfield 9, 3) := by decide +kernel
theorem dX6_areAlike_24 : decode cX6_areAlike 24 = .ok (.if_icmp .ge 52, 3) := by decide +kernel
theorem dX6_areAlike_27 : decode cX6_areAlike 27 = .ok (.iload 4, 2) := by decide +kernel
theorem dX6_areAlike_29 : decode cX6_areAlike 29 = .ok (.iload 5, 2) := by decide +kernel
theorem dX6_areAlike_31 : decode cX6_areAlike 31 = .ok (.ishr, 1) := by decide +kernel
theorem dX6_areAlike_32 : decode cX6_areAlike 32 = .ok (.iconst 1, 1) := by decide +kernel
theorem dX6_areAlike_33 : decode cX6_areAlike 33 = .ok (.iand, 1) := by decide +kernel
theorem dX6_areAlike_34 : decode cX6_areAlike 34 = .ok (.iconst 1, 1) := by decide +kernel
theorem dX6_areAlike_35 : decode cX6_areAlike 35 = .ok (.if_icmp .ne 6, 3) := by decide +kernel
theorem dX6_areAlike_38 : decode cX6_areAlike 38 = .ok (.goto 32, 3) := by decide +kernel
theorem dX6_areAlike_41 : decode cX6_areAlike 41 = .ok (.aload_n 0, 1) := by decide +kernel
theorem dX6_areAlike_42 : decode cX6_areAlike 42 = .ok (.getfield 78, 3) := by decide +kernel
theorem dX6_areAlike_45 : decode cX6_areAlike 45 = .ok (.iload_n 3, 1) := by decide +kernel
theorem dX6_areAlike_46 : decode cX6_areAlike 46 = .ok (.iload 5, 2) := by decide +kernel
theorem dX6_areAlike_48 : decode cX6_areAlike 48 = .ok (.iastore, 1) := by decide +kernel
theorem dX6_areAlike_49 : decode cX6_areAlike 49 = .ok (.aload_n 0, 1) := by decide +kernel
theorem dX6_areAlike_50 : decode cX6_areAlike 50 = .ok (.iload_n 1, 1) := by decide +kernel
theorem dX6_areAlike_51 : decode cX6_areAlike 51 = .ok (.iload_n 2, 1) := by decide +kernel
theorem dX6_areAlike_52 : decode cX6_areAlike 52 = .ok (.iload_n 3, 1) := by decide +kernel
theorem dX6_areAlike_53 : decode cX6_areAlike 53 = .ok (.iconst 1, 1) := by decide +kernel
theorem dX6_areAlike_54 : decode cX6_areAlike 54 = .ok (.iadd, 1) := by decide +kernel
theorem dX6_areAlike_55 : decode cX6_areAlike 55 = .ok (.iload 4, 2) := by decide +kernel
theorem dX6_areAlike_57 : decode cX6_areAlike 57 = .ok (.iconst 1, 1) := by decide +kernel
theorem dX6_areAlike_58 : decode cX6_areAlike 58 = .ok (.iload 5, 2) := by decide +kernel
theorem dX6_areAlike_60 : decode cX6_areAlike 60 = .ok (.ishl, 1) := by decide +kernel
theorem dX6_areAlike_61 : decode cX6_areAlike 61 = .ok (.ior, 1) := by decide +kernel
theorem dX6_areAlike_62 : decode cX6_areAlike 62 = .ok (.invokevirtual 227, 3) := by decide +kernel
theorem dX6_areAlike_65 : decode cX6_areAlike 65 = .ok (.ifCond .eq 5, 3) := by decide +kernel
theorem dX6_areAlike_68 : decode cX6_areAlike 68 = .ok (.iconst 1, 1) := by decide +kernel
theorem dX6_areAlike_69 : decode cX6_areAlike 69 = .ok (.ireturn, 1) := by decide +kernel
theorem dX6_areAlike_70 : decode cX6_areAlike 70 = .ok (.iinc 5 1, 3) := by decide +kernel
theorem dX6_areAlike_73 : decode cX6_areAlike 73 = .ok (.goto (-55), 3) := by decide +kernel
theorem dX6_areAlike_76 : decode cX6_areAlike 76 = .ok (.iconst 0, 1) := by decide +kernel
theorem dX6_areAlike_77 : decode cX6_areAlike 77 = .ok (.ireturn, 1) := by decide +kernel
set_option maxRecDepth 20000 in
theorem ggX6_same_X6_isFamily : GoodIn wsX6_same wsX6_isFamily := goodIn_r _ [7, 8, 9, 10, 6, 11] (by decide +kernel) (by decide +kernel)
set_option maxRecDepth 20000 in
theorem gX6_same_X6_isFamily : GoodIn wsX6_same (va_wsS RX6 96 yX6_isFamily wsX6_isFamily) := goodIn_app (goodIn_of _ (by decide +kernel)) ggX6_same_X6_isFamily
set_option maxRecDepth 20000 in
theorem ggX6_same_X6_isIn : GoodIn wsX6_same wsX6_isIn := goodIn_r _ [11] (by decide +kernel) (by decide +kernel)
set_option maxRecDepth 20000 in
theorem gX6_same_X6_isIn : GoodIn wsX6_same (va_wsS RX6 86 yX6_isIn wsX6_isIn) := goodIn_app (goodIn_of _ (by decide +kernel)) ggX6_same_X6_isIn
set_option maxRecDepth 20000 in
theorem ggX6_same_X6_twistTo : GoodIn wsX6_same wsX6_twistTo := goodIn_r _ [15, 16, 3, 17, 18, 19, 6, 20, 34, 35, 36, 37, 38, 39, 40, 41, 42, 43, 44, 45, 46, 47, 48, 49, 50, 51, 52, 53, 54, 55, 56, 57, 58] (by decide +kernel) (by decide +kernel)
set_option maxRecDepth 20000 in
theorem gX6_same_X6_twistTo : GoodIn wsX6_same (wsV RX6 231 RX6 yX6_twistTo wsX6_twistTo) := goodIn_app (goodIn_of _ (by decide +kernel)) ggX6_same_X6_twistTo
set_option maxRecDepth 20000 in
theorem ggX6_same_X6_areAlike : GoodIn wsX6_same wsX6_areAlike := goodIn_r _ [24, 16, 25, 26, 27, 28, 6, 29, 30, 31, 32, 33, 3, 21, 22, 23, 34, 35, 36, 37, 38, 39, 40, 41, 42, 43, 44, 45, 46, 47, 48, 49, 50, 51, 52, 53, 54, 55, 56, 57, 58] (by decide +kernel) (by decide +kernel)
set_option maxRecDepth 20000 in
theorem gX6_same_X6_areAlike : GoodIn wsX6_same (wsV RX6 227 RX6 yX6_areAlike wsX6_areAlike) := goodIn_app (goodIn_of _ (by decide +kernel)) ggX6_same_X6_areAlike
theorem dX6_same_0 : decode cX6_same 0 = .ok (.iload_n 1, 1) := by decide +kernel
theorem dX6_same_1 : decode cX6_same 1 = .ok (.invokestatic 96, 3) := by decide +kernel
theorem dX6_same_4 : decode cX6_same 4 = .ok (.ifCond .eq 22, 3) := by decide +kernel
theorem dX6_same_7 : decode cX6_same 7 = .ok (.iload_n 2, 1) := by decide +kernel
theorem dX6_same_8 : decode cX6_same 8 = .ok (.invokestatic 96, 3) := by decide +kernel
theorem dX6_same_11 : decode cX6_same 11 = .ok (.ifCond .eq 15, 3) := by decide +kernel
theorem dX6_same_14 : decode cX6_same 14 = .ok (.iload_n 3, 1) := by decide +kernel
theorem dX6_same_15 : decode cX6_same 15 = .ok (.i2l, 1) := by decide +kernel
theorem dX6_same_16 : decode cX6_same 16 = .ok (.lconst 0, 1) := by decide +kernel
theorem dX6_same_17 : decode cX6_same 17 = .ok (.ldc2_w 146, 3) := by decide +kernel
theorem dX6_same_20 : decode cX6_same 20 = .ok (.invokestatic 86, 3) := by decide +kernel
theorem dX6_same_23 : decode cX6_same 23 = .ok (.ifCond .ne 6, 3) := by decide +kernel
theorem dX6_same_26 : decode cX6_same 26 = .ok (.bipush (-2), 2) := by decide +kernel
theorem dX6_same_28 : decode cX6_same 28 = .ok (.ireturn, 1) := by decide +kernel
theorem dX6_same_29 : decode cX6_same 29 = .ok (.aload_n 0, 1) := by decide +kernel
theorem dX6_same_30 : decode cX6_same 30 = .ok (.getfield 19, 3) := by decide +kernel
theorem dX6_same_33 : decode cX6_same 33 = .ok (.iload_n 1, 1) := by decide +kernel
theorem dX6_same_34 : decode cX6_same 34 = .ok (.iaload, 1) := by decide +kernel
theorem dX6_same_35 : decode cX6_same 35 = .ok (.iconst (-1), 1) := by decide +kernel
theorem dX6_same_36 : decode cX6_same 36 = .ok (.if_icmp .eq 13, 3) := by decide +kernel
theorem dX6_same_39 : decode cX6_same 39 = .ok (.aload_n 0, 1) := by decide +kernel
theorem dX6_same_40 : decode cX6_same 40 = .ok (.getfield 19, 3) := by decide +kernel
theorem dX6_same_43 : decode cX6_same 43 = .ok (.iload_n 2, 1) := by decide +kernel
theorem dX6_same_44 : decode cX6_same 44 = .ok (.iaload, 1) := by decide +kernel
theorem dX6_same_45 : decode cX6_same 45 = .ok (.iconst (-1), 1) := by decide +kernel
theorem dX6_same_46 : decode cX6_same 46 = .ok (.if_icmp .ne 6, 3) := by decide +kernel
theorem dX6_same_49 : decode cX6_same 49 = .ok (.bipush (-11), 2) := by decide +kernel
theorem dX6_same_51 : decode cX6_same 51 = .ok (.ireturn, 1) := by decide +kernel
theorem dX6_same_52 : decode cX6_same 52 = .ok (.iload_n 3, 1) := by decide +kernel
theorem dX6_same_53 : decode cX6_same 53 = .ok (.iconst 1, 1) := by decide +kernel
theorem dX6_same_54 : decode cX6_same 54 = .ok (.if_icmp .ne 10, 3) := by decide +kernel
theorem dX6_same_57 : decode cX6_same 57 = .ok (.aload_n 0, 1) := by decide +kernel
theorem dX6_same_58 : decode cX6_same 58 = .ok (.iload_n 1, 1) := by decide +kernel
theorem dX6_same_59 : decode cX6_same 59 = .ok (.iload_n 2, 1) := by decide +kernel
theorem dX6_same_60 : decode cX6_same 60 = .ok (.invokevirtual 231, 3) := by decide +kernel
theorem dX6_same_63 : decode cX6_same 63 = .ok (.ireturn, 1) := by decide +kernel
theorem dX6_same_64 : decode cX6_same 64 = .ok (.iload_n 3, 1) := by decide +kernel
theorem dX6_same_65 : decode cX6_same 65 = .ok (.ifCond .ne 22, 3) := by decide +kernel
theorem dX6_same_68 : decode cX6_same 68 = .ok (.aload_n 0, 1) := by decide +kernel
theorem dX6_same_69 : decode cX6_same 69 = .ok (.getfield 15, 3) := by decide +kernel
theorem dX6_same_72 : decode cX6_same 72 = .ok (.iload_n 1, 1) := by decide +kernel
theorem dX6_same_73 : decode cX6_same 73 = .ok (.laload, 1) := by decide +kernel
theorem dX6_same_74 : decode cX6_same 74 = .ok (.aload_n 0, 1) := by decide +kernel
theorem dX6_same_75 : decode cX6_same 75 = .ok (.getfield 15, 3) := by decide +kernel
theorem dX6_same_78 : decode cX6_same 78 = .ok (.iload_n 2, 1) := by decide +kernel
theorem dX6_same_79 : decode cX6_same 79 = .ok (.laload, 1) := by decide +kernel
theorem dX6_same_80 : decode cX6_same 80 = .ok (.lcmp, 1) := by decide +kernel
theorem dX6_same_81 : decode cX6_same 81 = .ok (.ifCond .ne 21, 3) := by decide +kernel
theorem dX6_same_84 : decode cX6_same 84 = .ok (.goto 14, 3) := by decide +kernel
theorem dX6_same_87 : decode cX6_same 87 = .ok (.aload_n 0, 1) := by decide +kernel
theorem dX6_same_88 : decode cX6_same 88 = .ok (.iload_n 1, 1) := by decide +kernel
theorem dX6_same_89 : decode cX6_same 89 = .ok (.iload_n 2, 1) := by decide +kernel
theorem dX6_same_90 : decode cX6_same 90 = .ok (.iconst 0, 1) := by decide +kernel
theorem dX6_same_91 : decode cX6_same 91 = .ok (.iconst 0, 1) := by decide +kernel
theorem dX6_same_92 : decode cX6_same 92 = .ok (.invokevirtual 227, 3) := by decide +kernel
theorem dX6_same_95 : decode cX6_same 95 = .ok (.ifCond .eq 7, 3) := by decide +kernel
theorem dX6_same_98 : decode cX6_same 98 = .ok (.iconst 1, 1) := by decide +kernel
theorem dX6_same_99 : decode cX6_same 99 = .ok (.goto 4, 3) := by decide +kernel
theorem dX6_same_102 : decode cX6_same 102 = .ok (.iconst 0, 1) := by decide +kernel
theorem dX6_same_103 : decode cX6_same 103 = .ok (.ireturn, 1) := by decide +kernel
set_option maxRecDepth 20000 in
theorem ggX6_isRow_X6_isIn : GoodIn wsX6_isRow wsX6_isIn := goodIn_r _ [5] (by decide +kernel) (by decide +kernel)
set_option maxRecDepth 20000 in
theorem gX6_isRow_X6_isIn : GoodIn wsX6_isRow (va_wsS RX6 86 yX6_isIn wsX6_isIn) := goodIn_app (goodIn_of _ (by decide +kernel)) ggX6_isRow_X6_isIn
theorem dX6_isRow_0 : decode cX6_isRow 0 = .ok (.iload_n 0, 1) := by decide +kernel
theorem dX6_isRow_1 : decode cX6_isRow 1 = .ok (.i2l, 1) := by decide +kernel
theorem dX6_isRow_2 : decode cX6_isRow 2 = .ok (.lconst 0, 1) := by decide +kernel
theorem dX6_isRow_3 : decode cX6_isRow 3 = .ok (.ldc2_w 215, 3) := by decide +kernel
theorem dX6_isRow_6 : decode cX6_isRow 6 = .ok (.invokestatic 86, 3) := by decide +kernel
theorem dX6_isRow_9 : decode cX6_isRow 9 = .ok (.ireturn, 1) := by decide +kernel
theorem dX6_lays_0 : decode cX6_lays 0 = .ok (.aload_n 0, 1) := by decide +kernel
theorem dX6_lays_1 : decode cX6_lays 1 = .ok (.getfield 44, 3) := by decide +kernel
theorem dX6_lays_4 : decode cX6_lays 4 = .ok (.iload_n 1, 1) := by decide +kernel
theorem dX6_lays_5 : decode cX6_lays 5 = .ok (.iload_n 2, 1) := by decide +kernel
theorem dX6_lays_6 : decode cX6_lays 6 = .ok (.iastore, 1) := by decide +kernel
theorem dX6_lays_7 : decode cX6_lays 7 = .ok (.aload_n 0, 1) := by decide +kernel
theorem dX6_lays_8 : decode cX6_lays 8 = .ok (.getfield 47, 3) := by decide +kernel
theorem dX6_lays_11 : decode cX6_lays 11 = .ok (.iload_n 1, 1) := by decide +kernel
theorem dX6_lays_12 : decode cX6_lays 12 = .ok (.iload_n 3, 1) := by decide +kernel
theorem dX6_lays_13 : decode cX6_lays 13 = .ok (.iastore, 1) := by decide +kernel
theorem dX6_lays_14 : decode cX6_lays 14 = .ok (.iconst 0, 1) := by decide +kernel
theorem dX6_lays_15 : decode cX6_lays 15 = .ok (.istore 4, 2) := by decide +kernel
theorem dX6_lays_17 : decode cX6_lays 17 = .ok (.iload 4, 2) := by decide +kernel
theorem dX6_lays_19 : decode cX6_lays 19 = .ok (.bipush 80, 2) := by decide +kernel
theorem dX6_lays_21 : decode cX6_lays 21 = .ok (.if_icmp .ge 22, 3) := by decide +kernel
theorem dX6_lays_24 : decode cX6_lays 24 = .ok (.aload_n 0, 1) := by decide +kernel
theorem dX6_lays_25 : decode cX6_lays 25 = .ok (.getfield 50, 3) := by decide +kernel
theorem dX6_lays_28 : decode cX6_lays 28 = .ok (.bipush 80, 2) := by decide +kernel
theorem dX6_lays_30 : decode cX6_lays 30 = .ok (.iload_n 1, 1) := by decide +kernel
theorem dX6_lays_31 : decode cX6_lays 31 = .ok (.imul, 1) := by decide +kernel
theorem dX6_lays_32 : decode cX6_lays 32 = .ok (.iload 4, 2) := by decide +kernel
theorem dX6_lays_34 : decode cX6_lays 34 = .ok (.iadd, 1) := by decide +kernel
theorem dX6_lays_35 : decode cX6_lays 35 = .ok (.lconst 0, 1) := by decide +kernel
theorem dX6_lays_36 : decode cX6_lays 36 = .ok (.lastore, 1) := by decide +kernel
theorem dX6_lays_37 : decode cX6_lays 37 = .ok (.iinc 4 1, 3) := by decide +kernel
theorem dX6_lays_40 : decode cX6_lays 40 = .ok (.goto (-23), 3) := by decide +kernel
theorem dX6_lays_43 : decode cX6_lays 43 = .ok (.iconst 1, 1) := by decide +kernel
theorem dX6_lays_44 : decode cX6_lays 44 = .ok (.ireturn, 1) := by decide +kernel
set_option maxRecDepth 20000 in
theorem ggX6_row_X6_isRow : GoodIn wsX6_row wsX6_isRow := goodIn_r _ [6, 2, 7, 8, 5, 9] (by decide +kernel) (by decide +kernel)
set_option maxRecDepth 20000 in
theorem gX6_row_X6_isRow : GoodIn wsX6_row (va_wsS RX6 234 yX6_isRow wsX6_isRow) := goodIn_app (goodIn_of _ (by decide +kernel)) ggX6_row_X6_isRow
set_option maxRecDepth 20000 in
theorem ggX6_row_X6_isIn : GoodIn wsX6_row wsX6_isIn := goodIn_r _ [9] (by decide +kernel) (by decide +kernel)
set_option maxRecDepth 20000 in
theorem gX6_row_X6_isIn : GoodIn wsX6_row (va_wsS RX6 86 yX6_isIn wsX6_isIn) := goodIn_app (goodIn_of _ (by decide +kernel)) ggX6_row_X6_isIn
set_option maxRecDepth 20000 in
theorem ggX6_row_X6_lays : GoodIn wsX6_row wsX6_lays := goodIn_r _ [13, 14, 15, 16, 17, 18, 19, 20, 21, 22, 23, 24, 25, 26, 27, 28, 29, 30, 31, 32, 33, 34, 35, 36, 37, 38, 39, 40, 41] (by decide +kernel) (by decide +kernel)
set_option maxRecDepth 20000 in
theorem gX6_row_X6_lays : GoodIn wsX6_row (wsV RX6 239 RX6 yX6_lays wsX6_lays) := goodIn_app (goodIn_of _ (by decide +kernel)) ggX6_row_X6_lays
theorem dX6_row_0 : decode cX6_row 0 = .ok (.iload_n 1, 1) := by decide +kernel
theorem dX6_row_1 : decode cX6_row 1 = .ok (.invokestatic 234, 3) := by decide +kernel
theorem dX6_row_4 : decode cX6_row 4 = .ok (.ifCond .eq 28, 3) := by decide +kernel
theorem dX6_row_7 : decode cX6_row 7 = .ok (.iload_n 2, 1) := by decide +kernel
theorem dX6_row_8 : decode cX6_row 8 = .ok (.i2l, 1) := by decide +kernel
theorem dX6_row_9 : decode cX6_row 9 = .ok (.ldc2_w 237, 3) := by decide +kernel
theorem dX6_row_12 : decode cX6_row 12 = .ok (.ldc2_w 215, 3) := by decide +kernel
theorem dX6_row_15 : decode cX6_row 15 = .ok (.invokestatic 86, 3) := by decide +kernel
theorem dX6_row_18 : decode cX6_row 18 = .ok (.ifCond .eq 14, 3) := by decide +kernel
theorem dX6_row_21 : decode cX6_row 21 = .ok (.iload_n 2, 1) := by decide +kernel
theorem dX6_row_22 : decode cX6_row 22 = .ok (.iconst (-1), 1) := by decide +kernel
theorem dX6_row_23 : decode cX6_row 23 = .ok (.if_icmp .eq 12, 3) := by decide +kernel
theorem dX6_row_26 : decode cX6_row 26 = .ok (.iload_n 3, 1) := by decide +kernel
theorem dX6_row_27 : decode cX6_row 27 = .ok (.bipush 80, 2) := by decide +kernel
theorem dX6_row_29 : decode cX6_row 29 = .ok (.if_icmp .le 6, 3) := by decide +kernel
theorem dX6_row_32 : decode cX6_row 32 = .ok (.bipush (-2), 2) := by decide +kernel
theorem dX6_row_34 : decode cX6_row 34 = .ok (.ireturn, 1) := by decide +kernel
theorem dX6_row_35 : decode cX6_row 35 = .ok (.iload_n 2, 1) := by decide +kernel
theorem dX6_row_36 : decode cX6_row 36 = .ok (.iconst (-1), 1) := by decide +kernel
theorem dX6_row_37 : decode cX6_row 37 = .ok (.if_icmp .ne 13, 3) := by decide +kernel
theorem dX6_row_40 : decode cX6_row 40 = .ok (.aload_n 0, 1) := by decide +kernel
theorem dX6_row_41 : decode cX6_row 41 = .ok (.iload_n 1, 1) := by decide +kernel
theorem dX6_row_42 : decode cX6_row 42 = .ok (.iconst (-1), 1) := by decide +kernel
theorem dX6_row_43 : decode cX6_row 43 = .ok (.iconst 0, 1) := by decide +kernel
theorem dX6_row_44 : decode cX6_row 44 = .ok (.invokevirtual 239, 3) := by decide +kernel
theorem dX6_row_47 : decode cX6_row 47 = .ok (.goto 19, 3) := by decide +kernel
theorem dX6_row_50 : decode cX6_row 50 = .ok (.iload_n 3, 1) := by decide +kernel
theorem dX6_row_51 : decode cX6_row 51 = .ok (.ifCond .ge 8, 3) := by decide +kernel
theorem dX6_row_54 : decode cX6_row 54 = .ok (.bipush (-14), 2) := by decide +kernel
theorem dX6_row_56 : decode cX6_row 56 = .ok (.goto 10, 3) := by decide +kernel
theorem dX6_row_59 : decode cX6_row 59 = .ok (.aload_n 0, 1) := by decide +kernel
theorem dX6_row_60 : decode cX6_row 60 = .ok (.iload_n 1, 1) := by decide +kernel
theorem dX6_row_61 : decode cX6_row 61 = .ok (.iload_n 2, 1) := by decide +kernel
theorem dX6_row_62 : decode cX6_row 62 = .ok (.iload_n 3, 1) := by decide +kernel
theorem dX6_row_63 : decode cX6_row 63 = .ok (.invokevirtual 239, 3) := by decide +kernel
theorem dX6_row_66 : decode cX6_row 66 = .ok (.ireturn, 1) := by decide +kernel
theorem dX6_lowest_0 : decode cX6_lowest 0 = .ok (.iload_n 0, 1) := by decide +kernel
theorem dX6_lowest_1 : decode cX6_lowest 1 = .ok (.ifCond .ne 10, 3) := by decide +kernel
theorem dX6_lowest_4 : decode cX6_lowest 4 = .ok (.lload_n 1, 1) := by decide +kernel
theorem dX6_lowest_5 : decode cX6_lowest 5 = .ok (.l2i, 1) := by decide +kernel
theorem dX6_lowest_6 : decode cX6_lowest 6 = .ok (.i2b, 1) := by decide +kernel
theorem dX6_lowest_7 : decode cX6_lowest 7 = .ok (.i2l, 1) := by decide +kernel
theorem dX6_lowest_8 : decode cX6_lowest 8 = .ok (.goto 27, 3) := by decide +kernel
theorem dX6_lowest_11 : decode cX6_lowest 11 = .ok (.iload_n 0, 1) := by decide +kernel
theorem dX6_lowest_12 : decode cX6_lowest 12 = .ok (.iconst 1, 1) := by decide +kernel
theorem dX6_lowest_13 : decode cX6_lowest 13 = .ok (.if_icmp .ne 10, 3) := by decide +kernel
theorem dX6_lowest_16 : decode cX6_lowest 16 = .ok (.lload_n 1, 1) := by decide +kernel
theorem dX6_lowest_17 : decode cX6_lowest 17 = .ok (.l2i, 1) := by decide +kernel
theorem dX6_lowest_18 : decode cX6_lowest 18 = .ok (.i2s, 1) := by decide +kernel
theorem dX6_lowest_19 : decode cX6_lowest 19 = .ok (.i2l, 1) := by decide +kernel
theorem dX6_lowest_20 : decode cX6_lowest 20 = .ok (.goto 15, 3) := by decide +kernel
theorem dX6_lowest_23 : decode cX6_lowest 23 = .ok (.iload_n 0, 1) := by decide +kernel
theorem dX6_lowest_24 : decode cX6_lowest 24 = .ok (.iconst 2, 1) := by decide +kernel
theorem dX6_lowest_25 : decode cX6_lowest 25 = .ok (.if_icmp .ne 9, 3) := by decide +kernel
theorem dX6_lowest_28 : decode cX6_lowest 28 = .ok (.lload_n 1, 1) := by decide +kernel
theorem dX6_lowest_29 : decode cX6_lowest 29 = .ok (.l2i, 1) := by decide +kernel
theorem dX6_lowest_30 : decode cX6_lowest 30 = .ok (.i2l, 1) := by decide +kernel
theorem dX6_lowest_31 : decode cX6_lowest 31 = .ok (.goto 4, 3) := by decide +kernel
theorem dX6_lowest_34 : decode cX6_lowest 34 = .ok (.lload_n 1, 1) := by decide +kernel
theorem dX6_lowest_35 : decode cX6_lowest 35 = .ok (.lreturn, 1) := by decide +kernel
set_option maxRecDepth 20000 in
theorem ggX6_put_X6_isRow : GoodIn wsX6_put wsX6_isRow := goodIn_r _ [7, 8, 9, 10, 6, 11] (by decide +kernel) (by decide +kernel)
set_option maxRecDepth 20000 in
theorem gX6_put_X6_isRow : GoodIn wsX6_put (va_wsS RX6 234 yX6_isRow wsX6_isRow) := goodIn_app (goodIn_of _ (by decide +kernel)) ggX6_put_X6_isRow
set_option maxRecDepth 20000 in
theorem ggX6_put_X6_isIn : GoodIn wsX6_put wsX6_isIn := goodIn_r _ [11] (by decide +kernel) (by decide +kernel)
set_option maxRecDepth 20000 in
theorem gX6_put_X6_isIn : GoodIn wsX6_put (va_wsS RX6 86 yX6_isIn wsX6_isIn) := goodIn_app (goodIn_of _ (by decide +kernel)) ggX6_put_X6_isIn
set_option maxRecDepth 20000 in
theorem ggX6_put_X6_lowest : GoodIn wsX6_put wsX6_lowest := goodIn_r _ [14] (by decide +kernel) (by decide +kernel)
set_option maxRecDepth 20000 in
theorem gX6_put_X6_lowest : GoodIn wsX6_put (va_wsS RX6 242 yX6_lowest wsX6_lowest) := goodIn_app (goodIn_of _ (by decide +kernel)) ggX6_put_X6_lowest
theorem dX6_put_0 : decode cX6_put 0 = .ok (.iload_n 1, 1) := by decide +kernel
theorem dX6_put_1 : decode cX6_put 1 = .ok (.invokestatic 234, 3) := by decide +kernel
theorem dX6_put_4 : decode cX6_put 4 = .ok (.ifCond .ne 6, 3) := by decide +kernel
theorem dX6_put_7 : decode cX6_put 7 = .ok (.bipush (-2), 2) := by decide +kernel
theorem dX6_put_9 : decode cX6_put 9 = .ok (.ireturn, 1) := by decide +kernel
theorem dX6_put_10 : decode cX6_put 10 = .ok (.aload_n 0, 1) := by decide +kernel
theorem dX6_put_11 : decode cX6_put 11 = .ok (.getfield 44, 3) := by decide +kernel
theorem dX6_put_14 : decode cX6_put 14 = .ok (.iload_n 1, 1) := by decide +kernel
theorem dX6_put_15 : decode cX6_put 15 = .ok (.iaload, 1) := by decide +kernel
theorem dX6_put_16 : decode cX6_put 16 = .ok (.iconst (-1), 1) := by decide +kernel
theorem dX6_put_17 : decode cX6_put 17 = .ok (.if_icmp .ne 6, 3) := by decide +kernel
theorem dX6_put_20 : decode cX6_put 20 = .ok (.bipush (-11), 2) := by decide +kernel
theorem dX6_put_22 : decode cX6_put 22 = .ok (.ireturn, 1) := by decide +kernel
theorem dX6_put_23 : decode cX6_put 23 = .ok (.iload_n 2, 1) := by decide +kernel
theorem dX6_put_24 : decode cX6_put 24 = .ok (.i2l, 1) := by decide +kernel
theorem dX6_put_25 : decode cX6_put 25 = .ok (.lconst 0, 1) := by decide +kernel
theorem dX6_put_26 : decode cX6_put 26 = .ok (.aload_n 0, 1) := by decide +kernel
theorem dX6_put_27 : decode cX6_put 27 = .ok (.getfield 47, 3) := by decide +kernel
theorem dX6_put_30 : decode cX6_put 30 = .ok (.iload_n 1, 1) := by decide +kernel
theorem dX6_put_31 : decode cX6_put 31 = .ok (.iaload, 1) := by decide +kernel
theorem dX6_put_32 : decode cX6_put 32 = .ok (.iconst 1, 1) := by decide +kernel
theorem dX6_put_33 : decode cX6_put 33 = .ok (.isub, 1) := by decide +kernel
theorem dX6_put_34 : decode cX6_put 34 = .ok (.i2l, 1) := by decide +kernel
theorem dX6_put_35 : decode cX6_put 35 = .ok (.invokestatic 86, 3) := by decide +kernel
theorem dX6_put_38 : decode cX6_put 38 = .ok (.ifCond .ne 6, 3) := by decide +kernel
theorem dX6_put_41 : decode cX6_put 41 = .ok (.bipush (-12), 2) := by decide +kernel
theorem dX6_put_43 : decode cX6_put 43 = .ok (.ireturn, 1) := by decide +kernel
theorem dX6_put_44 : decode cX6_put 44 = .ok (.aload_n 0, 1) := by decide +kernel
theorem dX6_put_45 : decode cX6_put 45 = .ok (.getfield 50, 3) := by decide +kernel
theorem dX6_put_48 : decode cX6_put 48 = .ok (.bipush 80, 2) := by decide +kernel
theorem dX6_put_50 : decode cX6_put 50 = .ok (.iload_n 1, 1) := by decide +kernel
theorem dX6_put_51 : decode cX6_put 51 = .ok (.imul, 1) := by decide +kernel
theorem dX6_put_52 : decode cX6_put 52 = .ok (.iload_n 2, 1) := by decide +kernel
theorem dX6_put_53 : decode cX6_put 53 = .ok (.iadd, 1) := by decide +kernel
theorem dX6_put_54 : decode cX6_put 54 = .ok (.aload_n 0, 1) := by decide +kernel
theorem dX6_put_55 : decode cX6_put 55 = .ok (.getfield 44, 3) := by decide +kernel
theorem dX6_put_58 : decode cX6_put 58 = .ok (.iload_n 1, 1) := by decide +kernel
theorem dX6_put_59 : decode cX6_put 59 = .ok (.iaload, 1) := by decide +kernel
theorem dX6_put_60 : decode cX6_put 60 = .ok (.lload_n 3, 1) := by decide +kernel
theorem dX6_put_61 : decode cX6_put 61 = .ok (.invokestatic 242, 3) := by decide +kernel
theorem dX6_put_64 : decode cX6_put 64 = .ok (.lastore, 1) := by decide +kernel
theorem dX6_put_65 : decode cX6_put 65 = .ok (.iconst 1, 1) := by decide +kernel
theorem dX6_put_66 : decode cX6_put 66 = .ok (.ireturn, 1) := by decide +kernel
set_option maxRecDepth 20000 in
theorem ggX6_get_X6_isRow : GoodIn wsX6_get wsX6_isRow := goodIn_r _ [7, 8, 9, 10, 6, 11] (by decide +kernel) (by decide +kernel)
set_option maxRecDepth 20000 in
theorem gX6_get_X6_isRow : GoodIn wsX6_get (va_wsS RX6 234 yX6_isRow wsX6_isRow) := goodIn_app (goodIn_of _ (by decide +kernel)) ggX6_get_X6_isRow
set_option maxRecDepth 20000 in
theorem ggX6_get_X6_isIn : GoodIn wsX6_get wsX6_isIn := goodIn_r _ [11] (by decide +kernel) (by decide +kernel)
set_option maxRecDepth 20000 in
theorem gX6_get_X6_isIn : GoodIn wsX6_get (va_wsS RX6 86 yX6_isIn wsX6_isIn) := goodIn_app (goodIn_of _ (by decide +kernel)) ggX6_get_X6_isIn
theorem dX6_get_0 : decode cX6_get 0 = .ok (.iload_n 1, 1) := by decide +kernel
theorem dX6_get_1 : decode cX6_get 1 = .ok (.invokestatic 234, 3) := by decide +kernel
theorem dX6_get_4 : decode cX6_get 4 = .ok (.ifCond .eq 35, 3) := by decide +kernel
theorem dX6_get_7 : decode cX6_get 7 = .ok (.iload_n 2, 1) := by decide +kernel
theorem dX6_get_8 : decode cX6_get 8 = .ok (.i2l, 1) := by decide +kernel
theorem dX6_get_9 : decode cX6_get 9 = .ok (.lconst 0, 1) := by decide +kernel
theorem dX6_get_10 : decode cX6_get 10 = .ok (.aload_n 0, 1) := by decide +kernel
theorem dX6_get_11 : decode cX6_get 11 = .ok (.getfield 47, 3) := by decide +kernel
theorem dX6_get_14 : decode cX6_get 14 = .ok (.iload_n 1, 1) := by decide +kernel
theorem dX6_get_15 : decode cX6_get 15 = .ok (.iaload, 1) := by decide +kernel
theorem dX6_get_16 : decode cX6_get 16 = .ok (.iconst 1, 1) := by decide +kernel
theorem dX6_get_17 : decode cX6_get 17 = .ok (.isub, 1) := by decide +kernel
theorem dX6_get_18 : decode cX6_get 18 = .ok (.i2l, 1) := by decide +kernel
theorem dX6_get_19 : decode cX6_get 19 = .ok (.invokestatic 86, 3) := by decide +kernel
theorem dX6_get_22 : decode cX6_get 22 = .ok (.ifCond .eq 17, 3) := by decide +kernel
theorem dX6_get_25 : decode cX6_get 25 = .ok (.aload_n 0, 1) := by decide +kernel
theorem dX6_get_26 : decode cX6_get 26 = .ok (.getfield 50, 3) := by decide +kernel
theorem dX6_get_29 : decode cX6_get 29 = .ok (.bipush 80, 2) := by decide +kernel
theorem dX6_get_31 : decode cX6_get 31 = .ok (.iload_n 1, 1) := by decide +kernel
theorem dX6_get_32 : decode cX6_get 32 = .ok (.imul, 1) := by decide +kernel
theorem dX6_get_33 : decode cX6_get 33 = .ok (.iload_n 2, 1) := by decide +kernel
theorem dX6_get_34 : decode cX6_get 34 = .ok (.iadd, 1) := by decide +kernel
theorem dX6_get_35 : decode cX6_get 35 = .ok (.laload, 1) := by decide +kernel
theorem dX6_get_36 : decode cX6_get 36 = .ok (.goto 6, 3) := by decide +kernel
theorem dX6_get_39 : decode cX6_get 39 = .ok (.ldc2_w 246, 3) := by decide +kernel
theorem dX6_get_42 : decode cX6_get 42 = .ok (.lreturn, 1) := by decide +kernel
set_option maxRecDepth 20000 in
theorem ggX6_copy_X6_isRow : GoodIn wsX6_copy wsX6_isRow := goodIn_r _ [8, 9, 10, 11, 7, 12] (by decide +kernel) (by decide +kernel)
set_option maxRecDepth 20000 in
theorem gX6_copy_X6_isRow : GoodIn wsX6_copy (va_wsS RX6 234 yX6_isRow wsX6_isRow) := goodIn_app (goodIn_of _ (by decide +kernel)) ggX6_copy_X6_isRow
theorem dX6_copy_0 : decode cX6_copy 0 = .ok (.iload_n 1, 1) := by decide +kernel
theorem dX6_copy_1 : decode cX6_copy 1 = .ok (.invokestatic 234, 3) := by decide +kernel
theorem dX6_copy_4 : decode cX6_copy 4 = .ok (.ifCond .eq 10, 3) := by decide +kernel
theorem dX6_copy_7 : decode cX6_copy 7 = .ok (.iload_n 3, 1) := by decide +kernel
theorem dX6_copy_8 : decode cX6_copy 8 = .ok (.invokestatic 234, 3) := by decide +kernel
theorem dX6_copy_11 : decode cX6_copy 11 = .ok (.ifCond .ne 6, 3) := by decide +kernel
theorem dX6_copy_14 : decode cX6_copy 14 = .ok (.bipush (-2), 2) := by decide +kernel
theorem dX6_copy_16 : decode cX6_copy 16 = .ok (.ireturn, 1) := by decide +kernel
theorem dX6_copy_17 : decode cX6_copy 17 = .ok (.aload_n 0, 1) := by decide +kernel
theorem dX6_copy_18 : decode cX6_copy 18 = .ok (.getfield 44, 3) := by decide +kernel
theorem dX6_copy_21 : decode cX6_copy 21 = .ok (.iload_n 1, 1) := by decide +kernel
theorem dX6_copy_22 : decode cX6_copy 22 = .ok (.iaload, 1) := by decide +kernel
theorem dX6_copy_23 : decode cX6_copy 23 = .ok (.iconst (-1), 1) := by decide +kernel
theorem dX6_copy_24 : decode cX6_copy 24 = .ok (.if_icmp .eq 13, 3) := by decide +kernel
theorem dX6_copy_27 : decode cX6_copy 27 = .ok (.aload_n 0, 1) := by decide +kernel
theorem dX6_copy_28 : decode cX6_copy 28 = .ok (.getfield 44, 3) := by decide +kernel
theorem dX6_copy_31 : decode cX6_copy 31 = .ok (.iload_n 3, 1) := by decide +kernel
theorem dX6_copy_32 : decode cX6_copy 32 = .ok (.iaload, 1) := by decide +kernel
theorem dX6_copy_33 : decode cX6_copy 33 = .ok (.iconst (-1), 1) := by decide +kernel
theorem dX6_copy_34 : decode cX6_copy 34 = .ok (.if_icmp .ne 6, 3) := by decide +kernel
theorem dX6_copy_37 : decode cX6_copy 37 = .ok (.bipush (-11), 2) := by decide +kernel
theorem dX6_copy_39 : decode cX6_copy 39 = .ok (.ireturn, 1) := by decide +kernel
theorem dX6_copy_40 : decode cX6_copy 40 = .ok (.aload_n 0, 1) := by decide +kernel
theorem dX6_copy_41 : decode cX6_copy 41 = .ok (.getfield 44, 3) := by decide +kernel
theorem dX6_copy_44 : decode cX6_copy 44 = .ok (.iload_n 1, 1) := by decide +kernel
theorem dX6_copy_45 : decode cX6_copy 45 = .ok (.iaload, 1) := by decide +kernel
theorem dX6_copy_46 : decode cX6_copy 46 = .ok (.aload_n 0, 1) := by decide +kernel
theorem dX6_copy_47 : decode cX6_copy 47 = .ok (.getfield 44, 3) := by decide +kernel
theorem dX6_copy_50 : decode cX6_copy 50 = .ok (.iload_n 3, 1) := by decide +kernel
theorem dX6_copy_51 : decode cX6_copy 51 = .ok (.iaload, 1) := by decide +kernel
theorem dX6_copy_52 : decode cX6_copy 52 = .ok (.if_icmp .eq 6, 3) := by decide +kernel
theorem dX6_copy_55 : decode cX6_copy 55 = .ok (.bipush (-13), 2) := by decide +kernel
theorem dX6_copy_57 : decode cX6_copy 57 = .ok (.ireturn, 1) := by decide +kernel
theorem dX6_copy_58 : decode cX6_copy 58 = .ok (.iload 5, 2) := by decide +kernel
theorem dX6_copy_60 : decode cX6_copy 60 = .ok (.ifCond .lt 47, 3) := by decide +kernel
theorem dX6_copy_63 : decode cX6_copy 63 = .ok (.iload_n 2, 1) := by decide +kernel
theorem dX6_copy_64 : decode cX6_copy 64 = .ok (.ifCond .lt 43, 3) := by decide +kernel
theorem dX6_copy_67 : decode cX6_copy 67 = .ok (.iload 4, 2) := by decide +kernel
theorem dX6_copy_69 : decode cX6_copy 69 = .ok (.ifCond .lt 38, 3) := by decide +kernel
theorem dX6_copy_72 : decode cX6_copy 72 = .ok (.iload_n 2, 1) := by decide +kernel
theorem dX6_copy_73 : decode cX6_copy 73 = .ok (.i2l, 1) := by decide +kernel
theorem dX6_copy_74 : decode cX6_copy 74 = .ok (.iload 5, 2) := by decide +kernel
theorem dX6_copy_76 : decode cX6_copy 76 = .ok (.i2l, 1) := by decide +kernel
theorem dX6_copy_77 : decode cX6_copy 77 = .ok (.ladd, 1) := by decide +kernel
theorem dX6_copy_78 : decode cX6_copy 78 = .ok (.aload_n 0, 1) := by decide +kernel
theorem dX6_copy_79 : decode cX6_copy 79 = .ok (.getfield 47, 3) := by decide +kernel
theorem dX6_copy_82 : decode cX6_copy 82 = .ok (.iload_n 1, 1) := by decide +kernel
theorem dX6_copy_83 : decode cX6_copy 83 = .ok (.iaload, 1) := by decide +kernel
theorem dX6_copy_84 : decode cX6_copy 84 = .ok (.i2l, 1) := by decide +kernel
theorem dX6_copy_85 : decode cX6_copy 85 = .ok (.lcmp, 1) := by decide +kernel
theorem dX6_copy_86 : decode cX6_copy 86 = .ok (.ifCond .gt 21, 3) := by decide +kernel
theorem dX6_copy_89 : decode cX6_copy 89 = .ok (.iload 4, 2) := by decide +kernel
theorem dX6_copy_91 : decode cX6_copy 91 = .ok (.i2l, 1) := by decide +kernel
theorem dX6_copy_92 : decode cX6_copy 92 = .ok (.iload 5, 2) := by decide +kernel
theorem dX6_copy_94 : decode cX6_copy 94 = .ok (.i2l, 1) := by decide +kernel
theorem dX6_copy_95 : decode cX6_copy 95 = .ok (.ladd, 1) := by decide +kernel
theorem dX6_copy_96 : decode cX6_copy 96 = .ok (.aload_n 0, 1) := by decide +kernel
theorem dX6_copy_97 : decode cX6_copy 97 = .ok (.getfield 47, 3) := by decide +kernel
theorem dX6_copy_100 : decode cX6_copy 100 = .ok (.iload_n 3, 1) := by decide +kernel
theorem dX6_copy_101 : decode cX6_copy 101 = .ok (.iaload, 1) := by decide +kernel
theorem dX6_copy_102 : decode cX6_copy 102 = .ok (.i2l, 1) := by decide +kernel
theorem dX6_copy_103 : decode cX6_copy 103 = .ok (.lcmp, 1) := by decide +kernel
theorem dX6_copy_104 : decode cX6_copy 104 = .ok (.ifCond .le 6, 3) := by decide +kernel
theorem dX6_copy_107 : decode cX6_copy 107 = .ok (.bipush (-12), 2) := by decide +kernel
theorem dX6_copy_109 : decode cX6_copy 109 = .ok (.ireturn, 1) := by decide +kernel
theorem dX6_copy_110 : decode cX6_copy 110 = .ok (.iconst 0, 1) := by decide +kernel
theorem dX6_copy_111 : decode cX6_copy 111 = .ok (.istore 6, 2) := by decide +kernel
theorem dX6_copy_113 : decode cX6_copy 113 = .ok (.iload 6, 2) := by decide +kernel
theorem dX6_copy_115 : decode cX6_copy 115 = .ok (.iload 5, 2) := by decide +kernel
theorem dX6_copy_117 : decode cX6_copy 117 = .ok (.if_icmp .ge 30, 3) := by decide +kernel
theorem dX6_copy_120 : decode cX6_copy 120 = .ok (.aload_n 0, 1) := by decide +kernel
theorem dX6_copy_121 : decode cX6_copy 121 = .ok (.getfield 81, 3) := by decide +kernel
theorem dX6_copy_124 : decode cX6_copy 124 = .ok (.iload 6, 2) := by decide +kernel
theorem dX6_copy_126 : decode cX6_copy 126 = .ok (.aload_n 0, 1) := by decide +kernel
theorem dX6_copy_127 : decode cX6_copy 127 = .ok (.getfield 50, 3) := by decide +kernel
theorem dX6_copy_130 : decode cX6_copy 130 = .ok (.bipush 80, 2) := by decide +kernel
theorem dX6_copy_132 : decode cX6_copy 132 = .ok (.iload_n 1, 1) := by decide +kernel
theorem dX6_copy_133 : decode cX6_copy 133 = .ok (.imul, 1) := by decide +kernel
theorem dX6_copy_134 : decode cX6_copy 134 = .ok (.iload_n 2, 1) := by decide +kernel
theorem dX6_copy_135 : decode cX6_copy 135 = .ok (.iadd, 1) := by decide +kernel
theorem dX6_copy_136 : decode cX6_copy 136 = .ok (.iload 6, 2) := by decide +kernel
theorem dX6_copy_138 : decode cX6_copy 138 = .ok (.iadd, 1) := by decide +kernel
theorem dX6_copy_139 : decode cX6_copy 139 = .ok (.laload, 1) := by decide +kernel
theorem dX6_copy_140 : decode cX6_copy 140 = .ok (.lastore, 1) := by decide +kernel
theorem dX6_copy_141 : decode cX6_copy 141 = .ok (.iinc 6 1, 3) := by decide +kernel
theorem dX6_copy_144 : decode cX6_copy 144 = .ok (.goto (-31), 3) := by decide +kernel
theorem dX6_copy_147 : decode cX6_copy 147 = .ok (.iconst 0, 1) := by decide +kernel
theorem dX6_copy_148 : decode cX6_copy 148 = .ok (.istore 6, 2) := by decide +kernel
theorem dX6_copy_150 : decode cX6_copy 150 = .ok (.iload 6, 2) := by decide +kernel
theorem dX6_copy_152 : decode cX6_copy 152 = .ok (.iload 5, 2) := by decide +kernel
theorem dX6_copy_154 : decode cX6_copy 154 = .ok (.if_icmp .ge 31, 3) := by decide +kernel
theorem dX6_copy_157 : decode cX6_copy 157 = .ok (.aload_n 0, 1) := by decide +kernel
theorem dX6_copy_158 : decode cX6_copy 158 = .ok (.getfield 50, 3) := by decide +kernel
theorem dX6_copy_161 : decode cX6_copy 161 = .ok (.bipush 80, 2) := by decide +kernel
theorem dX6_copy_163 : decode cX6_copy 163 = .ok (.iload_n 3, 1) := by decide +kernel
theorem dX6_copy_164 : decode cX6_copy 164 = .ok (.imul, 1) := by decide +kernel
theorem dX6_copy_165 : decode cX6_copy 165 = .ok (.iload 4, 2) := by decide +kernel
theorem dX6_copy_167 : decode cX6_copy 167 = .ok (.iadd, 1) := by decide +kernel
theorem dX6_copy_168 : decode cX6_copy 168 = .ok (.iload 6, 2) := by decide +kernel
theorem dX6_copy_170 : decode cX6_copy 170 = .ok (.iadd, 1) := by decide +kernel
theorem dX6_copy_171 : decode cX6_copy 171 = .ok (.aload_n 0, 1) := by decide +kernel
theorem dX6_copy_172 : decode cX6_copy 172 = .ok (.getfield 81, 3) := by decide +kernel
theorem dX6_copy_175 : decode cX6_copy 175 = .ok (.iload 6, 2) := by decide +kernel
theorem dX6_copy_177 : decode cX6_copy 177 = .ok (.laload, 1) := by decide +kernel
theorem dX6_copy_178 : decode cX6_copy 178 = .ok (.lastore, 1) := by decide +kernel
theorem dX6_copy_179 : decode cX6_copy 179 = .ok (.iinc 6 1, 3) := by decide +kernel
theorem dX6_copy_182 : decode cX6_copy 182 = .ok (.goto (-32), 3) := by decide +kernel
theorem dX6_copy_185 : decode cX6_copy 185 = .ok (.iload 5, 2) := by decide +kernel
theorem dX6_copy_187 : decode cX6_copy 187 = .ok (.ireturn, 1) := by decide +kernel
set_option maxRecDepth 20000 in
theorem ggX6_lay_X6_isFamily : GoodIn wsX6_lay wsX6_isFamily := goodIn_r _ [8, 9, 10, 11, 7, 12] (by decide +kernel) (by decide +kernel)
set_option maxRecDepth 20000 in
theorem gX6_lay_X6_isFamily : GoodIn wsX6_lay (va_wsS RX6 96 yX6_isFamily wsX6_isFamily) := goodIn_app (goodIn_of _ (by decide +kernel)) ggX6_lay_X6_isFamily
set_option maxRecDepth 20000 in
theorem ggX6_lay_X6_isRow : GoodIn wsX6_lay wsX6_isRow := goodIn_r _ [15, 16, 10, 11, 7, 12] (by decide +kernel) (by decide +kernel)
set_option maxRecDepth 20000 in
theorem gX6_lay_X6_isRow : GoodIn wsX6_lay (va_wsS RX6 234 yX6_isRow wsX6_isRow) := goodIn_app (goodIn_of _ (by decide +kernel)) ggX6_lay_X6_isRow
set_option maxRecDepth 20000 in
theorem ggX6_lay_X6_isIn : GoodIn wsX6_lay wsX6_isIn := goodIn_r _ [12] (by decide +kernel) (by decide +kernel)
set_option maxRecDepth 20000 in
theorem gX6_lay_X6_isIn : GoodIn wsX6_lay (va_wsS RX6 86 yX6_isIn wsX6_isIn) := goodIn_app (goodIn_of _ (by decide +kernel)) ggX6_lay_X6_isIn
set_option maxRecDepth 20000 in
theorem ggX6_lay_X6_becomes : GoodIn wsX6_lay wsX6_becomes := goodIn_r _ [20, 21, 22, 23, 24, 25, 7, 26, 27, 28, 29, 30, 31, 32, 33, 34, 35, 36, 37, 38, 39, 40, 41, 42, 43, 44, 45, 46, 47, 48, 49, 50, 51] (by decide +kernel) (by decide +kernel)
set_option maxRecDepth 20000 in
theorem gX6_lay_X6_becomes : GoodIn wsX6_lay (wsV RX6 111 RX6 yX6_becomes wsX6_becomes) := goodIn_app (goodIn_of _ (by decide +kernel)) ggX6_lay_X6_becomes
theorem dX6_lay_0 : decode cX6_lay 0 = .ok (.iload_n 1, 1) := by decide +kernel
theorem dX6_lay_1 : decode cX6_lay 1 = .ok (.invokestatic 96, 3) := by decide +kernel
theorem dX6_lay_4 : decode cX6_lay 4 = .ok (.ifCond .eq 10, 3) := by decide +kernel
theorem dX6_lay_7 : decode cX6_lay 7 = .ok (.iload_n 2, 1) := by decide +kernel
theorem dX6_lay_8 : decode cX6_lay 8 = .ok (.invokestatic 234, 3) := by decide +kernel
theorem dX6_lay_11 : decode cX6_lay 11 = .ok (.ifCond .ne 6, 3) := by decide +kernel
theorem dX6_lay_14 : decode cX6_lay 14 = .ok (.bipush (-2), 2) := by decide +kernel
theorem dX6_lay_16 : decode cX6_lay 16 = .ok (.ireturn, 1) := by decide +kernel
theorem dX6_lay_17 : decode cX6_lay 17 = .ok (.aload_n 0, 1) := by decide +kernel
theorem dX6_lay_18 : decode cX6_lay 18 = .ok (.getfield 44, 3) := by decide +kernel
theorem dX6_lay_21 : decode cX6_lay 21 = .ok (.iload_n 2, 1) := by decide +kernel
theorem dX6_lay_22 : decode cX6_lay 22 = .ok (.iaload, 1) := by decide +kernel
theorem dX6_lay_23 : decode cX6_lay 23 = .ok (.iconst (-1), 1) := by decide +kernel
theorem dX6_lay_24 : decode cX6_lay 24 = .ok (.if_icmp .ne 6, 3) := by decide +kernel
theorem dX6_lay_27 : decode cX6_lay 27 = .ok (.bipush (-11), 2) := by decide +kernel
theorem dX6_lay_29 : decode cX6_lay 29 = .ok (.ireturn, 1) := by decide +kernel
theorem dX6_lay_30 : decode cX6_lay 30 = .ok (.lconst 0, 1) := by decide +kernel
theorem dX6_lay_31 : decode cX6_lay 31 = .ok (.lstore_n 3, 1) := by decide +kernel
theorem dX6_lay_32 : decode cX6_lay 32 = .ok (.iconst 0, 1) := by decide +kernel
theorem dX6_lay_33 : decode cX6_lay 33 = .ok (.istore 5, 2) := by decide +kernel
theorem dX6_lay_35 : decode cX6_lay 35 = .ok (.iload 5, 2) := by decide +kernel
theorem dX6_lay_37 : decode cX6_lay 37 = .ok (.aload_n 0, 1) := by decide +kernel
theorem dX6_lay_38 : decode cX6_lay 38 = .ok (.getfield 47, 3) := by decide +kernel
theorem dX6_lay_41 : decode cX6_lay 41 = .ok (.iload_n 2, 1) := by decide +kernel
theorem dX6_lay_42 : decode cX6_lay 42 = .ok (.iaload, 1) := by decide +kernel
theorem dX6_lay_43 : decode cX6_lay 43 = .ok (.if_icmp .ge 49, 3) := by decide +kernel
theorem dX6_lay_46 : decode cX6_lay 46 = .ok (.aload_n 0, 1) := by decide +kernel
theorem dX6_lay_47 : decode cX6_lay 47 = .ok (.getfield 50, 3) := by decide +kernel
theorem dX6_lay_50 : decode cX6_lay 50 = .ok (.bipush 80, 2) := by decide +kernel
theorem dX6_lay_52 : decode cX6_lay 52 = .ok (.iload_n 2, 1) := by decide +kernel
theorem dX6_lay_53 : decode cX6_lay 53 = .ok (.imul, 1) := by decide +kernel
theorem dX6_lay_54 : decode cX6_lay 54 = .ok (.iload 5, 2) := by decide +kernel
theorem dX6_lay_56 : decode cX6_lay 56 = .ok (.iadd, 1) := by decide +kernel
theorem dX6_lay_57 : decode cX6_lay 57 = .ok (.laload, 1) := by decide +kernel
theorem dX6_lay_58 : decode cX6_lay 58 = .ok (.lstore 6, 2) := by decide +kernel
theorem dX6_lay_60 : decode cX6_lay 60 = .ok (.lload 6, 2) := by decide +kernel
theorem dX6_lay_62 : decode cX6_lay 62 = .ok (.lconst 0, 1) := by decide +kernel
theorem dX6_lay_63 : decode cX6_lay 63 = .ok (.iconst 1, 1) := by decide +kernel
theorem dX6_lay_64 : decode cX6_lay 64 = .ok (.aload_n 0, 1) := by decide +kernel
theorem dX6_lay_65 : decode cX6_lay 65 = .ok (.getfield 9, 3) := by decide +kernel
theorem dX6_lay_68 : decode cX6_lay 68 = .ok (.ishl, 1) := by decide +kernel
theorem dX6_lay_69 : decode cX6_lay 69 = .ok (.iconst 1, 1) := by decide +kernel
theorem dX6_lay_70 : decode cX6_lay 70 = .ok (.isub, 1) := by decide +kernel
theorem dX6_lay_71 : decode cX6_lay 71 = .ok (.i2l, 1) := by decide +kernel
theorem dX6_lay_72 : decode cX6_lay 72 = .ok (.invokestatic 86, 3) := by decide +kernel
theorem dX6_lay_75 : decode cX6_lay 75 = .ok (.ifCond .eq 11, 3) := by decide +kernel
theorem dX6_lay_78 : decode cX6_lay 78 = .ok (.lload_n 3, 1) := by decide +kernel
theorem dX6_lay_79 : decode cX6_lay 79 = .ok (.lconst 1, 1) := by decide +kernel
theorem dX6_lay_80 : decode cX6_lay 80 = .ok (.lload 6, 2) := by decide +kernel
theorem dX6_lay_82 : decode cX6_lay 82 = .ok (.l2i, 1) := by decide +kernel
theorem dX6_lay_83 : decode cX6_lay 83 = .ok (.lshl, 1) := by decide +kernel
theorem dX6_lay_84 : decode cX6_lay 84 = .ok (.lor, 1) := by decide +kernel
theorem dX6_lay_85 : decode cX6_lay 85 = .ok (.lstore_n 3, 1) := by decide +kernel
theorem dX6_lay_86 : decode cX6_lay 86 = .ok (.iinc 5 1, 3) := by decide +kernel
theorem dX6_lay_89 : decode cX6_lay 89 = .ok (.goto (-54), 3) := by decide +kernel
theorem dX6_lay_92 : decode cX6_lay 92 = .ok (.aload_n 0, 1) := by decide +kernel
theorem dX6_lay_93 : decode cX6_lay 93 = .ok (.iload_n 1, 1) := by decide +kernel
theorem dX6_lay_94 : decode cX6_lay 94 = .ok (.iconst 0, 1) := by decide +kernel
theorem dX6_lay_95 : decode cX6_lay 95 = .ok (.lload_n 3, 1) := by decide +kernel
theorem dX6_lay_96 : decode cX6_lay 96 = .ok (.invokevirtual 111, 3) := by decide +kernel
theorem dX6_lay_99 : decode cX6_lay 99 = .ok (.ireturn, 1) := by decide +kernel
set_option maxRecDepth 20000 in
theorem ggX6_film_X6_isFamily : GoodIn wsX6_film wsX6_isFamily := goodIn_r _ [9, 10, 11, 12, 8, 13] (by decide +kernel) (by decide +kernel)
set_option maxRecDepth 20000 in
theorem gX6_film_X6_isFamily : GoodIn wsX6_film (va_wsS RX6 96 yX6_isFamily wsX6_isFamily) := goodIn_app (goodIn_of _ (by decide +kernel)) ggX6_film_X6_isFamily
set_option maxRecDepth 20000 in
theorem ggX6_film_X6_isRow : GoodIn wsX6_film wsX6_isRow := goodIn_r _ [16, 1, 11, 12, 8, 13] (by decide +kernel) (by decide +kernel)
set_option maxRecDepth 20000 in
theorem gX6_film_X6_isRow : GoodIn wsX6_film (va_wsS RX6 234 yX6_isRow wsX6_isRow) := goodIn_app (goodIn_of _ (by decide +kernel)) ggX6_film_X6_isRow
set_option maxRecDepth 20000 in
theorem ggX6_film_X6_isIn : GoodIn wsX6_film wsX6_isIn := goodIn_r _ [13] (by decide +kernel) (by decide +kernel)
set_option maxRecDepth 20000 in
theorem gX6_film_X6_isIn : GoodIn wsX6_film (va_wsS RX6 86 yX6_isIn wsX6_isIn) := goodIn_app (goodIn_of _ (by decide +kernel)) ggX6_film_X6_isIn
set_option maxRecDepth 20000 in
theorem ggX6_film_X6_size : GoodIn wsX6_film wsX6_size := goodIn_r _ [20] (by decide +kernel) (by decide +kernel)
set_option maxRecDepth 20000 in
theorem gX6_film_X6_size : GoodIn wsX6_film (wsV RX6 90 RX6 yX6_size wsX6_size) := goodIn_app (goodIn_of _ (by decide +kernel)) ggX6_film_X6_size
set_option maxRecDepth 20000 in
theorem ggX6_film_X6_lays : GoodIn wsX6_film wsX6_lays := goodIn_r _ [24, 25, 26, 5, 31, 32, 33, 34, 35, 36, 37, 38, 39, 40, 41, 42, 43, 44, 45, 46, 47, 48, 49, 50, 51, 52, 53, 54, 55] (by decide +kernel) (by decide +kernel)
set_option maxRecDepth 20000 in
theorem gX6_film_X6_lays : GoodIn wsX6_film (wsV RX6 239 RX6 yX6_lays wsX6_lays) := goodIn_app (goodIn_of _ (by decide +kernel)) ggX6_film_X6_lays
set_option maxRecDepth 20000 in
theorem ggX6_film_X6_isMember : GoodIn wsX6_film wsX6_isMember := goodIn_r _ [30, 3, 31, 32, 33, 34, 35, 36, 37, 38, 39, 40, 41, 42, 43, 44, 45, 46, 47, 48, 49, 50, 51, 52, 53, 54, 55] (by decide +kernel) (by decide +kernel)
set_option maxRecDepth 20000 in
theorem gX6_film_X6_isMember : GoodIn wsX6_film (wsV RX6 103 RX6 yX6_isMember wsX6_isMember) := goodIn_app (goodIn_of _ (by decide +kernel)) ggX6_film_X6_isMember
theorem dX6_film_0 : decode cX6_film 0 = .ok (.iload_n 1, 1) := by decide +kernel
theorem dX6_film_1 : decode cX6_film 1 = .ok (.invokestatic 96, 3) := by decide +kernel
theorem dX6_film_4 : decode cX6_film 4 = .ok (.ifCond .eq 22, 3) := by decide +kernel
theorem dX6_film_7 : decode cX6_film 7 = .ok (.iload_n 2, 1) := by decide +kernel
theorem dX6_film_8 : decode cX6_film 8 = .ok (.invokestatic 234, 3) := by decide +kernel
theorem dX6_film_11 : decode cX6_film 11 = .ok (.ifCond .eq 15, 3) := by decide +kernel
theorem dX6_film_14 : decode cX6_film 14 = .ok (.iload_n 3, 1) := by decide +kernel
theorem dX6_film_15 : decode cX6_film 15 = .ok (.i2l, 1) := by decide +kernel
theorem dX6_film_16 : decode cX6_film 16 = .ok (.lconst 0, 1) := by decide +kernel
theorem dX6_film_17 : decode cX6_film 17 = .ok (.ldc2_w 215, 3) := by decide +kernel
theorem dX6_film_20 : decode cX6_film 20 = .ok (.invokestatic 86, 3) := by decide +kernel
theorem dX6_film_23 : decode cX6_film 23 = .ok (.ifCond .ne 6, 3) := by decide +kernel
theorem dX6_film_26 : decode cX6_film 26 = .ok (.bipush (-2), 2) := by decide +kernel
theorem dX6_film_28 : decode cX6_film 28 = .ok (.ireturn, 1) := by decide +kernel
theorem dX6_film_29 : decode cX6_film 29 = .ok (.aload_n 0, 1) := by decide +kernel
theorem dX6_film_30 : decode cX6_film 30 = .ok (.getfield 19, 3) := by decide +kernel
theorem dX6_film_33 : decode cX6_film 33 = .ok (.iload_n 1, 1) := by decide +kernel
theorem dX6_film_34 : decode cX6_film 34 = .ok (.iaload, 1) := by decide +kernel
theorem dX6_film_35 : decode cX6_film 35 = .ok (.iconst (-1), 1) := by decide +kernel
theorem dX6_film_36 : decode cX6_film 36 = .ok (.if_icmp .ne 6, 3) := by decide +kernel
theorem dX6_film_39 : decode cX6_film 39 = .ok (.bipush (-11), 2) := by decide +kernel
theorem dX6_film_41 : decode cX6_film 41 = .ok (.ireturn, 1) := by decide +kernel
theorem dX6_film_42 : decode cX6_film 42 = .ok (.aload_n 0, 1) := by decide +kernel
theorem dX6_film_43 : decode cX6_film 43 = .ok (.iload_n 2, 1) := by decide +kernel
theorem dX6_film_44 : decode cX6_film 44 = .ok (.iload_n 3, 1) := by decide +kernel
theorem dX6_film_45 : decode cX6_film 45 = .ok (.aload_n 0, 1) := by decide +kernel
theorem dX6_film_46 : decode cX6_film 46 = .ok (.aload_n 0, 1) := by decide +kernel
theorem dX6_film_47 : decode cX6_film 47 = .ok (.getfield 15, 3) := by decide +kernel
theorem dX6_film_50 : decode cX6_film 50 = .ok (.iload_n 1, 1) := by decide +kernel
theorem dX6_film_51 : decode cX6_film 51 = .ok (.laload, 1) := by decide +kernel
theorem dX6_film_52 : decode cX6_film 52 = .ok (.invokevirtual 90, 3) := by decide +kernel
theorem dX6_film_55 : decode cX6_film 55 = .ok (.invokevirtual 239, 3) := by decide +kernel
theorem dX6_film_58 : decode cX6_film 58 = .ok (.pop, 1) := by decide +kernel
theorem dX6_film_59 : decode cX6_film 59 = .ok (.iconst 0, 1) := by decide +kernel
theorem dX6_film_60 : decode cX6_film 60 = .ok (.istore 4, 2) := by decide +kernel
theorem dX6_film_62 : decode cX6_film 62 = .ok (.iconst 0, 1) := by decide +kernel
theorem dX6_film_63 : decode cX6_film 63 = .ok (.istore 5, 2) := by decide +kernel
theorem dX6_film_65 : decode cX6_film 65 = .ok (.iload 5, 2) := by decide +kernel
theorem dX6_film_67 : decode cX6_film 67 = .ok (.iconst 1, 1) := by decide +kernel
theorem dX6_film_68 : decode cX6_film 68 = .ok (.aload_n 0, 1) := by decide +kernel
theorem dX6_film_69 : decode cX6_film 69 = .ok (.getfield 9, 3) := by decide +kernel
theorem dX6_film_72 : decode cX6_film 72 = .ok (.ishl, 1) := by decide +kernel
theorem dX6_film_73 : decode cX6_film 73 = .ok (.if_icmp .ge 40, 3) := by decide +kernel
theorem dX6_film_76 : decode cX6_film 76 = .ok (.aload_n 0, 1) := by decide +kernel
theorem dX6_film_77 : decode cX6_film 77 = .ok (.iload_n 1, 1) := by decide +kernel
theorem dX6_film_78 : decode cX6_film 78 = .ok (.iload 5, 2) := by decide +kernel
theorem dX6_film_80 : decode cX6_film 80 = .ok (.invokevirtual 103, 3) := by decide +kernel
theorem dX6_film_83 : decode cX6_film 83 = .ok (.ifCond .ne 6, 3) := by decide +kernel
theorem dX6_film_86 : decode cX6_film 86 = .ok (.goto 21, 3) := by decide +kernel
theorem dX6_film_89 : decode cX6_film 89 = .ok (.aload_n 0, 1) := by decide +kernel
theorem dX6_film_90 : decode cX6_film 90 = .ok (.getfield 50, 3) := by decide +kernel
theorem dX6_film_93 : decode cX6_film 93 = .ok (.bipush 80, 2) := by decide +kernel
theorem dX6_film_95 : decode cX6_film 95 = .ok (.iload_n 2, 1) := by decide +kernel
theorem dX6_film_96 : decode cX6_film 96 = .ok (.imul, 1) := by decide +kernel
theorem dX6_film_97 : decode cX6_film 97 = .ok (.iload 4, 2) := by decide +kernel
theorem dX6_film_99 : decode cX6_film 99 = .ok (.iadd, 1) := by decide +kernel
theorem dX6_film_100 : decode cX6_film 100 = .ok (.iload 5, 2) := by decide +kernel
theorem dX6_film_102 : decode cX6_film 102 = .ok (.i2l, 1) := by decide +kernel
theorem dX6_film_103 : decode cX6_film 103 = .ok (.lastore, 1) := by decide +kernel
theorem dX6_film_104 : decode cX6_film 104 = .ok (.iinc 4 1, 3) := by decide +kernel
theorem dX6_film_107 : decode cX6_film 107 = .ok (.iinc 5 1, 3) := by decide +kernel
theorem dX6_film_110 : decode cX6_film 110 = .ok (.goto (-45), 3) := by decide +kernel
theorem dX6_film_113 : decode cX6_film 113 = .ok (.iload 4, 2) := by decide +kernel
theorem dX6_film_115 : decode cX6_film 115 = .ok (.ireturn, 1) := by decide +kernel
theorem dX6_there_0 : decode cX6_there 0 = .ok (.iconst 0, 1) := by decide +kernel
theorem dX6_there_1 : decode cX6_there 1 = .ok (.istore_n 1, 1) := by decide +kernel
theorem dX6_there_2 : decode cX6_there 2 = .ok (.iconst 0, 1) := by decide +kernel
theorem dX6_there_3 : decode cX6_there 3 = .ok (.istore_n 2, 1) := by decide +kernel
theorem dX6_there_4 : decode cX6_there 4 = .ok (.iload_n 2, 1) := by decide +kernel
theorem dX6_there_5 : decode cX6_there 5 = .ok (.bipush 6, 2) := by decide +kernel
theorem dX6_there_7 : decode cX6_there 7 = .ok (.if_icmp .ge 29, 3) := by decide +kernel
theorem dX6_there_10 : decode cX6_there 10 = .ok (.iload_n 1, 1) := by decide +kernel
theorem dX6_there_11 : decode cX6_there 11 = .ok (.aload_n 0, 1) := by decide +kernel
theorem dX6_there_12 : decode cX6_there 12 = .ok (.getfield 19, 3) := by decide +kernel
theorem dX6_there_15 : decode cX6_there 15 = .ok (.iload_n 2, 1) := by decide +kernel
theorem dX6_there_16 : decode cX6_there 16 = .ok (.iaload, 1) := by decide +kernel
theorem dX6_there_17 : decode cX6_there 17 = .ok (.iconst (-1), 1) := by decide +kernel
theorem dX6_there_18 : decode cX6_there 18 = .ok (.if_icmp .ne 7, 3) := by decide +kernel
theorem dX6_there_21 : decode cX6_there 21 = .ok (.iconst 0, 1) := by decide +kernel
theorem dX6_there_22 : decode cX6_there 22 = .ok (.goto 6, 3) := by decide +kernel
theorem dX6_there_25 : decode cX6_there 25 = .ok (.iconst 1, 1) := by decide +kernel
theorem dX6_there_26 : decode cX6_there 26 = .ok (.iload_n 2, 1) := by decide +kernel
theorem dX6_there_27 : decode cX6_there 27 = .ok (.ishl, 1) := by decide +kernel
theorem dX6_there_28 : decode cX6_there 28 = .ok (.ior, 1) := by decide +kernel
theorem dX6_there_29 : decode cX6_there 29 = .ok (.istore_n 1, 1) := by decide +kernel
theorem dX6_there_30 : decode cX6_there 30 = .ok (.iinc 2 1, 3) := by decide +kernel
theorem dX6_there_33 : decode cX6_there 33 = .ok (.goto (-29), 3) := by decide +kernel
theorem dX6_there_36 : decode cX6_there 36 = .ok (.iload_n 1, 1) := by decide +kernel
theorem dX6_there_37 : decode cX6_there 37 = .ok (.ireturn, 1) := by decide +kernel
theorem dX6_copies_0 : decode cX6_copies 0 = .ok (.iconst 0, 1) := by decide +kernel
theorem dX6_copies_1 : decode cX6_copies 1 = .ok (.istore_n 2, 1) := by decide +kernel
theorem dX6_copies_2 : decode cX6_copies 2 = .ok (.iload_n 2, 1) := by decide +kernel
theorem dX6_copies_3 : decode cX6_copies 3 = .ok (.aload_n 1, 1) := by decide +kernel
theorem dX6_copies_4 : decode cX6_copies 4 = .ok (.arraylength, 1) := by decide +kernel
theorem dX6_copies_5 : decode cX6_copies 5 = .ok (.if_icmp .ge 15, 3) := by decide +kernel
theorem dX6_copies_8 : decode cX6_copies 8 = .ok (.aload_n 1, 1) := by decide +kernel
theorem dX6_copies_9 : decode cX6_copies 9 = .ok (.iload_n 2, 1) := by decide +kernel
theorem dX6_copies_10 : decode cX6_copies 10 = .ok (.aload_n 0, 1) := by decide +kernel
theorem dX6_copies_11 : decode cX6_copies 11 = .ok (.iload_n 2, 1) := by decide +kernel
theorem dX6_copies_12 : decode cX6_copies 12 = .ok (.iaload, 1) := by decide +kernel
theorem dX6_copies_13 : decode cX6_copies 13 = .ok (.iastore, 1) := by decide +kernel
theorem dX6_copies_14 : decode cX6_copies 14 = .ok (.iinc 2 1, 3) := by decide +kernel
theorem dX6_copies_17 : decode cX6_copies 17 = .ok (.goto (-15), 3) := by decide +kernel
theorem dX6_copies_20 : decode cX6_copies 20 = .ok (.return_, 1) := by decide +kernel
set_option maxRecDepth 20000 in
theorem ggX6_image_X6_copies : GoodIn wsX6_image wsX6_copies := goodIn_r _ [14] (by decide +kernel) (by decide +kernel)
set_option maxRecDepth 20000 in
theorem gX6_image_X6_copies : GoodIn wsX6_image (va_wsS RX6 248 yX6_copies wsX6_copies) := goodIn_app (goodIn_of _ (by decide +kernel)) ggX6_image_X6_copies
set_option maxRecDepth 20000 in
theorem ggX6_image_X6_there : GoodIn wsX6_image wsX6_there := goodIn_r _ [18, 5, 22, 23, 24, 25, 26, 27, 28, 29, 30, 31, 32, 33, 34, 35, 36, 37, 38, 39, 40, 41, 42, 43, 44, 45, 46] (by decide +kernel) (by decide +kernel)
set_option maxRecDepth 20000 in
theorem gX6_image_X6_there : GoodIn wsX6_image (wsV RX6 252 RX6 yX6_there wsX6_there) := goodIn_app (goodIn_of _ (by decide +kernel)) ggX6_image_X6_there
set_option maxRecDepth 20000 in
theorem ggX6_image_X6_ones : GoodIn wsX6_image wsX6_ones := goodIn_r _ [21] (by decide +kernel) (by decide +kernel)
set_option maxRecDepth 20000 in
theorem gX6_image_X6_ones : GoodIn wsX6_image (va_wsS RX6 107 yX6_ones wsX6_ones) := goodIn_app (goodIn_of _ (by decide +kernel)) ggX6_image_X6_ones
theorem dX6_image_0 : decode cX6_image 0 = .ok (.aload_n 0, 1) := by decide +kernel
theorem dX6_image_1 : decode cX6_image 1 = .ok (.aload_n 0, 1) := by decide +kernel
theorem dX6_image_2 : decode cX6_image 2 = .ok (.getfield 9, 3) := by decide +kernel
theorem dX6_image_5 : decode cX6_image 5 = .ok (.putfield 29, 3) := by decide +kernel
theorem dX6_image_8 : decode cX6_image 8 = .ok (.iconst 0, 1) := by decide +kernel
theorem dX6_image_9 : decode cX6_image 9 = .ok (.istore_n 1, 1) := by decide +kernel
theorem dX6_image_10 : decode cX6_image 10 = .ok (.iload_n 1, 1) := by decide +kernel
theorem dX6_image_11 : decode cX6_image 11 = .ok (.bipush 6, 2) := by decide +kernel
theorem dX6_image_13 : decode cX6_image 13 = .ok (.if_icmp .ge 21, 3) := by decide +kernel
theorem dX6_image_16 : decode cX6_image 16 = .ok (.aload_n 0, 1) := by decide +kernel
theorem dX6_image_17 : decode cX6_image 17 = .ok (.getfield 32, 3) := by decide +kernel
theorem dX6_image_20 : decode cX6_image 20 = .ok (.iload_n 1, 1) := by decide +kernel
theorem dX6_image_21 : decode cX6_image 21 = .ok (.aload_n 0, 1) := by decide +kernel
theorem dX6_image_22 : decode cX6_image 22 = .ok (.getfield 15, 3) := by decide +kernel
theorem dX6_image_25 : decode cX6_image 25 = .ok (.iload_n 1, 1) := by decide +kernel
theorem dX6_image_26 : decode cX6_image 26 = .ok (.laload, 1) := by decide +kernel
theorem dX6_image_27 : decode cX6_image 27 = .ok (.lastore, 1) := by decide +kernel
theorem dX6_image_28 : decode cX6_image 28 = .ok (.iinc 1 1, 3) := by decide +kernel
theorem dX6_image_31 : decode cX6_image 31 = .ok (.goto (-21), 3) := by decide +kernel
theorem dX6_image_34 : decode cX6_image 34 = .ok (.aload_n 0, 1) := by decide +kernel
theorem dX6_image_35 : decode cX6_image 35 = .ok (.getfield 19, 3) := by decide +kernel
theorem dX6_image_38 : decode cX6_image 38 = .ok (.aload_n 0, 1) := by decide +kernel
theorem dX6_image_39 : decode cX6_image 39 = .ok (.getfield 35, 3) := by decide +kernel
theorem dX6_image_42 : decode cX6_image 42 = .ok (.invokestatic 248, 3) := by decide +kernel
theorem dX6_image_45 : decode cX6_image 45 = .ok (.aload_n 0, 1) := by decide +kernel
theorem dX6_image_46 : decode cX6_image 46 = .ok (.getfield 23, 3) := by decide +kernel
theorem dX6_image_49 : decode cX6_image 49 = .ok (.aload_n 0, 1) := by decide +kernel
theorem dX6_image_50 : decode cX6_image 50 = .ok (.getfield 38, 3) := by decide +kernel
theorem dX6_image_53 : decode cX6_image 53 = .ok (.invokestatic 248, 3) := by decide +kernel
theorem dX6_image_56 : decode cX6_image 56 = .ok (.aload_n 0, 1) := by decide +kernel
theorem dX6_image_57 : decode cX6_image 57 = .ok (.getfield 26, 3) := by decide +kernel
theorem dX6_image_60 : decode cX6_image 60 = .ok (.aload_n 0, 1) := by decide +kernel
theorem dX6_image_61 : decode cX6_image 61 = .ok (.getfield 41, 3) := by decide +kernel
theorem dX6_image_64 : decode cX6_image 64 = .ok (.invokestatic 248, 3) := by decide +kernel
theorem dX6_image_67 : decode cX6_image 67 = .ok (.aload_n 0, 1) := by decide +kernel
theorem dX6_image_68 : decode cX6_image 68 = .ok (.invokevirtual 252, 3) := by decide +kernel
theorem dX6_image_71 : decode cX6_image 71 = .ok (.invokestatic 107, 3) := by decide +kernel
theorem dX6_image_74 : decode cX6_image 74 = .ok (.ireturn, 1) := by decide +kernel
set_option maxRecDepth 20000 in
theorem ggX6_back_X6_copies : GoodIn wsX6_back wsX6_copies := goodIn_r _ [14] (by decide +kernel) (by decide +kernel)
set_option maxRecDepth 20000 in
theorem gX6_back_X6_copies : GoodIn wsX6_back (va_wsS RX6 248 yX6_copies wsX6_copies) := goodIn_app (goodIn_of _ (by decide +kernel)) ggX6_back_X6_copies
set_option maxRecDepth 20000 in
theorem ggX6_back_X6_there : GoodIn wsX6_back wsX6_there := goodIn_r _ [18, 6, 22, 23, 24, 25, 26, 27, 28, 29, 30, 31, 32, 33, 34, 35, 36, 37, 38, 39, 40, 41, 42, 43, 44, 45, 46] (by decide +kernel) (by decide +kernel)
set_option maxRecDepth 20000 in
theorem gX6_back_X6_there : GoodIn wsX6_back (wsV RX6 252 RX6 yX6_there wsX6_there) := goodIn_app (goodIn_of _ (by decide +kernel)) ggX6_back_X6_there
set_option maxRecDepth 20000 in
theorem ggX6_back_X6_ones : GoodIn wsX6_back wsX6_ones := goodIn_r _ [21] (by decide +kernel) (by decide +kernel)
set_option maxRecDepth 20000 in
theorem gX6_back_X6_ones : GoodIn wsX6_back (va_wsS RX6 107 yX6_ones wsX6_ones) := goodIn_app (goodIn_of _ (by decide +kernel)) ggX6_back_X6_ones
theorem dX6_back_0 : decode cX6_back 0 = .ok (.aload_n 0, 1) := by decide +kernel
theorem dX6_back_1 : decode cX6_back 1 = .ok (.getfield 29, 3) := by decide +kernel
theorem dX6_back_4 : decode cX6_back 4 = .ok (.iconst (-1), 1) := by decide +kernel
theorem dX6_back_5 : decode cX6_back 5 = .ok (.if_icmp .ne 6, 3) := by decide +kernel
theorem dX6_back_8 : decode cX6_back 8 = .ok (.bipush (-3), 2) := by decide +kernel
theorem dX6_back_10 : decode cX6_back 10 = .ok (.ireturn, 1) := by decide +kernel
theorem dX6_back_11 : decode cX6_back 11 = .ok (.aload_n 0, 1) := by decide +kernel
theorem dX6_back_12 : decode cX6_back 12 = .ok (.aload_n 0, 1) := by decide +kernel
theorem dX6_back_13 : decode cX6_back 13 = .ok (.getfield 29, 3) := by decide +kernel
theorem dX6_back_16 : decode cX6_back 16 = .ok (.putfield 9, 3) := by decide +kernel
theorem dX6_back_19 : decode cX6_back 19 = .ok (.iconst 0, 1) := by decide +kernel
theorem dX6_back_20 : decode cX6_back 20 = .ok (.istore_n 1, 1) := by decide +kernel
theorem dX6_back_21 : decode cX6_back 21 = .ok (.iload_n 1, 1) := by decide +kernel
theorem dX6_back_22 : decode cX6_back 22 = .ok (.bipush 6, 2) := by decide +kernel
theorem dX6_back_24 : decode cX6_back 24 = .ok (.if_icmp .ge 21, 3) := by decide +kernel
theorem dX6_back_27 : decode cX6_back 27 = .ok (.aload_n 0, 1) := by decide +kernel
theorem dX6_back_28 : decode cX6_back 28 = .ok (.getfield 15, 3) := by decide +kernel
theorem dX6_back_31 : decode cX6_back 31 = .ok (.iload_n 1, 1) := by decide +kernel
theorem dX6_back_32 : decode cX6_back 32 = .ok (.aload_n 0, 1) := by decide +kernel
theorem dX6_back_33 : decode cX6_back 33 = .ok (.getfield 32, 3) := by decide +kernel
theorem dX6_back_36 : decode cX6_back 36 = .ok (.iload_n 1, 1) := by decide +kernel
theorem dX6_back_37 : decode cX6_back 37 = .ok (.laload, 1) := by decide +kernel
theorem dX6_back_38 : decode cX6_back 38 = .ok (.lastore, 1) := by decide +kernel
theorem dX6_back_39 : decode cX6_back 39 = .ok (.iinc 1 1, 3) := by decide +kernel
theorem dX6_back_42 : decode cX6_back 42 = .ok (.goto (-21), 3) := by decide +kernel
theorem dX6_back_45 : decode cX6_back 45 = .ok (.aload_n 0, 1) := by decide +kernel
theorem dX6_back_46 : decode cX6_back 46 = .ok (.getfield 35, 3) := by decide +kernel
theorem dX6_back_49 : decode cX6_back 49 = .ok (.aload_n 0, 1) := by decide +kernel
theorem dX6_back_50 : decode cX6_back 50 = .ok (.getfield 19, 3) := by decide +kernel
theorem dX6_back_53 : decode cX6_back 53 = .ok (.invokestatic 248, 3) := by decide +kernel
theorem dX6_back_56 : decode cX6_back 56 = .ok (.aload_n 0, 1) := by decide +kernel
theorem dX6_back_57 : decode cX6_back 57 = .ok (.getfield 38, 3) := by decide +kernel
theorem dX6_back_60 : decode cX6_back 60 = .ok (.aload_n 0, 1) := by decide +kernel
theorem dX6_back_61 : decode cX6_back 61 = .ok (.getfield 23, 3) := by decide +kernel
theorem dX6_back_64 : decode cX6_back 64 = .ok (.invokestatic 248, 3) := by decide +kernel
theorem dX6_back_67 : decode cX6_back 67 = .ok (.aload_n 0, 1) := by decide +kernel
theorem dX6_back_68 : decode cX6_back 68 = .ok (.getfield 41, 3) := by decide +kernel
theorem dX6_back_71 : decode cX6_back 71 = .ok (.aload_n 0, 1) := by decide +kernel
theorem dX6_back_72 : decode cX6_back 72 = .ok (.getfield 26, 3) := by decide +kernel
theorem dX6_back_75 : decode cX6_back 75 = .ok (.invokestatic 248, 3) := by decide +kernel
theorem dX6_back_78 : decode cX6_back 78 = .ok (.aload_n 0, 1) := by decide +kernel
theorem dX6_back_79 : decode cX6_back 79 = .ok (.invokevirtual 252, 3) := by decide +kernel
theorem dX6_back_82 : decode cX6_back 82 = .ok (.invokestatic 107, 3) := by decide +kernel
theorem dX6_back_85 : decode cX6_back 85 = .ok (.ireturn, 1) := by decide +kernel
set_option maxRecDepth 20000 in
theorem ggX6_count_X6_there : GoodIn wsX6_count wsX6_there := goodIn_r _ [7, 8, 14, 15, 16, 17, 18, 19, 20, 21, 22, 23, 24, 25, 26, 27, 28, 29, 30, 31, 32, 33, 34, 35, 36, 37, 38] (by decide +kernel) (by decide +kernel)
set_option maxRecDepth 20000 in
theorem gX6_count_X6_there : GoodIn wsX6_count (wsV RX6 252 RX6 yX6_there wsX6_there) := goodIn_app (goodIn_of _ (by decide +kernel)) ggX6_count_X6_there
set_option maxRecDepth 20000 in
theorem ggX6_count_X6_entries : GoodIn wsX6_count wsX6_entries := goodIn_r _ [12, 13, 14, 15, 16, 17, 18, 19, 20, 21, 22, 23, 24, 25, 26, 27, 28, 29, 30, 31, 32, 33, 34, 35, 36, 37, 38] (by decide +kernel) (by decide +kernel)
set_option maxRecDepth 20000 in
theorem gX6_count_X6_entries : GoodIn wsX6_count (wsV RX6 195 RX6 yX6_entries wsX6_entries) := goodIn_app (goodIn_of _ (by decide +kernel)) ggX6_count_X6_entries
theorem dX6_count_0 : decode cX6_count 0 = .ok (.iconst 0, 1) := by decide +kernel
theorem dX6_count_1 : decode cX6_count 1 = .ok (.istore_n 2, 1) := by decide +kernel
theorem dX6_count_2 : decode cX6_count 2 = .ok (.iload_n 1, 1) := by decide +kernel
theorem dX6_count_3 : decode cX6_count 3 = .ok (.tableswitch 79 0 3 #[29, 34, 39, 74], 29) := by decide +kernel
theorem dX6_count_32 : decode cX6_count 32 = .ok (.aload_n 0, 1) := by decide +kernel
theorem dX6_count_33 : decode cX6_count 33 = .ok (.getfield 9, 3) := by decide +kernel
theorem dX6_count_36 : decode cX6_count 36 = .ok (.ireturn, 1) := by decide +kernel
theorem dX6_count_37 : decode cX6_count 37 = .ok (.aload_n 0, 1) := by decide +kernel
theorem dX6_count_38 : decode cX6_count 38 = .ok (.invokevirtual 252, 3) := by decide +kernel
theorem dX6_count_41 : decode cX6_count 41 = .ok (.ireturn, 1) := by decide +kernel
theorem dX6_count_42 : decode cX6_count 42 = .ok (.iconst 0, 1) := by decide +kernel
theorem dX6_count_43 : decode cX6_count 43 = .ok (.istore_n 3, 1) := by decide +kernel
theorem dX6_count_44 : decode cX6_count 44 = .ok (.iload_n 3, 1) := by decide +kernel
theorem dX6_count_45 : decode cX6_count 45 = .ok (.iconst 4, 1) := by decide +kernel
theorem dX6_count_46 : decode cX6_count 46 = .ok (.if_icmp .ge 29, 3) := by decide +kernel
theorem dX6_count_49 : decode cX6_count 49 = .ok (.iload_n 2, 1) := by decide +kernel
theorem dX6_count_50 : decode cX6_count 50 = .ok (.aload_n 0, 1) := by decide +kernel
theorem dX6_count_51 : decode cX6_count 51 = .ok (.getfield 44, 3) := by decide +kernel
theorem dX6_count_54 : decode cX6_count 54 = .ok (.iload_n 3, 1) := by decide +kernel
theorem dX6_count_55 : decode cX6_count 55 = .ok (.iaload, 1) := by decide +kernel
theorem dX6_count_56 : decode cX6_count 56 = .ok (.iconst (-1), 1) := by decide +kernel
theorem dX6_count_57 : decode cX6_count 57 = .ok (.if_icmp .ne 7, 3) := by decide +kernel
theorem dX6_count_60 : decode cX6_count 60 = .ok (.iconst 0, 1) := by decide +kernel
theorem dX6_count_61 : decode cX6_count 61 = .ok (.goto 6, 3) := by decide +kernel
theorem dX6_count_64 : decode cX6_count 64 = .ok (.iconst 1, 1) := by decide +kernel
theorem dX6_count_65 : decode cX6_count 65 = .ok (.iload_n 3, 1) := by decide +kernel
theorem dX6_count_66 : decode cX6_count 66 = .ok (.ishl, 1) := by decide +kernel
theorem dX6_count_67 : decode cX6_count 67 = .ok (.ior, 1) := by decide +kernel
theorem dX6_count_68 : decode cX6_count 68 = .ok (.istore_n 2, 1) := by decide +kernel
theorem dX6_count_69 : decode cX6_count 69 = .ok (.iinc 3 1, 3) := by decide +kernel
theorem dX6_count_72 : decode cX6_count 72 = .ok (.goto (-28), 3) := by decide +kernel
theorem dX6_count_75 : decode cX6_count 75 = .ok (.iload_n 2, 1) := by decide +kernel
theorem dX6_count_76 : decode cX6_count 76 = .ok (.ireturn, 1) := by decide +kernel
theorem dX6_count_77 : decode cX6_count 77 = .ok (.aload_n 0, 1) := by decide +kernel
theorem dX6_count_78 : decode cX6_count 78 = .ok (.invokevirtual 195, 3) := by decide +kernel
theorem dX6_count_81 : decode cX6_count 81 = .ok (.ireturn, 1) := by decide +kernel
theorem dX6_count_82 : decode cX6_count 82 = .ok (.bipush (-2), 2) := by decide +kernel
theorem dX6_count_84 : decode cX6_count 84 = .ok (.ireturn, 1) := by decide +kernel
theorem dJ6_bitCount_0f7a4_0 : decode cJ6_bitCount_0f7a4 0 = .ok (.iload_n 0, 1) := by decide +kernel
theorem dJ6_bitCount_0f7a4_1 : decode cJ6_bitCount_0f7a4 1 = .ok (.iload_n 0, 1) := by decide +kernel
theorem dJ6_bitCount_0f7a4_2 : decode cJ6_bitCount_0f7a4 2 = .ok (.iconst 1, 1) := by decide +kernel
theorem dJ6_bitCount_0f7a4_3 : decode cJ6_bitCount_0f7a4 3 = .ok (.iushr, 1) := by decide +kernel
theorem dJ6_bitCount_0f7a4_4 : decode cJ6_bitCount_0f7a4 4 = .ok (.ldc_w 265, 3) := by decide +kernel
theorem dJ6_bitCount_0f7a4_7 : decode cJ6_bitCount_0f7a4 7 = .ok (.iand, 1) := by decide +kernel
theorem dJ6_bitCount_0f7a4_8 : decode cJ6_bitCount_0f7a4 8 = .ok (.isub, 1) := by decide +kernel
theorem dJ6_bitCount_0f7a4_9 : decode cJ6_bitCount_0f7a4 9 = .ok (.istore_n 0, 1) := by decide +kernel
theorem dJ6_bitCount_0f7a4_10 : decode cJ6_bitCount_0f7a4 10 = .ok (.iload_n 0, 1) := by decide +kernel
theorem dJ6_bitCount_0f7a4_11 : decode cJ6_bitCount_0f7a4 11 = .ok (.ldc_w 266, 3) := by decide +kernel
theorem dJ6_bitCount_0f7a4_14 : decode cJ6_bitCount_0f7a4 14 = .ok (.iand, 1) := by decide +kernel
theorem dJ6_bitCount_0f7a4_15 : decode cJ6_bitCount_0f7a4 15 = .ok (.iload_n 0, 1) := by decide +kernel
theorem dJ6_bitCount_0f7a4_16 : decode cJ6_bitCount_0f7a4 16 = .ok (.iconst 2, 1) := by decide +kernel
theorem dJ6_bitCount_0f7a4_17 : decode cJ6_bitCount_0f7a4 17 = .ok (.iushr, 1) := by decide +kernel
theorem dJ6_bitCount_0f7a4_18 : decode cJ6_bitCount_0f7a4 18 = .ok (.ldc_w 266, 3) := by decide +kernel
theorem dJ6_bitCount_0f7a4_21 : decode cJ6_bitCount_0f7a4 21 = .ok (.iand, 1) := by decide +kernel
theorem dJ6_bitCount_0f7a4_22 : decode cJ6_bitCount_0f7a4 22 = .ok (.iadd, 1) := by decide +kernel
theorem dJ6_bitCount_0f7a4_23 : decode cJ6_bitCount_0f7a4 23 = .ok (.istore_n 0, 1) := by decide +kernel
theorem dJ6_bitCount_0f7a4_24 : decode cJ6_bitCount_0f7a4 24 = .ok (.iload_n 0, 1) := by decide +kernel
theorem dJ6_bitCount_0f7a4_25 : decode cJ6_bitCount_0f7a4 25 = .ok (.iload_n 0, 1) := by decide +kernel
theorem dJ6_bitCount_0f7a4_26 : decode cJ6_bitCount_0f7a4 26 = .ok (.iconst 4, 1) := by decide +kernel
theorem dJ6_bitCount_0f7a4_27 : decode cJ6_bitCount_0f7a4 27 = .ok (.iushr, 1) := by decide +kernel
theorem dJ6_bitCount_0f7a4_28 : decode cJ6_bitCount_0f7a4 28 = .ok (.iadd, 1) := by decide +kernel
theorem dJ6_bitCount_0f7a4_29 : decode cJ6_bitCount_0f7a4 29 = .ok (.ldc_w 267, 3) := by decide +kernel
theorem dJ6_bitCount_0f7a4_32 : decode cJ6_bitCount_0f7a4 32 = .ok (.iand, 1) := by decide +kernel
theorem dJ6_bitCount_0f7a4_33 : decode cJ6_bitCount_0f7a4 33 = .ok (.istore_n 0, 1) := by decide +kernel
theorem dJ6_bitCount_0f7a4_34 : decode cJ6_bitCount_0f7a4 34 = .ok (.iload_n 0, 1) := by decide +kernel
theorem dJ6_bitCount_0f7a4_35 : decode cJ6_bitCount_0f7a4 35 = .ok (.iload_n 0, 1) := by decide +kernel
theorem dJ6_bitCount_0f7a4_36 : decode cJ6_bitCount_0f7a4 36 = .ok (.bipush 8, 2) := by decide +kernel
theorem dJ6_bitCount_0f7a4_38 : decode cJ6_bitCount_0f7a4 38 = .ok (.iushr, 1) := by decide +kernel
theorem dJ6_bitCount_0f7a4_39 : decode cJ6_bitCount_0f7a4 39 = .ok (.iadd, 1) := by decide +kernel
theorem dJ6_bitCount_0f7a4_40 : decode cJ6_bitCount_0f7a4 40 = .ok (.istore_n 0, 1) := by decide +kernel
theorem dJ6_bitCount_0f7a4_41 : decode cJ6_bitCount_0f7a4 41 = .ok (.iload_n 0, 1) := by decide +kernel
theorem dJ6_bitCount_0f7a4_42 : decode cJ6_bitCount_0f7a4 42 = .ok (.iload_n 0, 1) := by decide +kernel
theorem dJ6_bitCount_0f7a4_43 : decode cJ6_bitCount_0f7a4 43 = .ok (.bipush 16, 2) := by decide +kernel
theorem dJ6_bitCount_0f7a4_45 : decode cJ6_bitCount_0f7a4 45 = .ok (.iushr, 1) := by decide +kernel
theorem dJ6_bitCount_0f7a4_46 : decode cJ6_bitCount_0f7a4 46 = .ok (.iadd, 1) := by decide +kernel
theorem dJ6_bitCount_0f7a4_47 : decode cJ6_bitCount_0f7a4 47 = .ok (.istore_n 0, 1) := by decide +kernel
theorem dJ6_bitCount_0f7a4_48 : decode cJ6_bitCount_0f7a4 48 = .ok (.iload_n 0, 1) := by decide +kernel
theorem dJ6_bitCount_0f7a4_49 : decode cJ6_bitCount_0f7a4 49 = .ok (.bipush 63, 2) := by decide +kernel
theorem dJ6_bitCount_0f7a4_51 : decode cJ6_bitCount_0f7a4 51 = .ok (.iand, 1) := by decide +kernel
theorem dJ6_bitCount_0f7a4_52 : decode cJ6_bitCount_0f7a4 52 = .ok (.ireturn, 1) := by decide +kernel
theorem dJ13_bitCount_95d88_0 : decode cJ13_bitCount_95d88 0 = .ok (.lload_n 0, 1) := by decide +kernel
theorem dJ13_bitCount_95d88_1 : decode cJ13_bitCount_95d88 1 = .ok (.lload_n 0, 1) := by decide +kernel
theorem dJ13_bitCount_95d88_2 : decode cJ13_bitCount_95d88 2 = .ok (.iconst 1, 1) := by decide +kernel
theorem dJ13_bitCount_95d88_3 : decode cJ13_bitCount_95d88 3 = .ok (.lushr, 1) := by decide +kernel
theorem dJ13_bitCount_95d88_4 : decode cJ13_bitCount_95d88 4 = .ok (.ldc2_w 314, 3) := by decide +kernel
theorem dJ13_bitCount_95d88_7 : decode cJ13_bitCount_95d88 7 = .ok (.land, 1) := by decide +kernel
theorem dJ13_bitCount_95d88_8 : decode cJ13_bitCount_95d88 8 = .ok (.lsub, 1) := by decide +kernel
theorem dJ13_bitCount_95d88_9 : decode cJ13_bitCount_95d88 9 = .ok (.lstore_n 0, 1) := by decide +kernel
theorem dJ13_bitCount_95d88_10 : decode cJ13_bitCount_95d88 10 = .ok (.lload_n 0, 1) := by decide +kernel
theorem dJ13_bitCount_95d88_11 : decode cJ13_bitCount_95d88 11 = .ok (.ldc2_w 316, 3) := by decide +kernel
theorem dJ13_bitCount_95d88_14 : decode cJ13_bitCount_95d88 14 = .ok (.land, 1) := by decide +kernel
theorem dJ13_bitCount_95d88_15 : decode cJ13_bitCount_95d88 15 = .ok (.lload_n 0, 1) := by decide +kernel
theorem dJ13_bitCount_95d88_16 : decode cJ13_bitCount_95d88 16 = .ok (.iconst 2, 1) := by decide +kernel
theorem dJ13_bitCount_95d88_17 : decode cJ13_bitCount_95d88 17 = .ok (.lushr, 1) := by decide +kernel
theorem dJ13_bitCount_95d88_18 : decode cJ13_bitCount_95d88 18 = .ok (.ldc2_w 316, 3) := by decide +kernel
theorem dJ13_bitCount_95d88_21 : decode cJ13_bitCount_95d88 21 = .ok (.land, 1) := by decide +kernel
theorem dJ13_bitCount_95d88_22 : decode cJ13_bitCount_95d88 22 = .ok (.ladd, 1) := by decide +kernel
theorem dJ13_bitCount_95d88_23 : decode cJ13_bitCount_95d88 23 = .ok (.lstore_n 0, 1) := by decide +kernel
theorem dJ13_bitCount_95d88_24 : decode cJ13_bitCount_95d88 24 = .ok (.lload_n 0, 1) := by decide +kernel
theorem dJ13_bitCount_95d88_25 : decode cJ13_bitCount_95d88 25 = .ok (.lload_n 0, 1) := by decide +kernel
theorem dJ13_bitCount_95d88_26 : decode cJ13_bitCount_95d88 26 = .ok (.iconst 4, 1) := by decide +kernel
theorem dJ13_bitCount_95d88_27 : decode cJ13_bitCount_95d88 27 = .ok (.lushr, 1) := by decide +kernel
theorem dJ13_bitCount_95d88_28 : decode cJ13_bitCount_95d88 28 = .ok (.ladd, 1) := by decide +kernel
theorem dJ13_bitCount_95d88_29 : decode cJ13_bitCount_95d88 29 = .ok (.ldc2_w 318, 3) := by decide +kernel
theorem dJ13_bitCount_95d88_32 : decode cJ13_bitCount_95d88 32 = .ok (.land, 1) := by decide +kernel
theorem dJ13_bitCount_95d88_33 : decode cJ13_bitCount_95d88 33 = .ok (.lstore_n 0, 1) := by decide +kernel
theorem dJ13_bitCount_95d88_34 : decode cJ13_bitCount_95d88 34 = .ok (.lload_n 0, 1) := by decide +kernel
theorem dJ13_bitCount_95d88_35 : decode cJ13_bitCount_95d88 35 = .ok (.lload_n 0, 1) := by decide +kernel
theorem dJ13_bitCount_95d88_36 : decode cJ13_bitCount_95d88 36 = .ok (.bipush 8, 2) := by decide +kernel
theorem dJ13_bitCount_95d88_38 : decode cJ13_bitCount_95d88 38 = .ok (.lushr, 1) := by decide +kernel
theorem dJ13_bitCount_95d88_39 : decode cJ13_bitCount_95d88 39 = .ok (.ladd, 1) := by decide +kernel
theorem dJ13_bitCount_95d88_40 : decode cJ13_bitCount_95d88 40 = .ok (.lstore_n 0, 1) := by decide +kernel
theorem dJ13_bitCount_95d88_41 : decode cJ13_bitCount_95d88 41 = .ok (.lload_n 0, 1) := by decide +kernel
theorem dJ13_bitCount_95d88_42 : decode cJ13_bitCount_95d88 42 = .ok (.lload_n 0, 1) := by decide +kernel
theorem dJ13_bitCount_95d88_43 : decode cJ13_bitCount_95d88 43 = .ok (.bipush 16, 2) := by decide +kernel
theorem dJ13_bitCount_95d88_45 : decode cJ13_bitCount_95d88 45 = .ok (.lushr, 1) := by decide +kernel
theorem dJ13_bitCount_95d88_46 : decode cJ13_bitCount_95d88 46 = .ok (.ladd, 1) := by decide +kernel
theorem dJ13_bitCount_95d88_47 : decode cJ13_bitCount_95d88 47 = .ok (.lstore_n 0, 1) := by decide +kernel
theorem dJ13_bitCount_95d88_48 : decode cJ13_bitCount_95d88 48 = .ok (.lload_n 0, 1) := by decide +kernel
theorem dJ13_bitCount_95d88_49 : decode cJ13_bitCount_95d88 49 = .ok (.lload_n 0, 1) := by decide +kernel
theorem dJ13_bitCount_95d88_50 : decode cJ13_bitCount_95d88 50 = .ok (.bipush 32, 2) := by decide +kernel
theorem dJ13_bitCount_95d88_52 : decode cJ13_bitCount_95d88 52 = .ok (.lushr, 1) := by decide +kernel
theorem dJ13_bitCount_95d88_53 : decode cJ13_bitCount_95d88 53 = .ok (.ladd, 1) := by decide +kernel
theorem dJ13_bitCount_95d88_54 : decode cJ13_bitCount_95d88 54 = .ok (.lstore_n 0, 1) := by decide +kernel
theorem dJ13_bitCount_95d88_55 : decode cJ13_bitCount_95d88 55 = .ok (.lload_n 0, 1) := by decide +kernel
theorem dJ13_bitCount_95d88_56 : decode cJ13_bitCount_95d88 56 = .ok (.l2i, 1) := by decide +kernel
theorem dJ13_bitCount_95d88_57 : decode cJ13_bitCount_95d88 57 = .ok (.bipush 127, 2) := by decide +kernel
theorem dJ13_bitCount_95d88_59 : decode cJ13_bitCount_95d88 59 = .ok (.iand, 1) := by decide +kernel
theorem dJ13_bitCount_95d88_60 : decode cJ13_bitCount_95d88 60 = .ok (.ireturn, 1) := by decide +kernel
theorem dJ9_floorMod_7cf53_0 : decode cJ9_floorMod_7cf53 0 = .ok (.iload_n 0, 1) := by decide +kernel
theorem dJ9_floorMod_7cf53_1 : decode cJ9_floorMod_7cf53 1 = .ok (.iload_n 1, 1) := by decide +kernel
theorem dJ9_floorMod_7cf53_2 : decode cJ9_floorMod_7cf53 2 = .ok (.irem, 1) := by decide +kernel
theorem dJ9_floorMod_7cf53_3 : decode cJ9_floorMod_7cf53 3 = .ok (.istore_n 2, 1) := by decide +kernel
theorem dJ9_floorMod_7cf53_4 : decode cJ9_floorMod_7cf53 4 = .ok (.iload_n 0, 1) := by decide +kernel
theorem dJ9_floorMod_7cf53_5 : decode cJ9_floorMod_7cf53 5 = .ok (.iload_n 1, 1) := by decide +kernel
theorem dJ9_floorMod_7cf53_6 : decode cJ9_floorMod_7cf53 6 = .ok (.ixor, 1) := by decide +kernel
theorem dJ9_floorMod_7cf53_7 : decode cJ9_floorMod_7cf53 7 = .ok (.ifCond .ge 11, 3) := by decide +kernel
theorem dJ9_floorMod_7cf53_10 : decode cJ9_floorMod_7cf53 10 = .ok (.iload_n 2, 1) := by decide +kernel
theorem dJ9_floorMod_7cf53_11 : decode cJ9_floorMod_7cf53 11 = .ok (.ifCond .eq 7, 3) := by decide +kernel
theorem dJ9_floorMod_7cf53_14 : decode cJ9_floorMod_7cf53 14 = .ok (.iload_n 2, 1) := by decide +kernel
theorem dJ9_floorMod_7cf53_15 : decode cJ9_floorMod_7cf53 15 = .ok (.iload_n 1, 1) := by decide +kernel
theorem dJ9_floorMod_7cf53_16 : decode cJ9_floorMod_7cf53 16 = .ok (.iadd, 1) := by decide +kernel
theorem dJ9_floorMod_7cf53_17 : decode cJ9_floorMod_7cf53 17 = .ok (.ireturn, 1) := by decide +kernel
theorem dJ9_floorMod_7cf53_18 : decode cJ9_floorMod_7cf53 18 = .ok (.iload_n 2, 1) := by decide +kernel
theorem dJ9_floorMod_7cf53_19 : decode cJ9_floorMod_7cf53 19 = .ok (.ireturn, 1) := by decide +kernel
theorem dJ9_abs_0f7a4_0 : decode cJ9_abs_0f7a4 0 = .ok (.iload_n 0, 1) := by decide +kernel
theorem dJ9_abs_0f7a4_1 : decode cJ9_abs_0f7a4 1 = .ok (.ifCond .ge 8, 3) := by decide +kernel
theorem dJ9_abs_0f7a4_4 : decode cJ9_abs_0f7a4 4 = .ok (.iload_n 0, 1) := by decide +kernel
theorem dJ9_abs_0f7a4_5 : decode cJ9_abs_0f7a4 5 = .ok (.ineg, 1) := by decide +kernel
theorem dJ9_abs_0f7a4_6 : decode cJ9_abs_0f7a4 6 = .ok (.goto 4, 3) := by decide +kernel
theorem dJ9_abs_0f7a4_9 : decode cJ9_abs_0f7a4 9 = .ok (.iload_n 0, 1) := by decide +kernel
theorem dJ9_abs_0f7a4_10 : decode cJ9_abs_0f7a4 10 = .ok (.ireturn, 1) := by decide +kernel
theorem dJ9_max_7cf53_0 : decode cJ9_max_7cf53 0 = .ok (.iload_n 0, 1) := by decide +kernel
theorem dJ9_max_7cf53_1 : decode cJ9_max_7cf53 1 = .ok (.iload_n 1, 1) := by decide +kernel
theorem dJ9_max_7cf53_2 : decode cJ9_max_7cf53 2 = .ok (.if_icmp .lt 7, 3) := by decide +kernel
theorem dJ9_max_7cf53_5 : decode cJ9_max_7cf53 5 = .ok (.iload_n 0, 1) := by decide +kernel
theorem dJ9_max_7cf53_6 : decode cJ9_max_7cf53 6 = .ok (.goto 4, 3) := by decide +kernel
theorem dJ9_max_7cf53_9 : decode cJ9_max_7cf53 9 = .ok (.iload_n 1, 1) := by decide +kernel
theorem dJ9_max_7cf53_10 : decode cJ9_max_7cf53 10 = .ok (.ireturn, 1) := by decide +kernel
theorem dJ7_fill_d0a16_0 : decode cJ7_fill_d0a16 0 = .ok (.iconst 0, 1) := by decide +kernel
theorem dJ7_fill_d0a16_1 : decode cJ7_fill_d0a16 1 = .ok (.istore_n 3, 1) := by decide +kernel
theorem dJ7_fill_d0a16_2 : decode cJ7_fill_d0a16 2 = .ok (.aload_n 0, 1) := by decide +kernel
theorem dJ7_fill_d0a16_3 : decode cJ7_fill_d0a16 3 = .ok (.arraylength, 1) := by decide +kernel
theorem dJ7_fill_d0a16_4 : decode cJ7_fill_d0a16 4 = .ok (.istore 4, 2) := by decide +kernel
theorem dJ7_fill_d0a16_6 : decode cJ7_fill_d0a16 6 = .ok (.iload_n 3, 1) := by decide +kernel
theorem dJ7_fill_d0a16_7 : decode cJ7_fill_d0a16 7 = .ok (.iload 4, 2) := by decide +kernel
theorem dJ7_fill_d0a16_9 : decode cJ7_fill_d0a16 9 = .ok (.if_icmp .ge 13, 3) := by decide +kernel
theorem dJ7_fill_d0a16_12 : decode cJ7_fill_d0a16 12 = .ok (.aload_n 0, 1) := by decide +kernel
theorem dJ7_fill_d0a16_13 : decode cJ7_fill_d0a16 13 = .ok (.iload_n 3, 1) := by decide +kernel
theorem dJ7_fill_d0a16_14 : decode cJ7_fill_d0a16 14 = .ok (.lload_n 1, 1) := by decide +kernel
theorem dJ7_fill_d0a16_15 : decode cJ7_fill_d0a16 15 = .ok (.lastore, 1) := by decide +kernel
theorem dJ7_fill_d0a16_16 : decode cJ7_fill_d0a16 16 = .ok (.iinc 3 1, 3) := by decide +kernel
theorem dJ7_fill_d0a16_19 : decode cJ7_fill_d0a16 19 = .ok (.goto (-13), 3) := by decide +kernel
theorem dJ7_fill_d0a16_22 : decode cJ7_fill_d0a16 22 = .ok (.return_, 1) := by decide +kernel
theorem dJ7_fill_53178_0 : decode cJ7_fill_53178 0 = .ok (.iconst 0, 1) := by decide +kernel
theorem dJ7_fill_53178_1 : decode cJ7_fill_53178 1 = .ok (.istore_n 2, 1) := by decide +kernel
theorem dJ7_fill_53178_2 : decode cJ7_fill_53178 2 = .ok (.aload_n 0, 1) := by decide +kernel
theorem dJ7_fill_53178_3 : decode cJ7_fill_53178 3 = .ok (.arraylength, 1) := by decide +kernel
theorem dJ7_fill_53178_4 : decode cJ7_fill_53178 4 = .ok (.istore_n 3, 1) := by decide +kernel
theorem dJ7_fill_53178_5 : decode cJ7_fill_53178 5 = .ok (.iload_n 2, 1) := by decide +kernel
theorem dJ7_fill_53178_6 : decode cJ7_fill_53178 6 = .ok (.iload_n 3, 1) := by decide +kernel
theorem dJ7_fill_53178_7 : decode cJ7_fill_53178 7 = .ok (.if_icmp .ge 13, 3) := by decide +kernel
theorem dJ7_fill_53178_10 : decode cJ7_fill_53178 10 = .ok (.aload_n 0, 1) := by decide +kernel
theorem dJ7_fill_53178_11 : decode cJ7_fill_53178 11 = .ok (.iload_n 2, 1) := by decide +kernel
theorem dJ7_fill_53178_12 : decode cJ7_fill_53178 12 = .ok (.iload_n 1, 1) := by decide +kernel
theorem dJ7_fill_53178_13 : decode cJ7_fill_53178 13 = .ok (.iastore, 1) := by decide +kernel
theorem dJ7_fill_53178_14 : decode cJ7_fill_53178 14 = .ok (.iinc 2 1, 3) := by decide +kernel
theorem dJ7_fill_53178_17 : decode cJ7_fill_53178 17 = .ok (.goto (-12), 3) := by decide +kernel
theorem dJ7_fill_53178_20 : decode cJ7_fill_53178 20 = .ok (.return_, 1) := by decide +kernel
