abbrev vwCl : List vw_C := [(RX1, TX1, 5), (RX2, TX2, 3), (RX3, TX3, 3), (RX4, TX4, 1), (RX5, TX5, 6), (RX6, TX6, 25)]
theorem dX0_holds_0 : decode cX0_holds 0 = .ok (.lload_n 0, 1) := by decide +kernel
theorem dX0_holds_1 : decode cX0_holds 1 = .ok (.iload_n 2, 1) := by decide +kernel
theorem dX0_holds_2 : decode cX0_holds 2 = .ok (.lushr, 1) := by decide +kernel
theorem dX0_holds_3 : decode cX0_holds 3 = .ok (.lconst 1, 1) := by decide +kernel
theorem dX0_holds_4 : decode cX0_holds 4 = .ok (.land, 1) := by decide +kernel
theorem dX0_holds_5 : decode cX0_holds 5 = .ok (.lconst 0, 1) := by decide +kernel
theorem dX0_holds_6 : decode cX0_holds 6 = .ok (.lcmp, 1) := by decide +kernel
theorem dX0_holds_7 : decode cX0_holds 7 = .ok (.ifCond .eq 7, 3) := by decide +kernel
theorem dX0_holds_10 : decode cX0_holds 10 = .ok (.iconst 1, 1) := by decide +kernel
theorem dX0_holds_11 : decode cX0_holds 11 = .ok (.goto 4, 3) := by decide +kernel
theorem dX0_holds_14 : decode cX0_holds 14 = .ok (.iconst 0, 1) := by decide +kernel
theorem dX0_holds_15 : decode cX0_holds 15 = .ok (.ireturn, 1) := by decide +kernel
set_option maxRecDepth 20000 in
theorem ggX0_ofSizes_J6_bitCount_0f7a4 : GoodIn wsX0_ofSizes wsJ6_bitCount_0f7a4 := goodIn_r _ [4, 5, 6, 7] (by decide +kernel) (by decide +kernel)
set_option maxRecDepth 20000 in
theorem gX0_ofSizes_J6_bitCount_0f7a4 : GoodIn wsX0_ofSizes (va_wsS RX0 9 yJ6_bitCount_0f7a4 wsJ6_bitCount_0f7a4) := goodIn_app (goodIn_of _ (by decide +kernel)) ggX0_ofSizes_J6_bitCount_0f7a4
theorem dX0_ofSizes_0 : decode cX0_ofSizes 0 = .ok (.lconst 0, 1) := by decide +kernel
theorem dX0_ofSizes_1 : decode cX0_ofSizes 1 = .ok (.lstore_n 3, 1) := by decide +kernel
theorem dX0_ofSizes_2 : decode cX0_ofSizes 2 = .ok (.iconst 0, 1) := by decide +kernel
theorem dX0_ofSizes_3 : decode cX0_ofSizes 3 = .ok (.istore 5, 2) := by decide +kernel
theorem dX0_ofSizes_5 : decode cX0_ofSizes 5 = .ok (.iload 5, 2) := by decide +kernel
theorem dX0_ofSizes_7 : decode cX0_ofSizes 7 = .ok (.iconst 1, 1) := by decide +kernel
theorem dX0_ofSizes_8 : decode cX0_ofSizes 8 = .ok (.iload_n 2, 1) := by decide +kernel
theorem dX0_ofSizes_9 : decode cX0_ofSizes 9 = .ok (.ishl, 1) := by decide +kernel
theorem dX0_ofSizes_10 : decode cX0_ofSizes 10 = .ok (.if_icmp .ge 35, 3) := by decide +kernel
theorem dX0_ofSizes_13 : decode cX0_ofSizes 13 = .ok (.iload 5, 2) := by decide +kernel
theorem dX0_ofSizes_15 : decode cX0_ofSizes 15 = .ok (.invokestatic 9, 3) := by decide +kernel
theorem dX0_ofSizes_18 : decode cX0_ofSizes 18 = .ok (.istore 6, 2) := by decide +kernel
theorem dX0_ofSizes_20 : decode cX0_ofSizes 20 = .ok (.iload 6, 2) := by decide +kernel
theorem dX0_ofSizes_22 : decode cX0_ofSizes 22 = .ok (.iload_n 0, 1) := by decide +kernel
theorem dX0_ofSizes_23 : decode cX0_ofSizes 23 = .ok (.if_icmp .lt 16, 3) := by decide +kernel
theorem dX0_ofSizes_26 : decode cX0_ofSizes 26 = .ok (.iload 6, 2) := by decide +kernel
theorem dX0_ofSizes_28 : decode cX0_ofSizes 28 = .ok (.iload_n 1, 1) := by decide +kernel
theorem dX0_ofSizes_29 : decode cX0_ofSizes 29 = .ok (.if_icmp .gt 10, 3) := by decide +kernel
theorem dX0_ofSizes_32 : decode cX0_ofSizes 32 = .ok (.lload_n 3, 1) := by decide +kernel
theorem dX0_ofSizes_33 : decode cX0_ofSizes 33 = .ok (.lconst 1, 1) := by decide +kernel
theorem dX0_ofSizes_34 : decode cX0_ofSizes 34 = .ok (.iload 5, 2) := by decide +kernel
theorem dX0_ofSizes_36 : decode cX0_ofSizes 36 = .ok (.lshl, 1) := by decide +kernel
theorem dX0_ofSizes_37 : decode cX0_ofSizes 37 = .ok (.lor, 1) := by decide +kernel
theorem dX0_ofSizes_38 : decode cX0_ofSizes 38 = .ok (.lstore_n 3, 1) := by decide +kernel
theorem dX0_ofSizes_39 : decode cX0_ofSizes 39 = .ok (.iinc 5 1, 3) := by decide +kernel
theorem dX0_ofSizes_42 : decode cX0_ofSizes 42 = .ok (.goto (-37), 3) := by decide +kernel
theorem dX0_ofSizes_45 : decode cX0_ofSizes 45 = .ok (.lload_n 3, 1) := by decide +kernel
theorem dX0_ofSizes_46 : decode cX0_ofSizes 46 = .ok (.lreturn, 1) := by decide +kernel
theorem dX0_twistedByOne_0 : decode cX0_twistedByOne 0 = .ok (.lload_n 0, 1) := by decide +kernel
theorem dX0_twistedByOne_1 : decode cX0_twistedByOne 1 = .ok (.getstatic 15, 3) := by decide +kernel
theorem dX0_twistedByOne_4 : decode cX0_twistedByOne 4 = .ok (.iload_n 2, 1) := by decide +kernel
theorem dX0_twistedByOne_5 : decode cX0_twistedByOne 5 = .ok (.laload, 1) := by decide +kernel
theorem dX0_twistedByOne_6 : decode cX0_twistedByOne 6 = .ok (.land, 1) := by decide +kernel
theorem dX0_twistedByOne_7 : decode cX0_twistedByOne 7 = .ok (.lstore_n 3, 1) := by decide +kernel
theorem dX0_twistedByOne_8 : decode cX0_twistedByOne 8 = .ok (.lload_n 0, 1) := by decide +kernel
theorem dX0_twistedByOne_9 : decode cX0_twistedByOne 9 = .ok (.getstatic 15, 3) := by decide +kernel
theorem dX0_twistedByOne_12 : decode cX0_twistedByOne 12 = .ok (.iload_n 2, 1) := by decide +kernel
theorem dX0_twistedByOne_13 : decode cX0_twistedByOne 13 = .ok (.laload, 1) := by decide +kernel
theorem dX0_twistedByOne_14 : decode cX0_twistedByOne 14 = .ok (.ldc2_w 19, 3) := by decide +kernel
theorem dX0_twistedByOne_17 : decode cX0_twistedByOne 17 = .ok (.lxor, 1) := by decide +kernel
theorem dX0_twistedByOne_18 : decode cX0_twistedByOne 18 = .ok (.land, 1) := by decide +kernel
theorem dX0_twistedByOne_19 : decode cX0_twistedByOne 19 = .ok (.lstore 5, 2) := by decide +kernel
theorem dX0_twistedByOne_21 : decode cX0_twistedByOne 21 = .ok (.lload_n 3, 1) := by decide +kernel
theorem dX0_twistedByOne_22 : decode cX0_twistedByOne 22 = .ok (.iconst 1, 1) := by decide +kernel
theorem dX0_twistedByOne_23 : decode cX0_twistedByOne 23 = .ok (.iload_n 2, 1) := by decide +kernel
theorem dX0_twistedByOne_24 : decode cX0_twistedByOne 24 = .ok (.ishl, 1) := by decide +kernel
theorem dX0_twistedByOne_25 : decode cX0_twistedByOne 25 = .ok (.lushr, 1) := by decide +kernel
theorem dX0_twistedByOne_26 : decode cX0_twistedByOne 26 = .ok (.lload 5, 2) := by decide +kernel
theorem dX0_twistedByOne_28 : decode cX0_twistedByOne 28 = .ok (.iconst 1, 1) := by decide +kernel
theorem dX0_twistedByOne_29 : decode cX0_twistedByOne 29 = .ok (.iload_n 2, 1) := by decide +kernel
theorem dX0_twistedByOne_30 : decode cX0_twistedByOne 30 = .ok (.ishl, 1) := by decide +kernel
theorem dX0_twistedByOne_31 : decode cX0_twistedByOne 31 = .ok (.lshl, 1) := by decide +kernel
theorem dX0_twistedByOne_32 : decode cX0_twistedByOne 32 = .ok (.lor, 1) := by decide +kernel
theorem dX0_twistedByOne_33 : decode cX0_twistedByOne 33 = .ok (.lreturn, 1) := by decide +kernel
set_option maxRecDepth 20000 in
theorem ggX0_twisted_X0_twistedByOne : GoodIn wsX0_twisted wsX0_twistedByOne := goodIn_r _ [4, 5] (by decide +kernel) (by decide +kernel)
set_option maxRecDepth 20000 in
theorem gX0_twisted_X0_twistedByOne : GoodIn wsX0_twisted (va_wsS RX0 21 yX0_twistedByOne wsX0_twistedByOne) := goodIn_app (goodIn_of _ (by decide +kernel)) ggX0_twisted_X0_twistedByOne
theorem dX0_twisted_0 : decode cX0_twisted 0 = .ok (.lload_n 0, 1) := by decide +kernel
theorem dX0_twisted_1 : decode cX0_twisted 1 = .ok (.lstore_n 3, 1) := by decide +kernel
theorem dX0_twisted_2 : decode cX0_twisted 2 = .ok (.iconst 0, 1) := by decide +kernel
theorem dX0_twisted_3 : decode cX0_twisted 3 = .ok (.istore 5, 2) := by decide +kernel
theorem dX0_twisted_5 : decode cX0_twisted 5 = .ok (.iload 5, 2) := by decide +kernel
theorem dX0_twisted_7 : decode cX0_twisted 7 = .ok (.bipush 6, 2) := by decide +kernel
theorem dX0_twisted_9 : decode cX0_twisted 9 = .ok (.if_icmp .ge 25, 3) := by decide +kernel
theorem dX0_twisted_12 : decode cX0_twisted 12 = .ok (.iload_n 2, 1) := by decide +kernel
theorem dX0_twisted_13 : decode cX0_twisted 13 = .ok (.iload 5, 2) := by decide +kernel
theorem dX0_twisted_15 : decode cX0_twisted 15 = .ok (.ishr, 1) := by decide +kernel
theorem dX0_twisted_16 : decode cX0_twisted 16 = .ok (.iconst 1, 1) := by decide +kernel
theorem dX0_twisted_17 : decode cX0_twisted 17 = .ok (.iand, 1) := by decide +kernel
theorem dX0_twisted_18 : decode cX0_twisted 18 = .ok (.ifCond .eq 10, 3) := by decide +kernel
theorem dX0_twisted_21 : decode cX0_twisted 21 = .ok (.lload_n 3, 1) := by decide +kernel
theorem dX0_twisted_22 : decode cX0_twisted 22 = .ok (.iload 5, 2) := by decide +kernel
theorem dX0_twisted_24 : decode cX0_twisted 24 = .ok (.invokestatic 21, 3) := by decide +kernel
theorem dX0_twisted_27 : decode cX0_twisted 27 = .ok (.lstore_n 3, 1) := by decide +kernel
theorem dX0_twisted_28 : decode cX0_twisted 28 = .ok (.iinc 5 1, 3) := by decide +kernel
theorem dX0_twisted_31 : decode cX0_twisted 31 = .ok (.goto (-26), 3) := by decide +kernel
theorem dX0_twisted_34 : decode cX0_twisted 34 = .ok (.lload_n 3, 1) := by decide +kernel
theorem dX0_twisted_35 : decode cX0_twisted 35 = .ok (.lreturn, 1) := by decide +kernel
theorem dX0_leftOut_0 : decode cX0_leftOut 0 = .ok (.lload_n 0, 1) := by decide +kernel
theorem dX0_leftOut_1 : decode cX0_leftOut 1 = .ok (.getstatic 15, 3) := by decide +kernel
theorem dX0_leftOut_4 : decode cX0_leftOut 4 = .ok (.iload_n 2, 1) := by decide +kernel
theorem dX0_leftOut_5 : decode cX0_leftOut 5 = .ok (.laload, 1) := by decide +kernel
theorem dX0_leftOut_6 : decode cX0_leftOut 6 = .ok (.ldc2_w 19, 3) := by decide +kernel
theorem dX0_leftOut_9 : decode cX0_leftOut 9 = .ok (.lxor, 1) := by decide +kernel
theorem dX0_leftOut_10 : decode cX0_leftOut 10 = .ok (.land, 1) := by decide +kernel
theorem dX0_leftOut_11 : decode cX0_leftOut 11 = .ok (.lstore_n 3, 1) := by decide +kernel
theorem dX0_leftOut_12 : decode cX0_leftOut 12 = .ok (.lload_n 3, 1) := by decide +kernel
theorem dX0_leftOut_13 : decode cX0_leftOut 13 = .ok (.lconst 0, 1) := by decide +kernel
theorem dX0_leftOut_14 : decode cX0_leftOut 14 = .ok (.lcmp, 1) := by decide +kernel
theorem dX0_leftOut_15 : decode cX0_leftOut 15 = .ok (.ifCond .eq 7, 3) := by decide +kernel
theorem dX0_leftOut_18 : decode cX0_leftOut 18 = .ok (.lload_n 3, 1) := by decide +kernel
theorem dX0_leftOut_19 : decode cX0_leftOut 19 = .ok (.goto 8, 3) := by decide +kernel
theorem dX0_leftOut_22 : decode cX0_leftOut 22 = .ok (.lload_n 0, 1) := by decide +kernel
theorem dX0_leftOut_23 : decode cX0_leftOut 23 = .ok (.iconst 1, 1) := by decide +kernel
theorem dX0_leftOut_24 : decode cX0_leftOut 24 = .ok (.iload_n 2, 1) := by decide +kernel
theorem dX0_leftOut_25 : decode cX0_leftOut 25 = .ok (.ishl, 1) := by decide +kernel
theorem dX0_leftOut_26 : decode cX0_leftOut 26 = .ok (.lushr, 1) := by decide +kernel
theorem dX0_leftOut_27 : decode cX0_leftOut 27 = .ok (.lreturn, 1) := by decide +kernel
theorem dX0_drawnTogether_0 : decode cX0_drawnTogether 0 = .ok (.lload_n 0, 1) := by decide +kernel
theorem dX0_drawnTogether_1 : decode cX0_drawnTogether 1 = .ok (.getstatic 15, 3) := by decide +kernel
theorem dX0_drawnTogether_4 : decode cX0_drawnTogether 4 = .ok (.iload_n 2, 1) := by decide +kernel
theorem dX0_drawnTogether_5 : decode cX0_drawnTogether 5 = .ok (.laload, 1) := by decide +kernel
theorem dX0_drawnTogether_6 : decode cX0_drawnTogether 6 = .ok (.land, 1) := by decide +kernel
theorem dX0_drawnTogether_7 : decode cX0_drawnTogether 7 = .ok (.lstore_n 3, 1) := by decide +kernel
theorem dX0_drawnTogether_8 : decode cX0_drawnTogether 8 = .ok (.lload_n 3, 1) := by decide +kernel
theorem dX0_drawnTogether_9 : decode cX0_drawnTogether 9 = .ok (.lconst 0, 1) := by decide +kernel
theorem dX0_drawnTogether_10 : decode cX0_drawnTogether 10 = .ok (.lcmp, 1) := by decide +kernel
theorem dX0_drawnTogether_11 : decode cX0_drawnTogether 11 = .ok (.ifCond .eq 11, 3) := by decide +kernel
theorem dX0_drawnTogether_14 : decode cX0_drawnTogether 14 = .ok (.lload_n 3, 1) := by decide +kernel
theorem dX0_drawnTogether_15 : decode cX0_drawnTogether 15 = .ok (.iconst 1, 1) := by decide +kernel
theorem dX0_drawnTogether_16 : decode cX0_drawnTogether 16 = .ok (.iload_n 2, 1) := by decide +kernel
theorem dX0_drawnTogether_17 : decode cX0_drawnTogether 17 = .ok (.ishl, 1) := by decide +kernel
theorem dX0_drawnTogether_18 : decode cX0_drawnTogether 18 = .ok (.lushr, 1) := by decide +kernel
theorem dX0_drawnTogether_19 : decode cX0_drawnTogether 19 = .ok (.goto 4, 3) := by decide +kernel
theorem dX0_drawnTogether_22 : decode cX0_drawnTogether 22 = .ok (.lload_n 0, 1) := by decide +kernel
theorem dX0_drawnTogether_23 : decode cX0_drawnTogether 23 = .ok (.lreturn, 1) := by decide +kernel
set_option maxRecDepth 20000 in
theorem ggX0_first_J13_bitCount_95d88 : GoodIn wsX0_first wsJ13_bitCount_95d88 := goodIn_r _ [4, 5, 6, 7] (by decide +kernel) (by decide +kernel)
set_option maxRecDepth 20000 in
theorem gX0_first_J13_bitCount_95d88 : GoodIn wsX0_first (va_wsS RX0 27 yJ13_bitCount_95d88 wsJ13_bitCount_95d88) := goodIn_app (goodIn_of _ (by decide +kernel)) ggX0_first_J13_bitCount_95d88
theorem dX0_first_0 : decode cX0_first 0 = .ok (.lload_n 0, 1) := by decide +kernel
theorem dX0_first_1 : decode cX0_first 1 = .ok (.lload_n 0, 1) := by decide +kernel
theorem dX0_first_2 : decode cX0_first 2 = .ok (.lneg, 1) := by decide +kernel
theorem dX0_first_3 : decode cX0_first 3 = .ok (.land, 1) := by decide +kernel
theorem dX0_first_4 : decode cX0_first 4 = .ok (.lconst 1, 1) := by decide +kernel
theorem dX0_first_5 : decode cX0_first 5 = .ok (.lsub, 1) := by decide +kernel
theorem dX0_first_6 : decode cX0_first 6 = .ok (.invokestatic 27, 3) := by decide +kernel
theorem dX0_first_9 : decode cX0_first 9 = .ok (.ireturn, 1) := by decide +kernel
set_option maxRecDepth 20000 in
theorem ggX0_atPlace_X0_first : GoodIn wsX0_atPlace wsX0_first := goodIn_r _ [4, 5, 6, 7, 8, 9, 10, 11] (by decide +kernel) (by decide +kernel)
set_option maxRecDepth 20000 in
theorem gX0_atPlace_X0_first : GoodIn wsX0_atPlace (va_wsS RX0 32 yX0_first wsX0_first) := goodIn_app (goodIn_of _ (by decide +kernel)) ggX0_atPlace_X0_first
theorem dX0_atPlace_0 : decode cX0_atPlace 0 = .ok (.lload_n 0, 1) := by decide +kernel
theorem dX0_atPlace_1 : decode cX0_atPlace 1 = .ok (.lstore_n 3, 1) := by decide +kernel
theorem dX0_atPlace_2 : decode cX0_atPlace 2 = .ok (.iconst 0, 1) := by decide +kernel
theorem dX0_atPlace_3 : decode cX0_atPlace 3 = .ok (.istore 5, 2) := by decide +kernel
theorem dX0_atPlace_5 : decode cX0_atPlace 5 = .ok (.iload 5, 2) := by decide +kernel
theorem dX0_atPlace_7 : decode cX0_atPlace 7 = .ok (.iload_n 2, 1) := by decide +kernel
theorem dX0_atPlace_8 : decode cX0_atPlace 8 = .ok (.if_icmp .ge 15, 3) := by decide +kernel
theorem dX0_atPlace_11 : decode cX0_atPlace 11 = .ok (.lload_n 3, 1) := by decide +kernel
theorem dX0_atPlace_12 : decode cX0_atPlace 12 = .ok (.lload_n 3, 1) := by decide +kernel
theorem dX0_atPlace_13 : decode cX0_atPlace 13 = .ok (.lconst 1, 1) := by decide +kernel
theorem dX0_atPlace_14 : decode cX0_atPlace 14 = .ok (.lsub, 1) := by decide +kernel
theorem dX0_atPlace_15 : decode cX0_atPlace 15 = .ok (.land, 1) := by decide +kernel
theorem dX0_atPlace_16 : decode cX0_atPlace 16 = .ok (.lstore_n 3, 1) := by decide +kernel
theorem dX0_atPlace_17 : decode cX0_atPlace 17 = .ok (.iinc 5 1, 3) := by decide +kernel
theorem dX0_atPlace_20 : decode cX0_atPlace 20 = .ok (.goto (-15), 3) := by decide +kernel
theorem dX0_atPlace_23 : decode cX0_atPlace 23 = .ok (.lload_n 3, 1) := by decide +kernel
theorem dX0_atPlace_24 : decode cX0_atPlace 24 = .ok (.invokestatic 32, 3) := by decide +kernel
theorem dX0_atPlace_27 : decode cX0_atPlace 27 = .ok (.ireturn, 1) := by decide +kernel
set_option maxRecDepth 20000 in
theorem ggX0_sizes_X0_holds : GoodIn wsX0_sizes wsX0_holds := goodIn_r _ [4] (by decide +kernel) (by decide +kernel)
set_option maxRecDepth 20000 in
theorem gX0_sizes_X0_holds : GoodIn wsX0_sizes (va_wsS RX0 35 yX0_holds wsX0_holds) := goodIn_app (goodIn_of _ (by decide +kernel)) ggX0_sizes_X0_holds
set_option maxRecDepth 20000 in
theorem ggX0_sizes_J6_bitCount_0f7a4 : GoodIn wsX0_sizes wsJ6_bitCount_0f7a4 := goodIn_r _ [8, 9, 10, 11] (by decide +kernel) (by decide +kernel)
set_option maxRecDepth 20000 in
theorem gX0_sizes_J6_bitCount_0f7a4 : GoodIn wsX0_sizes (va_wsS RX0 9 yJ6_bitCount_0f7a4 wsJ6_bitCount_0f7a4) := goodIn_app (goodIn_of _ (by decide +kernel)) ggX0_sizes_J6_bitCount_0f7a4
theorem dX0_sizes_0 : decode cX0_sizes 0 = .ok (.iconst 0, 1) := by decide +kernel
theorem dX0_sizes_1 : decode cX0_sizes 1 = .ok (.istore_n 2, 1) := by decide +kernel
theorem dX0_sizes_2 : decode cX0_sizes 2 = .ok (.iconst 0, 1) := by decide +kernel
theorem dX0_sizes_3 : decode cX0_sizes 3 = .ok (.istore_n 3, 1) := by decide +kernel
theorem dX0_sizes_4 : decode cX0_sizes 4 = .ok (.iload_n 3, 1) := by decide +kernel
theorem dX0_sizes_5 : decode cX0_sizes 5 = .ok (.bipush 64, 2) := by decide +kernel
theorem dX0_sizes_7 : decode cX0_sizes 7 = .ok (.if_icmp .ge 26, 3) := by decide +kernel
theorem dX0_sizes_10 : decode cX0_sizes 10 = .ok (.lload_n 0, 1) := by decide +kernel
theorem dX0_sizes_11 : decode cX0_sizes 11 = .ok (.iload_n 3, 1) := by decide +kernel
theorem dX0_sizes_12 : decode cX0_sizes 12 = .ok (.invokestatic 35, 3) := by decide +kernel
theorem dX0_sizes_15 : decode cX0_sizes 15 = .ok (.ifCond .eq 12, 3) := by decide +kernel
theorem dX0_sizes_18 : decode cX0_sizes 18 = .ok (.iload_n 2, 1) := by decide +kernel
theorem dX0_sizes_19 : decode cX0_sizes 19 = .ok (.iconst 1, 1) := by decide +kernel
theorem dX0_sizes_20 : decode cX0_sizes 20 = .ok (.iload_n 3, 1) := by decide +kernel
theorem dX0_sizes_21 : decode cX0_sizes 21 = .ok (.invokestatic 9, 3) := by decide +kernel
theorem dX0_sizes_24 : decode cX0_sizes 24 = .ok (.ishl, 1) := by decide +kernel
theorem dX0_sizes_25 : decode cX0_sizes 25 = .ok (.ior, 1) := by decide +kernel
theorem dX0_sizes_26 : decode cX0_sizes 26 = .ok (.istore_n 2, 1) := by decide +kernel
theorem dX0_sizes_27 : decode cX0_sizes 27 = .ok (.iinc 3 1, 3) := by decide +kernel
theorem dX0_sizes_30 : decode cX0_sizes 30 = .ok (.goto (-26), 3) := by decide +kernel
theorem dX0_sizes_33 : decode cX0_sizes 33 = .ok (.iload_n 2, 1) := by decide +kernel
theorem dX0_sizes_34 : decode cX0_sizes 34 = .ok (.ireturn, 1) := by decide +kernel
theorem dX0_isEven_0 : decode cX0_isEven 0 = .ok (.bipush 85, 2) := by decide +kernel
theorem dX0_isEven_2 : decode cX0_isEven 2 = .ok (.istore_n 1, 1) := by decide +kernel
theorem dX0_isEven_3 : decode cX0_isEven 3 = .ok (.iload_n 0, 1) := by decide +kernel
theorem dX0_isEven_4 : decode cX0_isEven 4 = .ok (.iload_n 1, 1) := by decide +kernel
theorem dX0_isEven_5 : decode cX0_isEven 5 = .ok (.iand, 1) := by decide +kernel
theorem dX0_isEven_6 : decode cX0_isEven 6 = .ok (.ifCond .eq 11, 3) := by decide +kernel
theorem dX0_isEven_9 : decode cX0_isEven 9 = .ok (.iload_n 0, 1) := by decide +kernel
theorem dX0_isEven_10 : decode cX0_isEven 10 = .ok (.iload_n 1, 1) := by decide +kernel
theorem dX0_isEven_11 : decode cX0_isEven 11 = .ok (.iconst (-1), 1) := by decide +kernel
theorem dX0_isEven_12 : decode cX0_isEven 12 = .ok (.ixor, 1) := by decide +kernel
theorem dX0_isEven_13 : decode cX0_isEven 13 = .ok (.iand, 1) := by decide +kernel
theorem dX0_isEven_14 : decode cX0_isEven 14 = .ok (.ifCond .ne 7, 3) := by decide +kernel
theorem dX0_isEven_17 : decode cX0_isEven 17 = .ok (.iconst 1, 1) := by decide +kernel
theorem dX0_isEven_18 : decode cX0_isEven 18 = .ok (.goto 4, 3) := by decide +kernel
theorem dX0_isEven_21 : decode cX0_isEven 21 = .ok (.iconst 0, 1) := by decide +kernel
theorem dX0_isEven_22 : decode cX0_isEven 22 = .ok (.ireturn, 1) := by decide +kernel
theorem dX0_loops_0 : decode cX0_loops 0 = .ok (.iconst 0, 1) := by decide +kernel
theorem dX0_loops_1 : decode cX0_loops 1 = .ok (.istore_n 3, 1) := by decide +kernel
theorem dX0_loops_2 : decode cX0_loops 2 = .ok (.iconst 0, 1) := by decide +kernel
theorem dX0_loops_3 : decode cX0_loops 3 = .ok (.istore 4, 2) := by decide +kernel
theorem dX0_loops_5 : decode cX0_loops 5 = .ok (.iload 4, 2) := by decide +kernel
theorem dX0_loops_7 : decode cX0_loops 7 = .ok (.iload_n 2, 1) := by decide +kernel
theorem dX0_loops_8 : decode cX0_loops 8 = .ok (.if_icmp .ge 29, 3) := by decide +kernel
theorem dX0_loops_11 : decode cX0_loops 11 = .ok (.lload_n 0, 1) := by decide +kernel
theorem dX0_loops_12 : decode cX0_loops 12 = .ok (.getstatic 15, 3) := by decide +kernel
theorem dX0_loops_15 : decode cX0_loops 15 = .ok (.iload 4, 2) := by decide +kernel
theorem dX0_loops_17 : decode cX0_loops 17 = .ok (.laload, 1) := by decide +kernel
theorem dX0_loops_18 : decode cX0_loops 18 = .ok (.land, 1) := by decide +kernel
theorem dX0_loops_19 : decode cX0_loops 19 = .ok (.lconst 0, 1) := by decide +kernel
theorem dX0_loops_20 : decode cX0_loops 20 = .ok (.lcmp, 1) := by decide +kernel
theorem dX0_loops_21 : decode cX0_loops 21 = .ok (.ifCond .ne 10, 3) := by decide +kernel
theorem dX0_loops_24 : decode cX0_loops 24 = .ok (.iload_n 3, 1) := by decide +kernel
theorem dX0_loops_25 : decode cX0_loops 25 = .ok (.iconst 1, 1) := by decide +kernel
theorem dX0_loops_26 : decode cX0_loops 26 = .ok (.iload 4, 2) := by decide +kernel
theorem dX0_loops_28 : decode cX0_loops 28 = .ok (.ishl, 1) := by decide +kernel
theorem dX0_loops_29 : decode cX0_loops 29 = .ok (.ior, 1) := by decide +kernel
theorem dX0_loops_30 : decode cX0_loops 30 = .ok (.istore_n 3, 1) := by decide +kernel
theorem dX0_loops_31 : decode cX0_loops 31 = .ok (.iinc 4 1, 3) := by decide +kernel
theorem dX0_loops_34 : decode cX0_loops 34 = .ok (.goto (-29), 3) := by decide +kernel
theorem dX0_loops_37 : decode cX0_loops 37 = .ok (.iload_n 3, 1) := by decide +kernel
theorem dX0_loops_38 : decode cX0_loops 38 = .ok (.ireturn, 1) := by decide +kernel
theorem dX0_coloops_0 : decode cX0_coloops 0 = .ok (.iconst 0, 1) := by decide +kernel
theorem dX0_coloops_1 : decode cX0_coloops 1 = .ok (.istore_n 3, 1) := by decide +kernel
theorem dX0_coloops_2 : decode cX0_coloops 2 = .ok (.iconst 0, 1) := by decide +kernel
theorem dX0_coloops_3 : decode cX0_coloops 3 = .ok (.istore 4, 2) := by decide +kernel
theorem dX0_coloops_5 : decode cX0_coloops 5 = .ok (.iload 4, 2) := by decide +kernel
theorem dX0_coloops_7 : decode cX0_coloops 7 = .ok (.iload_n 2, 1) := by decide +kernel
theorem dX0_coloops_8 : decode cX0_coloops 8 = .ok (.if_icmp .ge 33, 3) := by decide +kernel
theorem dX0_coloops_11 : decode cX0_coloops 11 = .ok (.lload_n 0, 1) := by decide +kernel
theorem dX0_coloops_12 : decode cX0_coloops 12 = .ok (.getstatic 15, 3) := by decide +kernel
theorem dX0_coloops_15 : decode cX0_coloops 15 = .ok (.iload 4, 2) := by decide +kernel
theorem dX0_coloops_17 : decode cX0_coloops 17 = .ok (.laload, 1) := by decide +kernel
theorem dX0_coloops_18 : decode cX0_coloops 18 = .ok (.ldc2_w 19, 3) := by decide +kernel
theorem dX0_coloops_21 : decode cX0_coloops 21 = .ok (.lxor, 1) := by decide +kernel
theorem dX0_coloops_22 : decode cX0_coloops 22 = .ok (.land, 1) := by decide +kernel
theorem dX0_coloops_23 : decode cX0_coloops 23 = .ok (.lconst 0, 1) := by decide +kernel
theorem dX0_coloops_24 : decode cX0_coloops 24 = .ok (.lcmp, 1) := by decide +kernel
theorem dX0_coloops_25 : decode cX0_coloops 25 = .ok (.ifCond .ne 10, 3) := by decide +kernel
theorem dX0_coloops_28 : decode cX0_coloops 28 = .ok (.iload_n 3, 1) := by decide +kernel
theorem dX0_coloops_29 : decode cX0_coloops 29 = .ok (.iconst 1, 1) := by decide +kernel
theorem dX0_coloops_30 : decode cX0_coloops 30 = .ok (.iload 4, 2) := by decide +kernel
theorem dX0_coloops_32 : decode cX0_coloops 32 = .ok (.ishl, 1) := by decide +kernel
theorem dX0_coloops_33 : decode cX0_coloops 33 = .ok (.ior, 1) := by decide +kernel
theorem dX0_coloops_34 : decode cX0_coloops 34 = .ok (.istore_n 3, 1) := by decide +kernel
theorem dX0_coloops_35 : decode cX0_coloops 35 = .ok (.iinc 4 1, 3) := by decide +kernel
theorem dX0_coloops_38 : decode cX0_coloops 38 = .ok (.goto (-33), 3) := by decide +kernel
theorem dX0_coloops_41 : decode cX0_coloops 41 = .ok (.iload_n 3, 1) := by decide +kernel
theorem dX0_coloops_42 : decode cX0_coloops 42 = .ok (.ireturn, 1) := by decide +kernel
theorem dX0_likeAt_0 : decode cX0_likeAt 0 = .ok (.ldc2_w 19, 3) := by decide +kernel
theorem dX0_likeAt_3 : decode cX0_likeAt 3 = .ok (.lstore_n 2, 1) := by decide +kernel
theorem dX0_likeAt_4 : decode cX0_likeAt 4 = .ok (.iconst 0, 1) := by decide +kernel
theorem dX0_likeAt_5 : decode cX0_likeAt 5 = .ok (.istore 4, 2) := by decide +kernel
theorem dX0_likeAt_7 : decode cX0_likeAt 7 = .ok (.iload 4, 2) := by decide +kernel
theorem dX0_likeAt_9 : decode cX0_likeAt 9 = .ok (.bipush 6, 2) := by decide +kernel
theorem dX0_likeAt_11 : decode cX0_likeAt 11 = .ok (.if_icmp .ge 49, 3) := by decide +kernel
theorem dX0_likeAt_14 : decode cX0_likeAt 14 = .ok (.iload_n 1, 1) := by decide +kernel
theorem dX0_likeAt_15 : decode cX0_likeAt 15 = .ok (.iload 4, 2) := by decide +kernel
theorem dX0_likeAt_17 : decode cX0_likeAt 17 = .ok (.ishr, 1) := by decide +kernel
theorem dX0_likeAt_18 : decode cX0_likeAt 18 = .ok (.iconst 1, 1) := by decide +kernel
theorem dX0_likeAt_19 : decode cX0_likeAt 19 = .ok (.iand, 1) := by decide +kernel
theorem dX0_likeAt_20 : decode cX0_likeAt 20 = .ok (.ifCond .eq 34, 3) := by decide +kernel
theorem dX0_likeAt_23 : decode cX0_likeAt 23 = .ok (.lload_n 2, 1) := by decide +kernel
theorem dX0_likeAt_24 : decode cX0_likeAt 24 = .ok (.iload_n 0, 1) := by decide +kernel
theorem dX0_likeAt_25 : decode cX0_likeAt 25 = .ok (.iload 4, 2) := by decide +kernel
theorem dX0_likeAt_27 : decode cX0_likeAt 27 = .ok (.ishr, 1) := by decide +kernel
theorem dX0_likeAt_28 : decode cX0_likeAt 28 = .ok (.iconst 1, 1) := by decide +kernel
theorem dX0_likeAt_29 : decode cX0_likeAt 29 = .ok (.iand, 1) := by decide +kernel
theorem dX0_likeAt_30 : decode cX0_likeAt 30 = .ok (.ifCond .eq 12, 3) := by decide +kernel
theorem dX0_likeAt_33 : decode cX0_likeAt 33 = .ok (.getstatic 15, 3) := by decide +kernel
theorem dX0_likeAt_36 : decode cX0_likeAt 36 = .ok (.iload 4, 2) := by decide +kernel
theorem dX0_likeAt_38 : decode cX0_likeAt 38 = .ok (.laload, 1) := by decide +kernel
theorem dX0_likeAt_39 : decode cX0_likeAt 39 = .ok (.goto 13, 3) := by decide +kernel
theorem dX0_likeAt_42 : decode cX0_likeAt 42 = .ok (.getstatic 15, 3) := by decide +kernel
theorem dX0_likeAt_45 : decode cX0_likeAt 45 = .ok (.iload 4, 2) := by decide +kernel
theorem dX0_likeAt_47 : decode cX0_likeAt 47 = .ok (.laload, 1) := by decide +kernel
theorem dX0_likeAt_48 : decode cX0_likeAt 48 = .ok (.ldc2_w 19, 3) := by decide +kernel
theorem dX0_likeAt_51 : decode cX0_likeAt 51 = .ok (.lxor, 1) := by decide +kernel
theorem dX0_likeAt_52 : decode cX0_likeAt 52 = .ok (.land, 1) := by decide +kernel
theorem dX0_likeAt_53 : decode cX0_likeAt 53 = .ok (.lstore_n 2, 1) := by decide +kernel
theorem dX0_likeAt_54 : decode cX0_likeAt 54 = .ok (.iinc 4 1, 3) := by decide +kernel
theorem dX0_likeAt_57 : decode cX0_likeAt 57 = .ok (.goto (-50), 3) := by decide +kernel
theorem dX0_likeAt_60 : decode cX0_likeAt 60 = .ok (.lload_n 2, 1) := by decide +kernel
theorem dX0_likeAt_61 : decode cX0_likeAt 61 = .ok (.lreturn, 1) := by decide +kernel
set_option maxRecDepth 20000 in
theorem ggX0_partners_X0_holds : GoodIn wsX0_partners wsX0_holds := goodIn_r _ [4] (by decide +kernel) (by decide +kernel)
set_option maxRecDepth 20000 in
theorem gX0_partners_X0_holds : GoodIn wsX0_partners (va_wsS RX0 35 yX0_holds wsX0_holds) := goodIn_app (goodIn_of _ (by decide +kernel)) ggX0_partners_X0_holds
theorem dX0_partners_0 : decode cX0_partners 0 = .ok (.iconst 0, 1) := by decide +kernel
theorem dX0_partners_1 : decode cX0_partners 1 = .ok (.istore 5, 2) := by decide +kernel
theorem dX0_partners_3 : decode cX0_partners 3 = .ok (.iconst 0, 1) := by decide +kernel
theorem dX0_partners_4 : decode cX0_partners 4 = .ok (.istore 6, 2) := by decide +kernel
theorem dX0_partners_6 : decode cX0_partners 6 = .ok (.iload 6, 2) := by decide +kernel
theorem dX0_partners_8 : decode cX0_partners 8 = .ok (.iload 4, 2) := by decide +kernel
theorem dX0_partners_10 : decode cX0_partners 10 = .ok (.if_icmp .ge 35, 3) := by decide +kernel
theorem dX0_partners_13 : decode cX0_partners 13 = .ok (.lload_n 0, 1) := by decide +kernel
theorem dX0_partners_14 : decode cX0_partners 14 = .ok (.iload_n 2, 1) := by decide +kernel
theorem dX0_partners_15 : decode cX0_partners 15 = .ok (.iconst 1, 1) := by decide +kernel
theorem dX0_partners_16 : decode cX0_partners 16 = .ok (.iload_n 3, 1) := by decide +kernel
theorem dX0_partners_17 : decode cX0_partners 17 = .ok (.ishl, 1) := by decide +kernel
theorem dX0_partners_18 : decode cX0_partners 18 = .ok (.iconst 1, 1) := by decide +kernel
theorem dX0_partners_19 : decode cX0_partners 19 = .ok (.iload 6, 2) := by decide +kernel
theorem dX0_partners_21 : decode cX0_partners 21 = .ok (.ishl, 1) := by decide +kernel
theorem dX0_partners_22 : decode cX0_partners 22 = .ok (.ior, 1) := by decide +kernel
theorem dX0_partners_23 : decode cX0_partners 23 = .ok (.ixor, 1) := by decide +kernel
theorem dX0_partners_24 : decode cX0_partners 24 = .ok (.invokestatic 35, 3) := by decide +kernel
theorem dX0_partners_27 : decode cX0_partners 27 = .ok (.ifCond .eq 12, 3) := by decide +kernel
theorem dX0_partners_30 : decode cX0_partners 30 = .ok (.iload 5, 2) := by decide +kernel
theorem dX0_partners_32 : decode cX0_partners 32 = .ok (.iconst 1, 1) := by decide +kernel
theorem dX0_partners_33 : decode cX0_partners 33 = .ok (.iload 6, 2) := by decide +kernel
theorem dX0_partners_35 : decode cX0_partners 35 = .ok (.ishl, 1) := by decide +kernel
theorem dX0_partners_36 : decode cX0_partners 36 = .ok (.ior, 1) := by decide +kernel
theorem dX0_partners_37 : decode cX0_partners 37 = .ok (.istore 5, 2) := by decide +kernel
theorem dX0_partners_39 : decode cX0_partners 39 = .ok (.iinc 6 1, 3) := by decide +kernel
theorem dX0_partners_42 : decode cX0_partners 42 = .ok (.goto (-36), 3) := by decide +kernel
theorem dX0_partners_45 : decode cX0_partners 45 = .ok (.iload 5, 2) := by decide +kernel
theorem dX0_partners_47 : decode cX0_partners 47 = .ok (.ireturn, 1) := by decide +kernel
set_option maxRecDepth 20000 in
theorem ggX0_unmet_X0_partners : GoodIn wsX0_unmet wsX0_partners := goodIn_r _ [4, 5, 6, 3, 7] (by decide +kernel) (by decide +kernel)
set_option maxRecDepth 20000 in
theorem gX0_unmet_X0_partners : GoodIn wsX0_unmet (va_wsS RX0 39 yX0_partners wsX0_partners) := goodIn_app (goodIn_of _ (by decide +kernel)) ggX0_unmet_X0_partners
set_option maxRecDepth 20000 in
theorem ggX0_unmet_X0_likeAt : GoodIn wsX0_unmet wsX0_likeAt := goodIn_r _ [10, 11] (by decide +kernel) (by decide +kernel)
set_option maxRecDepth 20000 in
theorem gX0_unmet_X0_likeAt : GoodIn wsX0_unmet (va_wsS RX0 43 yX0_likeAt wsX0_likeAt) := goodIn_app (goodIn_of _ (by decide +kernel)) ggX0_unmet_X0_likeAt
theorem dX0_unmet_0 : decode cX0_unmet 0 = .ok (.lload_n 0, 1) := by decide +kernel
theorem dX0_unmet_1 : decode cX0_unmet 1 = .ok (.iload_n 2, 1) := by decide +kernel
theorem dX0_unmet_2 : decode cX0_unmet 2 = .ok (.iload_n 3, 1) := by decide +kernel
theorem dX0_unmet_3 : decode cX0_unmet 3 = .ok (.iload 4, 2) := by decide +kernel
theorem dX0_unmet_5 : decode cX0_unmet 5 = .ok (.invokestatic 39, 3) := by decide +kernel
theorem dX0_unmet_8 : decode cX0_unmet 8 = .ok (.istore 5, 2) := by decide +kernel
theorem dX0_unmet_10 : decode cX0_unmet 10 = .ok (.iload 5, 2) := by decide +kernel
theorem dX0_unmet_12 : decode cX0_unmet 12 = .ok (.iload_n 3, 1) := by decide +kernel
theorem dX0_unmet_13 : decode cX0_unmet 13 = .ok (.ishr, 1) := by decide +kernel
theorem dX0_unmet_14 : decode cX0_unmet 14 = .ok (.iconst 1, 1) := by decide +kernel
theorem dX0_unmet_15 : decode cX0_unmet 15 = .ok (.iand, 1) := by decide +kernel
theorem dX0_unmet_16 : decode cX0_unmet 16 = .ok (.ifCond .eq 5, 3) := by decide +kernel
theorem dX0_unmet_19 : decode cX0_unmet 19 = .ok (.lconst 0, 1) := by decide +kernel
theorem dX0_unmet_20 : decode cX0_unmet 20 = .ok (.lreturn, 1) := by decide +kernel
theorem dX0_unmet_21 : decode cX0_unmet 21 = .ok (.lload_n 0, 1) := by decide +kernel
theorem dX0_unmet_22 : decode cX0_unmet 22 = .ok (.iload_n 2, 1) := by decide +kernel
theorem dX0_unmet_23 : decode cX0_unmet 23 = .ok (.iconst 1, 1) := by decide +kernel
theorem dX0_unmet_24 : decode cX0_unmet 24 = .ok (.iload_n 3, 1) := by decide +kernel
theorem dX0_unmet_25 : decode cX0_unmet 25 = .ok (.ishl, 1) := by decide +kernel
theorem dX0_unmet_26 : decode cX0_unmet 26 = .ok (.ixor, 1) := by decide +kernel
theorem dX0_unmet_27 : decode cX0_unmet 27 = .ok (.iload 5, 2) := by decide +kernel
theorem dX0_unmet_29 : decode cX0_unmet 29 = .ok (.iconst 1, 1) := by decide +kernel
theorem dX0_unmet_30 : decode cX0_unmet 30 = .ok (.iload_n 3, 1) := by decide +kernel
theorem dX0_unmet_31 : decode cX0_unmet 31 = .ok (.ishl, 1) := by decide +kernel
theorem dX0_unmet_32 : decode cX0_unmet 32 = .ok (.ior, 1) := by decide +kernel
theorem dX0_unmet_33 : decode cX0_unmet 33 = .ok (.invokestatic 43, 3) := by decide +kernel
theorem dX0_unmet_36 : decode cX0_unmet 36 = .ok (.land, 1) := by decide +kernel
theorem dX0_unmet_37 : decode cX0_unmet 37 = .ok (.lreturn, 1) := by decide +kernel
set_option maxRecDepth 20000 in
theorem ggX0_unmetByAny_X0_unmet : GoodIn wsX0_unmetByAny wsX0_unmet := goodIn_r _ [4, 5, 6, 3, 7, 8, 9, 10, 11, 12, 13, 14] (by decide +kernel) (by decide +kernel)
set_option maxRecDepth 20000 in
theorem gX0_unmetByAny_X0_unmet : GoodIn wsX0_unmetByAny (va_wsS RX0 47 yX0_unmet wsX0_unmet) := goodIn_app (goodIn_of _ (by decide +kernel)) ggX0_unmetByAny_X0_unmet
theorem dX0_unmetByAny_0 : decode cX0_unmetByAny 0 = .ok (.lconst 0, 1) := by decide +kernel
theorem dX0_unmetByAny_1 : decode cX0_unmetByAny 1 = .ok (.lstore 4, 2) := by decide +kernel
theorem dX0_unmetByAny_3 : decode cX0_unmetByAny 3 = .ok (.iconst 0, 1) := by decide +kernel
theorem dX0_unmetByAny_4 : decode cX0_unmetByAny 4 = .ok (.istore 6, 2) := by decide +kernel
theorem dX0_unmetByAny_6 : decode cX0_unmetByAny 6 = .ok (.iload 6, 2) := by decide +kernel
theorem dX0_unmetByAny_8 : decode cX0_unmetByAny 8 = .ok (.iload_n 3, 1) := by decide +kernel
theorem dX0_unmetByAny_9 : decode cX0_unmetByAny 9 = .ok (.if_icmp .ge 22, 3) := by decide +kernel
theorem dX0_unmetByAny_12 : decode cX0_unmetByAny 12 = .ok (.lload 4, 2) := by decide +kernel
theorem dX0_unmetByAny_14 : decode cX0_unmetByAny 14 = .ok (.lload_n 0, 1) := by decide +kernel
theorem dX0_unmetByAny_15 : decode cX0_unmetByAny 15 = .ok (.iload_n 2, 1) := by decide +kernel
theorem dX0_unmetByAny_16 : decode cX0_unmetByAny 16 = .ok (.iload 6, 2) := by decide +kernel
theorem dX0_unmetByAny_18 : decode cX0_unmetByAny 18 = .ok (.iload_n 3, 1) := by decide +kernel
theorem dX0_unmetByAny_19 : decode cX0_unmetByAny 19 = .ok (.invokestatic 47, 3) := by decide +kernel
theorem dX0_unmetByAny_22 : decode cX0_unmetByAny 22 = .ok (.lor, 1) := by decide +kernel
theorem dX0_unmetByAny_23 : decode cX0_unmetByAny 23 = .ok (.lstore 4, 2) := by decide +kernel
theorem dX0_unmetByAny_25 : decode cX0_unmetByAny 25 = .ok (.iinc 6 1, 3) := by decide +kernel
theorem dX0_unmetByAny_28 : decode cX0_unmetByAny 28 = .ok (.goto (-22), 3) := by decide +kernel
theorem dX0_unmetByAny_31 : decode cX0_unmetByAny 31 = .ok (.lload 4, 2) := by decide +kernel
theorem dX0_unmetByAny_33 : decode cX0_unmetByAny 33 = .ok (.lreturn, 1) := by decide +kernel
set_option maxRecDepth 20000 in
theorem ggX0_firstStuck_X0_holds : GoodIn wsX0_firstStuck wsX0_holds := goodIn_r _ [4] (by decide +kernel) (by decide +kernel)
set_option maxRecDepth 20000 in
theorem gX0_firstStuck_X0_holds : GoodIn wsX0_firstStuck (va_wsS RX0 35 yX0_holds wsX0_holds) := goodIn_app (goodIn_of _ (by decide +kernel)) ggX0_firstStuck_X0_holds
set_option maxRecDepth 20000 in
theorem ggX0_firstStuck_X0_unmetByAny : GoodIn wsX0_firstStuck wsX0_unmetByAny := goodIn_r _ [7, 8, 9, 3, 10, 11, 12, 13, 1, 2, 4, 14, 15, 16, 17] (by decide +kernel) (by decide +kernel)
set_option maxRecDepth 20000 in
theorem gX0_firstStuck_X0_unmetByAny : GoodIn wsX0_firstStuck (va_wsS RX0 51 yX0_unmetByAny wsX0_unmetByAny) := goodIn_app (goodIn_of _ (by decide +kernel)) ggX0_firstStuck_X0_unmetByAny
theorem dX0_firstStuck_0 : decode cX0_firstStuck 0 = .ok (.iconst 0, 1) := by decide +kernel
theorem dX0_firstStuck_1 : decode cX0_firstStuck 1 = .ok (.istore_n 3, 1) := by decide +kernel
theorem dX0_firstStuck_2 : decode cX0_firstStuck 2 = .ok (.iload_n 3, 1) := by decide +kernel
theorem dX0_firstStuck_3 : decode cX0_firstStuck 3 = .ok (.iconst 1, 1) := by decide +kernel
theorem dX0_firstStuck_4 : decode cX0_firstStuck 4 = .ok (.iload_n 2, 1) := by decide +kernel
theorem dX0_firstStuck_5 : decode cX0_firstStuck 5 = .ok (.ishl, 1) := by decide +kernel
theorem dX0_firstStuck_6 : decode cX0_firstStuck 6 = .ok (.if_icmp .ge 30, 3) := by decide +kernel
theorem dX0_firstStuck_9 : decode cX0_firstStuck 9 = .ok (.lload_n 0, 1) := by decide +kernel
theorem dX0_firstStuck_10 : decode cX0_firstStuck 10 = .ok (.iload_n 3, 1) := by decide +kernel
theorem dX0_firstStuck_11 : decode cX0_firstStuck 11 = .ok (.invokestatic 35, 3) := by decide +kernel
theorem dX0_firstStuck_14 : decode cX0_firstStuck 14 = .ok (.ifCond .eq 16, 3) := by decide +kernel
theorem dX0_firstStuck_17 : decode cX0_firstStuck 17 = .ok (.lload_n 0, 1) := by decide +kernel
theorem dX0_firstStuck_18 : decode cX0_firstStuck 18 = .ok (.iload_n 3, 1) := by decide +kernel
theorem dX0_firstStuck_19 : decode cX0_firstStuck 19 = .ok (.iload_n 2, 1) := by decide +kernel
theorem dX0_firstStuck_20 : decode cX0_firstStuck 20 = .ok (.invokestatic 51, 3) := by decide +kernel
theorem dX0_firstStuck_23 : decode cX0_firstStuck 23 = .ok (.lconst 0, 1) := by decide +kernel
theorem dX0_firstStuck_24 : decode cX0_firstStuck 24 = .ok (.lcmp, 1) := by decide +kernel
theorem dX0_firstStuck_25 : decode cX0_firstStuck 25 = .ok (.ifCond .eq 5, 3) := by decide +kernel
theorem dX0_firstStuck_28 : decode cX0_firstStuck 28 = .ok (.iload_n 3, 1) := by decide +kernel
theorem dX0_firstStuck_29 : decode cX0_firstStuck 29 = .ok (.ireturn, 1) := by decide +kernel
theorem dX0_firstStuck_30 : decode cX0_firstStuck 30 = .ok (.iinc 3 1, 3) := by decide +kernel
theorem dX0_firstStuck_33 : decode cX0_firstStuck 33 = .ok (.goto (-31), 3) := by decide +kernel
theorem dX0_firstStuck_36 : decode cX0_firstStuck 36 = .ok (.iconst (-1), 1) := by decide +kernel
theorem dX0_firstStuck_37 : decode cX0_firstStuck 37 = .ok (.ireturn, 1) := by decide +kernel
set_option maxRecDepth 20000 in
theorem ggX0_firstUnmet_X0_unmetByAny : GoodIn wsX0_firstUnmet wsX0_unmetByAny := goodIn_r _ [4, 5, 6, 3, 7, 8, 9, 10, 11, 12, 13, 14, 15, 16, 17] (by decide +kernel) (by decide +kernel)
set_option maxRecDepth 20000 in
theorem gX0_firstUnmet_X0_unmetByAny : GoodIn wsX0_firstUnmet (va_wsS RX0 51 yX0_unmetByAny wsX0_unmetByAny) := goodIn_app (goodIn_of _ (by decide +kernel)) ggX0_firstUnmet_X0_unmetByAny
set_option maxRecDepth 20000 in
theorem ggX0_firstUnmet_X0_first : GoodIn wsX0_firstUnmet wsX0_first := goodIn_r _ [20, 21, 22, 23, 24, 25, 26, 27] (by decide +kernel) (by decide +kernel)
set_option maxRecDepth 20000 in
theorem gX0_firstUnmet_X0_first : GoodIn wsX0_firstUnmet (va_wsS RX0 32 yX0_first wsX0_first) := goodIn_app (goodIn_of _ (by decide +kernel)) ggX0_firstUnmet_X0_first
theorem dX0_firstUnmet_0 : decode cX0_firstUnmet 0 = .ok (.lload_n 0, 1) := by decide +kernel
theorem dX0_firstUnmet_1 : decode cX0_firstUnmet 1 = .ok (.iload_n 2, 1) := by decide +kernel
theorem dX0_firstUnmet_2 : decode cX0_firstUnmet 2 = .ok (.iload_n 3, 1) := by decide +kernel
theorem dX0_firstUnmet_3 : decode cX0_firstUnmet 3 = .ok (.invokestatic 51, 3) := by decide +kernel
theorem dX0_firstUnmet_6 : decode cX0_firstUnmet 6 = .ok (.invokestatic 32, 3) := by decide +kernel
theorem dX0_firstUnmet_9 : decode cX0_firstUnmet 9 = .ok (.ireturn, 1) := by decide +kernel
set_option maxRecDepth 20000 in
theorem ggX0_firstLonePoint_X0_unmet : GoodIn wsX0_firstLonePoint wsX0_unmet := goodIn_r _ [4, 5, 6, 3, 7, 8, 9, 10, 11, 12, 13, 14] (by decide +kernel) (by decide +kernel)
set_option maxRecDepth 20000 in
theorem gX0_firstLonePoint_X0_unmet : GoodIn wsX0_firstLonePoint (va_wsS RX0 47 yX0_unmet wsX0_unmet) := goodIn_app (goodIn_of _ (by decide +kernel)) ggX0_firstLonePoint_X0_unmet
set_option maxRecDepth 20000 in
theorem ggX0_firstLonePoint_X0_holds : GoodIn wsX0_firstLonePoint wsX0_holds := goodIn_r _ [10] (by decide +kernel) (by decide +kernel)
set_option maxRecDepth 20000 in
theorem gX0_firstLonePoint_X0_holds : GoodIn wsX0_firstLonePoint (va_wsS RX0 35 yX0_holds wsX0_holds) := goodIn_app (goodIn_of _ (by decide +kernel)) ggX0_firstLonePoint_X0_holds
theorem dX0_firstLonePoint_0 : decode cX0_firstLonePoint 0 = .ok (.iconst 0, 1) := by decide +kernel
theorem dX0_firstLonePoint_1 : decode cX0_firstLonePoint 1 = .ok (.istore 5, 2) := by decide +kernel
theorem dX0_firstLonePoint_3 : decode cX0_firstLonePoint 3 = .ok (.iload 5, 2) := by decide +kernel
theorem dX0_firstLonePoint_5 : decode cX0_firstLonePoint 5 = .ok (.iload 4, 2) := by decide +kernel
theorem dX0_firstLonePoint_7 : decode cX0_firstLonePoint 7 = .ok (.if_icmp .ge 28, 3) := by decide +kernel
theorem dX0_firstLonePoint_10 : decode cX0_firstLonePoint 10 = .ok (.lload_n 0, 1) := by decide +kernel
theorem dX0_firstLonePoint_11 : decode cX0_firstLonePoint 11 = .ok (.iload_n 2, 1) := by decide +kernel
theorem dX0_firstLonePoint_12 : decode cX0_firstLonePoint 12 = .ok (.iload 5, 2) := by decide +kernel
theorem dX0_firstLonePoint_14 : decode cX0_firstLonePoint 14 = .ok (.iload 4, 2) := by decide +kernel
theorem dX0_firstLonePoint_16 : decode cX0_firstLonePoint 16 = .ok (.invokestatic 47, 3) := by decide +kernel
theorem dX0_firstLonePoint_19 : decode cX0_firstLonePoint 19 = .ok (.iload_n 3, 1) := by decide +kernel
theorem dX0_firstLonePoint_20 : decode cX0_firstLonePoint 20 = .ok (.invokestatic 35, 3) := by decide +kernel
theorem dX0_firstLonePoint_23 : decode cX0_firstLonePoint 23 = .ok (.ifCond .eq 6, 3) := by decide +kernel
theorem dX0_firstLonePoint_26 : decode cX0_firstLonePoint 26 = .ok (.iload 5, 2) := by decide +kernel
theorem dX0_firstLonePoint_28 : decode cX0_firstLonePoint 28 = .ok (.ireturn, 1) := by decide +kernel
theorem dX0_firstLonePoint_29 : decode cX0_firstLonePoint 29 = .ok (.iinc 5 1, 3) := by decide +kernel
theorem dX0_firstLonePoint_32 : decode cX0_firstLonePoint 32 = .ok (.goto (-29), 3) := by decide +kernel
theorem dX0_firstLonePoint_35 : decode cX0_firstLonePoint 35 = .ok (.iconst (-1), 1) := by decide +kernel
theorem dX0_firstLonePoint_36 : decode cX0_firstLonePoint 36 = .ok (.ireturn, 1) := by decide +kernel
set_option maxRecDepth 20000 in
theorem ggX0_isExchanging_X0_firstStuck : GoodIn wsX0_isExchanging wsX0_firstStuck := goodIn_r _ [4, 5, 6, 3, 7, 8, 9, 10, 11, 12, 13, 14, 15, 16, 17, 18, 19, 20] (by decide +kernel) (by decide +kernel)
set_option maxRecDepth 20000 in
theorem gX0_isExchanging_X0_firstStuck : GoodIn wsX0_isExchanging (va_wsS RX0 55 yX0_firstStuck wsX0_firstStuck) := goodIn_app (goodIn_of _ (by decide +kernel)) ggX0_isExchanging_X0_firstStuck
theorem dX0_isExchanging_0 : decode cX0_isExchanging 0 = .ok (.lload_n 0, 1) := by decide +kernel
theorem dX0_isExchanging_1 : decode cX0_isExchanging 1 = .ok (.lconst 0, 1) := by decide +kernel
theorem dX0_isExchanging_2 : decode cX0_isExchanging 2 = .ok (.lcmp, 1) := by decide +kernel
theorem dX0_isExchanging_3 : decode cX0_isExchanging 3 = .ok (.ifCond .eq 16, 3) := by decide +kernel
theorem dX0_isExchanging_6 : decode cX0_isExchanging 6 = .ok (.lload_n 0, 1) := by decide +kernel
theorem dX0_isExchanging_7 : decode cX0_isExchanging 7 = .ok (.iload_n 2, 1) := by decide +kernel
theorem dX0_isExchanging_8 : decode cX0_isExchanging 8 = .ok (.invokestatic 55, 3) := by decide +kernel
theorem dX0_isExchanging_11 : decode cX0_isExchanging 11 = .ok (.iconst (-1), 1) := by decide +kernel
theorem dX0_isExchanging_12 : decode cX0_isExchanging 12 = .ok (.if_icmp .ne 7, 3) := by decide +kernel
theorem dX0_isExchanging_15 : decode cX0_isExchanging 15 = .ok (.iconst 1, 1) := by decide +kernel
theorem dX0_isExchanging_16 : decode cX0_isExchanging 16 = .ok (.goto 4, 3) := by decide +kernel
theorem dX0_isExchanging_19 : decode cX0_isExchanging 19 = .ok (.iconst 0, 1) := by decide +kernel
theorem dX0_isExchanging_20 : decode cX0_isExchanging 20 = .ok (.ireturn, 1) := by decide +kernel
set_option maxRecDepth 20000 in
theorem ggX0_exchangesBetween_X0_holds : GoodIn wsX0_exchangesBetween wsX0_holds := goodIn_r _ [4] (by decide +kernel) (by decide +kernel)
set_option maxRecDepth 20000 in
theorem gX0_exchangesBetween_X0_holds : GoodIn wsX0_exchangesBetween (va_wsS RX0 35 yX0_holds wsX0_holds) := goodIn_app (goodIn_of _ (by decide +kernel)) ggX0_exchangesBetween_X0_holds
set_option maxRecDepth 20000 in
theorem ggX0_exchangesBetween_X0_changedByTwo : GoodIn wsX0_exchangesBetween wsX0_changedByTwo := goodIn_r _ [7, 8, 9, 3, 10, 11, 12, 13, 14] (by decide +kernel) (by decide +kernel)
set_option maxRecDepth 20000 in
theorem gX0_exchangesBetween_X0_changedByTwo : GoodIn wsX0_exchangesBetween (va_wsS RX0 59 yX0_changedByTwo wsX0_changedByTwo) := goodIn_app (goodIn_of _ (by decide +kernel)) ggX0_exchangesBetween_X0_changedByTwo
theorem dX0_exchangesBetween_0 : decode cX0_exchangesBetween 0 = .ok (.lconst 1, 1) := by decide +kernel
theorem dX0_exchangesBetween_1 : decode cX0_exchangesBetween 1 = .ok (.iload_n 2, 1) := by decide +kernel
theorem dX0_exchangesBetween_2 : decode cX0_exchangesBetween 2 = .ok (.lshl, 1) := by decide +kernel
theorem dX0_exchangesBetween_3 : decode cX0_exchangesBetween 3 = .ok (.lstore 5, 2) := by decide +kernel
theorem dX0_exchangesBetween_5 : decode cX0_exchangesBetween 5 = .ok (.iconst 0, 1) := by decide +kernel
theorem dX0_exchangesBetween_6 : decode cX0_exchangesBetween 6 = .ok (.istore 7, 2) := by decide +kernel
theorem dX0_exchangesBetween_8 : decode cX0_exchangesBetween 8 = .ok (.iload 7, 2) := by decide +kernel
theorem dX0_exchangesBetween_10 : decode cX0_exchangesBetween 10 = .ok (.bipush 64, 2) := by decide +kernel
theorem dX0_exchangesBetween_12 : decode cX0_exchangesBetween 12 = .ok (.if_icmp .ge 35, 3) := by decide +kernel
theorem dX0_exchangesBetween_15 : decode cX0_exchangesBetween 15 = .ok (.lload 5, 2) := by decide +kernel
theorem dX0_exchangesBetween_17 : decode cX0_exchangesBetween 17 = .ok (.iload_n 3, 1) := by decide +kernel
theorem dX0_exchangesBetween_18 : decode cX0_exchangesBetween 18 = .ok (.invokestatic 35, 3) := by decide +kernel
theorem dX0_exchangesBetween_21 : decode cX0_exchangesBetween 21 = .ok (.ifCond .eq 6, 3) := by decide +kernel
theorem dX0_exchangesBetween_24 : decode cX0_exchangesBetween 24 = .ok (.iload 7, 2) := by decide +kernel
theorem dX0_exchangesBetween_26 : decode cX0_exchangesBetween 26 = .ok (.ireturn, 1) := by decide +kernel
theorem dX0_exchangesBetween_27 : decode cX0_exchangesBetween 27 = .ok (.lload 5, 2) := by decide +kernel
theorem dX0_exchangesBetween_29 : decode cX0_exchangesBetween 29 = .ok (.lload_n 0, 1) := by decide +kernel
theorem dX0_exchangesBetween_30 : decode cX0_exchangesBetween 30 = .ok (.lload 5, 2) := by decide +kernel
theorem dX0_exchangesBetween_32 : decode cX0_exchangesBetween 32 = .ok (.iload 4, 2) := by decide +kernel
theorem dX0_exchangesBetween_34 : decode cX0_exchangesBetween 34 = .ok (.invokestatic 59, 3) := by decide +kernel
theorem dX0_exchangesBetween_37 : decode cX0_exchangesBetween 37 = .ok (.land, 1) := by decide +kernel
theorem dX0_exchangesBetween_38 : decode cX0_exchangesBetween 38 = .ok (.lor, 1) := by decide +kernel
theorem dX0_exchangesBetween_39 : decode cX0_exchangesBetween 39 = .ok (.lstore 5, 2) := by decide +kernel
theorem dX0_exchangesBetween_41 : decode cX0_exchangesBetween 41 = .ok (.iinc 7 1, 3) := by decide +kernel
theorem dX0_exchangesBetween_44 : decode cX0_exchangesBetween 44 = .ok (.goto (-36), 3) := by decide +kernel
theorem dX0_exchangesBetween_47 : decode cX0_exchangesBetween 47 = .ok (.iconst (-1), 1) := by decide +kernel
theorem dX0_exchangesBetween_48 : decode cX0_exchangesBetween 48 = .ok (.ireturn, 1) := by decide +kernel
set_option maxRecDepth 20000 in
theorem ggX0_changedByTwo_X0_changedByOne : GoodIn wsX0_changedByTwo wsX0_changedByOne := goodIn_r _ [4, 5, 6, 3, 7, 8] (by decide +kernel) (by decide +kernel)
set_option maxRecDepth 20000 in
theorem gX0_changedByTwo_X0_changedByOne : GoodIn wsX0_changedByTwo (va_wsS RX0 62 yX0_changedByOne wsX0_changedByOne) := goodIn_app (goodIn_of _ (by decide +kernel)) ggX0_changedByTwo_X0_changedByOne
theorem dX0_changedByTwo_0 : decode cX0_changedByTwo 0 = .ok (.lload_n 0, 1) := by decide +kernel
theorem dX0_changedByTwo_1 : decode cX0_changedByTwo 1 = .ok (.iload_n 2, 1) := by decide +kernel
theorem dX0_changedByTwo_2 : decode cX0_changedByTwo 2 = .ok (.invokestatic 62, 3) := by decide +kernel
theorem dX0_changedByTwo_5 : decode cX0_changedByTwo 5 = .ok (.lstore_n 3, 1) := by decide +kernel
theorem dX0_changedByTwo_6 : decode cX0_changedByTwo 6 = .ok (.lload_n 3, 1) := by decide +kernel
theorem dX0_changedByTwo_7 : decode cX0_changedByTwo 7 = .ok (.iload_n 2, 1) := by decide +kernel
theorem dX0_changedByTwo_8 : decode cX0_changedByTwo 8 = .ok (.invokestatic 62, 3) := by decide +kernel
theorem dX0_changedByTwo_11 : decode cX0_changedByTwo 11 = .ok (.lreturn, 1) := by decide +kernel
set_option maxRecDepth 20000 in
theorem ggX0_changedByOne_X0_twistedByOne : GoodIn wsX0_changedByOne wsX0_twistedByOne := goodIn_r _ [4, 5] (by decide +kernel) (by decide +kernel)
set_option maxRecDepth 20000 in
theorem gX0_changedByOne_X0_twistedByOne : GoodIn wsX0_changedByOne (va_wsS RX0 21 yX0_twistedByOne wsX0_twistedByOne) := goodIn_app (goodIn_of _ (by decide +kernel)) ggX0_changedByOne_X0_twistedByOne
theorem dX0_changedByOne_0 : decode cX0_changedByOne 0 = .ok (.lload_n 0, 1) := by decide +kernel
theorem dX0_changedByOne_1 : decode cX0_changedByOne 1 = .ok (.lstore_n 3, 1) := by decide +kernel
theorem dX0_changedByOne_2 : decode cX0_changedByOne 2 = .ok (.iconst 0, 1) := by decide +kernel
theorem dX0_changedByOne_3 : decode cX0_changedByOne 3 = .ok (.istore 5, 2) := by decide +kernel
theorem dX0_changedByOne_5 : decode cX0_changedByOne 5 = .ok (.iload 5, 2) := by decide +kernel
theorem dX0_changedByOne_7 : decode cX0_changedByOne 7 = .ok (.iload_n 2, 1) := by decide +kernel
theorem dX0_changedByOne_8 : decode cX0_changedByOne 8 = .ok (.if_icmp .ge 18, 3) := by decide +kernel
theorem dX0_changedByOne_11 : decode cX0_changedByOne 11 = .ok (.lload_n 3, 1) := by decide +kernel
theorem dX0_changedByOne_12 : decode cX0_changedByOne 12 = .ok (.lload_n 0, 1) := by decide +kernel
theorem dX0_changedByOne_13 : decode cX0_changedByOne 13 = .ok (.iload 5, 2) := by decide +kernel
theorem dX0_changedByOne_15 : decode cX0_changedByOne 15 = .ok (.invokestatic 21, 3) := by decide +kernel
theorem dX0_changedByOne_18 : decode cX0_changedByOne 18 = .ok (.lor, 1) := by decide +kernel
theorem dX0_changedByOne_19 : decode cX0_changedByOne 19 = .ok (.lstore_n 3, 1) := by decide +kernel
theorem dX0_changedByOne_20 : decode cX0_changedByOne 20 = .ok (.iinc 5 1, 3) := by decide +kernel
theorem dX0_changedByOne_23 : decode cX0_changedByOne 23 = .ok (.goto (-18), 3) := by decide +kernel
theorem dX0_changedByOne_26 : decode cX0_changedByOne 26 = .ok (.lload_n 3, 1) := by decide +kernel
theorem dX0_changedByOne_27 : decode cX0_changedByOne 27 = .ok (.lreturn, 1) := by decide +kernel
set_option maxRecDepth 20000 in
theorem ggX0_leastTwist_X0_twisted : GoodIn wsX0_leastTwist wsX0_twisted := goodIn_r _ [4, 5, 6, 3, 7, 8] (by decide +kernel) (by decide +kernel)
set_option maxRecDepth 20000 in
theorem gX0_leastTwist_X0_twisted : GoodIn wsX0_leastTwist (va_wsS RX0 65 yX0_twisted wsX0_twisted) := goodIn_app (goodIn_of _ (by decide +kernel)) ggX0_leastTwist_X0_twisted
theorem dX0_leastTwist_0 : decode cX0_leastTwist 0 = .ok (.iconst 0, 1) := by decide +kernel
theorem dX0_leastTwist_1 : decode cX0_leastTwist 1 = .ok (.istore 5, 2) := by decide +kernel
theorem dX0_leastTwist_3 : decode cX0_leastTwist 3 = .ok (.iload 5, 2) := by decide +kernel
theorem dX0_leastTwist_5 : decode cX0_leastTwist 5 = .ok (.iconst 1, 1) := by decide +kernel
theorem dX0_leastTwist_6 : decode cX0_leastTwist 6 = .ok (.iload 4, 2) := by decide +kernel
theorem dX0_leastTwist_8 : decode cX0_leastTwist 8 = .ok (.ishl, 1) := by decide +kernel
theorem dX0_leastTwist_9 : decode cX0_leastTwist 9 = .ok (.if_icmp .ge 23, 3) := by decide +kernel
theorem dX0_leastTwist_12 : decode cX0_leastTwist 12 = .ok (.lload_n 0, 1) := by decide +kernel
theorem dX0_leastTwist_13 : decode cX0_leastTwist 13 = .ok (.iload 5, 2) := by decide +kernel
theorem dX0_leastTwist_15 : decode cX0_leastTwist 15 = .ok (.invokestatic 65, 3) := by decide +kernel
theorem dX0_leastTwist_18 : decode cX0_leastTwist 18 = .ok (.lload_n 2, 1) := by decide +kernel
theorem dX0_leastTwist_19 : decode cX0_leastTwist 19 = .ok (.lcmp, 1) := by decide +kernel
theorem dX0_leastTwist_20 : decode cX0_leastTwist 20 = .ok (.ifCond .ne 6, 3) := by decide +kernel
theorem dX0_leastTwist_23 : decode cX0_leastTwist 23 = .ok (.iload 5, 2) := by decide +kernel
theorem dX0_leastTwist_25 : decode cX0_leastTwist 25 = .ok (.ireturn, 1) := by decide +kernel
theorem dX0_leastTwist_26 : decode cX0_leastTwist 26 = .ok (.iinc 5 1, 3) := by decide +kernel
theorem dX0_leastTwist_29 : decode cX0_leastTwist 29 = .ok (.goto (-26), 3) := by decide +kernel
theorem dX0_leastTwist_32 : decode cX0_leastTwist 32 = .ok (.iconst (-1), 1) := by decide +kernel
theorem dX0_leastTwist_33 : decode cX0_leastTwist 33 = .ok (.ireturn, 1) := by decide +kernel
set_option maxRecDepth 20000 in
theorem ggX0_areAlike_X0_swapped : GoodIn wsX0_areAlike wsX0_swapped := goodIn_r _ [4, 5] (by decide +kernel) (by decide +kernel)
set_option maxRecDepth 20000 in
theorem gX0_areAlike_X0_swapped : GoodIn wsX0_areAlike (va_wsS RX0 68 yX0_swapped wsX0_swapped) := goodIn_app (goodIn_of _ (by decide +kernel)) ggX0_areAlike_X0_swapped
set_option maxRecDepth 20000 in
theorem ggX0_areAlike_X0_areAlike : GoodIn wsX0_areAlike wsX0_areAlike := goodIn_r _ [0, 1, 2, 3, 4, 5, 6, 7] (by decide +kernel) (by decide +kernel)
set_option maxRecDepth 20000 in
theorem gX0_areAlike_X0_areAlike : GoodIn wsX0_areAlike (va_wsS RX0 71 yX0_areAlike wsX0_areAlike) := goodIn_app (goodIn_of _ (by decide +kernel)) ggX0_areAlike_X0_areAlike
theorem dX0_areAlike_0 : decode cX0_areAlike 0 = .ok (.lload_n 0, 1) := by decide +kernel
theorem dX0_areAlike_1 : decode cX0_areAlike 1 = .ok (.lload_n 2, 1) := by decide +kernel
theorem dX0_areAlike_2 : decode cX0_areAlike 2 = .ok (.lcmp, 1) := by decide +kernel
theorem dX0_areAlike_3 : decode cX0_areAlike 3 = .ok (.ifCond .ne 5, 3) := by decide +kernel
theorem dX0_areAlike_6 : decode cX0_areAlike 6 = .ok (.iconst 1, 1) := by decide +kernel
theorem dX0_areAlike_7 : decode cX0_areAlike 7 = .ok (.ireturn, 1) := by decide +kernel
theorem dX0_areAlike_8 : decode cX0_areAlike 8 = .ok (.iload 4, 2) := by decide +kernel
theorem dX0_areAlike_10 : decode cX0_areAlike 10 = .ok (.iload 5, 2) := by decide +kernel
theorem dX0_areAlike_12 : decode cX0_areAlike 12 = .ok (.if_icmp .lt 5, 3) := by decide +kernel
theorem dX0_areAlike_15 : decode cX0_areAlike 15 = .ok (.iconst 0, 1) := by decide +kernel
theorem dX0_areAlike_16 : decode cX0_areAlike 16 = .ok (.ireturn, 1) := by decide +kernel
theorem dX0_areAlike_17 : decode cX0_areAlike 17 = .ok (.iload 4, 2) := by decide +kernel
theorem dX0_areAlike_19 : decode cX0_areAlike 19 = .ok (.istore 6, 2) := by decide +kernel
theorem dX0_areAlike_21 : decode cX0_areAlike 21 = .ok (.iload 6, 2) := by decide +kernel
theorem dX0_areAlike_23 : decode cX0_areAlike 23 = .ok (.iload 5, 2) := by decide +kernel
theorem dX0_areAlike_25 : decode cX0_areAlike 25 = .ok (.if_icmp .ge 32, 3) := by decide +kernel
theorem dX0_areAlike_28 : decode cX0_areAlike 28 = .ok (.lload_n 0, 1) := by decide +kernel
theorem dX0_areAlike_29 : decode cX0_areAlike 29 = .ok (.iload 4, 2) := by decide +kernel
theorem dX0_areAlike_31 : decode cX0_areAlike 31 = .ok (.iload 6, 2) := by decide +kernel
theorem dX0_areAlike_33 : decode cX0_areAlike 33 = .ok (.invokestatic 68, 3) := by decide +kernel
theorem dX0_areAlike_36 : decode cX0_areAlike 36 = .ok (.lload_n 2, 1) := by decide +kernel
theorem dX0_areAlike_37 : decode cX0_areAlike 37 = .ok (.iload 4, 2) := by decide +kernel
theorem dX0_areAlike_39 : decode cX0_areAlike 39 = .ok (.iconst 1, 1) := by decide +kernel
theorem dX0_areAlike_40 : decode cX0_areAlike 40 = .ok (.iadd, 1) := by decide +kernel
theorem dX0_areAlike_41 : decode cX0_areAlike 41 = .ok (.iload 5, 2) := by decide +kernel
theorem dX0_areAlike_43 : decode cX0_areAlike 43 = .ok (.invokestatic 71, 3) := by decide +kernel
theorem dX0_areAlike_46 : decode cX0_areAlike 46 = .ok (.ifCond .eq 5, 3) := by decide +kernel
theorem dX0_areAlike_49 : decode cX0_areAlike 49 = .ok (.iconst 1, 1) := by decide +kernel
theorem dX0_areAlike_50 : decode cX0_areAlike 50 = .ok (.ireturn, 1) := by decide +kernel
theorem dX0_areAlike_51 : decode cX0_areAlike 51 = .ok (.iinc 6 1, 3) := by decide +kernel
theorem dX0_areAlike_54 : decode cX0_areAlike 54 = .ok (.goto (-33), 3) := by decide +kernel
theorem dX0_areAlike_57 : decode cX0_areAlike 57 = .ok (.iconst 0, 1) := by decide +kernel
theorem dX0_areAlike_58 : decode cX0_areAlike 58 = .ok (.ireturn, 1) := by decide +kernel
theorem dX0_swapped_0 : decode cX0_swapped 0 = .ok (.iload_n 2, 1) := by decide +kernel
theorem dX0_swapped_1 : decode cX0_swapped 1 = .ok (.iload_n 3, 1) := by decide +kernel
theorem dX0_swapped_2 : decode cX0_swapped 2 = .ok (.if_icmp .ne 5, 3) := by decide +kernel
theorem dX0_swapped_5 : decode cX0_swapped 5 = .ok (.lload_n 0, 1) := by decide +kernel
theorem dX0_swapped_6 : decode cX0_swapped 6 = .ok (.lreturn, 1) := by decide +kernel
theorem dX0_swapped_7 : decode cX0_swapped 7 = .ok (.getstatic 15, 3) := by decide +kernel
theorem dX0_swapped_10 : decode cX0_swapped 10 = .ok (.iload_n 2, 1) := by decide +kernel
theorem dX0_swapped_11 : decode cX0_swapped 11 = .ok (.laload, 1) := by decide +kernel
theorem dX0_swapped_12 : decode cX0_swapped 12 = .ok (.getstatic 15, 3) := by decide +kernel
theorem dX0_swapped_15 : decode cX0_swapped 15 = .ok (.iload_n 3, 1) := by decide +kernel
theorem dX0_swapped_16 : decode cX0_swapped 16 = .ok (.laload, 1) := by decide +kernel
theorem dX0_swapped_17 : decode cX0_swapped 17 = .ok (.ldc2_w 19, 3) := by decide +kernel
theorem dX0_swapped_20 : decode cX0_swapped 20 = .ok (.lxor, 1) := by decide +kernel
theorem dX0_swapped_21 : decode cX0_swapped 21 = .ok (.land, 1) := by decide +kernel
theorem dX0_swapped_22 : decode cX0_swapped 22 = .ok (.lstore 4, 2) := by decide +kernel
theorem dX0_swapped_24 : decode cX0_swapped 24 = .ok (.getstatic 15, 3) := by decide +kernel
theorem dX0_swapped_27 : decode cX0_swapped 27 = .ok (.iload_n 3, 1) := by decide +kernel
theorem dX0_swapped_28 : decode cX0_swapped 28 = .ok (.laload, 1) := by decide +kernel
theorem dX0_swapped_29 : decode cX0_swapped 29 = .ok (.getstatic 15, 3) := by decide +kernel
theorem dX0_swapped_32 : decode cX0_swapped 32 = .ok (.iload_n 2, 1) := by decide +kernel
theorem dX0_swapped_33 : decode cX0_swapped 33 = .ok (.laload, 1) := by decide +kernel
theorem dX0_swapped_34 : decode cX0_swapped 34 = .ok (.ldc2_w 19, 3) := by decide +kernel
theorem dX0_swapped_37 : decode cX0_swapped 37 = .ok (.lxor, 1) := by decide +kernel
theorem dX0_swapped_38 : decode cX0_swapped 38 = .ok (.land, 1) := by decide +kernel
theorem dX0_swapped_39 : decode cX0_swapped 39 = .ok (.lstore 6, 2) := by decide +kernel
theorem dX0_swapped_41 : decode cX0_swapped 41 = .ok (.iconst 1, 1) := by decide +kernel
theorem dX0_swapped_42 : decode cX0_swapped 42 = .ok (.iload_n 3, 1) := by decide +kernel
theorem dX0_swapped_43 : decode cX0_swapped 43 = .ok (.ishl, 1) := by decide +kernel
theorem dX0_swapped_44 : decode cX0_swapped 44 = .ok (.iconst 1, 1) := by decide +kernel
theorem dX0_swapped_45 : decode cX0_swapped 45 = .ok (.iload_n 2, 1) := by decide +kernel
theorem dX0_swapped_46 : decode cX0_swapped 46 = .ok (.ishl, 1) := by decide +kernel
theorem dX0_swapped_47 : decode cX0_swapped 47 = .ok (.isub, 1) := by decide +kernel
theorem dX0_swapped_48 : decode cX0_swapped 48 = .ok (.istore 8, 2) := by decide +kernel
theorem dX0_swapped_50 : decode cX0_swapped 50 = .ok (.lload_n 0, 1) := by decide +kernel
theorem dX0_swapped_51 : decode cX0_swapped 51 = .ok (.lload 4, 2) := by decide +kernel
theorem dX0_swapped_53 : decode cX0_swapped 53 = .ok (.lload 6, 2) := by decide +kernel
theorem dX0_swapped_55 : decode cX0_swapped 55 = .ok (.lor, 1) := by decide +kernel
theorem dX0_swapped_56 : decode cX0_swapped 56 = .ok (.ldc2_w 19, 3) := by decide +kernel
theorem dX0_swapped_59 : decode cX0_swapped 59 = .ok (.lxor, 1) := by decide +kernel
theorem dX0_swapped_60 : decode cX0_swapped 60 = .ok (.land, 1) := by decide +kernel
theorem dX0_swapped_61 : decode cX0_swapped 61 = .ok (.lstore 9, 2) := by decide +kernel
theorem dX0_swapped_63 : decode cX0_swapped 63 = .ok (.lload 9, 2) := by decide +kernel
theorem dX0_swapped_65 : decode cX0_swapped 65 = .ok (.lload_n 0, 1) := by decide +kernel
theorem dX0_swapped_66 : decode cX0_swapped 66 = .ok (.lload 4, 2) := by decide +kernel
theorem dX0_swapped_68 : decode cX0_swapped 68 = .ok (.land, 1) := by decide +kernel
theorem dX0_swapped_69 : decode cX0_swapped 69 = .ok (.iload 8, 2) := by decide +kernel
theorem dX0_swapped_71 : decode cX0_swapped 71 = .ok (.lshl, 1) := by decide +kernel
theorem dX0_swapped_72 : decode cX0_swapped 72 = .ok (.lor, 1) := by decide +kernel
theorem dX0_swapped_73 : decode cX0_swapped 73 = .ok (.lload_n 0, 1) := by decide +kernel
theorem dX0_swapped_74 : decode cX0_swapped 74 = .ok (.lload 6, 2) := by decide +kernel
theorem dX0_swapped_76 : decode cX0_swapped 76 = .ok (.land, 1) := by decide +kernel
theorem dX0_swapped_77 : decode cX0_swapped 77 = .ok (.iload 8, 2) := by decide +kernel
theorem dX0_swapped_79 : decode cX0_swapped 79 = .ok (.lushr, 1) := by decide +kernel
theorem dX0_swapped_80 : decode cX0_swapped 80 = .ok (.lor, 1) := by decide +kernel
theorem dX0_swapped_81 : decode cX0_swapped 81 = .ok (.lreturn, 1) := by decide +kernel
set_option maxRecDepth 20000 in
theorem ggX1_init_X4_init : GoodIn wsX1_init wsX4_init := goodIn_r _ [15, 16, 2, 3, 7, 17, 27] (by decide +kernel) (by decide +kernel)
set_option maxRecDepth 20000 in
theorem gX1_init_X4_init_n28 : GoodIn wsX1_init (wsX4_init) := ggX1_init_X4_init
set_option maxRecDepth 20000 in
theorem ggX1_init_J7_fill_53178 : GoodIn wsX1_init wsJ7_fill_53178 := goodIn_r _ [21] (by decide +kernel) (by decide +kernel)
set_option maxRecDepth 20000 in
theorem gX1_init_J7_fill_53178 : GoodIn wsX1_init (va_wsS RX1 33 yJ7_fill_53178 wsJ7_fill_53178) := goodIn_app (goodIn_of _ (by decide +kernel)) ggX1_init_J7_fill_53178
theorem dX1_init_0 : decode cX1_init 0 = .ok (.aload_n 0, 1) := by decide +kernel
theorem dX1_init_1 : decode cX1_init 1 = .ok (.invokespecial 3, 3) := by decide +kernel
theorem dX1_init_4 : decode cX1_init 4 = .ok (.aload_n 0, 1) := by decide +kernel
theorem dX1_init_5 : decode cX1_init 5 = .ok (.iconst 4, 1) := by decide +kernel
theorem dX1_init_6 : decode cX1_init 6 = .ok (.putfield 9, 3) := by decide +kernel
theorem dX1_init_9 : decode cX1_init 9 = .ok (.aload_n 0, 1) := by decide +kernel
theorem dX1_init_10 : decode cX1_init 10 = .ok (.bipush 6, 2) := by decide +kernel
theorem dX1_init_12 : decode cX1_init 12 = .ok (.newarray .long, 2) := by decide +kernel
theorem dX1_init_14 : decode cX1_init 14 = .ok (.putfield 15, 3) := by decide +kernel
theorem dX1_init_17 : decode cX1_init 17 = .ok (.aload_n 0, 1) := by decide +kernel
theorem dX1_init_18 : decode cX1_init 18 = .ok (.bipush 6, 2) := by decide +kernel
theorem dX1_init_20 : decode cX1_init 20 = .ok (.newarray .int, 2) := by decide +kernel
theorem dX1_init_22 : decode cX1_init 22 = .ok (.putfield 19, 3) := by decide +kernel
theorem dX1_init_25 : decode cX1_init 25 = .ok (.aload_n 0, 1) := by decide +kernel
theorem dX1_init_26 : decode cX1_init 26 = .ok (.bipush 6, 2) := by decide +kernel
theorem dX1_init_28 : decode cX1_init 28 = .ok (.newarray .int, 2) := by decide +kernel
theorem dX1_init_30 : decode cX1_init 30 = .ok (.putfield 23, 3) := by decide +kernel
theorem dX1_init_33 : decode cX1_init 33 = .ok (.aload_n 0, 1) := by decide +kernel
theorem dX1_init_34 : decode cX1_init 34 = .ok (.new 26, 3) := by decide +kernel
theorem dX1_init_37 : decode cX1_init 37 = .ok (.dup, 1) := by decide +kernel
theorem dX1_init_38 : decode cX1_init 38 = .ok (.invokespecial 28, 3) := by decide +kernel
theorem dX1_init_41 : decode cX1_init 41 = .ok (.putfield 29, 3) := by decide +kernel
theorem dX1_init_44 : decode cX1_init 44 = .ok (.aload_n 0, 1) := by decide +kernel
theorem dX1_init_45 : decode cX1_init 45 = .ok (.getfield 19, 3) := by decide +kernel
theorem dX1_init_48 : decode cX1_init 48 = .ok (.iconst (-1), 1) := by decide +kernel
theorem dX1_init_49 : decode cX1_init 49 = .ok (.invokestatic 33, 3) := by decide +kernel
theorem dX1_init_52 : decode cX1_init 52 = .ok (.return_, 1) := by decide +kernel
set_option maxRecDepth 20000 in
theorem ggX1_begin_J7_fill_d0a16 : GoodIn wsX1_begin wsJ7_fill_d0a16 := goodIn_r _ [9] (by decide +kernel) (by decide +kernel)
set_option maxRecDepth 20000 in
theorem gX1_begin_J7_fill_d0a16 : GoodIn wsX1_begin (va_wsS RX1 39 yJ7_fill_d0a16 wsJ7_fill_d0a16) := goodIn_app (goodIn_of _ (by decide +kernel)) ggX1_begin_J7_fill_d0a16
set_option maxRecDepth 20000 in
theorem ggX1_begin_J7_fill_53178 : GoodIn wsX1_begin wsJ7_fill_53178 := goodIn_r _ [12] (by decide +kernel) (by decide +kernel)
set_option maxRecDepth 20000 in
theorem gX1_begin_J7_fill_53178 : GoodIn wsX1_begin (va_wsS RX1 33 yJ7_fill_53178 wsJ7_fill_53178) := goodIn_app (goodIn_of _ (by decide +kernel)) ggX1_begin_J7_fill_53178
set_option maxRecDepth 20000 in
theorem ggX1_begin_X4_wipe : GoodIn wsX1_begin wsX4_wipe := goodIn_r _ [17, 18, 19, 11, 8, 12, 25] (by decide +kernel) (by decide +kernel)
set_option maxRecDepth 20000 in
theorem gX1_begin_X4_wipe : GoodIn wsX1_begin (wsV RX1 42 RX4 yX4_wipe wsX4_wipe) := goodIn_app (goodIn_of _ (by decide +kernel)) ggX1_begin_X4_wipe
theorem dX1_begin_0 : decode cX1_begin 0 = .ok (.aload_n 0, 1) := by decide +kernel
theorem dX1_begin_1 : decode cX1_begin 1 = .ok (.iload_n 1, 1) := by decide +kernel
theorem dX1_begin_2 : decode cX1_begin 2 = .ok (.putfield 9, 3) := by decide +kernel
theorem dX1_begin_5 : decode cX1_begin 5 = .ok (.aload_n 0, 1) := by decide +kernel
theorem dX1_begin_6 : decode cX1_begin 6 = .ok (.getfield 15, 3) := by decide +kernel
theorem dX1_begin_9 : decode cX1_begin 9 = .ok (.lconst 0, 1) := by decide +kernel
theorem dX1_begin_10 : decode cX1_begin 10 = .ok (.invokestatic 39, 3) := by decide +kernel
theorem dX1_begin_13 : decode cX1_begin 13 = .ok (.aload_n 0, 1) := by decide +kernel
theorem dX1_begin_14 : decode cX1_begin 14 = .ok (.getfield 19, 3) := by decide +kernel
theorem dX1_begin_17 : decode cX1_begin 17 = .ok (.iconst (-1), 1) := by decide +kernel
theorem dX1_begin_18 : decode cX1_begin 18 = .ok (.invokestatic 33, 3) := by decide +kernel
theorem dX1_begin_21 : decode cX1_begin 21 = .ok (.aload_n 0, 1) := by decide +kernel
theorem dX1_begin_22 : decode cX1_begin 22 = .ok (.getfield 23, 3) := by decide +kernel
theorem dX1_begin_25 : decode cX1_begin 25 = .ok (.iconst 0, 1) := by decide +kernel
theorem dX1_begin_26 : decode cX1_begin 26 = .ok (.invokestatic 33, 3) := by decide +kernel
theorem dX1_begin_29 : decode cX1_begin 29 = .ok (.aload_n 0, 1) := by decide +kernel
theorem dX1_begin_30 : decode cX1_begin 30 = .ok (.getfield 29, 3) := by decide +kernel
theorem dX1_begin_33 : decode cX1_begin 33 = .ok (.invokevirtual 42, 3) := by decide +kernel
theorem dX1_begin_36 : decode cX1_begin 36 = .ok (.return_, 1) := by decide +kernel
set_option maxRecDepth 20000 in
theorem ggX1_takeOver_X4_takeOver : GoodIn wsX1_takeOver wsX4_takeOver := goodIn_r _ [14, 15, 16, 4, 5, 6, 22] (by decide +kernel) (by decide +kernel)
set_option maxRecDepth 20000 in
theorem gX1_takeOver_X4_takeOver : GoodIn wsX1_takeOver (wsV RX1 51 RX4 yX4_takeOver wsX4_takeOver) := goodIn_app (goodIn_of _ (by decide +kernel)) ggX1_takeOver_X4_takeOver
theorem dX1_takeOver_0 : decode cX1_takeOver 0 = .ok (.aload_n 0, 1) := by decide +kernel
theorem dX1_takeOver_1 : decode cX1_takeOver 1 = .ok (.aload_n 1, 1) := by decide +kernel
theorem dX1_takeOver_2 : decode cX1_takeOver 2 = .ok (.getfield 9, 3) := by decide +kernel
theorem dX1_takeOver_5 : decode cX1_takeOver 5 = .ok (.putfield 9, 3) := by decide +kernel
theorem dX1_takeOver_8 : decode cX1_takeOver 8 = .ok (.aload_n 1, 1) := by decide +kernel
theorem dX1_takeOver_9 : decode cX1_takeOver 9 = .ok (.getfield 15, 3) := by decide +kernel
theorem dX1_takeOver_12 : decode cX1_takeOver 12 = .ok (.iconst 0, 1) := by decide +kernel
theorem dX1_takeOver_13 : decode cX1_takeOver 13 = .ok (.aload_n 0, 1) := by decide +kernel
theorem dX1_takeOver_14 : decode cX1_takeOver 14 = .ok (.getfield 15, 3) := by decide +kernel
theorem dX1_takeOver_17 : decode cX1_takeOver 17 = .ok (.iconst 0, 1) := by decide +kernel
theorem dX1_takeOver_18 : decode cX1_takeOver 18 = .ok (.bipush 6, 2) := by decide +kernel
theorem dX1_takeOver_20 : decode cX1_takeOver 20 = .ok (.invokestatic 45, 3) := by decide +kernel
theorem dX1_takeOver_23 : decode cX1_takeOver 23 = .ok (.aload_n 1, 1) := by decide +kernel
theorem dX1_takeOver_24 : decode cX1_takeOver 24 = .ok (.getfield 19, 3) := by decide +kernel
theorem dX1_takeOver_27 : decode cX1_takeOver 27 = .ok (.iconst 0, 1) := by decide +kernel
theorem dX1_takeOver_28 : decode cX1_takeOver 28 = .ok (.aload_n 0, 1) := by decide +kernel
theorem dX1_takeOver_29 : decode cX1_takeOver 29 = .ok (.getfield 19, 3) := by decide +kernel
theorem dX1_takeOver_32 : decode cX1_takeOver 32 = .ok (.iconst 0, 1) := by decide +kernel
theorem dX1_takeOver_33 : decode cX1_takeOver 33 = .ok (.bipush 6, 2) := by decide +kernel
theorem dX1_takeOver_35 : decode cX1_takeOver 35 = .ok (.invokestatic 45, 3) := by decide +kernel
theorem dX1_takeOver_38 : decode cX1_takeOver 38 = .ok (.aload_n 1, 1) := by decide +kernel
theorem dX1_takeOver_39 : decode cX1_takeOver 39 = .ok (.getfield 23, 3) := by decide +kernel
theorem dX1_takeOver_42 : decode cX1_takeOver 42 = .ok (.iconst 0, 1) := by decide +kernel
theorem dX1_takeOver_43 : decode cX1_takeOver 43 = .ok (.aload_n 0, 1) := by decide +kernel
theorem dX1_takeOver_44 : decode cX1_takeOver 44 = .ok (.getfield 23, 3) := by decide +kernel
theorem dX1_takeOver_47 : decode cX1_takeOver 47 = .ok (.iconst 0, 1) := by decide +kernel
theorem dX1_takeOver_48 : decode cX1_takeOver 48 = .ok (.bipush 6, 2) := by decide +kernel
theorem dX1_takeOver_50 : decode cX1_takeOver 50 = .ok (.invokestatic 45, 3) := by decide +kernel
theorem dX1_takeOver_53 : decode cX1_takeOver 53 = .ok (.aload_n 0, 1) := by decide +kernel
theorem dX1_takeOver_54 : decode cX1_takeOver 54 = .ok (.getfield 29, 3) := by decide +kernel
theorem dX1_takeOver_57 : decode cX1_takeOver 57 = .ok (.aload_n 1, 1) := by decide +kernel
theorem dX1_takeOver_58 : decode cX1_takeOver 58 = .ok (.getfield 29, 3) := by decide +kernel
theorem dX1_takeOver_61 : decode cX1_takeOver 61 = .ok (.invokevirtual 51, 3) := by decide +kernel
theorem dX1_takeOver_64 : decode cX1_takeOver 64 = .ok (.return_, 1) := by decide +kernel
theorem dX1_isMissing_0 : decode cX1_isMissing 0 = .ok (.aload_n 0, 1) := by decide +kernel
theorem dX1_isMissing_1 : decode cX1_isMissing 1 = .ok (.getfield 19, 3) := by decide +kernel
theorem dX1_isMissing_4 : decode cX1_isMissing 4 = .ok (.iload_n 1, 1) := by decide +kernel
theorem dX1_isMissing_5 : decode cX1_isMissing 5 = .ok (.iaload, 1) := by decide +kernel
theorem dX1_isMissing_6 : decode cX1_isMissing 6 = .ok (.iconst (-1), 1) := by decide +kernel
theorem dX1_isMissing_7 : decode cX1_isMissing 7 = .ok (.if_icmp .ne 7, 3) := by decide +kernel
theorem dX1_isMissing_10 : decode cX1_isMissing 10 = .ok (.iconst 1, 1) := by decide +kernel
theorem dX1_isMissing_11 : decode cX1_isMissing 11 = .ok (.goto 4, 3) := by decide +kernel
theorem dX1_isMissing_14 : decode cX1_isMissing 14 = .ok (.iconst 0, 1) := by decide +kernel
theorem dX1_isMissing_15 : decode cX1_isMissing 15 = .ok (.ireturn, 1) := by decide +kernel
set_option maxRecDepth 20000 in
theorem ggX1_become_J13_bitCount_95d88 : GoodIn wsX1_become wsJ13_bitCount_95d88 := goodIn_r _ [6, 7, 8, 9] (by decide +kernel) (by decide +kernel)
set_option maxRecDepth 20000 in
theorem gX1_become_J13_bitCount_95d88 : GoodIn wsX1_become (va_wsS RX1 55 yJ13_bitCount_95d88 wsJ13_bitCount_95d88) := goodIn_app (goodIn_of _ (by decide +kernel)) ggX1_become_J13_bitCount_95d88
theorem dX1_become_0 : decode cX1_become 0 = .ok (.aload_n 0, 1) := by decide +kernel
theorem dX1_become_1 : decode cX1_become 1 = .ok (.getfield 15, 3) := by decide +kernel
theorem dX1_become_4 : decode cX1_become 4 = .ok (.iload_n 1, 1) := by decide +kernel
theorem dX1_become_5 : decode cX1_become 5 = .ok (.lload_n 2, 1) := by decide +kernel
theorem dX1_become_6 : decode cX1_become 6 = .ok (.lastore, 1) := by decide +kernel
theorem dX1_become_7 : decode cX1_become 7 = .ok (.aload_n 0, 1) := by decide +kernel
theorem dX1_become_8 : decode cX1_become 8 = .ok (.getfield 19, 3) := by decide +kernel
theorem dX1_become_11 : decode cX1_become 11 = .ok (.iload_n 1, 1) := by decide +kernel
theorem dX1_become_12 : decode cX1_become 12 = .ok (.iload 4, 2) := by decide +kernel
theorem dX1_become_14 : decode cX1_become 14 = .ok (.iastore, 1) := by decide +kernel
theorem dX1_become_15 : decode cX1_become 15 = .ok (.lload_n 2, 1) := by decide +kernel
theorem dX1_become_16 : decode cX1_become 16 = .ok (.invokestatic 55, 3) := by decide +kernel
theorem dX1_become_19 : decode cX1_become 19 = .ok (.ireturn, 1) := by decide +kernel
set_option maxRecDepth 20000 in
theorem ggX1_families_X1_isMissing : GoodIn wsX1_families wsX1_isMissing := goodIn_r _ [5, 6, 7, 8, 9, 10, 11] (by decide +kernel) (by decide +kernel)
set_option maxRecDepth 20000 in
theorem gX1_families_X1_isMissing : GoodIn wsX1_families (wsV RX1 61 RX1 yX1_isMissing wsX1_isMissing) := goodIn_app (goodIn_of _ (by decide +kernel)) ggX1_families_X1_isMissing
theorem dX1_families_0 : decode cX1_families 0 = .ok (.iconst 0, 1) := by decide +kernel
theorem dX1_families_1 : decode cX1_families 1 = .ok (.istore_n 1, 1) := by decide +kernel
theorem dX1_families_2 : decode cX1_families 2 = .ok (.iconst 0, 1) := by decide +kernel
theorem dX1_families_3 : decode cX1_families 3 = .ok (.istore_n 2, 1) := by decide +kernel
theorem dX1_families_4 : decode cX1_families 4 = .ok (.iload_n 2, 1) := by decide +kernel
theorem dX1_families_5 : decode cX1_families 5 = .ok (.bipush 6, 2) := by decide +kernel
theorem dX1_families_7 : decode cX1_families 7 = .ok (.if_icmp .ge 23, 3) := by decide +kernel
theorem dX1_families_10 : decode cX1_families 10 = .ok (.aload_n 0, 1) := by decide +kernel
theorem dX1_families_11 : decode cX1_families 11 = .ok (.iload_n 2, 1) := by decide +kernel
theorem dX1_families_12 : decode cX1_families 12 = .ok (.invokevirtual 61, 3) := by decide +kernel
theorem dX1_families_15 : decode cX1_families 15 = .ok (.ifCond .ne 9, 3) := by decide +kernel
theorem dX1_families_18 : decode cX1_families 18 = .ok (.iload_n 1, 1) := by decide +kernel
theorem dX1_families_19 : decode cX1_families 19 = .ok (.iconst 1, 1) := by decide +kernel
theorem dX1_families_20 : decode cX1_families 20 = .ok (.iload_n 2, 1) := by decide +kernel
theorem dX1_families_21 : decode cX1_families 21 = .ok (.ishl, 1) := by decide +kernel
theorem dX1_families_22 : decode cX1_families 22 = .ok (.ior, 1) := by decide +kernel
theorem dX1_families_23 : decode cX1_families 23 = .ok (.istore_n 1, 1) := by decide +kernel
theorem dX1_families_24 : decode cX1_families 24 = .ok (.iinc 2 1, 3) := by decide +kernel
theorem dX1_families_27 : decode cX1_families 27 = .ok (.goto (-23), 3) := by decide +kernel
theorem dX1_families_30 : decode cX1_families 30 = .ok (.iload_n 1, 1) := by decide +kernel
theorem dX1_families_31 : decode cX1_families 31 = .ok (.ireturn, 1) := by decide +kernel
theorem dX1_weightOf_0 : decode cX1_weightOf 0 = .ok (.iconst 0, 1) := by decide +kernel
theorem dX1_weightOf_1 : decode cX1_weightOf 1 = .ok (.istore_n 2, 1) := by decide +kernel
theorem dX1_weightOf_2 : decode cX1_weightOf 2 = .ok (.iconst 0, 1) := by decide +kernel
theorem dX1_weightOf_3 : decode cX1_weightOf 3 = .ok (.istore_n 3, 1) := by decide +kernel
theorem dX1_weightOf_4 : decode cX1_weightOf 4 = .ok (.iload_n 3, 1) := by decide +kernel
theorem dX1_weightOf_5 : decode cX1_weightOf 5 = .ok (.aload_n 0, 1) := by decide +kernel
theorem dX1_weightOf_6 : decode cX1_weightOf 6 = .ok (.getfield 9, 3) := by decide +kernel
theorem dX1_weightOf_9 : decode cX1_weightOf 9 = .ok (.if_icmp .ge 26, 3) := by decide +kernel
theorem dX1_weightOf_12 : decode cX1_weightOf 12 = .ok (.iload_n 1, 1) := by decide +kernel
theorem dX1_weightOf_13 : decode cX1_weightOf 13 = .ok (.iload_n 3, 1) := by decide +kernel
theorem dX1_weightOf_14 : decode cX1_weightOf 14 = .ok (.ishr, 1) := by decide +kernel
theorem dX1_weightOf_15 : decode cX1_weightOf 15 = .ok (.iconst 1, 1) := by decide +kernel
theorem dX1_weightOf_16 : decode cX1_weightOf 16 = .ok (.iand, 1) := by decide +kernel
theorem dX1_weightOf_17 : decode cX1_weightOf 17 = .ok (.ifCond .eq 12, 3) := by decide +kernel
theorem dX1_weightOf_20 : decode cX1_weightOf 20 = .ok (.iload_n 2, 1) := by decide +kernel
theorem dX1_weightOf_21 : decode cX1_weightOf 21 = .ok (.aload_n 0, 1) := by decide +kernel
theorem dX1_weightOf_22 : decode cX1_weightOf 22 = .ok (.getfield 23, 3) := by decide +kernel
theorem dX1_weightOf_25 : decode cX1_weightOf 25 = .ok (.iload_n 3, 1) := by decide +kernel
theorem dX1_weightOf_26 : decode cX1_weightOf 26 = .ok (.iaload, 1) := by decide +kernel
theorem dX1_weightOf_27 : decode cX1_weightOf 27 = .ok (.iadd, 1) := by decide +kernel
theorem dX1_weightOf_28 : decode cX1_weightOf 28 = .ok (.istore_n 2, 1) := by decide +kernel
theorem dX1_weightOf_29 : decode cX1_weightOf 29 = .ok (.iinc 3 1, 3) := by decide +kernel
theorem dX1_weightOf_32 : decode cX1_weightOf 32 = .ok (.goto (-28), 3) := by decide +kernel
theorem dX1_weightOf_35 : decode cX1_weightOf 35 = .ok (.iload_n 2, 1) := by decide +kernel
theorem dX1_weightOf_36 : decode cX1_weightOf 36 = .ok (.ireturn, 1) := by decide +kernel
set_option maxRecDepth 20000 in
theorem ggX1_byGreed_X1_heaviestBut : GoodIn wsX1_byGreed wsX1_heaviestBut := goodIn_r _ [8, 1, 3, 9, 10, 11, 12, 13, 14, 15, 16, 17] (by decide +kernel) (by decide +kernel)
set_option maxRecDepth 20000 in
theorem gX1_byGreed_X1_heaviestBut : GoodIn wsX1_byGreed (wsV RX1 65 RX1 yX1_heaviestBut wsX1_heaviestBut) := goodIn_app (goodIn_of _ (by decide +kernel)) ggX1_byGreed_X1_heaviestBut
theorem dX1_byGreed_0 : decode cX1_byGreed 0 = .ok (.lload_n 1, 1) := by decide +kernel
theorem dX1_byGreed_1 : decode cX1_byGreed 1 = .ok (.lconst 0, 1) := by decide +kernel
theorem dX1_byGreed_2 : decode cX1_byGreed 2 = .ok (.lcmp, 1) := by decide +kernel
theorem dX1_byGreed_3 : decode cX1_byGreed 3 = .ok (.ifCond .ne 5, 3) := by decide +kernel
theorem dX1_byGreed_6 : decode cX1_byGreed 6 = .ok (.iconst (-1), 1) := by decide +kernel
theorem dX1_byGreed_7 : decode cX1_byGreed 7 = .ok (.ireturn, 1) := by decide +kernel
theorem dX1_byGreed_8 : decode cX1_byGreed 8 = .ok (.lload_n 1, 1) := by decide +kernel
theorem dX1_byGreed_9 : decode cX1_byGreed 9 = .ok (.lstore_n 3, 1) := by decide +kernel
theorem dX1_byGreed_10 : decode cX1_byGreed 10 = .ok (.iconst 0, 1) := by decide +kernel
theorem dX1_byGreed_11 : decode cX1_byGreed 11 = .ok (.istore 5, 2) := by decide +kernel
theorem dX1_byGreed_13 : decode cX1_byGreed 13 = .ok (.iconst 0, 1) := by decide +kernel
theorem dX1_byGreed_14 : decode cX1_byGreed 14 = .ok (.istore 6, 2) := by decide +kernel
theorem dX1_byGreed_16 : decode cX1_byGreed 16 = .ok (.iconst 0, 1) := by decide +kernel
theorem dX1_byGreed_17 : decode cX1_byGreed 17 = .ok (.istore 7, 2) := by decide +kernel
theorem dX1_byGreed_19 : decode cX1_byGreed 19 = .ok (.iload 7, 2) := by decide +kernel
theorem dX1_byGreed_21 : decode cX1_byGreed 21 = .ok (.aload_n 0, 1) := by decide +kernel
theorem dX1_byGreed_22 : decode cX1_byGreed 22 = .ok (.getfield 9, 3) := by decide +kernel
theorem dX1_byGreed_25 : decode cX1_byGreed 25 = .ok (.if_icmp .ge 120, 3) := by decide +kernel
theorem dX1_byGreed_28 : decode cX1_byGreed 28 = .ok (.aload_n 0, 1) := by decide +kernel
theorem dX1_byGreed_29 : decode cX1_byGreed 29 = .ok (.iload 5, 2) := by decide +kernel
theorem dX1_byGreed_31 : decode cX1_byGreed 31 = .ok (.invokevirtual 65, 3) := by decide +kernel
theorem dX1_byGreed_34 : decode cX1_byGreed 34 = .ok (.istore 8, 2) := by decide +kernel
theorem dX1_byGreed_36 : decode cX1_byGreed 36 = .ok (.iload 5, 2) := by decide +kernel
theorem dX1_byGreed_38 : decode cX1_byGreed 38 = .ok (.iconst 1, 1) := by decide +kernel
theorem dX1_byGreed_39 : decode cX1_byGreed 39 = .ok (.iload 8, 2) := by decide +kernel
theorem dX1_byGreed_41 : decode cX1_byGreed 41 = .ok (.ishl, 1) := by decide +kernel
theorem dX1_byGreed_42 : decode cX1_byGreed 42 = .ok (.ior, 1) := by decide +kernel
theorem dX1_byGreed_43 : decode cX1_byGreed 43 = .ok (.istore 5, 2) := by decide +kernel
theorem dX1_byGreed_45 : decode cX1_byGreed 45 = .ok (.lload_n 3, 1) := by decide +kernel
theorem dX1_byGreed_46 : decode cX1_byGreed 46 = .ok (.getstatic 69, 3) := by decide +kernel
theorem dX1_byGreed_49 : decode cX1_byGreed 49 = .ok (.iload 8, 2) := by decide +kernel
theorem dX1_byGreed_51 : decode cX1_byGreed 51 = .ok (.laload, 1) := by decide +kernel
theorem dX1_byGreed_52 : decode cX1_byGreed 52 = .ok (.land, 1) := by decide +kernel
theorem dX1_byGreed_53 : decode cX1_byGreed 53 = .ok (.lstore 9, 2) := by decide +kernel
theorem dX1_byGreed_55 : decode cX1_byGreed 55 = .ok (.lload_n 3, 1) := by decide +kernel
theorem dX1_byGreed_56 : decode cX1_byGreed 56 = .ok (.getstatic 69, 3) := by decide +kernel
theorem dX1_byGreed_59 : decode cX1_byGreed 59 = .ok (.iload 8, 2) := by decide +kernel
theorem dX1_byGreed_61 : decode cX1_byGreed 61 = .ok (.laload, 1) := by decide +kernel
theorem dX1_byGreed_62 : decode cX1_byGreed 62 = .ok (.ldc2_w 72, 3) := by decide +kernel
theorem dX1_byGreed_65 : decode cX1_byGreed 65 = .ok (.lxor, 1) := by decide +kernel
theorem dX1_byGreed_66 : decode cX1_byGreed 66 = .ok (.land, 1) := by decide +kernel
theorem dX1_byGreed_67 : decode cX1_byGreed 67 = .ok (.lstore 11, 2) := by decide +kernel
theorem dX1_byGreed_69 : decode cX1_byGreed 69 = .ok (.aload_n 0, 1) := by decide +kernel
theorem dX1_byGreed_70 : decode cX1_byGreed 70 = .ok (.getfield 23, 3) := by decide +kernel
theorem dX1_byGreed_73 : decode cX1_byGreed 73 = .ok (.iload 8, 2) := by decide +kernel
theorem dX1_byGreed_75 : decode cX1_byGreed 75 = .ok (.iaload, 1) := by decide +kernel
theorem dX1_byGreed_76 : decode cX1_byGreed 76 = .ok (.ifCond .lt 18, 3) := by decide +kernel
theorem dX1_byGreed_79 : decode cX1_byGreed 79 = .ok (.lload 9, 2) := by decide +kernel
theorem dX1_byGreed_81 : decode cX1_byGreed 81 = .ok (.lconst 0, 1) := by decide +kernel
theorem dX1_byGreed_82 : decode cX1_byGreed 82 = .ok (.lcmp, 1) := by decide +kernel
theorem dX1_byGreed_83 : decode cX1_byGreed 83 = .ok (.ifCond .eq 7, 3) := by decide +kernel
theorem dX1_byGreed_86 : decode cX1_byGreed 86 = .ok (.iconst 1, 1) := by decide +kernel
theorem dX1_byGreed_87 : decode cX1_byGreed 87 = .ok (.goto 19, 3) := by decide +kernel
theorem dX1_byGreed_90 : decode cX1_byGreed 90 = .ok (.iconst 0, 1) := by decide +kernel
theorem dX1_byGreed_91 : decode cX1_byGreed 91 = .ok (.goto 15, 3) := by decide +kernel
theorem dX1_byGreed_94 : decode cX1_byGreed 94 = .ok (.lload 11, 2) := by decide +kernel
theorem dX1_byGreed_96 : decode cX1_byGreed 96 = .ok (.lconst 0, 1) := by decide +kernel
theorem dX1_byGreed_97 : decode cX1_byGreed 97 = .ok (.lcmp, 1) := by decide +kernel
theorem dX1_byGreed_98 : decode cX1_byGreed 98 = .ok (.ifCond .ne 7, 3) := by decide +kernel
theorem dX1_byGreed_101 : decode cX1_byGreed 101 = .ok (.iconst 1, 1) := by decide +kernel
theorem dX1_byGreed_102 : decode cX1_byGreed 102 = .ok (.goto 4, 3) := by decide +kernel
theorem dX1_byGreed_105 : decode cX1_byGreed 105 = .ok (.iconst 0, 1) := by decide +kernel
theorem dX1_byGreed_106 : decode cX1_byGreed 106 = .ok (.istore 13, 2) := by decide +kernel
theorem dX1_byGreed_108 : decode cX1_byGreed 108 = .ok (.iload 13, 2) := by decide +kernel
theorem dX1_byGreed_110 : decode cX1_byGreed 110 = .ok (.ifCond .eq 8, 3) := by decide +kernel
theorem dX1_byGreed_113 : decode cX1_byGreed 113 = .ok (.lload 9, 2) := by decide +kernel
theorem dX1_byGreed_115 : decode cX1_byGreed 115 = .ok (.goto 5, 3) := by decide +kernel
theorem dX1_byGreed_118 : decode cX1_byGreed 118 = .ok (.lload 11, 2) := by decide +kernel
theorem dX1_byGreed_120 : decode cX1_byGreed 120 = .ok (.lstore_n 3, 1) := by decide +kernel
theorem dX1_byGreed_121 : decode cX1_byGreed 121 = .ok (.iload 6, 2) := by decide +kernel
theorem dX1_byGreed_123 : decode cX1_byGreed 123 = .ok (.iload 13, 2) := by decide +kernel
theorem dX1_byGreed_125 : decode cX1_byGreed 125 = .ok (.ifCond .eq 10, 3) := by decide +kernel
theorem dX1_byGreed_128 : decode cX1_byGreed 128 = .ok (.iconst 1, 1) := by decide +kernel
theorem dX1_byGreed_129 : decode cX1_byGreed 129 = .ok (.iload 8, 2) := by decide +kernel
theorem dX1_byGreed_131 : decode cX1_byGreed 131 = .ok (.ishl, 1) := by decide +kernel
theorem dX1_byGreed_132 : decode cX1_byGreed 132 = .ok (.goto 4, 3) := by decide +kernel
theorem dX1_byGreed_135 : decode cX1_byGreed 135 = .ok (.iconst 0, 1) := by decide +kernel
theorem dX1_byGreed_136 : decode cX1_byGreed 136 = .ok (.ior, 1) := by decide +kernel
theorem dX1_byGreed_137 : decode cX1_byGreed 137 = .ok (.istore 6, 2) := by decide +kernel
theorem dX1_byGreed_139 : decode cX1_byGreed 139 = .ok (.iinc 7 1, 3) := by decide +kernel
theorem dX1_byGreed_142 : decode cX1_byGreed 142 = .ok (.goto (-123), 3) := by decide +kernel
theorem dX1_byGreed_145 : decode cX1_byGreed 145 = .ok (.iload 6, 2) := by decide +kernel
theorem dX1_byGreed_147 : decode cX1_byGreed 147 = .ok (.ireturn, 1) := by decide +kernel
theorem dX1_heaviestBut_0 : decode cX1_heaviestBut 0 = .ok (.iconst 0, 1) := by decide +kernel
theorem dX1_heaviestBut_1 : decode cX1_heaviestBut 1 = .ok (.istore_n 2, 1) := by decide +kernel
theorem dX1_heaviestBut_2 : decode cX1_heaviestBut 2 = .ok (.iconst (-1), 1) := by decide +kernel
theorem dX1_heaviestBut_3 : decode cX1_heaviestBut 3 = .ok (.istore_n 3, 1) := by decide +kernel
theorem dX1_heaviestBut_4 : decode cX1_heaviestBut 4 = .ok (.iconst 0, 1) := by decide +kernel
theorem dX1_heaviestBut_5 : decode cX1_heaviestBut 5 = .ok (.istore 4, 2) := by decide +kernel
theorem dX1_heaviestBut_7 : decode cX1_heaviestBut 7 = .ok (.iload 4, 2) := by decide +kernel
theorem dX1_heaviestBut_9 : decode cX1_heaviestBut 9 = .ok (.aload_n 0, 1) := by decide +kernel
theorem dX1_heaviestBut_10 : decode cX1_heaviestBut 10 = .ok (.getfield 9, 3) := by decide +kernel
theorem dX1_heaviestBut_13 : decode cX1_heaviestBut 13 = .ok (.if_icmp .ge 42, 3) := by decide +kernel
theorem dX1_heaviestBut_16 : decode cX1_heaviestBut 16 = .ok (.aload_n 0, 1) := by decide +kernel
theorem dX1_heaviestBut_17 : decode cX1_heaviestBut 17 = .ok (.getfield 23, 3) := by decide +kernel
theorem dX1_heaviestBut_20 : decode cX1_heaviestBut 20 = .ok (.iload 4, 2) := by decide +kernel
theorem dX1_heaviestBut_22 : decode cX1_heaviestBut 22 = .ok (.iaload, 1) := by decide +kernel
theorem dX1_heaviestBut_23 : decode cX1_heaviestBut 23 = .ok (.invokestatic 74, 3) := by decide +kernel
theorem dX1_heaviestBut_26 : decode cX1_heaviestBut 26 = .ok (.istore 5, 2) := by decide +kernel
theorem dX1_heaviestBut_28 : decode cX1_heaviestBut 28 = .ok (.iload_n 1, 1) := by decide +kernel
theorem dX1_heaviestBut_29 : decode cX1_heaviestBut 29 = .ok (.iload 4, 2) := by decide +kernel
theorem dX1_heaviestBut_31 : decode cX1_heaviestBut 31 = .ok (.ishr, 1) := by decide +kernel
theorem dX1_heaviestBut_32 : decode cX1_heaviestBut 32 = .ok (.iconst 1, 1) := by decide +kernel
theorem dX1_heaviestBut_33 : decode cX1_heaviestBut 33 = .ok (.iand, 1) := by decide +kernel
theorem dX1_heaviestBut_34 : decode cX1_heaviestBut 34 = .ok (.ifCond .ne 15, 3) := by decide +kernel
theorem dX1_heaviestBut_37 : decode cX1_heaviestBut 37 = .ok (.iload 5, 2) := by decide +kernel
theorem dX1_heaviestBut_39 : decode cX1_heaviestBut 39 = .ok (.iload_n 3, 1) := by decide +kernel
theorem dX1_heaviestBut_40 : decode cX1_heaviestBut 40 = .ok (.if_icmp .le 9, 3) := by decide +kernel
theorem dX1_heaviestBut_43 : decode cX1_heaviestBut 43 = .ok (.iload 4, 2) := by decide +kernel
theorem dX1_heaviestBut_45 : decode cX1_heaviestBut 45 = .ok (.istore_n 2, 1) := by decide +kernel
theorem dX1_heaviestBut_46 : decode cX1_heaviestBut 46 = .ok (.iload 5, 2) := by decide +kernel
theorem dX1_heaviestBut_48 : decode cX1_heaviestBut 48 = .ok (.istore_n 3, 1) := by decide +kernel
theorem dX1_heaviestBut_49 : decode cX1_heaviestBut 49 = .ok (.iinc 4 1, 3) := by decide +kernel
theorem dX1_heaviestBut_52 : decode cX1_heaviestBut 52 = .ok (.goto (-45), 3) := by decide +kernel
theorem dX1_heaviestBut_55 : decode cX1_heaviestBut 55 = .ok (.iload_n 2, 1) := by decide +kernel
theorem dX1_heaviestBut_56 : decode cX1_heaviestBut 56 = .ok (.ireturn, 1) := by decide +kernel
set_option maxRecDepth 20000 in
theorem ggX1_byLooking_X0_holds : GoodIn wsX1_byLooking wsX0_holds := goodIn_r _ [5] (by decide +kernel) (by decide +kernel)
set_option maxRecDepth 20000 in
theorem gX1_byLooking_X0_holds : GoodIn wsX1_byLooking (va_wsS RX1 79 yX0_holds wsX0_holds) := goodIn_app (goodIn_of _ (by decide +kernel)) ggX1_byLooking_X0_holds
set_option maxRecDepth 20000 in
theorem ggX1_byLooking_X1_weightOf : GoodIn wsX1_byLooking wsX1_weightOf := goodIn_r _ [10, 1, 11, 12, 13, 14, 15, 16] (by decide +kernel) (by decide +kernel)
set_option maxRecDepth 20000 in
theorem gX1_byLooking_X1_weightOf : GoodIn wsX1_byLooking (wsV RX1 85 RX1 yX1_weightOf wsX1_weightOf) := goodIn_app (goodIn_of _ (by decide +kernel)) ggX1_byLooking_X1_weightOf
theorem dX1_byLooking_0 : decode cX1_byLooking 0 = .ok (.iconst (-1), 1) := by decide +kernel
theorem dX1_byLooking_1 : decode cX1_byLooking 1 = .ok (.istore_n 3, 1) := by decide +kernel
theorem dX1_byLooking_2 : decode cX1_byLooking 2 = .ok (.iconst 0, 1) := by decide +kernel
theorem dX1_byLooking_3 : decode cX1_byLooking 3 = .ok (.istore 4, 2) := by decide +kernel
theorem dX1_byLooking_5 : decode cX1_byLooking 5 = .ok (.iconst 0, 1) := by decide +kernel
theorem dX1_byLooking_6 : decode cX1_byLooking 6 = .ok (.istore 5, 2) := by decide +kernel
theorem dX1_byLooking_8 : decode cX1_byLooking 8 = .ok (.iload 5, 2) := by decide +kernel
theorem dX1_byLooking_10 : decode cX1_byLooking 10 = .ok (.iconst 1, 1) := by decide +kernel
theorem dX1_byLooking_11 : decode cX1_byLooking 11 = .ok (.aload_n 0, 1) := by decide +kernel
theorem dX1_byLooking_12 : decode cX1_byLooking 12 = .ok (.getfield 9, 3) := by decide +kernel
theorem dX1_byLooking_15 : decode cX1_byLooking 15 = .ok (.ishl, 1) := by decide +kernel
theorem dX1_byLooking_16 : decode cX1_byLooking 16 = .ok (.if_icmp .ge 48, 3) := by decide +kernel
theorem dX1_byLooking_19 : decode cX1_byLooking 19 = .ok (.lload_n 1, 1) := by decide +kernel
theorem dX1_byLooking_20 : decode cX1_byLooking 20 = .ok (.iload 5, 2) := by decide +kernel
theorem dX1_byLooking_22 : decode cX1_byLooking 22 = .ok (.invokestatic 79, 3) := by decide +kernel
theorem dX1_byLooking_25 : decode cX1_byLooking 25 = .ok (.ifCond .ne 6, 3) := by decide +kernel
theorem dX1_byLooking_28 : decode cX1_byLooking 28 = .ok (.goto 30, 3) := by decide +kernel
theorem dX1_byLooking_31 : decode cX1_byLooking 31 = .ok (.aload_n 0, 1) := by decide +kernel
theorem dX1_byLooking_32 : decode cX1_byLooking 32 = .ok (.iload 5, 2) := by decide +kernel
theorem dX1_byLooking_34 : decode cX1_byLooking 34 = .ok (.invokevirtual 85, 3) := by decide +kernel
theorem dX1_byLooking_37 : decode cX1_byLooking 37 = .ok (.istore 6, 2) := by decide +kernel
theorem dX1_byLooking_39 : decode cX1_byLooking 39 = .ok (.iload_n 3, 1) := by decide +kernel
theorem dX1_byLooking_40 : decode cX1_byLooking 40 = .ok (.iconst (-1), 1) := by decide +kernel
theorem dX1_byLooking_41 : decode cX1_byLooking 41 = .ok (.if_icmp .eq 10, 3) := by decide +kernel
theorem dX1_byLooking_44 : decode cX1_byLooking 44 = .ok (.iload 6, 2) := by decide +kernel
theorem dX1_byLooking_46 : decode cX1_byLooking 46 = .ok (.iload 4, 2) := by decide +kernel
theorem dX1_byLooking_48 : decode cX1_byLooking 48 = .ok (.if_icmp .le 10, 3) := by decide +kernel
theorem dX1_byLooking_51 : decode cX1_byLooking 51 = .ok (.iload 5, 2) := by decide +kernel
theorem dX1_byLooking_53 : decode cX1_byLooking 53 = .ok (.istore_n 3, 1) := by decide +kernel
theorem dX1_byLooking_54 : decode cX1_byLooking 54 = .ok (.iload 6, 2) := by decide +kernel
theorem dX1_byLooking_56 : decode cX1_byLooking 56 = .ok (.istore 4, 2) := by decide +kernel
theorem dX1_byLooking_58 : decode cX1_byLooking 58 = .ok (.iinc 5 1, 3) := by decide +kernel
theorem dX1_byLooking_61 : decode cX1_byLooking 61 = .ok (.goto (-53), 3) := by decide +kernel
theorem dX1_byLooking_64 : decode cX1_byLooking 64 = .ok (.iload_n 3, 1) := by decide +kernel
theorem dX1_byLooking_65 : decode cX1_byLooking 65 = .ok (.ireturn, 1) := by decide +kernel
theorem dX2_init_0 : decode cX2_init 0 = .ok (.aload_n 0, 1) := by decide +kernel
theorem dX2_init_1 : decode cX2_init 1 = .ok (.invokespecial 3, 3) := by decide +kernel
theorem dX2_init_4 : decode cX2_init 4 = .ok (.aload_n 0, 1) := by decide +kernel
theorem dX2_init_5 : decode cX2_init 5 = .ok (.iconst (-1), 1) := by decide +kernel
theorem dX2_init_6 : decode cX2_init 6 = .ok (.putfield 9, 3) := by decide +kernel
theorem dX2_init_9 : decode cX2_init 9 = .ok (.aload_n 0, 1) := by decide +kernel
theorem dX2_init_10 : decode cX2_init 10 = .ok (.iconst 0, 1) := by decide +kernel
theorem dX2_init_11 : decode cX2_init 11 = .ok (.putfield 15, 3) := by decide +kernel
theorem dX2_init_14 : decode cX2_init 14 = .ok (.aload_n 0, 1) := by decide +kernel
theorem dX2_init_15 : decode cX2_init 15 = .ok (.bipush 80, 2) := by decide +kernel
theorem dX2_init_17 : decode cX2_init 17 = .ok (.newarray .long, 2) := by decide +kernel
theorem dX2_init_19 : decode cX2_init 19 = .ok (.putfield 18, 3) := by decide +kernel
theorem dX2_init_22 : decode cX2_init 22 = .ok (.return_, 1) := by decide +kernel
set_option maxRecDepth 20000 in
theorem ggX2_begin_J7_fill_d0a16 : GoodIn wsX2_begin wsJ7_fill_d0a16 := goodIn_r _ [7] (by decide +kernel) (by decide +kernel)
set_option maxRecDepth 20000 in
theorem gX2_begin_J7_fill_d0a16 : GoodIn wsX2_begin (va_wsS RX2 22 yJ7_fill_d0a16 wsJ7_fill_d0a16) := goodIn_app (goodIn_of _ (by decide +kernel)) ggX2_begin_J7_fill_d0a16
theorem dX2_begin_0 : decode cX2_begin 0 = .ok (.aload_n 0, 1) := by decide +kernel
theorem dX2_begin_1 : decode cX2_begin 1 = .ok (.iload_n 1, 1) := by decide +kernel
theorem dX2_begin_2 : decode cX2_begin 2 = .ok (.putfield 9, 3) := by decide +kernel
theorem dX2_begin_5 : decode cX2_begin 5 = .ok (.aload_n 0, 1) := by decide +kernel
theorem dX2_begin_6 : decode cX2_begin 6 = .ok (.iload_n 2, 1) := by decide +kernel
theorem dX2_begin_7 : decode cX2_begin 7 = .ok (.putfield 15, 3) := by decide +kernel
theorem dX2_begin_10 : decode cX2_begin 10 = .ok (.aload_n 0, 1) := by decide +kernel
theorem dX2_begin_11 : decode cX2_begin 11 = .ok (.getfield 18, 3) := by decide +kernel
theorem dX2_begin_14 : decode cX2_begin 14 = .ok (.lconst 0, 1) := by decide +kernel
theorem dX2_begin_15 : decode cX2_begin 15 = .ok (.invokestatic 22, 3) := by decide +kernel
theorem dX2_begin_18 : decode cX2_begin 18 = .ok (.return_, 1) := by decide +kernel
theorem dX2_isMissing_0 : decode cX2_isMissing 0 = .ok (.aload_n 0, 1) := by decide +kernel
theorem dX2_isMissing_1 : decode cX2_isMissing 1 = .ok (.getfield 9, 3) := by decide +kernel
theorem dX2_isMissing_4 : decode cX2_isMissing 4 = .ok (.iconst (-1), 1) := by decide +kernel
theorem dX2_isMissing_5 : decode cX2_isMissing 5 = .ok (.if_icmp .ne 7, 3) := by decide +kernel
theorem dX2_isMissing_8 : decode cX2_isMissing 8 = .ok (.iconst 1, 1) := by decide +kernel
theorem dX2_isMissing_9 : decode cX2_isMissing 9 = .ok (.goto 4, 3) := by decide +kernel
theorem dX2_isMissing_12 : decode cX2_isMissing 12 = .ok (.iconst 0, 1) := by decide +kernel
theorem dX2_isMissing_13 : decode cX2_isMissing 13 = .ok (.ireturn, 1) := by decide +kernel
theorem dX2_hasPlace_0 : decode cX2_hasPlace 0 = .ok (.iload_n 1, 1) := by decide +kernel
theorem dX2_hasPlace_1 : decode cX2_hasPlace 1 = .ok (.ifCond .lt 15, 3) := by decide +kernel
theorem dX2_hasPlace_4 : decode cX2_hasPlace 4 = .ok (.iload_n 1, 1) := by decide +kernel
theorem dX2_hasPlace_5 : decode cX2_hasPlace 5 = .ok (.aload_n 0, 1) := by decide +kernel
theorem dX2_hasPlace_6 : decode cX2_hasPlace 6 = .ok (.getfield 15, 3) := by decide +kernel
theorem dX2_hasPlace_9 : decode cX2_hasPlace 9 = .ok (.if_icmp .ge 7, 3) := by decide +kernel
theorem dX2_hasPlace_12 : decode cX2_hasPlace 12 = .ok (.iconst 1, 1) := by decide +kernel
theorem dX2_hasPlace_13 : decode cX2_hasPlace 13 = .ok (.goto 4, 3) := by decide +kernel
theorem dX2_hasPlace_16 : decode cX2_hasPlace 16 = .ok (.iconst 0, 1) := by decide +kernel
theorem dX2_hasPlace_17 : decode cX2_hasPlace 17 = .ok (.ireturn, 1) := by decide +kernel
theorem dX2_hasStretch_0 : decode cX2_hasStretch 0 = .ok (.iload_n 1, 1) := by decide +kernel
theorem dX2_hasStretch_1 : decode cX2_hasStretch 1 = .ok (.ifCond .lt 29, 3) := by decide +kernel
theorem dX2_hasStretch_4 : decode cX2_hasStretch 4 = .ok (.iload_n 1, 1) := by decide +kernel
theorem dX2_hasStretch_5 : decode cX2_hasStretch 5 = .ok (.aload_n 0, 1) := by decide +kernel
theorem dX2_hasStretch_6 : decode cX2_hasStretch 6 = .ok (.getfield 15, 3) := by decide +kernel
theorem dX2_hasStretch_9 : decode cX2_hasStretch 9 = .ok (.if_icmp .gt 21, 3) := by decide +kernel
theorem dX2_hasStretch_12 : decode cX2_hasStretch 12 = .ok (.iload_n 2, 1) := by decide +kernel
theorem dX2_hasStretch_13 : decode cX2_hasStretch 13 = .ok (.ifCond .lt 17, 3) := by decide +kernel
theorem dX2_hasStretch_16 : decode cX2_hasStretch 16 = .ok (.iload_n 2, 1) := by decide +kernel
theorem dX2_hasStretch_17 : decode cX2_hasStretch 17 = .ok (.aload_n 0, 1) := by decide +kernel
theorem dX2_hasStretch_18 : decode cX2_hasStretch 18 = .ok (.getfield 15, 3) := by decide +kernel
theorem dX2_hasStretch_21 : decode cX2_hasStretch 21 = .ok (.iload_n 1, 1) := by decide +kernel
theorem dX2_hasStretch_22 : decode cX2_hasStretch 22 = .ok (.isub, 1) := by decide +kernel
theorem dX2_hasStretch_23 : decode cX2_hasStretch 23 = .ok (.if_icmp .gt 7, 3) := by decide +kernel
theorem dX2_hasStretch_26 : decode cX2_hasStretch 26 = .ok (.iconst 1, 1) := by decide +kernel
theorem dX2_hasStretch_27 : decode cX2_hasStretch 27 = .ok (.goto 4, 3) := by decide +kernel
theorem dX2_hasStretch_30 : decode cX2_hasStretch 30 = .ok (.iconst 0, 1) := by decide +kernel
theorem dX2_hasStretch_31 : decode cX2_hasStretch 31 = .ok (.ireturn, 1) := by decide +kernel
set_option maxRecDepth 20000 in
theorem ggX2_write_X2_lowestBits : GoodIn wsX2_write wsX2_lowestBits := goodIn_r _ [6, 7, 8, 9, 10] (by decide +kernel) (by decide +kernel)
set_option maxRecDepth 20000 in
theorem gX2_write_X2_lowestBits : GoodIn wsX2_write (wsV RX2 28 RX2 yX2_lowestBits wsX2_lowestBits) := goodIn_app (goodIn_of _ (by decide +kernel)) ggX2_write_X2_lowestBits
theorem dX2_write_0 : decode cX2_write 0 = .ok (.aload_n 0, 1) := by decide +kernel
theorem dX2_write_1 : decode cX2_write 1 = .ok (.getfield 18, 3) := by decide +kernel
theorem dX2_write_4 : decode cX2_write 4 = .ok (.iload_n 1, 1) := by decide +kernel
theorem dX2_write_5 : decode cX2_write 5 = .ok (.aload_n 0, 1) := by decide +kernel
theorem dX2_write_6 : decode cX2_write 6 = .ok (.lload_n 2, 1) := by decide +kernel
theorem dX2_write_7 : decode cX2_write 7 = .ok (.invokevirtual 28, 3) := by decide +kernel
theorem dX2_write_10 : decode cX2_write 10 = .ok (.lastore, 1) := by decide +kernel
theorem dX2_write_11 : decode cX2_write 11 = .ok (.return_, 1) := by decide +kernel
theorem dX2_lowestBits_0 : decode cX2_lowestBits 0 = .ok (.aload_n 0, 1) := by decide +kernel
theorem dX2_lowestBits_1 : decode cX2_lowestBits 1 = .ok (.getfield 9, 3) := by decide +kernel
theorem dX2_lowestBits_4 : decode cX2_lowestBits 4 = .ok (.tableswitch 42 0 2 #[28, 33, 38], 28) := by decide +kernel
theorem dX2_lowestBits_32 : decode cX2_lowestBits 32 = .ok (.lload_n 1, 1) := by decide +kernel
theorem dX2_lowestBits_33 : decode cX2_lowestBits 33 = .ok (.l2i, 1) := by decide +kernel
theorem dX2_lowestBits_34 : decode cX2_lowestBits 34 = .ok (.i2b, 1) := by decide +kernel
theorem dX2_lowestBits_35 : decode cX2_lowestBits 35 = .ok (.i2l, 1) := by decide +kernel
theorem dX2_lowestBits_36 : decode cX2_lowestBits 36 = .ok (.lreturn, 1) := by decide +kernel
theorem dX2_lowestBits_37 : decode cX2_lowestBits 37 = .ok (.lload_n 1, 1) := by decide +kernel
theorem dX2_lowestBits_38 : decode cX2_lowestBits 38 = .ok (.l2i, 1) := by decide +kernel
theorem dX2_lowestBits_39 : decode cX2_lowestBits 39 = .ok (.i2s, 1) := by decide +kernel
theorem dX2_lowestBits_40 : decode cX2_lowestBits 40 = .ok (.i2l, 1) := by decide +kernel
theorem dX2_lowestBits_41 : decode cX2_lowestBits 41 = .ok (.lreturn, 1) := by decide +kernel
theorem dX2_lowestBits_42 : decode cX2_lowestBits 42 = .ok (.lload_n 1, 1) := by decide +kernel
theorem dX2_lowestBits_43 : decode cX2_lowestBits 43 = .ok (.l2i, 1) := by decide +kernel
theorem dX2_lowestBits_44 : decode cX2_lowestBits 44 = .ok (.i2l, 1) := by decide +kernel
theorem dX2_lowestBits_45 : decode cX2_lowestBits 45 = .ok (.lreturn, 1) := by decide +kernel
theorem dX2_lowestBits_46 : decode cX2_lowestBits 46 = .ok (.lload_n 1, 1) := by decide +kernel
theorem dX2_lowestBits_47 : decode cX2_lowestBits 47 = .ok (.lreturn, 1) := by decide +kernel
theorem dX2_asSets_0 : decode cX2_asSets 0 = .ok (.lconst 0, 1) := by decide +kernel
theorem dX2_asSets_1 : decode cX2_asSets 1 = .ok (.lstore_n 2, 1) := by decide +kernel
theorem dX2_asSets_2 : decode cX2_asSets 2 = .ok (.iconst 0, 1) := by decide +kernel
theorem dX2_asSets_3 : decode cX2_asSets 3 = .ok (.istore 4, 2) := by decide +kernel
theorem dX2_asSets_5 : decode cX2_asSets 5 = .ok (.iload 4, 2) := by decide +kernel
theorem dX2_asSets_7 : decode cX2_asSets 7 = .ok (.aload_n 0, 1) := by decide +kernel
theorem dX2_asSets_8 : decode cX2_asSets 8 = .ok (.getfield 15, 3) := by decide +kernel
theorem dX2_asSets_11 : decode cX2_asSets 11 = .ok (.if_icmp .ge 48, 3) := by decide +kernel
theorem dX2_asSets_14 : decode cX2_asSets 14 = .ok (.aload_n 0, 1) := by decide +kernel
theorem dX2_asSets_15 : decode cX2_asSets 15 = .ok (.getfield 18, 3) := by decide +kernel
theorem dX2_asSets_18 : decode cX2_asSets 18 = .ok (.iload 4, 2) := by decide +kernel
theorem dX2_asSets_20 : decode cX2_asSets 20 = .ok (.laload, 1) := by decide +kernel
theorem dX2_asSets_21 : decode cX2_asSets 21 = .ok (.lconst 0, 1) := by decide +kernel
theorem dX2_asSets_22 : decode cX2_asSets 22 = .ok (.lcmp, 1) := by decide +kernel
theorem dX2_asSets_23 : decode cX2_asSets 23 = .ok (.ifCond .lt 30, 3) := by decide +kernel
theorem dX2_asSets_26 : decode cX2_asSets 26 = .ok (.aload_n 0, 1) := by decide +kernel
theorem dX2_asSets_27 : decode cX2_asSets 27 = .ok (.getfield 18, 3) := by decide +kernel
theorem dX2_asSets_30 : decode cX2_asSets 30 = .ok (.iload 4, 2) := by decide +kernel
theorem dX2_asSets_32 : decode cX2_asSets 32 = .ok (.laload, 1) := by decide +kernel
theorem dX2_asSets_33 : decode cX2_asSets 33 = .ok (.lconst 1, 1) := by decide +kernel
theorem dX2_asSets_34 : decode cX2_asSets 34 = .ok (.iload_n 1, 1) := by decide +kernel
theorem dX2_asSets_35 : decode cX2_asSets 35 = .ok (.lshl, 1) := by decide +kernel
theorem dX2_asSets_36 : decode cX2_asSets 36 = .ok (.lcmp, 1) := by decide +kernel
theorem dX2_asSets_37 : decode cX2_asSets 37 = .ok (.ifCond .ge 16, 3) := by decide +kernel
theorem dX2_asSets_40 : decode cX2_asSets 40 = .ok (.lload_n 2, 1) := by decide +kernel
theorem dX2_asSets_41 : decode cX2_asSets 41 = .ok (.lconst 1, 1) := by decide +kernel
theorem dX2_asSets_42 : decode cX2_asSets 42 = .ok (.aload_n 0, 1) := by decide +kernel
theorem dX2_asSets_43 : decode cX2_asSets 43 = .ok (.getfield 18, 3) := by decide +kernel
theorem dX2_asSets_46 : decode cX2_asSets 46 = .ok (.iload 4, 2) := by decide +kernel
theorem dX2_asSets_48 : decode cX2_asSets 48 = .ok (.laload, 1) := by decide +kernel
theorem dX2_asSets_49 : decode cX2_asSets 49 = .ok (.l2i, 1) := by decide +kernel
theorem dX2_asSets_50 : decode cX2_asSets 50 = .ok (.lshl, 1) := by decide +kernel
theorem dX2_asSets_51 : decode cX2_asSets 51 = .ok (.lor, 1) := by decide +kernel
theorem dX2_asSets_52 : decode cX2_asSets 52 = .ok (.lstore_n 2, 1) := by decide +kernel
theorem dX2_asSets_53 : decode cX2_asSets 53 = .ok (.iinc 4 1, 3) := by decide +kernel
theorem dX2_asSets_56 : decode cX2_asSets 56 = .ok (.goto (-51), 3) := by decide +kernel
theorem dX2_asSets_59 : decode cX2_asSets 59 = .ok (.lload_n 2, 1) := by decide +kernel
theorem dX2_asSets_60 : decode cX2_asSets 60 = .ok (.lreturn, 1) := by decide +kernel
set_option maxRecDepth 20000 in
theorem ggX2_becomeMembers_J13_bitCount_95d88 : GoodIn wsX2_becomeMembers wsJ13_bitCount_95d88 := goodIn_r _ [5, 6, 7, 8] (by decide +kernel) (by decide +kernel)
set_option maxRecDepth 20000 in
theorem gX2_becomeMembers_J13_bitCount_95d88 : GoodIn wsX2_becomeMembers (va_wsS RX2 32 yJ13_bitCount_95d88 wsJ13_bitCount_95d88) := goodIn_app (goodIn_of _ (by decide +kernel)) ggX2_becomeMembers_J13_bitCount_95d88
set_option maxRecDepth 20000 in
theorem ggX2_becomeMembers_X2_begin : GoodIn wsX2_becomeMembers wsX2_begin := goodIn_r _ [13, 14, 1, 15, 16, 17, 18, 19, 32, 33, 34] (by decide +kernel) (by decide +kernel)
set_option maxRecDepth 20000 in
theorem gX2_becomeMembers_X2_begin : GoodIn wsX2_becomeMembers (wsV RX2 38 RX2 yX2_begin wsX2_begin) := goodIn_app (goodIn_of _ (by decide +kernel)) ggX2_becomeMembers_X2_begin
set_option maxRecDepth 20000 in
theorem ggX2_becomeMembers_X0_holds : GoodIn wsX2_becomeMembers wsX0_holds := goodIn_r _ [23] (by decide +kernel) (by decide +kernel)
set_option maxRecDepth 20000 in
theorem gX2_becomeMembers_X0_holds : GoodIn wsX2_becomeMembers (va_wsS RX2 42 yX0_holds wsX0_holds) := goodIn_app (goodIn_of _ (by decide +kernel)) ggX2_becomeMembers_X0_holds
set_option maxRecDepth 20000 in
theorem ggX2_becomeMembers_X2_write : GoodIn wsX2_becomeMembers wsX2_write := goodIn_r _ [27, 15, 28, 29, 30, 12, 31, 14, 32, 33, 34] (by decide +kernel) (by decide +kernel)
set_option maxRecDepth 20000 in
theorem gX2_becomeMembers_X2_write : GoodIn wsX2_becomeMembers (wsV RX2 48 RX2 yX2_write wsX2_write) := goodIn_app (goodIn_of _ (by decide +kernel)) ggX2_becomeMembers_X2_write
theorem dX2_becomeMembers_0 : decode cX2_becomeMembers 0 = .ok (.aload_n 0, 1) := by decide +kernel
theorem dX2_becomeMembers_1 : decode cX2_becomeMembers 1 = .ok (.iload_n 3, 1) := by decide +kernel
theorem dX2_becomeMembers_2 : decode cX2_becomeMembers 2 = .ok (.lload_n 1, 1) := by decide +kernel
theorem dX2_becomeMembers_3 : decode cX2_becomeMembers 3 = .ok (.invokestatic 32, 3) := by decide +kernel
theorem dX2_becomeMembers_6 : decode cX2_becomeMembers 6 = .ok (.invokevirtual 38, 3) := by decide +kernel
theorem dX2_becomeMembers_9 : decode cX2_becomeMembers 9 = .ok (.iconst 0, 1) := by decide +kernel
theorem dX2_becomeMembers_10 : decode cX2_becomeMembers 10 = .ok (.istore 4, 2) := by decide +kernel
theorem dX2_becomeMembers_12 : decode cX2_becomeMembers 12 = .ok (.iconst 0, 1) := by decide +kernel
theorem dX2_becomeMembers_13 : decode cX2_becomeMembers 13 = .ok (.istore 5, 2) := by decide +kernel
theorem dX2_becomeMembers_15 : decode cX2_becomeMembers 15 = .ok (.iload 5, 2) := by decide +kernel
theorem dX2_becomeMembers_17 : decode cX2_becomeMembers 17 = .ok (.bipush 64, 2) := by decide +kernel
theorem dX2_becomeMembers_19 : decode cX2_becomeMembers 19 = .ok (.if_icmp .ge 39, 3) := by decide +kernel
theorem dX2_becomeMembers_22 : decode cX2_becomeMembers 22 = .ok (.iload 4, 2) := by decide +kernel
theorem dX2_becomeMembers_24 : decode cX2_becomeMembers 24 = .ok (.aload_n 0, 1) := by decide +kernel
theorem dX2_becomeMembers_25 : decode cX2_becomeMembers 25 = .ok (.getfield 15, 3) := by decide +kernel
theorem dX2_becomeMembers_28 : decode cX2_becomeMembers 28 = .ok (.if_icmp .ge 30, 3) := by decide +kernel
theorem dX2_becomeMembers_31 : decode cX2_becomeMembers 31 = .ok (.lload_n 1, 1) := by decide +kernel
theorem dX2_becomeMembers_32 : decode cX2_becomeMembers 32 = .ok (.iload 5, 2) := by decide +kernel
theorem dX2_becomeMembers_34 : decode cX2_becomeMembers 34 = .ok (.invokestatic 42, 3) := by decide +kernel
theorem dX2_becomeMembers_37 : decode cX2_becomeMembers 37 = .ok (.ifCond .eq 15, 3) := by decide +kernel
theorem dX2_becomeMembers_40 : decode cX2_becomeMembers 40 = .ok (.aload_n 0, 1) := by decide +kernel
theorem dX2_becomeMembers_41 : decode cX2_becomeMembers 41 = .ok (.iload 4, 2) := by decide +kernel
theorem dX2_becomeMembers_43 : decode cX2_becomeMembers 43 = .ok (.iload 5, 2) := by decide +kernel
theorem dX2_becomeMembers_45 : decode cX2_becomeMembers 45 = .ok (.i2l, 1) := by decide +kernel
theorem dX2_becomeMembers_46 : decode cX2_becomeMembers 46 = .ok (.invokevirtual 48, 3) := by decide +kernel
theorem dX2_becomeMembers_49 : decode cX2_becomeMembers 49 = .ok (.iinc 4 1, 3) := by decide +kernel
theorem dX2_becomeMembers_52 : decode cX2_becomeMembers 52 = .ok (.iinc 5 1, 3) := by decide +kernel
theorem dX2_becomeMembers_55 : decode cX2_becomeMembers 55 = .ok (.goto (-40), 3) := by decide +kernel
theorem dX2_becomeMembers_58 : decode cX2_becomeMembers 58 = .ok (.return_, 1) := by decide +kernel
set_option maxRecDepth 20000 in
theorem ggX3_init_X3_rowsOver : GoodIn wsX3_init wsX3_rowsOver := goodIn_r _ [12] (by decide +kernel) (by decide +kernel)
set_option maxRecDepth 20000 in
theorem gX3_init_X3_rowsOver : GoodIn wsX3_init (va_wsS RX3 23 yX3_rowsOver wsX3_rowsOver) := goodIn_app (goodIn_of _ (by decide +kernel)) ggX3_init_X3_rowsOver
theorem dX3_init_0 : decode cX3_init 0 = .ok (.aload_n 0, 1) := by decide +kernel
theorem dX3_init_1 : decode cX3_init 1 = .ok (.invokespecial 3, 3) := by decide +kernel
theorem dX3_init_4 : decode cX3_init 4 = .ok (.aload_n 0, 1) := by decide +kernel
theorem dX3_init_5 : decode cX3_init 5 = .ok (.iconst 4, 1) := by decide +kernel
theorem dX3_init_6 : decode cX3_init 6 = .ok (.putfield 9, 3) := by decide +kernel
theorem dX3_init_9 : decode cX3_init 9 = .ok (.aload_n 0, 1) := by decide +kernel
theorem dX3_init_10 : decode cX3_init 10 = .ok (.bipush 64, 2) := by decide +kernel
theorem dX3_init_12 : decode cX3_init 12 = .ok (.newarray .long, 2) := by decide +kernel
theorem dX3_init_14 : decode cX3_init 14 = .ok (.putfield 15, 3) := by decide +kernel
theorem dX3_init_17 : decode cX3_init 17 = .ok (.aload_n 0, 1) := by decide +kernel
theorem dX3_init_18 : decode cX3_init 18 = .ok (.bipush 64, 2) := by decide +kernel
theorem dX3_init_20 : decode cX3_init 20 = .ok (.newarray .int, 2) := by decide +kernel
theorem dX3_init_22 : decode cX3_init 22 = .ok (.putfield 19, 3) := by decide +kernel
theorem dX3_init_25 : decode cX3_init 25 = .ok (.iconst 0, 1) := by decide +kernel
theorem dX3_init_26 : decode cX3_init 26 = .ok (.istore_n 1, 1) := by decide +kernel
theorem dX3_init_27 : decode cX3_init 27 = .ok (.iload_n 1, 1) := by decide +kernel
theorem dX3_init_28 : decode cX3_init 28 = .ok (.bipush 64, 2) := by decide +kernel
theorem dX3_init_30 : decode cX3_init 30 = .ok (.if_icmp .ge 44, 3) := by decide +kernel
theorem dX3_init_33 : decode cX3_init 33 = .ok (.iconst 0, 1) := by decide +kernel
theorem dX3_init_34 : decode cX3_init 34 = .ok (.istore_n 2, 1) := by decide +kernel
theorem dX3_init_35 : decode cX3_init 35 = .ok (.iload_n 2, 1) := by decide +kernel
theorem dX3_init_36 : decode cX3_init 36 = .ok (.bipush 6, 2) := by decide +kernel
theorem dX3_init_38 : decode cX3_init 38 = .ok (.if_icmp .ge 30, 3) := by decide +kernel
theorem dX3_init_41 : decode cX3_init 41 = .ok (.iload_n 1, 1) := by decide +kernel
theorem dX3_init_42 : decode cX3_init 42 = .ok (.iload_n 2, 1) := by decide +kernel
theorem dX3_init_43 : decode cX3_init 43 = .ok (.ishr, 1) := by decide +kernel
theorem dX3_init_44 : decode cX3_init 44 = .ok (.iconst 1, 1) := by decide +kernel
theorem dX3_init_45 : decode cX3_init 45 = .ok (.iand, 1) := by decide +kernel
theorem dX3_init_46 : decode cX3_init 46 = .ok (.ifCond .eq 16, 3) := by decide +kernel
theorem dX3_init_49 : decode cX3_init 49 = .ok (.aload_n 0, 1) := by decide +kernel
theorem dX3_init_50 : decode cX3_init 50 = .ok (.getfield 19, 3) := by decide +kernel
theorem dX3_init_53 : decode cX3_init 53 = .ok (.iload_n 1, 1) := by decide +kernel
theorem dX3_init_54 : decode cX3_init 54 = .ok (.dup2, 1) := by decide +kernel
theorem dX3_init_55 : decode cX3_init 55 = .ok (.iaload, 1) := by decide +kernel
theorem dX3_init_56 : decode cX3_init 56 = .ok (.iload_n 2, 1) := by decide +kernel
theorem dX3_init_57 : decode cX3_init 57 = .ok (.invokestatic 23, 3) := by decide +kernel
theorem dX3_init_60 : decode cX3_init 60 = .ok (.iadd, 1) := by decide +kernel
theorem dX3_init_61 : decode cX3_init 61 = .ok (.iastore, 1) := by decide +kernel
theorem dX3_init_62 : decode cX3_init 62 = .ok (.iinc 2 1, 3) := by decide +kernel
theorem dX3_init_65 : decode cX3_init 65 = .ok (.goto (-30), 3) := by decide +kernel
theorem dX3_init_68 : decode cX3_init 68 = .ok (.iinc 1 1, 3) := by decide +kernel
theorem dX3_init_71 : decode cX3_init 71 = .ok (.goto (-44), 3) := by decide +kernel
theorem dX3_init_74 : decode cX3_init 74 = .ok (.return_, 1) := by decide +kernel
theorem dX3_rowsOver_0 : decode cX3_rowsOver 0 = .ok (.iconst 1, 1) := by decide +kernel
theorem dX3_rowsOver_1 : decode cX3_rowsOver 1 = .ok (.istore_n 1, 1) := by decide +kernel
theorem dX3_rowsOver_2 : decode cX3_rowsOver 2 = .ok (.iconst 0, 1) := by decide +kernel
theorem dX3_rowsOver_3 : decode cX3_rowsOver 3 = .ok (.istore_n 2, 1) := by decide +kernel
theorem dX3_rowsOver_4 : decode cX3_rowsOver 4 = .ok (.iload_n 2, 1) := by decide +kernel
theorem dX3_rowsOver_5 : decode cX3_rowsOver 5 = .ok (.iload_n 0, 1) := by decide +kernel
theorem dX3_rowsOver_6 : decode cX3_rowsOver 6 = .ok (.if_icmp .ge 13, 3) := by decide +kernel
theorem dX3_rowsOver_9 : decode cX3_rowsOver 9 = .ok (.iload_n 1, 1) := by decide +kernel
theorem dX3_rowsOver_10 : decode cX3_rowsOver 10 = .ok (.iconst 3, 1) := by decide +kernel
theorem dX3_rowsOver_11 : decode cX3_rowsOver 11 = .ok (.imul, 1) := by decide +kernel
theorem dX3_rowsOver_12 : decode cX3_rowsOver 12 = .ok (.istore_n 1, 1) := by decide +kernel
theorem dX3_rowsOver_13 : decode cX3_rowsOver 13 = .ok (.iinc 2 1, 3) := by decide +kernel
theorem dX3_rowsOver_16 : decode cX3_rowsOver 16 = .ok (.goto (-12), 3) := by decide +kernel
theorem dX3_rowsOver_19 : decode cX3_rowsOver 19 = .ok (.iload_n 1, 1) := by decide +kernel
theorem dX3_rowsOver_20 : decode cX3_rowsOver 20 = .ok (.ireturn, 1) := by decide +kernel
set_option maxRecDepth 20000 in
theorem ggX3_fill_J7_fill_d0a16 : GoodIn wsX3_fill wsJ7_fill_d0a16 := goodIn_r _ [6] (by decide +kernel) (by decide +kernel)
set_option maxRecDepth 20000 in
theorem gX3_fill_J7_fill_d0a16 : GoodIn wsX3_fill (va_wsS RX3 27 yJ7_fill_d0a16 wsJ7_fill_d0a16) := goodIn_app (goodIn_of _ (by decide +kernel)) ggX3_fill_J7_fill_d0a16
set_option maxRecDepth 20000 in
theorem ggX3_fill_X0_holds : GoodIn wsX3_fill wsX0_holds := goodIn_r _ [10] (by decide +kernel) (by decide +kernel)
set_option maxRecDepth 20000 in
theorem gX3_fill_X0_holds : GoodIn wsX3_fill (va_wsS RX3 33 yX0_holds wsX0_holds) := goodIn_app (goodIn_of _ (by decide +kernel)) ggX3_fill_X0_holds
set_option maxRecDepth 20000 in
theorem ggX3_fill_X3_addAll : GoodIn wsX3_fill wsX3_addAll := goodIn_r _ [15, 1, 2, 7, 8, 9, 10, 16, 17, 18] (by decide +kernel) (by decide +kernel)
set_option maxRecDepth 20000 in
theorem gX3_fill_X3_addAll : GoodIn wsX3_fill (wsV RX3 39 RX3 yX3_addAll wsX3_addAll) := goodIn_app (goodIn_of _ (by decide +kernel)) ggX3_fill_X3_addAll
theorem dX3_fill_0 : decode cX3_fill 0 = .ok (.aload_n 0, 1) := by decide +kernel
theorem dX3_fill_1 : decode cX3_fill 1 = .ok (.iload 5, 2) := by decide +kernel
theorem dX3_fill_3 : decode cX3_fill 3 = .ok (.putfield 9, 3) := by decide +kernel
theorem dX3_fill_6 : decode cX3_fill 6 = .ok (.aload_n 0, 1) := by decide +kernel
theorem dX3_fill_7 : decode cX3_fill 7 = .ok (.getfield 15, 3) := by decide +kernel
theorem dX3_fill_10 : decode cX3_fill 10 = .ok (.lconst 0, 1) := by decide +kernel
theorem dX3_fill_11 : decode cX3_fill 11 = .ok (.invokestatic 27, 3) := by decide +kernel
theorem dX3_fill_14 : decode cX3_fill 14 = .ok (.iconst 0, 1) := by decide +kernel
theorem dX3_fill_15 : decode cX3_fill 15 = .ok (.istore 6, 2) := by decide +kernel
theorem dX3_fill_17 : decode cX3_fill 17 = .ok (.iload 6, 2) := by decide +kernel
theorem dX3_fill_19 : decode cX3_fill 19 = .ok (.iconst 1, 1) := by decide +kernel
theorem dX3_fill_20 : decode cX3_fill 20 = .ok (.aload_n 0, 1) := by decide +kernel
theorem dX3_fill_21 : decode cX3_fill 21 = .ok (.getfield 9, 3) := by decide +kernel
theorem dX3_fill_24 : decode cX3_fill 24 = .ok (.ishl, 1) := by decide +kernel
theorem dX3_fill_25 : decode cX3_fill 25 = .ok (.if_icmp .ge 25, 3) := by decide +kernel
theorem dX3_fill_28 : decode cX3_fill 28 = .ok (.lload_n 1, 1) := by decide +kernel
theorem dX3_fill_29 : decode cX3_fill 29 = .ok (.iload 6, 2) := by decide +kernel
theorem dX3_fill_31 : decode cX3_fill 31 = .ok (.invokestatic 33, 3) := by decide +kernel
theorem dX3_fill_34 : decode cX3_fill 34 = .ok (.ifCond .eq 10, 3) := by decide +kernel
theorem dX3_fill_37 : decode cX3_fill 37 = .ok (.aload_n 0, 1) := by decide +kernel
theorem dX3_fill_38 : decode cX3_fill 38 = .ok (.iload 6, 2) := by decide +kernel
theorem dX3_fill_40 : decode cX3_fill 40 = .ok (.lload_n 3, 1) := by decide +kernel
theorem dX3_fill_41 : decode cX3_fill 41 = .ok (.invokevirtual 39, 3) := by decide +kernel
theorem dX3_fill_44 : decode cX3_fill 44 = .ok (.iinc 6 1, 3) := by decide +kernel
theorem dX3_fill_47 : decode cX3_fill 47 = .ok (.goto (-30), 3) := by decide +kernel
theorem dX3_fill_50 : decode cX3_fill 50 = .ok (.return_, 1) := by decide +kernel
set_option maxRecDepth 20000 in
theorem ggX3_addAll_X0_holds : GoodIn wsX3_addAll wsX0_holds := goodIn_r _ [6] (by decide +kernel) (by decide +kernel)
set_option maxRecDepth 20000 in
theorem gX3_addAll_X0_holds : GoodIn wsX3_addAll (va_wsS RX3 33 yX0_holds wsX0_holds) := goodIn_app (goodIn_of _ (by decide +kernel)) ggX3_addAll_X0_holds
theorem dX3_addAll_0 : decode cX3_addAll 0 = .ok (.iconst 0, 1) := by decide +kernel
theorem dX3_addAll_1 : decode cX3_addAll 1 = .ok (.istore 4, 2) := by decide +kernel
theorem dX3_addAll_3 : decode cX3_addAll 3 = .ok (.iload 4, 2) := by decide +kernel
theorem dX3_addAll_5 : decode cX3_addAll 5 = .ok (.iconst 1, 1) := by decide +kernel
theorem dX3_addAll_6 : decode cX3_addAll 6 = .ok (.aload_n 0, 1) := by decide +kernel
theorem dX3_addAll_7 : decode cX3_addAll 7 = .ok (.getfield 9, 3) := by decide +kernel
theorem dX3_addAll_10 : decode cX3_addAll 10 = .ok (.ishl, 1) := by decide +kernel
theorem dX3_addAll_11 : decode cX3_addAll 11 = .ok (.if_icmp .ge 36, 3) := by decide +kernel
theorem dX3_addAll_14 : decode cX3_addAll 14 = .ok (.lload_n 2, 1) := by decide +kernel
theorem dX3_addAll_15 : decode cX3_addAll 15 = .ok (.iload 4, 2) := by decide +kernel
theorem dX3_addAll_17 : decode cX3_addAll 17 = .ok (.invokestatic 33, 3) := by decide +kernel
theorem dX3_addAll_20 : decode cX3_addAll 20 = .ok (.ifCond .eq 21, 3) := by decide +kernel
theorem dX3_addAll_23 : decode cX3_addAll 23 = .ok (.aload_n 0, 1) := by decide +kernel
theorem dX3_addAll_24 : decode cX3_addAll 24 = .ok (.getfield 15, 3) := by decide +kernel
theorem dX3_addAll_27 : decode cX3_addAll 27 = .ok (.iload_n 1, 1) := by decide +kernel
theorem dX3_addAll_28 : decode cX3_addAll 28 = .ok (.iload 4, 2) := by decide +kernel
theorem dX3_addAll_30 : decode cX3_addAll 30 = .ok (.ior, 1) := by decide +kernel
theorem dX3_addAll_31 : decode cX3_addAll 31 = .ok (.dup2, 1) := by decide +kernel
theorem dX3_addAll_32 : decode cX3_addAll 32 = .ok (.laload, 1) := by decide +kernel
theorem dX3_addAll_33 : decode cX3_addAll 33 = .ok (.lconst 1, 1) := by decide +kernel
theorem dX3_addAll_34 : decode cX3_addAll 34 = .ok (.iload_n 1, 1) := by decide +kernel
theorem dX3_addAll_35 : decode cX3_addAll 35 = .ok (.iload 4, 2) := by decide +kernel
theorem dX3_addAll_37 : decode cX3_addAll 37 = .ok (.iand, 1) := by decide +kernel
theorem dX3_addAll_38 : decode cX3_addAll 38 = .ok (.lshl, 1) := by decide +kernel
theorem dX3_addAll_39 : decode cX3_addAll 39 = .ok (.lor, 1) := by decide +kernel
theorem dX3_addAll_40 : decode cX3_addAll 40 = .ok (.lastore, 1) := by decide +kernel
theorem dX3_addAll_41 : decode cX3_addAll 41 = .ok (.iinc 4 1, 3) := by decide +kernel
theorem dX3_addAll_44 : decode cX3_addAll 44 = .ok (.goto (-41), 3) := by decide +kernel
theorem dX3_addAll_47 : decode cX3_addAll 47 = .ok (.return_, 1) := by decide +kernel
set_option maxRecDepth 20000 in
theorem ggX3_holdsRow_X0_holds : GoodIn wsX3_holdsRow wsX0_holds := goodIn_r _ [5] (by decide +kernel) (by decide +kernel)
set_option maxRecDepth 20000 in
theorem gX3_holdsRow_X0_holds : GoodIn wsX3_holdsRow (va_wsS RX3 33 yX0_holds wsX0_holds) := goodIn_app (goodIn_of _ (by decide +kernel)) ggX3_holdsRow_X0_holds
theorem dX3_holdsRow_0 : decode cX3_holdsRow 0 = .ok (.aload_n 0, 1) := by decide +kernel
theorem dX3_holdsRow_1 : decode cX3_holdsRow 1 = .ok (.getfield 15, 3) := by decide +kernel
theorem dX3_holdsRow_4 : decode cX3_holdsRow 4 = .ok (.iload_n 1, 1) := by decide +kernel
theorem dX3_holdsRow_5 : decode cX3_holdsRow 5 = .ok (.laload, 1) := by decide +kernel
theorem dX3_holdsRow_6 : decode cX3_holdsRow 6 = .ok (.iload_n 2, 1) := by decide +kernel
theorem dX3_holdsRow_7 : decode cX3_holdsRow 7 = .ok (.invokestatic 33, 3) := by decide +kernel
theorem dX3_holdsRow_10 : decode cX3_holdsRow 10 = .ok (.ireturn, 1) := by decide +kernel
set_option maxRecDepth 20000 in
theorem ggX3_holdsNumber_X3_holdsRow : GoodIn wsX3_holdsNumber wsX3_holdsRow := goodIn_r _ [6, 7, 8, 9, 10, 11, 12, 13, 14] (by decide +kernel) (by decide +kernel)
set_option maxRecDepth 20000 in
theorem gX3_holdsNumber_X3_holdsRow : GoodIn wsX3_holdsNumber (wsV RX3 43 RX3 yX3_holdsRow wsX3_holdsRow) := goodIn_app (goodIn_of _ (by decide +kernel)) ggX3_holdsNumber_X3_holdsRow
theorem dX3_holdsNumber_0 : decode cX3_holdsNumber 0 = .ok (.iconst 0, 1) := by decide +kernel
theorem dX3_holdsNumber_1 : decode cX3_holdsNumber 1 = .ok (.istore_n 2, 1) := by decide +kernel
theorem dX3_holdsNumber_2 : decode cX3_holdsNumber 2 = .ok (.iconst 0, 1) := by decide +kernel
theorem dX3_holdsNumber_3 : decode cX3_holdsNumber 3 = .ok (.istore_n 3, 1) := by decide +kernel
theorem dX3_holdsNumber_4 : decode cX3_holdsNumber 4 = .ok (.iload_n 1, 1) := by decide +kernel
theorem dX3_holdsNumber_5 : decode cX3_holdsNumber 5 = .ok (.istore 4, 2) := by decide +kernel
theorem dX3_holdsNumber_7 : decode cX3_holdsNumber 7 = .ok (.iconst 0, 1) := by decide +kernel
theorem dX3_holdsNumber_8 : decode cX3_holdsNumber 8 = .ok (.istore 5, 2) := by decide +kernel
theorem dX3_holdsNumber_10 : decode cX3_holdsNumber 10 = .ok (.iload 5, 2) := by decide +kernel
theorem dX3_holdsNumber_12 : decode cX3_holdsNumber 12 = .ok (.aload_n 0, 1) := by decide +kernel
theorem dX3_holdsNumber_13 : decode cX3_holdsNumber 13 = .ok (.getfield 9, 3) := by decide +kernel
theorem dX3_holdsNumber_16 : decode cX3_holdsNumber 16 = .ok (.if_icmp .ge 55, 3) := by decide +kernel
theorem dX3_holdsNumber_19 : decode cX3_holdsNumber 19 = .ok (.iload 4, 2) := by decide +kernel
theorem dX3_holdsNumber_21 : decode cX3_holdsNumber 21 = .ok (.iconst 3, 1) := by decide +kernel
theorem dX3_holdsNumber_22 : decode cX3_holdsNumber 22 = .ok (.irem, 1) := by decide +kernel
theorem dX3_holdsNumber_23 : decode cX3_holdsNumber 23 = .ok (.istore 6, 2) := by decide +kernel
theorem dX3_holdsNumber_25 : decode cX3_holdsNumber 25 = .ok (.iload 4, 2) := by decide +kernel
theorem dX3_holdsNumber_27 : decode cX3_holdsNumber 27 = .ok (.iconst 3, 1) := by decide +kernel
theorem dX3_holdsNumber_28 : decode cX3_holdsNumber 28 = .ok (.idiv, 1) := by decide +kernel
theorem dX3_holdsNumber_29 : decode cX3_holdsNumber 29 = .ok (.istore 4, 2) := by decide +kernel
theorem dX3_holdsNumber_31 : decode cX3_holdsNumber 31 = .ok (.iload_n 2, 1) := by decide +kernel
theorem dX3_holdsNumber_32 : decode cX3_holdsNumber 32 = .ok (.iload 6, 2) := by decide +kernel
theorem dX3_holdsNumber_34 : decode cX3_holdsNumber 34 = .ok (.iconst 1, 1) := by decide +kernel
theorem dX3_holdsNumber_35 : decode cX3_holdsNumber 35 = .ok (.if_icmp .lt 10, 3) := by decide +kernel
theorem dX3_holdsNumber_38 : decode cX3_holdsNumber 38 = .ok (.iconst 1, 1) := by decide +kernel
theorem dX3_holdsNumber_39 : decode cX3_holdsNumber 39 = .ok (.iload 5, 2) := by decide +kernel
theorem dX3_holdsNumber_41 : decode cX3_holdsNumber 41 = .ok (.ishl, 1) := by decide +kernel
theorem dX3_holdsNumber_42 : decode cX3_holdsNumber 42 = .ok (.goto 4, 3) := by decide +kernel
theorem dX3_holdsNumber_45 : decode cX3_holdsNumber 45 = .ok (.iconst 0, 1) := by decide +kernel
theorem dX3_holdsNumber_46 : decode cX3_holdsNumber 46 = .ok (.ior, 1) := by decide +kernel
theorem dX3_holdsNumber_47 : decode cX3_holdsNumber 47 = .ok (.istore_n 2, 1) := by decide +kernel
theorem dX3_holdsNumber_48 : decode cX3_holdsNumber 48 = .ok (.iload_n 3, 1) := by decide +kernel
theorem dX3_holdsNumber_49 : decode cX3_holdsNumber 49 = .ok (.iload 6, 2) := by decide +kernel
theorem dX3_holdsNumber_51 : decode cX3_holdsNumber 51 = .ok (.iconst 2, 1) := by decide +kernel
theorem dX3_holdsNumber_52 : decode cX3_holdsNumber 52 = .ok (.if_icmp .ne 10, 3) := by decide +kernel
theorem dX3_holdsNumber_55 : decode cX3_holdsNumber 55 = .ok (.iconst 1, 1) := by decide +kernel
theorem dX3_holdsNumber_56 : decode cX3_holdsNumber 56 = .ok (.iload 5, 2) := by decide +kernel
theorem dX3_holdsNumber_58 : decode cX3_holdsNumber 58 = .ok (.ishl, 1) := by decide +kernel
theorem dX3_holdsNumber_59 : decode cX3_holdsNumber 59 = .ok (.goto 4, 3) := by decide +kernel
theorem dX3_holdsNumber_62 : decode cX3_holdsNumber 62 = .ok (.iconst 0, 1) := by decide +kernel
theorem dX3_holdsNumber_63 : decode cX3_holdsNumber 63 = .ok (.ior, 1) := by decide +kernel
theorem dX3_holdsNumber_64 : decode cX3_holdsNumber 64 = .ok (.istore_n 3, 1) := by decide +kernel
theorem dX3_holdsNumber_65 : decode cX3_holdsNumber 65 = .ok (.iinc 5 1, 3) := by decide +kernel
theorem dX3_holdsNumber_68 : decode cX3_holdsNumber 68 = .ok (.goto (-58), 3) := by decide +kernel
theorem dX3_holdsNumber_71 : decode cX3_holdsNumber 71 = .ok (.aload_n 0, 1) := by decide +kernel
theorem dX3_holdsNumber_72 : decode cX3_holdsNumber 72 = .ok (.iload_n 2, 1) := by decide +kernel
theorem dX3_holdsNumber_73 : decode cX3_holdsNumber 73 = .ok (.iload_n 3, 1) := by decide +kernel
theorem dX3_holdsNumber_74 : decode cX3_holdsNumber 74 = .ok (.invokevirtual 43, 3) := by decide +kernel
theorem dX3_holdsNumber_77 : decode cX3_holdsNumber 77 = .ok (.ireturn, 1) := by decide +kernel
set_option maxRecDepth 20000 in
theorem ggX3_howMany_J13_bitCount_95d88 : GoodIn wsX3_howMany wsJ13_bitCount_95d88 := goodIn_r _ [5, 6, 7, 8] (by decide +kernel) (by decide +kernel)
set_option maxRecDepth 20000 in
theorem gX3_howMany_J13_bitCount_95d88 : GoodIn wsX3_howMany (va_wsS RX3 47 yJ13_bitCount_95d88 wsJ13_bitCount_95d88) := goodIn_app (goodIn_of _ (by decide +kernel)) ggX3_howMany_J13_bitCount_95d88
theorem dX3_howMany_0 : decode cX3_howMany 0 = .ok (.iconst 0, 1) := by decide +kernel
theorem dX3_howMany_1 : decode cX3_howMany 1 = .ok (.istore_n 1, 1) := by decide +kernel
theorem dX3_howMany_2 : decode cX3_howMany 2 = .ok (.aload_n 0, 1) := by decide +kernel
theorem dX3_howMany_3 : decode cX3_howMany 3 = .ok (.getfield 15, 3) := by decide +kernel
theorem dX3_howMany_6 : decode cX3_howMany 6 = .ok (.astore_n 2, 1) := by decide +kernel
theorem dX3_howMany_7 : decode cX3_howMany 7 = .ok (.aload_n 2, 1) := by decide +kernel
theorem dX3_howMany_8 : decode cX3_howMany 8 = .ok (.arraylength, 1) := by decide +kernel
theorem dX3_howMany_9 : decode cX3_howMany 9 = .ok (.istore_n 3, 1) := by decide +kernel
theorem dX3_howMany_10 : decode cX3_howMany 10 = .ok (.iconst 0, 1) := by decide +kernel
theorem dX3_howMany_11 : decode cX3_howMany 11 = .ok (.istore 4, 2) := by decide +kernel
theorem dX3_howMany_13 : decode cX3_howMany 13 = .ok (.iload 4, 2) := by decide +kernel
theorem dX3_howMany_15 : decode cX3_howMany 15 = .ok (.iload_n 3, 1) := by decide +kernel
theorem dX3_howMany_16 : decode cX3_howMany 16 = .ok (.if_icmp .ge 23, 3) := by decide +kernel
theorem dX3_howMany_19 : decode cX3_howMany 19 = .ok (.aload_n 2, 1) := by decide +kernel
theorem dX3_howMany_20 : decode cX3_howMany 20 = .ok (.iload 4, 2) := by decide +kernel
theorem dX3_howMany_22 : decode cX3_howMany 22 = .ok (.laload, 1) := by decide +kernel
theorem dX3_howMany_23 : decode cX3_howMany 23 = .ok (.lstore 5, 2) := by decide +kernel
theorem dX3_howMany_25 : decode cX3_howMany 25 = .ok (.iload_n 1, 1) := by decide +kernel
theorem dX3_howMany_26 : decode cX3_howMany 26 = .ok (.lload 5, 2) := by decide +kernel
theorem dX3_howMany_28 : decode cX3_howMany 28 = .ok (.invokestatic 47, 3) := by decide +kernel
theorem dX3_howMany_31 : decode cX3_howMany 31 = .ok (.iadd, 1) := by decide +kernel
theorem dX3_howMany_32 : decode cX3_howMany 32 = .ok (.istore_n 1, 1) := by decide +kernel
theorem dX3_howMany_33 : decode cX3_howMany 33 = .ok (.iinc 4 1, 3) := by decide +kernel
theorem dX3_howMany_36 : decode cX3_howMany 36 = .ok (.goto (-23), 3) := by decide +kernel
theorem dX3_howMany_39 : decode cX3_howMany 39 = .ok (.iload_n 1, 1) := by decide +kernel
theorem dX3_howMany_40 : decode cX3_howMany 40 = .ok (.ireturn, 1) := by decide +kernel
set_option maxRecDepth 20000 in
theorem ggX3_least_X3_holdsRow : GoodIn wsX3_least wsX3_holdsRow := goodIn_r _ [7, 8, 9, 10, 11, 12, 13, 14, 15] (by decide +kernel) (by decide +kernel)
set_option maxRecDepth 20000 in
theorem gX3_least_X3_holdsRow : GoodIn wsX3_least (wsV RX3 43 RX3 yX3_holdsRow wsX3_holdsRow) := goodIn_app (goodIn_of _ (by decide +kernel)) ggX3_least_X3_holdsRow
theorem dX3_least_0 : decode cX3_least 0 = .ok (.iconst (-1), 1) := by decide +kernel
theorem dX3_least_1 : decode cX3_least 1 = .ok (.istore_n 1, 1) := by decide +kernel
theorem dX3_least_2 : decode cX3_least 2 = .ok (.iconst 0, 1) := by decide +kernel
theorem dX3_least_3 : decode cX3_least 3 = .ok (.istore_n 2, 1) := by decide +kernel
theorem dX3_least_4 : decode cX3_least 4 = .ok (.iload_n 2, 1) := by decide +kernel
theorem dX3_least_5 : decode cX3_least 5 = .ok (.iconst 1, 1) := by decide +kernel
theorem dX3_least_6 : decode cX3_least 6 = .ok (.aload_n 0, 1) := by decide +kernel
theorem dX3_least_7 : decode cX3_least 7 = .ok (.getfield 9, 3) := by decide +kernel
theorem dX3_least_10 : decode cX3_least 10 = .ok (.ishl, 1) := by decide +kernel
theorem dX3_least_11 : decode cX3_least 11 = .ok (.if_icmp .ge 60, 3) := by decide +kernel
theorem dX3_least_14 : decode cX3_least 14 = .ok (.iconst 0, 1) := by decide +kernel
theorem dX3_least_15 : decode cX3_least 15 = .ok (.istore_n 3, 1) := by decide +kernel
theorem dX3_least_16 : decode cX3_least 16 = .ok (.iload_n 3, 1) := by decide +kernel
theorem dX3_least_17 : decode cX3_least 17 = .ok (.iload_n 2, 1) := by decide +kernel
theorem dX3_least_18 : decode cX3_least 18 = .ok (.if_icmp .gt 47, 3) := by decide +kernel
theorem dX3_least_21 : decode cX3_least 21 = .ok (.aload_n 0, 1) := by decide +kernel
theorem dX3_least_22 : decode cX3_least 22 = .ok (.getfield 19, 3) := by decide +kernel
theorem dX3_least_25 : decode cX3_least 25 = .ok (.iload_n 2, 1) := by decide +kernel
theorem dX3_least_26 : decode cX3_least 26 = .ok (.iaload, 1) := by decide +kernel
theorem dX3_least_27 : decode cX3_least 27 = .ok (.aload_n 0, 1) := by decide +kernel
theorem dX3_least_28 : decode cX3_least 28 = .ok (.getfield 19, 3) := by decide +kernel
theorem dX3_least_31 : decode cX3_least 31 = .ok (.iload_n 3, 1) := by decide +kernel
theorem dX3_least_32 : decode cX3_least 32 = .ok (.iaload, 1) := by decide +kernel
theorem dX3_least_33 : decode cX3_least 33 = .ok (.iadd, 1) := by decide +kernel
theorem dX3_least_34 : decode cX3_least 34 = .ok (.istore 4, 2) := by decide +kernel
theorem dX3_least_36 : decode cX3_least 36 = .ok (.aload_n 0, 1) := by decide +kernel
theorem dX3_least_37 : decode cX3_least 37 = .ok (.iload_n 2, 1) := by decide +kernel
theorem dX3_least_38 : decode cX3_least 38 = .ok (.iload_n 3, 1) := by decide +kernel
theorem dX3_least_39 : decode cX3_least 39 = .ok (.invokevirtual 43, 3) := by decide +kernel
theorem dX3_least_42 : decode cX3_least 42 = .ok (.ifCond .eq 17, 3) := by decide +kernel
theorem dX3_least_45 : decode cX3_least 45 = .ok (.iload_n 1, 1) := by decide +kernel
theorem dX3_least_46 : decode cX3_least 46 = .ok (.iconst (-1), 1) := by decide +kernel
theorem dX3_least_47 : decode cX3_least 47 = .ok (.if_icmp .eq 9, 3) := by decide +kernel
theorem dX3_least_50 : decode cX3_least 50 = .ok (.iload 4, 2) := by decide +kernel
theorem dX3_least_52 : decode cX3_least 52 = .ok (.iload_n 1, 1) := by decide +kernel
theorem dX3_least_53 : decode cX3_least 53 = .ok (.if_icmp .ge 6, 3) := by decide +kernel
theorem dX3_least_56 : decode cX3_least 56 = .ok (.iload 4, 2) := by decide +kernel
theorem dX3_least_58 : decode cX3_least 58 = .ok (.istore_n 1, 1) := by decide +kernel
theorem dX3_least_59 : decode cX3_least 59 = .ok (.iinc 3 1, 3) := by decide +kernel
theorem dX3_least_62 : decode cX3_least 62 = .ok (.goto (-46), 3) := by decide +kernel
theorem dX3_least_65 : decode cX3_least 65 = .ok (.iinc 2 1, 3) := by decide +kernel
theorem dX3_least_68 : decode cX3_least 68 = .ok (.goto (-64), 3) := by decide +kernel
theorem dX3_least_71 : decode cX3_least 71 = .ok (.iload_n 1, 1) := by decide +kernel
theorem dX3_least_72 : decode cX3_least 72 = .ok (.ireturn, 1) := by decide +kernel
set_option maxRecDepth 20000 in
theorem ggX3_greatest_X3_holdsRow : GoodIn wsX3_greatest wsX3_holdsRow := goodIn_r _ [11, 12, 13, 14, 15, 16, 17, 18, 19] (by decide +kernel) (by decide +kernel)
set_option maxRecDepth 20000 in
theorem gX3_greatest_X3_holdsRow : GoodIn wsX3_greatest (wsV RX3 43 RX3 yX3_holdsRow wsX3_holdsRow) := goodIn_app (goodIn_of _ (by decide +kernel)) ggX3_greatest_X3_holdsRow
theorem dX3_greatest_0 : decode cX3_greatest 0 = .ok (.iconst (-1), 1) := by decide +kernel
theorem dX3_greatest_1 : decode cX3_greatest 1 = .ok (.istore_n 1, 1) := by decide +kernel
theorem dX3_greatest_2 : decode cX3_greatest 2 = .ok (.iconst 0, 1) := by decide +kernel
theorem dX3_greatest_3 : decode cX3_greatest 3 = .ok (.istore_n 2, 1) := by decide +kernel
theorem dX3_greatest_4 : decode cX3_greatest 4 = .ok (.iload_n 2, 1) := by decide +kernel
theorem dX3_greatest_5 : decode cX3_greatest 5 = .ok (.iconst 1, 1) := by decide +kernel
theorem dX3_greatest_6 : decode cX3_greatest 6 = .ok (.aload_n 0, 1) := by decide +kernel
theorem dX3_greatest_7 : decode cX3_greatest 7 = .ok (.getfield 9, 3) := by decide +kernel
theorem dX3_greatest_10 : decode cX3_greatest 10 = .ok (.ishl, 1) := by decide +kernel
theorem dX3_greatest_11 : decode cX3_greatest 11 = .ok (.if_icmp .ge 49, 3) := by decide +kernel
theorem dX3_greatest_14 : decode cX3_greatest 14 = .ok (.iconst 0, 1) := by decide +kernel
theorem dX3_greatest_15 : decode cX3_greatest 15 = .ok (.istore_n 3, 1) := by decide +kernel
theorem dX3_greatest_16 : decode cX3_greatest 16 = .ok (.iload_n 3, 1) := by decide +kernel
theorem dX3_greatest_17 : decode cX3_greatest 17 = .ok (.iload_n 2, 1) := by decide +kernel
theorem dX3_greatest_18 : decode cX3_greatest 18 = .ok (.if_icmp .gt 36, 3) := by decide +kernel
theorem dX3_greatest_21 : decode cX3_greatest 21 = .ok (.aload_n 0, 1) := by decide +kernel
theorem dX3_greatest_22 : decode cX3_greatest 22 = .ok (.iload_n 2, 1) := by decide +kernel
theorem dX3_greatest_23 : decode cX3_greatest 23 = .ok (.iload_n 3, 1) := by decide +kernel
theorem dX3_greatest_24 : decode cX3_greatest 24 = .ok (.invokevirtual 43, 3) := by decide +kernel
theorem dX3_greatest_27 : decode cX3_greatest 27 = .ok (.ifCond .eq 21, 3) := by decide +kernel
theorem dX3_greatest_30 : decode cX3_greatest 30 = .ok (.iload_n 1, 1) := by decide +kernel
theorem dX3_greatest_31 : decode cX3_greatest 31 = .ok (.aload_n 0, 1) := by decide +kernel
theorem dX3_greatest_32 : decode cX3_greatest 32 = .ok (.getfield 19, 3) := by decide +kernel
theorem dX3_greatest_35 : decode cX3_greatest 35 = .ok (.iload_n 2, 1) := by decide +kernel
theorem dX3_greatest_36 : decode cX3_greatest 36 = .ok (.iaload, 1) := by decide +kernel
theorem dX3_greatest_37 : decode cX3_greatest 37 = .ok (.aload_n 0, 1) := by decide +kernel
theorem dX3_greatest_38 : decode cX3_greatest 38 = .ok (.getfield 19, 3) := by decide +kernel
theorem dX3_greatest_41 : decode cX3_greatest 41 = .ok (.iload_n 3, 1) := by decide +kernel
theorem dX3_greatest_42 : decode cX3_greatest 42 = .ok (.iaload, 1) := by decide +kernel
theorem dX3_greatest_43 : decode cX3_greatest 43 = .ok (.iadd, 1) := by decide +kernel
theorem dX3_greatest_44 : decode cX3_greatest 44 = .ok (.invokestatic 53, 3) := by decide +kernel
theorem dX3_greatest_47 : decode cX3_greatest 47 = .ok (.istore_n 1, 1) := by decide +kernel
theorem dX3_greatest_48 : decode cX3_greatest 48 = .ok (.iinc 3 1, 3) := by decide +kernel
theorem dX3_greatest_51 : decode cX3_greatest 51 = .ok (.goto (-35), 3) := by decide +kernel
theorem dX3_greatest_54 : decode cX3_greatest 54 = .ok (.iinc 2 1, 3) := by decide +kernel
theorem dX3_greatest_57 : decode cX3_greatest 57 = .ok (.goto (-53), 3) := by decide +kernel
theorem dX3_greatest_60 : decode cX3_greatest 60 = .ok (.iload_n 1, 1) := by decide +kernel
theorem dX3_greatest_61 : decode cX3_greatest 61 = .ok (.ireturn, 1) := by decide +kernel
set_option maxRecDepth 20000 in
theorem ggX3_areSprung_X3_holdsRow : GoodIn wsX3_areSprung wsX3_holdsRow := goodIn_r _ [7, 2, 8, 9, 10, 11, 32, 33, 34] (by decide +kernel) (by decide +kernel)
set_option maxRecDepth 20000 in
theorem gX3_areSprung_X3_holdsRow : GoodIn wsX3_areSprung (wsV RX3 43 RX3 yX3_holdsRow wsX3_holdsRow) := goodIn_app (goodIn_of _ (by decide +kernel)) ggX3_areSprung_X3_holdsRow
set_option maxRecDepth 20000 in
theorem ggX3_areSprung_X3_leavesOne : GoodIn wsX3_areSprung wsX3_leavesOne := goodIn_r _ [15, 1, 16, 17, 18, 6, 19, 3, 4, 5, 7, 2, 8, 9, 10, 11, 20, 21, 22, 23, 24, 25, 26, 27, 28, 29, 30, 31, 32, 33, 34] (by decide +kernel) (by decide +kernel)
set_option maxRecDepth 20000 in
theorem gX3_areSprung_X3_leavesOne : GoodIn wsX3_areSprung (wsV RX3 59 RX3 yX3_leavesOne wsX3_leavesOne) := goodIn_app (goodIn_of _ (by decide +kernel)) ggX3_areSprung_X3_leavesOne
theorem dX3_areSprung_0 : decode cX3_areSprung 0 = .ok (.iconst 0, 1) := by decide +kernel
theorem dX3_areSprung_1 : decode cX3_areSprung 1 = .ok (.istore_n 1, 1) := by decide +kernel
theorem dX3_areSprung_2 : decode cX3_areSprung 2 = .ok (.iconst 0, 1) := by decide +kernel
theorem dX3_areSprung_3 : decode cX3_areSprung 3 = .ok (.istore_n 2, 1) := by decide +kernel
theorem dX3_areSprung_4 : decode cX3_areSprung 4 = .ok (.iload_n 2, 1) := by decide +kernel
theorem dX3_areSprung_5 : decode cX3_areSprung 5 = .ok (.iconst 1, 1) := by decide +kernel
theorem dX3_areSprung_6 : decode cX3_areSprung 6 = .ok (.aload_n 0, 1) := by decide +kernel
theorem dX3_areSprung_7 : decode cX3_areSprung 7 = .ok (.getfield 9, 3) := by decide +kernel
theorem dX3_areSprung_10 : decode cX3_areSprung 10 = .ok (.ishl, 1) := by decide +kernel
theorem dX3_areSprung_11 : decode cX3_areSprung 11 = .ok (.if_icmp .ge 71, 3) := by decide +kernel
theorem dX3_areSprung_14 : decode cX3_areSprung 14 = .ok (.iload_n 1, 1) := by decide +kernel
theorem dX3_areSprung_15 : decode cX3_areSprung 15 = .ok (.ifCond .ne 14, 3) := by decide +kernel
theorem dX3_areSprung_18 : decode cX3_areSprung 18 = .ok (.aload_n 0, 1) := by decide +kernel
theorem dX3_areSprung_19 : decode cX3_areSprung 19 = .ok (.getfield 15, 3) := by decide +kernel
theorem dX3_areSprung_22 : decode cX3_areSprung 22 = .ok (.iload_n 2, 1) := by decide +kernel
theorem dX3_areSprung_23 : decode cX3_areSprung 23 = .ok (.laload, 1) := by decide +kernel
theorem dX3_areSprung_24 : decode cX3_areSprung 24 = .ok (.lconst 0, 1) := by decide +kernel
theorem dX3_areSprung_25 : decode cX3_areSprung 25 = .ok (.lcmp, 1) := by decide +kernel
theorem dX3_areSprung_26 : decode cX3_areSprung 26 = .ok (.ifCond .eq 7, 3) := by decide +kernel
theorem dX3_areSprung_29 : decode cX3_areSprung 29 = .ok (.iconst 1, 1) := by decide +kernel
theorem dX3_areSprung_30 : decode cX3_areSprung 30 = .ok (.goto 4, 3) := by decide +kernel
theorem dX3_areSprung_33 : decode cX3_areSprung 33 = .ok (.iconst 0, 1) := by decide +kernel
theorem dX3_areSprung_34 : decode cX3_areSprung 34 = .ok (.istore_n 1, 1) := by decide +kernel
theorem dX3_areSprung_35 : decode cX3_areSprung 35 = .ok (.iconst 0, 1) := by decide +kernel
theorem dX3_areSprung_36 : decode cX3_areSprung 36 = .ok (.istore_n 3, 1) := by decide +kernel
theorem dX3_areSprung_37 : decode cX3_areSprung 37 = .ok (.iload_n 3, 1) := by decide +kernel
theorem dX3_areSprung_38 : decode cX3_areSprung 38 = .ok (.iload_n 2, 1) := by decide +kernel
theorem dX3_areSprung_39 : decode cX3_areSprung 39 = .ok (.if_icmp .gt 37, 3) := by decide +kernel
theorem dX3_areSprung_42 : decode cX3_areSprung 42 = .ok (.iload_n 3, 1) := by decide +kernel
theorem dX3_areSprung_43 : decode cX3_areSprung 43 = .ok (.iload_n 2, 1) := by decide +kernel
theorem dX3_areSprung_44 : decode cX3_areSprung 44 = .ok (.iconst (-1), 1) := by decide +kernel
theorem dX3_areSprung_45 : decode cX3_areSprung 45 = .ok (.ixor, 1) := by decide +kernel
theorem dX3_areSprung_46 : decode cX3_areSprung 46 = .ok (.iand, 1) := by decide +kernel
theorem dX3_areSprung_47 : decode cX3_areSprung 47 = .ok (.ifCond .ne 23, 3) := by decide +kernel
theorem dX3_areSprung_50 : decode cX3_areSprung 50 = .ok (.aload_n 0, 1) := by decide +kernel
theorem dX3_areSprung_51 : decode cX3_areSprung 51 = .ok (.iload_n 2, 1) := by decide +kernel
theorem dX3_areSprung_52 : decode cX3_areSprung 52 = .ok (.iload_n 3, 1) := by decide +kernel
theorem dX3_areSprung_53 : decode cX3_areSprung 53 = .ok (.invokevirtual 43, 3) := by decide +kernel
theorem dX3_areSprung_56 : decode cX3_areSprung 56 = .ok (.ifCond .ne 14, 3) := by decide +kernel
theorem dX3_areSprung_59 : decode cX3_areSprung 59 = .ok (.aload_n 0, 1) := by decide +kernel
theorem dX3_areSprung_60 : decode cX3_areSprung 60 = .ok (.iload_n 2, 1) := by decide +kernel
theorem dX3_areSprung_61 : decode cX3_areSprung 61 = .ok (.iload_n 3, 1) := by decide +kernel
theorem dX3_areSprung_62 : decode cX3_areSprung 62 = .ok (.invokevirtual 59, 3) := by decide +kernel
theorem dX3_areSprung_65 : decode cX3_areSprung 65 = .ok (.ifCond .eq 5, 3) := by decide +kernel
theorem dX3_areSprung_68 : decode cX3_areSprung 68 = .ok (.iconst 0, 1) := by decide +kernel
theorem dX3_areSprung_69 : decode cX3_areSprung 69 = .ok (.ireturn, 1) := by decide +kernel
theorem dX3_areSprung_70 : decode cX3_areSprung 70 = .ok (.iinc 3 1, 3) := by decide +kernel
theorem dX3_areSprung_73 : decode cX3_areSprung 73 = .ok (.goto (-36), 3) := by decide +kernel
theorem dX3_areSprung_76 : decode cX3_areSprung 76 = .ok (.iinc 2 1, 3) := by decide +kernel
theorem dX3_areSprung_79 : decode cX3_areSprung 79 = .ok (.goto (-75), 3) := by decide +kernel
theorem dX3_areSprung_82 : decode cX3_areSprung 82 = .ok (.iload_n 1, 1) := by decide +kernel
theorem dX3_areSprung_83 : decode cX3_areSprung 83 = .ok (.ireturn, 1) := by decide +kernel
set_option maxRecDepth 20000 in
theorem ggX3_leavesOne_X3_stepUpMakesOne : GoodIn wsX3_leavesOne wsX3_stepUpMakesOne := goodIn_r _ [6, 7, 8, 9, 5, 10, 11, 12, 13, 14, 15, 28, 29, 30] (by decide +kernel) (by decide +kernel)
set_option maxRecDepth 20000 in
theorem gX3_leavesOne_X3_stepUpMakesOne : GoodIn wsX3_leavesOne (wsV RX3 62 RX3 yX3_stepUpMakesOne wsX3_stepUpMakesOne) := goodIn_app (goodIn_of _ (by decide +kernel)) ggX3_leavesOne_X3_stepUpMakesOne
set_option maxRecDepth 20000 in
theorem ggX3_leavesOne_X3_stepDownMakesOne : GoodIn wsX3_leavesOne wsX3_stepDownMakesOne := goodIn_r _ [19, 7, 8, 9, 5, 10, 11, 12, 13, 14, 15, 28, 29, 30] (by decide +kernel) (by decide +kernel)
set_option maxRecDepth 20000 in
theorem gX3_leavesOne_X3_stepDownMakesOne : GoodIn wsX3_leavesOne (wsV RX3 66 RX3 yX3_stepDownMakesOne wsX3_stepDownMakesOne) := goodIn_app (goodIn_of _ (by decide +kernel)) ggX3_leavesOne_X3_stepDownMakesOne
set_option maxRecDepth 20000 in
theorem ggX3_leavesOne_X3_holdsOneWithout : GoodIn wsX3_leavesOne wsX3_holdsOneWithout := goodIn_r _ [23, 1, 11, 24, 25, 14, 26, 27, 28, 29, 30] (by decide +kernel) (by decide +kernel)
set_option maxRecDepth 20000 in
theorem gX3_leavesOne_X3_holdsOneWithout : GoodIn wsX3_leavesOne (wsV RX3 69 RX3 yX3_holdsOneWithout wsX3_holdsOneWithout) := goodIn_app (goodIn_of _ (by decide +kernel)) ggX3_leavesOne_X3_holdsOneWithout
theorem dX3_leavesOne_0 : decode cX3_leavesOne 0 = .ok (.iconst 0, 1) := by decide +kernel
theorem dX3_leavesOne_1 : decode cX3_leavesOne 1 = .ok (.istore_n 3, 1) := by decide +kernel
theorem dX3_leavesOne_2 : decode cX3_leavesOne 2 = .ok (.iconst 0, 1) := by decide +kernel
theorem dX3_leavesOne_3 : decode cX3_leavesOne 3 = .ok (.istore 4, 2) := by decide +kernel
theorem dX3_leavesOne_5 : decode cX3_leavesOne 5 = .ok (.iconst 0, 1) := by decide +kernel
theorem dX3_leavesOne_6 : decode cX3_leavesOne 6 = .ok (.istore 5, 2) := by decide +kernel
theorem dX3_leavesOne_8 : decode cX3_leavesOne 8 = .ok (.iload 5, 2) := by decide +kernel
theorem dX3_leavesOne_10 : decode cX3_leavesOne 10 = .ok (.aload_n 0, 1) := by decide +kernel
theorem dX3_leavesOne_11 : decode cX3_leavesOne 11 = .ok (.getfield 9, 3) := by decide +kernel
theorem dX3_leavesOne_14 : decode cX3_leavesOne 14 = .ok (.if_icmp .ge 55, 3) := by decide +kernel
theorem dX3_leavesOne_17 : decode cX3_leavesOne 17 = .ok (.iload_n 3, 1) := by decide +kernel
theorem dX3_leavesOne_18 : decode cX3_leavesOne 18 = .ok (.aload_n 0, 1) := by decide +kernel
theorem dX3_leavesOne_19 : decode cX3_leavesOne 19 = .ok (.iload_n 1, 1) := by decide +kernel
theorem dX3_leavesOne_20 : decode cX3_leavesOne 20 = .ok (.iload_n 2, 1) := by decide +kernel
theorem dX3_leavesOne_21 : decode cX3_leavesOne 21 = .ok (.iload 5, 2) := by decide +kernel
theorem dX3_leavesOne_23 : decode cX3_leavesOne 23 = .ok (.invokevirtual 62, 3) := by decide +kernel
theorem dX3_leavesOne_26 : decode cX3_leavesOne 26 = .ok (.ifCond .eq 10, 3) := by decide +kernel
theorem dX3_leavesOne_29 : decode cX3_leavesOne 29 = .ok (.iconst 1, 1) := by decide +kernel
theorem dX3_leavesOne_30 : decode cX3_leavesOne 30 = .ok (.iload 5, 2) := by decide +kernel
theorem dX3_leavesOne_32 : decode cX3_leavesOne 32 = .ok (.ishl, 1) := by decide +kernel
theorem dX3_leavesOne_33 : decode cX3_leavesOne 33 = .ok (.goto 4, 3) := by decide +kernel
theorem dX3_leavesOne_36 : decode cX3_leavesOne 36 = .ok (.iconst 0, 1) := by decide +kernel
theorem dX3_leavesOne_37 : decode cX3_leavesOne 37 = .ok (.ior, 1) := by decide +kernel
theorem dX3_leavesOne_38 : decode cX3_leavesOne 38 = .ok (.istore_n 3, 1) := by decide +kernel
theorem dX3_leavesOne_39 : decode cX3_leavesOne 39 = .ok (.iload 4, 2) := by decide +kernel
theorem dX3_leavesOne_41 : decode cX3_leavesOne 41 = .ok (.aload_n 0, 1) := by decide +kernel
theorem dX3_leavesOne_42 : decode cX3_leavesOne 42 = .ok (.iload_n 1, 1) := by decide +kernel
theorem dX3_leavesOne_43 : decode cX3_leavesOne 43 = .ok (.iload_n 2, 1) := by decide +kernel
theorem dX3_leavesOne_44 : decode cX3_leavesOne 44 = .ok (.iload 5, 2) := by decide +kernel
theorem dX3_leavesOne_46 : decode cX3_leavesOne 46 = .ok (.invokevirtual 66, 3) := by decide +kernel
theorem dX3_leavesOne_49 : decode cX3_leavesOne 49 = .ok (.ifCond .eq 10, 3) := by decide +kernel
theorem dX3_leavesOne_52 : decode cX3_leavesOne 52 = .ok (.iconst 1, 1) := by decide +kernel
theorem dX3_leavesOne_53 : decode cX3_leavesOne 53 = .ok (.iload 5, 2) := by decide +kernel
theorem dX3_leavesOne_55 : decode cX3_leavesOne 55 = .ok (.ishl, 1) := by decide +kernel
theorem dX3_leavesOne_56 : decode cX3_leavesOne 56 = .ok (.goto 4, 3) := by decide +kernel
theorem dX3_leavesOne_59 : decode cX3_leavesOne 59 = .ok (.iconst 0, 1) := by decide +kernel
theorem dX3_leavesOne_60 : decode cX3_leavesOne 60 = .ok (.ior, 1) := by decide +kernel
theorem dX3_leavesOne_61 : decode cX3_leavesOne 61 = .ok (.istore 4, 2) := by decide +kernel
theorem dX3_leavesOne_63 : decode cX3_leavesOne 63 = .ok (.iinc 5 1, 3) := by decide +kernel
theorem dX3_leavesOne_66 : decode cX3_leavesOne 66 = .ok (.goto (-58), 3) := by decide +kernel
theorem dX3_leavesOne_69 : decode cX3_leavesOne 69 = .ok (.iload_n 3, 1) := by decide +kernel
theorem dX3_leavesOne_70 : decode cX3_leavesOne 70 = .ok (.iload 4, 2) := by decide +kernel
theorem dX3_leavesOne_72 : decode cX3_leavesOne 72 = .ok (.ior, 1) := by decide +kernel
theorem dX3_leavesOne_73 : decode cX3_leavesOne 73 = .ok (.ifCond .eq 19, 3) := by decide +kernel
theorem dX3_leavesOne_76 : decode cX3_leavesOne 76 = .ok (.aload_n 0, 1) := by decide +kernel
theorem dX3_leavesOne_77 : decode cX3_leavesOne 77 = .ok (.iload_n 1, 1) := by decide +kernel
theorem dX3_leavesOne_78 : decode cX3_leavesOne 78 = .ok (.iload_n 2, 1) := by decide +kernel
theorem dX3_leavesOne_79 : decode cX3_leavesOne 79 = .ok (.iload_n 3, 1) := by decide +kernel
theorem dX3_leavesOne_80 : decode cX3_leavesOne 80 = .ok (.iload 4, 2) := by decide +kernel
theorem dX3_leavesOne_82 : decode cX3_leavesOne 82 = .ok (.invokevirtual 69, 3) := by decide +kernel
theorem dX3_leavesOne_85 : decode cX3_leavesOne 85 = .ok (.ifCond .eq 7, 3) := by decide +kernel
theorem dX3_leavesOne_88 : decode cX3_leavesOne 88 = .ok (.iconst 1, 1) := by decide +kernel
theorem dX3_leavesOne_89 : decode cX3_leavesOne 89 = .ok (.goto 4, 3) := by decide +kernel
theorem dX3_leavesOne_92 : decode cX3_leavesOne 92 = .ok (.iconst 0, 1) := by decide +kernel
theorem dX3_leavesOne_93 : decode cX3_leavesOne 93 = .ok (.ireturn, 1) := by decide +kernel
set_option maxRecDepth 20000 in
theorem ggX3_stepUpMakesOne_X3_holdsRow : GoodIn wsX3_stepUpMakesOne wsX3_holdsRow := goodIn_r _ [5, 6, 7, 8, 9, 10, 11, 12, 13] (by decide +kernel) (by decide +kernel)
set_option maxRecDepth 20000 in
theorem gX3_stepUpMakesOne_X3_holdsRow : GoodIn wsX3_stepUpMakesOne (wsV RX3 43 RX3 yX3_holdsRow wsX3_holdsRow) := goodIn_app (goodIn_of _ (by decide +kernel)) ggX3_stepUpMakesOne_X3_holdsRow
theorem dX3_stepUpMakesOne_0 : decode cX3_stepUpMakesOne 0 = .ok (.iconst 1, 1) := by decide +kernel
theorem dX3_stepUpMakesOne_1 : decode cX3_stepUpMakesOne 1 = .ok (.iload_n 3, 1) := by decide +kernel
theorem dX3_stepUpMakesOne_2 : decode cX3_stepUpMakesOne 2 = .ok (.ishl, 1) := by decide +kernel
theorem dX3_stepUpMakesOne_3 : decode cX3_stepUpMakesOne 3 = .ok (.istore 4, 2) := by decide +kernel
theorem dX3_stepUpMakesOne_5 : decode cX3_stepUpMakesOne 5 = .ok (.iload_n 1, 1) := by decide +kernel
theorem dX3_stepUpMakesOne_6 : decode cX3_stepUpMakesOne 6 = .ok (.iload 4, 2) := by decide +kernel
theorem dX3_stepUpMakesOne_8 : decode cX3_stepUpMakesOne 8 = .ok (.iand, 1) := by decide +kernel
theorem dX3_stepUpMakesOne_9 : decode cX3_stepUpMakesOne 9 = .ok (.ifCond .ne 13, 3) := by decide +kernel
theorem dX3_stepUpMakesOne_12 : decode cX3_stepUpMakesOne 12 = .ok (.aload_n 0, 1) := by decide +kernel
theorem dX3_stepUpMakesOne_13 : decode cX3_stepUpMakesOne 13 = .ok (.iload_n 1, 1) := by decide +kernel
theorem dX3_stepUpMakesOne_14 : decode cX3_stepUpMakesOne 14 = .ok (.iload 4, 2) := by decide +kernel
theorem dX3_stepUpMakesOne_16 : decode cX3_stepUpMakesOne 16 = .ok (.ior, 1) := by decide +kernel
theorem dX3_stepUpMakesOne_17 : decode cX3_stepUpMakesOne 17 = .ok (.iload_n 2, 1) := by decide +kernel
theorem dX3_stepUpMakesOne_18 : decode cX3_stepUpMakesOne 18 = .ok (.invokevirtual 43, 3) := by decide +kernel
theorem dX3_stepUpMakesOne_21 : decode cX3_stepUpMakesOne 21 = .ok (.ireturn, 1) := by decide +kernel
theorem dX3_stepUpMakesOne_22 : decode cX3_stepUpMakesOne 22 = .ok (.iload_n 2, 1) := by decide +kernel
theorem dX3_stepUpMakesOne_23 : decode cX3_stepUpMakesOne 23 = .ok (.iload 4, 2) := by decide +kernel
theorem dX3_stepUpMakesOne_25 : decode cX3_stepUpMakesOne 25 = .ok (.iand, 1) := by decide +kernel
theorem dX3_stepUpMakesOne_26 : decode cX3_stepUpMakesOne 26 = .ok (.ifCond .ne 19, 3) := by decide +kernel
theorem dX3_stepUpMakesOne_29 : decode cX3_stepUpMakesOne 29 = .ok (.aload_n 0, 1) := by decide +kernel
theorem dX3_stepUpMakesOne_30 : decode cX3_stepUpMakesOne 30 = .ok (.iload_n 1, 1) := by decide +kernel
theorem dX3_stepUpMakesOne_31 : decode cX3_stepUpMakesOne 31 = .ok (.iload_n 2, 1) := by decide +kernel
theorem dX3_stepUpMakesOne_32 : decode cX3_stepUpMakesOne 32 = .ok (.iload 4, 2) := by decide +kernel
theorem dX3_stepUpMakesOne_34 : decode cX3_stepUpMakesOne 34 = .ok (.ior, 1) := by decide +kernel
theorem dX3_stepUpMakesOne_35 : decode cX3_stepUpMakesOne 35 = .ok (.invokevirtual 43, 3) := by decide +kernel
theorem dX3_stepUpMakesOne_38 : decode cX3_stepUpMakesOne 38 = .ok (.ifCond .eq 7, 3) := by decide +kernel
theorem dX3_stepUpMakesOne_41 : decode cX3_stepUpMakesOne 41 = .ok (.iconst 1, 1) := by decide +kernel
theorem dX3_stepUpMakesOne_42 : decode cX3_stepUpMakesOne 42 = .ok (.goto 4, 3) := by decide +kernel
theorem dX3_stepUpMakesOne_45 : decode cX3_stepUpMakesOne 45 = .ok (.iconst 0, 1) := by decide +kernel
theorem dX3_stepUpMakesOne_46 : decode cX3_stepUpMakesOne 46 = .ok (.ireturn, 1) := by decide +kernel
set_option maxRecDepth 20000 in
theorem ggX3_stepDownMakesOne_X3_holdsRow : GoodIn wsX3_stepDownMakesOne wsX3_holdsRow := goodIn_r _ [5, 6, 7, 8, 9, 10, 11, 12, 13] (by decide +kernel) (by decide +kernel)
set_option maxRecDepth 20000 in
theorem gX3_stepDownMakesOne_X3_holdsRow : GoodIn wsX3_stepDownMakesOne (wsV RX3 43 RX3 yX3_holdsRow wsX3_holdsRow) := goodIn_app (goodIn_of _ (by decide +kernel)) ggX3_stepDownMakesOne_X3_holdsRow
theorem dX3_stepDownMakesOne_0 : decode cX3_stepDownMakesOne 0 = .ok (.iconst 1, 1) := by decide +kernel
theorem dX3_stepDownMakesOne_1 : decode cX3_stepDownMakesOne 1 = .ok (.iload_n 3, 1) := by decide +kernel
theorem dX3_stepDownMakesOne_2 : decode cX3_stepDownMakesOne 2 = .ok (.ishl, 1) := by decide +kernel
theorem dX3_stepDownMakesOne_3 : decode cX3_stepDownMakesOne 3 = .ok (.istore 4, 2) := by decide +kernel
theorem dX3_stepDownMakesOne_5 : decode cX3_stepDownMakesOne 5 = .ok (.iload_n 2, 1) := by decide +kernel
theorem dX3_stepDownMakesOne_6 : decode cX3_stepDownMakesOne 6 = .ok (.iload 4, 2) := by decide +kernel
theorem dX3_stepDownMakesOne_8 : decode cX3_stepDownMakesOne 8 = .ok (.iand, 1) := by decide +kernel
theorem dX3_stepDownMakesOne_9 : decode cX3_stepDownMakesOne 9 = .ok (.ifCond .eq 15, 3) := by decide +kernel
theorem dX3_stepDownMakesOne_12 : decode cX3_stepDownMakesOne 12 = .ok (.aload_n 0, 1) := by decide +kernel
theorem dX3_stepDownMakesOne_13 : decode cX3_stepDownMakesOne 13 = .ok (.iload_n 1, 1) := by decide +kernel
theorem dX3_stepDownMakesOne_14 : decode cX3_stepDownMakesOne 14 = .ok (.iload_n 2, 1) := by decide +kernel
theorem dX3_stepDownMakesOne_15 : decode cX3_stepDownMakesOne 15 = .ok (.iload 4, 2) := by decide +kernel
theorem dX3_stepDownMakesOne_17 : decode cX3_stepDownMakesOne 17 = .ok (.iconst (-1), 1) := by decide +kernel
theorem dX3_stepDownMakesOne_18 : decode cX3_stepDownMakesOne 18 = .ok (.ixor, 1) := by decide +kernel
theorem dX3_stepDownMakesOne_19 : decode cX3_stepDownMakesOne 19 = .ok (.iand, 1) := by decide +kernel
theorem dX3_stepDownMakesOne_20 : decode cX3_stepDownMakesOne 20 = .ok (.invokevirtual 43, 3) := by decide +kernel
theorem dX3_stepDownMakesOne_23 : decode cX3_stepDownMakesOne 23 = .ok (.ireturn, 1) := by decide +kernel
theorem dX3_stepDownMakesOne_24 : decode cX3_stepDownMakesOne 24 = .ok (.iload_n 1, 1) := by decide +kernel
theorem dX3_stepDownMakesOne_25 : decode cX3_stepDownMakesOne 25 = .ok (.iload 4, 2) := by decide +kernel
theorem dX3_stepDownMakesOne_27 : decode cX3_stepDownMakesOne 27 = .ok (.iand, 1) := by decide +kernel
theorem dX3_stepDownMakesOne_28 : decode cX3_stepDownMakesOne 28 = .ok (.ifCond .eq 21, 3) := by decide +kernel
theorem dX3_stepDownMakesOne_31 : decode cX3_stepDownMakesOne 31 = .ok (.aload_n 0, 1) := by decide +kernel
theorem dX3_stepDownMakesOne_32 : decode cX3_stepDownMakesOne 32 = .ok (.iload_n 1, 1) := by decide +kernel
theorem dX3_stepDownMakesOne_33 : decode cX3_stepDownMakesOne 33 = .ok (.iload 4, 2) := by decide +kernel
theorem dX3_stepDownMakesOne_35 : decode cX3_stepDownMakesOne 35 = .ok (.iconst (-1), 1) := by decide +kernel
theorem dX3_stepDownMakesOne_36 : decode cX3_stepDownMakesOne 36 = .ok (.ixor, 1) := by decide +kernel
theorem dX3_stepDownMakesOne_37 : decode cX3_stepDownMakesOne 37 = .ok (.iand, 1) := by decide +kernel
theorem dX3_stepDownMakesOne_38 : decode cX3_stepDownMakesOne 38 = .ok (.iload_n 2, 1) := by decide +kernel
theorem dX3_stepDownMakesOne_39 : decode cX3_stepDownMakesOne 39 = .ok (.invokevirtual 43, 3) := by decide +kernel
theorem dX3_stepDownMakesOne_42 : decode cX3_stepDownMakesOne 42 = .ok (.ifCond .eq 7, 3) := by decide +kernel
theorem dX3_stepDownMakesOne_45 : decode cX3_stepDownMakesOne 45 = .ok (.iconst 1, 1) := by decide +kernel
theorem dX3_stepDownMakesOne_46 : decode cX3_stepDownMakesOne 46 = .ok (.goto 4, 3) := by decide +kernel
theorem dX3_stepDownMakesOne_49 : decode cX3_stepDownMakesOne 49 = .ok (.iconst 0, 1) := by decide +kernel
theorem dX3_stepDownMakesOne_50 : decode cX3_stepDownMakesOne 50 = .ok (.ireturn, 1) := by decide +kernel
set_option maxRecDepth 20000 in
theorem ggX3_holdsOneWithout_X0_likeAt : GoodIn wsX3_holdsOneWithout wsX0_likeAt := goodIn_r _ [6, 7] (by decide +kernel) (by decide +kernel)
set_option maxRecDepth 20000 in
theorem gX3_holdsOneWithout_X0_likeAt : GoodIn wsX3_holdsOneWithout (va_wsS RX3 73 yX0_likeAt wsX0_likeAt) := goodIn_app (goodIn_of _ (by decide +kernel)) ggX3_holdsOneWithout_X0_likeAt
theorem dX3_holdsOneWithout_0 : decode cX3_holdsOneWithout 0 = .ok (.iload_n 3, 1) := by decide +kernel
theorem dX3_holdsOneWithout_1 : decode cX3_holdsOneWithout 1 = .ok (.iload_n 1, 1) := by decide +kernel
theorem dX3_holdsOneWithout_2 : decode cX3_holdsOneWithout 2 = .ok (.iconst (-1), 1) := by decide +kernel
theorem dX3_holdsOneWithout_3 : decode cX3_holdsOneWithout 3 = .ok (.ixor, 1) := by decide +kernel
theorem dX3_holdsOneWithout_4 : decode cX3_holdsOneWithout 4 = .ok (.iand, 1) := by decide +kernel
theorem dX3_holdsOneWithout_5 : decode cX3_holdsOneWithout 5 = .ok (.iload 4, 2) := by decide +kernel
theorem dX3_holdsOneWithout_7 : decode cX3_holdsOneWithout 7 = .ok (.iload_n 1, 1) := by decide +kernel
theorem dX3_holdsOneWithout_8 : decode cX3_holdsOneWithout 8 = .ok (.iand, 1) := by decide +kernel
theorem dX3_holdsOneWithout_9 : decode cX3_holdsOneWithout 9 = .ok (.ior, 1) := by decide +kernel
theorem dX3_holdsOneWithout_10 : decode cX3_holdsOneWithout 10 = .ok (.istore 5, 2) := by decide +kernel
theorem dX3_holdsOneWithout_12 : decode cX3_holdsOneWithout 12 = .ok (.iload_n 3, 1) := by decide +kernel
theorem dX3_holdsOneWithout_13 : decode cX3_holdsOneWithout 13 = .ok (.iload_n 2, 1) := by decide +kernel
theorem dX3_holdsOneWithout_14 : decode cX3_holdsOneWithout 14 = .ok (.iconst (-1), 1) := by decide +kernel
theorem dX3_holdsOneWithout_15 : decode cX3_holdsOneWithout 15 = .ok (.ixor, 1) := by decide +kernel
theorem dX3_holdsOneWithout_16 : decode cX3_holdsOneWithout 16 = .ok (.iand, 1) := by decide +kernel
theorem dX3_holdsOneWithout_17 : decode cX3_holdsOneWithout 17 = .ok (.iload 4, 2) := by decide +kernel
theorem dX3_holdsOneWithout_19 : decode cX3_holdsOneWithout 19 = .ok (.iload_n 2, 1) := by decide +kernel
theorem dX3_holdsOneWithout_20 : decode cX3_holdsOneWithout 20 = .ok (.iand, 1) := by decide +kernel
theorem dX3_holdsOneWithout_21 : decode cX3_holdsOneWithout 21 = .ok (.ior, 1) := by decide +kernel
theorem dX3_holdsOneWithout_22 : decode cX3_holdsOneWithout 22 = .ok (.istore 6, 2) := by decide +kernel
theorem dX3_holdsOneWithout_24 : decode cX3_holdsOneWithout 24 = .ok (.iload_n 2, 1) := by decide +kernel
theorem dX3_holdsOneWithout_25 : decode cX3_holdsOneWithout 25 = .ok (.iload 6, 2) := by decide +kernel
theorem dX3_holdsOneWithout_27 : decode cX3_holdsOneWithout 27 = .ok (.invokestatic 73, 3) := by decide +kernel
theorem dX3_holdsOneWithout_30 : decode cX3_holdsOneWithout 30 = .ok (.lstore 7, 2) := by decide +kernel
theorem dX3_holdsOneWithout_32 : decode cX3_holdsOneWithout 32 = .ok (.iconst 0, 1) := by decide +kernel
theorem dX3_holdsOneWithout_33 : decode cX3_holdsOneWithout 33 = .ok (.istore 9, 2) := by decide +kernel
theorem dX3_holdsOneWithout_35 : decode cX3_holdsOneWithout 35 = .ok (.iload 9, 2) := by decide +kernel
theorem dX3_holdsOneWithout_37 : decode cX3_holdsOneWithout 37 = .ok (.iconst 1, 1) := by decide +kernel
theorem dX3_holdsOneWithout_38 : decode cX3_holdsOneWithout 38 = .ok (.aload_n 0, 1) := by decide +kernel
theorem dX3_holdsOneWithout_39 : decode cX3_holdsOneWithout 39 = .ok (.getfield 9, 3) := by decide +kernel
theorem dX3_holdsOneWithout_42 : decode cX3_holdsOneWithout 42 = .ok (.ishl, 1) := by decide +kernel
theorem dX3_holdsOneWithout_43 : decode cX3_holdsOneWithout 43 = .ok (.if_icmp .ge 36, 3) := by decide +kernel
theorem dX3_holdsOneWithout_46 : decode cX3_holdsOneWithout 46 = .ok (.iload 9, 2) := by decide +kernel
theorem dX3_holdsOneWithout_48 : decode cX3_holdsOneWithout 48 = .ok (.iload_n 1, 1) := by decide +kernel
theorem dX3_holdsOneWithout_49 : decode cX3_holdsOneWithout 49 = .ok (.ixor, 1) := by decide +kernel
theorem dX3_holdsOneWithout_50 : decode cX3_holdsOneWithout 50 = .ok (.iload 5, 2) := by decide +kernel
theorem dX3_holdsOneWithout_52 : decode cX3_holdsOneWithout 52 = .ok (.iand, 1) := by decide +kernel
theorem dX3_holdsOneWithout_53 : decode cX3_holdsOneWithout 53 = .ok (.ifCond .ne 20, 3) := by decide +kernel
theorem dX3_holdsOneWithout_56 : decode cX3_holdsOneWithout 56 = .ok (.aload_n 0, 1) := by decide +kernel
theorem dX3_holdsOneWithout_57 : decode cX3_holdsOneWithout 57 = .ok (.getfield 15, 3) := by decide +kernel
theorem dX3_holdsOneWithout_60 : decode cX3_holdsOneWithout 60 = .ok (.iload 9, 2) := by decide +kernel
theorem dX3_holdsOneWithout_62 : decode cX3_holdsOneWithout 62 = .ok (.laload, 1) := by decide +kernel
theorem dX3_holdsOneWithout_63 : decode cX3_holdsOneWithout 63 = .ok (.lload 7, 2) := by decide +kernel
theorem dX3_holdsOneWithout_65 : decode cX3_holdsOneWithout 65 = .ok (.land, 1) := by decide +kernel
theorem dX3_holdsOneWithout_66 : decode cX3_holdsOneWithout 66 = .ok (.lconst 0, 1) := by decide +kernel
theorem dX3_holdsOneWithout_67 : decode cX3_holdsOneWithout 67 = .ok (.lcmp, 1) := by decide +kernel
theorem dX3_holdsOneWithout_68 : decode cX3_holdsOneWithout 68 = .ok (.ifCond .eq 5, 3) := by decide +kernel
theorem dX3_holdsOneWithout_71 : decode cX3_holdsOneWithout 71 = .ok (.iconst 1, 1) := by decide +kernel
theorem dX3_holdsOneWithout_72 : decode cX3_holdsOneWithout 72 = .ok (.ireturn, 1) := by decide +kernel
theorem dX3_holdsOneWithout_73 : decode cX3_holdsOneWithout 73 = .ok (.iinc 9 1, 3) := by decide +kernel
theorem dX3_holdsOneWithout_76 : decode cX3_holdsOneWithout 76 = .ok (.goto (-41), 3) := by decide +kernel
theorem dX3_holdsOneWithout_79 : decode cX3_holdsOneWithout 79 = .ok (.iconst 0, 1) := by decide +kernel
theorem dX3_holdsOneWithout_80 : decode cX3_holdsOneWithout 80 = .ok (.ireturn, 1) := by decide +kernel
theorem dX4_init_0 : decode cX4_init 0 = .ok (.aload_n 0, 1) := by decide +kernel
theorem dX4_init_1 : decode cX4_init 1 = .ok (.invokespecial 3, 3) := by decide +kernel
theorem dX4_init_4 : decode cX4_init 4 = .ok (.aload_n 0, 1) := by decide +kernel
theorem dX4_init_5 : decode cX4_init 5 = .ok (.bipush 36, 2) := by decide +kernel
theorem dX4_init_7 : decode cX4_init 7 = .ok (.newarray .int, 2) := by decide +kernel
theorem dX4_init_9 : decode cX4_init 9 = .ok (.putfield 9, 3) := by decide +kernel
theorem dX4_init_12 : decode cX4_init 12 = .ok (.return_, 1) := by decide +kernel
theorem dX4_at_0 : decode cX4_at 0 = .ok (.aload_n 0, 1) := by decide +kernel
theorem dX4_at_1 : decode cX4_at 1 = .ok (.getfield 9, 3) := by decide +kernel
theorem dX4_at_4 : decode cX4_at 4 = .ok (.iload_n 1, 1) := by decide +kernel
theorem dX4_at_5 : decode cX4_at 5 = .ok (.bipush 6, 2) := by decide +kernel
theorem dX4_at_7 : decode cX4_at 7 = .ok (.imul, 1) := by decide +kernel
theorem dX4_at_8 : decode cX4_at 8 = .ok (.iload_n 2, 1) := by decide +kernel
theorem dX4_at_9 : decode cX4_at 9 = .ok (.iadd, 1) := by decide +kernel
theorem dX4_at_10 : decode cX4_at 10 = .ok (.iaload, 1) := by decide +kernel
theorem dX4_at_11 : decode cX4_at 11 = .ok (.ireturn, 1) := by decide +kernel
set_option maxRecDepth 20000 in
theorem ggX4_write_J9_floorMod_7cf53 : GoodIn wsX4_write wsJ9_floorMod_7cf53 := goodIn_r _ [5] (by decide +kernel) (by decide +kernel)
set_option maxRecDepth 20000 in
theorem gX4_write_J9_floorMod_7cf53 : GoodIn wsX4_write (va_wsS RX4 15 yJ9_floorMod_7cf53 wsJ9_floorMod_7cf53) := goodIn_app (goodIn_of _ (by decide +kernel)) ggX4_write_J9_floorMod_7cf53
theorem dX4_write_0 : decode cX4_write 0 = .ok (.aload_n 0, 1) := by decide +kernel
theorem dX4_write_1 : decode cX4_write 1 = .ok (.getfield 9, 3) := by decide +kernel
theorem dX4_write_4 : decode cX4_write 4 = .ok (.iload_n 1, 1) := by decide +kernel
theorem dX4_write_5 : decode cX4_write 5 = .ok (.bipush 6, 2) := by decide +kernel
theorem dX4_write_7 : decode cX4_write 7 = .ok (.imul, 1) := by decide +kernel
theorem dX4_write_8 : decode cX4_write 8 = .ok (.iload_n 2, 1) := by decide +kernel
theorem dX4_write_9 : decode cX4_write 9 = .ok (.iadd, 1) := by decide +kernel
theorem dX4_write_10 : decode cX4_write 10 = .ok (.iload_n 3, 1) := by decide +kernel
theorem dX4_write_11 : decode cX4_write 11 = .ok (.bipush 7, 2) := by decide +kernel
theorem dX4_write_13 : decode cX4_write 13 = .ok (.invokestatic 15, 3) := by decide +kernel
theorem dX4_write_16 : decode cX4_write 16 = .ok (.iastore, 1) := by decide +kernel
theorem dX4_write_17 : decode cX4_write 17 = .ok (.aload_n 0, 1) := by decide +kernel
theorem dX4_write_18 : decode cX4_write 18 = .ok (.getfield 9, 3) := by decide +kernel
theorem dX4_write_21 : decode cX4_write 21 = .ok (.iload_n 2, 1) := by decide +kernel
theorem dX4_write_22 : decode cX4_write 22 = .ok (.bipush 6, 2) := by decide +kernel
theorem dX4_write_24 : decode cX4_write 24 = .ok (.imul, 1) := by decide +kernel
theorem dX4_write_25 : decode cX4_write 25 = .ok (.iload_n 1, 1) := by decide +kernel
theorem dX4_write_26 : decode cX4_write 26 = .ok (.iadd, 1) := by decide +kernel
theorem dX4_write_27 : decode cX4_write 27 = .ok (.iload_n 3, 1) := by decide +kernel
theorem dX4_write_28 : decode cX4_write 28 = .ok (.ineg, 1) := by decide +kernel
theorem dX4_write_29 : decode cX4_write 29 = .ok (.bipush 7, 2) := by decide +kernel
theorem dX4_write_31 : decode cX4_write 31 = .ok (.invokestatic 15, 3) := by decide +kernel
theorem dX4_write_34 : decode cX4_write 34 = .ok (.iastore, 1) := by decide +kernel
theorem dX4_write_35 : decode cX4_write 35 = .ok (.return_, 1) := by decide +kernel
set_option maxRecDepth 20000 in
theorem ggX4_wipe_J7_fill_53178 : GoodIn wsX4_wipe wsJ7_fill_53178 := goodIn_r _ [5] (by decide +kernel) (by decide +kernel)
set_option maxRecDepth 20000 in
theorem gX4_wipe_J7_fill_53178 : GoodIn wsX4_wipe (va_wsS RX4 21 yJ7_fill_53178 wsJ7_fill_53178) := goodIn_app (goodIn_of _ (by decide +kernel)) ggX4_wipe_J7_fill_53178
theorem dX4_wipe_0 : decode cX4_wipe 0 = .ok (.aload_n 0, 1) := by decide +kernel
theorem dX4_wipe_1 : decode cX4_wipe 1 = .ok (.getfield 9, 3) := by decide +kernel
theorem dX4_wipe_4 : decode cX4_wipe 4 = .ok (.iconst 0, 1) := by decide +kernel
theorem dX4_wipe_5 : decode cX4_wipe 5 = .ok (.invokestatic 21, 3) := by decide +kernel
theorem dX4_wipe_8 : decode cX4_wipe 8 = .ok (.return_, 1) := by decide +kernel
theorem dX4_takeOver_0 : decode cX4_takeOver 0 = .ok (.aload_n 1, 1) := by decide +kernel
theorem dX4_takeOver_1 : decode cX4_takeOver 1 = .ok (.getfield 9, 3) := by decide +kernel
theorem dX4_takeOver_4 : decode cX4_takeOver 4 = .ok (.iconst 0, 1) := by decide +kernel
theorem dX4_takeOver_5 : decode cX4_takeOver 5 = .ok (.aload_n 0, 1) := by decide +kernel
theorem dX4_takeOver_6 : decode cX4_takeOver 6 = .ok (.getfield 9, 3) := by decide +kernel
theorem dX4_takeOver_9 : decode cX4_takeOver 9 = .ok (.iconst 0, 1) := by decide +kernel
theorem dX4_takeOver_10 : decode cX4_takeOver 10 = .ok (.aload_n 0, 1) := by decide +kernel
theorem dX4_takeOver_11 : decode cX4_takeOver 11 = .ok (.getfield 9, 3) := by decide +kernel
theorem dX4_takeOver_14 : decode cX4_takeOver 14 = .ok (.arraylength, 1) := by decide +kernel
theorem dX4_takeOver_15 : decode cX4_takeOver 15 = .ok (.invokestatic 27, 3) := by decide +kernel
theorem dX4_takeOver_18 : decode cX4_takeOver 18 = .ok (.return_, 1) := by decide +kernel
theorem dX4_notZero_0 : decode cX4_notZero 0 = .ok (.iconst 0, 1) := by decide +kernel
theorem dX4_notZero_1 : decode cX4_notZero 1 = .ok (.istore_n 1, 1) := by decide +kernel
theorem dX4_notZero_2 : decode cX4_notZero 2 = .ok (.aload_n 0, 1) := by decide +kernel
theorem dX4_notZero_3 : decode cX4_notZero 3 = .ok (.getfield 9, 3) := by decide +kernel
theorem dX4_notZero_6 : decode cX4_notZero 6 = .ok (.astore_n 2, 1) := by decide +kernel
theorem dX4_notZero_7 : decode cX4_notZero 7 = .ok (.aload_n 2, 1) := by decide +kernel
theorem dX4_notZero_8 : decode cX4_notZero 8 = .ok (.arraylength, 1) := by decide +kernel
theorem dX4_notZero_9 : decode cX4_notZero 9 = .ok (.istore_n 3, 1) := by decide +kernel
theorem dX4_notZero_10 : decode cX4_notZero 10 = .ok (.iconst 0, 1) := by decide +kernel
theorem dX4_notZero_11 : decode cX4_notZero 11 = .ok (.istore 4, 2) := by decide +kernel
theorem dX4_notZero_13 : decode cX4_notZero 13 = .ok (.iload 4, 2) := by decide +kernel
theorem dX4_notZero_15 : decode cX4_notZero 15 = .ok (.iload_n 3, 1) := by decide +kernel
theorem dX4_notZero_16 : decode cX4_notZero 16 = .ok (.if_icmp .ge 23, 3) := by decide +kernel
theorem dX4_notZero_19 : decode cX4_notZero 19 = .ok (.aload_n 2, 1) := by decide +kernel
theorem dX4_notZero_20 : decode cX4_notZero 20 = .ok (.iload 4, 2) := by decide +kernel
theorem dX4_notZero_22 : decode cX4_notZero 22 = .ok (.iaload, 1) := by decide +kernel
theorem dX4_notZero_23 : decode cX4_notZero 23 = .ok (.istore 5, 2) := by decide +kernel
theorem dX4_notZero_25 : decode cX4_notZero 25 = .ok (.iload 5, 2) := by decide +kernel
theorem dX4_notZero_27 : decode cX4_notZero 27 = .ok (.ifCond .eq 6, 3) := by decide +kernel
theorem dX4_notZero_30 : decode cX4_notZero 30 = .ok (.iinc 1 1, 3) := by decide +kernel
theorem dX4_notZero_33 : decode cX4_notZero 33 = .ok (.iinc 4 1, 3) := by decide +kernel
theorem dX4_notZero_36 : decode cX4_notZero 36 = .ok (.goto (-23), 3) := by decide +kernel
theorem dX4_notZero_39 : decode cX4_notZero 39 = .ok (.iload_n 1, 1) := by decide +kernel
theorem dX4_notZero_40 : decode cX4_notZero 40 = .ok (.ireturn, 1) := by decide +kernel
set_option maxRecDepth 20000 in
theorem ggX4_pivotOn_X4_mate : GoodIn wsX4_pivotOn wsX4_mate := goodIn_r _ [5, 6, 7, 8, 4, 9, 10, 23] (by decide +kernel) (by decide +kernel)
set_option maxRecDepth 20000 in
theorem gX4_pivotOn_X4_mate : GoodIn wsX4_pivotOn (wsV RX4 33 RX4 yX4_mate wsX4_mate) := goodIn_app (goodIn_of _ (by decide +kernel)) ggX4_pivotOn_X4_mate
set_option maxRecDepth 20000 in
theorem ggX4_pivotOn_X4_at : GoodIn wsX4_pivotOn wsX4_at := goodIn_r _ [9, 10, 23] (by decide +kernel) (by decide +kernel)
set_option maxRecDepth 20000 in
theorem gX4_pivotOn_X4_at : GoodIn wsX4_pivotOn (wsV RX4 36 RX4 yX4_at wsX4_at) := goodIn_app (goodIn_of _ (by decide +kernel)) ggX4_pivotOn_X4_at
set_option maxRecDepth 20000 in
theorem ggX4_pivotOn_X4_pivotOnTwo : GoodIn wsX4_pivotOn wsX4_pivotOnTwo := goodIn_r _ [14, 6, 7, 8, 4, 9, 10, 15, 16, 17, 18, 19, 20, 21, 22, 23] (by decide +kernel) (by decide +kernel)
set_option maxRecDepth 20000 in
theorem gX4_pivotOn_X4_pivotOnTwo : GoodIn wsX4_pivotOn (wsV RX4 39 RX4 yX4_pivotOnTwo wsX4_pivotOnTwo) := goodIn_app (goodIn_of _ (by decide +kernel)) ggX4_pivotOn_X4_pivotOnTwo
theorem dX4_pivotOn_0 : decode cX4_pivotOn 0 = .ok (.iconst 1, 1) := by decide +kernel
theorem dX4_pivotOn_1 : decode cX4_pivotOn 1 = .ok (.istore_n 2, 1) := by decide +kernel
theorem dX4_pivotOn_2 : decode cX4_pivotOn 2 = .ok (.iload_n 1, 1) := by decide +kernel
theorem dX4_pivotOn_3 : decode cX4_pivotOn 3 = .ok (.istore_n 3, 1) := by decide +kernel
theorem dX4_pivotOn_4 : decode cX4_pivotOn 4 = .ok (.iconst 0, 1) := by decide +kernel
theorem dX4_pivotOn_5 : decode cX4_pivotOn 5 = .ok (.istore 4, 2) := by decide +kernel
theorem dX4_pivotOn_7 : decode cX4_pivotOn 7 = .ok (.iload 4, 2) := by decide +kernel
theorem dX4_pivotOn_9 : decode cX4_pivotOn 9 = .ok (.bipush 6, 2) := by decide +kernel
theorem dX4_pivotOn_11 : decode cX4_pivotOn 11 = .ok (.if_icmp .ge 83, 3) := by decide +kernel
theorem dX4_pivotOn_14 : decode cX4_pivotOn 14 = .ok (.iload_n 3, 1) := by decide +kernel
theorem dX4_pivotOn_15 : decode cX4_pivotOn 15 = .ok (.iload 4, 2) := by decide +kernel
theorem dX4_pivotOn_17 : decode cX4_pivotOn 17 = .ok (.ishr, 1) := by decide +kernel
theorem dX4_pivotOn_18 : decode cX4_pivotOn 18 = .ok (.iconst 1, 1) := by decide +kernel
theorem dX4_pivotOn_19 : decode cX4_pivotOn 19 = .ok (.iand, 1) := by decide +kernel
theorem dX4_pivotOn_20 : decode cX4_pivotOn 20 = .ok (.ifCond .ne 6, 3) := by decide +kernel
theorem dX4_pivotOn_23 : decode cX4_pivotOn 23 = .ok (.goto 65, 3) := by decide +kernel
theorem dX4_pivotOn_26 : decode cX4_pivotOn 26 = .ok (.aload_n 0, 1) := by decide +kernel
theorem dX4_pivotOn_27 : decode cX4_pivotOn 27 = .ok (.iload 4, 2) := by decide +kernel
theorem dX4_pivotOn_29 : decode cX4_pivotOn 29 = .ok (.iload_n 3, 1) := by decide +kernel
theorem dX4_pivotOn_30 : decode cX4_pivotOn 30 = .ok (.invokevirtual 33, 3) := by decide +kernel
theorem dX4_pivotOn_33 : decode cX4_pivotOn 33 = .ok (.istore 5, 2) := by decide +kernel
theorem dX4_pivotOn_35 : decode cX4_pivotOn 35 = .ok (.iload 5, 2) := by decide +kernel
theorem dX4_pivotOn_37 : decode cX4_pivotOn 37 = .ok (.iconst (-1), 1) := by decide +kernel
theorem dX4_pivotOn_38 : decode cX4_pivotOn 38 = .ok (.if_icmp .ne 5, 3) := by decide +kernel
theorem dX4_pivotOn_41 : decode cX4_pivotOn 41 = .ok (.iconst 0, 1) := by decide +kernel
theorem dX4_pivotOn_42 : decode cX4_pivotOn 42 = .ok (.ireturn, 1) := by decide +kernel
theorem dX4_pivotOn_43 : decode cX4_pivotOn 43 = .ok (.iload_n 2, 1) := by decide +kernel
theorem dX4_pivotOn_44 : decode cX4_pivotOn 44 = .ok (.aload_n 0, 1) := by decide +kernel
theorem dX4_pivotOn_45 : decode cX4_pivotOn 45 = .ok (.iload 4, 2) := by decide +kernel
theorem dX4_pivotOn_47 : decode cX4_pivotOn 47 = .ok (.iload 5, 2) := by decide +kernel
theorem dX4_pivotOn_49 : decode cX4_pivotOn 49 = .ok (.invokevirtual 36, 3) := by decide +kernel
theorem dX4_pivotOn_52 : decode cX4_pivotOn 52 = .ok (.imul, 1) := by decide +kernel
theorem dX4_pivotOn_53 : decode cX4_pivotOn 53 = .ok (.aload_n 0, 1) := by decide +kernel
theorem dX4_pivotOn_54 : decode cX4_pivotOn 54 = .ok (.iload 4, 2) := by decide +kernel
theorem dX4_pivotOn_56 : decode cX4_pivotOn 56 = .ok (.iload 5, 2) := by decide +kernel
theorem dX4_pivotOn_58 : decode cX4_pivotOn 58 = .ok (.invokevirtual 36, 3) := by decide +kernel
theorem dX4_pivotOn_61 : decode cX4_pivotOn 61 = .ok (.imul, 1) := by decide +kernel
theorem dX4_pivotOn_62 : decode cX4_pivotOn 62 = .ok (.bipush 7, 2) := by decide +kernel
theorem dX4_pivotOn_64 : decode cX4_pivotOn 64 = .ok (.irem, 1) := by decide +kernel
theorem dX4_pivotOn_65 : decode cX4_pivotOn 65 = .ok (.istore_n 2, 1) := by decide +kernel
theorem dX4_pivotOn_66 : decode cX4_pivotOn 66 = .ok (.aload_n 0, 1) := by decide +kernel
theorem dX4_pivotOn_67 : decode cX4_pivotOn 67 = .ok (.iload 4, 2) := by decide +kernel
theorem dX4_pivotOn_69 : decode cX4_pivotOn 69 = .ok (.iload 5, 2) := by decide +kernel
theorem dX4_pivotOn_71 : decode cX4_pivotOn 71 = .ok (.invokevirtual 39, 3) := by decide +kernel
theorem dX4_pivotOn_74 : decode cX4_pivotOn 74 = .ok (.iload_n 3, 1) := by decide +kernel
theorem dX4_pivotOn_75 : decode cX4_pivotOn 75 = .ok (.iconst 1, 1) := by decide +kernel
theorem dX4_pivotOn_76 : decode cX4_pivotOn 76 = .ok (.iload 4, 2) := by decide +kernel
theorem dX4_pivotOn_78 : decode cX4_pivotOn 78 = .ok (.ishl, 1) := by decide +kernel
theorem dX4_pivotOn_79 : decode cX4_pivotOn 79 = .ok (.iconst 1, 1) := by decide +kernel
theorem dX4_pivotOn_80 : decode cX4_pivotOn 80 = .ok (.iload 5, 2) := by decide +kernel
theorem dX4_pivotOn_82 : decode cX4_pivotOn 82 = .ok (.ishl, 1) := by decide +kernel
theorem dX4_pivotOn_83 : decode cX4_pivotOn 83 = .ok (.ior, 1) := by decide +kernel
theorem dX4_pivotOn_84 : decode cX4_pivotOn 84 = .ok (.iconst (-1), 1) := by decide +kernel
theorem dX4_pivotOn_85 : decode cX4_pivotOn 85 = .ok (.ixor, 1) := by decide +kernel
theorem dX4_pivotOn_86 : decode cX4_pivotOn 86 = .ok (.iand, 1) := by decide +kernel
theorem dX4_pivotOn_87 : decode cX4_pivotOn 87 = .ok (.istore_n 3, 1) := by decide +kernel
theorem dX4_pivotOn_88 : decode cX4_pivotOn 88 = .ok (.iinc 4 1, 3) := by decide +kernel
theorem dX4_pivotOn_91 : decode cX4_pivotOn 91 = .ok (.goto (-84), 3) := by decide +kernel
theorem dX4_pivotOn_94 : decode cX4_pivotOn 94 = .ok (.iload_n 2, 1) := by decide +kernel
theorem dX4_pivotOn_95 : decode cX4_pivotOn 95 = .ok (.ireturn, 1) := by decide +kernel
set_option maxRecDepth 20000 in
theorem ggX4_mate_X4_at : GoodIn wsX4_mate wsX4_at := goodIn_r _ [5, 6, 7] (by decide +kernel) (by decide +kernel)
set_option maxRecDepth 20000 in
theorem gX4_mate_X4_at : GoodIn wsX4_mate (wsV RX4 36 RX4 yX4_at wsX4_at) := goodIn_app (goodIn_of _ (by decide +kernel)) ggX4_mate_X4_at
theorem dX4_mate_0 : decode cX4_mate 0 = .ok (.iconst 0, 1) := by decide +kernel
theorem dX4_mate_1 : decode cX4_mate 1 = .ok (.istore_n 3, 1) := by decide +kernel
theorem dX4_mate_2 : decode cX4_mate 2 = .ok (.iload_n 3, 1) := by decide +kernel
theorem dX4_mate_3 : decode cX4_mate 3 = .ok (.bipush 6, 2) := by decide +kernel
theorem dX4_mate_5 : decode cX4_mate 5 = .ok (.if_icmp .ge 28, 3) := by decide +kernel
theorem dX4_mate_8 : decode cX4_mate 8 = .ok (.iload_n 2, 1) := by decide +kernel
theorem dX4_mate_9 : decode cX4_mate 9 = .ok (.iload_n 3, 1) := by decide +kernel
theorem dX4_mate_10 : decode cX4_mate 10 = .ok (.ishr, 1) := by decide +kernel
theorem dX4_mate_11 : decode cX4_mate 11 = .ok (.iconst 1, 1) := by decide +kernel
theorem dX4_mate_12 : decode cX4_mate 12 = .ok (.iand, 1) := by decide +kernel
theorem dX4_mate_13 : decode cX4_mate 13 = .ok (.ifCond .eq 14, 3) := by decide +kernel
theorem dX4_mate_16 : decode cX4_mate 16 = .ok (.aload_n 0, 1) := by decide +kernel
theorem dX4_mate_17 : decode cX4_mate 17 = .ok (.iload_n 1, 1) := by decide +kernel
theorem dX4_mate_18 : decode cX4_mate 18 = .ok (.iload_n 3, 1) := by decide +kernel
theorem dX4_mate_19 : decode cX4_mate 19 = .ok (.invokevirtual 36, 3) := by decide +kernel
theorem dX4_mate_22 : decode cX4_mate 22 = .ok (.ifCond .eq 5, 3) := by decide +kernel
theorem dX4_mate_25 : decode cX4_mate 25 = .ok (.iload_n 3, 1) := by decide +kernel
theorem dX4_mate_26 : decode cX4_mate 26 = .ok (.ireturn, 1) := by decide +kernel
theorem dX4_mate_27 : decode cX4_mate 27 = .ok (.iinc 3 1, 3) := by decide +kernel
theorem dX4_mate_30 : decode cX4_mate 30 = .ok (.goto (-28), 3) := by decide +kernel
theorem dX4_mate_33 : decode cX4_mate 33 = .ok (.iconst (-1), 1) := by decide +kernel
theorem dX4_mate_34 : decode cX4_mate 34 = .ok (.ireturn, 1) := by decide +kernel
set_option maxRecDepth 20000 in
theorem ggX4_pivotOnTwo_X4_at : GoodIn wsX4_pivotOnTwo wsX4_at := goodIn_r _ [5, 6, 15] (by decide +kernel) (by decide +kernel)
set_option maxRecDepth 20000 in
theorem gX4_pivotOnTwo_X4_at : GoodIn wsX4_pivotOnTwo (wsV RX4 36 RX4 yX4_at wsX4_at) := goodIn_app (goodIn_of _ (by decide +kernel)) ggX4_pivotOnTwo_X4_at
set_option maxRecDepth 20000 in
theorem ggX4_pivotOnTwo_X4_write : GoodIn wsX4_pivotOnTwo wsX4_write := goodIn_r _ [10, 6, 11, 12, 13, 14, 15] (by decide +kernel) (by decide +kernel)
set_option maxRecDepth 20000 in
theorem gX4_pivotOnTwo_X4_write : GoodIn wsX4_pivotOnTwo (wsV RX4 46 RX4 yX4_write wsX4_write) := goodIn_app (goodIn_of _ (by decide +kernel)) ggX4_pivotOnTwo_X4_write
theorem dX4_pivotOnTwo_0 : decode cX4_pivotOnTwo 0 = .ok (.getstatic 43, 3) := by decide +kernel
theorem dX4_pivotOnTwo_3 : decode cX4_pivotOnTwo 3 = .ok (.aload_n 0, 1) := by decide +kernel
theorem dX4_pivotOnTwo_4 : decode cX4_pivotOnTwo 4 = .ok (.iload_n 1, 1) := by decide +kernel
theorem dX4_pivotOnTwo_5 : decode cX4_pivotOnTwo 5 = .ok (.iload_n 2, 1) := by decide +kernel
theorem dX4_pivotOnTwo_6 : decode cX4_pivotOnTwo 6 = .ok (.invokevirtual 36, 3) := by decide +kernel
theorem dX4_pivotOnTwo_9 : decode cX4_pivotOnTwo 9 = .ok (.iaload, 1) := by decide +kernel
theorem dX4_pivotOnTwo_10 : decode cX4_pivotOnTwo 10 = .ok (.istore_n 3, 1) := by decide +kernel
theorem dX4_pivotOnTwo_11 : decode cX4_pivotOnTwo 11 = .ok (.iconst 0, 1) := by decide +kernel
theorem dX4_pivotOnTwo_12 : decode cX4_pivotOnTwo 12 = .ok (.istore 4, 2) := by decide +kernel
theorem dX4_pivotOnTwo_14 : decode cX4_pivotOnTwo 14 = .ok (.iload 4, 2) := by decide +kernel
theorem dX4_pivotOnTwo_16 : decode cX4_pivotOnTwo 16 = .ok (.bipush 6, 2) := by decide +kernel
theorem dX4_pivotOnTwo_18 : decode cX4_pivotOnTwo 18 = .ok (.if_icmp .ge 106, 3) := by decide +kernel
theorem dX4_pivotOnTwo_21 : decode cX4_pivotOnTwo 21 = .ok (.iload 4, 2) := by decide +kernel
theorem dX4_pivotOnTwo_23 : decode cX4_pivotOnTwo 23 = .ok (.iconst 1, 1) := by decide +kernel
theorem dX4_pivotOnTwo_24 : decode cX4_pivotOnTwo 24 = .ok (.iadd, 1) := by decide +kernel
theorem dX4_pivotOnTwo_25 : decode cX4_pivotOnTwo 25 = .ok (.istore 5, 2) := by decide +kernel
theorem dX4_pivotOnTwo_27 : decode cX4_pivotOnTwo 27 = .ok (.iload 5, 2) := by decide +kernel
theorem dX4_pivotOnTwo_29 : decode cX4_pivotOnTwo 29 = .ok (.bipush 6, 2) := by decide +kernel
theorem dX4_pivotOnTwo_31 : decode cX4_pivotOnTwo 31 = .ok (.if_icmp .ge 87, 3) := by decide +kernel
theorem dX4_pivotOnTwo_34 : decode cX4_pivotOnTwo 34 = .ok (.iload 4, 2) := by decide +kernel
theorem dX4_pivotOnTwo_36 : decode cX4_pivotOnTwo 36 = .ok (.iload_n 1, 1) := by decide +kernel
theorem dX4_pivotOnTwo_37 : decode cX4_pivotOnTwo 37 = .ok (.if_icmp .eq 75, 3) := by decide +kernel
theorem dX4_pivotOnTwo_40 : decode cX4_pivotOnTwo 40 = .ok (.iload 4, 2) := by decide +kernel
theorem dX4_pivotOnTwo_42 : decode cX4_pivotOnTwo 42 = .ok (.iload_n 2, 1) := by decide +kernel
theorem dX4_pivotOnTwo_43 : decode cX4_pivotOnTwo 43 = .ok (.if_icmp .eq 69, 3) := by decide +kernel
theorem dX4_pivotOnTwo_46 : decode cX4_pivotOnTwo 46 = .ok (.iload 5, 2) := by decide +kernel
theorem dX4_pivotOnTwo_48 : decode cX4_pivotOnTwo 48 = .ok (.iload_n 1, 1) := by decide +kernel
theorem dX4_pivotOnTwo_49 : decode cX4_pivotOnTwo 49 = .ok (.if_icmp .eq 63, 3) := by decide +kernel
theorem dX4_pivotOnTwo_52 : decode cX4_pivotOnTwo 52 = .ok (.iload 5, 2) := by decide +kernel
theorem dX4_pivotOnTwo_54 : decode cX4_pivotOnTwo 54 = .ok (.iload_n 2, 1) := by decide +kernel
theorem dX4_pivotOnTwo_55 : decode cX4_pivotOnTwo 55 = .ok (.if_icmp .eq 57, 3) := by decide +kernel
theorem dX4_pivotOnTwo_58 : decode cX4_pivotOnTwo 58 = .ok (.aload_n 0, 1) := by decide +kernel
theorem dX4_pivotOnTwo_59 : decode cX4_pivotOnTwo 59 = .ok (.iload 4, 2) := by decide +kernel
theorem dX4_pivotOnTwo_61 : decode cX4_pivotOnTwo 61 = .ok (.iload_n 1, 1) := by decide +kernel
theorem dX4_pivotOnTwo_62 : decode cX4_pivotOnTwo 62 = .ok (.invokevirtual 36, 3) := by decide +kernel
theorem dX4_pivotOnTwo_65 : decode cX4_pivotOnTwo 65 = .ok (.aload_n 0, 1) := by decide +kernel
theorem dX4_pivotOnTwo_66 : decode cX4_pivotOnTwo 66 = .ok (.iload_n 2, 1) := by decide +kernel
theorem dX4_pivotOnTwo_67 : decode cX4_pivotOnTwo 67 = .ok (.iload 5, 2) := by decide +kernel
theorem dX4_pivotOnTwo_69 : decode cX4_pivotOnTwo 69 = .ok (.invokevirtual 36, 3) := by decide +kernel
theorem dX4_pivotOnTwo_72 : decode cX4_pivotOnTwo 72 = .ok (.imul, 1) := by decide +kernel
theorem dX4_pivotOnTwo_73 : decode cX4_pivotOnTwo 73 = .ok (.aload_n 0, 1) := by decide +kernel
theorem dX4_pivotOnTwo_74 : decode cX4_pivotOnTwo 74 = .ok (.iload 4, 2) := by decide +kernel
theorem dX4_pivotOnTwo_76 : decode cX4_pivotOnTwo 76 = .ok (.iload_n 2, 1) := by decide +kernel
theorem dX4_pivotOnTwo_77 : decode cX4_pivotOnTwo 77 = .ok (.invokevirtual 36, 3) := by decide +kernel
theorem dX4_pivotOnTwo_80 : decode cX4_pivotOnTwo 80 = .ok (.aload_n 0, 1) := by decide +kernel
theorem dX4_pivotOnTwo_81 : decode cX4_pivotOnTwo 81 = .ok (.iload_n 1, 1) := by decide +kernel
theorem dX4_pivotOnTwo_82 : decode cX4_pivotOnTwo 82 = .ok (.iload 5, 2) := by decide +kernel
theorem dX4_pivotOnTwo_84 : decode cX4_pivotOnTwo 84 = .ok (.invokevirtual 36, 3) := by decide +kernel
theorem dX4_pivotOnTwo_87 : decode cX4_pivotOnTwo 87 = .ok (.imul, 1) := by decide +kernel
theorem dX4_pivotOnTwo_88 : decode cX4_pivotOnTwo 88 = .ok (.isub, 1) := by decide +kernel
theorem dX4_pivotOnTwo_89 : decode cX4_pivotOnTwo 89 = .ok (.istore 6, 2) := by decide +kernel
theorem dX4_pivotOnTwo_91 : decode cX4_pivotOnTwo 91 = .ok (.aload_n 0, 1) := by decide +kernel
theorem dX4_pivotOnTwo_92 : decode cX4_pivotOnTwo 92 = .ok (.iload 4, 2) := by decide +kernel
theorem dX4_pivotOnTwo_94 : decode cX4_pivotOnTwo 94 = .ok (.iload 5, 2) := by decide +kernel
theorem dX4_pivotOnTwo_96 : decode cX4_pivotOnTwo 96 = .ok (.aload_n 0, 1) := by decide +kernel
theorem dX4_pivotOnTwo_97 : decode cX4_pivotOnTwo 97 = .ok (.iload 4, 2) := by decide +kernel
theorem dX4_pivotOnTwo_99 : decode cX4_pivotOnTwo 99 = .ok (.iload 5, 2) := by decide +kernel
theorem dX4_pivotOnTwo_101 : decode cX4_pivotOnTwo 101 = .ok (.invokevirtual 36, 3) := by decide +kernel
theorem dX4_pivotOnTwo_104 : decode cX4_pivotOnTwo 104 = .ok (.iload 6, 2) := by decide +kernel
theorem dX4_pivotOnTwo_106 : decode cX4_pivotOnTwo 106 = .ok (.iload_n 3, 1) := by decide +kernel
theorem dX4_pivotOnTwo_107 : decode cX4_pivotOnTwo 107 = .ok (.imul, 1) := by decide +kernel
theorem dX4_pivotOnTwo_108 : decode cX4_pivotOnTwo 108 = .ok (.iadd, 1) := by decide +kernel
theorem dX4_pivotOnTwo_109 : decode cX4_pivotOnTwo 109 = .ok (.invokevirtual 46, 3) := by decide +kernel
theorem dX4_pivotOnTwo_112 : decode cX4_pivotOnTwo 112 = .ok (.iinc 5 1, 3) := by decide +kernel
theorem dX4_pivotOnTwo_115 : decode cX4_pivotOnTwo 115 = .ok (.goto (-88), 3) := by decide +kernel
theorem dX4_pivotOnTwo_118 : decode cX4_pivotOnTwo 118 = .ok (.iinc 4 1, 3) := by decide +kernel
theorem dX4_pivotOnTwo_121 : decode cX4_pivotOnTwo 121 = .ok (.goto (-107), 3) := by decide +kernel
theorem dX4_pivotOnTwo_124 : decode cX4_pivotOnTwo 124 = .ok (.iconst 0, 1) := by decide +kernel
theorem dX4_pivotOnTwo_125 : decode cX4_pivotOnTwo 125 = .ok (.istore 4, 2) := by decide +kernel
theorem dX4_pivotOnTwo_127 : decode cX4_pivotOnTwo 127 = .ok (.iload 4, 2) := by decide +kernel
theorem dX4_pivotOnTwo_129 : decode cX4_pivotOnTwo 129 = .ok (.bipush 6, 2) := by decide +kernel
theorem dX4_pivotOnTwo_131 : decode cX4_pivotOnTwo 131 = .ok (.if_icmp .ge 58, 3) := by decide +kernel
theorem dX4_pivotOnTwo_134 : decode cX4_pivotOnTwo 134 = .ok (.iload 4, 2) := by decide +kernel
theorem dX4_pivotOnTwo_136 : decode cX4_pivotOnTwo 136 = .ok (.iload_n 1, 1) := by decide +kernel
theorem dX4_pivotOnTwo_137 : decode cX4_pivotOnTwo 137 = .ok (.if_icmp .eq 46, 3) := by decide +kernel
theorem dX4_pivotOnTwo_140 : decode cX4_pivotOnTwo 140 = .ok (.iload 4, 2) := by decide +kernel
theorem dX4_pivotOnTwo_142 : decode cX4_pivotOnTwo 142 = .ok (.iload_n 2, 1) := by decide +kernel
theorem dX4_pivotOnTwo_143 : decode cX4_pivotOnTwo 143 = .ok (.if_icmp .eq 40, 3) := by decide +kernel
theorem dX4_pivotOnTwo_146 : decode cX4_pivotOnTwo 146 = .ok (.aload_n 0, 1) := by decide +kernel
theorem dX4_pivotOnTwo_147 : decode cX4_pivotOnTwo 147 = .ok (.iload_n 1, 1) := by decide +kernel
theorem dX4_pivotOnTwo_148 : decode cX4_pivotOnTwo 148 = .ok (.iload 4, 2) := by decide +kernel
theorem dX4_pivotOnTwo_150 : decode cX4_pivotOnTwo 150 = .ok (.invokevirtual 36, 3) := by decide +kernel
theorem dX4_pivotOnTwo_153 : decode cX4_pivotOnTwo 153 = .ok (.istore 5, 2) := by decide +kernel
theorem dX4_pivotOnTwo_155 : decode cX4_pivotOnTwo 155 = .ok (.aload_n 0, 1) := by decide +kernel
theorem dX4_pivotOnTwo_156 : decode cX4_pivotOnTwo 156 = .ok (.iload_n 1, 1) := by decide +kernel
theorem dX4_pivotOnTwo_157 : decode cX4_pivotOnTwo 157 = .ok (.iload 4, 2) := by decide +kernel
theorem dX4_pivotOnTwo_159 : decode cX4_pivotOnTwo 159 = .ok (.aload_n 0, 1) := by decide +kernel
theorem dX4_pivotOnTwo_160 : decode cX4_pivotOnTwo 160 = .ok (.iload_n 2, 1) := by decide +kernel
theorem dX4_pivotOnTwo_161 : decode cX4_pivotOnTwo 161 = .ok (.iload 4, 2) := by decide +kernel
theorem dX4_pivotOnTwo_163 : decode cX4_pivotOnTwo 163 = .ok (.invokevirtual 36, 3) := by decide +kernel
theorem dX4_pivotOnTwo_166 : decode cX4_pivotOnTwo 166 = .ok (.iload_n 3, 1) := by decide +kernel
theorem dX4_pivotOnTwo_167 : decode cX4_pivotOnTwo 167 = .ok (.imul, 1) := by decide +kernel
theorem dX4_pivotOnTwo_168 : decode cX4_pivotOnTwo 168 = .ok (.invokevirtual 46, 3) := by decide +kernel
theorem dX4_pivotOnTwo_171 : decode cX4_pivotOnTwo 171 = .ok (.aload_n 0, 1) := by decide +kernel
theorem dX4_pivotOnTwo_172 : decode cX4_pivotOnTwo 172 = .ok (.iload_n 2, 1) := by decide +kernel
theorem dX4_pivotOnTwo_173 : decode cX4_pivotOnTwo 173 = .ok (.iload 4, 2) := by decide +kernel
theorem dX4_pivotOnTwo_175 : decode cX4_pivotOnTwo 175 = .ok (.iload 5, 2) := by decide +kernel
theorem dX4_pivotOnTwo_177 : decode cX4_pivotOnTwo 177 = .ok (.ineg, 1) := by decide +kernel
theorem dX4_pivotOnTwo_178 : decode cX4_pivotOnTwo 178 = .ok (.iload_n 3, 1) := by decide +kernel
theorem dX4_pivotOnTwo_179 : decode cX4_pivotOnTwo 179 = .ok (.imul, 1) := by decide +kernel
theorem dX4_pivotOnTwo_180 : decode cX4_pivotOnTwo 180 = .ok (.invokevirtual 46, 3) := by decide +kernel
theorem dX4_pivotOnTwo_183 : decode cX4_pivotOnTwo 183 = .ok (.iinc 4 1, 3) := by decide +kernel
theorem dX4_pivotOnTwo_186 : decode cX4_pivotOnTwo 186 = .ok (.goto (-59), 3) := by decide +kernel
theorem dX4_pivotOnTwo_189 : decode cX4_pivotOnTwo 189 = .ok (.aload_n 0, 1) := by decide +kernel
theorem dX4_pivotOnTwo_190 : decode cX4_pivotOnTwo 190 = .ok (.iload_n 1, 1) := by decide +kernel
theorem dX4_pivotOnTwo_191 : decode cX4_pivotOnTwo 191 = .ok (.iload_n 2, 1) := by decide +kernel
theorem dX4_pivotOnTwo_192 : decode cX4_pivotOnTwo 192 = .ok (.iload_n 3, 1) := by decide +kernel
theorem dX4_pivotOnTwo_193 : decode cX4_pivotOnTwo 193 = .ok (.ineg, 1) := by decide +kernel
theorem dX4_pivotOnTwo_194 : decode cX4_pivotOnTwo 194 = .ok (.invokevirtual 46, 3) := by decide +kernel
theorem dX4_pivotOnTwo_197 : decode cX4_pivotOnTwo 197 = .ok (.return_, 1) := by decide +kernel
