section
variable {p : Program} {l : Launch} {e : Env} {s : State} {m : MethodId} {below : List Frame} {meth : Method} {c : Code} {Q : State → Prop} {G : gk_G} {A : Nat → Prop} {a d : Nat → Nat} {b L i : Nat} {xs : Nat → Int32}
set_option maxRecDepth 100000 in
set_option maxHeartbeats 8000000 in
theorem lw_c24 (C : gn_C p s m #[.ref b] c cL_law 4 RL wsL_law true true G A) (hX : va_X b L xs s s.heap) (hbl : b < s.heap.size) (hbA : ¬ A b) (hL : L ≤ 3072) (hi : i + 6 ≤ L) (kk : ∀ (H : Heap) (locs : List Loc) (ls : Array Slot), lw_I G A s a d H locs → lv_has ls 4 [(0, .ref b), (1, .ref (a 0)), (2, .ref (d 0)), (3, .int (nI i))] → W p l e room_1 s m #[.ref b] below meth c H locs 600000 7302250 Q (F0 m 1461 ls [])) {H : Heap} {locs : List Loc} {ls : Array Slot} (h : lw_I G A s a d H locs) (hl : lv_has ls 4 [(0, .ref b), (1, .ref (a 0)), (2, .ref (d 0)), (3, .int (nI i))]) : W p l e room_1 s m #[.ref b] below meth c H locs 600000 7302250 Q (F0 m 994 ls []) := by
  obtain ⟨hx, hb, hml, hown, hts, hKK, hSt, hO, hA⟩ := id C
  obtain ⟨n, M, K, Wt, T, ik, kN5, kM5, kK5, kW5, kT5, R, sn, sB, sT, S, Z, V, kN6, kM6, kK6, kW6, kT6, It, fa, qu, sq, be, pt6, sd, wa, fu, ro, ju, na, mo, h0, hn, hV, hW, hT, hK, hR, hS3, h⟩ := h
  obtain ⟨r, oN, oB, orows, oJ, h5, h6⟩ := o_jumps (n := n) (B := sB) (J := ju) (K := K) (M := M) (N := sn) (T := sT) (rows := ro) h0 hn hV hS3 (xs (nI i + 1).toNatClampNeg) (xs (nI i + 2).toNatClampNeg) (xs (nI i + 3).toNatClampNeg)
  refine lv_aload_n hx hb dL_law_994 rfl (lv_at hl 1 rfl) ?_
  refine lv_aload_n hx hb dL_law_995 rfl (lv_at hl 0 rfl) ?_
  refine lv_iload_n hx hb dL_law_996 rfl (lv_at hl 3 rfl) ?_
  refine lv_iconst (v := 1) hx hb dL_law_997 (by decide) ?_
  refine lv_iadd hx hb dL_law_998 ?_
  refine va_sld hx hb hX hbl hbA h.2.2 (lw_in (k := 1) 1 rfl hi hL (by omega)) dL_law_999 ?_
  refine lv_aload_n hx hb dL_law_1000 rfl (lv_at hl 0 rfl) ?_
  refine lv_iload_n hx hb dL_law_1001 rfl (lv_at hl 3 rfl) ?_
  refine lv_iconst (v := 2) hx hb dL_law_1002 (by decide) ?_
  refine lv_iadd hx hb dL_law_1003 ?_
  refine va_sld hx hb hX hbl hbA h.2.2 (lw_in (k := 2) 2 rfl hi hL (by omega)) dL_law_1004 ?_
  refine lv_aload_n hx hb dL_law_1005 rfl (lv_at hl 0 rfl) ?_
  refine lv_iload_n hx hb dL_law_1006 rfl (lv_at hl 3 rfl) ?_
  refine lv_iconst (v := 3) hx hb dL_law_1007 (by decide) ?_
  refine lv_iadd hx hb dL_law_1008 ?_
  refine va_sld hx hb hX hbl hbA h.2.2 (lw_in (k := 3) 3 rfl hi hL (by omega)) dL_law_1009 ?_
  refine gn_callV (n := 3) (bytes := cX5_jumps) (maxL := 4) (ret := some .int) (Cn := RX5) (T := TX5) (N := 6) ([(a 4, gk_I G 6 Wt), (a 5, .inr (3, [.ref (a 6)])), (a 6, gk_I G 36 T), (a 7, .inr (0, [.int kN5, .ref (a 8), .ref (a 9), .ref (a 10), .ref (a 11)])), (a 8, gk_J G 6 kM5), (a 9, gk_I G 6 kK5), (a 10, gk_I G 6 kW5), (a 11, .inr (3, [.ref (a 12)])), (a 12, gk_I G 36 kT5), (a 13, .inr (3, [.ref (a 14)])), (a 14, gk_I G 36 R), (a 18, gk_R G 4 (gk_four (a 19) (a 21) (a 23) (a 25))), (a 19, .inr (1, [.int (S 0), .int (Z 0), .ref (a 20)])), (a 20, gk_J G 80 (V 0)), (a 21, .inr (1, [.int (S 1), .int (Z 1), .ref (a 22)])), (a 22, gk_J G 80 (V 1)), (a 23, .inr (1, [.int (S 2), .int (Z 2), .ref (a 24)])), (a 24, gk_J G 80 (V 2)), (a 25, .inr (1, [.int (S 3), .int (Z 3), .ref (a 26)])), (a 26, gk_J G 80 (V 3))] ++ lw_w6 G d (nI n) M K Wt T kN6 kM6 kK6 kW6 kT6 S Z It fa qu sq be pt6 sd wa fu ro ju na mo) (lw_w5 G a (nI n) M K Wt T ik kN5 kM5 kK5 kW5 kT5 R oN oB sT S Z V ++ lw_w6 G d (nI n) M K Wt T kN6 kM6 kK6 kW6 kT6 S Z It fa qu sq be pt6 sd wa fu ro ju na mo) [] C h (c_X5_jumps l G (a 0) (a 1) (a 2) (a 3) (a 4) (a 5) (a 7) (a 13) (a 15) (a 16) (a 17) (a 18) ik (nI n) M K sn sB sT (xs (nI i + 1).toNatClampNeg) (xs (nI i + 2).toNatClampNeg) (xs (nI i + 3).toNatClampNeg) h5) gL_law_X5_jumps dL_law_1010 hl.1 ⟨Nat.le_of_ble_eq_true rfl, Nat.le_of_ble_eq_true rfl⟩ [0, 1, 2, 3, 15, 16, 17] [4, 5, 6, 7, 8, 9, 10, 11, 12, 13, 14, 18, 19, 20, 21, 22, 23, 24, 25, 26, 27, 28, 29, 30, 31, 32, 33, 34, 35, 36, 37, 38, 39, 40, 41, 42, 43, 44, 45, 46, 47, 48] [42, 43, 44, 45, 0, 1, 2, 3, 4, 5, 6, 7, 8, 9, 10, 46, 47, 48, 11, 12, 13, 14, 15, 16, 17, 18, 19, 20, 21, 22, 23, 24, 25, 26, 27, 28, 29, 30, 31, 32, 33, 34, 35, 36, 37, 38, 39, 40, 41] rfl rfl ⟨rfl, rfl⟩ ⟨Nat.le_of_ble_eq_true rfl, Nat.le_of_ble_eq_true rfl⟩ ⟨rfl, by decide +kernel, by decide +kernel, by decide +kernel⟩ rfl (fun h => h) (Nat.le_of_ble_eq_true rfl) (by decide +kernel) rfl rfl (by decide +kernel) (by decide +kernel) (by decide +kernel) rfl (fun H locs h => ?_)
  refine lv_aload_n hx hb dL_law_1013 rfl (lv_at hl 2 rfl) ?_
  refine lv_aload_n hx hb dL_law_1014 rfl (lv_at hl 0 rfl) ?_
  refine lv_iload_n hx hb dL_law_1015 rfl (lv_at hl 3 rfl) ?_
  refine lv_iconst (v := 1) hx hb dL_law_1016 (by decide) ?_
  refine lv_iadd hx hb dL_law_1017 ?_
  refine va_sld hx hb hX hbl hbA h.2.2 (lw_in (k := 1) 1 rfl hi hL (by omega)) dL_law_1018 ?_
  refine lv_aload_n hx hb dL_law_1019 rfl (lv_at hl 0 rfl) ?_
  refine lv_iload_n hx hb dL_law_1020 rfl (lv_at hl 3 rfl) ?_
  refine lv_iconst (v := 2) hx hb dL_law_1021 (by decide) ?_
  refine lv_iadd hx hb dL_law_1022 ?_
  refine va_sld hx hb hX hbl hbA h.2.2 (lw_in (k := 2) 2 rfl hi hL (by omega)) dL_law_1023 ?_
  refine lv_aload_n hx hb dL_law_1024 rfl (lv_at hl 0 rfl) ?_
  refine lv_iload_n hx hb dL_law_1025 rfl (lv_at hl 3 rfl) ?_
  refine lv_iconst (v := 3) hx hb dL_law_1026 (by decide) ?_
  refine lv_iadd hx hb dL_law_1027 ?_
  refine va_sld hx hb hX hbl hbA h.2.2 (lw_in (k := 3) 3 rfl hi hL (by omega)) dL_law_1028 ?_
  refine gn_callV (n := 3) (bytes := cX6_jumps) (maxL := 8) (ret := some .int) (Cn := RX6) (T := TX6) (N := 25) (lw_w5 G a (nI n) M K Wt T ik kN5 kM5 kK5 kW5 kT5 R oN oB sT S Z V ++ [(d 3, gk_I G 6 Wt), (d 4, gk_I G 36 T), (d 5, gk_J G 6 kM6), (d 6, gk_I G 6 kK6), (d 7, gk_I G 6 kW6), (d 8, gk_I G 36 kT6), (d 9, gk_I G 4 S), (d 10, gk_I G 4 Z), (d 11, gk_J G 320 It), (d 12, gk_I G 64 fa), (d 13, gk_I G 64 qu), (d 14, gk_I G 36 sq), (d 15, gk_I G 36 be), (d 16, gk_I G 6 pt6), (d 17, gk_I G 36 wa), (d 18, gk_I G 36 fu), (d 20, gk_I G 6 na), (d 21, gk_J G 80 mo)]) (lw_w5 G a (nI n) M K Wt T ik kN5 kM5 kK5 kW5 kT5 R oN oB sT S Z V ++ lw_w6 G d (nI n) M K Wt T kN6 kM6 kK6 kW6 kT6 S Z It fa qu sq be pt6 sd wa fu orows oJ na mo) [.int r] C h (c_X6_jumps l G (d 0) (d 1) (d 2) (d 3) (d 4) (d 5) (d 6) (d 7) (d 8) (d 9) (d 10) (d 11) (d 12) (d 13) (d 14) (d 15) (d 16) (d 17) (d 18) (d 19) (d 20) (d 21) (nI n) kN6 sd ro M K ju (xs (nI i + 1).toNatClampNeg) (xs (nI i + 2).toNatClampNeg) (xs (nI i + 3).toNatClampNeg) h6) gL_law_X6_jumps dL_law_1029 hl.1 ⟨Nat.le_of_ble_eq_true rfl, Nat.le_of_ble_eq_true rfl⟩ [27, 28, 29, 46] [0, 1, 2, 3, 4, 5, 6, 7, 8, 9, 10, 11, 12, 13, 14, 15, 16, 17, 18, 19, 20, 21, 22, 23, 24, 25, 26, 30, 31, 32, 33, 34, 35, 36, 37, 38, 39, 40, 41, 42, 43, 44, 45, 47, 48] [0, 1, 2, 3, 4, 5, 6, 7, 8, 9, 10, 11, 12, 13, 14, 15, 16, 17, 18, 19, 20, 21, 22, 23, 24, 25, 26, 45, 46, 47, 27, 28, 29, 30, 31, 32, 33, 34, 35, 36, 37, 38, 39, 40, 41, 42, 48, 43, 44] rfl rfl ⟨rfl, rfl⟩ ⟨Nat.le_of_ble_eq_true rfl, Nat.le_of_ble_eq_true rfl⟩ ⟨rfl, by decide +kernel, by decide +kernel, by decide +kernel⟩ rfl (fun h => by cases h) (Nat.le_of_ble_eq_true rfl) (by decide +kernel) rfl rfl (by decide +kernel) (by decide +kernel) (by decide +kernel) rfl (fun H locs h => ?_)
  refine W.eq (g2 := F0 m 1032 ls [.int r, .int r]) rfl ?_
  refine lv_icmp_eq (tgt := 1461) hx hb dL_law_1032 (by decide) (fun _ => ?_) (fun c9 => absurd rfl c9)
  exact kk H locs ls ⟨n, M, K, Wt, T, ik, kN5, kM5, kK5, kW5, kT5, R, oN, oB, sT, S, Z, V, kN6, kM6, kK6, kW6, kT6, It, fa, qu, sq, be, pt6, sd, wa, fu, orows, oJ, na, mo, h0, hn, hV, hW, hT, hK, hR, hS3, h⟩ hl
set_option maxRecDepth 100000 in
set_option maxHeartbeats 8000000 in
theorem lw_c25 (C : gn_C p s m #[.ref b] c cL_law 4 RL wsL_law true true G A) (hX : va_X b L xs s s.heap) (hbl : b < s.heap.size) (hbA : ¬ A b) (hL : L ≤ 3072) (hi : i + 6 ≤ L) (kk : ∀ (H : Heap) (locs : List Loc) (ls : Array Slot), lw_I G A s a d H locs → lv_has ls 4 [(0, .ref b), (1, .ref (a 0)), (2, .ref (d 0)), (3, .int (nI i))] → W p l e room_1 s m #[.ref b] below meth c H locs 600000 7302250 Q (F0 m 1461 ls [])) {H : Heap} {locs : List Loc} {ls : Array Slot} (h : lw_I G A s a d H locs) (hl : lv_has ls 4 [(0, .ref b), (1, .ref (a 0)), (2, .ref (d 0)), (3, .int (nI i))]) : W p l e room_1 s m #[.ref b] below meth c H locs 600000 7302250 Q (F0 m 1037 ls []) := by
  obtain ⟨hx, hb, hml, hown, hts, hKK, hSt, hO, hA⟩ := id C
  obtain ⟨n, M, K, Wt, T, ik, kN5, kM5, kK5, kW5, kT5, R, sn, sB, sT, S, Z, V, kN6, kM6, kK6, kW6, kT6, It, fa, qu, sq, be, pt6, sd, wa, fu, ro, ju, na, mo, h0, hn, hV, hW, hT, hK, hR, hS3, h⟩ := h
  obtain ⟨r, oN, oB, orows, oJ, h5, h6⟩ := o_jump (n := n) (B := sB) (J := ju) (K := K) (M := M) (N := sn) (rows := ro) hn hV (xs (nI i + 1).toNatClampNeg) (xs (nI i + 2).toNatClampNeg) (xs (nI i + 3).toNatClampNeg)
  refine lv_aload_n hx hb dL_law_1037 rfl (lv_at hl 1 rfl) ?_
  refine lv_aload_n hx hb dL_law_1038 rfl (lv_at hl 0 rfl) ?_
  refine lv_iload_n hx hb dL_law_1039 rfl (lv_at hl 3 rfl) ?_
  refine lv_iconst (v := 1) hx hb dL_law_1040 (by decide) ?_
  refine lv_iadd hx hb dL_law_1041 ?_
  refine va_sld hx hb hX hbl hbA h.2.2 (lw_in (k := 1) 1 rfl hi hL (by omega)) dL_law_1042 ?_
  refine lv_aload_n hx hb dL_law_1043 rfl (lv_at hl 0 rfl) ?_
  refine lv_iload_n hx hb dL_law_1044 rfl (lv_at hl 3 rfl) ?_
  refine lv_iconst (v := 2) hx hb dL_law_1045 (by decide) ?_
  refine lv_iadd hx hb dL_law_1046 ?_
  refine va_sld hx hb hX hbl hbA h.2.2 (lw_in (k := 2) 2 rfl hi hL (by omega)) dL_law_1047 ?_
  refine lv_aload_n hx hb dL_law_1048 rfl (lv_at hl 0 rfl) ?_
  refine lv_iload_n hx hb dL_law_1049 rfl (lv_at hl 3 rfl) ?_
  refine lv_iconst (v := 3) hx hb dL_law_1050 (by decide) ?_
  refine lv_iadd hx hb dL_law_1051 ?_
  refine va_sld hx hb hX hbl hbA h.2.2 (lw_in (k := 3) 3 rfl hi hL (by omega)) dL_law_1052 ?_
  refine gn_callV (n := 3) (bytes := cX5_jump) (maxL := 4) (ret := some .int) (Cn := RX5) (T := TX5) (N := 6) ([(a 4, gk_I G 6 Wt), (a 5, .inr (3, [.ref (a 6)])), (a 6, gk_I G 36 T), (a 7, .inr (0, [.int kN5, .ref (a 8), .ref (a 9), .ref (a 10), .ref (a 11)])), (a 8, gk_J G 6 kM5), (a 9, gk_I G 6 kK5), (a 10, gk_I G 6 kW5), (a 11, .inr (3, [.ref (a 12)])), (a 12, gk_I G 36 kT5), (a 13, .inr (3, [.ref (a 14)])), (a 14, gk_I G 36 R), (a 17, gk_I G 64 sT), (a 18, gk_R G 4 (gk_four (a 19) (a 21) (a 23) (a 25))), (a 19, .inr (1, [.int (S 0), .int (Z 0), .ref (a 20)])), (a 20, gk_J G 80 (V 0)), (a 21, .inr (1, [.int (S 1), .int (Z 1), .ref (a 22)])), (a 22, gk_J G 80 (V 1)), (a 23, .inr (1, [.int (S 2), .int (Z 2), .ref (a 24)])), (a 24, gk_J G 80 (V 2)), (a 25, .inr (1, [.int (S 3), .int (Z 3), .ref (a 26)])), (a 26, gk_J G 80 (V 3))] ++ lw_w6 G d (nI n) M K Wt T kN6 kM6 kK6 kW6 kT6 S Z It fa qu sq be pt6 sd wa fu ro ju na mo) (lw_w5 G a (nI n) M K Wt T ik kN5 kM5 kK5 kW5 kT5 R oN oB sT S Z V ++ lw_w6 G d (nI n) M K Wt T kN6 kM6 kK6 kW6 kT6 S Z It fa qu sq be pt6 sd wa fu ro ju na mo) [] C h (c_X5_jump l G (a 0) (a 1) (a 2) (a 3) (a 4) (a 5) (a 7) (a 13) (a 15) (a 16) (a 17) (a 18) ik (nI n) M K sn sB (xs (nI i + 1).toNatClampNeg) (xs (nI i + 2).toNatClampNeg) (xs (nI i + 3).toNatClampNeg) h5) gL_law_X5_jump dL_law_1053 hl.1 ⟨Nat.le_of_ble_eq_true rfl, Nat.le_of_ble_eq_true rfl⟩ [0, 1, 2, 3, 15, 16] [4, 5, 6, 7, 8, 9, 10, 11, 12, 13, 14, 17, 18, 19, 20, 21, 22, 23, 24, 25, 26, 27, 28, 29, 30, 31, 32, 33, 34, 35, 36, 37, 38, 39, 40, 41, 42, 43, 44, 45, 46, 47, 48] [43, 44, 45, 46, 0, 1, 2, 3, 4, 5, 6, 7, 8, 9, 10, 47, 48, 11, 12, 13, 14, 15, 16, 17, 18, 19, 20, 21, 22, 23, 24, 25, 26, 27, 28, 29, 30, 31, 32, 33, 34, 35, 36, 37, 38, 39, 40, 41, 42] rfl rfl ⟨rfl, rfl⟩ ⟨Nat.le_of_ble_eq_true rfl, Nat.le_of_ble_eq_true rfl⟩ ⟨rfl, by decide +kernel, by decide +kernel, by decide +kernel⟩ rfl (fun h => by cases h) (Nat.le_of_ble_eq_true rfl) (by decide +kernel) rfl rfl (by decide +kernel) (by decide +kernel) (by decide +kernel) rfl (fun H locs h => ?_)
  refine lv_aload_n hx hb dL_law_1056 rfl (lv_at hl 2 rfl) ?_
  refine lv_aload_n hx hb dL_law_1057 rfl (lv_at hl 0 rfl) ?_
  refine lv_iload_n hx hb dL_law_1058 rfl (lv_at hl 3 rfl) ?_
  refine lv_iconst (v := 1) hx hb dL_law_1059 (by decide) ?_
  refine lv_iadd hx hb dL_law_1060 ?_
  refine va_sld hx hb hX hbl hbA h.2.2 (lw_in (k := 1) 1 rfl hi hL (by omega)) dL_law_1061 ?_
  refine lv_aload_n hx hb dL_law_1062 rfl (lv_at hl 0 rfl) ?_
  refine lv_iload_n hx hb dL_law_1063 rfl (lv_at hl 3 rfl) ?_
  refine lv_iconst (v := 2) hx hb dL_law_1064 (by decide) ?_
  refine lv_iadd hx hb dL_law_1065 ?_
  refine va_sld hx hb hX hbl hbA h.2.2 (lw_in (k := 2) 2 rfl hi hL (by omega)) dL_law_1066 ?_
  refine lv_aload_n hx hb dL_law_1067 rfl (lv_at hl 0 rfl) ?_
  refine lv_iload_n hx hb dL_law_1068 rfl (lv_at hl 3 rfl) ?_
  refine lv_iconst (v := 3) hx hb dL_law_1069 (by decide) ?_
  refine lv_iadd hx hb dL_law_1070 ?_
  refine va_sld hx hb hX hbl hbA h.2.2 (lw_in (k := 3) 3 rfl hi hL (by omega)) dL_law_1071 ?_
  refine gn_callV (n := 3) (bytes := cX6_jump) (maxL := 4) (ret := some .int) (Cn := RX6) (T := TX6) (N := 25) (lw_w5 G a (nI n) M K Wt T ik kN5 kM5 kK5 kW5 kT5 R oN oB sT S Z V ++ [(d 3, gk_I G 6 Wt), (d 4, gk_I G 36 T), (d 5, gk_J G 6 kM6), (d 6, gk_I G 6 kK6), (d 7, gk_I G 6 kW6), (d 8, gk_I G 36 kT6), (d 9, gk_I G 4 S), (d 10, gk_I G 4 Z), (d 11, gk_J G 320 It), (d 12, gk_I G 64 fa), (d 13, gk_I G 64 qu), (d 14, gk_I G 36 sq), (d 15, gk_I G 36 be), (d 16, gk_I G 6 pt6), (d 17, gk_I G 36 wa), (d 18, gk_I G 36 fu), (d 20, gk_I G 6 na), (d 21, gk_J G 80 mo)]) (lw_w5 G a (nI n) M K Wt T ik kN5 kM5 kK5 kW5 kT5 R oN oB sT S Z V ++ lw_w6 G d (nI n) M K Wt T kN6 kM6 kK6 kW6 kT6 S Z It fa qu sq be pt6 sd wa fu orows oJ na mo) [.int r] C h (c_X6_jump l G (d 0) (d 1) (d 2) (d 3) (d 4) (d 5) (d 6) (d 7) (d 8) (d 9) (d 10) (d 11) (d 12) (d 13) (d 14) (d 15) (d 16) (d 17) (d 18) (d 19) (d 20) (d 21) (nI n) kN6 sd ro M K ju (xs (nI i + 1).toNatClampNeg) (xs (nI i + 2).toNatClampNeg) (xs (nI i + 3).toNatClampNeg) h6) gL_law_X6_jump dL_law_1072 hl.1 ⟨Nat.le_of_ble_eq_true rfl, Nat.le_of_ble_eq_true rfl⟩ [27, 28, 29, 46] [0, 1, 2, 3, 4, 5, 6, 7, 8, 9, 10, 11, 12, 13, 14, 15, 16, 17, 18, 19, 20, 21, 22, 23, 24, 25, 26, 30, 31, 32, 33, 34, 35, 36, 37, 38, 39, 40, 41, 42, 43, 44, 45, 47, 48] [0, 1, 2, 3, 4, 5, 6, 7, 8, 9, 10, 11, 12, 13, 14, 15, 16, 17, 18, 19, 20, 21, 22, 23, 24, 25, 26, 45, 46, 47, 27, 28, 29, 30, 31, 32, 33, 34, 35, 36, 37, 38, 39, 40, 41, 42, 48, 43, 44] rfl rfl ⟨rfl, rfl⟩ ⟨Nat.le_of_ble_eq_true rfl, Nat.le_of_ble_eq_true rfl⟩ ⟨rfl, by decide +kernel, by decide +kernel, by decide +kernel⟩ rfl (fun h => by cases h) (Nat.le_of_ble_eq_true rfl) (by decide +kernel) rfl rfl (by decide +kernel) (by decide +kernel) (by decide +kernel) rfl (fun H locs h => ?_)
  refine W.eq (g2 := F0 m 1075 ls [.int r, .int r]) rfl ?_
  refine lv_icmp_eq (tgt := 1461) hx hb dL_law_1075 (by decide) (fun _ => ?_) (fun c9 => absurd rfl c9)
  exact kk H locs ls ⟨n, M, K, Wt, T, ik, kN5, kM5, kK5, kW5, kT5, R, oN, oB, sT, S, Z, V, kN6, kM6, kK6, kW6, kT6, It, fa, qu, sq, be, pt6, sd, wa, fu, orows, oJ, na, mo, h0, hn, hV, hW, hT, hK, hR, hS3, h⟩ hl
set_option maxRecDepth 100000 in
set_option maxHeartbeats 8000000 in
theorem lw_c26 (C : gn_C p s m #[.ref b] c cL_law 4 RL wsL_law true true G A) (hX : va_X b L xs s s.heap) (hbl : b < s.heap.size) (hbA : ¬ A b) (hL : L ≤ 3072) (hi : i + 6 ≤ L) (kk : ∀ (H : Heap) (locs : List Loc) (ls : Array Slot), lw_I G A s a d H locs → lv_has ls 4 [(0, .ref b), (1, .ref (a 0)), (2, .ref (d 0)), (3, .int (nI i))] → W p l e room_1 s m #[.ref b] below meth c H locs 600000 7302250 Q (F0 m 1461 ls [])) {H : Heap} {locs : List Loc} {ls : Array Slot} (h : lw_I G A s a d H locs) (hl : lv_has ls 4 [(0, .ref b), (1, .ref (a 0)), (2, .ref (d 0)), (3, .int (nI i))]) : W p l e room_1 s m #[.ref b] below meth c H locs 600000 7302250 Q (F0 m 1080 ls []) := by
  obtain ⟨hx, hb, hml, hown, hts, hKK, hSt, hO, hA⟩ := id C
  obtain ⟨n, M, K, Wt, T, ik, kN5, kM5, kK5, kW5, kT5, R, sn, sB, sT, S, Z, V, kN6, kM6, kK6, kW6, kT6, It, fa, qu, sq, be, pt6, sd, wa, fu, ro, ju, na, mo, h0, hn, hV, hW, hT, hK, hR, hS3, h⟩ := h
  obtain ⟨r, oN, h5, h6⟩ := o_same (n := n) (K := K) (M := M) (N := na) hn hV (xs (nI i + 1).toNatClampNeg) (xs (nI i + 2).toNatClampNeg) (xs (nI i + 3).toNatClampNeg)
  refine lv_aload_n hx hb dL_law_1080 rfl (lv_at hl 1 rfl) ?_
  refine lv_aload_n hx hb dL_law_1081 rfl (lv_at hl 0 rfl) ?_
  refine lv_iload_n hx hb dL_law_1082 rfl (lv_at hl 3 rfl) ?_
  refine lv_iconst (v := 1) hx hb dL_law_1083 (by decide) ?_
  refine lv_iadd hx hb dL_law_1084 ?_
  refine va_sld hx hb hX hbl hbA h.2.2 (lw_in (k := 1) 1 rfl hi hL (by omega)) dL_law_1085 ?_
  refine lv_aload_n hx hb dL_law_1086 rfl (lv_at hl 0 rfl) ?_
  refine lv_iload_n hx hb dL_law_1087 rfl (lv_at hl 3 rfl) ?_
  refine lv_iconst (v := 2) hx hb dL_law_1088 (by decide) ?_
  refine lv_iadd hx hb dL_law_1089 ?_
  refine va_sld hx hb hX hbl hbA h.2.2 (lw_in (k := 2) 2 rfl hi hL (by omega)) dL_law_1090 ?_
  refine lv_aload_n hx hb dL_law_1091 rfl (lv_at hl 0 rfl) ?_
  refine lv_iload_n hx hb dL_law_1092 rfl (lv_at hl 3 rfl) ?_
  refine lv_iconst (v := 3) hx hb dL_law_1093 (by decide) ?_
  refine lv_iadd hx hb dL_law_1094 ?_
  refine va_sld hx hb hX hbl hbA h.2.2 (lw_in (k := 3) 3 rfl hi hL (by omega)) dL_law_1095 ?_
  refine gn_callV (n := 3) (bytes := cX5_same) (maxL := 8) (ret := some .int) (Cn := RX5) (T := TX5) (N := 6) ([(a 4, gk_I G 6 Wt), (a 5, .inr (3, [.ref (a 6)])), (a 6, gk_I G 36 T), (a 7, .inr (0, [.int kN5, .ref (a 8), .ref (a 9), .ref (a 10), .ref (a 11)])), (a 8, gk_J G 6 kM5), (a 9, gk_I G 6 kK5), (a 10, gk_I G 6 kW5), (a 11, .inr (3, [.ref (a 12)])), (a 12, gk_I G 36 kT5), (a 13, .inr (3, [.ref (a 14)])), (a 14, gk_I G 36 R), (a 15, .inr (2, [.int sn, .ref (a 16), .ref (a 17)])), (a 16, gk_J G 64 sB), (a 17, gk_I G 64 sT), (a 18, gk_R G 4 (gk_four (a 19) (a 21) (a 23) (a 25))), (a 19, .inr (1, [.int (S 0), .int (Z 0), .ref (a 20)])), (a 20, gk_J G 80 (V 0)), (a 21, .inr (1, [.int (S 1), .int (Z 1), .ref (a 22)])), (a 22, gk_J G 80 (V 1)), (a 23, .inr (1, [.int (S 2), .int (Z 2), .ref (a 24)])), (a 24, gk_J G 80 (V 2)), (a 25, .inr (1, [.int (S 3), .int (Z 3), .ref (a 26)])), (a 26, gk_J G 80 (V 3))] ++ lw_w6 G d (nI n) M K Wt T kN6 kM6 kK6 kW6 kT6 S Z It fa qu sq be pt6 sd wa fu ro ju na mo) (lw_w5 G a (nI n) M K Wt T ik kN5 kM5 kK5 kW5 kT5 R sn sB sT S Z V ++ lw_w6 G d (nI n) M K Wt T kN6 kM6 kK6 kW6 kT6 S Z It fa qu sq be pt6 sd wa fu ro ju na mo) [] C h (c_X5_same l G (a 0) (a 1) (a 2) (a 3) (a 4) (a 5) (a 7) (a 13) (a 15) (a 18) ik (nI n) M K (xs (nI i + 1).toNatClampNeg) (xs (nI i + 2).toNatClampNeg) (xs (nI i + 3).toNatClampNeg) h5) gL_law_X5_same dL_law_1096 hl.1 ⟨Nat.le_of_ble_eq_true rfl, Nat.le_of_ble_eq_true rfl⟩ [0, 1, 2, 3] [4, 5, 6, 7, 8, 9, 10, 11, 12, 13, 14, 15, 16, 17, 18, 19, 20, 21, 22, 23, 24, 25, 26, 27, 28, 29, 30, 31, 32, 33, 34, 35, 36, 37, 38, 39, 40, 41, 42, 43, 44, 45, 46, 47, 48] [45, 46, 47, 48, 0, 1, 2, 3, 4, 5, 6, 7, 8, 9, 10, 11, 12, 13, 14, 15, 16, 17, 18, 19, 20, 21, 22, 23, 24, 25, 26, 27, 28, 29, 30, 31, 32, 33, 34, 35, 36, 37, 38, 39, 40, 41, 42, 43, 44] rfl rfl ⟨rfl, rfl⟩ ⟨Nat.le_of_ble_eq_true rfl, Nat.le_of_ble_eq_true rfl⟩ ⟨rfl, by decide +kernel, by decide +kernel, by decide +kernel⟩ rfl (fun h => h) (Nat.le_of_ble_eq_true rfl) (by decide +kernel) rfl rfl (by decide +kernel) (by decide +kernel) (by decide +kernel) rfl (fun H locs h => ?_)
  refine lv_aload_n hx hb dL_law_1099 rfl (lv_at hl 2 rfl) ?_
  refine lv_aload_n hx hb dL_law_1100 rfl (lv_at hl 0 rfl) ?_
  refine lv_iload_n hx hb dL_law_1101 rfl (lv_at hl 3 rfl) ?_
  refine lv_iconst (v := 1) hx hb dL_law_1102 (by decide) ?_
  refine lv_iadd hx hb dL_law_1103 ?_
  refine va_sld hx hb hX hbl hbA h.2.2 (lw_in (k := 1) 1 rfl hi hL (by omega)) dL_law_1104 ?_
  refine lv_aload_n hx hb dL_law_1105 rfl (lv_at hl 0 rfl) ?_
  refine lv_iload_n hx hb dL_law_1106 rfl (lv_at hl 3 rfl) ?_
  refine lv_iconst (v := 2) hx hb dL_law_1107 (by decide) ?_
  refine lv_iadd hx hb dL_law_1108 ?_
  refine va_sld hx hb hX hbl hbA h.2.2 (lw_in (k := 2) 2 rfl hi hL (by omega)) dL_law_1109 ?_
  refine lv_aload_n hx hb dL_law_1110 rfl (lv_at hl 0 rfl) ?_
  refine lv_iload_n hx hb dL_law_1111 rfl (lv_at hl 3 rfl) ?_
  refine lv_iconst (v := 3) hx hb dL_law_1112 (by decide) ?_
  refine lv_iadd hx hb dL_law_1113 ?_
  refine va_sld hx hb hX hbl hbA h.2.2 (lw_in (k := 3) 3 rfl hi hL (by omega)) dL_law_1114 ?_
  refine gn_callV (n := 3) (bytes := cX6_same) (maxL := 4) (ret := some .int) (Cn := RX6) (T := TX6) (N := 25) (lw_w5 G a (nI n) M K Wt T ik kN5 kM5 kK5 kW5 kT5 R sn sB sT S Z V ++ [(d 3, gk_I G 6 Wt), (d 4, gk_I G 36 T), (d 5, gk_J G 6 kM6), (d 6, gk_I G 6 kK6), (d 7, gk_I G 6 kW6), (d 8, gk_I G 36 kT6), (d 9, gk_I G 4 S), (d 10, gk_I G 4 Z), (d 11, gk_J G 320 It), (d 12, gk_I G 64 fa), (d 13, gk_I G 64 qu), (d 14, gk_I G 36 sq), (d 15, gk_I G 36 be), (d 16, gk_I G 6 pt6), (d 17, gk_I G 36 wa), (d 18, gk_I G 36 fu), (d 19, gk_Z G 729 ju), (d 21, gk_J G 80 mo)]) (lw_w5 G a (nI n) M K Wt T ik kN5 kM5 kK5 kW5 kT5 R sn sB sT S Z V ++ lw_w6 G d (nI n) M K Wt T kN6 kM6 kK6 kW6 kT6 S Z It fa qu sq be pt6 sd wa fu ro ju oN mo) [.int r] C h (c_X6_same l G (d 0) (d 1) (d 2) (d 3) (d 4) (d 5) (d 6) (d 7) (d 8) (d 9) (d 10) (d 11) (d 12) (d 13) (d 14) (d 15) (d 16) (d 17) (d 18) (d 19) (d 20) (d 21) (nI n) kN6 sd ro M K na (xs (nI i + 1).toNatClampNeg) (xs (nI i + 2).toNatClampNeg) (xs (nI i + 3).toNatClampNeg) h6) gL_law_X6_same dL_law_1115 hl.1 ⟨Nat.le_of_ble_eq_true rfl, Nat.le_of_ble_eq_true rfl⟩ [27, 28, 29, 47] [0, 1, 2, 3, 4, 5, 6, 7, 8, 9, 10, 11, 12, 13, 14, 15, 16, 17, 18, 19, 20, 21, 22, 23, 24, 25, 26, 30, 31, 32, 33, 34, 35, 36, 37, 38, 39, 40, 41, 42, 43, 44, 45, 46, 48] [0, 1, 2, 3, 4, 5, 6, 7, 8, 9, 10, 11, 12, 13, 14, 15, 16, 17, 18, 19, 20, 21, 22, 23, 24, 25, 26, 45, 46, 47, 27, 28, 29, 30, 31, 32, 33, 34, 35, 36, 37, 38, 39, 40, 41, 42, 43, 48, 44] rfl rfl ⟨rfl, rfl⟩ ⟨Nat.le_of_ble_eq_true rfl, Nat.le_of_ble_eq_true rfl⟩ ⟨rfl, by decide +kernel, by decide +kernel, by decide +kernel⟩ rfl (fun h => by cases h) (Nat.le_of_ble_eq_true rfl) (by decide +kernel) rfl rfl (by decide +kernel) (by decide +kernel) (by decide +kernel) rfl (fun H locs h => ?_)
  refine W.eq (g2 := F0 m 1118 ls [.int r, .int r]) rfl ?_
  refine lv_icmp_eq (tgt := 1461) hx hb dL_law_1118 (by decide) (fun _ => ?_) (fun c9 => absurd rfl c9)
  exact kk H locs ls ⟨n, M, K, Wt, T, ik, kN5, kM5, kK5, kW5, kT5, R, sn, sB, sT, S, Z, V, kN6, kM6, kK6, kW6, kT6, It, fa, qu, sq, be, pt6, sd, wa, fu, ro, ju, oN, mo, h0, hn, hV, hW, hT, hK, hR, hS3, h⟩ hl
set_option maxRecDepth 100000 in
set_option maxHeartbeats 8000000 in
theorem lw_c27 (C : gn_C p s m #[.ref b] c cL_law 4 RL wsL_law true true G A) (hX : va_X b L xs s s.heap) (hbl : b < s.heap.size) (hbA : ¬ A b) (hL : L ≤ 3072) (hi : i + 6 ≤ L) (kk : ∀ (H : Heap) (locs : List Loc) (ls : Array Slot), lw_I G A s a d H locs → lv_has ls 4 [(0, .ref b), (1, .ref (a 0)), (2, .ref (d 0)), (3, .int (nI i))] → W p l e room_1 s m #[.ref b] below meth c H locs 600000 7302250 Q (F0 m 1461 ls [])) {H : Heap} {locs : List Loc} {ls : Array Slot} (h : lw_I G A s a d H locs) (hl : lv_has ls 4 [(0, .ref b), (1, .ref (a 0)), (2, .ref (d 0)), (3, .int (nI i))]) : W p l e room_1 s m #[.ref b] below meth c H locs 600000 7302250 Q (F0 m 1123 ls []) := by
  obtain ⟨hx, hb, hml, hown, hts, hKK, hSt, hO, hA⟩ := id C
  obtain ⟨n, M, K, Wt, T, ik, kN5, kM5, kK5, kW5, kT5, R, sn, sB, sT, S, Z, V, kN6, kM6, kK6, kW6, kT6, It, fa, qu, sq, be, pt6, sd, wa, fu, ro, ju, na, mo, h0, hn, hV, hW, hT, hK, hR, hS3, h⟩ := h
  obtain ⟨r, oS, oZ, oI, oV, h5, h6, ghR⟩ := o_row (I := It) (S := S) (V := V) (Z := Z) hR (xs (nI i + 1).toNatClampNeg) (xs (nI i + 2).toNatClampNeg) (xs (nI i + 3).toNatClampNeg)
  refine lv_aload_n hx hb dL_law_1123 rfl (lv_at hl 1 rfl) ?_
  refine lv_aload_n hx hb dL_law_1124 rfl (lv_at hl 0 rfl) ?_
  refine lv_iload_n hx hb dL_law_1125 rfl (lv_at hl 3 rfl) ?_
  refine lv_iconst (v := 1) hx hb dL_law_1126 (by decide) ?_
  refine lv_iadd hx hb dL_law_1127 ?_
  refine va_sld hx hb hX hbl hbA h.2.2 (lw_in (k := 1) 1 rfl hi hL (by omega)) dL_law_1128 ?_
  refine lv_aload_n hx hb dL_law_1129 rfl (lv_at hl 0 rfl) ?_
  refine lv_iload_n hx hb dL_law_1130 rfl (lv_at hl 3 rfl) ?_
  refine lv_iconst (v := 2) hx hb dL_law_1131 (by decide) ?_
  refine lv_iadd hx hb dL_law_1132 ?_
  refine va_sld hx hb hX hbl hbA h.2.2 (lw_in (k := 2) 2 rfl hi hL (by omega)) dL_law_1133 ?_
  refine lv_aload_n hx hb dL_law_1134 rfl (lv_at hl 0 rfl) ?_
  refine lv_iload_n hx hb dL_law_1135 rfl (lv_at hl 3 rfl) ?_
  refine lv_iconst (v := 3) hx hb dL_law_1136 (by decide) ?_
  refine lv_iadd hx hb dL_law_1137 ?_
  refine va_sld hx hb hX hbl hbA h.2.2 (lw_in (k := 3) 3 rfl hi hL (by omega)) dL_law_1138 ?_
  refine gn_callV (n := 3) (bytes := cX5_row) (maxL := 4) (ret := some .int) (Cn := RX5) (T := TX5) (N := 6) ([(a 1, .inr (0, [.int (nI n), .ref (a 2), .ref (a 3), .ref (a 4), .ref (a 5)])), (a 2, gk_J G 6 M), (a 3, gk_I G 6 K), (a 4, gk_I G 6 Wt), (a 5, .inr (3, [.ref (a 6)])), (a 6, gk_I G 36 T), (a 7, .inr (0, [.int kN5, .ref (a 8), .ref (a 9), .ref (a 10), .ref (a 11)])), (a 8, gk_J G 6 kM5), (a 9, gk_I G 6 kK5), (a 10, gk_I G 6 kW5), (a 11, .inr (3, [.ref (a 12)])), (a 12, gk_I G 36 kT5), (a 13, .inr (3, [.ref (a 14)])), (a 14, gk_I G 36 R), (a 15, .inr (2, [.int sn, .ref (a 16), .ref (a 17)])), (a 16, gk_J G 64 sB), (a 17, gk_I G 64 sT)] ++ lw_w6 G d (nI n) M K Wt T kN6 kM6 kK6 kW6 kT6 S Z It fa qu sq be pt6 sd wa fu ro ju na mo) (lw_w5 G a (nI n) M K Wt T ik kN5 kM5 kK5 kW5 kT5 R sn sB sT oS oZ oV ++ lw_w6 G d (nI n) M K Wt T kN6 kM6 kK6 kW6 kT6 S Z It fa qu sq be pt6 sd wa fu ro ju na mo) [] C h (c_X5_row l G (a 0) (a 1) (a 7) (a 13) (a 15) (a 18) (a 19) (a 20) (a 21) (a 22) (a 23) (a 24) (a 25) (a 26) ik (S 0) (Z 0) (V 0) (S 1) (Z 1) (V 1) (S 2) (Z 2) (V 2) (S 3) (Z 3) (V 3) (xs (nI i + 1).toNatClampNeg) (xs (nI i + 2).toNatClampNeg) (xs (nI i + 3).toNatClampNeg) h5) gL_law_X5_row dL_law_1139 hl.1 ⟨Nat.le_of_ble_eq_true rfl, Nat.le_of_ble_eq_true rfl⟩ [0, 18, 19, 20, 21, 22, 23, 24, 25, 26] [1, 2, 3, 4, 5, 6, 7, 8, 9, 10, 11, 12, 13, 14, 15, 16, 17, 27, 28, 29, 30, 31, 32, 33, 34, 35, 36, 37, 38, 39, 40, 41, 42, 43, 44, 45, 46, 47, 48] [39, 0, 1, 2, 3, 4, 5, 6, 7, 8, 9, 10, 11, 12, 13, 14, 15, 16, 40, 41, 42, 43, 44, 45, 46, 47, 48, 17, 18, 19, 20, 21, 22, 23, 24, 25, 26, 27, 28, 29, 30, 31, 32, 33, 34, 35, 36, 37, 38] rfl rfl ⟨rfl, rfl⟩ ⟨Nat.le_of_ble_eq_true rfl, Nat.le_of_ble_eq_true rfl⟩ ⟨rfl, by decide +kernel, by decide +kernel, by decide +kernel⟩ rfl (fun h => by cases h) (Nat.le_of_ble_eq_true rfl) (by decide +kernel) rfl rfl (by decide +kernel) (by decide +kernel) (by decide +kernel) rfl (fun H locs h => ?_)
  refine lv_aload_n hx hb dL_law_1142 rfl (lv_at hl 2 rfl) ?_
  refine lv_aload_n hx hb dL_law_1143 rfl (lv_at hl 0 rfl) ?_
  refine lv_iload_n hx hb dL_law_1144 rfl (lv_at hl 3 rfl) ?_
  refine lv_iconst (v := 1) hx hb dL_law_1145 (by decide) ?_
  refine lv_iadd hx hb dL_law_1146 ?_
  refine va_sld hx hb hX hbl hbA h.2.2 (lw_in (k := 1) 1 rfl hi hL (by omega)) dL_law_1147 ?_
  refine lv_aload_n hx hb dL_law_1148 rfl (lv_at hl 0 rfl) ?_
  refine lv_iload_n hx hb dL_law_1149 rfl (lv_at hl 3 rfl) ?_
  refine lv_iconst (v := 2) hx hb dL_law_1150 (by decide) ?_
  refine lv_iadd hx hb dL_law_1151 ?_
  refine va_sld hx hb hX hbl hbA h.2.2 (lw_in (k := 2) 2 rfl hi hL (by omega)) dL_law_1152 ?_
  refine lv_aload_n hx hb dL_law_1153 rfl (lv_at hl 0 rfl) ?_
  refine lv_iload_n hx hb dL_law_1154 rfl (lv_at hl 3 rfl) ?_
  refine lv_iconst (v := 3) hx hb dL_law_1155 (by decide) ?_
  refine lv_iadd hx hb dL_law_1156 ?_
  refine va_sld hx hb hX hbl hbA h.2.2 (lw_in (k := 3) 3 rfl hi hL (by omega)) dL_law_1157 ?_
  refine gn_callV (n := 3) (bytes := cX6_row) (maxL := 4) (ret := some .int) (Cn := RX6) (T := TX6) (N := 25) (lw_w5 G a (nI n) M K Wt T ik kN5 kM5 kK5 kW5 kT5 R sn sB sT oS oZ oV ++ [(d 1, gk_J G 6 M), (d 2, gk_I G 6 K), (d 3, gk_I G 6 Wt), (d 4, gk_I G 36 T), (d 5, gk_J G 6 kM6), (d 6, gk_I G 6 kK6), (d 7, gk_I G 6 kW6), (d 8, gk_I G 36 kT6), (d 12, gk_I G 64 fa), (d 13, gk_I G 64 qu), (d 14, gk_I G 36 sq), (d 15, gk_I G 36 be), (d 16, gk_I G 6 pt6), (d 17, gk_I G 36 wa), (d 18, gk_I G 36 fu), (d 19, gk_Z G 729 ju), (d 20, gk_I G 6 na), (d 21, gk_J G 80 mo)]) (lw_w5 G a (nI n) M K Wt T ik kN5 kM5 kK5 kW5 kT5 R sn sB sT oS oZ oV ++ lw_w6 G d (nI n) M K Wt T kN6 kM6 kK6 kW6 kT6 oS oZ oI fa qu sq be pt6 sd wa fu ro ju na mo) [.int r] C h (c_X6_row l G (d 0) (d 1) (d 2) (d 3) (d 4) (d 5) (d 6) (d 7) (d 8) (d 9) (d 10) (d 11) (d 12) (d 13) (d 14) (d 15) (d 16) (d 17) (d 18) (d 19) (d 20) (d 21) (nI n) kN6 sd ro S Z It (xs (nI i + 1).toNatClampNeg) (xs (nI i + 2).toNatClampNeg) (xs (nI i + 3).toNatClampNeg) h6) gL_law_X6_row dL_law_1158 hl.1 ⟨Nat.le_of_ble_eq_true rfl, Nat.le_of_ble_eq_true rfl⟩ [27, 36, 37, 38] [0, 1, 2, 3, 4, 5, 6, 7, 8, 9, 10, 11, 12, 13, 14, 15, 16, 17, 18, 19, 20, 21, 22, 23, 24, 25, 26, 28, 29, 30, 31, 32, 33, 34, 35, 39, 40, 41, 42, 43, 44, 45, 46, 47, 48] [0, 1, 2, 3, 4, 5, 6, 7, 8, 9, 10, 11, 12, 13, 14, 15, 16, 17, 18, 19, 20, 21, 22, 23, 24, 25, 26, 45, 27, 28, 29, 30, 31, 32, 33, 34, 46, 47, 48, 35, 36, 37, 38, 39, 40, 41, 42, 43, 44] rfl rfl ⟨rfl, rfl⟩ ⟨Nat.le_of_ble_eq_true rfl, Nat.le_of_ble_eq_true rfl⟩ ⟨rfl, by decide +kernel, by decide +kernel, by decide +kernel⟩ rfl (fun h => by cases h) (Nat.le_of_ble_eq_true rfl) (by decide +kernel) rfl rfl (by decide +kernel) (by decide +kernel) (by decide +kernel) rfl (fun H locs h => ?_)
  refine W.eq (g2 := F0 m 1161 ls [.int r, .int r]) rfl ?_
  refine lv_icmp_eq (tgt := 1461) hx hb dL_law_1161 (by decide) (fun _ => ?_) (fun c9 => absurd rfl c9)
  exact kk H locs ls ⟨n, M, K, Wt, T, ik, kN5, kM5, kK5, kW5, kT5, R, sn, sB, sT, oS, oZ, oV, kN6, kM6, kK6, kW6, kT6, oI, fa, qu, sq, be, pt6, sd, wa, fu, ro, ju, na, mo, h0, hn, hV, hW, hT, hK, ghR, hS3, h⟩ hl
end
