section
variable {p : Program} {l : Launch} {e : Env} {s : State} {m : MethodId} {below : List Frame} {meth : Method} {c : Code} {Q : State → Prop} {G : gk_G} {A : Nat → Prop} {a d : Nat → Nat} {b L i : Nat} {xs : Nat → Int32}
set_option maxRecDepth 100000 in
set_option maxHeartbeats 8000000 in
theorem lw_c4 (C : gn_C p s m #[.ref b] c cL_law 4 RL wsL_law true true G A) (hX : va_X b L xs s s.heap) (hbl : b < s.heap.size) (hbA : ¬ A b) (hL : L ≤ 3072) (hi : i + 6 ≤ L) (kk : ∀ (H : Heap) (locs : List Loc) (ls : Array Slot), lw_I G A s a d H locs → lv_has ls 4 [(0, .ref b), (1, .ref (a 0)), (2, .ref (d 0)), (3, .int (nI i))] → W p l e room_1 s m #[.ref b] below meth c H locs 600000 7302250 Q (F0 m 1461 ls [])) {H : Heap} {locs : List Loc} {ls : Array Slot} (h : lw_I G A s a d H locs) (hl : lv_has ls 4 [(0, .ref b), (1, .ref (a 0)), (2, .ref (d 0)), (3, .int (nI i))]) : W p l e room_1 s m #[.ref b] below meth c H locs 600000 7302250 Q (F0 m 324 ls []) := by
  obtain ⟨hx, hb, hml, hown, hts, hKK, hSt, hO, hA⟩ := id C
  obtain ⟨n, M, K, Wt, T, ik, kN5, kM5, kK5, kW5, kT5, R, sn, sB, sT, S, Z, V, kN6, kM6, kK6, kW6, kT6, It, fa, qu, sq, be, pt6, sd, wa, fu, ro, ju, na, mo, h0, hn, hV, hW, hT, hK, hR, hS3, h⟩ := h
  obtain ⟨r, oM, oK, h5, h6, ghV⟩ := o_twist (n := n) (K := K) (M := M) hn hV (xs (nI i + 1).toNatClampNeg) (xs (nI i + 2).toNatClampNeg) (xs (nI i + 3).toNatClampNeg)
  refine lv_aload_n hx hb dL_law_324 rfl (lv_at hl 1 rfl) ?_
  refine lv_aload_n hx hb dL_law_325 rfl (lv_at hl 0 rfl) ?_
  refine lv_iload_n hx hb dL_law_326 rfl (lv_at hl 3 rfl) ?_
  refine lv_iconst (v := 1) hx hb dL_law_327 (by decide) ?_
  refine lv_iadd hx hb dL_law_328 ?_
  refine va_sld hx hb hX hbl hbA h.2.2 (lw_in (k := 1) 1 rfl hi hL (by omega)) dL_law_329 ?_
  refine lv_aload_n hx hb dL_law_330 rfl (lv_at hl 0 rfl) ?_
  refine lv_iload_n hx hb dL_law_331 rfl (lv_at hl 3 rfl) ?_
  refine lv_iconst (v := 2) hx hb dL_law_332 (by decide) ?_
  refine lv_iadd hx hb dL_law_333 ?_
  refine va_sld hx hb hX hbl hbA h.2.2 (lw_in (k := 2) 2 rfl hi hL (by omega)) dL_law_334 ?_
  refine lv_aload_n hx hb dL_law_335 rfl (lv_at hl 0 rfl) ?_
  refine lv_iload_n hx hb dL_law_336 rfl (lv_at hl 3 rfl) ?_
  refine lv_iconst (v := 3) hx hb dL_law_337 (by decide) ?_
  refine lv_iadd hx hb dL_law_338 ?_
  refine va_sld hx hb hX hbl hbA h.2.2 (lw_in (k := 3) 3 rfl hi hL (by omega)) dL_law_339 ?_
  refine gn_callV (n := 3) (bytes := cX5_twist) (maxL := 4) (ret := some .int) (Cn := RX5) (T := TX5) (N := 6) ([(a 4, gk_I G 6 Wt), (a 5, .inr (3, [.ref (a 6)])), (a 6, gk_I G 36 T), (a 7, .inr (0, [.int kN5, .ref (a 8), .ref (a 9), .ref (a 10), .ref (a 11)])), (a 8, gk_J G 6 kM5), (a 9, gk_I G 6 kK5), (a 10, gk_I G 6 kW5), (a 11, .inr (3, [.ref (a 12)])), (a 12, gk_I G 36 kT5), (a 13, .inr (3, [.ref (a 14)])), (a 14, gk_I G 36 R), (a 15, .inr (2, [.int sn, .ref (a 16), .ref (a 17)])), (a 16, gk_J G 64 sB), (a 17, gk_I G 64 sT), (a 18, gk_R G 4 (gk_four (a 19) (a 21) (a 23) (a 25))), (a 19, .inr (1, [.int (S 0), .int (Z 0), .ref (a 20)])), (a 20, gk_J G 80 (V 0)), (a 21, .inr (1, [.int (S 1), .int (Z 1), .ref (a 22)])), (a 22, gk_J G 80 (V 1)), (a 23, .inr (1, [.int (S 2), .int (Z 2), .ref (a 24)])), (a 24, gk_J G 80 (V 2)), (a 25, .inr (1, [.int (S 3), .int (Z 3), .ref (a 26)])), (a 26, gk_J G 80 (V 3))] ++ lw_w6 G d (nI n) M K Wt T kN6 kM6 kK6 kW6 kT6 S Z It fa qu sq be pt6 sd wa fu ro ju na mo) (lw_w5 G a (nI n) oM oK Wt T ik kN5 kM5 kK5 kW5 kT5 R sn sB sT S Z V ++ lw_w6 G d (nI n) M K Wt T kN6 kM6 kK6 kW6 kT6 S Z It fa qu sq be pt6 sd wa fu ro ju na mo) [] C h (c_X5_twist l G (a 0) (a 1) (a 2) (a 3) (a 4) (a 5) (a 7) (a 13) (a 15) (a 18) ik (nI n) M K (xs (nI i + 1).toNatClampNeg) (xs (nI i + 2).toNatClampNeg) (xs (nI i + 3).toNatClampNeg) h5) gL_law_X5_twist dL_law_340 hl.1 ⟨Nat.le_of_ble_eq_true rfl, Nat.le_of_ble_eq_true rfl⟩ [0, 1, 2, 3] [4, 5, 6, 7, 8, 9, 10, 11, 12, 13, 14, 15, 16, 17, 18, 19, 20, 21, 22, 23, 24, 25, 26, 27, 28, 29, 30, 31, 32, 33, 34, 35, 36, 37, 38, 39, 40, 41, 42, 43, 44, 45, 46, 47, 48] [45, 46, 47, 48, 0, 1, 2, 3, 4, 5, 6, 7, 8, 9, 10, 11, 12, 13, 14, 15, 16, 17, 18, 19, 20, 21, 22, 23, 24, 25, 26, 27, 28, 29, 30, 31, 32, 33, 34, 35, 36, 37, 38, 39, 40, 41, 42, 43, 44] rfl rfl ⟨rfl, rfl⟩ ⟨Nat.le_of_ble_eq_true rfl, Nat.le_of_ble_eq_true rfl⟩ ⟨rfl, by decide +kernel, by decide +kernel, by decide +kernel⟩ rfl (fun h => h) (Nat.le_of_ble_eq_true rfl) (by decide +kernel) rfl rfl (by decide +kernel) (by decide +kernel) (by decide +kernel) rfl (fun H locs h => ?_)
  refine lv_aload_n hx hb dL_law_343 rfl (lv_at hl 2 rfl) ?_
  refine lv_aload_n hx hb dL_law_344 rfl (lv_at hl 0 rfl) ?_
  refine lv_iload_n hx hb dL_law_345 rfl (lv_at hl 3 rfl) ?_
  refine lv_iconst (v := 1) hx hb dL_law_346 (by decide) ?_
  refine lv_iadd hx hb dL_law_347 ?_
  refine va_sld hx hb hX hbl hbA h.2.2 (lw_in (k := 1) 1 rfl hi hL (by omega)) dL_law_348 ?_
  refine lv_aload_n hx hb dL_law_349 rfl (lv_at hl 0 rfl) ?_
  refine lv_iload_n hx hb dL_law_350 rfl (lv_at hl 3 rfl) ?_
  refine lv_iconst (v := 2) hx hb dL_law_351 (by decide) ?_
  refine lv_iadd hx hb dL_law_352 ?_
  refine va_sld hx hb hX hbl hbA h.2.2 (lw_in (k := 2) 2 rfl hi hL (by omega)) dL_law_353 ?_
  refine lv_aload_n hx hb dL_law_354 rfl (lv_at hl 0 rfl) ?_
  refine lv_iload_n hx hb dL_law_355 rfl (lv_at hl 3 rfl) ?_
  refine lv_iconst (v := 3) hx hb dL_law_356 (by decide) ?_
  refine lv_iadd hx hb dL_law_357 ?_
  refine va_sld hx hb hX hbl hbA h.2.2 (lw_in (k := 3) 3 rfl hi hL (by omega)) dL_law_358 ?_
  refine gn_callV (n := 3) (bytes := cX6_twist) (maxL := 4) (ret := some .int) (Cn := RX6) (T := TX6) (N := 25) (lw_w5 G a (nI n) oM oK Wt T ik kN5 kM5 kK5 kW5 kT5 R sn sB sT S Z V ++ [(d 3, gk_I G 6 Wt), (d 4, gk_I G 36 T), (d 5, gk_J G 6 kM6), (d 6, gk_I G 6 kK6), (d 7, gk_I G 6 kW6), (d 8, gk_I G 36 kT6), (d 9, gk_I G 4 S), (d 10, gk_I G 4 Z), (d 11, gk_J G 320 It), (d 12, gk_I G 64 fa), (d 13, gk_I G 64 qu), (d 14, gk_I G 36 sq), (d 15, gk_I G 36 be), (d 16, gk_I G 6 pt6), (d 17, gk_I G 36 wa), (d 18, gk_I G 36 fu), (d 19, gk_Z G 729 ju), (d 20, gk_I G 6 na), (d 21, gk_J G 80 mo)]) (lw_w5 G a (nI n) oM oK Wt T ik kN5 kM5 kK5 kW5 kT5 R sn sB sT S Z V ++ lw_w6 G d (nI n) oM oK Wt T kN6 kM6 kK6 kW6 kT6 S Z It fa qu sq be pt6 sd wa fu ro ju na mo) [.int r] C h (c_X6_twist l G (d 0) (d 1) (d 2) (d 3) (d 4) (d 5) (d 6) (d 7) (d 8) (d 9) (d 10) (d 11) (d 12) (d 13) (d 14) (d 15) (d 16) (d 17) (d 18) (d 19) (d 20) (d 21) (nI n) kN6 sd ro M K (xs (nI i + 1).toNatClampNeg) (xs (nI i + 2).toNatClampNeg) (xs (nI i + 3).toNatClampNeg) h6) gL_law_X6_twist dL_law_359 hl.1 ⟨Nat.le_of_ble_eq_true rfl, Nat.le_of_ble_eq_true rfl⟩ [27, 28, 29] [0, 1, 2, 3, 4, 5, 6, 7, 8, 9, 10, 11, 12, 13, 14, 15, 16, 17, 18, 19, 20, 21, 22, 23, 24, 25, 26, 30, 31, 32, 33, 34, 35, 36, 37, 38, 39, 40, 41, 42, 43, 44, 45, 46, 47, 48] [0, 1, 2, 3, 4, 5, 6, 7, 8, 9, 10, 11, 12, 13, 14, 15, 16, 17, 18, 19, 20, 21, 22, 23, 24, 25, 26, 46, 47, 48, 27, 28, 29, 30, 31, 32, 33, 34, 35, 36, 37, 38, 39, 40, 41, 42, 43, 44, 45] rfl rfl ⟨rfl, rfl⟩ ⟨Nat.le_of_ble_eq_true rfl, Nat.le_of_ble_eq_true rfl⟩ ⟨rfl, by decide +kernel, by decide +kernel, by decide +kernel⟩ rfl (fun h => by cases h) (Nat.le_of_ble_eq_true rfl) (by decide +kernel) rfl rfl (by decide +kernel) (by decide +kernel) (by decide +kernel) rfl (fun H locs h => ?_)
  refine W.eq (g2 := F0 m 362 ls [.int r, .int r]) rfl ?_
  refine lv_icmp_eq (tgt := 1461) hx hb dL_law_362 (by decide) (fun _ => ?_) (fun c9 => absurd rfl c9)
  exact kk H locs ls ⟨n, oM, oK, Wt, T, ik, kN5, kM5, kK5, kW5, kT5, R, sn, sB, sT, S, Z, V, kN6, kM6, kK6, kW6, kT6, It, fa, qu, sq, be, pt6, sd, wa, fu, ro, ju, na, mo, h0, hn, ghV, hW, hT, hK, hR, hS3, h⟩ hl
set_option maxRecDepth 100000 in
set_option maxHeartbeats 8000000 in
theorem lw_c5 (C : gn_C p s m #[.ref b] c cL_law 4 RL wsL_law true true G A) (hX : va_X b L xs s s.heap) (hbl : b < s.heap.size) (hbA : ¬ A b) (hL : L ≤ 3072) (hi : i + 6 ≤ L) (kk : ∀ (H : Heap) (locs : List Loc) (ls : Array Slot), lw_I G A s a d H locs → lv_has ls 4 [(0, .ref b), (1, .ref (a 0)), (2, .ref (d 0)), (3, .int (nI i))] → W p l e room_1 s m #[.ref b] below meth c H locs 600000 7302250 Q (F0 m 1461 ls [])) {H : Heap} {locs : List Loc} {ls : Array Slot} (h : lw_I G A s a d H locs) (hl : lv_has ls 4 [(0, .ref b), (1, .ref (a 0)), (2, .ref (d 0)), (3, .int (nI i))]) : W p l e room_1 s m #[.ref b] below meth c H locs 600000 7302250 Q (F0 m 367 ls []) := by
  obtain ⟨hx, hb, hml, hown, hts, hKK, hSt, hO, hA⟩ := id C
  obtain ⟨n, M, K, Wt, T, ik, kN5, kM5, kK5, kW5, kT5, R, sn, sB, sT, S, Z, V, kN6, kM6, kK6, kW6, kT6, It, fa, qu, sq, be, pt6, sd, wa, fu, ro, ju, na, mo, h0, hn, hV, hW, hT, hK, hR, hS3, h⟩ := h
  obtain ⟨r, oM, oK, h5, h6, ghV⟩ := o_dual (n := n) (K := K) (M := M) hn hV (xs (nI i + 1).toNatClampNeg) (xs (nI i + 2).toNatClampNeg)
  refine lv_aload_n hx hb dL_law_367 rfl (lv_at hl 1 rfl) ?_
  refine lv_aload_n hx hb dL_law_368 rfl (lv_at hl 0 rfl) ?_
  refine lv_iload_n hx hb dL_law_369 rfl (lv_at hl 3 rfl) ?_
  refine lv_iconst (v := 1) hx hb dL_law_370 (by decide) ?_
  refine lv_iadd hx hb dL_law_371 ?_
  refine va_sld hx hb hX hbl hbA h.2.2 (lw_in (k := 1) 1 rfl hi hL (by omega)) dL_law_372 ?_
  refine lv_aload_n hx hb dL_law_373 rfl (lv_at hl 0 rfl) ?_
  refine lv_iload_n hx hb dL_law_374 rfl (lv_at hl 3 rfl) ?_
  refine lv_iconst (v := 2) hx hb dL_law_375 (by decide) ?_
  refine lv_iadd hx hb dL_law_376 ?_
  refine va_sld hx hb hX hbl hbA h.2.2 (lw_in (k := 2) 2 rfl hi hL (by omega)) dL_law_377 ?_
  refine gn_callV (n := 2) (bytes := cX5_dual) (maxL := 4) (ret := some .int) (Cn := RX5) (T := TX5) (N := 6) ([(a 4, gk_I G 6 Wt), (a 5, .inr (3, [.ref (a 6)])), (a 6, gk_I G 36 T), (a 7, .inr (0, [.int kN5, .ref (a 8), .ref (a 9), .ref (a 10), .ref (a 11)])), (a 8, gk_J G 6 kM5), (a 9, gk_I G 6 kK5), (a 10, gk_I G 6 kW5), (a 11, .inr (3, [.ref (a 12)])), (a 12, gk_I G 36 kT5), (a 13, .inr (3, [.ref (a 14)])), (a 14, gk_I G 36 R), (a 15, .inr (2, [.int sn, .ref (a 16), .ref (a 17)])), (a 16, gk_J G 64 sB), (a 17, gk_I G 64 sT), (a 18, gk_R G 4 (gk_four (a 19) (a 21) (a 23) (a 25))), (a 19, .inr (1, [.int (S 0), .int (Z 0), .ref (a 20)])), (a 20, gk_J G 80 (V 0)), (a 21, .inr (1, [.int (S 1), .int (Z 1), .ref (a 22)])), (a 22, gk_J G 80 (V 1)), (a 23, .inr (1, [.int (S 2), .int (Z 2), .ref (a 24)])), (a 24, gk_J G 80 (V 2)), (a 25, .inr (1, [.int (S 3), .int (Z 3), .ref (a 26)])), (a 26, gk_J G 80 (V 3))] ++ lw_w6 G d (nI n) M K Wt T kN6 kM6 kK6 kW6 kT6 S Z It fa qu sq be pt6 sd wa fu ro ju na mo) (lw_w5 G a (nI n) oM oK Wt T ik kN5 kM5 kK5 kW5 kT5 R sn sB sT S Z V ++ lw_w6 G d (nI n) M K Wt T kN6 kM6 kK6 kW6 kT6 S Z It fa qu sq be pt6 sd wa fu ro ju na mo) [] C h (c_X5_dual l G (a 0) (a 1) (a 2) (a 3) (a 4) (a 5) (a 7) (a 13) (a 15) (a 18) ik (nI n) M K (xs (nI i + 1).toNatClampNeg) (xs (nI i + 2).toNatClampNeg) h5) gL_law_X5_dual dL_law_378 hl.1 ⟨Nat.le_of_ble_eq_true rfl, Nat.le_of_ble_eq_true rfl⟩ [0, 1, 2, 3] [4, 5, 6, 7, 8, 9, 10, 11, 12, 13, 14, 15, 16, 17, 18, 19, 20, 21, 22, 23, 24, 25, 26, 27, 28, 29, 30, 31, 32, 33, 34, 35, 36, 37, 38, 39, 40, 41, 42, 43, 44, 45, 46, 47, 48] [45, 46, 47, 48, 0, 1, 2, 3, 4, 5, 6, 7, 8, 9, 10, 11, 12, 13, 14, 15, 16, 17, 18, 19, 20, 21, 22, 23, 24, 25, 26, 27, 28, 29, 30, 31, 32, 33, 34, 35, 36, 37, 38, 39, 40, 41, 42, 43, 44] rfl rfl ⟨rfl, rfl⟩ ⟨Nat.le_of_ble_eq_true rfl, Nat.le_of_ble_eq_true rfl⟩ ⟨rfl, by decide +kernel, by decide +kernel, by decide +kernel⟩ rfl (fun h => h) (Nat.le_of_ble_eq_true rfl) (by decide +kernel) rfl rfl (by decide +kernel) (by decide +kernel) (by decide +kernel) rfl (fun H locs h => ?_)
  refine lv_aload_n hx hb dL_law_381 rfl (lv_at hl 2 rfl) ?_
  refine lv_aload_n hx hb dL_law_382 rfl (lv_at hl 0 rfl) ?_
  refine lv_iload_n hx hb dL_law_383 rfl (lv_at hl 3 rfl) ?_
  refine lv_iconst (v := 1) hx hb dL_law_384 (by decide) ?_
  refine lv_iadd hx hb dL_law_385 ?_
  refine va_sld hx hb hX hbl hbA h.2.2 (lw_in (k := 1) 1 rfl hi hL (by omega)) dL_law_386 ?_
  refine lv_aload_n hx hb dL_law_387 rfl (lv_at hl 0 rfl) ?_
  refine lv_iload_n hx hb dL_law_388 rfl (lv_at hl 3 rfl) ?_
  refine lv_iconst (v := 2) hx hb dL_law_389 (by decide) ?_
  refine lv_iadd hx hb dL_law_390 ?_
  refine va_sld hx hb hX hbl hbA h.2.2 (lw_in (k := 2) 2 rfl hi hL (by omega)) dL_law_391 ?_
  refine gn_callV (n := 2) (bytes := cX6_dual) (maxL := 3) (ret := some .int) (Cn := RX6) (T := TX6) (N := 25) (lw_w5 G a (nI n) oM oK Wt T ik kN5 kM5 kK5 kW5 kT5 R sn sB sT S Z V ++ [(d 3, gk_I G 6 Wt), (d 4, gk_I G 36 T), (d 5, gk_J G 6 kM6), (d 6, gk_I G 6 kK6), (d 7, gk_I G 6 kW6), (d 8, gk_I G 36 kT6), (d 9, gk_I G 4 S), (d 10, gk_I G 4 Z), (d 11, gk_J G 320 It), (d 12, gk_I G 64 fa), (d 13, gk_I G 64 qu), (d 14, gk_I G 36 sq), (d 15, gk_I G 36 be), (d 16, gk_I G 6 pt6), (d 17, gk_I G 36 wa), (d 18, gk_I G 36 fu), (d 19, gk_Z G 729 ju), (d 20, gk_I G 6 na), (d 21, gk_J G 80 mo)]) (lw_w5 G a (nI n) oM oK Wt T ik kN5 kM5 kK5 kW5 kT5 R sn sB sT S Z V ++ lw_w6 G d (nI n) oM oK Wt T kN6 kM6 kK6 kW6 kT6 S Z It fa qu sq be pt6 sd wa fu ro ju na mo) [.int r] C h (c_X6_dual l G (d 0) (d 1) (d 2) (d 3) (d 4) (d 5) (d 6) (d 7) (d 8) (d 9) (d 10) (d 11) (d 12) (d 13) (d 14) (d 15) (d 16) (d 17) (d 18) (d 19) (d 20) (d 21) (nI n) kN6 sd ro M K (xs (nI i + 1).toNatClampNeg) (xs (nI i + 2).toNatClampNeg) h6) gL_law_X6_dual dL_law_392 hl.1 ⟨Nat.le_of_ble_eq_true rfl, Nat.le_of_ble_eq_true rfl⟩ [27, 28, 29] [0, 1, 2, 3, 4, 5, 6, 7, 8, 9, 10, 11, 12, 13, 14, 15, 16, 17, 18, 19, 20, 21, 22, 23, 24, 25, 26, 30, 31, 32, 33, 34, 35, 36, 37, 38, 39, 40, 41, 42, 43, 44, 45, 46, 47, 48] [0, 1, 2, 3, 4, 5, 6, 7, 8, 9, 10, 11, 12, 13, 14, 15, 16, 17, 18, 19, 20, 21, 22, 23, 24, 25, 26, 46, 47, 48, 27, 28, 29, 30, 31, 32, 33, 34, 35, 36, 37, 38, 39, 40, 41, 42, 43, 44, 45] rfl rfl ⟨rfl, rfl⟩ ⟨Nat.le_of_ble_eq_true rfl, Nat.le_of_ble_eq_true rfl⟩ ⟨rfl, by decide +kernel, by decide +kernel, by decide +kernel⟩ rfl (fun h => by cases h) (Nat.le_of_ble_eq_true rfl) (by decide +kernel) rfl rfl (by decide +kernel) (by decide +kernel) (by decide +kernel) rfl (fun H locs h => ?_)
  refine W.eq (g2 := F0 m 395 ls [.int r, .int r]) rfl ?_
  refine lv_icmp_eq (tgt := 1461) hx hb dL_law_395 (by decide) (fun _ => ?_) (fun c9 => absurd rfl c9)
  exact kk H locs ls ⟨n, oM, oK, Wt, T, ik, kN5, kM5, kK5, kW5, kT5, R, sn, sB, sT, S, Z, V, kN6, kM6, kK6, kW6, kT6, It, fa, qu, sq, be, pt6, sd, wa, fu, ro, ju, na, mo, h0, hn, ghV, hW, hT, hK, hR, hS3, h⟩ hl
set_option maxRecDepth 100000 in
set_option maxHeartbeats 8000000 in
theorem lw_c6 (C : gn_C p s m #[.ref b] c cL_law 4 RL wsL_law true true G A) (hX : va_X b L xs s s.heap) (hbl : b < s.heap.size) (hbA : ¬ A b) (hL : L ≤ 3072) (hi : i + 6 ≤ L) (kk : ∀ (H : Heap) (locs : List Loc) (ls : Array Slot), lw_I G A s a d H locs → lv_has ls 4 [(0, .ref b), (1, .ref (a 0)), (2, .ref (d 0)), (3, .int (nI i))] → W p l e room_1 s m #[.ref b] below meth c H locs 600000 7302250 Q (F0 m 1461 ls [])) {H : Heap} {locs : List Loc} {ls : Array Slot} (h : lw_I G A s a d H locs) (hl : lv_has ls 4 [(0, .ref b), (1, .ref (a 0)), (2, .ref (d 0)), (3, .int (nI i))]) : W p l e room_1 s m #[.ref b] below meth c H locs 600000 7302250 Q (F0 m 400 ls []) := by
  obtain ⟨hx, hb, hml, hown, hts, hKK, hSt, hO, hA⟩ := id C
  obtain ⟨n, M, K, Wt, T, ik, kN5, kM5, kK5, kW5, kT5, R, sn, sB, sT, S, Z, V, kN6, kM6, kK6, kW6, kT6, It, fa, qu, sq, be, pt6, sd, wa, fu, ro, ju, na, mo, h0, hn, hV, hW, hT, hK, hR, hS3, h⟩ := h
  obtain ⟨r, oM, oK, h5, h6, ghV⟩ := o_reduce (n := n) (K := K) (M := M) h0 hn hV (xs (nI i + 1).toNatClampNeg) (xs (nI i + 2).toNatClampNeg) (xs (nI i + 3).toNatClampNeg) (xs (nI i + 4).toNatClampNeg)
  refine lv_aload_n hx hb dL_law_400 rfl (lv_at hl 1 rfl) ?_
  refine lv_aload_n hx hb dL_law_401 rfl (lv_at hl 0 rfl) ?_
  refine lv_iload_n hx hb dL_law_402 rfl (lv_at hl 3 rfl) ?_
  refine lv_iconst (v := 1) hx hb dL_law_403 (by decide) ?_
  refine lv_iadd hx hb dL_law_404 ?_
  refine va_sld hx hb hX hbl hbA h.2.2 (lw_in (k := 1) 1 rfl hi hL (by omega)) dL_law_405 ?_
  refine lv_aload_n hx hb dL_law_406 rfl (lv_at hl 0 rfl) ?_
  refine lv_iload_n hx hb dL_law_407 rfl (lv_at hl 3 rfl) ?_
  refine lv_iconst (v := 2) hx hb dL_law_408 (by decide) ?_
  refine lv_iadd hx hb dL_law_409 ?_
  refine va_sld hx hb hX hbl hbA h.2.2 (lw_in (k := 2) 2 rfl hi hL (by omega)) dL_law_410 ?_
  refine lv_aload_n hx hb dL_law_411 rfl (lv_at hl 0 rfl) ?_
  refine lv_iload_n hx hb dL_law_412 rfl (lv_at hl 3 rfl) ?_
  refine lv_iconst (v := 3) hx hb dL_law_413 (by decide) ?_
  refine lv_iadd hx hb dL_law_414 ?_
  refine va_sld hx hb hX hbl hbA h.2.2 (lw_in (k := 3) 3 rfl hi hL (by omega)) dL_law_415 ?_
  refine lv_aload_n hx hb dL_law_416 rfl (lv_at hl 0 rfl) ?_
  refine lv_iload_n hx hb dL_law_417 rfl (lv_at hl 3 rfl) ?_
  refine lv_iconst (v := 4) hx hb dL_law_418 (by decide) ?_
  refine lv_iadd hx hb dL_law_419 ?_
  refine va_sld hx hb hX hbl hbA h.2.2 (lw_in (k := 4) 4 rfl hi hL (by omega)) dL_law_420 ?_
  refine gn_callV (n := 4) (bytes := cX5_reduce) (maxL := 9) (ret := some .int) (Cn := RX5) (T := TX5) (N := 6) ([(a 4, gk_I G 6 Wt), (a 5, .inr (3, [.ref (a 6)])), (a 6, gk_I G 36 T), (a 7, .inr (0, [.int kN5, .ref (a 8), .ref (a 9), .ref (a 10), .ref (a 11)])), (a 8, gk_J G 6 kM5), (a 9, gk_I G 6 kK5), (a 10, gk_I G 6 kW5), (a 11, .inr (3, [.ref (a 12)])), (a 12, gk_I G 36 kT5), (a 13, .inr (3, [.ref (a 14)])), (a 14, gk_I G 36 R), (a 15, .inr (2, [.int sn, .ref (a 16), .ref (a 17)])), (a 16, gk_J G 64 sB), (a 17, gk_I G 64 sT), (a 18, gk_R G 4 (gk_four (a 19) (a 21) (a 23) (a 25))), (a 19, .inr (1, [.int (S 0), .int (Z 0), .ref (a 20)])), (a 20, gk_J G 80 (V 0)), (a 21, .inr (1, [.int (S 1), .int (Z 1), .ref (a 22)])), (a 22, gk_J G 80 (V 1)), (a 23, .inr (1, [.int (S 2), .int (Z 2), .ref (a 24)])), (a 24, gk_J G 80 (V 2)), (a 25, .inr (1, [.int (S 3), .int (Z 3), .ref (a 26)])), (a 26, gk_J G 80 (V 3))] ++ lw_w6 G d (nI n) M K Wt T kN6 kM6 kK6 kW6 kT6 S Z It fa qu sq be pt6 sd wa fu ro ju na mo) (lw_w5 G a (nI n) oM oK Wt T ik kN5 kM5 kK5 kW5 kT5 R sn sB sT S Z V ++ lw_w6 G d (nI n) M K Wt T kN6 kM6 kK6 kW6 kT6 S Z It fa qu sq be pt6 sd wa fu ro ju na mo) [] C h (c_X5_reduce l G (a 0) (a 1) (a 2) (a 3) (a 4) (a 5) (a 7) (a 13) (a 15) (a 18) ik (nI n) M K (xs (nI i + 1).toNatClampNeg) (xs (nI i + 2).toNatClampNeg) (xs (nI i + 3).toNatClampNeg) (xs (nI i + 4).toNatClampNeg) h5) gL_law_X5_reduce dL_law_421 hl.1 ⟨Nat.le_of_ble_eq_true rfl, Nat.le_of_ble_eq_true rfl⟩ [0, 1, 2, 3] [4, 5, 6, 7, 8, 9, 10, 11, 12, 13, 14, 15, 16, 17, 18, 19, 20, 21, 22, 23, 24, 25, 26, 27, 28, 29, 30, 31, 32, 33, 34, 35, 36, 37, 38, 39, 40, 41, 42, 43, 44, 45, 46, 47, 48] [45, 46, 47, 48, 0, 1, 2, 3, 4, 5, 6, 7, 8, 9, 10, 11, 12, 13, 14, 15, 16, 17, 18, 19, 20, 21, 22, 23, 24, 25, 26, 27, 28, 29, 30, 31, 32, 33, 34, 35, 36, 37, 38, 39, 40, 41, 42, 43, 44] rfl rfl ⟨rfl, rfl⟩ ⟨Nat.le_of_ble_eq_true rfl, Nat.le_of_ble_eq_true rfl⟩ ⟨rfl, by decide +kernel, by decide +kernel, by decide +kernel⟩ rfl (fun h => h) (Nat.le_of_ble_eq_true rfl) (by decide +kernel) rfl rfl (by decide +kernel) (by decide +kernel) (by decide +kernel) rfl (fun H locs h => ?_)
  refine lv_aload_n hx hb dL_law_424 rfl (lv_at hl 2 rfl) ?_
  refine lv_aload_n hx hb dL_law_425 rfl (lv_at hl 0 rfl) ?_
  refine lv_iload_n hx hb dL_law_426 rfl (lv_at hl 3 rfl) ?_
  refine lv_iconst (v := 1) hx hb dL_law_427 (by decide) ?_
  refine lv_iadd hx hb dL_law_428 ?_
  refine va_sld hx hb hX hbl hbA h.2.2 (lw_in (k := 1) 1 rfl hi hL (by omega)) dL_law_429 ?_
  refine lv_aload_n hx hb dL_law_430 rfl (lv_at hl 0 rfl) ?_
  refine lv_iload_n hx hb dL_law_431 rfl (lv_at hl 3 rfl) ?_
  refine lv_iconst (v := 2) hx hb dL_law_432 (by decide) ?_
  refine lv_iadd hx hb dL_law_433 ?_
  refine va_sld hx hb hX hbl hbA h.2.2 (lw_in (k := 2) 2 rfl hi hL (by omega)) dL_law_434 ?_
  refine lv_aload_n hx hb dL_law_435 rfl (lv_at hl 0 rfl) ?_
  refine lv_iload_n hx hb dL_law_436 rfl (lv_at hl 3 rfl) ?_
  refine lv_iconst (v := 3) hx hb dL_law_437 (by decide) ?_
  refine lv_iadd hx hb dL_law_438 ?_
  refine va_sld hx hb hX hbl hbA h.2.2 (lw_in (k := 3) 3 rfl hi hL (by omega)) dL_law_439 ?_
  refine lv_aload_n hx hb dL_law_440 rfl (lv_at hl 0 rfl) ?_
  refine lv_iload_n hx hb dL_law_441 rfl (lv_at hl 3 rfl) ?_
  refine lv_iconst (v := 4) hx hb dL_law_442 (by decide) ?_
  refine lv_iadd hx hb dL_law_443 ?_
  refine va_sld hx hb hX hbl hbA h.2.2 (lw_in (k := 4) 4 rfl hi hL (by omega)) dL_law_444 ?_
  refine gn_callV (n := 4) (bytes := cX6_reduce) (maxL := 12) (ret := some .int) (Cn := RX6) (T := TX6) (N := 25) (lw_w5 G a (nI n) oM oK Wt T ik kN5 kM5 kK5 kW5 kT5 R sn sB sT S Z V ++ [(d 3, gk_I G 6 Wt), (d 4, gk_I G 36 T), (d 5, gk_J G 6 kM6), (d 6, gk_I G 6 kK6), (d 7, gk_I G 6 kW6), (d 8, gk_I G 36 kT6), (d 9, gk_I G 4 S), (d 10, gk_I G 4 Z), (d 11, gk_J G 320 It), (d 12, gk_I G 64 fa), (d 13, gk_I G 64 qu), (d 14, gk_I G 36 sq), (d 15, gk_I G 36 be), (d 16, gk_I G 6 pt6), (d 17, gk_I G 36 wa), (d 18, gk_I G 36 fu), (d 19, gk_Z G 729 ju), (d 20, gk_I G 6 na), (d 21, gk_J G 80 mo)]) (lw_w5 G a (nI n) oM oK Wt T ik kN5 kM5 kK5 kW5 kT5 R sn sB sT S Z V ++ lw_w6 G d (nI n) oM oK Wt T kN6 kM6 kK6 kW6 kT6 S Z It fa qu sq be pt6 sd wa fu ro ju na mo) [.int r] C h (c_X6_reduce l G (d 0) (d 1) (d 2) (d 3) (d 4) (d 5) (d 6) (d 7) (d 8) (d 9) (d 10) (d 11) (d 12) (d 13) (d 14) (d 15) (d 16) (d 17) (d 18) (d 19) (d 20) (d 21) (nI n) kN6 sd ro M K (xs (nI i + 1).toNatClampNeg) (xs (nI i + 2).toNatClampNeg) (xs (nI i + 3).toNatClampNeg) (xs (nI i + 4).toNatClampNeg) h6) gL_law_X6_reduce dL_law_445 hl.1 ⟨Nat.le_of_ble_eq_true rfl, Nat.le_of_ble_eq_true rfl⟩ [27, 28, 29] [0, 1, 2, 3, 4, 5, 6, 7, 8, 9, 10, 11, 12, 13, 14, 15, 16, 17, 18, 19, 20, 21, 22, 23, 24, 25, 26, 30, 31, 32, 33, 34, 35, 36, 37, 38, 39, 40, 41, 42, 43, 44, 45, 46, 47, 48] [0, 1, 2, 3, 4, 5, 6, 7, 8, 9, 10, 11, 12, 13, 14, 15, 16, 17, 18, 19, 20, 21, 22, 23, 24, 25, 26, 46, 47, 48, 27, 28, 29, 30, 31, 32, 33, 34, 35, 36, 37, 38, 39, 40, 41, 42, 43, 44, 45] rfl rfl ⟨rfl, rfl⟩ ⟨Nat.le_of_ble_eq_true rfl, Nat.le_of_ble_eq_true rfl⟩ ⟨rfl, by decide +kernel, by decide +kernel, by decide +kernel⟩ rfl (fun h => by cases h) (Nat.le_of_ble_eq_true rfl) (by decide +kernel) rfl rfl (by decide +kernel) (by decide +kernel) (by decide +kernel) rfl (fun H locs h => ?_)
  refine W.eq (g2 := F0 m 448 ls [.int r, .int r]) rfl ?_
  refine lv_icmp_eq (tgt := 1461) hx hb dL_law_448 (by decide) (fun _ => ?_) (fun c9 => absurd rfl c9)
  exact kk H locs ls ⟨n, oM, oK, Wt, T, ik, kN5, kM5, kK5, kW5, kT5, R, sn, sB, sT, S, Z, V, kN6, kM6, kK6, kW6, kT6, It, fa, qu, sq, be, pt6, sd, wa, fu, ro, ju, na, mo, h0, hn, ghV, hW, hT, hK, hR, hS3, h⟩ hl
set_option maxRecDepth 100000 in
set_option maxHeartbeats 8000000 in
theorem lw_c7 (C : gn_C p s m #[.ref b] c cL_law 4 RL wsL_law true true G A) (hX : va_X b L xs s s.heap) (hbl : b < s.heap.size) (hbA : ¬ A b) (hL : L ≤ 3072) (hi : i + 6 ≤ L) (kk : ∀ (H : Heap) (locs : List Loc) (ls : Array Slot), lw_I G A s a d H locs → lv_has ls 4 [(0, .ref b), (1, .ref (a 0)), (2, .ref (d 0)), (3, .int (nI i))] → W p l e room_1 s m #[.ref b] below meth c H locs 600000 7302250 Q (F0 m 1461 ls [])) {H : Heap} {locs : List Loc} {ls : Array Slot} (h : lw_I G A s a d H locs) (hl : lv_has ls 4 [(0, .ref b), (1, .ref (a 0)), (2, .ref (d 0)), (3, .int (nI i))]) : W p l e room_1 s m #[.ref b] below meth c H locs 600000 7302250 Q (F0 m 453 ls []) := by
  obtain ⟨hx, hb, hml, hown, hts, hKK, hSt, hO, hA⟩ := id C
  obtain ⟨n, M, K, Wt, T, ik, kN5, kM5, kK5, kW5, kT5, R, sn, sB, sT, S, Z, V, kN6, kM6, kK6, kW6, kT6, It, fa, qu, sq, be, pt6, sd, wa, fu, ro, ju, na, mo, h0, hn, hV, hW, hT, hK, hR, hS3, h⟩ := h
  obtain ⟨r, oM, oK, h5, h6, ghV⟩ := o_clear (n := n) (K := K) (M := M) hn hV (xs (nI i + 1).toNatClampNeg)
  refine lv_aload_n hx hb dL_law_453 rfl (lv_at hl 1 rfl) ?_
  refine lv_aload_n hx hb dL_law_454 rfl (lv_at hl 0 rfl) ?_
  refine lv_iload_n hx hb dL_law_455 rfl (lv_at hl 3 rfl) ?_
  refine lv_iconst (v := 1) hx hb dL_law_456 (by decide) ?_
  refine lv_iadd hx hb dL_law_457 ?_
  refine va_sld hx hb hX hbl hbA h.2.2 (lw_in (k := 1) 1 rfl hi hL (by omega)) dL_law_458 ?_
  refine gn_callV (n := 1) (bytes := cX5_clear) (maxL := 3) (ret := some .int) (Cn := RX5) (T := TX5) (N := 6) ([(a 4, gk_I G 6 Wt), (a 5, .inr (3, [.ref (a 6)])), (a 6, gk_I G 36 T), (a 7, .inr (0, [.int kN5, .ref (a 8), .ref (a 9), .ref (a 10), .ref (a 11)])), (a 8, gk_J G 6 kM5), (a 9, gk_I G 6 kK5), (a 10, gk_I G 6 kW5), (a 11, .inr (3, [.ref (a 12)])), (a 12, gk_I G 36 kT5), (a 13, .inr (3, [.ref (a 14)])), (a 14, gk_I G 36 R), (a 15, .inr (2, [.int sn, .ref (a 16), .ref (a 17)])), (a 16, gk_J G 64 sB), (a 17, gk_I G 64 sT), (a 18, gk_R G 4 (gk_four (a 19) (a 21) (a 23) (a 25))), (a 19, .inr (1, [.int (S 0), .int (Z 0), .ref (a 20)])), (a 20, gk_J G 80 (V 0)), (a 21, .inr (1, [.int (S 1), .int (Z 1), .ref (a 22)])), (a 22, gk_J G 80 (V 1)), (a 23, .inr (1, [.int (S 2), .int (Z 2), .ref (a 24)])), (a 24, gk_J G 80 (V 2)), (a 25, .inr (1, [.int (S 3), .int (Z 3), .ref (a 26)])), (a 26, gk_J G 80 (V 3))] ++ lw_w6 G d (nI n) M K Wt T kN6 kM6 kK6 kW6 kT6 S Z It fa qu sq be pt6 sd wa fu ro ju na mo) (lw_w5 G a (nI n) oM oK Wt T ik kN5 kM5 kK5 kW5 kT5 R sn sB sT S Z V ++ lw_w6 G d (nI n) M K Wt T kN6 kM6 kK6 kW6 kT6 S Z It fa qu sq be pt6 sd wa fu ro ju na mo) [] C h (c_X5_clear l G (a 0) (a 1) (a 2) (a 3) (a 4) (a 5) (a 7) (a 13) (a 15) (a 18) ik (nI n) M K (xs (nI i + 1).toNatClampNeg) h5) gL_law_X5_clear dL_law_459 hl.1 ⟨Nat.le_of_ble_eq_true rfl, Nat.le_of_ble_eq_true rfl⟩ [0, 1, 2, 3] [4, 5, 6, 7, 8, 9, 10, 11, 12, 13, 14, 15, 16, 17, 18, 19, 20, 21, 22, 23, 24, 25, 26, 27, 28, 29, 30, 31, 32, 33, 34, 35, 36, 37, 38, 39, 40, 41, 42, 43, 44, 45, 46, 47, 48] [45, 46, 47, 48, 0, 1, 2, 3, 4, 5, 6, 7, 8, 9, 10, 11, 12, 13, 14, 15, 16, 17, 18, 19, 20, 21, 22, 23, 24, 25, 26, 27, 28, 29, 30, 31, 32, 33, 34, 35, 36, 37, 38, 39, 40, 41, 42, 43, 44] rfl rfl ⟨rfl, rfl⟩ ⟨Nat.le_of_ble_eq_true rfl, Nat.le_of_ble_eq_true rfl⟩ ⟨rfl, by decide +kernel, by decide +kernel, by decide +kernel⟩ rfl (fun h => by cases h) (Nat.le_of_ble_eq_true rfl) (by decide +kernel) rfl rfl (by decide +kernel) (by decide +kernel) (by decide +kernel) rfl (fun H locs h => ?_)
  refine lv_aload_n hx hb dL_law_462 rfl (lv_at hl 2 rfl) ?_
  refine lv_aload_n hx hb dL_law_463 rfl (lv_at hl 0 rfl) ?_
  refine lv_iload_n hx hb dL_law_464 rfl (lv_at hl 3 rfl) ?_
  refine lv_iconst (v := 1) hx hb dL_law_465 (by decide) ?_
  refine lv_iadd hx hb dL_law_466 ?_
  refine va_sld hx hb hX hbl hbA h.2.2 (lw_in (k := 1) 1 rfl hi hL (by omega)) dL_law_467 ?_
  refine gn_callV (n := 1) (bytes := cX6_clear) (maxL := 3) (ret := some .int) (Cn := RX6) (T := TX6) (N := 25) (lw_w5 G a (nI n) oM oK Wt T ik kN5 kM5 kK5 kW5 kT5 R sn sB sT S Z V ++ [(d 3, gk_I G 6 Wt), (d 4, gk_I G 36 T), (d 5, gk_J G 6 kM6), (d 6, gk_I G 6 kK6), (d 7, gk_I G 6 kW6), (d 8, gk_I G 36 kT6), (d 9, gk_I G 4 S), (d 10, gk_I G 4 Z), (d 11, gk_J G 320 It), (d 12, gk_I G 64 fa), (d 13, gk_I G 64 qu), (d 14, gk_I G 36 sq), (d 15, gk_I G 36 be), (d 16, gk_I G 6 pt6), (d 17, gk_I G 36 wa), (d 18, gk_I G 36 fu), (d 19, gk_Z G 729 ju), (d 20, gk_I G 6 na), (d 21, gk_J G 80 mo)]) (lw_w5 G a (nI n) oM oK Wt T ik kN5 kM5 kK5 kW5 kT5 R sn sB sT S Z V ++ lw_w6 G d (nI n) oM oK Wt T kN6 kM6 kK6 kW6 kT6 S Z It fa qu sq be pt6 sd wa fu ro ju na mo) [.int r] C h (c_X6_clear l G (d 0) (d 1) (d 2) (d 3) (d 4) (d 5) (d 6) (d 7) (d 8) (d 9) (d 10) (d 11) (d 12) (d 13) (d 14) (d 15) (d 16) (d 17) (d 18) (d 19) (d 20) (d 21) (nI n) kN6 sd ro M K (xs (nI i + 1).toNatClampNeg) h6) gL_law_X6_clear dL_law_468 hl.1 ⟨Nat.le_of_ble_eq_true rfl, Nat.le_of_ble_eq_true rfl⟩ [27, 28, 29] [0, 1, 2, 3, 4, 5, 6, 7, 8, 9, 10, 11, 12, 13, 14, 15, 16, 17, 18, 19, 20, 21, 22, 23, 24, 25, 26, 30, 31, 32, 33, 34, 35, 36, 37, 38, 39, 40, 41, 42, 43, 44, 45, 46, 47, 48] [0, 1, 2, 3, 4, 5, 6, 7, 8, 9, 10, 11, 12, 13, 14, 15, 16, 17, 18, 19, 20, 21, 22, 23, 24, 25, 26, 46, 47, 48, 27, 28, 29, 30, 31, 32, 33, 34, 35, 36, 37, 38, 39, 40, 41, 42, 43, 44, 45] rfl rfl ⟨rfl, rfl⟩ ⟨Nat.le_of_ble_eq_true rfl, Nat.le_of_ble_eq_true rfl⟩ ⟨rfl, by decide +kernel, by decide +kernel, by decide +kernel⟩ rfl (fun h => by cases h) (Nat.le_of_ble_eq_true rfl) (by decide +kernel) rfl rfl (by decide +kernel) (by decide +kernel) (by decide +kernel) rfl (fun H locs h => ?_)
  refine W.eq (g2 := F0 m 471 ls [.int r, .int r]) rfl ?_
  refine lv_icmp_eq (tgt := 1461) hx hb dL_law_471 (by decide) (fun _ => ?_) (fun c9 => absurd rfl c9)
  exact kk H locs ls ⟨n, oM, oK, Wt, T, ik, kN5, kM5, kK5, kW5, kT5, R, sn, sB, sT, S, Z, V, kN6, kM6, kK6, kW6, kT6, It, fa, qu, sq, be, pt6, sd, wa, fu, ro, ju, na, mo, h0, hn, ghV, hW, hT, hK, hR, hS3, h⟩ hl
end
