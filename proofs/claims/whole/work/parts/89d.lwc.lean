section
variable {p : Program} {l : Launch} {e : Env} {s : State} {m : MethodId} {below : List Frame} {meth : Method} {c : Code} {Q : State → Prop} {G : gk_G} {A : Nat → Prop} {a d : Nat → Nat} {b L i : Nat} {xs : Nat → Int32}
set_option maxRecDepth 100000 in
set_option maxHeartbeats 8000000 in
theorem lw_c12 (C : gn_C p s m #[.ref b] c cL_law 4 RL wsL_law true true G A) (hX : va_X b L xs s s.heap) (hbl : b < s.heap.size) (hbA : ¬ A b) (hL : L ≤ 3072) (hi : i + 6 ≤ L) (kk : ∀ (H : Heap) (locs : List Loc) (ls : Array Slot), lw_I G A s a d H locs → lv_has ls 4 [(0, .ref b), (1, .ref (a 0)), (2, .ref (d 0)), (3, .int (nI i))] → W p l e room_1 s m #[.ref b] below meth c H locs 600000 7302250 Q (F0 m 1461 ls [])) {H : Heap} {locs : List Loc} {ls : Array Slot} (h : lw_I G A s a d H locs) (hl : lv_has ls 4 [(0, .ref b), (1, .ref (a 0)), (2, .ref (d 0)), (3, .int (nI i))]) : W p l e room_1 s m #[.ref b] below meth c H locs 600000 7302250 Q (F0 m 608 ls []) := by
  obtain ⟨hx, hb, hml, hown, hts, hKK, hSt, hO, hA⟩ := id C
  obtain ⟨n, M, K, Wt, T, ik, kN5, kM5, kK5, kW5, kT5, R, sn, sB, sT, S, Z, V, kN6, kM6, kK6, kW6, kT6, It, fa, qu, sq, be, pt6, sd, wa, fu, ro, ju, na, mo, h0, hn, hV, hW, hT, hK, hR, hS3, h⟩ := h
  obtain ⟨r, h5, h6⟩ := o_fails (n := n) (K := K) (M := M) h0 hn hV (xs (nI i + 1).toNatClampNeg) (xs (nI i + 2).toNatClampNeg)
  refine lv_aload_n hx hb dL_law_608 rfl (lv_at hl 1 rfl) ?_
  refine lv_aload_n hx hb dL_law_609 rfl (lv_at hl 0 rfl) ?_
  refine lv_iload_n hx hb dL_law_610 rfl (lv_at hl 3 rfl) ?_
  refine lv_iconst (v := 1) hx hb dL_law_611 (by decide) ?_
  refine lv_iadd hx hb dL_law_612 ?_
  refine va_sld hx hb hX hbl hbA h.2.2 (lw_in (k := 1) 1 rfl hi hL (by omega)) dL_law_613 ?_
  refine lv_aload_n hx hb dL_law_614 rfl (lv_at hl 0 rfl) ?_
  refine lv_iload_n hx hb dL_law_615 rfl (lv_at hl 3 rfl) ?_
  refine lv_iconst (v := 2) hx hb dL_law_616 (by decide) ?_
  refine lv_iadd hx hb dL_law_617 ?_
  refine va_sld hx hb hX hbl hbA h.2.2 (lw_in (k := 2) 2 rfl hi hL (by omega)) dL_law_618 ?_
  refine gn_callV (n := 2) (bytes := cX5_fails) (maxL := 7) (ret := some .int) (Cn := RX5) (T := TX5) (N := 6) ([(a 4, gk_I G 6 Wt), (a 5, .inr (3, [.ref (a 6)])), (a 6, gk_I G 36 T), (a 7, .inr (0, [.int kN5, .ref (a 8), .ref (a 9), .ref (a 10), .ref (a 11)])), (a 8, gk_J G 6 kM5), (a 9, gk_I G 6 kK5), (a 10, gk_I G 6 kW5), (a 11, .inr (3, [.ref (a 12)])), (a 12, gk_I G 36 kT5), (a 13, .inr (3, [.ref (a 14)])), (a 14, gk_I G 36 R), (a 15, .inr (2, [.int sn, .ref (a 16), .ref (a 17)])), (a 16, gk_J G 64 sB), (a 17, gk_I G 64 sT), (a 18, gk_R G 4 (gk_four (a 19) (a 21) (a 23) (a 25))), (a 19, .inr (1, [.int (S 0), .int (Z 0), .ref (a 20)])), (a 20, gk_J G 80 (V 0)), (a 21, .inr (1, [.int (S 1), .int (Z 1), .ref (a 22)])), (a 22, gk_J G 80 (V 1)), (a 23, .inr (1, [.int (S 2), .int (Z 2), .ref (a 24)])), (a 24, gk_J G 80 (V 2)), (a 25, .inr (1, [.int (S 3), .int (Z 3), .ref (a 26)])), (a 26, gk_J G 80 (V 3))] ++ lw_w6 G d (nI n) M K Wt T kN6 kM6 kK6 kW6 kT6 S Z It fa qu sq be pt6 sd wa fu ro ju na mo) (lw_w5 G a (nI n) M K Wt T ik kN5 kM5 kK5 kW5 kT5 R sn sB sT S Z V ++ lw_w6 G d (nI n) M K Wt T kN6 kM6 kK6 kW6 kT6 S Z It fa qu sq be pt6 sd wa fu ro ju na mo) [] C h (c_X5_fails l G (a 0) (a 1) (a 2) (a 3) (a 4) (a 5) (a 7) (a 13) (a 15) (a 18) ik (nI n) M K (xs (nI i + 1).toNatClampNeg) (xs (nI i + 2).toNatClampNeg) h5) gL_law_X5_fails dL_law_619 hl.1 ⟨Nat.le_of_ble_eq_true rfl, Nat.le_of_ble_eq_true rfl⟩ [0, 1, 2, 3] [4, 5, 6, 7, 8, 9, 10, 11, 12, 13, 14, 15, 16, 17, 18, 19, 20, 21, 22, 23, 24, 25, 26, 27, 28, 29, 30, 31, 32, 33, 34, 35, 36, 37, 38, 39, 40, 41, 42, 43, 44, 45, 46, 47, 48] [45, 46, 47, 48, 0, 1, 2, 3, 4, 5, 6, 7, 8, 9, 10, 11, 12, 13, 14, 15, 16, 17, 18, 19, 20, 21, 22, 23, 24, 25, 26, 27, 28, 29, 30, 31, 32, 33, 34, 35, 36, 37, 38, 39, 40, 41, 42, 43, 44] rfl rfl ⟨rfl, rfl⟩ ⟨Nat.le_of_ble_eq_true rfl, Nat.le_of_ble_eq_true rfl⟩ ⟨rfl, by decide +kernel, by decide +kernel, by decide +kernel⟩ rfl (fun h => h) (Nat.le_of_ble_eq_true rfl) (by decide +kernel) rfl rfl (by decide +kernel) (by decide +kernel) (by decide +kernel) rfl (fun H locs h => ?_)
  refine lv_aload_n hx hb dL_law_622 rfl (lv_at hl 2 rfl) ?_
  refine lv_aload_n hx hb dL_law_623 rfl (lv_at hl 0 rfl) ?_
  refine lv_iload_n hx hb dL_law_624 rfl (lv_at hl 3 rfl) ?_
  refine lv_iconst (v := 1) hx hb dL_law_625 (by decide) ?_
  refine lv_iadd hx hb dL_law_626 ?_
  refine va_sld hx hb hX hbl hbA h.2.2 (lw_in (k := 1) 1 rfl hi hL (by omega)) dL_law_627 ?_
  refine lv_aload_n hx hb dL_law_628 rfl (lv_at hl 0 rfl) ?_
  refine lv_iload_n hx hb dL_law_629 rfl (lv_at hl 3 rfl) ?_
  refine lv_iconst (v := 2) hx hb dL_law_630 (by decide) ?_
  refine lv_iadd hx hb dL_law_631 ?_
  refine va_sld hx hb hX hbl hbA h.2.2 (lw_in (k := 2) 2 rfl hi hL (by omega)) dL_law_632 ?_
  refine gn_callV (n := 2) (bytes := cX6_fails) (maxL := 3) (ret := some .int) (Cn := RX6) (T := TX6) (N := 25) (lw_w5 G a (nI n) M K Wt T ik kN5 kM5 kK5 kW5 kT5 R sn sB sT S Z V ++ [(d 3, gk_I G 6 Wt), (d 4, gk_I G 36 T), (d 5, gk_J G 6 kM6), (d 6, gk_I G 6 kK6), (d 7, gk_I G 6 kW6), (d 8, gk_I G 36 kT6), (d 9, gk_I G 4 S), (d 10, gk_I G 4 Z), (d 11, gk_J G 320 It), (d 12, gk_I G 64 fa), (d 13, gk_I G 64 qu), (d 14, gk_I G 36 sq), (d 15, gk_I G 36 be), (d 16, gk_I G 6 pt6), (d 17, gk_I G 36 wa), (d 18, gk_I G 36 fu), (d 19, gk_Z G 729 ju), (d 20, gk_I G 6 na), (d 21, gk_J G 80 mo)]) (lw_w5 G a (nI n) M K Wt T ik kN5 kM5 kK5 kW5 kT5 R sn sB sT S Z V ++ lw_w6 G d (nI n) M K Wt T kN6 kM6 kK6 kW6 kT6 S Z It fa qu sq be pt6 sd wa fu ro ju na mo) [.int r] C h (c_X6_fails l G (d 0) (d 1) (d 2) (d 3) (d 4) (d 5) (d 6) (d 7) (d 8) (d 9) (d 10) (d 11) (d 12) (d 13) (d 14) (d 15) (d 16) (d 17) (d 18) (d 19) (d 20) (d 21) (nI n) kN6 sd ro M K (xs (nI i + 1).toNatClampNeg) (xs (nI i + 2).toNatClampNeg) h6) gL_law_X6_fails dL_law_633 hl.1 ⟨Nat.le_of_ble_eq_true rfl, Nat.le_of_ble_eq_true rfl⟩ [27, 28, 29] [0, 1, 2, 3, 4, 5, 6, 7, 8, 9, 10, 11, 12, 13, 14, 15, 16, 17, 18, 19, 20, 21, 22, 23, 24, 25, 26, 30, 31, 32, 33, 34, 35, 36, 37, 38, 39, 40, 41, 42, 43, 44, 45, 46, 47, 48] [0, 1, 2, 3, 4, 5, 6, 7, 8, 9, 10, 11, 12, 13, 14, 15, 16, 17, 18, 19, 20, 21, 22, 23, 24, 25, 26, 46, 47, 48, 27, 28, 29, 30, 31, 32, 33, 34, 35, 36, 37, 38, 39, 40, 41, 42, 43, 44, 45] rfl rfl ⟨rfl, rfl⟩ ⟨Nat.le_of_ble_eq_true rfl, Nat.le_of_ble_eq_true rfl⟩ ⟨rfl, by decide +kernel, by decide +kernel, by decide +kernel⟩ rfl (fun h => by cases h) (Nat.le_of_ble_eq_true rfl) (by decide +kernel) rfl rfl (by decide +kernel) (by decide +kernel) (by decide +kernel) rfl (fun H locs h => ?_)
  refine W.eq (g2 := F0 m 636 ls [.int r, .int r]) rfl ?_
  refine lv_icmp_eq (tgt := 1461) hx hb dL_law_636 (by decide) (fun _ => ?_) (fun c9 => absurd rfl c9)
  exact kk H locs ls ⟨n, M, K, Wt, T, ik, kN5, kM5, kK5, kW5, kT5, R, sn, sB, sT, S, Z, V, kN6, kM6, kK6, kW6, kT6, It, fa, qu, sq, be, pt6, sd, wa, fu, ro, ju, na, mo, h0, hn, hV, hW, hT, hK, hR, hS3, h⟩ hl
set_option maxRecDepth 100000 in
set_option maxHeartbeats 8000000 in
theorem lw_c13 (C : gn_C p s m #[.ref b] c cL_law 4 RL wsL_law true true G A) (hX : va_X b L xs s s.heap) (hbl : b < s.heap.size) (hbA : ¬ A b) (hL : L ≤ 3072) (hi : i + 6 ≤ L) (kk : ∀ (H : Heap) (locs : List Loc) (ls : Array Slot), lw_I G A s a d H locs → lv_has ls 4 [(0, .ref b), (1, .ref (a 0)), (2, .ref (d 0)), (3, .int (nI i))] → W p l e room_1 s m #[.ref b] below meth c H locs 600000 7302250 Q (F0 m 1461 ls [])) {H : Heap} {locs : List Loc} {ls : Array Slot} (h : lw_I G A s a d H locs) (hl : lv_has ls 4 [(0, .ref b), (1, .ref (a 0)), (2, .ref (d 0)), (3, .int (nI i))]) : W p l e room_1 s m #[.ref b] below meth c H locs 600000 7302250 Q (F0 m 641 ls []) := by
  obtain ⟨hx, hb, hml, hown, hts, hKK, hSt, hO, hA⟩ := id C
  obtain ⟨n, M, K, Wt, T, ik, kN5, kM5, kK5, kW5, kT5, R, sn, sB, sT, S, Z, V, kN6, kM6, kK6, kW6, kT6, It, fa, qu, sq, be, pt6, sd, wa, fu, ro, ju, na, mo, h0, hn, hV, hW, hT, hK, hR, hS3, h⟩ := h
  obtain ⟨r, h5, h6⟩ := o_partner (n := n) (K := K) (M := M) h0 hn hV (xs (nI i + 1).toNatClampNeg) (xs (nI i + 2).toNatClampNeg) (xs (nI i + 3).toNatClampNeg) (xs (nI i + 4).toNatClampNeg)
  refine lv_aload_n hx hb dL_law_641 rfl (lv_at hl 1 rfl) ?_
  refine lv_aload_n hx hb dL_law_642 rfl (lv_at hl 0 rfl) ?_
  refine lv_iload_n hx hb dL_law_643 rfl (lv_at hl 3 rfl) ?_
  refine lv_iconst (v := 1) hx hb dL_law_644 (by decide) ?_
  refine lv_iadd hx hb dL_law_645 ?_
  refine va_sld hx hb hX hbl hbA h.2.2 (lw_in (k := 1) 1 rfl hi hL (by omega)) dL_law_646 ?_
  refine lv_aload_n hx hb dL_law_647 rfl (lv_at hl 0 rfl) ?_
  refine lv_iload_n hx hb dL_law_648 rfl (lv_at hl 3 rfl) ?_
  refine lv_iconst (v := 2) hx hb dL_law_649 (by decide) ?_
  refine lv_iadd hx hb dL_law_650 ?_
  refine va_sld hx hb hX hbl hbA h.2.2 (lw_in (k := 2) 2 rfl hi hL (by omega)) dL_law_651 ?_
  refine lv_aload_n hx hb dL_law_652 rfl (lv_at hl 0 rfl) ?_
  refine lv_iload_n hx hb dL_law_653 rfl (lv_at hl 3 rfl) ?_
  refine lv_iconst (v := 3) hx hb dL_law_654 (by decide) ?_
  refine lv_iadd hx hb dL_law_655 ?_
  refine va_sld hx hb hX hbl hbA h.2.2 (lw_in (k := 3) 3 rfl hi hL (by omega)) dL_law_656 ?_
  refine lv_aload_n hx hb dL_law_657 rfl (lv_at hl 0 rfl) ?_
  refine lv_iload_n hx hb dL_law_658 rfl (lv_at hl 3 rfl) ?_
  refine lv_iconst (v := 4) hx hb dL_law_659 (by decide) ?_
  refine lv_iadd hx hb dL_law_660 ?_
  refine va_sld hx hb hX hbl hbA h.2.2 (lw_in (k := 4) 4 rfl hi hL (by omega)) dL_law_661 ?_
  refine gn_callV (n := 4) (bytes := cX5_partner) (maxL := 8) (ret := some .int) (Cn := RX5) (T := TX5) (N := 6) ([(a 4, gk_I G 6 Wt), (a 5, .inr (3, [.ref (a 6)])), (a 6, gk_I G 36 T), (a 7, .inr (0, [.int kN5, .ref (a 8), .ref (a 9), .ref (a 10), .ref (a 11)])), (a 8, gk_J G 6 kM5), (a 9, gk_I G 6 kK5), (a 10, gk_I G 6 kW5), (a 11, .inr (3, [.ref (a 12)])), (a 12, gk_I G 36 kT5), (a 13, .inr (3, [.ref (a 14)])), (a 14, gk_I G 36 R), (a 15, .inr (2, [.int sn, .ref (a 16), .ref (a 17)])), (a 16, gk_J G 64 sB), (a 17, gk_I G 64 sT), (a 18, gk_R G 4 (gk_four (a 19) (a 21) (a 23) (a 25))), (a 19, .inr (1, [.int (S 0), .int (Z 0), .ref (a 20)])), (a 20, gk_J G 80 (V 0)), (a 21, .inr (1, [.int (S 1), .int (Z 1), .ref (a 22)])), (a 22, gk_J G 80 (V 1)), (a 23, .inr (1, [.int (S 2), .int (Z 2), .ref (a 24)])), (a 24, gk_J G 80 (V 2)), (a 25, .inr (1, [.int (S 3), .int (Z 3), .ref (a 26)])), (a 26, gk_J G 80 (V 3))] ++ lw_w6 G d (nI n) M K Wt T kN6 kM6 kK6 kW6 kT6 S Z It fa qu sq be pt6 sd wa fu ro ju na mo) (lw_w5 G a (nI n) M K Wt T ik kN5 kM5 kK5 kW5 kT5 R sn sB sT S Z V ++ lw_w6 G d (nI n) M K Wt T kN6 kM6 kK6 kW6 kT6 S Z It fa qu sq be pt6 sd wa fu ro ju na mo) [] C h (c_X5_partner l G (a 0) (a 1) (a 2) (a 3) (a 4) (a 5) (a 7) (a 13) (a 15) (a 18) ik (nI n) M K (xs (nI i + 1).toNatClampNeg) (xs (nI i + 2).toNatClampNeg) (xs (nI i + 3).toNatClampNeg) (xs (nI i + 4).toNatClampNeg) h5) gL_law_X5_partner dL_law_662 hl.1 ⟨Nat.le_of_ble_eq_true rfl, Nat.le_of_ble_eq_true rfl⟩ [0, 1, 2, 3] [4, 5, 6, 7, 8, 9, 10, 11, 12, 13, 14, 15, 16, 17, 18, 19, 20, 21, 22, 23, 24, 25, 26, 27, 28, 29, 30, 31, 32, 33, 34, 35, 36, 37, 38, 39, 40, 41, 42, 43, 44, 45, 46, 47, 48] [45, 46, 47, 48, 0, 1, 2, 3, 4, 5, 6, 7, 8, 9, 10, 11, 12, 13, 14, 15, 16, 17, 18, 19, 20, 21, 22, 23, 24, 25, 26, 27, 28, 29, 30, 31, 32, 33, 34, 35, 36, 37, 38, 39, 40, 41, 42, 43, 44] rfl rfl ⟨rfl, rfl⟩ ⟨Nat.le_of_ble_eq_true rfl, Nat.le_of_ble_eq_true rfl⟩ ⟨rfl, by decide +kernel, by decide +kernel, by decide +kernel⟩ rfl (fun h => by cases h) (Nat.le_of_ble_eq_true rfl) (by decide +kernel) rfl rfl (by decide +kernel) (by decide +kernel) (by decide +kernel) rfl (fun H locs h => ?_)
  refine lv_aload_n hx hb dL_law_665 rfl (lv_at hl 2 rfl) ?_
  refine lv_aload_n hx hb dL_law_666 rfl (lv_at hl 0 rfl) ?_
  refine lv_iload_n hx hb dL_law_667 rfl (lv_at hl 3 rfl) ?_
  refine lv_iconst (v := 1) hx hb dL_law_668 (by decide) ?_
  refine lv_iadd hx hb dL_law_669 ?_
  refine va_sld hx hb hX hbl hbA h.2.2 (lw_in (k := 1) 1 rfl hi hL (by omega)) dL_law_670 ?_
  refine lv_aload_n hx hb dL_law_671 rfl (lv_at hl 0 rfl) ?_
  refine lv_iload_n hx hb dL_law_672 rfl (lv_at hl 3 rfl) ?_
  refine lv_iconst (v := 2) hx hb dL_law_673 (by decide) ?_
  refine lv_iadd hx hb dL_law_674 ?_
  refine va_sld hx hb hX hbl hbA h.2.2 (lw_in (k := 2) 2 rfl hi hL (by omega)) dL_law_675 ?_
  refine lv_aload_n hx hb dL_law_676 rfl (lv_at hl 0 rfl) ?_
  refine lv_iload_n hx hb dL_law_677 rfl (lv_at hl 3 rfl) ?_
  refine lv_iconst (v := 3) hx hb dL_law_678 (by decide) ?_
  refine lv_iadd hx hb dL_law_679 ?_
  refine va_sld hx hb hX hbl hbA h.2.2 (lw_in (k := 3) 3 rfl hi hL (by omega)) dL_law_680 ?_
  refine lv_aload_n hx hb dL_law_681 rfl (lv_at hl 0 rfl) ?_
  refine lv_iload_n hx hb dL_law_682 rfl (lv_at hl 3 rfl) ?_
  refine lv_iconst (v := 4) hx hb dL_law_683 (by decide) ?_
  refine lv_iadd hx hb dL_law_684 ?_
  refine va_sld hx hb hX hbl hbA h.2.2 (lw_in (k := 4) 4 rfl hi hL (by omega)) dL_law_685 ?_
  refine gn_callV (n := 4) (bytes := cX6_partner) (maxL := 5) (ret := some .int) (Cn := RX6) (T := TX6) (N := 25) (lw_w5 G a (nI n) M K Wt T ik kN5 kM5 kK5 kW5 kT5 R sn sB sT S Z V ++ [(d 3, gk_I G 6 Wt), (d 4, gk_I G 36 T), (d 5, gk_J G 6 kM6), (d 6, gk_I G 6 kK6), (d 7, gk_I G 6 kW6), (d 8, gk_I G 36 kT6), (d 9, gk_I G 4 S), (d 10, gk_I G 4 Z), (d 11, gk_J G 320 It), (d 12, gk_I G 64 fa), (d 13, gk_I G 64 qu), (d 14, gk_I G 36 sq), (d 15, gk_I G 36 be), (d 16, gk_I G 6 pt6), (d 17, gk_I G 36 wa), (d 18, gk_I G 36 fu), (d 19, gk_Z G 729 ju), (d 20, gk_I G 6 na), (d 21, gk_J G 80 mo)]) (lw_w5 G a (nI n) M K Wt T ik kN5 kM5 kK5 kW5 kT5 R sn sB sT S Z V ++ lw_w6 G d (nI n) M K Wt T kN6 kM6 kK6 kW6 kT6 S Z It fa qu sq be pt6 sd wa fu ro ju na mo) [.int r] C h (c_X6_partner l G (d 0) (d 1) (d 2) (d 3) (d 4) (d 5) (d 6) (d 7) (d 8) (d 9) (d 10) (d 11) (d 12) (d 13) (d 14) (d 15) (d 16) (d 17) (d 18) (d 19) (d 20) (d 21) (nI n) kN6 sd ro M K (xs (nI i + 1).toNatClampNeg) (xs (nI i + 2).toNatClampNeg) (xs (nI i + 3).toNatClampNeg) (xs (nI i + 4).toNatClampNeg) h6) gL_law_X6_partner dL_law_686 hl.1 ⟨Nat.le_of_ble_eq_true rfl, Nat.le_of_ble_eq_true rfl⟩ [27, 28, 29] [0, 1, 2, 3, 4, 5, 6, 7, 8, 9, 10, 11, 12, 13, 14, 15, 16, 17, 18, 19, 20, 21, 22, 23, 24, 25, 26, 30, 31, 32, 33, 34, 35, 36, 37, 38, 39, 40, 41, 42, 43, 44, 45, 46, 47, 48] [0, 1, 2, 3, 4, 5, 6, 7, 8, 9, 10, 11, 12, 13, 14, 15, 16, 17, 18, 19, 20, 21, 22, 23, 24, 25, 26, 46, 47, 48, 27, 28, 29, 30, 31, 32, 33, 34, 35, 36, 37, 38, 39, 40, 41, 42, 43, 44, 45] rfl rfl ⟨rfl, rfl⟩ ⟨Nat.le_of_ble_eq_true rfl, Nat.le_of_ble_eq_true rfl⟩ ⟨rfl, by decide +kernel, by decide +kernel, by decide +kernel⟩ rfl (fun h => by cases h) (Nat.le_of_ble_eq_true rfl) (by decide +kernel) rfl rfl (by decide +kernel) (by decide +kernel) (by decide +kernel) rfl (fun H locs h => ?_)
  refine W.eq (g2 := F0 m 689 ls [.int r, .int r]) rfl ?_
  refine lv_icmp_eq (tgt := 1461) hx hb dL_law_689 (by decide) (fun _ => ?_) (fun c9 => absurd rfl c9)
  exact kk H locs ls ⟨n, M, K, Wt, T, ik, kN5, kM5, kK5, kW5, kT5, R, sn, sB, sT, S, Z, V, kN6, kM6, kK6, kW6, kT6, It, fa, qu, sq, be, pt6, sd, wa, fu, ro, ju, na, mo, h0, hn, hV, hW, hT, hK, hR, hS3, h⟩ hl
set_option maxRecDepth 100000 in
set_option maxHeartbeats 8000000 in
theorem lw_c14 (C : gn_C p s m #[.ref b] c cL_law 4 RL wsL_law true true G A) (hX : va_X b L xs s s.heap) (hbl : b < s.heap.size) (hbA : ¬ A b) (hL : L ≤ 3072) (hi : i + 6 ≤ L) (kk : ∀ (H : Heap) (locs : List Loc) (ls : Array Slot), lw_I G A s a d H locs → lv_has ls 4 [(0, .ref b), (1, .ref (a 0)), (2, .ref (d 0)), (3, .int (nI i))] → W p l e room_1 s m #[.ref b] below meth c H locs 600000 7302250 Q (F0 m 1461 ls [])) {H : Heap} {locs : List Loc} {ls : Array Slot} (h : lw_I G A s a d H locs) (hl : lv_has ls 4 [(0, .ref b), (1, .ref (a 0)), (2, .ref (d 0)), (3, .int (nI i))]) : W p l e room_1 s m #[.ref b] below meth c H locs 600000 7302250 Q (F0 m 694 ls []) := by
  obtain ⟨hx, hb, hml, hown, hts, hKK, hSt, hO, hA⟩ := id C
  obtain ⟨n, M, K, Wt, T, ik, kN5, kM5, kK5, kW5, kT5, R, sn, sB, sT, S, Z, V, kN6, kM6, kK6, kW6, kT6, It, fa, qu, sq, be, pt6, sd, wa, fu, ro, ju, na, mo, h0, hn, hV, hW, hT, hK, hR, hS3, h⟩ := h
  obtain ⟨r, h5, h6⟩ := o_near (n := n) (K := K) (M := M) hn hV (xs (nI i + 1).toNatClampNeg) (xs (nI i + 2).toNatClampNeg)
  refine lv_aload_n hx hb dL_law_694 rfl (lv_at hl 1 rfl) ?_
  refine lv_aload_n hx hb dL_law_695 rfl (lv_at hl 0 rfl) ?_
  refine lv_iload_n hx hb dL_law_696 rfl (lv_at hl 3 rfl) ?_
  refine lv_iconst (v := 1) hx hb dL_law_697 (by decide) ?_
  refine lv_iadd hx hb dL_law_698 ?_
  refine va_sld hx hb hX hbl hbA h.2.2 (lw_in (k := 1) 1 rfl hi hL (by omega)) dL_law_699 ?_
  refine lv_aload_n hx hb dL_law_700 rfl (lv_at hl 0 rfl) ?_
  refine lv_iload_n hx hb dL_law_701 rfl (lv_at hl 3 rfl) ?_
  refine lv_iconst (v := 2) hx hb dL_law_702 (by decide) ?_
  refine lv_iadd hx hb dL_law_703 ?_
  refine va_sld hx hb hX hbl hbA h.2.2 (lw_in (k := 2) 2 rfl hi hL (by omega)) dL_law_704 ?_
  refine gn_callV (n := 2) (bytes := cX5_near) (maxL := 3) (ret := some .int) (Cn := RX5) (T := TX5) (N := 6) ([(a 4, gk_I G 6 Wt), (a 5, .inr (3, [.ref (a 6)])), (a 6, gk_I G 36 T), (a 7, .inr (0, [.int kN5, .ref (a 8), .ref (a 9), .ref (a 10), .ref (a 11)])), (a 8, gk_J G 6 kM5), (a 9, gk_I G 6 kK5), (a 10, gk_I G 6 kW5), (a 11, .inr (3, [.ref (a 12)])), (a 12, gk_I G 36 kT5), (a 13, .inr (3, [.ref (a 14)])), (a 14, gk_I G 36 R), (a 15, .inr (2, [.int sn, .ref (a 16), .ref (a 17)])), (a 16, gk_J G 64 sB), (a 17, gk_I G 64 sT), (a 18, gk_R G 4 (gk_four (a 19) (a 21) (a 23) (a 25))), (a 19, .inr (1, [.int (S 0), .int (Z 0), .ref (a 20)])), (a 20, gk_J G 80 (V 0)), (a 21, .inr (1, [.int (S 1), .int (Z 1), .ref (a 22)])), (a 22, gk_J G 80 (V 1)), (a 23, .inr (1, [.int (S 2), .int (Z 2), .ref (a 24)])), (a 24, gk_J G 80 (V 2)), (a 25, .inr (1, [.int (S 3), .int (Z 3), .ref (a 26)])), (a 26, gk_J G 80 (V 3))] ++ lw_w6 G d (nI n) M K Wt T kN6 kM6 kK6 kW6 kT6 S Z It fa qu sq be pt6 sd wa fu ro ju na mo) (lw_w5 G a (nI n) M K Wt T ik kN5 kM5 kK5 kW5 kT5 R sn sB sT S Z V ++ lw_w6 G d (nI n) M K Wt T kN6 kM6 kK6 kW6 kT6 S Z It fa qu sq be pt6 sd wa fu ro ju na mo) [] C h (c_X5_near l G (a 0) (a 1) (a 2) (a 3) (a 4) (a 5) (a 7) (a 13) (a 15) (a 18) ik (nI n) M K (xs (nI i + 1).toNatClampNeg) (xs (nI i + 2).toNatClampNeg) h5) gL_law_X5_near dL_law_705 hl.1 ⟨Nat.le_of_ble_eq_true rfl, Nat.le_of_ble_eq_true rfl⟩ [0, 1, 2, 3] [4, 5, 6, 7, 8, 9, 10, 11, 12, 13, 14, 15, 16, 17, 18, 19, 20, 21, 22, 23, 24, 25, 26, 27, 28, 29, 30, 31, 32, 33, 34, 35, 36, 37, 38, 39, 40, 41, 42, 43, 44, 45, 46, 47, 48] [45, 46, 47, 48, 0, 1, 2, 3, 4, 5, 6, 7, 8, 9, 10, 11, 12, 13, 14, 15, 16, 17, 18, 19, 20, 21, 22, 23, 24, 25, 26, 27, 28, 29, 30, 31, 32, 33, 34, 35, 36, 37, 38, 39, 40, 41, 42, 43, 44] rfl rfl ⟨rfl, rfl⟩ ⟨Nat.le_of_ble_eq_true rfl, Nat.le_of_ble_eq_true rfl⟩ ⟨rfl, by decide +kernel, by decide +kernel, by decide +kernel⟩ rfl (fun h => h) (Nat.le_of_ble_eq_true rfl) (by decide +kernel) rfl rfl (by decide +kernel) (by decide +kernel) (by decide +kernel) rfl (fun H locs h => ?_)
  refine lv_aload_n hx hb dL_law_708 rfl (lv_at hl 2 rfl) ?_
  refine lv_aload_n hx hb dL_law_709 rfl (lv_at hl 0 rfl) ?_
  refine lv_iload_n hx hb dL_law_710 rfl (lv_at hl 3 rfl) ?_
  refine lv_iconst (v := 1) hx hb dL_law_711 (by decide) ?_
  refine lv_iadd hx hb dL_law_712 ?_
  refine va_sld hx hb hX hbl hbA h.2.2 (lw_in (k := 1) 1 rfl hi hL (by omega)) dL_law_713 ?_
  refine lv_aload_n hx hb dL_law_714 rfl (lv_at hl 0 rfl) ?_
  refine lv_iload_n hx hb dL_law_715 rfl (lv_at hl 3 rfl) ?_
  refine lv_iconst (v := 2) hx hb dL_law_716 (by decide) ?_
  refine lv_iadd hx hb dL_law_717 ?_
  refine va_sld hx hb hX hbl hbA h.2.2 (lw_in (k := 2) 2 rfl hi hL (by omega)) dL_law_718 ?_
  refine gn_callV (n := 2) (bytes := cX6_near) (maxL := 5) (ret := some .int) (Cn := RX6) (T := TX6) (N := 25) (lw_w5 G a (nI n) M K Wt T ik kN5 kM5 kK5 kW5 kT5 R sn sB sT S Z V ++ [(d 3, gk_I G 6 Wt), (d 4, gk_I G 36 T), (d 5, gk_J G 6 kM6), (d 6, gk_I G 6 kK6), (d 7, gk_I G 6 kW6), (d 8, gk_I G 36 kT6), (d 9, gk_I G 4 S), (d 10, gk_I G 4 Z), (d 11, gk_J G 320 It), (d 12, gk_I G 64 fa), (d 13, gk_I G 64 qu), (d 14, gk_I G 36 sq), (d 15, gk_I G 36 be), (d 16, gk_I G 6 pt6), (d 17, gk_I G 36 wa), (d 18, gk_I G 36 fu), (d 19, gk_Z G 729 ju), (d 20, gk_I G 6 na), (d 21, gk_J G 80 mo)]) (lw_w5 G a (nI n) M K Wt T ik kN5 kM5 kK5 kW5 kT5 R sn sB sT S Z V ++ lw_w6 G d (nI n) M K Wt T kN6 kM6 kK6 kW6 kT6 S Z It fa qu sq be pt6 sd wa fu ro ju na mo) [.int r] C h (c_X6_near l G (d 0) (d 1) (d 2) (d 3) (d 4) (d 5) (d 6) (d 7) (d 8) (d 9) (d 10) (d 11) (d 12) (d 13) (d 14) (d 15) (d 16) (d 17) (d 18) (d 19) (d 20) (d 21) (nI n) kN6 sd ro M K (xs (nI i + 1).toNatClampNeg) (xs (nI i + 2).toNatClampNeg) h6) gL_law_X6_near dL_law_719 hl.1 ⟨Nat.le_of_ble_eq_true rfl, Nat.le_of_ble_eq_true rfl⟩ [27, 28, 29] [0, 1, 2, 3, 4, 5, 6, 7, 8, 9, 10, 11, 12, 13, 14, 15, 16, 17, 18, 19, 20, 21, 22, 23, 24, 25, 26, 30, 31, 32, 33, 34, 35, 36, 37, 38, 39, 40, 41, 42, 43, 44, 45, 46, 47, 48] [0, 1, 2, 3, 4, 5, 6, 7, 8, 9, 10, 11, 12, 13, 14, 15, 16, 17, 18, 19, 20, 21, 22, 23, 24, 25, 26, 46, 47, 48, 27, 28, 29, 30, 31, 32, 33, 34, 35, 36, 37, 38, 39, 40, 41, 42, 43, 44, 45] rfl rfl ⟨rfl, rfl⟩ ⟨Nat.le_of_ble_eq_true rfl, Nat.le_of_ble_eq_true rfl⟩ ⟨rfl, by decide +kernel, by decide +kernel, by decide +kernel⟩ rfl (fun h => by cases h) (Nat.le_of_ble_eq_true rfl) (by decide +kernel) rfl rfl (by decide +kernel) (by decide +kernel) (by decide +kernel) rfl (fun H locs h => ?_)
  refine W.eq (g2 := F0 m 722 ls [.int r, .int r]) rfl ?_
  refine lv_icmp_eq (tgt := 1461) hx hb dL_law_722 (by decide) (fun _ => ?_) (fun c9 => absurd rfl c9)
  exact kk H locs ls ⟨n, M, K, Wt, T, ik, kN5, kM5, kK5, kW5, kT5, R, sn, sB, sT, S, Z, V, kN6, kM6, kK6, kW6, kT6, It, fa, qu, sq, be, pt6, sd, wa, fu, ro, ju, na, mo, h0, hn, hV, hW, hT, hK, hR, hS3, h⟩ hl
set_option maxRecDepth 100000 in
set_option maxHeartbeats 8000000 in
theorem lw_c15 (C : gn_C p s m #[.ref b] c cL_law 4 RL wsL_law true true G A) (hX : va_X b L xs s s.heap) (hbl : b < s.heap.size) (hbA : ¬ A b) (hL : L ≤ 3072) (hi : i + 6 ≤ L) (kk : ∀ (H : Heap) (locs : List Loc) (ls : Array Slot), lw_I G A s a d H locs → lv_has ls 4 [(0, .ref b), (1, .ref (a 0)), (2, .ref (d 0)), (3, .int (nI i))] → W p l e room_1 s m #[.ref b] below meth c H locs 600000 7302250 Q (F0 m 1461 ls [])) {H : Heap} {locs : List Loc} {ls : Array Slot} (h : lw_I G A s a d H locs) (hl : lv_has ls 4 [(0, .ref b), (1, .ref (a 0)), (2, .ref (d 0)), (3, .int (nI i))]) : W p l e room_1 s m #[.ref b] below meth c H locs 600000 7302250 Q (F0 m 727 ls []) := by
  obtain ⟨hx, hb, hml, hown, hts, hKK, hSt, hO, hA⟩ := id C
  obtain ⟨n, M, K, Wt, T, ik, kN5, kM5, kK5, kW5, kT5, R, sn, sB, sT, S, Z, V, kN6, kM6, kK6, kW6, kT6, It, fa, qu, sq, be, pt6, sd, wa, fu, ro, ju, na, mo, h0, hn, hV, hW, hT, hK, hR, hS3, h⟩ := h
  obtain ⟨r, oF, oU, h5, h6⟩ := o_apart (n := n) (F := fa) (K := K) (M := M) (U := qu) hn hV (xs (nI i + 1).toNatClampNeg) (xs (nI i + 2).toNatClampNeg) (xs (nI i + 3).toNatClampNeg)
  refine lv_aload_n hx hb dL_law_727 rfl (lv_at hl 1 rfl) ?_
  refine lv_aload_n hx hb dL_law_728 rfl (lv_at hl 0 rfl) ?_
  refine lv_iload_n hx hb dL_law_729 rfl (lv_at hl 3 rfl) ?_
  refine lv_iconst (v := 1) hx hb dL_law_730 (by decide) ?_
  refine lv_iadd hx hb dL_law_731 ?_
  refine va_sld hx hb hX hbl hbA h.2.2 (lw_in (k := 1) 1 rfl hi hL (by omega)) dL_law_732 ?_
  refine lv_aload_n hx hb dL_law_733 rfl (lv_at hl 0 rfl) ?_
  refine lv_iload_n hx hb dL_law_734 rfl (lv_at hl 3 rfl) ?_
  refine lv_iconst (v := 2) hx hb dL_law_735 (by decide) ?_
  refine lv_iadd hx hb dL_law_736 ?_
  refine va_sld hx hb hX hbl hbA h.2.2 (lw_in (k := 2) 2 rfl hi hL (by omega)) dL_law_737 ?_
  refine lv_aload_n hx hb dL_law_738 rfl (lv_at hl 0 rfl) ?_
  refine lv_iload_n hx hb dL_law_739 rfl (lv_at hl 3 rfl) ?_
  refine lv_iconst (v := 3) hx hb dL_law_740 (by decide) ?_
  refine lv_iadd hx hb dL_law_741 ?_
  refine va_sld hx hb hX hbl hbA h.2.2 (lw_in (k := 3) 3 rfl hi hL (by omega)) dL_law_742 ?_
  refine gn_callV (n := 3) (bytes := cX5_apart) (maxL := 6) (ret := some .int) (Cn := RX5) (T := TX5) (N := 6) ([(a 4, gk_I G 6 Wt), (a 5, .inr (3, [.ref (a 6)])), (a 6, gk_I G 36 T), (a 7, .inr (0, [.int kN5, .ref (a 8), .ref (a 9), .ref (a 10), .ref (a 11)])), (a 8, gk_J G 6 kM5), (a 9, gk_I G 6 kK5), (a 10, gk_I G 6 kW5), (a 11, .inr (3, [.ref (a 12)])), (a 12, gk_I G 36 kT5), (a 13, .inr (3, [.ref (a 14)])), (a 14, gk_I G 36 R), (a 15, .inr (2, [.int sn, .ref (a 16), .ref (a 17)])), (a 16, gk_J G 64 sB), (a 17, gk_I G 64 sT), (a 18, gk_R G 4 (gk_four (a 19) (a 21) (a 23) (a 25))), (a 19, .inr (1, [.int (S 0), .int (Z 0), .ref (a 20)])), (a 20, gk_J G 80 (V 0)), (a 21, .inr (1, [.int (S 1), .int (Z 1), .ref (a 22)])), (a 22, gk_J G 80 (V 1)), (a 23, .inr (1, [.int (S 2), .int (Z 2), .ref (a 24)])), (a 24, gk_J G 80 (V 2)), (a 25, .inr (1, [.int (S 3), .int (Z 3), .ref (a 26)])), (a 26, gk_J G 80 (V 3))] ++ lw_w6 G d (nI n) M K Wt T kN6 kM6 kK6 kW6 kT6 S Z It fa qu sq be pt6 sd wa fu ro ju na mo) (lw_w5 G a (nI n) M K Wt T ik kN5 kM5 kK5 kW5 kT5 R sn sB sT S Z V ++ lw_w6 G d (nI n) M K Wt T kN6 kM6 kK6 kW6 kT6 S Z It fa qu sq be pt6 sd wa fu ro ju na mo) [] C h (c_X5_apart l G (a 0) (a 1) (a 2) (a 3) (a 4) (a 5) (a 7) (a 13) (a 15) (a 18) ik (nI n) M K (xs (nI i + 1).toNatClampNeg) (xs (nI i + 2).toNatClampNeg) (xs (nI i + 3).toNatClampNeg) h5) gL_law_X5_apart dL_law_743 hl.1 ⟨Nat.le_of_ble_eq_true rfl, Nat.le_of_ble_eq_true rfl⟩ [0, 1, 2, 3] [4, 5, 6, 7, 8, 9, 10, 11, 12, 13, 14, 15, 16, 17, 18, 19, 20, 21, 22, 23, 24, 25, 26, 27, 28, 29, 30, 31, 32, 33, 34, 35, 36, 37, 38, 39, 40, 41, 42, 43, 44, 45, 46, 47, 48] [45, 46, 47, 48, 0, 1, 2, 3, 4, 5, 6, 7, 8, 9, 10, 11, 12, 13, 14, 15, 16, 17, 18, 19, 20, 21, 22, 23, 24, 25, 26, 27, 28, 29, 30, 31, 32, 33, 34, 35, 36, 37, 38, 39, 40, 41, 42, 43, 44] rfl rfl ⟨rfl, rfl⟩ ⟨Nat.le_of_ble_eq_true rfl, Nat.le_of_ble_eq_true rfl⟩ ⟨rfl, by decide +kernel, by decide +kernel, by decide +kernel⟩ rfl (fun h => h) (Nat.le_of_ble_eq_true rfl) (by decide +kernel) rfl rfl (by decide +kernel) (by decide +kernel) (by decide +kernel) rfl (fun H locs h => ?_)
  refine lv_aload_n hx hb dL_law_746 rfl (lv_at hl 2 rfl) ?_
  refine lv_aload_n hx hb dL_law_747 rfl (lv_at hl 0 rfl) ?_
  refine lv_iload_n hx hb dL_law_748 rfl (lv_at hl 3 rfl) ?_
  refine lv_iconst (v := 1) hx hb dL_law_749 (by decide) ?_
  refine lv_iadd hx hb dL_law_750 ?_
  refine va_sld hx hb hX hbl hbA h.2.2 (lw_in (k := 1) 1 rfl hi hL (by omega)) dL_law_751 ?_
  refine lv_aload_n hx hb dL_law_752 rfl (lv_at hl 0 rfl) ?_
  refine lv_iload_n hx hb dL_law_753 rfl (lv_at hl 3 rfl) ?_
  refine lv_iconst (v := 2) hx hb dL_law_754 (by decide) ?_
  refine lv_iadd hx hb dL_law_755 ?_
  refine va_sld hx hb hX hbl hbA h.2.2 (lw_in (k := 2) 2 rfl hi hL (by omega)) dL_law_756 ?_
  refine lv_aload_n hx hb dL_law_757 rfl (lv_at hl 0 rfl) ?_
  refine lv_iload_n hx hb dL_law_758 rfl (lv_at hl 3 rfl) ?_
  refine lv_iconst (v := 3) hx hb dL_law_759 (by decide) ?_
  refine lv_iadd hx hb dL_law_760 ?_
  refine va_sld hx hb hX hbl hbA h.2.2 (lw_in (k := 3) 3 rfl hi hL (by omega)) dL_law_761 ?_
  refine gn_callV (n := 3) (bytes := cX6_apart) (maxL := 8) (ret := some .int) (Cn := RX6) (T := TX6) (N := 25) (lw_w5 G a (nI n) M K Wt T ik kN5 kM5 kK5 kW5 kT5 R sn sB sT S Z V ++ [(d 3, gk_I G 6 Wt), (d 4, gk_I G 36 T), (d 5, gk_J G 6 kM6), (d 6, gk_I G 6 kK6), (d 7, gk_I G 6 kW6), (d 8, gk_I G 36 kT6), (d 9, gk_I G 4 S), (d 10, gk_I G 4 Z), (d 11, gk_J G 320 It), (d 14, gk_I G 36 sq), (d 15, gk_I G 36 be), (d 16, gk_I G 6 pt6), (d 17, gk_I G 36 wa), (d 18, gk_I G 36 fu), (d 19, gk_Z G 729 ju), (d 20, gk_I G 6 na), (d 21, gk_J G 80 mo)]) (lw_w5 G a (nI n) M K Wt T ik kN5 kM5 kK5 kW5 kT5 R sn sB sT S Z V ++ lw_w6 G d (nI n) M K Wt T kN6 kM6 kK6 kW6 kT6 S Z It oF oU sq be pt6 sd wa fu ro ju na mo) [.int r] C h (c_X6_apart l G (d 0) (d 1) (d 2) (d 3) (d 4) (d 5) (d 6) (d 7) (d 8) (d 9) (d 10) (d 11) (d 12) (d 13) (d 14) (d 15) (d 16) (d 17) (d 18) (d 19) (d 20) (d 21) (nI n) kN6 sd ro M K fa qu (xs (nI i + 1).toNatClampNeg) (xs (nI i + 2).toNatClampNeg) (xs (nI i + 3).toNatClampNeg) h6) gL_law_X6_apart dL_law_762 hl.1 ⟨Nat.le_of_ble_eq_true rfl, Nat.le_of_ble_eq_true rfl⟩ [27, 28, 29, 39, 40] [0, 1, 2, 3, 4, 5, 6, 7, 8, 9, 10, 11, 12, 13, 14, 15, 16, 17, 18, 19, 20, 21, 22, 23, 24, 25, 26, 30, 31, 32, 33, 34, 35, 36, 37, 38, 41, 42, 43, 44, 45, 46, 47, 48] [0, 1, 2, 3, 4, 5, 6, 7, 8, 9, 10, 11, 12, 13, 14, 15, 16, 17, 18, 19, 20, 21, 22, 23, 24, 25, 26, 44, 45, 46, 27, 28, 29, 30, 31, 32, 33, 34, 35, 47, 48, 36, 37, 38, 39, 40, 41, 42, 43] rfl rfl ⟨rfl, rfl⟩ ⟨Nat.le_of_ble_eq_true rfl, Nat.le_of_ble_eq_true rfl⟩ ⟨rfl, by decide +kernel, by decide +kernel, by decide +kernel⟩ rfl (fun h => by cases h) (Nat.le_of_ble_eq_true rfl) (by decide +kernel) rfl rfl (by decide +kernel) (by decide +kernel) (by decide +kernel) rfl (fun H locs h => ?_)
  refine W.eq (g2 := F0 m 765 ls [.int r, .int r]) rfl ?_
  refine lv_icmp_eq (tgt := 1461) hx hb dL_law_765 (by decide) (fun _ => ?_) (fun c9 => absurd rfl c9)
  exact kk H locs ls ⟨n, M, K, Wt, T, ik, kN5, kM5, kK5, kW5, kT5, R, sn, sB, sT, S, Z, V, kN6, kM6, kK6, kW6, kT6, It, oF, oU, sq, be, pt6, sd, wa, fu, ro, ju, na, mo, h0, hn, hV, hW, hT, hK, hR, hS3, h⟩ hl
end
