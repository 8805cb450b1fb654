section
variable {p : Program} {l : Launch} {e : Env} {s : State} {m : MethodId} {below : List Frame} {meth : Method} {c : Code} {Q : State → Prop} {G : gk_G} {A : Nat → Prop} {a d : Nat → Nat} {b L i : Nat} {xs : Nat → Int32}
set_option maxRecDepth 100000 in
set_option maxHeartbeats 8000000 in
theorem lw_c28 (C : gn_C p s m #[.ref b] c cL_law 4 RL wsL_law true true G A) (hX : va_X b L xs s s.heap) (hbl : b < s.heap.size) (hbA : ¬ A b) (hL : L ≤ 3072) (hi : i + 6 ≤ L) (kk : ∀ (H : Heap) (locs : List Loc) (ls : Array Slot), lw_I G A s a d H locs → lv_has ls 4 [(0, .ref b), (1, .ref (a 0)), (2, .ref (d 0)), (3, .int (nI i))] → W p l e room_1 s m #[.ref b] below meth c H locs 600000 7302250 Q (F0 m 1461 ls [])) {H : Heap} {locs : List Loc} {ls : Array Slot} (h : lw_I G A s a d H locs) (hl : lv_has ls 4 [(0, .ref b), (1, .ref (a 0)), (2, .ref (d 0)), (3, .int (nI i))]) : W p l e room_1 s m #[.ref b] below meth c H locs 600000 7302250 Q (F0 m 1166 ls []) := by
  obtain ⟨hx, hb, hml, hown, hts, hKK, hSt, hO, hA⟩ := id C
  obtain ⟨n, M, K, Wt, T, ik, kN5, kM5, kK5, kW5, kT5, R, sn, sB, sT, S, Z, V, kN6, kM6, kK6, kW6, kT6, It, fa, qu, sq, be, pt6, sd, wa, fu, ro, ju, na, mo, h0, hn, hV, hW, hT, hK, hR, hS3, h⟩ := h
  obtain ⟨r, oI, oV, h5, h6, ghR⟩ := o_put (I := It) (S := S) (V := V) (Z := Z) hR (xs (nI i + 1).toNatClampNeg) (xs (nI i + 2).toNatClampNeg) ((xs (nI i + 3).toNatClampNeg).toInt64 <<< ((32 : Int32).toInt64 &&& 63) ||| ((xs (nI i + 4).toNatClampNeg).toInt64 &&& 4294967295))
  refine lv_aload_n hx hb dL_law_1166 rfl (lv_at hl 1 rfl) ?_
  refine lv_aload_n hx hb dL_law_1167 rfl (lv_at hl 0 rfl) ?_
  refine lv_iload_n hx hb dL_law_1168 rfl (lv_at hl 3 rfl) ?_
  refine lv_iconst (v := 1) hx hb dL_law_1169 (by decide) ?_
  refine lv_iadd hx hb dL_law_1170 ?_
  refine va_sld hx hb hX hbl hbA h.2.2 (lw_in (k := 1) 1 rfl hi hL (by omega)) dL_law_1171 ?_
  refine lv_aload_n hx hb dL_law_1172 rfl (lv_at hl 0 rfl) ?_
  refine lv_iload_n hx hb dL_law_1173 rfl (lv_at hl 3 rfl) ?_
  refine lv_iconst (v := 2) hx hb dL_law_1174 (by decide) ?_
  refine lv_iadd hx hb dL_law_1175 ?_
  refine va_sld hx hb hX hbl hbA h.2.2 (lw_in (k := 2) 2 rfl hi hL (by omega)) dL_law_1176 ?_
  refine lv_aload_n hx hb dL_law_1177 rfl (lv_at hl 0 rfl) ?_
  refine lv_iload_n hx hb dL_law_1178 rfl (lv_at hl 3 rfl) ?_
  refine lv_iconst (v := 3) hx hb dL_law_1179 (by decide) ?_
  refine lv_iadd hx hb dL_law_1180 ?_
  refine va_sld hx hb hX hbl hbA h.2.2 (lw_in (k := 3) 3 rfl hi hL (by omega)) dL_law_1181 ?_
  refine lv_i2l hx hb dL_law_1182 rfl ?_
  refine lv_bipush (v := 32) hx hb dL_law_1183 (by decide) ?_
  refine lv_lshl hx hb dL_law_1185 rfl ?_
  refine lv_aload_n hx hb dL_law_1186 rfl (lv_at hl 0 rfl) ?_
  refine lv_iload_n hx hb dL_law_1187 rfl (lv_at hl 3 rfl) ?_
  refine lv_iconst (v := 4) hx hb dL_law_1188 (by decide) ?_
  refine lv_iadd hx hb dL_law_1189 ?_
  refine va_sld hx hb hX hbl hbA h.2.2 (lw_in (k := 4) 4 rfl hi hL (by omega)) dL_law_1190 ?_
  refine lv_i2l hx hb dL_law_1191 rfl ?_
  refine lv_ldc2 (v := 4294967295) hx hb hown (hts _ (lw_k129 _ List.mem_cons_self)) dL_law_1192 ?_
  refine lv_land hx hb dL_law_1195 ?_
  refine lv_lor hx hb dL_law_1196 ?_
  refine gn_callV (n := 3) (bytes := cX5_put) (maxL := 5) (ret := some .int) (Cn := RX5) (T := TX5) (N := 6) ([(a 1, .inr (0, [.int (nI n), .ref (a 2), .ref (a 3), .ref (a 4), .ref (a 5)])), (a 2, gk_J G 6 M), (a 3, gk_I G 6 K), (a 4, gk_I G 6 Wt), (a 5, .inr (3, [.ref (a 6)])), (a 6, gk_I G 36 T), (a 7, .inr (0, [.int kN5, .ref (a 8), .ref (a 9), .ref (a 10), .ref (a 11)])), (a 8, gk_J G 6 kM5), (a 9, gk_I G 6 kK5), (a 10, gk_I G 6 kW5), (a 11, .inr (3, [.ref (a 12)])), (a 12, gk_I G 36 kT5), (a 13, .inr (3, [.ref (a 14)])), (a 14, gk_I G 36 R), (a 15, .inr (2, [.int sn, .ref (a 16), .ref (a 17)])), (a 16, gk_J G 64 sB), (a 17, gk_I G 64 sT)] ++ lw_w6 G d (nI n) M K Wt T kN6 kM6 kK6 kW6 kT6 S Z It fa qu sq be pt6 sd wa fu ro ju na mo) (lw_w5 G a (nI n) M K Wt T ik kN5 kM5 kK5 kW5 kT5 R sn sB sT S Z oV ++ lw_w6 G d (nI n) M K Wt T kN6 kM6 kK6 kW6 kT6 S Z It fa qu sq be pt6 sd wa fu ro ju na mo) [] C h (c_X5_put l G (a 0) (a 1) (a 7) (a 13) (a 15) (a 18) (a 19) (a 20) (a 21) (a 22) (a 23) (a 24) (a 25) (a 26) ik (S 0) (Z 0) (V 0) (S 1) (Z 1) (V 1) (S 2) (Z 2) (V 2) (S 3) (Z 3) (V 3) (xs (nI i + 1).toNatClampNeg) (xs (nI i + 2).toNatClampNeg) ((xs (nI i + 3).toNatClampNeg).toInt64 <<< ((32 : Int32).toInt64 &&& 63) ||| ((xs (nI i + 4).toNatClampNeg).toInt64 &&& 4294967295)) h5) gL_law_X5_put dL_law_1197 hl.1 ⟨Nat.le_of_ble_eq_true rfl, Nat.le_of_ble_eq_true rfl⟩ [0, 18, 19, 20, 21, 22, 23, 24, 25, 26] [1, 2, 3, 4, 5, 6, 7, 8, 9, 10, 11, 12, 13, 14, 15, 16, 17, 27, 28, 29, 30, 31, 32, 33, 34, 35, 36, 37, 38, 39, 40, 41, 42, 43, 44, 45, 46, 47, 48] [39, 0, 1, 2, 3, 4, 5, 6, 7, 8, 9, 10, 11, 12, 13, 14, 15, 16, 40, 41, 42, 43, 44, 45, 46, 47, 48, 17, 18, 19, 20, 21, 22, 23, 24, 25, 26, 27, 28, 29, 30, 31, 32, 33, 34, 35, 36, 37, 38] rfl rfl ⟨rfl, rfl⟩ ⟨Nat.le_of_ble_eq_true rfl, Nat.le_of_ble_eq_true rfl⟩ ⟨rfl, by decide +kernel, by decide +kernel, by decide +kernel⟩ rfl (fun h => by cases h) (Nat.le_of_ble_eq_true rfl) (by decide +kernel) rfl rfl (by decide +kernel) (by decide +kernel) (by decide +kernel) rfl (fun H locs h => ?_)
  refine lv_aload_n hx hb dL_law_1200 rfl (lv_at hl 2 rfl) ?_
  refine lv_aload_n hx hb dL_law_1201 rfl (lv_at hl 0 rfl) ?_
  refine lv_iload_n hx hb dL_law_1202 rfl (lv_at hl 3 rfl) ?_
  refine lv_iconst (v := 1) hx hb dL_law_1203 (by decide) ?_
  refine lv_iadd hx hb dL_law_1204 ?_
  refine va_sld hx hb hX hbl hbA h.2.2 (lw_in (k := 1) 1 rfl hi hL (by omega)) dL_law_1205 ?_
  refine lv_aload_n hx hb dL_law_1206 rfl (lv_at hl 0 rfl) ?_
  refine lv_iload_n hx hb dL_law_1207 rfl (lv_at hl 3 rfl) ?_
  refine lv_iconst (v := 2) hx hb dL_law_1208 (by decide) ?_
  refine lv_iadd hx hb dL_law_1209 ?_
  refine va_sld hx hb hX hbl hbA h.2.2 (lw_in (k := 2) 2 rfl hi hL (by omega)) dL_law_1210 ?_
  refine lv_aload_n hx hb dL_law_1211 rfl (lv_at hl 0 rfl) ?_
  refine lv_iload_n hx hb dL_law_1212 rfl (lv_at hl 3 rfl) ?_
  refine lv_iconst (v := 3) hx hb dL_law_1213 (by decide) ?_
  refine lv_iadd hx hb dL_law_1214 ?_
  refine va_sld hx hb hX hbl hbA h.2.2 (lw_in (k := 3) 3 rfl hi hL (by omega)) dL_law_1215 ?_
  refine lv_i2l hx hb dL_law_1216 rfl ?_
  refine lv_bipush (v := 32) hx hb dL_law_1217 (by decide) ?_
  refine lv_lshl hx hb dL_law_1219 rfl ?_
  refine lv_aload_n hx hb dL_law_1220 rfl (lv_at hl 0 rfl) ?_
  refine lv_iload_n hx hb dL_law_1221 rfl (lv_at hl 3 rfl) ?_
  refine lv_iconst (v := 4) hx hb dL_law_1222 (by decide) ?_
  refine lv_iadd hx hb dL_law_1223 ?_
  refine va_sld hx hb hX hbl hbA h.2.2 (lw_in (k := 4) 4 rfl hi hL (by omega)) dL_law_1224 ?_
  refine lv_i2l hx hb dL_law_1225 rfl ?_
  refine lv_ldc2 (v := 4294967295) hx hb hown (hts _ (lw_k129 _ List.mem_cons_self)) dL_law_1226 ?_
  refine lv_land hx hb dL_law_1229 ?_
  refine lv_lor hx hb dL_law_1230 ?_
  refine gn_callV (n := 3) (bytes := cX6_put) (maxL := 5) (ret := some .int) (Cn := RX6) (T := TX6) (N := 25) (lw_w5 G a (nI n) M K Wt T ik kN5 kM5 kK5 kW5 kT5 R sn sB sT S Z oV ++ [(d 1, gk_J G 6 M), (d 2, gk_I G 6 K), (d 3, gk_I G 6 Wt), (d 4, gk_I G 36 T), (d 5, gk_J G 6 kM6), (d 6, gk_I G 6 kK6), (d 7, gk_I G 6 kW6), (d 8, gk_I G 36 kT6), (d 12, gk_I G 64 fa), (d 13, gk_I G 64 qu), (d 14, gk_I G 36 sq), (d 15, gk_I G 36 be), (d 16, gk_I G 6 pt6), (d 17, gk_I G 36 wa), (d 18, gk_I G 36 fu), (d 19, gk_Z G 729 ju), (d 20, gk_I G 6 na), (d 21, gk_J G 80 mo)]) (lw_w5 G a (nI n) M K Wt T ik kN5 kM5 kK5 kW5 kT5 R sn sB sT S Z oV ++ lw_w6 G d (nI n) M K Wt T kN6 kM6 kK6 kW6 kT6 S Z oI fa qu sq be pt6 sd wa fu ro ju na mo) [.int r] C h (c_X6_put l G (d 0) (d 1) (d 2) (d 3) (d 4) (d 5) (d 6) (d 7) (d 8) (d 9) (d 10) (d 11) (d 12) (d 13) (d 14) (d 15) (d 16) (d 17) (d 18) (d 19) (d 20) (d 21) (nI n) kN6 sd ro S Z It (xs (nI i + 1).toNatClampNeg) (xs (nI i + 2).toNatClampNeg) ((xs (nI i + 3).toNatClampNeg).toInt64 <<< ((32 : Int32).toInt64 &&& 63) ||| ((xs (nI i + 4).toNatClampNeg).toInt64 &&& 4294967295)) h6) gL_law_X6_put dL_law_1231 hl.1 ⟨Nat.le_of_ble_eq_true rfl, Nat.le_of_ble_eq_true rfl⟩ [27, 36, 37, 38] [0, 1, 2, 3, 4, 5, 6, 7, 8, 9, 10, 11, 12, 13, 14, 15, 16, 17, 18, 19, 20, 21, 22, 23, 24, 25, 26, 28, 29, 30, 31, 32, 33, 34, 35, 39, 40, 41, 42, 43, 44, 45, 46, 47, 48] [0, 1, 2, 3, 4, 5, 6, 7, 8, 9, 10, 11, 12, 13, 14, 15, 16, 17, 18, 19, 20, 21, 22, 23, 24, 25, 26, 45, 27, 28, 29, 30, 31, 32, 33, 34, 46, 47, 48, 35, 36, 37, 38, 39, 40, 41, 42, 43, 44] rfl rfl ⟨rfl, rfl⟩ ⟨Nat.le_of_ble_eq_true rfl, Nat.le_of_ble_eq_true rfl⟩ ⟨rfl, by decide +kernel, by decide +kernel, by decide +kernel⟩ rfl (fun h => by cases h) (Nat.le_of_ble_eq_true rfl) (by decide +kernel) rfl rfl (by decide +kernel) (by decide +kernel) (by decide +kernel) rfl (fun H locs h => ?_)
  refine W.eq (g2 := F0 m 1234 ls [.int r, .int r]) rfl ?_
  refine lv_icmp_eq (tgt := 1461) hx hb dL_law_1234 (by decide) (fun _ => ?_) (fun c9 => absurd rfl c9)
  exact kk H locs ls ⟨n, M, K, Wt, T, ik, kN5, kM5, kK5, kW5, kT5, R, sn, sB, sT, S, Z, oV, kN6, kM6, kK6, kW6, kT6, oI, fa, qu, sq, be, pt6, sd, wa, fu, ro, ju, na, mo, h0, hn, hV, hW, hT, hK, ghR, hS3, h⟩ hl
set_option maxRecDepth 100000 in
set_option maxHeartbeats 8000000 in
theorem lw_c29 (C : gn_C p s m #[.ref b] c cL_law 4 RL wsL_law true true G A) (hX : va_X b L xs s s.heap) (hbl : b < s.heap.size) (hbA : ¬ A b) (hL : L ≤ 3072) (hi : i + 6 ≤ L) (kk : ∀ (H : Heap) (locs : List Loc) (ls : Array Slot), lw_I G A s a d H locs → lv_has ls 4 [(0, .ref b), (1, .ref (a 0)), (2, .ref (d 0)), (3, .int (nI i))] → W p l e room_1 s m #[.ref b] below meth c H locs 600000 7302250 Q (F0 m 1461 ls [])) {H : Heap} {locs : List Loc} {ls : Array Slot} (h : lw_I G A s a d H locs) (hl : lv_has ls 4 [(0, .ref b), (1, .ref (a 0)), (2, .ref (d 0)), (3, .int (nI i))]) : W p l e room_1 s m #[.ref b] below meth c H locs 600000 7302250 Q (F0 m 1239 ls []) := by
  obtain ⟨hx, hb, hml, hown, hts, hKK, hSt, hO, hA⟩ := id C
  obtain ⟨n, M, K, Wt, T, ik, kN5, kM5, kK5, kW5, kT5, R, sn, sB, sT, S, Z, V, kN6, kM6, kK6, kW6, kT6, It, fa, qu, sq, be, pt6, sd, wa, fu, ro, ju, na, mo, h0, hn, hV, hW, hT, hK, hR, hS3, h⟩ := h
  obtain ⟨r, h5, h6⟩ := o_get (I := It) (V := V) (Z := Z) hR (xs (nI i + 1).toNatClampNeg) (xs (nI i + 2).toNatClampNeg)
  refine lv_aload_n hx hb dL_law_1239 rfl (lv_at hl 1 rfl) ?_
  refine lv_aload_n hx hb dL_law_1240 rfl (lv_at hl 0 rfl) ?_
  refine lv_iload_n hx hb dL_law_1241 rfl (lv_at hl 3 rfl) ?_
  refine lv_iconst (v := 1) hx hb dL_law_1242 (by decide) ?_
  refine lv_iadd hx hb dL_law_1243 ?_
  refine va_sld hx hb hX hbl hbA h.2.2 (lw_in (k := 1) 1 rfl hi hL (by omega)) dL_law_1244 ?_
  refine lv_aload_n hx hb dL_law_1245 rfl (lv_at hl 0 rfl) ?_
  refine lv_iload_n hx hb dL_law_1246 rfl (lv_at hl 3 rfl) ?_
  refine lv_iconst (v := 2) hx hb dL_law_1247 (by decide) ?_
  refine lv_iadd hx hb dL_law_1248 ?_
  refine va_sld hx hb hX hbl hbA h.2.2 (lw_in (k := 2) 2 rfl hi hL (by omega)) dL_law_1249 ?_
  refine gn_callV (n := 2) (bytes := cX5_get) (maxL := 3) (ret := some .long) (Cn := RX5) (T := TX5) (N := 6) ([(a 1, .inr (0, [.int (nI n), .ref (a 2), .ref (a 3), .ref (a 4), .ref (a 5)])), (a 2, gk_J G 6 M), (a 3, gk_I G 6 K), (a 4, gk_I G 6 Wt), (a 5, .inr (3, [.ref (a 6)])), (a 6, gk_I G 36 T), (a 7, .inr (0, [.int kN5, .ref (a 8), .ref (a 9), .ref (a 10), .ref (a 11)])), (a 8, gk_J G 6 kM5), (a 9, gk_I G 6 kK5), (a 10, gk_I G 6 kW5), (a 11, .inr (3, [.ref (a 12)])), (a 12, gk_I G 36 kT5), (a 13, .inr (3, [.ref (a 14)])), (a 14, gk_I G 36 R), (a 15, .inr (2, [.int sn, .ref (a 16), .ref (a 17)])), (a 16, gk_J G 64 sB), (a 17, gk_I G 64 sT)] ++ lw_w6 G d (nI n) M K Wt T kN6 kM6 kK6 kW6 kT6 S Z It fa qu sq be pt6 sd wa fu ro ju na mo) (lw_w5 G a (nI n) M K Wt T ik kN5 kM5 kK5 kW5 kT5 R sn sB sT S Z V ++ lw_w6 G d (nI n) M K Wt T kN6 kM6 kK6 kW6 kT6 S Z It fa qu sq be pt6 sd wa fu ro ju na mo) [] C h (c_X5_get l G (a 0) (a 1) (a 7) (a 13) (a 15) (a 18) (a 19) (a 20) (a 21) (a 22) (a 23) (a 24) (a 25) (a 26) ik (S 0) (Z 0) (V 0) (S 1) (Z 1) (V 1) (S 2) (Z 2) (V 2) (S 3) (Z 3) (V 3) (xs (nI i + 1).toNatClampNeg) (xs (nI i + 2).toNatClampNeg) h5) gL_law_X5_get dL_law_1250 hl.1 ⟨Nat.le_of_ble_eq_true rfl, Nat.le_of_ble_eq_true rfl⟩ [0, 18, 19, 20, 21, 22, 23, 24, 25, 26] [1, 2, 3, 4, 5, 6, 7, 8, 9, 10, 11, 12, 13, 14, 15, 16, 17, 27, 28, 29, 30, 31, 32, 33, 34, 35, 36, 37, 38, 39, 40, 41, 42, 43, 44, 45, 46, 47, 48] [39, 0, 1, 2, 3, 4, 5, 6, 7, 8, 9, 10, 11, 12, 13, 14, 15, 16, 40, 41, 42, 43, 44, 45, 46, 47, 48, 17, 18, 19, 20, 21, 22, 23, 24, 25, 26, 27, 28, 29, 30, 31, 32, 33, 34, 35, 36, 37, 38] rfl rfl ⟨rfl, rfl⟩ ⟨Nat.le_of_ble_eq_true rfl, Nat.le_of_ble_eq_true rfl⟩ ⟨rfl, by decide +kernel, by decide +kernel, by decide +kernel⟩ rfl (fun h => by cases h) (Nat.le_of_ble_eq_true rfl) (by decide +kernel) rfl rfl (by decide +kernel) (by decide +kernel) (by decide +kernel) rfl (fun H locs h => ?_)
  refine lv_aload_n hx hb dL_law_1253 rfl (lv_at hl 2 rfl) ?_
  refine lv_aload_n hx hb dL_law_1254 rfl (lv_at hl 0 rfl) ?_
  refine lv_iload_n hx hb dL_law_1255 rfl (lv_at hl 3 rfl) ?_
  refine lv_iconst (v := 1) hx hb dL_law_1256 (by decide) ?_
  refine lv_iadd hx hb dL_law_1257 ?_
  refine va_sld hx hb hX hbl hbA h.2.2 (lw_in (k := 1) 1 rfl hi hL (by omega)) dL_law_1258 ?_
  refine lv_aload_n hx hb dL_law_1259 rfl (lv_at hl 0 rfl) ?_
  refine lv_iload_n hx hb dL_law_1260 rfl (lv_at hl 3 rfl) ?_
  refine lv_iconst (v := 2) hx hb dL_law_1261 (by decide) ?_
  refine lv_iadd hx hb dL_law_1262 ?_
  refine va_sld hx hb hX hbl hbA h.2.2 (lw_in (k := 2) 2 rfl hi hL (by omega)) dL_law_1263 ?_
  refine gn_callV (n := 2) (bytes := cX6_get) (maxL := 3) (ret := some .long) (Cn := RX6) (T := TX6) (N := 25) (lw_w5 G a (nI n) M K Wt T ik kN5 kM5 kK5 kW5 kT5 R sn sB sT S Z V ++ [(d 1, gk_J G 6 M), (d 2, gk_I G 6 K), (d 3, gk_I G 6 Wt), (d 4, gk_I G 36 T), (d 5, gk_J G 6 kM6), (d 6, gk_I G 6 kK6), (d 7, gk_I G 6 kW6), (d 8, gk_I G 36 kT6), (d 9, gk_I G 4 S), (d 12, gk_I G 64 fa), (d 13, gk_I G 64 qu), (d 14, gk_I G 36 sq), (d 15, gk_I G 36 be), (d 16, gk_I G 6 pt6), (d 17, gk_I G 36 wa), (d 18, gk_I G 36 fu), (d 19, gk_Z G 729 ju), (d 20, gk_I G 6 na), (d 21, gk_J G 80 mo)]) (lw_w5 G a (nI n) M K Wt T ik kN5 kM5 kK5 kW5 kT5 R sn sB sT S Z V ++ lw_w6 G d (nI n) M K Wt T kN6 kM6 kK6 kW6 kT6 S Z It fa qu sq be pt6 sd wa fu ro ju na mo) [.long r] C h (c_X6_get l G (d 0) (d 1) (d 2) (d 3) (d 4) (d 5) (d 6) (d 7) (d 8) (d 9) (d 10) (d 11) (d 12) (d 13) (d 14) (d 15) (d 16) (d 17) (d 18) (d 19) (d 20) (d 21) (nI n) kN6 sd ro Z It (xs (nI i + 1).toNatClampNeg) (xs (nI i + 2).toNatClampNeg) h6) gL_law_X6_get dL_law_1264 hl.1 ⟨Nat.le_of_ble_eq_true rfl, Nat.le_of_ble_eq_true rfl⟩ [27, 37, 38] [0, 1, 2, 3, 4, 5, 6, 7, 8, 9, 10, 11, 12, 13, 14, 15, 16, 17, 18, 19, 20, 21, 22, 23, 24, 25, 26, 28, 29, 30, 31, 32, 33, 34, 35, 36, 39, 40, 41, 42, 43, 44, 45, 46, 47, 48] [0, 1, 2, 3, 4, 5, 6, 7, 8, 9, 10, 11, 12, 13, 14, 15, 16, 17, 18, 19, 20, 21, 22, 23, 24, 25, 26, 46, 27, 28, 29, 30, 31, 32, 33, 34, 35, 47, 48, 36, 37, 38, 39, 40, 41, 42, 43, 44, 45] rfl rfl ⟨rfl, rfl⟩ ⟨Nat.le_of_ble_eq_true rfl, Nat.le_of_ble_eq_true rfl⟩ ⟨rfl, by decide +kernel, by decide +kernel, by decide +kernel⟩ rfl (fun h => by cases h) (Nat.le_of_ble_eq_true rfl) (by decide +kernel) rfl rfl (by decide +kernel) (by decide +kernel) (by decide +kernel) rfl (fun H locs h => ?_)
  refine W.eq (g2 := F0 m 1267 ls [.long r, .long r]) rfl ?_
  refine W.lcmp hx hb dL_law_1267 ?_
  refine lv_if_eq (tgt := 1461) hx hb dL_law_1268 (by decide) (fun _ => ?_) (fun c9 => absurd ((cmp0 r r).mpr rfl) c9)
  exact kk H locs ls ⟨n, M, K, Wt, T, ik, kN5, kM5, kK5, kW5, kT5, R, sn, sB, sT, S, Z, V, kN6, kM6, kK6, kW6, kT6, It, fa, qu, sq, be, pt6, sd, wa, fu, ro, ju, na, mo, h0, hn, hV, hW, hT, hK, hR, hS3, h⟩ hl
set_option maxRecDepth 100000 in
set_option maxHeartbeats 8000000 in
theorem lw_c30 (C : gn_C p s m #[.ref b] c cL_law 4 RL wsL_law true true G A) (hX : va_X b L xs s s.heap) (hbl : b < s.heap.size) (hbA : ¬ A b) (hL : L ≤ 3072) (hi : i + 6 ≤ L) (kk : ∀ (H : Heap) (locs : List Loc) (ls : Array Slot), lw_I G A s a d H locs → lv_has ls 4 [(0, .ref b), (1, .ref (a 0)), (2, .ref (d 0)), (3, .int (nI i))] → W p l e room_1 s m #[.ref b] below meth c H locs 600000 7302250 Q (F0 m 1461 ls [])) {H : Heap} {locs : List Loc} {ls : Array Slot} (h : lw_I G A s a d H locs) (hl : lv_has ls 4 [(0, .ref b), (1, .ref (a 0)), (2, .ref (d 0)), (3, .int (nI i))]) : W p l e room_1 s m #[.ref b] below meth c H locs 600000 7302250 Q (F0 m 1273 ls []) := by
  obtain ⟨hx, hb, hml, hown, hts, hKK, hSt, hO, hA⟩ := id C
  obtain ⟨n, M, K, Wt, T, ik, kN5, kM5, kK5, kW5, kT5, R, sn, sB, sT, S, Z, V, kN6, kM6, kK6, kW6, kT6, It, fa, qu, sq, be, pt6, sd, wa, fu, ro, ju, na, mo, h0, hn, hV, hW, hT, hK, hR, hS3, h⟩ := h
  obtain ⟨r, oI, oV, om, h5, h6, ghR⟩ := o_copy (I := It) (S := S) (V := V) (Z := Z) (m := mo) hR (xs (nI i + 1).toNatClampNeg) (xs (nI i + 2).toNatClampNeg) (xs (nI i + 3).toNatClampNeg) (xs (nI i + 4).toNatClampNeg) (xs (nI i + 5).toNatClampNeg)
  refine lv_aload_n hx hb dL_law_1273 rfl (lv_at hl 1 rfl) ?_
  refine lv_aload_n hx hb dL_law_1274 rfl (lv_at hl 0 rfl) ?_
  refine lv_iload_n hx hb dL_law_1275 rfl (lv_at hl 3 rfl) ?_
  refine lv_iconst (v := 1) hx hb dL_law_1276 (by decide) ?_
  refine lv_iadd hx hb dL_law_1277 ?_
  refine va_sld hx hb hX hbl hbA h.2.2 (lw_in (k := 1) 1 rfl hi hL (by omega)) dL_law_1278 ?_
  refine lv_aload_n hx hb dL_law_1279 rfl (lv_at hl 0 rfl) ?_
  refine lv_iload_n hx hb dL_law_1280 rfl (lv_at hl 3 rfl) ?_
  refine lv_iconst (v := 2) hx hb dL_law_1281 (by decide) ?_
  refine lv_iadd hx hb dL_law_1282 ?_
  refine va_sld hx hb hX hbl hbA h.2.2 (lw_in (k := 2) 2 rfl hi hL (by omega)) dL_law_1283 ?_
  refine lv_aload_n hx hb dL_law_1284 rfl (lv_at hl 0 rfl) ?_
  refine lv_iload_n hx hb dL_law_1285 rfl (lv_at hl 3 rfl) ?_
  refine lv_iconst (v := 3) hx hb dL_law_1286 (by decide) ?_
  refine lv_iadd hx hb dL_law_1287 ?_
  refine va_sld hx hb hX hbl hbA h.2.2 (lw_in (k := 3) 3 rfl hi hL (by omega)) dL_law_1288 ?_
  refine lv_aload_n hx hb dL_law_1289 rfl (lv_at hl 0 rfl) ?_
  refine lv_iload_n hx hb dL_law_1290 rfl (lv_at hl 3 rfl) ?_
  refine lv_iconst (v := 4) hx hb dL_law_1291 (by decide) ?_
  refine lv_iadd hx hb dL_law_1292 ?_
  refine va_sld hx hb hX hbl hbA h.2.2 (lw_in (k := 4) 4 rfl hi hL (by omega)) dL_law_1293 ?_
  refine lv_aload_n hx hb dL_law_1294 rfl (lv_at hl 0 rfl) ?_
  refine lv_iload_n hx hb dL_law_1295 rfl (lv_at hl 3 rfl) ?_
  refine lv_iconst (v := 5) hx hb dL_law_1296 (by decide) ?_
  refine lv_iadd hx hb dL_law_1297 ?_
  refine va_sld hx hb hX hbl hbA h.2.2 (lw_in (k := 5) 5 rfl hi hL (by omega)) dL_law_1298 ?_
  refine gn_callV (n := 5) (bytes := cX5_copy) (maxL := 8) (ret := some .int) (Cn := RX5) (T := TX5) (N := 6) ([(a 1, .inr (0, [.int (nI n), .ref (a 2), .ref (a 3), .ref (a 4), .ref (a 5)])), (a 2, gk_J G 6 M), (a 3, gk_I G 6 K), (a 4, gk_I G 6 Wt), (a 5, .inr (3, [.ref (a 6)])), (a 6, gk_I G 36 T), (a 7, .inr (0, [.int kN5, .ref (a 8), .ref (a 9), .ref (a 10), .ref (a 11)])), (a 8, gk_J G 6 kM5), (a 9, gk_I G 6 kK5), (a 10, gk_I G 6 kW5), (a 11, .inr (3, [.ref (a 12)])), (a 12, gk_I G 36 kT5), (a 13, .inr (3, [.ref (a 14)])), (a 14, gk_I G 36 R), (a 15, .inr (2, [.int sn, .ref (a 16), .ref (a 17)])), (a 16, gk_J G 64 sB), (a 17, gk_I G 64 sT)] ++ lw_w6 G d (nI n) M K Wt T kN6 kM6 kK6 kW6 kT6 S Z It fa qu sq be pt6 sd wa fu ro ju na mo) (lw_w5 G a (nI n) M K Wt T ik kN5 kM5 kK5 kW5 kT5 R sn sB sT S Z oV ++ lw_w6 G d (nI n) M K Wt T kN6 kM6 kK6 kW6 kT6 S Z It fa qu sq be pt6 sd wa fu ro ju na mo) [] C h (c_X5_copy l G (a 0) (a 1) (a 7) (a 13) (a 15) (a 18) (a 19) (a 20) (a 21) (a 22) (a 23) (a 24) (a 25) (a 26) ik (S 0) (Z 0) (V 0) (S 1) (Z 1) (V 1) (S 2) (Z 2) (V 2) (S 3) (Z 3) (V 3) (xs (nI i + 1).toNatClampNeg) (xs (nI i + 2).toNatClampNeg) (xs (nI i + 3).toNatClampNeg) (xs (nI i + 4).toNatClampNeg) (xs (nI i + 5).toNatClampNeg) h5) gL_law_X5_copy dL_law_1299 hl.1 ⟨Nat.le_of_ble_eq_true rfl, Nat.le_of_ble_eq_true rfl⟩ [0, 18, 19, 20, 21, 22, 23, 24, 25, 26] [1, 2, 3, 4, 5, 6, 7, 8, 9, 10, 11, 12, 13, 14, 15, 16, 17, 27, 28, 29, 30, 31, 32, 33, 34, 35, 36, 37, 38, 39, 40, 41, 42, 43, 44, 45, 46, 47, 48] [39, 0, 1, 2, 3, 4, 5, 6, 7, 8, 9, 10, 11, 12, 13, 14, 15, 16, 40, 41, 42, 43, 44, 45, 46, 47, 48, 17, 18, 19, 20, 21, 22, 23, 24, 25, 26, 27, 28, 29, 30, 31, 32, 33, 34, 35, 36, 37, 38] rfl rfl ⟨rfl, rfl⟩ ⟨Nat.le_of_ble_eq_true rfl, Nat.le_of_ble_eq_true rfl⟩ ⟨rfl, by decide +kernel, by decide +kernel, by decide +kernel⟩ rfl (fun h => by cases h) (Nat.le_of_ble_eq_true rfl) (by decide +kernel) rfl rfl (by decide +kernel) (by decide +kernel) (by decide +kernel) rfl (fun H locs h => ?_)
  refine lv_aload_n hx hb dL_law_1302 rfl (lv_at hl 2 rfl) ?_
  refine lv_aload_n hx hb dL_law_1303 rfl (lv_at hl 0 rfl) ?_
  refine lv_iload_n hx hb dL_law_1304 rfl (lv_at hl 3 rfl) ?_
  refine lv_iconst (v := 1) hx hb dL_law_1305 (by decide) ?_
  refine lv_iadd hx hb dL_law_1306 ?_
  refine va_sld hx hb hX hbl hbA h.2.2 (lw_in (k := 1) 1 rfl hi hL (by omega)) dL_law_1307 ?_
  refine lv_aload_n hx hb dL_law_1308 rfl (lv_at hl 0 rfl) ?_
  refine lv_iload_n hx hb dL_law_1309 rfl (lv_at hl 3 rfl) ?_
  refine lv_iconst (v := 2) hx hb dL_law_1310 (by decide) ?_
  refine lv_iadd hx hb dL_law_1311 ?_
  refine va_sld hx hb hX hbl hbA h.2.2 (lw_in (k := 2) 2 rfl hi hL (by omega)) dL_law_1312 ?_
  refine lv_aload_n hx hb dL_law_1313 rfl (lv_at hl 0 rfl) ?_
  refine lv_iload_n hx hb dL_law_1314 rfl (lv_at hl 3 rfl) ?_
  refine lv_iconst (v := 3) hx hb dL_law_1315 (by decide) ?_
  refine lv_iadd hx hb dL_law_1316 ?_
  refine va_sld hx hb hX hbl hbA h.2.2 (lw_in (k := 3) 3 rfl hi hL (by omega)) dL_law_1317 ?_
  refine lv_aload_n hx hb dL_law_1318 rfl (lv_at hl 0 rfl) ?_
  refine lv_iload_n hx hb dL_law_1319 rfl (lv_at hl 3 rfl) ?_
  refine lv_iconst (v := 4) hx hb dL_law_1320 (by decide) ?_
  refine lv_iadd hx hb dL_law_1321 ?_
  refine va_sld hx hb hX hbl hbA h.2.2 (lw_in (k := 4) 4 rfl hi hL (by omega)) dL_law_1322 ?_
  refine lv_aload_n hx hb dL_law_1323 rfl (lv_at hl 0 rfl) ?_
  refine lv_iload_n hx hb dL_law_1324 rfl (lv_at hl 3 rfl) ?_
  refine lv_iconst (v := 5) hx hb dL_law_1325 (by decide) ?_
  refine lv_iadd hx hb dL_law_1326 ?_
  refine va_sld hx hb hX hbl hbA h.2.2 (lw_in (k := 5) 5 rfl hi hL (by omega)) dL_law_1327 ?_
  refine gn_callV (n := 5) (bytes := cX6_copy) (maxL := 7) (ret := some .int) (Cn := RX6) (T := TX6) (N := 25) (lw_w5 G a (nI n) M K Wt T ik kN5 kM5 kK5 kW5 kT5 R sn sB sT S Z oV ++ [(d 1, gk_J G 6 M), (d 2, gk_I G 6 K), (d 3, gk_I G 6 Wt), (d 4, gk_I G 36 T), (d 5, gk_J G 6 kM6), (d 6, gk_I G 6 kK6), (d 7, gk_I G 6 kW6), (d 8, gk_I G 36 kT6), (d 12, gk_I G 64 fa), (d 13, gk_I G 64 qu), (d 14, gk_I G 36 sq), (d 15, gk_I G 36 be), (d 16, gk_I G 6 pt6), (d 17, gk_I G 36 wa), (d 18, gk_I G 36 fu), (d 19, gk_Z G 729 ju), (d 20, gk_I G 6 na)]) (lw_w5 G a (nI n) M K Wt T ik kN5 kM5 kK5 kW5 kT5 R sn sB sT S Z oV ++ lw_w6 G d (nI n) M K Wt T kN6 kM6 kK6 kW6 kT6 S Z oI fa qu sq be pt6 sd wa fu ro ju na om) [.int r] C h (c_X6_copy l G (d 0) (d 1) (d 2) (d 3) (d 4) (d 5) (d 6) (d 7) (d 8) (d 9) (d 10) (d 11) (d 12) (d 13) (d 14) (d 15) (d 16) (d 17) (d 18) (d 19) (d 20) (d 21) (nI n) kN6 sd ro S Z It mo (xs (nI i + 1).toNatClampNeg) (xs (nI i + 2).toNatClampNeg) (xs (nI i + 3).toNatClampNeg) (xs (nI i + 4).toNatClampNeg) (xs (nI i + 5).toNatClampNeg) h6) gL_law_X6_copy dL_law_1328 hl.1 ⟨Nat.le_of_ble_eq_true rfl, Nat.le_of_ble_eq_true rfl⟩ [27, 36, 37, 38, 48] [0, 1, 2, 3, 4, 5, 6, 7, 8, 9, 10, 11, 12, 13, 14, 15, 16, 17, 18, 19, 20, 21, 22, 23, 24, 25, 26, 28, 29, 30, 31, 32, 33, 34, 35, 39, 40, 41, 42, 43, 44, 45, 46, 47] [0, 1, 2, 3, 4, 5, 6, 7, 8, 9, 10, 11, 12, 13, 14, 15, 16, 17, 18, 19, 20, 21, 22, 23, 24, 25, 26, 44, 27, 28, 29, 30, 31, 32, 33, 34, 45, 46, 47, 35, 36, 37, 38, 39, 40, 41, 42, 43, 48] rfl rfl ⟨rfl, rfl⟩ ⟨Nat.le_of_ble_eq_true rfl, Nat.le_of_ble_eq_true rfl⟩ ⟨rfl, by decide +kernel, by decide +kernel, by decide +kernel⟩ rfl (fun h => by cases h) (Nat.le_of_ble_eq_true rfl) (by decide +kernel) rfl rfl (by decide +kernel) (by decide +kernel) (by decide +kernel) rfl (fun H locs h => ?_)
  refine W.eq (g2 := F0 m 1331 ls [.int r, .int r]) rfl ?_
  refine lv_icmp_eq (tgt := 1461) hx hb dL_law_1331 (by decide) (fun _ => ?_) (fun c9 => absurd rfl c9)
  exact kk H locs ls ⟨n, M, K, Wt, T, ik, kN5, kM5, kK5, kW5, kT5, R, sn, sB, sT, S, Z, oV, kN6, kM6, kK6, kW6, kT6, oI, fa, qu, sq, be, pt6, sd, wa, fu, ro, ju, na, om, h0, hn, hV, hW, hT, hK, ghR, hS3, h⟩ hl
set_option maxRecDepth 100000 in
set_option maxHeartbeats 8000000 in
theorem lw_c31 (C : gn_C p s m #[.ref b] c cL_law 4 RL wsL_law true true G A) (hX : va_X b L xs s s.heap) (hbl : b < s.heap.size) (hbA : ¬ A b) (hL : L ≤ 3072) (hi : i + 6 ≤ L) (kk : ∀ (H : Heap) (locs : List Loc) (ls : Array Slot), lw_I G A s a d H locs → lv_has ls 4 [(0, .ref b), (1, .ref (a 0)), (2, .ref (d 0)), (3, .int (nI i))] → W p l e room_1 s m #[.ref b] below meth c H locs 600000 7302250 Q (F0 m 1461 ls [])) {H : Heap} {locs : List Loc} {ls : Array Slot} (h : lw_I G A s a d H locs) (hl : lv_has ls 4 [(0, .ref b), (1, .ref (a 0)), (2, .ref (d 0)), (3, .int (nI i))]) : W p l e room_1 s m #[.ref b] below meth c H locs 600000 7302250 Q (F0 m 1336 ls []) := by
  obtain ⟨hx, hb, hml, hown, hts, hKK, hSt, hO, hA⟩ := id C
  obtain ⟨n, M, K, Wt, T, ik, kN5, kM5, kK5, kW5, kT5, R, sn, sB, sT, S, Z, V, kN6, kM6, kK6, kW6, kT6, It, fa, qu, sq, be, pt6, sd, wa, fu, ro, ju, na, mo, h0, hn, hV, hW, hT, hK, hR, hS3, h⟩ := h
  obtain ⟨r, oM, oK, h5, h6, ghV⟩ := o_lay (n := n) (I := It) (K := K) (M := M) (S := S) (V := V) (Z := Z) hn hV hR (xs (nI i + 1).toNatClampNeg) (xs (nI i + 2).toNatClampNeg)
  refine lv_aload_n hx hb dL_law_1336 rfl (lv_at hl 1 rfl) ?_
  refine lv_aload_n hx hb dL_law_1337 rfl (lv_at hl 0 rfl) ?_
  refine lv_iload_n hx hb dL_law_1338 rfl (lv_at hl 3 rfl) ?_
  refine lv_iconst (v := 1) hx hb dL_law_1339 (by decide) ?_
  refine lv_iadd hx hb dL_law_1340 ?_
  refine va_sld hx hb hX hbl hbA h.2.2 (lw_in (k := 1) 1 rfl hi hL (by omega)) dL_law_1341 ?_
  refine lv_aload_n hx hb dL_law_1342 rfl (lv_at hl 0 rfl) ?_
  refine lv_iload_n hx hb dL_law_1343 rfl (lv_at hl 3 rfl) ?_
  refine lv_iconst (v := 2) hx hb dL_law_1344 (by decide) ?_
  refine lv_iadd hx hb dL_law_1345 ?_
  refine va_sld hx hb hX hbl hbA h.2.2 (lw_in (k := 2) 2 rfl hi hL (by omega)) dL_law_1346 ?_
  refine gn_callV (n := 2) (bytes := cX5_lay) (maxL := 3) (ret := some .int) (Cn := RX5) (T := TX5) (N := 6) ([(a 4, gk_I G 6 Wt), (a 5, .inr (3, [.ref (a 6)])), (a 6, gk_I G 36 T), (a 7, .inr (0, [.int kN5, .ref (a 8), .ref (a 9), .ref (a 10), .ref (a 11)])), (a 8, gk_J G 6 kM5), (a 9, gk_I G 6 kK5), (a 10, gk_I G 6 kW5), (a 11, .inr (3, [.ref (a 12)])), (a 12, gk_I G 36 kT5), (a 13, .inr (3, [.ref (a 14)])), (a 14, gk_I G 36 R), (a 15, .inr (2, [.int sn, .ref (a 16), .ref (a 17)])), (a 16, gk_J G 64 sB), (a 17, gk_I G 64 sT)] ++ lw_w6 G d (nI n) M K Wt T kN6 kM6 kK6 kW6 kT6 S Z It fa qu sq be pt6 sd wa fu ro ju na mo) (lw_w5 G a (nI n) oM oK Wt T ik kN5 kM5 kK5 kW5 kT5 R sn sB sT S Z V ++ lw_w6 G d (nI n) M K Wt T kN6 kM6 kK6 kW6 kT6 S Z It fa qu sq be pt6 sd wa fu ro ju na mo) [] C h (c_X5_lay l G (a 0) (a 1) (a 2) (a 3) (a 4) (a 5) (a 7) (a 13) (a 15) (a 18) (a 19) (a 20) (a 21) (a 22) (a 23) (a 24) (a 25) (a 26) ik (nI n) M K (S 0) (Z 0) (V 0) (S 1) (Z 1) (V 1) (S 2) (Z 2) (V 2) (S 3) (Z 3) (V 3) (xs (nI i + 1).toNatClampNeg) (xs (nI i + 2).toNatClampNeg) h5) gL_law_X5_lay dL_law_1347 hl.1 ⟨Nat.le_of_ble_eq_true rfl, Nat.le_of_ble_eq_true rfl⟩ [0, 1, 2, 3, 18, 19, 20, 21, 22, 23, 24, 25, 26] [4, 5, 6, 7, 8, 9, 10, 11, 12, 13, 14, 15, 16, 17, 27, 28, 29, 30, 31, 32, 33, 34, 35, 36, 37, 38, 39, 40, 41, 42, 43, 44, 45, 46, 47, 48] [36, 37, 38, 39, 0, 1, 2, 3, 4, 5, 6, 7, 8, 9, 10, 11, 12, 13, 40, 41, 42, 43, 44, 45, 46, 47, 48, 14, 15, 16, 17, 18, 19, 20, 21, 22, 23, 24, 25, 26, 27, 28, 29, 30, 31, 32, 33, 34, 35] rfl rfl ⟨rfl, rfl⟩ ⟨Nat.le_of_ble_eq_true rfl, Nat.le_of_ble_eq_true rfl⟩ ⟨rfl, by decide +kernel, by decide +kernel, by decide +kernel⟩ rfl (fun h => by cases h) (Nat.le_of_ble_eq_true rfl) (by decide +kernel) rfl rfl (by decide +kernel) (by decide +kernel) (by decide +kernel) rfl (fun H locs h => ?_)
  refine lv_aload_n hx hb dL_law_1350 rfl (lv_at hl 2 rfl) ?_
  refine lv_aload_n hx hb dL_law_1351 rfl (lv_at hl 0 rfl) ?_
  refine lv_iload_n hx hb dL_law_1352 rfl (lv_at hl 3 rfl) ?_
  refine lv_iconst (v := 1) hx hb dL_law_1353 (by decide) ?_
  refine lv_iadd hx hb dL_law_1354 ?_
  refine va_sld hx hb hX hbl hbA h.2.2 (lw_in (k := 1) 1 rfl hi hL (by omega)) dL_law_1355 ?_
  refine lv_aload_n hx hb dL_law_1356 rfl (lv_at hl 0 rfl) ?_
  refine lv_iload_n hx hb dL_law_1357 rfl (lv_at hl 3 rfl) ?_
  refine lv_iconst (v := 2) hx hb dL_law_1358 (by decide) ?_
  refine lv_iadd hx hb dL_law_1359 ?_
  refine va_sld hx hb hX hbl hbA h.2.2 (lw_in (k := 2) 2 rfl hi hL (by omega)) dL_law_1360 ?_
  refine gn_callV (n := 2) (bytes := cX6_lay) (maxL := 8) (ret := some .int) (Cn := RX6) (T := TX6) (N := 25) (lw_w5 G a (nI n) oM oK Wt T ik kN5 kM5 kK5 kW5 kT5 R sn sB sT S Z V ++ [(d 3, gk_I G 6 Wt), (d 4, gk_I G 36 T), (d 5, gk_J G 6 kM6), (d 6, gk_I G 6 kK6), (d 7, gk_I G 6 kW6), (d 8, gk_I G 36 kT6), (d 12, gk_I G 64 fa), (d 13, gk_I G 64 qu), (d 14, gk_I G 36 sq), (d 15, gk_I G 36 be), (d 16, gk_I G 6 pt6), (d 17, gk_I G 36 wa), (d 18, gk_I G 36 fu), (d 19, gk_Z G 729 ju), (d 20, gk_I G 6 na), (d 21, gk_J G 80 mo)]) (lw_w5 G a (nI n) oM oK Wt T ik kN5 kM5 kK5 kW5 kT5 R sn sB sT S Z V ++ lw_w6 G d (nI n) oM oK Wt T kN6 kM6 kK6 kW6 kT6 S Z It fa qu sq be pt6 sd wa fu ro ju na mo) [.int r] C h (c_X6_lay l G (d 0) (d 1) (d 2) (d 3) (d 4) (d 5) (d 6) (d 7) (d 8) (d 9) (d 10) (d 11) (d 12) (d 13) (d 14) (d 15) (d 16) (d 17) (d 18) (d 19) (d 20) (d 21) (nI n) kN6 sd ro M K S Z It (xs (nI i + 1).toNatClampNeg) (xs (nI i + 2).toNatClampNeg) h6) gL_law_X6_lay dL_law_1361 hl.1 ⟨Nat.le_of_ble_eq_true rfl, Nat.le_of_ble_eq_true rfl⟩ [27, 28, 29, 36, 37, 38] [0, 1, 2, 3, 4, 5, 6, 7, 8, 9, 10, 11, 12, 13, 14, 15, 16, 17, 18, 19, 20, 21, 22, 23, 24, 25, 26, 30, 31, 32, 33, 34, 35, 39, 40, 41, 42, 43, 44, 45, 46, 47, 48] [0, 1, 2, 3, 4, 5, 6, 7, 8, 9, 10, 11, 12, 13, 14, 15, 16, 17, 18, 19, 20, 21, 22, 23, 24, 25, 26, 43, 44, 45, 27, 28, 29, 30, 31, 32, 46, 47, 48, 33, 34, 35, 36, 37, 38, 39, 40, 41, 42] rfl rfl ⟨rfl, rfl⟩ ⟨Nat.le_of_ble_eq_true rfl, Nat.le_of_ble_eq_true rfl⟩ ⟨rfl, by decide +kernel, by decide +kernel, by decide +kernel⟩ rfl (fun h => by cases h) (Nat.le_of_ble_eq_true rfl) (by decide +kernel) rfl rfl (by decide +kernel) (by decide +kernel) (by decide +kernel) rfl (fun H locs h => ?_)
  refine W.eq (g2 := F0 m 1364 ls [.int r, .int r]) rfl ?_
  refine lv_icmp_eq (tgt := 1461) hx hb dL_law_1364 (by decide) (fun _ => ?_) (fun c9 => absurd rfl c9)
  exact kk H locs ls ⟨n, oM, oK, Wt, T, ik, kN5, kM5, kK5, kW5, kT5, R, sn, sB, sT, S, Z, V, kN6, kM6, kK6, kW6, kT6, It, fa, qu, sq, be, pt6, sd, wa, fu, ro, ju, na, mo, h0, hn, ghV, hW, hT, hK, hR, hS3, h⟩ hl
end
