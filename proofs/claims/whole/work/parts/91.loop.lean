/-! ===== the law: its loop ===== -/
theorem lw_I.S {G : gk_G} {A : Nat → Prop} {s : State} {a d : Nat → Nat} {H : Heap} {locs : List Loc} (h : lw_I G A s a d H locs) : va_S A s.heap H locs := by
  obtain ⟨n, M, K, Wt, T, ik, kN5, kM5, kK5, kW5, kT5, R, sn, sB, sT, S, Z, V, kN6, kM6, kK6, kW6, kT6, It, fa, qu, sq, be, pt6, sd, wa, fu, ro, ju, na, mo, h0, hn, hV, hW, hT, hK, hR, hS3, h⟩ := h
  exact h.2.2
theorem lw_end {i L : Nat} (hL : L ≤ 3072) (hi : i ≤ L + 6) (h : ¬ Int32.ofNat L - 6 < nI i) : i + 6 ≤ L := by
  have e6 : (6 : Int32).toInt = 6 := by decide
  have eL : (Int32.ofNat L).toInt = (L : Int) := nI_toInt (n := L) (by omega)
  have ei : (nI i).toInt = (i : Int) := nI_toInt (by omega)
  have e1 : (Int32.ofNat L - 6).toInt = (L : Int) - 6 := by
    rw [fb_subI (by rw [eL, e6]; omega) (by rw [eL, e6]; omega), eL, e6]
  apply Classical.byContradiction
  intro z
  apply h
  rw [Int32.lt_iff_toInt_lt, e1, ei]
  omega
set_option maxRecDepth 100000 in
set_option maxHeartbeats 8000000 in
theorem lw_loop {p : Program} {l : Launch} {e : Env} {s : State} {m : MethodId} {below : List Frame} {meth : Method} {c : Code} {G : gk_G} {A : Nat → Prop} {a d : Nat → Nat} {b L : Nat} {xs : Nat → Int32} (C : gn_C p s m #[.ref b] c cL_law 4 RL wsL_law true true G A) (hr : meth.sig.returnType = ret) (hlocks : meth.locks = false) (hX : va_X b L xs s s.heap) (hbl : b < s.heap.size) (hbA : ¬ A b) (hAn : ∀ q, A q → s.heap.size ≤ q) (hL : L ≤ 3072) : ∀ (n i : Nat), i ≤ L + 6 → L + 6 < i + n → ∀ (H : Heap) (locs : List Loc) (ls : Array Slot), lw_I G A s a d H locs → lv_has ls 4 [(0, .ref b), (1, .ref (a 0)), (2, .ref (d 0)), (3, .int (nI i))] → W p l e room_1 s m #[.ref b] below meth c H locs 600000 7302250 (lw_Z below #[Value.ref b] s) (F0 m 18 ls []) := by
  obtain ⟨hx, hb, hml, hown, hts, hKK, hSt, hO, hA⟩ := id C
  intro n
  induction n with
  | zero =>
    intro i h1 h2
    exact absurd h2 (by omega)
  | succ n ih =>
    intro i h1 h2 H locs ls h hl
    have hS : va_S A s.heap H locs := h.S
    refine lv_iload_n hx hb dL_law_18 rfl (lv_at hl 3 rfl) ?_
    refine lv_aload_n hx hb dL_law_19 rfl (lv_at hl 0 rfl) ?_
    refine va_slen hx hb hX hbl hbA hS dL_law_20 ?_
    refine lv_bipush (v := 6) hx hb dL_law_21 (by decide) ?_
    refine lv_isub hx hb dL_law_23 ?_
    refine lv_icmp_gt (tgt := 1467) hx hb dL_law_24 (by decide) (fun c9 => ?_) (fun c9 => ?_)
    · refine lv_iconst (v := 1) hx hb dL_law_1467 (by decide) ?_
      refine va_forget (fun q hq => hAn _ (hS.2.2 q hq)) ?_
      exact lw_ret hx hb hr hlocks dL_law_1468
    have hi : i + 6 ≤ L := lw_end hL h1 c9
    have kk : ∀ (H : Heap) (locs : List Loc) (ls : Array Slot), lw_I G A s a d H locs → lv_has ls 4 [(0, .ref b), (1, .ref (a 0)), (2, .ref (d 0)), (3, .int (nI i))] → W p l e room_1 s m #[.ref b] below meth c H locs 600000 7302250 (lw_Z below #[Value.ref b] s) (F0 m 1461 ls []) := fun H locs ls h hl => by
      refine lv_iinc (v := nI (i + 6)) (lv' := [(3, .int (nI (i + 6))), (0, .ref b), (1, .ref (a 0)), (2, .ref (d 0))]) hx hb dL_law_1461 hl (k := 3) rfl (by rw [show Int32.ofInt 6 = nI 6 from by decide, nI_add]) (by decide) rfl (fun ls hl => ?_)
      refine lv_goto (tgt := 18) hx hb dL_law_1464 (by decide) ?_
      exact ih (i + 6) (by omega) (by omega) H locs ls h (lv_sub hl [1, 2, 3, 0] rfl)
    refine lv_aload_n hx hb dL_law_27 rfl (lv_at hl 0 rfl) ?_
    refine lv_iload_n hx hb dL_law_28 rfl (lv_at hl 3 rfl) ?_
    refine va_sld hx hb hX hbl hbA hS (vp_in_nI (show i < L by omega) (by omega)) dL_law_29 ?_
    refine lv_bipush (v := 63) hx hb dL_law_30 (by decide) ?_
    refine lv_iand hx hb dL_law_32 ?_
    refine lv_topi (fun z ez => ?_)
    by_cases e0 : z = nI 0
    · refine lv_tableIn (tgt := 192) (off := 159) hx hb dL_law_33 (by rw [e0]; decide) (by rw [e0]; decide) (by rw [e0]; rfl) (by decide) ?_
      exact lw_c0 C hX hbl hbA hL hi kk h hl
    by_cases e1 : z = nI 1
    · refine lv_tableIn (tgt := 215) (off := 182) hx hb dL_law_33 (by rw [e1]; decide) (by rw [e1]; decide) (by rw [e1]; rfl) (by decide) ?_
      exact lw_c1 C hX hbl hbA hL hi kk h hl
    by_cases e2 : z = nI 2
    · refine lv_tableIn (tgt := 258) (off := 225) hx hb dL_law_33 (by rw [e2]; decide) (by rw [e2]; decide) (by rw [e2]; rfl) (by decide) ?_
      exact lw_c2 C hX hbl hbA hL hi kk h hl
    by_cases e3 : z = nI 3
    · refine lv_tableIn (tgt := 301) (off := 268) hx hb dL_law_33 (by rw [e3]; decide) (by rw [e3]; decide) (by rw [e3]; rfl) (by decide) ?_
      exact lw_c3 C hX hbl hbA hL hi kk h hl
    by_cases e4 : z = nI 4
    · refine lv_tableIn (tgt := 324) (off := 291) hx hb dL_law_33 (by rw [e4]; decide) (by rw [e4]; decide) (by rw [e4]; rfl) (by decide) ?_
      exact lw_c4 C hX hbl hbA hL hi kk h hl
    by_cases e5 : z = nI 5
    · refine lv_tableIn (tgt := 367) (off := 334) hx hb dL_law_33 (by rw [e5]; decide) (by rw [e5]; decide) (by rw [e5]; rfl) (by decide) ?_
      exact lw_c5 C hX hbl hbA hL hi kk h hl
    by_cases e6 : z = nI 6
    · refine lv_tableIn (tgt := 400) (off := 367) hx hb dL_law_33 (by rw [e6]; decide) (by rw [e6]; decide) (by rw [e6]; rfl) (by decide) ?_
      exact lw_c6 C hX hbl hbA hL hi kk h hl
    by_cases e7 : z = nI 7
    · refine lv_tableIn (tgt := 453) (off := 420) hx hb dL_law_33 (by rw [e7]; decide) (by rw [e7]; decide) (by rw [e7]; rfl) (by decide) ?_
      exact lw_c7 C hX hbl hbA hL hi kk h hl
    by_cases e8 : z = nI 8
    · refine lv_tableIn (tgt := 476) (off := 443) hx hb dL_law_33 (by rw [e8]; decide) (by rw [e8]; decide) (by rw [e8]; rfl) (by decide) ?_
      exact lw_c8 C hX hbl hbA hL hi kk h hl
    by_cases e9 : z = nI 9
    · refine lv_tableIn (tgt := 509) (off := 476) hx hb dL_law_33 (by rw [e9]; decide) (by rw [e9]; decide) (by rw [e9]; rfl) (by decide) ?_
      exact lw_c9 C hX hbl hbA hL hi kk h hl
    by_cases e10 : z = nI 10
    · refine lv_tableIn (tgt := 542) (off := 509) hx hb dL_law_33 (by rw [e10]; decide) (by rw [e10]; decide) (by rw [e10]; rfl) (by decide) ?_
      exact lw_c10 C hX hbl hbA hL hi kk h hl
    by_cases e11 : z = nI 11
    · refine lv_tableIn (tgt := 575) (off := 542) hx hb dL_law_33 (by rw [e11]; decide) (by rw [e11]; decide) (by rw [e11]; rfl) (by decide) ?_
      exact lw_c11 C hX hbl hbA hL hi kk h hl
    by_cases e12 : z = nI 12
    · refine lv_tableIn (tgt := 608) (off := 575) hx hb dL_law_33 (by rw [e12]; decide) (by rw [e12]; decide) (by rw [e12]; rfl) (by decide) ?_
      exact lw_c12 C hX hbl hbA hL hi kk h hl
    by_cases e13 : z = nI 13
    · refine lv_tableIn (tgt := 641) (off := 608) hx hb dL_law_33 (by rw [e13]; decide) (by rw [e13]; decide) (by rw [e13]; rfl) (by decide) ?_
      exact lw_c13 C hX hbl hbA hL hi kk h hl
    by_cases e14 : z = nI 14
    · refine lv_tableIn (tgt := 694) (off := 661) hx hb dL_law_33 (by rw [e14]; decide) (by rw [e14]; decide) (by rw [e14]; rfl) (by decide) ?_
      exact lw_c14 C hX hbl hbA hL hi kk h hl
    by_cases e15 : z = nI 15
    · refine lv_tableIn (tgt := 727) (off := 694) hx hb dL_law_33 (by rw [e15]; decide) (by rw [e15]; decide) (by rw [e15]; rfl) (by decide) ?_
      exact lw_c15 C hX hbl hbA hL hi kk h hl
    by_cases e16 : z = nI 16
    · refine lv_tableIn (tgt := 770) (off := 737) hx hb dL_law_33 (by rw [e16]; decide) (by rw [e16]; decide) (by rw [e16]; rfl) (by decide) ?_
      exact lw_c16 C hX hbl hbA hL hi kk h hl
    by_cases e17 : z = nI 17
    · refine lv_tableIn (tgt := 803) (off := 770) hx hb dL_law_33 (by rw [e17]; decide) (by rw [e17]; decide) (by rw [e17]; rfl) (by decide) ?_
      exact lw_c17 C hX hbl hbA hL hi kk h hl
    by_cases e18 : z = nI 18
    · refine lv_tableIn (tgt := 826) (off := 793) hx hb dL_law_33 (by rw [e18]; decide) (by rw [e18]; decide) (by rw [e18]; rfl) (by decide) ?_
      exact lw_c18 C hX hbl hbA hL hi kk h hl
    by_cases e19 : z = nI 19
    · refine lv_tableIn (tgt := 849) (off := 816) hx hb dL_law_33 (by rw [e19]; decide) (by rw [e19]; decide) (by rw [e19]; rfl) (by decide) ?_
      exact lw_c19 C hX hbl hbA hL hi kk h hl
    by_cases e20 : z = nI 20
    · refine lv_tableIn (tgt := 872) (off := 839) hx hb dL_law_33 (by rw [e20]; decide) (by rw [e20]; decide) (by rw [e20]; rfl) (by decide) ?_
      exact lw_c20 C hX hbl hbA hL hi kk h hl
    by_cases e21 : z = nI 21
    · refine lv_tableIn (tgt := 915) (off := 882) hx hb dL_law_33 (by rw [e21]; decide) (by rw [e21]; decide) (by rw [e21]; rfl) (by decide) ?_
      exact lw_c21 C hX hbl hbA hL hi kk h hl
    by_cases e22 : z = nI 22
    · refine lv_tableIn (tgt := 948) (off := 915) hx hb dL_law_33 (by rw [e22]; decide) (by rw [e22]; decide) (by rw [e22]; rfl) (by decide) ?_
      exact lw_c22 C hX hbl hbA hL hi kk h hl
    by_cases e23 : z = nI 23
    · refine lv_tableIn (tgt := 971) (off := 938) hx hb dL_law_33 (by rw [e23]; decide) (by rw [e23]; decide) (by rw [e23]; rfl) (by decide) ?_
      exact lw_c23 C hX hbl hbA hL hi kk h hl
    by_cases e24 : z = nI 24
    · refine lv_tableIn (tgt := 994) (off := 961) hx hb dL_law_33 (by rw [e24]; decide) (by rw [e24]; decide) (by rw [e24]; rfl) (by decide) ?_
      exact lw_c24 C hX hbl hbA hL hi kk h hl
    by_cases e25 : z = nI 25
    · refine lv_tableIn (tgt := 1037) (off := 1004) hx hb dL_law_33 (by rw [e25]; decide) (by rw [e25]; decide) (by rw [e25]; rfl) (by decide) ?_
      exact lw_c25 C hX hbl hbA hL hi kk h hl
    by_cases e26 : z = nI 26
    · refine lv_tableIn (tgt := 1080) (off := 1047) hx hb dL_law_33 (by rw [e26]; decide) (by rw [e26]; decide) (by rw [e26]; rfl) (by decide) ?_
      exact lw_c26 C hX hbl hbA hL hi kk h hl
    by_cases e27 : z = nI 27
    · refine lv_tableIn (tgt := 1123) (off := 1090) hx hb dL_law_33 (by rw [e27]; decide) (by rw [e27]; decide) (by rw [e27]; rfl) (by decide) ?_
      exact lw_c27 C hX hbl hbA hL hi kk h hl
    by_cases e28 : z = nI 28
    · refine lv_tableIn (tgt := 1166) (off := 1133) hx hb dL_law_33 (by rw [e28]; decide) (by rw [e28]; decide) (by rw [e28]; rfl) (by decide) ?_
      exact lw_c28 C hX hbl hbA hL hi kk h hl
    by_cases e29 : z = nI 29
    · refine lv_tableIn (tgt := 1239) (off := 1206) hx hb dL_law_33 (by rw [e29]; decide) (by rw [e29]; decide) (by rw [e29]; rfl) (by decide) ?_
      exact lw_c29 C hX hbl hbA hL hi kk h hl
    by_cases e30 : z = nI 30
    · refine lv_tableIn (tgt := 1273) (off := 1240) hx hb dL_law_33 (by rw [e30]; decide) (by rw [e30]; decide) (by rw [e30]; rfl) (by decide) ?_
      exact lw_c30 C hX hbl hbA hL hi kk h hl
    by_cases e31 : z = nI 31
    · refine lv_tableIn (tgt := 1336) (off := 1303) hx hb dL_law_33 (by rw [e31]; decide) (by rw [e31]; decide) (by rw [e31]; rfl) (by decide) ?_
      exact lw_c31 C hX hbl hbA hL hi kk h hl
    by_cases e32 : z = nI 32
    · refine lv_tableIn (tgt := 1369) (off := 1336) hx hb dL_law_33 (by rw [e32]; decide) (by rw [e32]; decide) (by rw [e32]; rfl) (by decide) ?_
      exact lw_c32 C hX hbl hbA hL hi kk h hl
    by_cases e33 : z = nI 33
    · refine lv_tableIn (tgt := 1412) (off := 1379) hx hb dL_law_33 (by rw [e33]; decide) (by rw [e33]; decide) (by rw [e33]; rfl) (by decide) ?_
      exact lw_c33 C hX hbl hbA hL hi kk h hl
    by_cases e34 : z = nI 34
    · refine lv_tableIn (tgt := 1425) (off := 1392) hx hb dL_law_33 (by rw [e34]; decide) (by rw [e34]; decide) (by rw [e34]; rfl) (by decide) ?_
      exact lw_c34 C hX hbl hbA hL hi kk h hl
    by_cases e35 : z = nI 35
    · refine lv_tableIn (tgt := 1438) (off := 1405) hx hb dL_law_33 (by rw [e35]; decide) (by rw [e35]; decide) (by rw [e35]; rfl) (by decide) ?_
      exact lw_c35 C hX hbl hbA hL hi kk h hl
    have ho := gk_out (x := z) 36 (by decide) (fun k hk => by match k, hk with | 0, _ => exact e0 | 1, _ => exact e1 | 2, _ => exact e2 | 3, _ => exact e3 | 4, _ => exact e4 | 5, _ => exact e5 | 6, _ => exact e6 | 7, _ => exact e7 | 8, _ => exact e8 | 9, _ => exact e9 | 10, _ => exact e10 | 11, _ => exact e11 | 12, _ => exact e12 | 13, _ => exact e13 | 14, _ => exact e14 | 15, _ => exact e15 | 16, _ => exact e16 | 17, _ => exact e17 | 18, _ => exact e18 | 19, _ => exact e19 | 20, _ => exact e20 | 21, _ => exact e21 | 22, _ => exact e22 | 23, _ => exact e23 | 24, _ => exact e24 | 25, _ => exact e25 | 26, _ => exact e26 | 27, _ => exact e27 | 28, _ => exact e28 | 29, _ => exact e29 | 30, _ => exact e30 | 31, _ => exact e31 | 32, _ => exact e32 | 33, _ => exact e33 | 34, _ => exact e34 | 35, _ => exact e35 | k + 36, h => exact absurd h (by omega))
    refine lv_tableOut (tgt := 1461) hx hb dL_law_33 (by omega) (by decide) ?_
    exact kk H locs ls h hl
