/-! ===== ExchangeFamiliesModel.of(II)I ===== -/
abbrev rm_X6_of : Room := { frames := 7, cells := 0, slots := 0, locals := 328 }
theorem k_X6_of_0 : Cond.constantLong RX6 125 (7) ∈ wsX6_of := by decide +kernel
theorem k_X6_of_1 : ∀ w ∈ u_ws RX6 TX6 25, w ∈ wsX6_of := by decide +kernel
theorem k_X6_of_2 : Cond.fieldLink RX6 19 "ExchangeFamiliesModel" "kind" "[I" ∈ wsX6_of := by decide +kernel
theorem k_X6_of_3 : Cond.fieldLink RX6 15 "ExchangeFamiliesModel" "members" "[J" ∈ wsX6_of := by decide +kernel
def m_X6_of_0 (f_n : Int32) (f_members : (Nat → Int64)) (f_kind : (Nat → Int32)) (x1 : Int32) (x2 : Int32) : Option (Int32) := gk_bd1 (m_X6_isFamily x1) (fun r15 => (if r15 = (0 : Int32) then some (-2 : Int32) else gk_bd1 (m_X6_isIn x2.toInt64 (0 : Int64) (7 : Int64)) (fun r17 => (if r17 = (0 : Int32) then some (-2 : Int32) else gk_ix x1 6 ((if (f_kind x1.toNatClampNeg) = (-1 : Int32) then some (-11 : Int32) else (if x2 = 0 then gk_ix x1 6 (some (f_kind x1.toNatClampNeg)) else (if x2 = 1 then gk_ix x1 6 ((if (lg_cmp (f_members x1.toNatClampNeg) (0 : Int64)) = (0 : Int32) then some (0 : Int32) else gk_bd1 (m_X6_failing f_n f_members x1 (0 : Int32)) (fun r23 => (if r23 = (-1 : Int32) then some (1 : Int32) else some (0 : Int32))))) else (if x2 = 2 then gk_bd1 (m_X6_areSizes f_n f_members x1 (1 : Int32)) (fun r26 => (if r26 = (0 : Int32) then some (0 : Int32) else some (1 : Int32))) else (if x2 = 3 then gk_bd1 (m_X6_areSizes f_n f_members x1 (0 : Int32)) (fun r29 => (if r29 = (0 : Int32) then some (0 : Int32) else some (1 : Int32))) else (if x2 = 4 then gk_bd1 (m_X6_loops f_n f_members x1 (0 : Int32)) (fun r32 => some r32) else (if x2 = 5 then gk_bd1 (m_X6_loops f_n f_members x1 (1 : Int32)) (fun r34 => some r34) else (if x2 = (6 : Int32) then gk_bd1 (m_X6_sizeOf f_n f_members x1 (1 : Int32)) (fun r37 => some r37) else gk_bd1 (m_X6_sizeOf f_n f_members x1 (0 : Int32)) (fun r36 => some r36))))))))))))))
set_option maxRecDepth 100000 in
set_option maxHeartbeats 4000000 in
theorem w_X6_of_0 {p : Program} {l : Launch} {e : Env} {s : State} {m : MethodId} {args : Array Value} {below : List Frame} {meth : Method} {c : Code} {G : gk_G} {A : Nat → Prop} {Q : State → Prop} {a0 a1 a2 a3 a4 a5 a6 a7 a8 a9 a10 a11 a12 a13 a14 a15 a16 a17 a18 a19 a20 a21 : Nat} (C : gk_C p s m args meth c cX6_of 3 (some .int) yX6_of wsX6_of false G A) {f_n : Int32} {f_members : (Nat → Int64)} {f_kind : (Nat → Int32)} {x1 : Int32} {x2 : Int32} {f_keptN : Int32} {f_side : Int32} {f_rows : Int32} {yy : Int32} (hm : m_X6_of_0 f_n f_members f_kind x1 x2 = some yy) (kr : ∀ (rv : Int32), yy = rv → Q = MQ below (gk_Q G (some (.int rv)) [(a0, .inr (5, [.int f_n, .ref a1, .ref a2, .ref a3, .ref a4, .int f_keptN, .ref a5, .ref a6, .ref a7, .ref a8, .ref a9, .ref a10, .ref a11, .ref a12, .ref a13, .ref a14, .ref a15, .ref a16, .int f_side, .ref a17, .ref a18, .ref a19, .int f_rows, .ref a20, .ref a21])), (a1, gk_J G 6 f_members), (a2, gk_I G 6 f_kind)] A) args s 0 0 A) {H : Heap} {locs : List Loc} {ls : Array Slot} (h : gk_H G A s [(a0, .inr (5, [.int f_n, .ref a1, .ref a2, .ref a3, .ref a4, .int f_keptN, .ref a5, .ref a6, .ref a7, .ref a8, .ref a9, .ref a10, .ref a11, .ref a12, .ref a13, .ref a14, .ref a15, .ref a16, .int f_side, .ref a17, .ref a18, .ref a19, .int f_rows, .ref a20, .ref a21])), (a1, gk_J G 6 f_members), (a2, gk_I G 6 f_kind)] H locs) (hl : lv_has ls 3 [(0, .ref a0), (1, .int x1), (2, .int x2)]) : W p l e rm_X6_of s m args below meth c H locs 0 0 Q (F0 m 0 ls []) := by
  obtain ⟨hx, hb, hml, hr, hown, hnm, hts, hlk, hK, hSt, hA⟩ := id C
  obtain ⟨hP, hD, hS⟩ := h
  unfold m_X6_of_0 at hm
  refine lv_iload_n hx hb dX6_of_0 rfl (lv_at hl 1 rfl) ?_
  obtain ⟨r15, hq, hm⟩ := gk_bd1_some hm
  refine gk_callS (n := 1) (bytes := cX6_isFamily) (maxL := 1) (ret := (some .boolean)) [(a0, .inr (5, [.int f_n, .ref a1, .ref a2, .ref a3, .ref a4, .int f_keptN, .ref a5, .ref a6, .ref a7, .ref a8, .ref a9, .ref a10, .ref a11, .ref a12, .ref a13, .ref a14, .ref a15, .ref a16, .int f_side, .ref a17, .ref a18, .ref a19, .int f_rows, .ref a20, .ref a21])), (a1, gk_J G 6 f_members), (a2, gk_I G 6 f_kind)] [(a0, .inr (5, [.int f_n, .ref a1, .ref a2, .ref a3, .ref a4, .int f_keptN, .ref a5, .ref a6, .ref a7, .ref a8, .ref a9, .ref a10, .ref a11, .ref a12, .ref a13, .ref a14, .ref a15, .ref a16, .int f_side, .ref a17, .ref a18, .ref a19, .int f_rows, .ref a20, .ref a21])), (a1, gk_J G 6 f_members), (a2, gk_I G 6 f_kind)] [] C ⟨hP, hD, hS⟩ (c_X6_isFamily l G x1 hq) gX6_of_X6_isFamily dX6_of_1 hl.1 [] [0, 1, 2] [0, 1, 2] rfl ⟨rfl, rfl⟩ ⟨Nat.le_of_ble_eq_true rfl, Nat.le_of_ble_eq_true rfl⟩ ⟨by decide +kernel, by decide +kernel, by decide +kernel⟩ rfl (fun h => by cases h) (Nat.le_of_ble_eq_true rfl) rfl rfl rfl rfl (by decide) rfl rfl (fun H locs h => ?_)
  obtain ⟨hP, hD, hS⟩ := h
  refine lv_if_eq (tgt := 19) hx hb dX6_of_4 (by decide) (fun c16 => ?_) (fun c16 => ?_)
  · have hm := gk_it c16 hm
    refine lv_bipush (v := -2) hx hb dX6_of_19 (by decide) ?_
    rw [kr _ (Option.some.inj hm).symm]
    exact gk_iret C ⟨hP, hD, hS⟩ dX6_of_21
  · have hm := gk_if c16 hm
    refine lv_iload_n hx hb dX6_of_7 rfl (lv_at hl 2 rfl) ?_
    refine lv_i2l hx hb dX6_of_8 rfl ?_
    refine lv_lconst (v := 0) hx hb dX6_of_9 (by decide) ?_
    refine lv_ldc2 (own := RX6) (v := 7) hx hb hown (hts _ k_X6_of_0) dX6_of_10 ?_
    obtain ⟨r17, hq, hm⟩ := gk_bd1_some hm
    refine gk_callS (n := 3) (bytes := cX6_isIn) (maxL := 6) (ret := (some .boolean)) [(a0, .inr (5, [.int f_n, .ref a1, .ref a2, .ref a3, .ref a4, .int f_keptN, .ref a5, .ref a6, .ref a7, .ref a8, .ref a9, .ref a10, .ref a11, .ref a12, .ref a13, .ref a14, .ref a15, .ref a16, .int f_side, .ref a17, .ref a18, .ref a19, .int f_rows, .ref a20, .ref a21])), (a1, gk_J G 6 f_members), (a2, gk_I G 6 f_kind)] [(a0, .inr (5, [.int f_n, .ref a1, .ref a2, .ref a3, .ref a4, .int f_keptN, .ref a5, .ref a6, .ref a7, .ref a8, .ref a9, .ref a10, .ref a11, .ref a12, .ref a13, .ref a14, .ref a15, .ref a16, .int f_side, .ref a17, .ref a18, .ref a19, .int f_rows, .ref a20, .ref a21])), (a1, gk_J G 6 f_members), (a2, gk_I G 6 f_kind)] [] C ⟨hP, hD, hS⟩ (c_X6_isIn l G x2.toInt64 (0 : Int64) (7 : Int64) hq) gX6_of_X6_isIn dX6_of_13 hl.1 [] [0, 1, 2] [0, 1, 2] rfl ⟨rfl, rfl⟩ ⟨Nat.le_of_ble_eq_true rfl, Nat.le_of_ble_eq_true rfl⟩ ⟨by decide +kernel, by decide +kernel, by decide +kernel⟩ rfl (fun h => by cases h) (Nat.le_of_ble_eq_true rfl) rfl rfl rfl rfl (by decide) rfl rfl (fun H locs h => ?_)
    obtain ⟨hP, hD, hS⟩ := h
    refine lv_if_ne (tgt := 22) hx hb dX6_of_16 (by decide) (fun c18 => ?_) (fun c18 => ?_)
    · have hm := gk_if c18 hm
      refine lv_aload_n hx hb dX6_of_22 rfl (lv_at hl 0 rfl) ?_
      refine va_get (D := G.1) (cl := vwCl) (own := RX6) (ref := "ExchangeFamiliesModel") (ci := 5) (v := .ref a2) (C := RX6) (T := TX6) (N := 25) hx hb hts k_X6_of_1 hown hK hP 0 rfl rfl 2 (by decide) (hts _ k_X6_of_2) (fun _ h9 => h9) rfl dX6_of_23 ?_
      refine lv_iload_n hx hb dX6_of_26 rfl (lv_at hl 1 rfl) ?_
      obtain ⟨hi, hm⟩ := gk_ix_some hm
      refine va_iald hx hb hK hP 2 0 rfl rfl hi dX6_of_27 ?_
      refine lv_iconst (v := -1) hx hb dX6_of_28 (by decide) ?_
      refine lv_icmp_ne (tgt := 35) hx hb dX6_of_29 (by decide) (fun c19 => ?_) (fun c19 => ?_)
      · have hm := gk_if c19 hm
        refine lv_iload_n hx hb dX6_of_35 rfl (lv_at hl 2 rfl) ?_
        by_cases c20 : x2 = 0
        · have hm := gk_it c20 hm
          refine lv_tableIn (tgt := 76) (off := 40) hx hb dX6_of_36 (by rw [c20]; decide) (by rw [c20]; decide) (by rw [c20]; rfl) (by decide) ?_
          refine lv_aload_n hx hb dX6_of_76 rfl (lv_at hl 0 rfl) ?_
          refine va_get (D := G.1) (cl := vwCl) (own := RX6) (ref := "ExchangeFamiliesModel") (ci := 5) (v := .ref a2) (C := RX6) (T := TX6) (N := 25) hx hb hts k_X6_of_1 hown hK hP 0 rfl rfl 2 (by decide) (hts _ k_X6_of_2) (fun _ h9 => h9) rfl dX6_of_77 ?_
          refine lv_iload_n hx hb dX6_of_80 rfl (lv_at hl 1 rfl) ?_
          obtain ⟨hi, hm⟩ := gk_ix_some hm
          refine va_iald hx hb hK hP 2 0 rfl rfl hi dX6_of_81 ?_
          rw [kr _ (Option.some.inj hm).symm]
          exact gk_iret C ⟨hP, hD, hS⟩ dX6_of_82
        have hm := gk_if c20 hm
        by_cases c21 : x2 = 1
        · have hm := gk_it c21 hm
          refine lv_tableIn (tgt := 83) (off := 47) hx hb dX6_of_36 (by rw [c21]; decide) (by rw [c21]; decide) (by rw [c21]; rfl) (by decide) ?_
          refine lv_aload_n hx hb dX6_of_83 rfl (lv_at hl 0 rfl) ?_
          refine va_get (D := G.1) (cl := vwCl) (own := RX6) (ref := "ExchangeFamiliesModel") (ci := 5) (v := .ref a1) (C := RX6) (T := TX6) (N := 25) hx hb hts k_X6_of_1 hown hK hP 0 rfl rfl 1 (by decide) (hts _ k_X6_of_3) (fun _ h9 => h9) rfl dX6_of_84 ?_
          refine lv_iload_n hx hb dX6_of_87 rfl (lv_at hl 1 rfl) ?_
          obtain ⟨hi, hm⟩ := gk_ix_some hm
          refine va_lald hx hb hK hP 1 1 rfl rfl hi dX6_of_88 ?_
          refine lv_lconst (v := 0) hx hb dX6_of_89 (by decide) ?_
          refine W.lcmp hx hb dX6_of_90 ?_
          refine lv_if_eq (tgt := 108) hx hb dX6_of_91 (by decide) (fun c22 => ?_) (fun c22 => ?_)
          · have hm := gk_it c22 hm
            refine lv_iconst (v := 0) hx hb dX6_of_108 (by decide) ?_
            rw [kr _ (Option.some.inj hm).symm]
            exact gk_iret C ⟨hP, hD, hS⟩ dX6_of_109
          · have hm := gk_if c22 hm
            refine lv_aload_n hx hb dX6_of_94 rfl (lv_at hl 0 rfl) ?_
            refine lv_iload_n hx hb dX6_of_95 rfl (lv_at hl 1 rfl) ?_
            refine lv_iconst (v := 0) hx hb dX6_of_96 (by decide) ?_
            obtain ⟨r23, hq, hm⟩ := gk_bd1_some hm
            refine gk_callV (n := 2) (bytes := cX6_failing) (maxL := 6) (ret := (some .int)) (Cn := RX6) (T := TX6) (N := 25) [(a2, gk_I G 6 f_kind)] [(a0, .inr (5, [.int f_n, .ref a1, .ref a2, .ref a3, .ref a4, .int f_keptN, .ref a5, .ref a6, .ref a7, .ref a8, .ref a9, .ref a10, .ref a11, .ref a12, .ref a13, .ref a14, .ref a15, .ref a16, .int f_side, .ref a17, .ref a18, .ref a19, .int f_rows, .ref a20, .ref a21])), (a1, gk_J G 6 f_members), (a2, gk_I G 6 f_kind)] [] C ⟨hP, hD, hS⟩ (c_X6_failing l G a0 a1 a2 a3 a4 a5 a6 a7 a8 a9 a10 a11 a12 a13 a14 a15 a16 a17 a18 a19 a20 a21 f_n f_keptN f_side f_rows f_members x1 (0 : Int32) hq) gX6_of_X6_failing dX6_of_97 hl.1 [0, 1] [2] [1, 2, 0] rfl rfl ⟨rfl, rfl⟩ ⟨Nat.le_of_ble_eq_true rfl, Nat.le_of_ble_eq_true rfl⟩ ⟨rfl, by decide +kernel, by decide +kernel, by decide +kernel⟩ rfl (fun h => by cases h) (Nat.le_of_ble_eq_true rfl) rfl rfl rfl rfl (by decide) rfl rfl (fun H locs h => ?_)
            obtain ⟨hP, hD, hS⟩ := h
            refine lv_iconst (v := -1) hx hb dX6_of_100 (by decide) ?_
            refine lv_icmp_ne (tgt := 108) hx hb dX6_of_101 (by decide) (fun c24 => ?_) (fun c24 => ?_)
            · have hm := gk_if c24 hm
              refine lv_iconst (v := 0) hx hb dX6_of_108 (by decide) ?_
              rw [kr _ (Option.some.inj hm).symm]
              exact gk_iret C ⟨hP, hD, hS⟩ dX6_of_109
            · have hm := gk_it c24 hm
              refine lv_iconst (v := 1) hx hb dX6_of_104 (by decide) ?_
              refine lv_goto (tgt := 109) hx hb dX6_of_105 (by decide) ?_
              rw [kr _ (Option.some.inj hm).symm]
              exact gk_iret C ⟨hP, hD, hS⟩ dX6_of_109
        have hm := gk_if c21 hm
        by_cases c25 : x2 = 2
        · have hm := gk_it c25 hm
          refine lv_tableIn (tgt := 110) (off := 74) hx hb dX6_of_36 (by rw [c25]; decide) (by rw [c25]; decide) (by rw [c25]; rfl) (by decide) ?_
          refine lv_aload_n hx hb dX6_of_110 rfl (lv_at hl 0 rfl) ?_
          refine lv_iload_n hx hb dX6_of_111 rfl (lv_at hl 1 rfl) ?_
          refine lv_iconst (v := 1) hx hb dX6_of_112 (by decide) ?_
          obtain ⟨r26, hq, hm⟩ := gk_bd1_some hm
          refine gk_callV (n := 2) (bytes := cX6_areSizes) (maxL := 6) (ret := (some .boolean)) (Cn := RX6) (T := TX6) (N := 25) [(a2, gk_I G 6 f_kind)] [(a0, .inr (5, [.int f_n, .ref a1, .ref a2, .ref a3, .ref a4, .int f_keptN, .ref a5, .ref a6, .ref a7, .ref a8, .ref a9, .ref a10, .ref a11, .ref a12, .ref a13, .ref a14, .ref a15, .ref a16, .int f_side, .ref a17, .ref a18, .ref a19, .int f_rows, .ref a20, .ref a21])), (a1, gk_J G 6 f_members), (a2, gk_I G 6 f_kind)] [] C ⟨hP, hD, hS⟩ (c_X6_areSizes l G a0 a1 a2 a3 a4 a5 a6 a7 a8 a9 a10 a11 a12 a13 a14 a15 a16 a17 a18 a19 a20 a21 f_n f_keptN f_side f_rows f_members x1 (1 : Int32) hq) gX6_of_X6_areSizes dX6_of_113 hl.1 [0, 1] [2] [1, 2, 0] rfl rfl ⟨rfl, rfl⟩ ⟨Nat.le_of_ble_eq_true rfl, Nat.le_of_ble_eq_true rfl⟩ ⟨rfl, by decide +kernel, by decide +kernel, by decide +kernel⟩ rfl (fun h => by cases h) (Nat.le_of_ble_eq_true rfl) rfl rfl rfl rfl (by decide) rfl rfl (fun H locs h => ?_)
          obtain ⟨hP, hD, hS⟩ := h
          refine lv_if_eq (tgt := 123) hx hb dX6_of_116 (by decide) (fun c27 => ?_) (fun c27 => ?_)
          · have hm := gk_it c27 hm
            refine lv_iconst (v := 0) hx hb dX6_of_123 (by decide) ?_
            rw [kr _ (Option.some.inj hm).symm]
            exact gk_iret C ⟨hP, hD, hS⟩ dX6_of_124
          · have hm := gk_if c27 hm
            refine lv_iconst (v := 1) hx hb dX6_of_119 (by decide) ?_
            refine lv_goto (tgt := 124) hx hb dX6_of_120 (by decide) ?_
            rw [kr _ (Option.some.inj hm).symm]
            exact gk_iret C ⟨hP, hD, hS⟩ dX6_of_124
        have hm := gk_if c25 hm
        by_cases c28 : x2 = 3
        · have hm := gk_it c28 hm
          refine lv_tableIn (tgt := 125) (off := 89) hx hb dX6_of_36 (by rw [c28]; decide) (by rw [c28]; decide) (by rw [c28]; rfl) (by decide) ?_
          refine lv_aload_n hx hb dX6_of_125 rfl (lv_at hl 0 rfl) ?_
          refine lv_iload_n hx hb dX6_of_126 rfl (lv_at hl 1 rfl) ?_
          refine lv_iconst (v := 0) hx hb dX6_of_127 (by decide) ?_
          obtain ⟨r29, hq, hm⟩ := gk_bd1_some hm
          refine gk_callV (n := 2) (bytes := cX6_areSizes) (maxL := 6) (ret := (some .boolean)) (Cn := RX6) (T := TX6) (N := 25) [(a2, gk_I G 6 f_kind)] [(a0, .inr (5, [.int f_n, .ref a1, .ref a2, .ref a3, .ref a4, .int f_keptN, .ref a5, .ref a6, .ref a7, .ref a8, .ref a9, .ref a10, .ref a11, .ref a12, .ref a13, .ref a14, .ref a15, .ref a16, .int f_side, .ref a17, .ref a18, .ref a19, .int f_rows, .ref a20, .ref a21])), (a1, gk_J G 6 f_members), (a2, gk_I G 6 f_kind)] [] C ⟨hP, hD, hS⟩ (c_X6_areSizes l G a0 a1 a2 a3 a4 a5 a6 a7 a8 a9 a10 a11 a12 a13 a14 a15 a16 a17 a18 a19 a20 a21 f_n f_keptN f_side f_rows f_members x1 (0 : Int32) hq) gX6_of_X6_areSizes dX6_of_128 hl.1 [0, 1] [2] [1, 2, 0] rfl rfl ⟨rfl, rfl⟩ ⟨Nat.le_of_ble_eq_true rfl, Nat.le_of_ble_eq_true rfl⟩ ⟨rfl, by decide +kernel, by decide +kernel, by decide +kernel⟩ rfl (fun h => by cases h) (Nat.le_of_ble_eq_true rfl) rfl rfl rfl rfl (by decide) rfl rfl (fun H locs h => ?_)
          obtain ⟨hP, hD, hS⟩ := h
          refine lv_if_eq (tgt := 138) hx hb dX6_of_131 (by decide) (fun c30 => ?_) (fun c30 => ?_)
          · have hm := gk_it c30 hm
            refine lv_iconst (v := 0) hx hb dX6_of_138 (by decide) ?_
            rw [kr _ (Option.some.inj hm).symm]
            exact gk_iret C ⟨hP, hD, hS⟩ dX6_of_139
          · have hm := gk_if c30 hm
            refine lv_iconst (v := 1) hx hb dX6_of_134 (by decide) ?_
            refine lv_goto (tgt := 139) hx hb dX6_of_135 (by decide) ?_
            rw [kr _ (Option.some.inj hm).symm]
            exact gk_iret C ⟨hP, hD, hS⟩ dX6_of_139
        have hm := gk_if c28 hm
        by_cases c31 : x2 = 4
        · have hm := gk_it c31 hm
          refine lv_tableIn (tgt := 140) (off := 104) hx hb dX6_of_36 (by rw [c31]; decide) (by rw [c31]; decide) (by rw [c31]; rfl) (by decide) ?_
          refine lv_aload_n hx hb dX6_of_140 rfl (lv_at hl 0 rfl) ?_
          refine lv_iload_n hx hb dX6_of_141 rfl (lv_at hl 1 rfl) ?_
          refine lv_iconst (v := 0) hx hb dX6_of_142 (by decide) ?_
          obtain ⟨r32, hq, hm⟩ := gk_bd1_some hm
          refine gk_callV (n := 2) (bytes := cX6_loops) (maxL := 5) (ret := (some .int)) (Cn := RX6) (T := TX6) (N := 25) [(a2, gk_I G 6 f_kind)] [(a0, .inr (5, [.int f_n, .ref a1, .ref a2, .ref a3, .ref a4, .int f_keptN, .ref a5, .ref a6, .ref a7, .ref a8, .ref a9, .ref a10, .ref a11, .ref a12, .ref a13, .ref a14, .ref a15, .ref a16, .int f_side, .ref a17, .ref a18, .ref a19, .int f_rows, .ref a20, .ref a21])), (a1, gk_J G 6 f_members), (a2, gk_I G 6 f_kind)] [] C ⟨hP, hD, hS⟩ (c_X6_loops l G a0 a1 a2 a3 a4 a5 a6 a7 a8 a9 a10 a11 a12 a13 a14 a15 a16 a17 a18 a19 a20 a21 f_n f_keptN f_side f_rows f_members x1 (0 : Int32) hq) gX6_of_X6_loops dX6_of_143 hl.1 [0, 1] [2] [1, 2, 0] rfl rfl ⟨rfl, rfl⟩ ⟨Nat.le_of_ble_eq_true rfl, Nat.le_of_ble_eq_true rfl⟩ ⟨rfl, by decide +kernel, by decide +kernel, by decide +kernel⟩ rfl (fun h => by cases h) (Nat.le_of_ble_eq_true rfl) rfl rfl rfl rfl (by decide) rfl rfl (fun H locs h => ?_)
          obtain ⟨hP, hD, hS⟩ := h
          rw [kr _ (Option.some.inj hm).symm]
          exact gk_iret C ⟨hP, hD, hS⟩ dX6_of_146
        have hm := gk_if c31 hm
        by_cases c33 : x2 = 5
        · have hm := gk_it c33 hm
          refine lv_tableIn (tgt := 147) (off := 111) hx hb dX6_of_36 (by rw [c33]; decide) (by rw [c33]; decide) (by rw [c33]; rfl) (by decide) ?_
          refine lv_aload_n hx hb dX6_of_147 rfl (lv_at hl 0 rfl) ?_
          refine lv_iload_n hx hb dX6_of_148 rfl (lv_at hl 1 rfl) ?_
          refine lv_iconst (v := 1) hx hb dX6_of_149 (by decide) ?_
          obtain ⟨r34, hq, hm⟩ := gk_bd1_some hm
          refine gk_callV (n := 2) (bytes := cX6_loops) (maxL := 5) (ret := (some .int)) (Cn := RX6) (T := TX6) (N := 25) [(a2, gk_I G 6 f_kind)] [(a0, .inr (5, [.int f_n, .ref a1, .ref a2, .ref a3, .ref a4, .int f_keptN, .ref a5, .ref a6, .ref a7, .ref a8, .ref a9, .ref a10, .ref a11, .ref a12, .ref a13, .ref a14, .ref a15, .ref a16, .int f_side, .ref a17, .ref a18, .ref a19, .int f_rows, .ref a20, .ref a21])), (a1, gk_J G 6 f_members), (a2, gk_I G 6 f_kind)] [] C ⟨hP, hD, hS⟩ (c_X6_loops l G a0 a1 a2 a3 a4 a5 a6 a7 a8 a9 a10 a11 a12 a13 a14 a15 a16 a17 a18 a19 a20 a21 f_n f_keptN f_side f_rows f_members x1 (1 : Int32) hq) gX6_of_X6_loops dX6_of_150 hl.1 [0, 1] [2] [1, 2, 0] rfl rfl ⟨rfl, rfl⟩ ⟨Nat.le_of_ble_eq_true rfl, Nat.le_of_ble_eq_true rfl⟩ ⟨rfl, by decide +kernel, by decide +kernel, by decide +kernel⟩ rfl (fun h => by cases h) (Nat.le_of_ble_eq_true rfl) rfl rfl rfl rfl (by decide) rfl rfl (fun H locs h => ?_)
          obtain ⟨hP, hD, hS⟩ := h
          rw [kr _ (Option.some.inj hm).symm]
          exact gk_iret C ⟨hP, hD, hS⟩ dX6_of_153
        have hm := gk_if c33 hm
        have ho := gk_out (x := x2) 6 (by decide) (fun k hk => by match k, hk with | 0, _ => exact c20 | 1, _ => exact c21 | 2, _ => exact c25 | 3, _ => exact c28 | 4, _ => exact c31 | 5, _ => exact c33 | k + 6, h => exact absurd h (by omega))
        refine lv_tableOut (tgt := 154) hx hb dX6_of_36 (by rcases ho with q | q; exact Or.inl q; exact Or.inr (by simpa using q)) (by decide) ?_
        refine lv_aload_n hx hb dX6_of_154 rfl (lv_at hl 0 rfl) ?_
        refine lv_iload_n hx hb dX6_of_155 rfl (lv_at hl 1 rfl) ?_
        refine lv_iload_n hx hb dX6_of_156 rfl (lv_at hl 2 rfl) ?_
        refine lv_bipush (v := 6) hx hb dX6_of_157 (by decide) ?_
        refine lv_icmp_ne (tgt := 166) hx hb dX6_of_159 (by decide) (fun c35 => ?_) (fun c35 => ?_)
        · have hm := gk_if c35 hm
          refine lv_iconst (v := 0) hx hb dX6_of_166 (by decide) ?_
          obtain ⟨r36, hq, hm⟩ := gk_bd1_some hm
          refine gk_callV (n := 2) (bytes := cX6_sizeOf) (maxL := 6) (ret := (some .int)) (Cn := RX6) (T := TX6) (N := 25) [(a2, gk_I G 6 f_kind)] [(a0, .inr (5, [.int f_n, .ref a1, .ref a2, .ref a3, .ref a4, .int f_keptN, .ref a5, .ref a6, .ref a7, .ref a8, .ref a9, .ref a10, .ref a11, .ref a12, .ref a13, .ref a14, .ref a15, .ref a16, .int f_side, .ref a17, .ref a18, .ref a19, .int f_rows, .ref a20, .ref a21])), (a1, gk_J G 6 f_members), (a2, gk_I G 6 f_kind)] [] C ⟨hP, hD, hS⟩ (c_X6_sizeOf l G a0 a1 a2 a3 a4 a5 a6 a7 a8 a9 a10 a11 a12 a13 a14 a15 a16 a17 a18 a19 a20 a21 f_n f_keptN f_side f_rows f_members x1 (0 : Int32) hq) gX6_of_X6_sizeOf dX6_of_167 hl.1 [0, 1] [2] [1, 2, 0] rfl rfl ⟨rfl, rfl⟩ ⟨Nat.le_of_ble_eq_true rfl, Nat.le_of_ble_eq_true rfl⟩ ⟨rfl, by decide +kernel, by decide +kernel, by decide +kernel⟩ rfl (fun h => by cases h) (Nat.le_of_ble_eq_true rfl) rfl rfl rfl rfl (by decide) rfl rfl (fun H locs h => ?_)
          obtain ⟨hP, hD, hS⟩ := h
          rw [kr _ (Option.some.inj hm).symm]
          exact gk_iret C ⟨hP, hD, hS⟩ dX6_of_170
        · have hm := gk_it c35 hm
          refine lv_iconst (v := 1) hx hb dX6_of_162 (by decide) ?_
          refine lv_goto (tgt := 167) hx hb dX6_of_163 (by decide) ?_
          obtain ⟨r37, hq, hm⟩ := gk_bd1_some hm
          refine gk_callV (n := 2) (bytes := cX6_sizeOf) (maxL := 6) (ret := (some .int)) (Cn := RX6) (T := TX6) (N := 25) [(a2, gk_I G 6 f_kind)] [(a0, .inr (5, [.int f_n, .ref a1, .ref a2, .ref a3, .ref a4, .int f_keptN, .ref a5, .ref a6, .ref a7, .ref a8, .ref a9, .ref a10, .ref a11, .ref a12, .ref a13, .ref a14, .ref a15, .ref a16, .int f_side, .ref a17, .ref a18, .ref a19, .int f_rows, .ref a20, .ref a21])), (a1, gk_J G 6 f_members), (a2, gk_I G 6 f_kind)] [] C ⟨hP, hD, hS⟩ (c_X6_sizeOf l G a0 a1 a2 a3 a4 a5 a6 a7 a8 a9 a10 a11 a12 a13 a14 a15 a16 a17 a18 a19 a20 a21 f_n f_keptN f_side f_rows f_members x1 (1 : Int32) hq) gX6_of_X6_sizeOf dX6_of_167 hl.1 [0, 1] [2] [1, 2, 0] rfl rfl ⟨rfl, rfl⟩ ⟨Nat.le_of_ble_eq_true rfl, Nat.le_of_ble_eq_true rfl⟩ ⟨rfl, by decide +kernel, by decide +kernel, by decide +kernel⟩ rfl (fun h => by cases h) (Nat.le_of_ble_eq_true rfl) rfl rfl rfl rfl (by decide) rfl rfl (fun H locs h => ?_)
          obtain ⟨hP, hD, hS⟩ := h
          rw [kr _ (Option.some.inj hm).symm]
          exact gk_iret C ⟨hP, hD, hS⟩ dX6_of_170
      · have hm := gk_it c19 hm
        refine lv_bipush (v := -11) hx hb dX6_of_32 (by decide) ?_
        rw [kr _ (Option.some.inj hm).symm]
        exact gk_iret C ⟨hP, hD, hS⟩ dX6_of_34
    · have hm := gk_it c18 hm
      refine lv_bipush (v := -2) hx hb dX6_of_19 (by decide) ?_
      rw [kr _ (Option.some.inj hm).symm]
      exact gk_iret C ⟨hP, hD, hS⟩ dX6_of_21
def m_X6_of (f_n : Int32) (f_members : (Nat → Int64)) (f_kind : (Nat → Int32)) (x1 : Int32) (x2 : Int32) : Option (Int32) := m_X6_of_0 f_n f_members f_kind x1 x2
theorem c_X6_of (l : Launch) (G : gk_G) (a0 a1 a2 a3 a4 a5 a6 a7 a8 a9 a10 a11 a12 a13 a14 a15 a16 a17 a18 a19 a20 a21 : Nat) (f_n : Int32) (f_keptN : Int32) (f_side : Int32) (f_rows : Int32) (f_members : (Nat → Int64)) (f_kind : (Nat → Int32)) (x1 : Int32) (x2 : Int32) {rv : Int32} (hm : m_X6_of f_n f_members f_kind x1 x2 = some rv) : gk_M l yX6_of wsX6_of rm_X6_of false G [.ref a0, .int x1, .int x2] [(a0, .inr (5, [.int f_n, .ref a1, .ref a2, .ref a3, .ref a4, .int f_keptN, .ref a5, .ref a6, .ref a7, .ref a8, .ref a9, .ref a10, .ref a11, .ref a12, .ref a13, .ref a14, .ref a15, .ref a16, .int f_side, .ref a17, .ref a18, .ref a19, .int f_rows, .ref a20, .ref a21])), (a1, gk_J G 6 f_members), (a2, gk_I G 6 f_kind)] (some (.int rv)) [(a0, .inr (5, [.int f_n, .ref a1, .ref a2, .ref a3, .ref a4, .int f_keptN, .ref a5, .ref a6, .ref a7, .ref a8, .ref a9, .ref a10, .ref a11, .ref a12, .ref a13, .ref a14, .ref a15, .ref a16, .int f_side, .ref a17, .ref a18, .ref a19, .int f_rows, .ref a20, .ref a21])), (a1, gk_J G 6 f_members), (a2, gk_I G 6 f_kind)] :=
  gk_of (by decide) rfl (Nat.le_of_ble_eq_true rfl) (fun p e s m below meth c A ls C h hl => w_X6_of_0 C hm (fun v0 ez => by cases ez; rfl) h (show lv_has ls 3 [(0, .ref a0), (1, .int x1), (2, .int x2)] from hl))

/-! ===== ExchangeFamiliesModel.taken(II)I ===== -/
abbrev rm_X6_taken : Room := { frames := 5, cells := 0, slots := 0, locals := 237 }
theorem k_X6_taken_0 : Cond.constantLong RX6 84 (5) ∈ wsX6_taken := by decide +kernel
theorem k_X6_taken_1 : ∀ w ∈ u_ws RX6 TX6 25, w ∈ wsX6_taken := by decide +kernel
theorem k_X6_taken_2 : Cond.fieldLink RX6 19 "ExchangeFamiliesModel" "kind" "[I" ∈ wsX6_taken := by decide +kernel
theorem k_X6_taken_3 : Cond.fieldLink RX6 15 "ExchangeFamiliesModel" "members" "[J" ∈ wsX6_taken := by decide +kernel
def m_X6_taken_J69 (f_members : (Nat → Int64)) (f_kind : (Nat → Int32)) (x1 : Int32) (s0 : Int32) : Option (Int32) := (if s0 = (0 : Int32) then some (-13 : Int32) else gk_ix x1 6 (gk_bd1 (m_X6_size (f_members x1.toNatClampNeg)) (fun r16 => some r16)))
set_option maxRecDepth 100000 in
set_option maxHeartbeats 4000000 in
theorem w_X6_taken_J69 {p : Program} {l : Launch} {e : Env} {s : State} {m : MethodId} {args : Array Value} {below : List Frame} {meth : Method} {c : Code} {G : gk_G} {A : Nat → Prop} {Q : State → Prop} {a0 a1 a2 a3 a4 a5 a6 a7 a8 a9 a10 a11 a12 a13 a14 a15 a16 a17 a18 a19 a20 a21 : Nat} (C : gk_C p s m args meth c cX6_taken 4 (some .int) yX6_taken wsX6_taken false G A) {f_members : (Nat → Int64)} {f_kind : (Nat → Int32)} {x1 : Int32} {s0 : Int32} {f_n : Int32} {f_keptN : Int32} {f_side : Int32} {f_rows : Int32} {yy : Int32} (hm : m_X6_taken_J69 f_members f_kind x1 s0 = some yy) (kr : ∀ (rv : Int32), yy = rv → Q = MQ below (gk_Q G (some (.int rv)) [(a0, .inr (5, [.int f_n, .ref a1, .ref a2, .ref a3, .ref a4, .int f_keptN, .ref a5, .ref a6, .ref a7, .ref a8, .ref a9, .ref a10, .ref a11, .ref a12, .ref a13, .ref a14, .ref a15, .ref a16, .int f_side, .ref a17, .ref a18, .ref a19, .int f_rows, .ref a20, .ref a21])), (a1, gk_J G 6 f_members), (a2, gk_I G 6 f_kind)] A) args s 0 0 A) {H : Heap} {locs : List Loc} {ls : Array Slot} (h : gk_H G A s [(a0, .inr (5, [.int f_n, .ref a1, .ref a2, .ref a3, .ref a4, .int f_keptN, .ref a5, .ref a6, .ref a7, .ref a8, .ref a9, .ref a10, .ref a11, .ref a12, .ref a13, .ref a14, .ref a15, .ref a16, .int f_side, .ref a17, .ref a18, .ref a19, .int f_rows, .ref a20, .ref a21])), (a1, gk_J G 6 f_members), (a2, gk_I G 6 f_kind)] H locs) (hl : lv_has ls 4 [(0, .ref a0), (1, .int x1)]) : W p l e rm_X6_taken s m args below meth c H locs 0 0 Q (F0 m 69 ls [.int s0]) := by
  obtain ⟨hx, hb, hml, hr, hown, hnm, hts, hlk, hK, hSt, hA⟩ := id C
  obtain ⟨hP, hD, hS⟩ := h
  unfold m_X6_taken_J69 at hm
  refine lv_istore_n (lv' := [(3, .int s0), (0, .ref a0), (1, .int x1)]) hx hb dX6_taken_69 rfl hl (by decide) rfl (fun ls hl => ?_)
  refine lv_iload_n hx hb dX6_taken_70 rfl (lv_at hl 0 rfl) ?_
  refine lv_if_eq (tgt := 87) hx hb dX6_taken_71 (by decide) (fun c15 => ?_) (fun c15 => ?_)
  · have hm := gk_it c15 hm
    refine lv_bipush (v := -13) hx hb dX6_taken_87 (by decide) ?_
    rw [kr _ (Option.some.inj hm).symm]
    exact gk_iret C ⟨hP, hD, hS⟩ dX6_taken_89
  · have hm := gk_if c15 hm
    refine lv_aload_n hx hb dX6_taken_74 rfl (lv_at hl 1 rfl) ?_
    refine lv_aload_n hx hb dX6_taken_75 rfl (lv_at hl 1 rfl) ?_
    refine va_get (D := G.1) (cl := vwCl) (own := RX6) (ref := "ExchangeFamiliesModel") (ci := 5) (v := .ref a1) (C := RX6) (T := TX6) (N := 25) hx hb hts k_X6_taken_1 hown hK hP 0 rfl rfl 1 (by decide) (hts _ k_X6_taken_3) (fun _ h9 => h9) rfl dX6_taken_76 ?_
    refine lv_iload_n hx hb dX6_taken_79 rfl (lv_at hl 2 rfl) ?_
    obtain ⟨hi, hm⟩ := gk_ix_some hm
    refine va_lald hx hb hK hP 1 1 rfl rfl hi dX6_taken_80 ?_
    obtain ⟨r16, hq, hm⟩ := gk_bd1_some hm
    refine gk_callV (n := 1) (bytes := cX6_size) (maxL := 5) (ret := (some .int)) (Cn := RX6) (T := TX6) (N := 25) [(a1, gk_J G 6 f_members), (a2, gk_I G 6 f_kind)] [(a0, .inr (5, [.int f_n, .ref a1, .ref a2, .ref a3, .ref a4, .int f_keptN, .ref a5, .ref a6, .ref a7, .ref a8, .ref a9, .ref a10, .ref a11, .ref a12, .ref a13, .ref a14, .ref a15, .ref a16, .int f_side, .ref a17, .ref a18, .ref a19, .int f_rows, .ref a20, .ref a21])), (a1, gk_J G 6 f_members), (a2, gk_I G 6 f_kind)] [] C ⟨hP, hD, hS⟩ (c_X6_size l G a0 a1 a2 a3 a4 a5 a6 a7 a8 a9 a10 a11 a12 a13 a14 a15 a16 a17 a18 a19 a20 a21 f_n f_keptN f_side f_rows (f_members x1.toNatClampNeg) hq) gX6_taken_X6_size dX6_taken_81 hl.1 [0] [1, 2] [2, 0, 1] rfl rfl ⟨rfl, rfl⟩ ⟨Nat.le_of_ble_eq_true rfl, Nat.le_of_ble_eq_true rfl⟩ ⟨rfl, by decide +kernel, by decide +kernel, by decide +kernel⟩ rfl (fun h => by cases h) (Nat.le_of_ble_eq_true rfl) rfl rfl rfl rfl (by decide) rfl rfl (fun H locs h => ?_)
    obtain ⟨hP, hD, hS⟩ := h
    refine lv_goto (tgt := 89) hx hb dX6_taken_84 (by decide) ?_
    rw [kr _ (Option.some.inj hm).symm]
    exact gk_iret C ⟨hP, hD, hS⟩ dX6_taken_89
def m_X6_taken_J64 (f_members : (Nat → Int64)) (f_kind : (Nat → Int32)) (x1 : Int32) : Option (Int32) := m_X6_taken_J69 f_members f_kind x1 (1 : Int32)
set_option maxRecDepth 100000 in
set_option maxHeartbeats 4000000 in
theorem w_X6_taken_J64 {p : Program} {l : Launch} {e : Env} {s : State} {m : MethodId} {args : Array Value} {below : List Frame} {meth : Method} {c : Code} {G : gk_G} {A : Nat → Prop} {Q : State → Prop} {a0 a1 a2 a3 a4 a5 a6 a7 a8 a9 a10 a11 a12 a13 a14 a15 a16 a17 a18 a19 a20 a21 : Nat} (C : gk_C p s m args meth c cX6_taken 4 (some .int) yX6_taken wsX6_taken false G A) {f_members : (Nat → Int64)} {f_kind : (Nat → Int32)} {x1 : Int32} {f_n : Int32} {f_keptN : Int32} {f_side : Int32} {f_rows : Int32} {yy : Int32} (hm : m_X6_taken_J64 f_members f_kind x1 = some yy) (kr : ∀ (rv : Int32), yy = rv → Q = MQ below (gk_Q G (some (.int rv)) [(a0, .inr (5, [.int f_n, .ref a1, .ref a2, .ref a3, .ref a4, .int f_keptN, .ref a5, .ref a6, .ref a7, .ref a8, .ref a9, .ref a10, .ref a11, .ref a12, .ref a13, .ref a14, .ref a15, .ref a16, .int f_side, .ref a17, .ref a18, .ref a19, .int f_rows, .ref a20, .ref a21])), (a1, gk_J G 6 f_members), (a2, gk_I G 6 f_kind)] A) args s 0 0 A) {H : Heap} {locs : List Loc} {ls : Array Slot} (h : gk_H G A s [(a0, .inr (5, [.int f_n, .ref a1, .ref a2, .ref a3, .ref a4, .int f_keptN, .ref a5, .ref a6, .ref a7, .ref a8, .ref a9, .ref a10, .ref a11, .ref a12, .ref a13, .ref a14, .ref a15, .ref a16, .int f_side, .ref a17, .ref a18, .ref a19, .int f_rows, .ref a20, .ref a21])), (a1, gk_J G 6 f_members), (a2, gk_I G 6 f_kind)] H locs) (hl : lv_has ls 4 [(0, .ref a0), (1, .int x1)]) : W p l e rm_X6_taken s m args below meth c H locs 0 0 Q (F0 m 64 ls []) := by
  obtain ⟨hx, hb, hml, hr, hown, hnm, hts, hlk, hK, hSt, hA⟩ := id C
  obtain ⟨hP, hD, hS⟩ := h
  unfold m_X6_taken_J64 at hm
  refine lv_iconst (v := 1) hx hb dX6_taken_64 (by decide) ?_
  refine lv_goto (tgt := 69) hx hb dX6_taken_65 (by decide) ?_
  exact w_X6_taken_J69 C hm kr ⟨hP, hD, hS⟩ (lv_sub hl [0, 1] rfl)
def m_X6_taken_J68 (f_members : (Nat → Int64)) (f_kind : (Nat → Int32)) (x1 : Int32) : Option (Int32) := m_X6_taken_J69 f_members f_kind x1 (0 : Int32)
set_option maxRecDepth 100000 in
set_option maxHeartbeats 4000000 in
theorem w_X6_taken_J68 {p : Program} {l : Launch} {e : Env} {s : State} {m : MethodId} {args : Array Value} {below : List Frame} {meth : Method} {c : Code} {G : gk_G} {A : Nat → Prop} {Q : State → Prop} {a0 a1 a2 a3 a4 a5 a6 a7 a8 a9 a10 a11 a12 a13 a14 a15 a16 a17 a18 a19 a20 a21 : Nat} (C : gk_C p s m args meth c cX6_taken 4 (some .int) yX6_taken wsX6_taken false G A) {f_members : (Nat → Int64)} {f_kind : (Nat → Int32)} {x1 : Int32} {f_n : Int32} {f_keptN : Int32} {f_side : Int32} {f_rows : Int32} {yy : Int32} (hm : m_X6_taken_J68 f_members f_kind x1 = some yy) (kr : ∀ (rv : Int32), yy = rv → Q = MQ below (gk_Q G (some (.int rv)) [(a0, .inr (5, [.int f_n, .ref a1, .ref a2, .ref a3, .ref a4, .int f_keptN, .ref a5, .ref a6, .ref a7, .ref a8, .ref a9, .ref a10, .ref a11, .ref a12, .ref a13, .ref a14, .ref a15, .ref a16, .int f_side, .ref a17, .ref a18, .ref a19, .int f_rows, .ref a20, .ref a21])), (a1, gk_J G 6 f_members), (a2, gk_I G 6 f_kind)] A) args s 0 0 A) {H : Heap} {locs : List Loc} {ls : Array Slot} (h : gk_H G A s [(a0, .inr (5, [.int f_n, .ref a1, .ref a2, .ref a3, .ref a4, .int f_keptN, .ref a5, .ref a6, .ref a7, .ref a8, .ref a9, .ref a10, .ref a11, .ref a12, .ref a13, .ref a14, .ref a15, .ref a16, .int f_side, .ref a17, .ref a18, .ref a19, .int f_rows, .ref a20, .ref a21])), (a1, gk_J G 6 f_members), (a2, gk_I G 6 f_kind)] H locs) (hl : lv_has ls 4 [(0, .ref a0), (1, .int x1)]) : W p l e rm_X6_taken s m args below meth c H locs 0 0 Q (F0 m 68 ls []) := by
  obtain ⟨hx, hb, hml, hr, hown, hnm, hts, hlk, hK, hSt, hA⟩ := id C
  obtain ⟨hP, hD, hS⟩ := h
  unfold m_X6_taken_J68 at hm
  refine lv_iconst (v := 0) hx hb dX6_taken_68 (by decide) ?_
  exact w_X6_taken_J69 C hm kr ⟨hP, hD, hS⟩ (lv_sub hl [0, 1] rfl)
def m_X6_taken_0 (f_members : (Nat → Int64)) (f_kind : (Nat → Int32)) (x1 : Int32) (x2 : Int32) : Option (Int32) := gk_bd1 (m_X6_isFamily x1) (fun r9 => (if r9 = (0 : Int32) then some (-2 : Int32) else gk_bd1 (m_X6_isIn x2.toInt64 (0 : Int64) (5 : Int64)) (fun r11 => (if r11 = (0 : Int32) then some (-2 : Int32) else gk_ix x1 6 ((if (f_kind x1.toNatClampNeg) = (-1 : Int32) then some (-11 : Int32) else (if x2 = (0 : Int32) then m_X6_taken_J64 f_members f_kind x1 else gk_ix x1 6 ((if (f_kind x1.toNatClampNeg) = x2 then m_X6_taken_J64 f_members f_kind x1 else (if x2 = (3 : Int32) then gk_ix x1 6 ((if (f_kind x1.toNatClampNeg) = (5 : Int32) then m_X6_taken_J64 f_members f_kind x1 else m_X6_taken_J68 f_members f_kind x1)) else m_X6_taken_J68 f_members f_kind x1))))))))))
set_option maxRecDepth 100000 in
set_option maxHeartbeats 4000000 in
theorem w_X6_taken_0 {p : Program} {l : Launch} {e : Env} {s : State} {m : MethodId} {args : Array Value} {below : List Frame} {meth : Method} {c : Code} {G : gk_G} {A : Nat → Prop} {Q : State → Prop} {a0 a1 a2 a3 a4 a5 a6 a7 a8 a9 a10 a11 a12 a13 a14 a15 a16 a17 a18 a19 a20 a21 : Nat} (C : gk_C p s m args meth c cX6_taken 4 (some .int) yX6_taken wsX6_taken false G A) {f_members : (Nat → Int64)} {f_kind : (Nat → Int32)} {x1 : Int32} {x2 : Int32} {f_n : Int32} {f_keptN : Int32} {f_side : Int32} {f_rows : Int32} {yy : Int32} (hm : m_X6_taken_0 f_members f_kind x1 x2 = some yy) (kr : ∀ (rv : Int32), yy = rv → Q = MQ below (gk_Q G (some (.int rv)) [(a0, .inr (5, [.int f_n, .ref a1, .ref a2, .ref a3, .ref a4, .int f_keptN, .ref a5, .ref a6, .ref a7, .ref a8, .ref a9, .ref a10, .ref a11, .ref a12, .ref a13, .ref a14, .ref a15, .ref a16, .int f_side, .ref a17, .ref a18, .ref a19, .int f_rows, .ref a20, .ref a21])), (a1, gk_J G 6 f_members), (a2, gk_I G 6 f_kind)] A) args s 0 0 A) {H : Heap} {locs : List Loc} {ls : Array Slot} (h : gk_H G A s [(a0, .inr (5, [.int f_n, .ref a1, .ref a2, .ref a3, .ref a4, .int f_keptN, .ref a5, .ref a6, .ref a7, .ref a8, .ref a9, .ref a10, .ref a11, .ref a12, .ref a13, .ref a14, .ref a15, .ref a16, .int f_side, .ref a17, .ref a18, .ref a19, .int f_rows, .ref a20, .ref a21])), (a1, gk_J G 6 f_members), (a2, gk_I G 6 f_kind)] H locs) (hl : lv_has ls 4 [(0, .ref a0), (1, .int x1), (2, .int x2)]) : W p l e rm_X6_taken s m args below meth c H locs 0 0 Q (F0 m 0 ls []) := by
  obtain ⟨hx, hb, hml, hr, hown, hnm, hts, hlk, hK, hSt, hA⟩ := id C
  obtain ⟨hP, hD, hS⟩ := h
  unfold m_X6_taken_0 at hm
  refine lv_iload_n hx hb dX6_taken_0 rfl (lv_at hl 1 rfl) ?_
  obtain ⟨r9, hq, hm⟩ := gk_bd1_some hm
  refine gk_callS (n := 1) (bytes := cX6_isFamily) (maxL := 1) (ret := (some .boolean)) [(a0, .inr (5, [.int f_n, .ref a1, .ref a2, .ref a3, .ref a4, .int f_keptN, .ref a5, .ref a6, .ref a7, .ref a8, .ref a9, .ref a10, .ref a11, .ref a12, .ref a13, .ref a14, .ref a15, .ref a16, .int f_side, .ref a17, .ref a18, .ref a19, .int f_rows, .ref a20, .ref a21])), (a1, gk_J G 6 f_members), (a2, gk_I G 6 f_kind)] [(a0, .inr (5, [.int f_n, .ref a1, .ref a2, .ref a3, .ref a4, .int f_keptN, .ref a5, .ref a6, .ref a7, .ref a8, .ref a9, .ref a10, .ref a11, .ref a12, .ref a13, .ref a14, .ref a15, .ref a16, .int f_side, .ref a17, .ref a18, .ref a19, .int f_rows, .ref a20, .ref a21])), (a1, gk_J G 6 f_members), (a2, gk_I G 6 f_kind)] [] C ⟨hP, hD, hS⟩ (c_X6_isFamily l G x1 hq) gX6_taken_X6_isFamily dX6_taken_1 hl.1 [] [0, 1, 2] [0, 1, 2] rfl ⟨rfl, rfl⟩ ⟨Nat.le_of_ble_eq_true rfl, Nat.le_of_ble_eq_true rfl⟩ ⟨by decide +kernel, by decide +kernel, by decide +kernel⟩ rfl (fun h => by cases h) (Nat.le_of_ble_eq_true rfl) rfl rfl rfl rfl (by decide) rfl rfl (fun H locs h => ?_)
  obtain ⟨hP, hD, hS⟩ := h
  refine lv_if_eq (tgt := 19) hx hb dX6_taken_4 (by decide) (fun c10 => ?_) (fun c10 => ?_)
  · have hm := gk_it c10 hm
    refine lv_bipush (v := -2) hx hb dX6_taken_19 (by decide) ?_
    rw [kr _ (Option.some.inj hm).symm]
    exact gk_iret C ⟨hP, hD, hS⟩ dX6_taken_21
  · have hm := gk_if c10 hm
    refine lv_iload_n hx hb dX6_taken_7 rfl (lv_at hl 2 rfl) ?_
    refine lv_i2l hx hb dX6_taken_8 rfl ?_
    refine lv_lconst (v := 0) hx hb dX6_taken_9 (by decide) ?_
    refine lv_ldc2 (own := RX6) (v := 5) hx hb hown (hts _ k_X6_taken_0) dX6_taken_10 ?_
    obtain ⟨r11, hq, hm⟩ := gk_bd1_some hm
    refine gk_callS (n := 3) (bytes := cX6_isIn) (maxL := 6) (ret := (some .boolean)) [(a0, .inr (5, [.int f_n, .ref a1, .ref a2, .ref a3, .ref a4, .int f_keptN, .ref a5, .ref a6, .ref a7, .ref a8, .ref a9, .ref a10, .ref a11, .ref a12, .ref a13, .ref a14, .ref a15, .ref a16, .int f_side, .ref a17, .ref a18, .ref a19, .int f_rows, .ref a20, .ref a21])), (a1, gk_J G 6 f_members), (a2, gk_I G 6 f_kind)] [(a0, .inr (5, [.int f_n, .ref a1, .ref a2, .ref a3, .ref a4, .int f_keptN, .ref a5, .ref a6, .ref a7, .ref a8, .ref a9, .ref a10, .ref a11, .ref a12, .ref a13, .ref a14, .ref a15, .ref a16, .int f_side, .ref a17, .ref a18, .ref a19, .int f_rows, .ref a20, .ref a21])), (a1, gk_J G 6 f_members), (a2, gk_I G 6 f_kind)] [] C ⟨hP, hD, hS⟩ (c_X6_isIn l G x2.toInt64 (0 : Int64) (5 : Int64) hq) gX6_taken_X6_isIn dX6_taken_13 hl.1 [] [0, 1, 2] [0, 1, 2] rfl ⟨rfl, rfl⟩ ⟨Nat.le_of_ble_eq_true rfl, Nat.le_of_ble_eq_true rfl⟩ ⟨by decide +kernel, by decide +kernel, by decide +kernel⟩ rfl (fun h => by cases h) (Nat.le_of_ble_eq_true rfl) rfl rfl rfl rfl (by decide) rfl rfl (fun H locs h => ?_)
    obtain ⟨hP, hD, hS⟩ := h
    refine lv_if_ne (tgt := 22) hx hb dX6_taken_16 (by decide) (fun c12 => ?_) (fun c12 => ?_)
    · have hm := gk_if c12 hm
      refine lv_aload_n hx hb dX6_taken_22 rfl (lv_at hl 0 rfl) ?_
      refine va_get (D := G.1) (cl := vwCl) (own := RX6) (ref := "ExchangeFamiliesModel") (ci := 5) (v := .ref a2) (C := RX6) (T := TX6) (N := 25) hx hb hts k_X6_taken_1 hown hK hP 0 rfl rfl 2 (by decide) (hts _ k_X6_taken_2) (fun _ h9 => h9) rfl dX6_taken_23 ?_
      refine lv_iload_n hx hb dX6_taken_26 rfl (lv_at hl 1 rfl) ?_
      obtain ⟨hi, hm⟩ := gk_ix_some hm
      refine va_iald hx hb hK hP 2 0 rfl rfl hi dX6_taken_27 ?_
      refine lv_iconst (v := -1) hx hb dX6_taken_28 (by decide) ?_
      refine lv_icmp_ne (tgt := 35) hx hb dX6_taken_29 (by decide) (fun c13 => ?_) (fun c13 => ?_)
      · have hm := gk_if c13 hm
        refine lv_iload_n hx hb dX6_taken_35 rfl (lv_at hl 2 rfl) ?_
        refine lv_if_eq (tgt := 64) hx hb dX6_taken_36 (by decide) (fun c14 => ?_) (fun c14 => ?_)
        · have hm := gk_it c14 hm
          exact w_X6_taken_J64 C hm kr ⟨hP, hD, hS⟩ (lv_sub hl [0, 1] rfl)
        · have hm := gk_if c14 hm
          refine lv_aload_n hx hb dX6_taken_39 rfl (lv_at hl 0 rfl) ?_
          refine va_get (D := G.1) (cl := vwCl) (own := RX6) (ref := "ExchangeFamiliesModel") (ci := 5) (v := .ref a2) (C := RX6) (T := TX6) (N := 25) hx hb hts k_X6_taken_1 hown hK hP 0 rfl rfl 2 (by decide) (hts _ k_X6_taken_2) (fun _ h9 => h9) rfl dX6_taken_40 ?_
          refine lv_iload_n hx hb dX6_taken_43 rfl (lv_at hl 1 rfl) ?_
          obtain ⟨hi, hm⟩ := gk_ix_some hm
          refine va_iald hx hb hK hP 2 0 rfl rfl hi dX6_taken_44 ?_
          refine lv_iload_n hx hb dX6_taken_45 rfl (lv_at hl 2 rfl) ?_
          refine lv_icmp_eq (tgt := 64) hx hb dX6_taken_46 (by decide) (fun c17 => ?_) (fun c17 => ?_)
          · have hm := gk_it c17 hm
            exact w_X6_taken_J64 C hm kr ⟨hP, hD, hS⟩ (lv_sub hl [0, 1] rfl)
          · have hm := gk_if c17 hm
            refine lv_iload_n hx hb dX6_taken_49 rfl (lv_at hl 2 rfl) ?_
            refine lv_iconst (v := 3) hx hb dX6_taken_50 (by decide) ?_
            refine lv_icmp_ne (tgt := 68) hx hb dX6_taken_51 (by decide) (fun c18 => ?_) (fun c18 => ?_)
            · have hm := gk_if c18 hm
              exact w_X6_taken_J68 C hm kr ⟨hP, hD, hS⟩ (lv_sub hl [0, 1] rfl)
            · have hm := gk_it c18 hm
              refine lv_aload_n hx hb dX6_taken_54 rfl (lv_at hl 0 rfl) ?_
              refine va_get (D := G.1) (cl := vwCl) (own := RX6) (ref := "ExchangeFamiliesModel") (ci := 5) (v := .ref a2) (C := RX6) (T := TX6) (N := 25) hx hb hts k_X6_taken_1 hown hK hP 0 rfl rfl 2 (by decide) (hts _ k_X6_taken_2) (fun _ h9 => h9) rfl dX6_taken_55 ?_
              refine lv_iload_n hx hb dX6_taken_58 rfl (lv_at hl 1 rfl) ?_
              obtain ⟨hi, hm⟩ := gk_ix_some hm
              refine va_iald hx hb hK hP 2 0 rfl rfl hi dX6_taken_59 ?_
              refine lv_iconst (v := 5) hx hb dX6_taken_60 (by decide) ?_
              refine lv_icmp_ne (tgt := 68) hx hb dX6_taken_61 (by decide) (fun c19 => ?_) (fun c19 => ?_)
              · have hm := gk_if c19 hm
                exact w_X6_taken_J68 C hm kr ⟨hP, hD, hS⟩ (lv_sub hl [0, 1] rfl)
              · have hm := gk_it c19 hm
                exact w_X6_taken_J64 C hm kr ⟨hP, hD, hS⟩ (lv_sub hl [0, 1] rfl)
      · have hm := gk_it c13 hm
        refine lv_bipush (v := -11) hx hb dX6_taken_32 (by decide) ?_
        rw [kr _ (Option.some.inj hm).symm]
        exact gk_iret C ⟨hP, hD, hS⟩ dX6_taken_34
    · have hm := gk_it c12 hm
      refine lv_bipush (v := -2) hx hb dX6_taken_19 (by decide) ?_
      rw [kr _ (Option.some.inj hm).symm]
      exact gk_iret C ⟨hP, hD, hS⟩ dX6_taken_21
def m_X6_taken (f_members : (Nat → Int64)) (f_kind : (Nat → Int32)) (x1 : Int32) (x2 : Int32) : Option (Int32) := m_X6_taken_0 f_members f_kind x1 x2
theorem c_X6_taken (l : Launch) (G : gk_G) (a0 a1 a2 a3 a4 a5 a6 a7 a8 a9 a10 a11 a12 a13 a14 a15 a16 a17 a18 a19 a20 a21 : Nat) (f_n : Int32) (f_keptN : Int32) (f_side : Int32) (f_rows : Int32) (f_members : (Nat → Int64)) (f_kind : (Nat → Int32)) (x1 : Int32) (x2 : Int32) {rv : Int32} (hm : m_X6_taken f_members f_kind x1 x2 = some rv) : gk_M l yX6_taken wsX6_taken rm_X6_taken false G [.ref a0, .int x1, .int x2] [(a0, .inr (5, [.int f_n, .ref a1, .ref a2, .ref a3, .ref a4, .int f_keptN, .ref a5, .ref a6, .ref a7, .ref a8, .ref a9, .ref a10, .ref a11, .ref a12, .ref a13, .ref a14, .ref a15, .ref a16, .int f_side, .ref a17, .ref a18, .ref a19, .int f_rows, .ref a20, .ref a21])), (a1, gk_J G 6 f_members), (a2, gk_I G 6 f_kind)] (some (.int rv)) [(a0, .inr (5, [.int f_n, .ref a1, .ref a2, .ref a3, .ref a4, .int f_keptN, .ref a5, .ref a6, .ref a7, .ref a8, .ref a9, .ref a10, .ref a11, .ref a12, .ref a13, .ref a14, .ref a15, .ref a16, .int f_side, .ref a17, .ref a18, .ref a19, .int f_rows, .ref a20, .ref a21])), (a1, gk_J G 6 f_members), (a2, gk_I G 6 f_kind)] :=
  gk_of (by decide) rfl (Nat.le_of_ble_eq_true rfl) (fun p e s m below meth c A ls C h hl => w_X6_taken_0 C hm (fun v0 ez => by cases ez; rfl) h (show lv_has ls 4 [(0, .ref a0), (1, .int x1), (2, .int x2)] from hl))

/-! ===== ExchangeFamiliesModel.fails(II)I ===== -/
abbrev rm_X6_fails : Room := { frames := 7, cells := 0, slots := 0, locals := 328 }
theorem k_X6_fails_0 : Cond.constantLong RX6 146 (2) ∈ wsX6_fails := by decide +kernel
theorem k_X6_fails_1 : ∀ w ∈ u_ws RX6 TX6 25, w ∈ wsX6_fails := by decide +kernel
theorem k_X6_fails_2 : Cond.fieldLink RX6 19 "ExchangeFamiliesModel" "kind" "[I" ∈ wsX6_fails := by decide +kernel
def m_X6_fails_0 (f_n : Int32) (f_members : (Nat → Int64)) (f_kind : (Nat → Int32)) (x1 : Int32) (x2 : Int32) : Option (Int32) := gk_bd1 (m_X6_isFamily x1) (fun r4 => (if r4 = (0 : Int32) then some (-2 : Int32) else gk_bd1 (m_X6_isIn x2.toInt64 (0 : Int64) (2 : Int64)) (fun r6 => (if r6 = (0 : Int32) then some (-2 : Int32) else gk_ix x1 6 ((if (f_kind x1.toNatClampNeg) = (-1 : Int32) then some (-11 : Int32) else gk_bd1 (m_X6_failing f_n f_members x1 x2) (fun r9 => some r9)))))))
set_option maxRecDepth 100000 in
set_option maxHeartbeats 4000000 in
theorem w_X6_fails_0 {p : Program} {l : Launch} {e : Env} {s : State} {m : MethodId} {args : Array Value} {below : List Frame} {meth : Method} {c : Code} {G : gk_G} {A : Nat → Prop} {Q : State → Prop} {a0 a1 a2 a3 a4 a5 a6 a7 a8 a9 a10 a11 a12 a13 a14 a15 a16 a17 a18 a19 a20 a21 : Nat} (C : gk_C p s m args meth c cX6_fails 3 (some .int) yX6_fails wsX6_fails false G A) {f_n : Int32} {f_members : (Nat → Int64)} {f_kind : (Nat → Int32)} {x1 : Int32} {x2 : Int32} {f_keptN : Int32} {f_side : Int32} {f_rows : Int32} {yy : Int32} (hm : m_X6_fails_0 f_n f_members f_kind x1 x2 = some yy) (kr : ∀ (rv : Int32), yy = rv → Q = MQ below (gk_Q G (some (.int rv)) [(a0, .inr (5, [.int f_n, .ref a1, .ref a2, .ref a3, .ref a4, .int f_keptN, .ref a5, .ref a6, .ref a7, .ref a8, .ref a9, .ref a10, .ref a11, .ref a12, .ref a13, .ref a14, .ref a15, .ref a16, .int f_side, .ref a17, .ref a18, .ref a19, .int f_rows, .ref a20, .ref a21])), (a1, gk_J G 6 f_members), (a2, gk_I G 6 f_kind)] A) args s 0 0 A) {H : Heap} {locs : List Loc} {ls : Array Slot} (h : gk_H G A s [(a0, .inr (5, [.int f_n, .ref a1, .ref a2, .ref a3, .ref a4, .int f_keptN, .ref a5, .ref a6, .ref a7, .ref a8, .ref a9, .ref a10, .ref a11, .ref a12, .ref a13, .ref a14, .ref a15, .ref a16, .int f_side, .ref a17, .ref a18, .ref a19, .int f_rows, .ref a20, .ref a21])), (a1, gk_J G 6 f_members), (a2, gk_I G 6 f_kind)] H locs) (hl : lv_has ls 3 [(0, .ref a0), (1, .int x1), (2, .int x2)]) : W p l e rm_X6_fails s m args below meth c H locs 0 0 Q (F0 m 0 ls []) := by
  obtain ⟨hx, hb, hml, hr, hown, hnm, hts, hlk, hK, hSt, hA⟩ := id C
  obtain ⟨hP, hD, hS⟩ := h
  unfold m_X6_fails_0 at hm
  refine lv_iload_n hx hb dX6_fails_0 rfl (lv_at hl 1 rfl) ?_
  obtain ⟨r4, hq, hm⟩ := gk_bd1_some hm
  refine gk_callS (n := 1) (bytes := cX6_isFamily) (maxL := 1) (ret := (some .boolean)) [(a0, .inr (5, [.int f_n, .ref a1, .ref a2, .ref a3, .ref a4, .int f_keptN, .ref a5, .ref a6, .ref a7, .ref a8, .ref a9, .ref a10, .ref a11, .ref a12, .ref a13, .ref a14, .ref a15, .ref a16, .int f_side, .ref a17, .ref a18, .ref a19, .int f_rows, .ref a20, .ref a21])), (a1, gk_J G 6 f_members), (a2, gk_I G 6 f_kind)] [(a0, .inr (5, [.int f_n, .ref a1, .ref a2, .ref a3, .ref a4, .int f_keptN, .ref a5, .ref a6, .ref a7, .ref a8, .ref a9, .ref a10, .ref a11, .ref a12, .ref a13, .ref a14, .ref a15, .ref a16, .int f_side, .ref a17, .ref a18, .ref a19, .int f_rows, .ref a20, .ref a21])), (a1, gk_J G 6 f_members), (a2, gk_I G 6 f_kind)] [] C ⟨hP, hD, hS⟩ (c_X6_isFamily l G x1 hq) gX6_fails_X6_isFamily dX6_fails_1 hl.1 [] [0, 1, 2] [0, 1, 2] rfl ⟨rfl, rfl⟩ ⟨Nat.le_of_ble_eq_true rfl, Nat.le_of_ble_eq_true rfl⟩ ⟨by decide +kernel, by decide +kernel, by decide +kernel⟩ rfl (fun h => by cases h) (Nat.le_of_ble_eq_true rfl) rfl rfl rfl rfl (by decide) rfl rfl (fun H locs h => ?_)
  obtain ⟨hP, hD, hS⟩ := h
  refine lv_if_eq (tgt := 19) hx hb dX6_fails_4 (by decide) (fun c5 => ?_) (fun c5 => ?_)
  · have hm := gk_it c5 hm
    refine lv_bipush (v := -2) hx hb dX6_fails_19 (by decide) ?_
    rw [kr _ (Option.some.inj hm).symm]
    exact gk_iret C ⟨hP, hD, hS⟩ dX6_fails_21
  · have hm := gk_if c5 hm
    refine lv_iload_n hx hb dX6_fails_7 rfl (lv_at hl 2 rfl) ?_
    refine lv_i2l hx hb dX6_fails_8 rfl ?_
    refine lv_lconst (v := 0) hx hb dX6_fails_9 (by decide) ?_
    refine lv_ldc2 (own := RX6) (v := 2) hx hb hown (hts _ k_X6_fails_0) dX6_fails_10 ?_
    obtain ⟨r6, hq, hm⟩ := gk_bd1_some hm
    refine gk_callS (n := 3) (bytes := cX6_isIn) (maxL := 6) (ret := (some .boolean)) [(a0, .inr (5, [.int f_n, .ref a1, .ref a2, .ref a3, .ref a4, .int f_keptN, .ref a5, .ref a6, .ref a7, .ref a8, .ref a9, .ref a10, .ref a11, .ref a12, .ref a13, .ref a14, .ref a15, .ref a16, .int f_side, .ref a17, .ref a18, .ref a19, .int f_rows, .ref a20, .ref a21])), (a1, gk_J G 6 f_members), (a2, gk_I G 6 f_kind)] [(a0, .inr (5, [.int f_n, .ref a1, .ref a2, .ref a3, .ref a4, .int f_keptN, .ref a5, .ref a6, .ref a7, .ref a8, .ref a9, .ref a10, .ref a11, .ref a12, .ref a13, .ref a14, .ref a15, .ref a16, .int f_side, .ref a17, .ref a18, .ref a19, .int f_rows, .ref a20, .ref a21])), (a1, gk_J G 6 f_members), (a2, gk_I G 6 f_kind)] [] C ⟨hP, hD, hS⟩ (c_X6_isIn l G x2.toInt64 (0 : Int64) (2 : Int64) hq) gX6_fails_X6_isIn dX6_fails_13 hl.1 [] [0, 1, 2] [0, 1, 2] rfl ⟨rfl, rfl⟩ ⟨Nat.le_of_ble_eq_true rfl, Nat.le_of_ble_eq_true rfl⟩ ⟨by decide +kernel, by decide +kernel, by decide +kernel⟩ rfl (fun h => by cases h) (Nat.le_of_ble_eq_true rfl) rfl rfl rfl rfl (by decide) rfl rfl (fun H locs h => ?_)
    obtain ⟨hP, hD, hS⟩ := h
    refine lv_if_ne (tgt := 22) hx hb dX6_fails_16 (by decide) (fun c7 => ?_) (fun c7 => ?_)
    · have hm := gk_if c7 hm
      refine lv_aload_n hx hb dX6_fails_22 rfl (lv_at hl 0 rfl) ?_
      refine va_get (D := G.1) (cl := vwCl) (own := RX6) (ref := "ExchangeFamiliesModel") (ci := 5) (v := .ref a2) (C := RX6) (T := TX6) (N := 25) hx hb hts k_X6_fails_1 hown hK hP 0 rfl rfl 2 (by decide) (hts _ k_X6_fails_2) (fun _ h9 => h9) rfl dX6_fails_23 ?_
      refine lv_iload_n hx hb dX6_fails_26 rfl (lv_at hl 1 rfl) ?_
      obtain ⟨hi, hm⟩ := gk_ix_some hm
      refine va_iald hx hb hK hP 2 0 rfl rfl hi dX6_fails_27 ?_
      refine lv_iconst (v := -1) hx hb dX6_fails_28 (by decide) ?_
      refine lv_icmp_ne (tgt := 37) hx hb dX6_fails_29 (by decide) (fun c8 => ?_) (fun c8 => ?_)
      · have hm := gk_if c8 hm
        refine lv_aload_n hx hb dX6_fails_37 rfl (lv_at hl 0 rfl) ?_
        refine lv_iload_n hx hb dX6_fails_38 rfl (lv_at hl 1 rfl) ?_
        refine lv_iload_n hx hb dX6_fails_39 rfl (lv_at hl 2 rfl) ?_
        obtain ⟨r9, hq, hm⟩ := gk_bd1_some hm
        refine gk_callV (n := 2) (bytes := cX6_failing) (maxL := 6) (ret := (some .int)) (Cn := RX6) (T := TX6) (N := 25) [(a2, gk_I G 6 f_kind)] [(a0, .inr (5, [.int f_n, .ref a1, .ref a2, .ref a3, .ref a4, .int f_keptN, .ref a5, .ref a6, .ref a7, .ref a8, .ref a9, .ref a10, .ref a11, .ref a12, .ref a13, .ref a14, .ref a15, .ref a16, .int f_side, .ref a17, .ref a18, .ref a19, .int f_rows, .ref a20, .ref a21])), (a1, gk_J G 6 f_members), (a2, gk_I G 6 f_kind)] [] C ⟨hP, hD, hS⟩ (c_X6_failing l G a0 a1 a2 a3 a4 a5 a6 a7 a8 a9 a10 a11 a12 a13 a14 a15 a16 a17 a18 a19 a20 a21 f_n f_keptN f_side f_rows f_members x1 x2 hq) gX6_fails_X6_failing dX6_fails_40 hl.1 [0, 1] [2] [1, 2, 0] rfl rfl ⟨rfl, rfl⟩ ⟨Nat.le_of_ble_eq_true rfl, Nat.le_of_ble_eq_true rfl⟩ ⟨rfl, by decide +kernel, by decide +kernel, by decide +kernel⟩ rfl (fun h => by cases h) (Nat.le_of_ble_eq_true rfl) rfl rfl rfl rfl (by decide) rfl rfl (fun H locs h => ?_)
        obtain ⟨hP, hD, hS⟩ := h
        rw [kr _ (Option.some.inj hm).symm]
        exact gk_iret C ⟨hP, hD, hS⟩ dX6_fails_43
      · have hm := gk_it c8 hm
        refine lv_bipush (v := -11) hx hb dX6_fails_32 (by decide) ?_
        refine lv_goto (tgt := 43) hx hb dX6_fails_34 (by decide) ?_
        rw [kr _ (Option.some.inj hm).symm]
        exact gk_iret C ⟨hP, hD, hS⟩ dX6_fails_43
    · have hm := gk_it c7 hm
      refine lv_bipush (v := -2) hx hb dX6_fails_19 (by decide) ?_
      rw [kr _ (Option.some.inj hm).symm]
      exact gk_iret C ⟨hP, hD, hS⟩ dX6_fails_21
def m_X6_fails (f_n : Int32) (f_members : (Nat → Int64)) (f_kind : (Nat → Int32)) (x1 : Int32) (x2 : Int32) : Option (Int32) := m_X6_fails_0 f_n f_members f_kind x1 x2
theorem c_X6_fails (l : Launch) (G : gk_G) (a0 a1 a2 a3 a4 a5 a6 a7 a8 a9 a10 a11 a12 a13 a14 a15 a16 a17 a18 a19 a20 a21 : Nat) (f_n : Int32) (f_keptN : Int32) (f_side : Int32) (f_rows : Int32) (f_members : (Nat → Int64)) (f_kind : (Nat → Int32)) (x1 : Int32) (x2 : Int32) {rv : Int32} (hm : m_X6_fails f_n f_members f_kind x1 x2 = some rv) : gk_M l yX6_fails wsX6_fails rm_X6_fails false G [.ref a0, .int x1, .int x2] [(a0, .inr (5, [.int f_n, .ref a1, .ref a2, .ref a3, .ref a4, .int f_keptN, .ref a5, .ref a6, .ref a7, .ref a8, .ref a9, .ref a10, .ref a11, .ref a12, .ref a13, .ref a14, .ref a15, .ref a16, .int f_side, .ref a17, .ref a18, .ref a19, .int f_rows, .ref a20, .ref a21])), (a1, gk_J G 6 f_members), (a2, gk_I G 6 f_kind)] (some (.int rv)) [(a0, .inr (5, [.int f_n, .ref a1, .ref a2, .ref a3, .ref a4, .int f_keptN, .ref a5, .ref a6, .ref a7, .ref a8, .ref a9, .ref a10, .ref a11, .ref a12, .ref a13, .ref a14, .ref a15, .ref a16, .int f_side, .ref a17, .ref a18, .ref a19, .int f_rows, .ref a20, .ref a21])), (a1, gk_J G 6 f_members), (a2, gk_I G 6 f_kind)] :=
  gk_of (by decide) rfl (Nat.le_of_ble_eq_true rfl) (fun p e s m below meth c A ls C h hl => w_X6_fails_0 C hm (fun v0 ez => by cases ez; rfl) h (show lv_has ls 3 [(0, .ref a0), (1, .int x1), (2, .int x2)] from hl))

/-! ===== ExchangeFamiliesModel.partner(IIII)I ===== -/
abbrev rm_X6_partner : Room := { frames := 5, cells := 0, slots := 0, locals := 239 }
theorem k_X6_partner_0 : ∀ w ∈ u_ws RX6 TX6 25, w ∈ wsX6_partner := by decide +kernel
theorem k_X6_partner_1 : Cond.fieldLink RX6 19 "ExchangeFamiliesModel" "kind" "[I" ∈ wsX6_partner := by decide +kernel
def m_X6_partner_0 (f_n : Int32) (f_members : (Nat → Int64)) (f_kind : (Nat → Int32)) (x1 : Int32) (x2 : Int32) (x3 : Int32) (x4 : Int32) : Option (Int32) := gk_bd1 (m_X6_isFamily x1) (fun r9 => (if r9 = (0 : Int32) then some (-2 : Int32) else gk_bd1 (m_X6_isSet f_n x2) (fun r11 => (if r11 = (0 : Int32) then some (-2 : Int32) else gk_bd1 (m_X6_isSet f_n x3) (fun r13 => (if r13 = (0 : Int32) then some (-2 : Int32) else gk_bd1 (m_X6_isPoint f_n x4) (fun r15 => (if r15 = (0 : Int32) then some (-2 : Int32) else gk_ix x1 6 ((if (f_kind x1.toNatClampNeg) = (-1 : Int32) then some (-11 : Int32) else gk_bd1 (m_X6_isMember f_members x1 x2) (fun r18 => (if r18 = (0 : Int32) then some (-3 : Int32) else gk_bd1 (m_X6_isMember f_members x1 x3) (fun r20 => (if r20 = (0 : Int32) then some (-3 : Int32) else (if (((x2 ^^^ x3) >>> (x4 &&& 31)) &&& (1 : Int32)) = (0 : Int32) then some (-3 : Int32) else gk_bd1 (m_X6_partnerOf f_n f_members x1 x2 x3 x4) (fun r23 => some r23))))))))))))))))
set_option maxRecDepth 100000 in
set_option maxHeartbeats 4000000 in
theorem w_X6_partner_0 {p : Program} {l : Launch} {e : Env} {s : State} {m : MethodId} {args : Array Value} {below : List Frame} {meth : Method} {c : Code} {G : gk_G} {A : Nat → Prop} {Q : State → Prop} {a0 a1 a2 a3 a4 a5 a6 a7 a8 a9 a10 a11 a12 a13 a14 a15 a16 a17 a18 a19 a20 a21 : Nat} (C : gk_C p s m args meth c cX6_partner 5 (some .int) yX6_partner wsX6_partner false G A) {f_n : Int32} {f_members : (Nat → Int64)} {f_kind : (Nat → Int32)} {x1 : Int32} {x2 : Int32} {x3 : Int32} {x4 : Int32} {f_keptN : Int32} {f_side : Int32} {f_rows : Int32} {yy : Int32} (hm : m_X6_partner_0 f_n f_members f_kind x1 x2 x3 x4 = some yy) (kr : ∀ (rv : Int32), yy = rv → Q = MQ below (gk_Q G (some (.int rv)) [(a0, .inr (5, [.int f_n, .ref a1, .ref a2, .ref a3, .ref a4, .int f_keptN, .ref a5, .ref a6, .ref a7, .ref a8, .ref a9, .ref a10, .ref a11, .ref a12, .ref a13, .ref a14, .ref a15, .ref a16, .int f_side, .ref a17, .ref a18, .ref a19, .int f_rows, .ref a20, .ref a21])), (a1, gk_J G 6 f_members), (a2, gk_I G 6 f_kind)] A) args s 0 0 A) {H : Heap} {locs : List Loc} {ls : Array Slot} (h : gk_H G A s [(a0, .inr (5, [.int f_n, .ref a1, .ref a2, .ref a3, .ref a4, .int f_keptN, .ref a5, .ref a6, .ref a7, .ref a8, .ref a9, .ref a10, .ref a11, .ref a12, .ref a13, .ref a14, .ref a15, .ref a16, .int f_side, .ref a17, .ref a18, .ref a19, .int f_rows, .ref a20, .ref a21])), (a1, gk_J G 6 f_members), (a2, gk_I G 6 f_kind)] H locs) (hl : lv_has ls 5 [(0, .ref a0), (1, .int x1), (2, .int x2), (3, .int x3), (4, .int x4)]) : W p l e rm_X6_partner s m args below meth c H locs 0 0 Q (F0 m 0 ls []) := by
  obtain ⟨hx, hb, hml, hr, hown, hnm, hts, hlk, hK, hSt, hA⟩ := id C
  obtain ⟨hP, hD, hS⟩ := h
  unfold m_X6_partner_0 at hm
  refine lv_iload_n hx hb dX6_partner_0 rfl (lv_at hl 1 rfl) ?_
  obtain ⟨r9, hq, hm⟩ := gk_bd1_some hm
  refine gk_callS (n := 1) (bytes := cX6_isFamily) (maxL := 1) (ret := (some .boolean)) [(a0, .inr (5, [.int f_n, .ref a1, .ref a2, .ref a3, .ref a4, .int f_keptN, .ref a5, .ref a6, .ref a7, .ref a8, .ref a9, .ref a10, .ref a11, .ref a12, .ref a13, .ref a14, .ref a15, .ref a16, .int f_side, .ref a17, .ref a18, .ref a19, .int f_rows, .ref a20, .ref a21])), (a1, gk_J G 6 f_members), (a2, gk_I G 6 f_kind)] [(a0, .inr (5, [.int f_n, .ref a1, .ref a2, .ref a3, .ref a4, .int f_keptN, .ref a5, .ref a6, .ref a7, .ref a8, .ref a9, .ref a10, .ref a11, .ref a12, .ref a13, .ref a14, .ref a15, .ref a16, .int f_side, .ref a17, .ref a18, .ref a19, .int f_rows, .ref a20, .ref a21])), (a1, gk_J G 6 f_members), (a2, gk_I G 6 f_kind)] [] C ⟨hP, hD, hS⟩ (c_X6_isFamily l G x1 hq) gX6_partner_X6_isFamily dX6_partner_1 hl.1 [] [0, 1, 2] [0, 1, 2] rfl ⟨rfl, rfl⟩ ⟨Nat.le_of_ble_eq_true rfl, Nat.le_of_ble_eq_true rfl⟩ ⟨by decide +kernel, by decide +kernel, by decide +kernel⟩ rfl (fun h => by cases h) (Nat.le_of_ble_eq_true rfl) rfl rfl rfl rfl (by decide) rfl rfl (fun H locs h => ?_)
  obtain ⟨hP, hD, hS⟩ := h
  refine lv_if_eq (tgt := 32) hx hb dX6_partner_4 (by decide) (fun c10 => ?_) (fun c10 => ?_)
  · have hm := gk_it c10 hm
    refine lv_bipush (v := -2) hx hb dX6_partner_32 (by decide) ?_
    rw [kr _ (Option.some.inj hm).symm]
    exact gk_iret C ⟨hP, hD, hS⟩ dX6_partner_34
  · have hm := gk_if c10 hm
    refine lv_aload_n hx hb dX6_partner_7 rfl (lv_at hl 0 rfl) ?_
    refine lv_iload_n hx hb dX6_partner_8 rfl (lv_at hl 2 rfl) ?_
    obtain ⟨r11, hq, hm⟩ := gk_bd1_some hm
    refine gk_callV (n := 1) (bytes := cX6_isSet) (maxL := 2) (ret := (some .boolean)) (Cn := RX6) (T := TX6) (N := 25) [(a1, gk_J G 6 f_members), (a2, gk_I G 6 f_kind)] [(a0, .inr (5, [.int f_n, .ref a1, .ref a2, .ref a3, .ref a4, .int f_keptN, .ref a5, .ref a6, .ref a7, .ref a8, .ref a9, .ref a10, .ref a11, .ref a12, .ref a13, .ref a14, .ref a15, .ref a16, .int f_side, .ref a17, .ref a18, .ref a19, .int f_rows, .ref a20, .ref a21])), (a1, gk_J G 6 f_members), (a2, gk_I G 6 f_kind)] [] C ⟨hP, hD, hS⟩ (c_X6_isSet l G a0 a1 a2 a3 a4 a5 a6 a7 a8 a9 a10 a11 a12 a13 a14 a15 a16 a17 a18 a19 a20 a21 f_n f_keptN f_side f_rows x2 hq) gX6_partner_X6_isSet dX6_partner_9 hl.1 [0] [1, 2] [2, 0, 1] rfl rfl ⟨rfl, rfl⟩ ⟨Nat.le_of_ble_eq_true rfl, Nat.le_of_ble_eq_true rfl⟩ ⟨rfl, by decide +kernel, by decide +kernel, by decide +kernel⟩ rfl (fun h => by cases h) (Nat.le_of_ble_eq_true rfl) rfl rfl rfl rfl (by decide) rfl rfl (fun H locs h => ?_)
    obtain ⟨hP, hD, hS⟩ := h
    refine lv_if_eq (tgt := 32) hx hb dX6_partner_12 (by decide) (fun c12 => ?_) (fun c12 => ?_)
    · have hm := gk_it c12 hm
      refine lv_bipush (v := -2) hx hb dX6_partner_32 (by decide) ?_
      rw [kr _ (Option.some.inj hm).symm]
      exact gk_iret C ⟨hP, hD, hS⟩ dX6_partner_34
    · have hm := gk_if c12 hm
      refine lv_aload_n hx hb dX6_partner_15 rfl (lv_at hl 0 rfl) ?_
      refine lv_iload_n hx hb dX6_partner_16 rfl (lv_at hl 3 rfl) ?_
      obtain ⟨r13, hq, hm⟩ := gk_bd1_some hm
      refine gk_callV (n := 1) (bytes := cX6_isSet) (maxL := 2) (ret := (some .boolean)) (Cn := RX6) (T := TX6) (N := 25) [(a1, gk_J G 6 f_members), (a2, gk_I G 6 f_kind)] [(a0, .inr (5, [.int f_n, .ref a1, .ref a2, .ref a3, .ref a4, .int f_keptN, .ref a5, .ref a6, .ref a7, .ref a8, .ref a9, .ref a10, .ref a11, .ref a12, .ref a13, .ref a14, .ref a15, .ref a16, .int f_side, .ref a17, .ref a18, .ref a19, .int f_rows, .ref a20, .ref a21])), (a1, gk_J G 6 f_members), (a2, gk_I G 6 f_kind)] [] C ⟨hP, hD, hS⟩ (c_X6_isSet l G a0 a1 a2 a3 a4 a5 a6 a7 a8 a9 a10 a11 a12 a13 a14 a15 a16 a17 a18 a19 a20 a21 f_n f_keptN f_side f_rows x3 hq) gX6_partner_X6_isSet dX6_partner_17 hl.1 [0] [1, 2] [2, 0, 1] rfl rfl ⟨rfl, rfl⟩ ⟨Nat.le_of_ble_eq_true rfl, Nat.le_of_ble_eq_true rfl⟩ ⟨rfl, by decide +kernel, by decide +kernel, by decide +kernel⟩ rfl (fun h => by cases h) (Nat.le_of_ble_eq_true rfl) rfl rfl rfl rfl (by decide) rfl rfl (fun H locs h => ?_)
      obtain ⟨hP, hD, hS⟩ := h
      refine lv_if_eq (tgt := 32) hx hb dX6_partner_20 (by decide) (fun c14 => ?_) (fun c14 => ?_)
      · have hm := gk_it c14 hm
        refine lv_bipush (v := -2) hx hb dX6_partner_32 (by decide) ?_
        rw [kr _ (Option.some.inj hm).symm]
        exact gk_iret C ⟨hP, hD, hS⟩ dX6_partner_34
      · have hm := gk_if c14 hm
        refine lv_aload_n hx hb dX6_partner_23 rfl (lv_at hl 0 rfl) ?_
        refine lv_iload hx hb dX6_partner_24 (lv_at hl 4 rfl) ?_
        obtain ⟨r15, hq, hm⟩ := gk_bd1_some hm
        refine gk_callV (n := 1) (bytes := cX6_isPoint) (maxL := 2) (ret := (some .boolean)) (Cn := RX6) (T := TX6) (N := 25) [(a1, gk_J G 6 f_members), (a2, gk_I G 6 f_kind)] [(a0, .inr (5, [.int f_n, .ref a1, .ref a2, .ref a3, .ref a4, .int f_keptN, .ref a5, .ref a6, .ref a7, .ref a8, .ref a9, .ref a10, .ref a11, .ref a12, .ref a13, .ref a14, .ref a15, .ref a16, .int f_side, .ref a17, .ref a18, .ref a19, .int f_rows, .ref a20, .ref a21])), (a1, gk_J G 6 f_members), (a2, gk_I G 6 f_kind)] [] C ⟨hP, hD, hS⟩ (c_X6_isPoint l G a0 a1 a2 a3 a4 a5 a6 a7 a8 a9 a10 a11 a12 a13 a14 a15 a16 a17 a18 a19 a20 a21 f_n f_keptN f_side f_rows x4 hq) gX6_partner_X6_isPoint dX6_partner_26 hl.1 [0] [1, 2] [2, 0, 1] rfl rfl ⟨rfl, rfl⟩ ⟨Nat.le_of_ble_eq_true rfl, Nat.le_of_ble_eq_true rfl⟩ ⟨rfl, by decide +kernel, by decide +kernel, by decide +kernel⟩ rfl (fun h => by cases h) (Nat.le_of_ble_eq_true rfl) rfl rfl rfl rfl (by decide) rfl rfl (fun H locs h => ?_)
        obtain ⟨hP, hD, hS⟩ := h
        refine lv_if_ne (tgt := 35) hx hb dX6_partner_29 (by decide) (fun c16 => ?_) (fun c16 => ?_)
        · have hm := gk_if c16 hm
          refine lv_aload_n hx hb dX6_partner_35 rfl (lv_at hl 0 rfl) ?_
          refine va_get (D := G.1) (cl := vwCl) (own := RX6) (ref := "ExchangeFamiliesModel") (ci := 5) (v := .ref a2) (C := RX6) (T := TX6) (N := 25) hx hb hts k_X6_partner_0 hown hK hP 0 rfl rfl 2 (by decide) (hts _ k_X6_partner_1) (fun _ h9 => h9) rfl dX6_partner_36 ?_
          refine lv_iload_n hx hb dX6_partner_39 rfl (lv_at hl 1 rfl) ?_
          obtain ⟨hi, hm⟩ := gk_ix_some hm
          refine va_iald hx hb hK hP 2 0 rfl rfl hi dX6_partner_40 ?_
          refine lv_iconst (v := -1) hx hb dX6_partner_41 (by decide) ?_
          refine lv_icmp_ne (tgt := 48) hx hb dX6_partner_42 (by decide) (fun c17 => ?_) (fun c17 => ?_)
          · have hm := gk_if c17 hm
            refine lv_aload_n hx hb dX6_partner_48 rfl (lv_at hl 0 rfl) ?_
            refine lv_iload_n hx hb dX6_partner_49 rfl (lv_at hl 1 rfl) ?_
            refine lv_iload_n hx hb dX6_partner_50 rfl (lv_at hl 2 rfl) ?_
            obtain ⟨r18, hq, hm⟩ := gk_bd1_some hm
            refine gk_callV (n := 2) (bytes := cX6_isMember) (maxL := 3) (ret := (some .boolean)) (Cn := RX6) (T := TX6) (N := 25) [(a2, gk_I G 6 f_kind)] [(a0, .inr (5, [.int f_n, .ref a1, .ref a2, .ref a3, .ref a4, .int f_keptN, .ref a5, .ref a6, .ref a7, .ref a8, .ref a9, .ref a10, .ref a11, .ref a12, .ref a13, .ref a14, .ref a15, .ref a16, .int f_side, .ref a17, .ref a18, .ref a19, .int f_rows, .ref a20, .ref a21])), (a1, gk_J G 6 f_members), (a2, gk_I G 6 f_kind)] [] C ⟨hP, hD, hS⟩ (c_X6_isMember l G a0 a1 a2 a3 a4 a5 a6 a7 a8 a9 a10 a11 a12 a13 a14 a15 a16 a17 a18 a19 a20 a21 f_n f_keptN f_side f_rows f_members x1 x2 hq) gX6_partner_X6_isMember dX6_partner_51 hl.1 [0, 1] [2] [1, 2, 0] rfl rfl ⟨rfl, rfl⟩ ⟨Nat.le_of_ble_eq_true rfl, Nat.le_of_ble_eq_true rfl⟩ ⟨rfl, by decide +kernel, by decide +kernel, by decide +kernel⟩ rfl (fun h => by cases h) (Nat.le_of_ble_eq_true rfl) rfl rfl rfl rfl (by decide) rfl rfl (fun H locs h => ?_)
            obtain ⟨hP, hD, hS⟩ := h
            refine lv_if_eq (tgt := 77) hx hb dX6_partner_54 (by decide) (fun c19 => ?_) (fun c19 => ?_)
            · have hm := gk_it c19 hm
              refine lv_bipush (v := -3) hx hb dX6_partner_77 (by decide) ?_
              rw [kr _ (Option.some.inj hm).symm]
              exact gk_iret C ⟨hP, hD, hS⟩ dX6_partner_79
            · have hm := gk_if c19 hm
              refine lv_aload_n hx hb dX6_partner_57 rfl (lv_at hl 0 rfl) ?_
              refine lv_iload_n hx hb dX6_partner_58 rfl (lv_at hl 1 rfl) ?_
              refine lv_iload_n hx hb dX6_partner_59 rfl (lv_at hl 3 rfl) ?_
              obtain ⟨r20, hq, hm⟩ := gk_bd1_some hm
              refine gk_callV (n := 2) (bytes := cX6_isMember) (maxL := 3) (ret := (some .boolean)) (Cn := RX6) (T := TX6) (N := 25) [(a2, gk_I G 6 f_kind)] [(a0, .inr (5, [.int f_n, .ref a1, .ref a2, .ref a3, .ref a4, .int f_keptN, .ref a5, .ref a6, .ref a7, .ref a8, .ref a9, .ref a10, .ref a11, .ref a12, .ref a13, .ref a14, .ref a15, .ref a16, .int f_side, .ref a17, .ref a18, .ref a19, .int f_rows, .ref a20, .ref a21])), (a1, gk_J G 6 f_members), (a2, gk_I G 6 f_kind)] [] C ⟨hP, hD, hS⟩ (c_X6_isMember l G a0 a1 a2 a3 a4 a5 a6 a7 a8 a9 a10 a11 a12 a13 a14 a15 a16 a17 a18 a19 a20 a21 f_n f_keptN f_side f_rows f_members x1 x3 hq) gX6_partner_X6_isMember dX6_partner_60 hl.1 [0, 1] [2] [1, 2, 0] rfl rfl ⟨rfl, rfl⟩ ⟨Nat.le_of_ble_eq_true rfl, Nat.le_of_ble_eq_true rfl⟩ ⟨rfl, by decide +kernel, by decide +kernel, by decide +kernel⟩ rfl (fun h => by cases h) (Nat.le_of_ble_eq_true rfl) rfl rfl rfl rfl (by decide) rfl rfl (fun H locs h => ?_)
              obtain ⟨hP, hD, hS⟩ := h
              refine lv_if_eq (tgt := 77) hx hb dX6_partner_63 (by decide) (fun c21 => ?_) (fun c21 => ?_)
              · have hm := gk_it c21 hm
                refine lv_bipush (v := -3) hx hb dX6_partner_77 (by decide) ?_
                rw [kr _ (Option.some.inj hm).symm]
                exact gk_iret C ⟨hP, hD, hS⟩ dX6_partner_79
              · have hm := gk_if c21 hm
                refine lv_iload_n hx hb dX6_partner_66 rfl (lv_at hl 2 rfl) ?_
                refine lv_iload_n hx hb dX6_partner_67 rfl (lv_at hl 3 rfl) ?_
                refine lv_ixor hx hb dX6_partner_68 ?_
                refine lv_iload hx hb dX6_partner_69 (lv_at hl 4 rfl) ?_
                refine lv_ishr hx hb dX6_partner_71 ?_
                refine lv_iconst (v := 1) hx hb dX6_partner_72 (by decide) ?_
                refine lv_iand hx hb dX6_partner_73 ?_
                refine lv_if_ne (tgt := 80) hx hb dX6_partner_74 (by decide) (fun c22 => ?_) (fun c22 => ?_)
                · have hm := gk_if c22 hm
                  refine lv_aload_n hx hb dX6_partner_80 rfl (lv_at hl 0 rfl) ?_
                  refine lv_iload_n hx hb dX6_partner_81 rfl (lv_at hl 1 rfl) ?_
                  refine lv_iload_n hx hb dX6_partner_82 rfl (lv_at hl 2 rfl) ?_
                  refine lv_iload_n hx hb dX6_partner_83 rfl (lv_at hl 3 rfl) ?_
                  refine lv_iload hx hb dX6_partner_84 (lv_at hl 4 rfl) ?_
                  obtain ⟨r23, hq, hm⟩ := gk_bd1_some hm
                  refine gk_callV (n := 4) (bytes := cX6_partnerOf) (maxL := 6) (ret := (some .int)) (Cn := RX6) (T := TX6) (N := 25) [(a2, gk_I G 6 f_kind)] [(a0, .inr (5, [.int f_n, .ref a1, .ref a2, .ref a3, .ref a4, .int f_keptN, .ref a5, .ref a6, .ref a7, .ref a8, .ref a9, .ref a10, .ref a11, .ref a12, .ref a13, .ref a14, .ref a15, .ref a16, .int f_side, .ref a17, .ref a18, .ref a19, .int f_rows, .ref a20, .ref a21])), (a1, gk_J G 6 f_members), (a2, gk_I G 6 f_kind)] [] C ⟨hP, hD, hS⟩ (c_X6_partnerOf l G a0 a1 a2 a3 a4 a5 a6 a7 a8 a9 a10 a11 a12 a13 a14 a15 a16 a17 a18 a19 a20 a21 f_n f_keptN f_side f_rows f_members x1 x2 x3 x4 hq) gX6_partner_X6_partnerOf dX6_partner_86 hl.1 [0, 1] [2] [1, 2, 0] rfl rfl ⟨rfl, rfl⟩ ⟨Nat.le_of_ble_eq_true rfl, Nat.le_of_ble_eq_true rfl⟩ ⟨rfl, by decide +kernel, by decide +kernel, by decide +kernel⟩ rfl (fun h => by cases h) (Nat.le_of_ble_eq_true rfl) rfl rfl rfl rfl (by decide) rfl rfl (fun H locs h => ?_)
                  obtain ⟨hP, hD, hS⟩ := h
                  rw [kr _ (Option.some.inj hm).symm]
                  exact gk_iret C ⟨hP, hD, hS⟩ dX6_partner_89
                · have hm := gk_it c22 hm
                  refine lv_bipush (v := -3) hx hb dX6_partner_77 (by decide) ?_
                  rw [kr _ (Option.some.inj hm).symm]
                  exact gk_iret C ⟨hP, hD, hS⟩ dX6_partner_79
          · have hm := gk_it c17 hm
            refine lv_bipush (v := -11) hx hb dX6_partner_45 (by decide) ?_
            rw [kr _ (Option.some.inj hm).symm]
            exact gk_iret C ⟨hP, hD, hS⟩ dX6_partner_47
        · have hm := gk_it c16 hm
          refine lv_bipush (v := -2) hx hb dX6_partner_32 (by decide) ?_
          rw [kr _ (Option.some.inj hm).symm]
          exact gk_iret C ⟨hP, hD, hS⟩ dX6_partner_34
def m_X6_partner (f_n : Int32) (f_members : (Nat → Int64)) (f_kind : (Nat → Int32)) (x1 : Int32) (x2 : Int32) (x3 : Int32) (x4 : Int32) : Option (Int32) := m_X6_partner_0 f_n f_members f_kind x1 x2 x3 x4
theorem c_X6_partner (l : Launch) (G : gk_G) (a0 a1 a2 a3 a4 a5 a6 a7 a8 a9 a10 a11 a12 a13 a14 a15 a16 a17 a18 a19 a20 a21 : Nat) (f_n : Int32) (f_keptN : Int32) (f_side : Int32) (f_rows : Int32) (f_members : (Nat → Int64)) (f_kind : (Nat → Int32)) (x1 : Int32) (x2 : Int32) (x3 : Int32) (x4 : Int32) {rv : Int32} (hm : m_X6_partner f_n f_members f_kind x1 x2 x3 x4 = some rv) : gk_M l yX6_partner wsX6_partner rm_X6_partner false G [.ref a0, .int x1, .int x2, .int x3, .int x4] [(a0, .inr (5, [.int f_n, .ref a1, .ref a2, .ref a3, .ref a4, .int f_keptN, .ref a5, .ref a6, .ref a7, .ref a8, .ref a9, .ref a10, .ref a11, .ref a12, .ref a13, .ref a14, .ref a15, .ref a16, .int f_side, .ref a17, .ref a18, .ref a19, .int f_rows, .ref a20, .ref a21])), (a1, gk_J G 6 f_members), (a2, gk_I G 6 f_kind)] (some (.int rv)) [(a0, .inr (5, [.int f_n, .ref a1, .ref a2, .ref a3, .ref a4, .int f_keptN, .ref a5, .ref a6, .ref a7, .ref a8, .ref a9, .ref a10, .ref a11, .ref a12, .ref a13, .ref a14, .ref a15, .ref a16, .int f_side, .ref a17, .ref a18, .ref a19, .int f_rows, .ref a20, .ref a21])), (a1, gk_J G 6 f_members), (a2, gk_I G 6 f_kind)] :=
  gk_of (by decide) rfl (Nat.le_of_ble_eq_true rfl) (fun p e s m below meth c A ls C h hl => w_X6_partner_0 C hm (fun v0 ez => by cases ez; rfl) h (show lv_has ls 5 [(0, .ref a0), (1, .int x1), (2, .int x2), (3, .int x3), (4, .int x4)] from hl))

/-! ===== ExchangeFamiliesModel.near(II)I ===== -/
abbrev rm_X6_near : Room := { frames := 5, cells := 0, slots := 0, locals := 238 }
theorem k_X6_near_0 : ∀ w ∈ u_ws RX6 TX6 25, w ∈ wsX6_near := by decide +kernel
theorem k_X6_near_1 : Cond.fieldLink RX6 19 "ExchangeFamiliesModel" "kind" "[I" ∈ wsX6_near := by decide +kernel
theorem k_X6_near_2 : Cond.fieldLink RX6 9 "ExchangeFamiliesModel" "n" "I" ∈ wsX6_near := by decide +kernel
def m_X6_near_B36 (f_n : Int32) (f_members : (Nat → Int64)) (f_kind : (Nat → Int32)) (x1 : Int32) (x2 : Int32) (x3 : Int32) (x4 : Int32) : Option ((Int32 × Int32) ⊕ (Int32)) := (if ((1 : Int32) <<< (f_n &&& 31)) ≤ x4 then some (.inr x3) else gk_bd1 (m_X6_isMember f_members x1 x4) (fun r14 => (if r14 = (0 : Int32) then some (.inl (x3, x4 + 1)) else (if x3 = (-1 : Int32) then gk_bd1 (m_X6_ones (x4 ^^^ x2)) (fun r17 => some (.inl (r17, x4 + 1))) else gk_bd1 (m_X6_ones (x4 ^^^ x2)) (fun r18 => (if x3 ≤ r18 then some (.inl (x3, x4 + 1)) else gk_bd1 (m_X6_ones (x4 ^^^ x2)) (fun r20 => some (.inl (r20, x4 + 1)))))))))
set_option maxRecDepth 100000 in
set_option maxHeartbeats 4000000 in
theorem w_X6_near_B36 {p : Program} {l : Launch} {e : Env} {s : State} {m : MethodId} {args : Array Value} {below : List Frame} {meth : Method} {c : Code} {G : gk_G} {A : Nat → Prop} {Q : State → Prop} {a0 a1 a2 a3 a4 a5 a6 a7 a8 a9 a10 a11 a12 a13 a14 a15 a16 a17 a18 a19 a20 a21 : Nat} (C : gk_C p s m args meth c cX6_near 5 (some .int) yX6_near wsX6_near false G A) {f_n : Int32} {f_members : (Nat → Int64)} {f_kind : (Nat → Int32)} {x1 : Int32} {x2 : Int32} {x3 : Int32} {x4 : Int32} {f_keptN : Int32} {f_side : Int32} {f_rows : Int32} {yy : (Int32 × Int32) ⊕ (Int32)} (hm : m_X6_near_B36 f_n f_members f_kind x1 x2 x3 x4 = some yy) (kl : ∀ (x3 : Int32) (x4 : Int32), yy = .inl (x3, x4) → ∀ (H : Heap) (locs : List Loc) (ls : Array Slot), gk_H G A s [(a0, .inr (5, [.int f_n, .ref a1, .ref a2, .ref a3, .ref a4, .int f_keptN, .ref a5, .ref a6, .ref a7, .ref a8, .ref a9, .ref a10, .ref a11, .ref a12, .ref a13, .ref a14, .ref a15, .ref a16, .int f_side, .ref a17, .ref a18, .ref a19, .int f_rows, .ref a20, .ref a21])), (a1, gk_J G 6 f_members), (a2, gk_I G 6 f_kind)] H locs → lv_has ls 5 [(0, .ref a0), (1, .int x1), (2, .int x2), (3, .int x3), (4, .int x4)] → W p l e rm_X6_near s m args below meth c H locs 0 0 Q (F0 m 36 ls [])) (kx : ∀ (x3 : Int32), yy = .inr x3 → ∀ (H : Heap) (locs : List Loc) (ls : Array Slot), gk_H G A s [(a0, .inr (5, [.int f_n, .ref a1, .ref a2, .ref a3, .ref a4, .int f_keptN, .ref a5, .ref a6, .ref a7, .ref a8, .ref a9, .ref a10, .ref a11, .ref a12, .ref a13, .ref a14, .ref a15, .ref a16, .int f_side, .ref a17, .ref a18, .ref a19, .int f_rows, .ref a20, .ref a21])), (a1, gk_J G 6 f_members), (a2, gk_I G 6 f_kind)] H locs → lv_has ls 5 [(3, .int x3)] → W p l e rm_X6_near s m args below meth c H locs 0 0 Q (F0 m 87 ls [])) {H : Heap} {locs : List Loc} {ls : Array Slot} (h : gk_H G A s [(a0, .inr (5, [.int f_n, .ref a1, .ref a2, .ref a3, .ref a4, .int f_keptN, .ref a5, .ref a6, .ref a7, .ref a8, .ref a9, .ref a10, .ref a11, .ref a12, .ref a13, .ref a14, .ref a15, .ref a16, .int f_side, .ref a17, .ref a18, .ref a19, .int f_rows, .ref a20, .ref a21])), (a1, gk_J G 6 f_members), (a2, gk_I G 6 f_kind)] H locs) (hl : lv_has ls 5 [(0, .ref a0), (1, .int x1), (2, .int x2), (3, .int x3), (4, .int x4)]) : W p l e rm_X6_near s m args below meth c H locs 0 0 Q (F0 m 36 ls []) := by
  obtain ⟨hx, hb, hml, hr, hown, hnm, hts, hlk, hK, hSt, hA⟩ := id C
  obtain ⟨hP, hD, hS⟩ := h
  unfold m_X6_near_B36 at hm
  refine lv_iload hx hb dX6_near_36 (lv_at hl 4 rfl) ?_
  refine lv_iconst (v := 1) hx hb dX6_near_38 (by decide) ?_
  refine lv_aload_n hx hb dX6_near_39 rfl (lv_at hl 0 rfl) ?_
  refine va_get (D := G.1) (cl := vwCl) (own := RX6) (ref := "ExchangeFamiliesModel") (ci := 5) (v := .int f_n) (C := RX6) (T := TX6) (N := 25) hx hb hts k_X6_near_0 hown hK hP 0 rfl rfl 0 (by decide) (hts _ k_X6_near_2) (fun _ h9 => h9) rfl dX6_near_40 ?_
  refine lv_ishl hx hb dX6_near_43 ?_
  refine lv_icmp_ge (tgt := 87) hx hb dX6_near_44 (by decide) (fun c13 => ?_) (fun c13 => ?_)
  · have hm := gk_it c13 hm
    exact kx _ (Option.some.inj hm).symm _ _ _ ⟨hP, hD, hS⟩ (lv_sub hl [3] rfl)
  · have hm := gk_if c13 hm
    refine lv_aload_n hx hb dX6_near_47 rfl (lv_at hl 0 rfl) ?_
    refine lv_iload_n hx hb dX6_near_48 rfl (lv_at hl 1 rfl) ?_
    refine lv_iload hx hb dX6_near_49 (lv_at hl 4 rfl) ?_
    obtain ⟨r14, hq, hm⟩ := gk_bd1_some hm
    refine gk_callV (n := 2) (bytes := cX6_isMember) (maxL := 3) (ret := (some .boolean)) (Cn := RX6) (T := TX6) (N := 25) [(a2, gk_I G 6 f_kind)] [(a0, .inr (5, [.int f_n, .ref a1, .ref a2, .ref a3, .ref a4, .int f_keptN, .ref a5, .ref a6, .ref a7, .ref a8, .ref a9, .ref a10, .ref a11, .ref a12, .ref a13, .ref a14, .ref a15, .ref a16, .int f_side, .ref a17, .ref a18, .ref a19, .int f_rows, .ref a20, .ref a21])), (a1, gk_J G 6 f_members), (a2, gk_I G 6 f_kind)] [] C ⟨hP, hD, hS⟩ (c_X6_isMember l G a0 a1 a2 a3 a4 a5 a6 a7 a8 a9 a10 a11 a12 a13 a14 a15 a16 a17 a18 a19 a20 a21 f_n f_keptN f_side f_rows f_members x1 x4 hq) gX6_near_X6_isMember dX6_near_51 hl.1 [0, 1] [2] [1, 2, 0] rfl rfl ⟨rfl, rfl⟩ ⟨Nat.le_of_ble_eq_true rfl, Nat.le_of_ble_eq_true rfl⟩ ⟨rfl, by decide +kernel, by decide +kernel, by decide +kernel⟩ rfl (fun h => by cases h) (Nat.le_of_ble_eq_true rfl) rfl rfl rfl rfl (by decide) rfl rfl (fun H locs h => ?_)
    obtain ⟨hP, hD, hS⟩ := h
    refine lv_if_eq (tgt := 81) hx hb dX6_near_54 (by decide) (fun c15 => ?_) (fun c15 => ?_)
    · have hm := gk_it c15 hm
      refine lv_iinc (v := x4 + 1) (lv' := [(4, .int (x4 + 1)), (0, .ref a0), (1, .int x1), (2, .int x2), (3, .int x3)]) hx hb dX6_near_81 hl (k := 4) rfl rfl (by decide) rfl (fun ls hl => ?_)
      refine lv_goto (tgt := 36) hx hb dX6_near_84 (by decide) ?_
      exact kl _ _ (Option.some.inj hm).symm _ _ _ ⟨hP, hD, hS⟩ (lv_sub hl [1, 2, 3, 4, 0] rfl)
    · have hm := gk_if c15 hm
      refine lv_iload_n hx hb dX6_near_57 rfl (lv_at hl 3 rfl) ?_
      refine lv_iconst (v := -1) hx hb dX6_near_58 (by decide) ?_
      refine lv_icmp_eq (tgt := 73) hx hb dX6_near_59 (by decide) (fun c16 => ?_) (fun c16 => ?_)
      · have hm := gk_it c16 hm
        refine lv_iload hx hb dX6_near_73 (lv_at hl 4 rfl) ?_
        refine lv_iload_n hx hb dX6_near_75 rfl (lv_at hl 2 rfl) ?_
        refine lv_ixor hx hb dX6_near_76 ?_
        obtain ⟨r17, hq, hm⟩ := gk_bd1_some hm
        refine gk_callS (n := 1) (bytes := cX6_ones) (maxL := 3) (ret := (some .int)) [(a0, .inr (5, [.int f_n, .ref a1, .ref a2, .ref a3, .ref a4, .int f_keptN, .ref a5, .ref a6, .ref a7, .ref a8, .ref a9, .ref a10, .ref a11, .ref a12, .ref a13, .ref a14, .ref a15, .ref a16, .int f_side, .ref a17, .ref a18, .ref a19, .int f_rows, .ref a20, .ref a21])), (a1, gk_J G 6 f_members), (a2, gk_I G 6 f_kind)] [(a0, .inr (5, [.int f_n, .ref a1, .ref a2, .ref a3, .ref a4, .int f_keptN, .ref a5, .ref a6, .ref a7, .ref a8, .ref a9, .ref a10, .ref a11, .ref a12, .ref a13, .ref a14, .ref a15, .ref a16, .int f_side, .ref a17, .ref a18, .ref a19, .int f_rows, .ref a20, .ref a21])), (a1, gk_J G 6 f_members), (a2, gk_I G 6 f_kind)] [] C ⟨hP, hD, hS⟩ (c_X6_ones l G (x4 ^^^ x2) hq) gX6_near_X6_ones dX6_near_77 hl.1 [] [0, 1, 2] [0, 1, 2] rfl ⟨rfl, rfl⟩ ⟨Nat.le_of_ble_eq_true rfl, Nat.le_of_ble_eq_true rfl⟩ ⟨by decide +kernel, by decide +kernel, by decide +kernel⟩ rfl (fun h => by cases h) (Nat.le_of_ble_eq_true rfl) rfl rfl rfl rfl (by decide) rfl rfl (fun H locs h => ?_)
        obtain ⟨hP, hD, hS⟩ := h
        refine lv_istore_n (lv' := [(3, .int r17), (0, .ref a0), (1, .int x1), (2, .int x2), (4, .int x4)]) hx hb dX6_near_80 rfl hl (by decide) rfl (fun ls hl => ?_)
        refine lv_iinc (v := x4 + 1) (lv' := [(4, .int (x4 + 1)), (3, .int r17), (0, .ref a0), (1, .int x1), (2, .int x2)]) hx hb dX6_near_81 hl (k := 4) rfl rfl (by decide) rfl (fun ls hl => ?_)
        refine lv_goto (tgt := 36) hx hb dX6_near_84 (by decide) ?_
        exact kl _ _ (Option.some.inj hm).symm _ _ _ ⟨hP, hD, hS⟩ (lv_sub hl [2, 3, 4, 1, 0] rfl)
      · have hm := gk_if c16 hm
        refine lv_iload hx hb dX6_near_62 (lv_at hl 4 rfl) ?_
        refine lv_iload_n hx hb dX6_near_64 rfl (lv_at hl 2 rfl) ?_
        refine lv_ixor hx hb dX6_near_65 ?_
        obtain ⟨r18, hq, hm⟩ := gk_bd1_some hm
        refine gk_callS (n := 1) (bytes := cX6_ones) (maxL := 3) (ret := (some .int)) [(a0, .inr (5, [.int f_n, .ref a1, .ref a2, .ref a3, .ref a4, .int f_keptN, .ref a5, .ref a6, .ref a7, .ref a8, .ref a9, .ref a10, .ref a11, .ref a12, .ref a13, .ref a14, .ref a15, .ref a16, .int f_side, .ref a17, .ref a18, .ref a19, .int f_rows, .ref a20, .ref a21])), (a1, gk_J G 6 f_members), (a2, gk_I G 6 f_kind)] [(a0, .inr (5, [.int f_n, .ref a1, .ref a2, .ref a3, .ref a4, .int f_keptN, .ref a5, .ref a6, .ref a7, .ref a8, .ref a9, .ref a10, .ref a11, .ref a12, .ref a13, .ref a14, .ref a15, .ref a16, .int f_side, .ref a17, .ref a18, .ref a19, .int f_rows, .ref a20, .ref a21])), (a1, gk_J G 6 f_members), (a2, gk_I G 6 f_kind)] [] C ⟨hP, hD, hS⟩ (c_X6_ones l G (x4 ^^^ x2) hq) gX6_near_X6_ones dX6_near_66 hl.1 [] [0, 1, 2] [0, 1, 2] rfl ⟨rfl, rfl⟩ ⟨Nat.le_of_ble_eq_true rfl, Nat.le_of_ble_eq_true rfl⟩ ⟨by decide +kernel, by decide +kernel, by decide +kernel⟩ rfl (fun h => by cases h) (Nat.le_of_ble_eq_true rfl) rfl rfl rfl rfl (by decide) rfl rfl (fun H locs h => ?_)
        obtain ⟨hP, hD, hS⟩ := h
        refine lv_iload_n hx hb dX6_near_69 rfl (lv_at hl 3 rfl) ?_
        refine lv_icmp_ge (tgt := 81) hx hb dX6_near_70 (by decide) (fun c19 => ?_) (fun c19 => ?_)
        · have hm := gk_it c19 hm
          refine lv_iinc (v := x4 + 1) (lv' := [(4, .int (x4 + 1)), (0, .ref a0), (1, .int x1), (2, .int x2), (3, .int x3)]) hx hb dX6_near_81 hl (k := 4) rfl rfl (by decide) rfl (fun ls hl => ?_)
          refine lv_goto (tgt := 36) hx hb dX6_near_84 (by decide) ?_
          exact kl _ _ (Option.some.inj hm).symm _ _ _ ⟨hP, hD, hS⟩ (lv_sub hl [1, 2, 3, 4, 0] rfl)
        · have hm := gk_if c19 hm
          refine lv_iload hx hb dX6_near_73 (lv_at hl 4 rfl) ?_
          refine lv_iload_n hx hb dX6_near_75 rfl (lv_at hl 2 rfl) ?_
          refine lv_ixor hx hb dX6_near_76 ?_
          obtain ⟨r20, hq, hm⟩ := gk_bd1_some hm
          refine gk_callS (n := 1) (bytes := cX6_ones) (maxL := 3) (ret := (some .int)) [(a0, .inr (5, [.int f_n, .ref a1, .ref a2, .ref a3, .ref a4, .int f_keptN, .ref a5, .ref a6, .ref a7, .ref a8, .ref a9, .ref a10, .ref a11, .ref a12, .ref a13, .ref a14, .ref a15, .ref a16, .int f_side, .ref a17, .ref a18, .ref a19, .int f_rows, .ref a20, .ref a21])), (a1, gk_J G 6 f_members), (a2, gk_I G 6 f_kind)] [(a0, .inr (5, [.int f_n, .ref a1, .ref a2, .ref a3, .ref a4, .int f_keptN, .ref a5, .ref a6, .ref a7, .ref a8, .ref a9, .ref a10, .ref a11, .ref a12, .ref a13, .ref a14, .ref a15, .ref a16, .int f_side, .ref a17, .ref a18, .ref a19, .int f_rows, .ref a20, .ref a21])), (a1, gk_J G 6 f_members), (a2, gk_I G 6 f_kind)] [] C ⟨hP, hD, hS⟩ (c_X6_ones l G (x4 ^^^ x2) hq) gX6_near_X6_ones dX6_near_77 hl.1 [] [0, 1, 2] [0, 1, 2] rfl ⟨rfl, rfl⟩ ⟨Nat.le_of_ble_eq_true rfl, Nat.le_of_ble_eq_true rfl⟩ ⟨by decide +kernel, by decide +kernel, by decide +kernel⟩ rfl (fun h => by cases h) (Nat.le_of_ble_eq_true rfl) rfl rfl rfl rfl (by decide) rfl rfl (fun H locs h => ?_)
          obtain ⟨hP, hD, hS⟩ := h
          refine lv_istore_n (lv' := [(3, .int r20), (0, .ref a0), (1, .int x1), (2, .int x2), (4, .int x4)]) hx hb dX6_near_80 rfl hl (by decide) rfl (fun ls hl => ?_)
          refine lv_iinc (v := x4 + 1) (lv' := [(4, .int (x4 + 1)), (3, .int r20), (0, .ref a0), (1, .int x1), (2, .int x2)]) hx hb dX6_near_81 hl (k := 4) rfl rfl (by decide) rfl (fun ls hl => ?_)
          refine lv_goto (tgt := 36) hx hb dX6_near_84 (by decide) ?_
          exact kl _ _ (Option.some.inj hm).symm _ _ _ ⟨hP, hD, hS⟩ (lv_sub hl [2, 3, 4, 1, 0] rfl)
set_option maxRecDepth 100000 in
set_option maxHeartbeats 4000000 in
theorem w_X6_near_L36 {p : Program} {l : Launch} {e : Env} {s : State} {m : MethodId} {args : Array Value} {below : List Frame} {meth : Method} {c : Code} {G : gk_G} {A : Nat → Prop} {Q : State → Prop} {a0 a1 a2 a3 a4 a5 a6 a7 a8 a9 a10 a11 a12 a13 a14 a15 a16 a17 a18 a19 a20 a21 : Nat} (C : gk_C p s m args meth c cX6_near 5 (some .int) yX6_near wsX6_near false G A) {f_n : Int32} {f_members : (Nat → Int64)} {f_kind : (Nat → Int32)} {x1 : Int32} {x2 : Int32} {x3 : Int32} {x4 : Int32} {f_keptN : Int32} {f_side : Int32} {f_rows : Int32} {k : Nat} {e_x3 : Int32} (hm : gk_lp (fun z => m_X6_near_B36 f_n f_members f_kind x1 x2 z.1 z.2) k (x3, x4) = some e_x3) (kx : ∀ (H : Heap) (locs : List Loc) (ls : Array Slot), gk_H G A s [(a0, .inr (5, [.int f_n, .ref a1, .ref a2, .ref a3, .ref a4, .int f_keptN, .ref a5, .ref a6, .ref a7, .ref a8, .ref a9, .ref a10, .ref a11, .ref a12, .ref a13, .ref a14, .ref a15, .ref a16, .int f_side, .ref a17, .ref a18, .ref a19, .int f_rows, .ref a20, .ref a21])), (a1, gk_J G 6 f_members), (a2, gk_I G 6 f_kind)] H locs → lv_has ls 5 [(3, .int e_x3)] → W p l e rm_X6_near s m args below meth c H locs 0 0 Q (F0 m 87 ls [])) {H : Heap} {locs : List Loc} {ls : Array Slot} (h : gk_H G A s [(a0, .inr (5, [.int f_n, .ref a1, .ref a2, .ref a3, .ref a4, .int f_keptN, .ref a5, .ref a6, .ref a7, .ref a8, .ref a9, .ref a10, .ref a11, .ref a12, .ref a13, .ref a14, .ref a15, .ref a16, .int f_side, .ref a17, .ref a18, .ref a19, .int f_rows, .ref a20, .ref a21])), (a1, gk_J G 6 f_members), (a2, gk_I G 6 f_kind)] H locs) (hl : lv_has ls 5 [(0, .ref a0), (1, .int x1), (2, .int x2), (3, .int x3), (4, .int x4)]) : W p l e rm_X6_near s m args below meth c H locs 0 0 Q (F0 m 36 ls []) :=
  gk_lp_some (P := fun z => ∀ (H : Heap) (locs : List Loc) (ls : Array Slot), gk_H G A s [(a0, .inr (5, [.int f_n, .ref a1, .ref a2, .ref a3, .ref a4, .int f_keptN, .ref a5, .ref a6, .ref a7, .ref a8, .ref a9, .ref a10, .ref a11, .ref a12, .ref a13, .ref a14, .ref a15, .ref a16, .int f_side, .ref a17, .ref a18, .ref a19, .int f_rows, .ref a20, .ref a21])), (a1, gk_J G 6 f_members), (a2, gk_I G 6 f_kind)] H locs → lv_has ls 5 [(0, .ref a0), (1, .int x1), (2, .int x2), (3, .int z.1), (4, .int z.2)] → W p l e rm_X6_near s m args below meth c H locs 0 0 Q (F0 m 36 ls [])) (E := fun r => (∀ (x3 : Int32), r = x3 → ∀ (H : Heap) (locs : List Loc) (ls : Array Slot), gk_H G A s [(a0, .inr (5, [.int f_n, .ref a1, .ref a2, .ref a3, .ref a4, .int f_keptN, .ref a5, .ref a6, .ref a7, .ref a8, .ref a9, .ref a10, .ref a11, .ref a12, .ref a13, .ref a14, .ref a15, .ref a16, .int f_side, .ref a17, .ref a18, .ref a19, .int f_rows, .ref a20, .ref a21])), (a1, gk_J G 6 f_members), (a2, gk_I G 6 f_kind)] H locs → lv_has ls 5 [(3, .int x3)] → W p l e rm_X6_near s m args below meth c H locs 0 0 Q (F0 m 87 ls []))) (fun z x hf kl ke H locs ls h hl => w_X6_near_B36 C hf (fun v0 v1 ez => kl (v0, v1) ez) (fun v0 ez => ke _ ez v0 rfl) h hl) k (x3, x4) _ hm (fun v0 ez => (by cases ez; exact kx)) _ _ _ h hl
def m_X6_near_0 (f_n : Int32) (f_members : (Nat → Int64)) (f_kind : (Nat → Int32)) (x1 : Int32) (x2 : Int32) : Option (Int32) := gk_bd1 (m_X6_isFamily x1) (fun r8 => (if r8 = (0 : Int32) then some (-2 : Int32) else gk_bd1 (m_X6_isSet f_n x2) (fun r10 => (if r10 = (0 : Int32) then some (-2 : Int32) else gk_ix x1 6 ((if (f_kind x1.toNatClampNeg) = (-1 : Int32) then some (-11 : Int32) else gk_bd1 (gk_lp (fun z => m_X6_near_B36 f_n f_members f_kind x1 x2 z.1 z.2) gk_fu ((-1 : Int32), (0 : Int32))) (fun e21 => some e21)))))))
set_option maxRecDepth 100000 in
set_option maxHeartbeats 4000000 in
theorem w_X6_near_0 {p : Program} {l : Launch} {e : Env} {s : State} {m : MethodId} {args : Array Value} {below : List Frame} {meth : Method} {c : Code} {G : gk_G} {A : Nat → Prop} {Q : State → Prop} {a0 a1 a2 a3 a4 a5 a6 a7 a8 a9 a10 a11 a12 a13 a14 a15 a16 a17 a18 a19 a20 a21 : Nat} (C : gk_C p s m args meth c cX6_near 5 (some .int) yX6_near wsX6_near false G A) {f_n : Int32} {f_members : (Nat → Int64)} {f_kind : (Nat → Int32)} {x1 : Int32} {x2 : Int32} {f_keptN : Int32} {f_side : Int32} {f_rows : Int32} {yy : Int32} (hm : m_X6_near_0 f_n f_members f_kind x1 x2 = some yy) (kr : ∀ (rv : Int32), yy = rv → Q = MQ below (gk_Q G (some (.int rv)) [(a0, .inr (5, [.int f_n, .ref a1, .ref a2, .ref a3, .ref a4, .int f_keptN, .ref a5, .ref a6, .ref a7, .ref a8, .ref a9, .ref a10, .ref a11, .ref a12, .ref a13, .ref a14, .ref a15, .ref a16, .int f_side, .ref a17, .ref a18, .ref a19, .int f_rows, .ref a20, .ref a21])), (a1, gk_J G 6 f_members), (a2, gk_I G 6 f_kind)] A) args s 0 0 A) {H : Heap} {locs : List Loc} {ls : Array Slot} (h : gk_H G A s [(a0, .inr (5, [.int f_n, .ref a1, .ref a2, .ref a3, .ref a4, .int f_keptN, .ref a5, .ref a6, .ref a7, .ref a8, .ref a9, .ref a10, .ref a11, .ref a12, .ref a13, .ref a14, .ref a15, .ref a16, .int f_side, .ref a17, .ref a18, .ref a19, .int f_rows, .ref a20, .ref a21])), (a1, gk_J G 6 f_members), (a2, gk_I G 6 f_kind)] H locs) (hl : lv_has ls 5 [(0, .ref a0), (1, .int x1), (2, .int x2)]) : W p l e rm_X6_near s m args below meth c H locs 0 0 Q (F0 m 0 ls []) := by
  obtain ⟨hx, hb, hml, hr, hown, hnm, hts, hlk, hK, hSt, hA⟩ := id C
  obtain ⟨hP, hD, hS⟩ := h
  unfold m_X6_near_0 at hm
  refine lv_iload_n hx hb dX6_near_0 rfl (lv_at hl 1 rfl) ?_
  obtain ⟨r8, hq, hm⟩ := gk_bd1_some hm
  refine gk_callS (n := 1) (bytes := cX6_isFamily) (maxL := 1) (ret := (some .boolean)) [(a0, .inr (5, [.int f_n, .ref a1, .ref a2, .ref a3, .ref a4, .int f_keptN, .ref a5, .ref a6, .ref a7, .ref a8, .ref a9, .ref a10, .ref a11, .ref a12, .ref a13, .ref a14, .ref a15, .ref a16, .int f_side, .ref a17, .ref a18, .ref a19, .int f_rows, .ref a20, .ref a21])), (a1, gk_J G 6 f_members), (a2, gk_I G 6 f_kind)] [(a0, .inr (5, [.int f_n, .ref a1, .ref a2, .ref a3, .ref a4, .int f_keptN, .ref a5, .ref a6, .ref a7, .ref a8, .ref a9, .ref a10, .ref a11, .ref a12, .ref a13, .ref a14, .ref a15, .ref a16, .int f_side, .ref a17, .ref a18, .ref a19, .int f_rows, .ref a20, .ref a21])), (a1, gk_J G 6 f_members), (a2, gk_I G 6 f_kind)] [] C ⟨hP, hD, hS⟩ (c_X6_isFamily l G x1 hq) gX6_near_X6_isFamily dX6_near_1 hl.1 [] [0, 1, 2] [0, 1, 2] rfl ⟨rfl, rfl⟩ ⟨Nat.le_of_ble_eq_true rfl, Nat.le_of_ble_eq_true rfl⟩ ⟨by decide +kernel, by decide +kernel, by decide +kernel⟩ rfl (fun h => by cases h) (Nat.le_of_ble_eq_true rfl) rfl rfl rfl rfl (by decide) rfl rfl (fun H locs h => ?_)
  obtain ⟨hP, hD, hS⟩ := h
  refine lv_if_eq (tgt := 15) hx hb dX6_near_4 (by decide) (fun c9 => ?_) (fun c9 => ?_)
  · have hm := gk_it c9 hm
    refine lv_bipush (v := -2) hx hb dX6_near_15 (by decide) ?_
    rw [kr _ (Option.some.inj hm).symm]
    exact gk_iret C ⟨hP, hD, hS⟩ dX6_near_17
  · have hm := gk_if c9 hm
    refine lv_aload_n hx hb dX6_near_7 rfl (lv_at hl 0 rfl) ?_
    refine lv_iload_n hx hb dX6_near_8 rfl (lv_at hl 2 rfl) ?_
    obtain ⟨r10, hq, hm⟩ := gk_bd1_some hm
    refine gk_callV (n := 1) (bytes := cX6_isSet) (maxL := 2) (ret := (some .boolean)) (Cn := RX6) (T := TX6) (N := 25) [(a1, gk_J G 6 f_members), (a2, gk_I G 6 f_kind)] [(a0, .inr (5, [.int f_n, .ref a1, .ref a2, .ref a3, .ref a4, .int f_keptN, .ref a5, .ref a6, .ref a7, .ref a8, .ref a9, .ref a10, .ref a11, .ref a12, .ref a13, .ref a14, .ref a15, .ref a16, .int f_side, .ref a17, .ref a18, .ref a19, .int f_rows, .ref a20, .ref a21])), (a1, gk_J G 6 f_members), (a2, gk_I G 6 f_kind)] [] C ⟨hP, hD, hS⟩ (c_X6_isSet l G a0 a1 a2 a3 a4 a5 a6 a7 a8 a9 a10 a11 a12 a13 a14 a15 a16 a17 a18 a19 a20 a21 f_n f_keptN f_side f_rows x2 hq) gX6_near_X6_isSet dX6_near_9 hl.1 [0] [1, 2] [2, 0, 1] rfl rfl ⟨rfl, rfl⟩ ⟨Nat.le_of_ble_eq_true rfl, Nat.le_of_ble_eq_true rfl⟩ ⟨rfl, by decide +kernel, by decide +kernel, by decide +kernel⟩ rfl (fun h => by cases h) (Nat.le_of_ble_eq_true rfl) rfl rfl rfl rfl (by decide) rfl rfl (fun H locs h => ?_)
    obtain ⟨hP, hD, hS⟩ := h
    refine lv_if_ne (tgt := 18) hx hb dX6_near_12 (by decide) (fun c11 => ?_) (fun c11 => ?_)
    · have hm := gk_if c11 hm
      refine lv_aload_n hx hb dX6_near_18 rfl (lv_at hl 0 rfl) ?_
      refine va_get (D := G.1) (cl := vwCl) (own := RX6) (ref := "ExchangeFamiliesModel") (ci := 5) (v := .ref a2) (C := RX6) (T := TX6) (N := 25) hx hb hts k_X6_near_0 hown hK hP 0 rfl rfl 2 (by decide) (hts _ k_X6_near_1) (fun _ h9 => h9) rfl dX6_near_19 ?_
      refine lv_iload_n hx hb dX6_near_22 rfl (lv_at hl 1 rfl) ?_
      obtain ⟨hi, hm⟩ := gk_ix_some hm
      refine va_iald hx hb hK hP 2 0 rfl rfl hi dX6_near_23 ?_
      refine lv_iconst (v := -1) hx hb dX6_near_24 (by decide) ?_
      refine lv_icmp_ne (tgt := 31) hx hb dX6_near_25 (by decide) (fun c12 => ?_) (fun c12 => ?_)
      · have hm := gk_if c12 hm
        refine lv_iconst (v := -1) hx hb dX6_near_31 (by decide) ?_
        refine lv_istore_n (lv' := [(3, .int (-1 : Int32)), (0, .ref a0), (1, .int x1), (2, .int x2)]) hx hb dX6_near_32 rfl hl (by decide) rfl (fun ls hl => ?_)
        refine lv_iconst (v := 0) hx hb dX6_near_33 (by decide) ?_
        refine lv_istore (lv' := [(4, .int (0 : Int32)), (3, .int (-1 : Int32)), (0, .ref a0), (1, .int x1), (2, .int x2)]) hx hb dX6_near_34 hl (by decide) rfl (fun ls hl => ?_)
        obtain ⟨e21, hq, hm⟩ := gk_bd1_some hm
        refine w_X6_near_L36 C hq (fun H locs ls h hl => ?_) ⟨hP, hD, hS⟩ (lv_sub hl [2, 3, 4, 1, 0] rfl)
        obtain ⟨hP, hD, hS⟩ := h
        refine lv_iload_n hx hb dX6_near_87 rfl (lv_at hl 0 rfl) ?_
        rw [kr _ (Option.some.inj hm).symm]
        exact gk_iret C ⟨hP, hD, hS⟩ dX6_near_88
      · have hm := gk_it c12 hm
        refine lv_bipush (v := -11) hx hb dX6_near_28 (by decide) ?_
        rw [kr _ (Option.some.inj hm).symm]
        exact gk_iret C ⟨hP, hD, hS⟩ dX6_near_30
    · have hm := gk_it c11 hm
      refine lv_bipush (v := -2) hx hb dX6_near_15 (by decide) ?_
      rw [kr _ (Option.some.inj hm).symm]
      exact gk_iret C ⟨hP, hD, hS⟩ dX6_near_17
def m_X6_near (f_n : Int32) (f_members : (Nat → Int64)) (f_kind : (Nat → Int32)) (x1 : Int32) (x2 : Int32) : Option (Int32) := m_X6_near_0 f_n f_members f_kind x1 x2
theorem c_X6_near (l : Launch) (G : gk_G) (a0 a1 a2 a3 a4 a5 a6 a7 a8 a9 a10 a11 a12 a13 a14 a15 a16 a17 a18 a19 a20 a21 : Nat) (f_n : Int32) (f_keptN : Int32) (f_side : Int32) (f_rows : Int32) (f_members : (Nat → Int64)) (f_kind : (Nat → Int32)) (x1 : Int32) (x2 : Int32) {rv : Int32} (hm : m_X6_near f_n f_members f_kind x1 x2 = some rv) : gk_M l yX6_near wsX6_near rm_X6_near false G [.ref a0, .int x1, .int x2] [(a0, .inr (5, [.int f_n, .ref a1, .ref a2, .ref a3, .ref a4, .int f_keptN, .ref a5, .ref a6, .ref a7, .ref a8, .ref a9, .ref a10, .ref a11, .ref a12, .ref a13, .ref a14, .ref a15, .ref a16, .int f_side, .ref a17, .ref a18, .ref a19, .int f_rows, .ref a20, .ref a21])), (a1, gk_J G 6 f_members), (a2, gk_I G 6 f_kind)] (some (.int rv)) [(a0, .inr (5, [.int f_n, .ref a1, .ref a2, .ref a3, .ref a4, .int f_keptN, .ref a5, .ref a6, .ref a7, .ref a8, .ref a9, .ref a10, .ref a11, .ref a12, .ref a13, .ref a14, .ref a15, .ref a16, .int f_side, .ref a17, .ref a18, .ref a19, .int f_rows, .ref a20, .ref a21])), (a1, gk_J G 6 f_members), (a2, gk_I G 6 f_kind)] :=
  gk_of (by decide) rfl (Nat.le_of_ble_eq_true rfl) (fun p e s m below meth c A ls C h hl => w_X6_near_0 C hm (fun v0 ez => by cases ez; rfl) h (show lv_has ls 5 [(0, .ref a0), (1, .int x1), (2, .int x2)] from hl))

/-! ===== ExchangeFamiliesModel.apart(III)I ===== -/
abbrev rm_X6_apart : Room := { frames := 5, cells := 0, slots := 0, locals := 238 }
theorem k_X6_apart_0 : ∀ w ∈ u_ws RX6 TX6 25, w ∈ wsX6_apart := by decide +kernel
theorem k_X6_apart_1 : Cond.fieldLink RX6 19 "ExchangeFamiliesModel" "kind" "[I" ∈ wsX6_apart := by decide +kernel
theorem k_X6_apart_2 : Cond.fieldLink RX6 53 "ExchangeFamiliesModel" "far" "[I" ∈ wsX6_apart := by decide +kernel
theorem k_X6_apart_3 : Cond.fieldLink RX6 56 "ExchangeFamiliesModel" "queue" "[I" ∈ wsX6_apart := by decide +kernel
theorem k_X6_apart_4 : Cond.fieldLink RX6 9 "ExchangeFamiliesModel" "n" "I" ∈ wsX6_apart := by decide +kernel
def m_X6_apart_B63 (f_n : Int32) (f_members : (Nat → Int64)) (f_kind : (Nat → Int32)) (f_queue : (Nat → Int32)) (x1 : Int32) (x2 : Int32) (x3 : Int32) (x4 : Int32) (f_far : (Nat → Int32)) : Option ((Int32 × (Nat → Int32)) ⊕ ((Nat → Int32))) := (if (64 : Int32) ≤ x4 then some (.inr f_far) else gk_ix x4 64 (some (.inl (x4 + 1, upd f_far x4.toNatClampNeg (-1 : Int32)))))
set_option maxRecDepth 100000 in
set_option maxHeartbeats 4000000 in
theorem w_X6_apart_B63 {p : Program} {l : Launch} {e : Env} {s : State} {m : MethodId} {args : Array Value} {below : List Frame} {meth : Method} {c : Code} {G : gk_G} {A : Nat → Prop} {Q : State → Prop} {a0 a1 a2 a3 a4 a5 a6 a7 a8 a9 a10 a11 a12 a13 a14 a15 a16 a17 a18 a19 a20 a21 : Nat} (C : gk_C p s m args meth c cX6_apart 8 (some .int) yX6_apart wsX6_apart false G A) {f_n : Int32} {f_members : (Nat → Int64)} {f_kind : (Nat → Int32)} {f_queue : (Nat → Int32)} {x1 : Int32} {x2 : Int32} {x3 : Int32} {x4 : Int32} {f_far : (Nat → Int32)} {f_keptN : Int32} {f_side : Int32} {f_rows : Int32} {yy : (Int32 × (Nat → Int32)) ⊕ ((Nat → Int32))} (hm : m_X6_apart_B63 f_n f_members f_kind f_queue x1 x2 x3 x4 f_far = some yy) (kl : ∀ (x4 : Int32) (f_far : (Nat → Int32)), yy = .inl (x4, f_far) → ∀ (H : Heap) (locs : List Loc) (ls : Array Slot), gk_H G A s [(a0, .inr (5, [.int f_n, .ref a1, .ref a2, .ref a3, .ref a4, .int f_keptN, .ref a5, .ref a6, .ref a7, .ref a8, .ref a9, .ref a10, .ref a11, .ref a12, .ref a13, .ref a14, .ref a15, .ref a16, .int f_side, .ref a17, .ref a18, .ref a19, .int f_rows, .ref a20, .ref a21])), (a1, gk_J G 6 f_members), (a2, gk_I G 6 f_kind), (a12, gk_I G 64 f_far), (a13, gk_I G 64 f_queue)] H locs → lv_has ls 8 [(0, .ref a0), (1, .int x1), (2, .int x2), (3, .int x3), (4, .int x4)] → W p l e rm_X6_apart s m args below meth c H locs 0 0 Q (F0 m 63 ls [])) (kx : ∀ (f_far : (Nat → Int32)), yy = .inr f_far → ∀ (H : Heap) (locs : List Loc) (ls : Array Slot), gk_H G A s [(a0, .inr (5, [.int f_n, .ref a1, .ref a2, .ref a3, .ref a4, .int f_keptN, .ref a5, .ref a6, .ref a7, .ref a8, .ref a9, .ref a10, .ref a11, .ref a12, .ref a13, .ref a14, .ref a15, .ref a16, .int f_side, .ref a17, .ref a18, .ref a19, .int f_rows, .ref a20, .ref a21])), (a1, gk_J G 6 f_members), (a2, gk_I G 6 f_kind), (a12, gk_I G 64 f_far), (a13, gk_I G 64 f_queue)] H locs → lv_has ls 8 [(0, .ref a0), (1, .int x1), (2, .int x2), (3, .int x3)] → W p l e rm_X6_apart s m args below meth c H locs 0 0 Q (F0 m 84 ls [])) {H : Heap} {locs : List Loc} {ls : Array Slot} (h : gk_H G A s [(a0, .inr (5, [.int f_n, .ref a1, .ref a2, .ref a3, .ref a4, .int f_keptN, .ref a5, .ref a6, .ref a7, .ref a8, .ref a9, .ref a10, .ref a11, .ref a12, .ref a13, .ref a14, .ref a15, .ref a16, .int f_side, .ref a17, .ref a18, .ref a19, .int f_rows, .ref a20, .ref a21])), (a1, gk_J G 6 f_members), (a2, gk_I G 6 f_kind), (a12, gk_I G 64 f_far), (a13, gk_I G 64 f_queue)] H locs) (hl : lv_has ls 8 [(0, .ref a0), (1, .int x1), (2, .int x2), (3, .int x3), (4, .int x4)]) : W p l e rm_X6_apart s m args below meth c H locs 0 0 Q (F0 m 63 ls []) := by
  obtain ⟨hx, hb, hml, hr, hown, hnm, hts, hlk, hK, hSt, hA⟩ := id C
  obtain ⟨hP, hD, hS⟩ := h
  unfold m_X6_apart_B63 at hm
  refine lv_iload hx hb dX6_apart_63 (lv_at hl 4 rfl) ?_
  refine lv_bipush (v := 64) hx hb dX6_apart_65 (by decide) ?_
  refine lv_icmp_ge (tgt := 84) hx hb dX6_apart_67 (by decide) (fun c24 => ?_) (fun c24 => ?_)
  · have hm := gk_it c24 hm
    exact kx _ (Option.some.inj hm).symm _ _ _ ⟨hP, hD, hS⟩ (lv_sub hl [0, 1, 2, 3] rfl)
  · have hm := gk_if c24 hm
    refine lv_aload_n hx hb dX6_apart_70 rfl (lv_at hl 0 rfl) ?_
    refine va_get (D := G.1) (cl := vwCl) (own := RX6) (ref := "ExchangeFamiliesModel") (ci := 5) (v := .ref a12) (C := RX6) (T := TX6) (N := 25) hx hb hts k_X6_apart_0 hown hK hP 0 rfl rfl 13 (by decide) (hts _ k_X6_apart_2) (fun _ h9 => h9) rfl dX6_apart_71 ?_
    refine lv_iload hx hb dX6_apart_74 (lv_at hl 4 rfl) ?_
    refine lv_iconst (v := -1) hx hb dX6_apart_76 (by decide) ?_
    obtain ⟨hi, hm⟩ := gk_ix_some hm
    refine va_iast hx hb hK hP hD hS 3 0 rfl rfl hi dX6_apart_77 (fun H locs hP hD hS => ?_)
    have hP : va_P G.1 vwCl [(a0, .inr (5, [.int f_n, .ref a1, .ref a2, .ref a3, .ref a4, .int f_keptN, .ref a5, .ref a6, .ref a7, .ref a8, .ref a9, .ref a10, .ref a11, .ref a12, .ref a13, .ref a14, .ref a15, .ref a16, .int f_side, .ref a17, .ref a18, .ref a19, .int f_rows, .ref a20, .ref a21])), (a1, gk_J G 6 f_members), (a2, gk_I G 6 f_kind), (a12, gk_I G 64 (upd f_far x4.toNatClampNeg (-1 : Int32))), (a13, gk_I G 64 f_queue)] H := hP
    have hD : va_D A [(a0, .inr (5, [.int f_n, .ref a1, .ref a2, .ref a3, .ref a4, .int f_keptN, .ref a5, .ref a6, .ref a7, .ref a8, .ref a9, .ref a10, .ref a11, .ref a12, .ref a13, .ref a14, .ref a15, .ref a16, .int f_side, .ref a17, .ref a18, .ref a19, .int f_rows, .ref a20, .ref a21])), (a1, gk_J G 6 f_members), (a2, gk_I G 6 f_kind), (a12, gk_I G 64 (upd f_far x4.toNatClampNeg (-1 : Int32))), (a13, gk_I G 64 f_queue)] := hD
    refine lv_iinc (v := x4 + 1) (lv' := [(4, .int (x4 + 1)), (0, .ref a0), (1, .int x1), (2, .int x2), (3, .int x3)]) hx hb dX6_apart_78 hl (k := 4) rfl rfl (by decide) rfl (fun ls hl => ?_)
    refine lv_goto (tgt := 63) hx hb dX6_apart_81 (by decide) ?_
    exact kl _ _ (Option.some.inj hm).symm _ _ _ ⟨hP, hD, hS⟩ (lv_sub hl [1, 2, 3, 4, 0] rfl)
set_option maxRecDepth 100000 in
set_option maxHeartbeats 4000000 in
theorem w_X6_apart_L63 {p : Program} {l : Launch} {e : Env} {s : State} {m : MethodId} {args : Array Value} {below : List Frame} {meth : Method} {c : Code} {G : gk_G} {A : Nat → Prop} {Q : State → Prop} {a0 a1 a2 a3 a4 a5 a6 a7 a8 a9 a10 a11 a12 a13 a14 a15 a16 a17 a18 a19 a20 a21 : Nat} (C : gk_C p s m args meth c cX6_apart 8 (some .int) yX6_apart wsX6_apart false G A) {f_n : Int32} {f_members : (Nat → Int64)} {f_kind : (Nat → Int32)} {f_queue : (Nat → Int32)} {x1 : Int32} {x2 : Int32} {x3 : Int32} {x4 : Int32} {f_far : (Nat → Int32)} {f_keptN : Int32} {f_side : Int32} {f_rows : Int32} {k : Nat} {e_f_far : (Nat → Int32)} (hm : gk_lp (fun z => m_X6_apart_B63 f_n f_members f_kind f_queue x1 x2 x3 z.1 z.2) k (x4, f_far) = some e_f_far) (kx : ∀ (H : Heap) (locs : List Loc) (ls : Array Slot), gk_H G A s [(a0, .inr (5, [.int f_n, .ref a1, .ref a2, .ref a3, .ref a4, .int f_keptN, .ref a5, .ref a6, .ref a7, .ref a8, .ref a9, .ref a10, .ref a11, .ref a12, .ref a13, .ref a14, .ref a15, .ref a16, .int f_side, .ref a17, .ref a18, .ref a19, .int f_rows, .ref a20, .ref a21])), (a1, gk_J G 6 f_members), (a2, gk_I G 6 f_kind), (a12, gk_I G 64 e_f_far), (a13, gk_I G 64 f_queue)] H locs → lv_has ls 8 [(0, .ref a0), (1, .int x1), (2, .int x2), (3, .int x3)] → W p l e rm_X6_apart s m args below meth c H locs 0 0 Q (F0 m 84 ls [])) {H : Heap} {locs : List Loc} {ls : Array Slot} (h : gk_H G A s [(a0, .inr (5, [.int f_n, .ref a1, .ref a2, .ref a3, .ref a4, .int f_keptN, .ref a5, .ref a6, .ref a7, .ref a8, .ref a9, .ref a10, .ref a11, .ref a12, .ref a13, .ref a14, .ref a15, .ref a16, .int f_side, .ref a17, .ref a18, .ref a19, .int f_rows, .ref a20, .ref a21])), (a1, gk_J G 6 f_members), (a2, gk_I G 6 f_kind), (a12, gk_I G 64 f_far), (a13, gk_I G 64 f_queue)] H locs) (hl : lv_has ls 8 [(0, .ref a0), (1, .int x1), (2, .int x2), (3, .int x3), (4, .int x4)]) : W p l e rm_X6_apart s m args below meth c H locs 0 0 Q (F0 m 63 ls []) :=
  gk_lp_some (P := fun z => ∀ (H : Heap) (locs : List Loc) (ls : Array Slot), gk_H G A s [(a0, .inr (5, [.int f_n, .ref a1, .ref a2, .ref a3, .ref a4, .int f_keptN, .ref a5, .ref a6, .ref a7, .ref a8, .ref a9, .ref a10, .ref a11, .ref a12, .ref a13, .ref a14, .ref a15, .ref a16, .int f_side, .ref a17, .ref a18, .ref a19, .int f_rows, .ref a20, .ref a21])), (a1, gk_J G 6 f_members), (a2, gk_I G 6 f_kind), (a12, gk_I G 64 z.2), (a13, gk_I G 64 f_queue)] H locs → lv_has ls 8 [(0, .ref a0), (1, .int x1), (2, .int x2), (3, .int x3), (4, .int z.1)] → W p l e rm_X6_apart s m args below meth c H locs 0 0 Q (F0 m 63 ls [])) (E := fun r => (∀ (f_far : (Nat → Int32)), r = f_far → ∀ (H : Heap) (locs : List Loc) (ls : Array Slot), gk_H G A s [(a0, .inr (5, [.int f_n, .ref a1, .ref a2, .ref a3, .ref a4, .int f_keptN, .ref a5, .ref a6, .ref a7, .ref a8, .ref a9, .ref a10, .ref a11, .ref a12, .ref a13, .ref a14, .ref a15, .ref a16, .int f_side, .ref a17, .ref a18, .ref a19, .int f_rows, .ref a20, .ref a21])), (a1, gk_J G 6 f_members), (a2, gk_I G 6 f_kind), (a12, gk_I G 64 f_far), (a13, gk_I G 64 f_queue)] H locs → lv_has ls 8 [(0, .ref a0), (1, .int x1), (2, .int x2), (3, .int x3)] → W p l e rm_X6_apart s m args below meth c H locs 0 0 Q (F0 m 84 ls []))) (fun z x hf kl ke H locs ls h hl => w_X6_apart_B63 C hf (fun v0 v1 ez => kl (v0, v1) ez) (fun v0 ez => ke _ ez v0 rfl) h hl) k (x4, f_far) _ hm (fun v0 ez => (by cases ez; exact kx)) _ _ _ h hl
def m_X6_apart_B123 (f_n : Int32) (f_members : (Nat → Int64)) (f_kind : (Nat → Int32)) (x1 : Int32) (x3 : Int32) (x5 : Int32) (x6 : Int32) (x4 : Int32) (x7 : Int32) (f_far : (Nat → Int32)) (f_queue : (Nat → Int32)) : Option ((Int32 × Int32 × (Nat → Int32) × (Nat → Int32)) ⊕ (Int32 × (Nat → Int32) × (Nat → Int32))) := (if ((1 : Int32) <<< (f_n &&& 31)) ≤ x7 then some (.inr (x4, f_far, f_queue)) else gk_bd1 (m_X6_isMember f_members x1 x7) (fun r28 => (if r28 = (0 : Int32) then some (.inl (x4, x7 + 1, f_far, f_queue)) else gk_ix x7 64 ((if (f_far x7.toNatClampNeg) = (-1 : Int32) then gk_bd1 (m_X6_ones (x6 ^^^ x7)) (fun r31 => (if r31 ≤ (2 : Int32) then gk_ix x6 64 (gk_ix x7 64 (gk_ix x4 64 (some (.inl (x4 + 1, x7 + 1, upd f_far x7.toNatClampNeg ((f_far x6.toNatClampNeg) + (1 : Int32)), upd f_queue x4.toNatClampNeg x7))))) else some (.inl (x4, x7 + 1, f_far, f_queue)))) else some (.inl (x4, x7 + 1, f_far, f_queue)))))))
set_option maxRecDepth 100000 in
set_option maxHeartbeats 4000000 in
theorem w_X6_apart_B123 {p : Program} {l : Launch} {e : Env} {s : State} {m : MethodId} {args : Array Value} {below : List Frame} {meth : Method} {c : Code} {G : gk_G} {A : Nat → Prop} {Q : State → Prop} {a0 a1 a2 a3 a4 a5 a6 a7 a8 a9 a10 a11 a12 a13 a14 a15 a16 a17 a18 a19 a20 a21 : Nat} (C : gk_C p s m args meth c cX6_apart 8 (some .int) yX6_apart wsX6_apart false G A) {f_n : Int32} {f_members : (Nat → Int64)} {f_kind : (Nat → Int32)} {x1 : Int32} {x3 : Int32} {x5 : Int32} {x6 : Int32} {x4 : Int32} {x7 : Int32} {f_far : (Nat → Int32)} {f_queue : (Nat → Int32)} {f_keptN : Int32} {f_side : Int32} {f_rows : Int32} {yy : (Int32 × Int32 × (Nat → Int32) × (Nat → Int32)) ⊕ (Int32 × (Nat → Int32) × (Nat → Int32))} (hm : m_X6_apart_B123 f_n f_members f_kind x1 x3 x5 x6 x4 x7 f_far f_queue = some yy) (kl : ∀ (x4 : Int32) (x7 : Int32) (f_far : (Nat → Int32)) (f_queue : (Nat → Int32)), yy = .inl (x4, x7, f_far, f_queue) → ∀ (H : Heap) (locs : List Loc) (ls : Array Slot), gk_H G A s [(a0, .inr (5, [.int f_n, .ref a1, .ref a2, .ref a3, .ref a4, .int f_keptN, .ref a5, .ref a6, .ref a7, .ref a8, .ref a9, .ref a10, .ref a11, .ref a12, .ref a13, .ref a14, .ref a15, .ref a16, .int f_side, .ref a17, .ref a18, .ref a19, .int f_rows, .ref a20, .ref a21])), (a1, gk_J G 6 f_members), (a2, gk_I G 6 f_kind), (a12, gk_I G 64 f_far), (a13, gk_I G 64 f_queue)] H locs → lv_has ls 8 [(0, .ref a0), (1, .int x1), (3, .int x3), (4, .int x4), (5, .int x5), (6, .int x6), (7, .int x7)] → W p l e rm_X6_apart s m args below meth c H locs 0 0 Q (F0 m 123 ls [])) (kx : ∀ (x4 : Int32) (f_far : (Nat → Int32)) (f_queue : (Nat → Int32)), yy = .inr (x4, f_far, f_queue) → ∀ (H : Heap) (locs : List Loc) (ls : Array Slot), gk_H G A s [(a0, .inr (5, [.int f_n, .ref a1, .ref a2, .ref a3, .ref a4, .int f_keptN, .ref a5, .ref a6, .ref a7, .ref a8, .ref a9, .ref a10, .ref a11, .ref a12, .ref a13, .ref a14, .ref a15, .ref a16, .int f_side, .ref a17, .ref a18, .ref a19, .int f_rows, .ref a20, .ref a21])), (a1, gk_J G 6 f_members), (a2, gk_I G 6 f_kind), (a12, gk_I G 64 f_far), (a13, gk_I G 64 f_queue)] H locs → lv_has ls 8 [(0, .ref a0), (1, .int x1), (3, .int x3), (4, .int x4), (5, .int x5)] → W p l e rm_X6_apart s m args below meth c H locs 0 0 Q (F0 m 204 ls [])) {H : Heap} {locs : List Loc} {ls : Array Slot} (h : gk_H G A s [(a0, .inr (5, [.int f_n, .ref a1, .ref a2, .ref a3, .ref a4, .int f_keptN, .ref a5, .ref a6, .ref a7, .ref a8, .ref a9, .ref a10, .ref a11, .ref a12, .ref a13, .ref a14, .ref a15, .ref a16, .int f_side, .ref a17, .ref a18, .ref a19, .int f_rows, .ref a20, .ref a21])), (a1, gk_J G 6 f_members), (a2, gk_I G 6 f_kind), (a12, gk_I G 64 f_far), (a13, gk_I G 64 f_queue)] H locs) (hl : lv_has ls 8 [(0, .ref a0), (1, .int x1), (3, .int x3), (4, .int x4), (5, .int x5), (6, .int x6), (7, .int x7)]) : W p l e rm_X6_apart s m args below meth c H locs 0 0 Q (F0 m 123 ls []) := by
  obtain ⟨hx, hb, hml, hr, hown, hnm, hts, hlk, hK, hSt, hA⟩ := id C
  obtain ⟨hP, hD, hS⟩ := h
  unfold m_X6_apart_B123 at hm
  refine lv_iload hx hb dX6_apart_123 (lv_at hl 6 rfl) ?_
  refine lv_iconst (v := 1) hx hb dX6_apart_125 (by decide) ?_
  refine lv_aload_n hx hb dX6_apart_126 rfl (lv_at hl 0 rfl) ?_
  refine va_get (D := G.1) (cl := vwCl) (own := RX6) (ref := "ExchangeFamiliesModel") (ci := 5) (v := .int f_n) (C := RX6) (T := TX6) (N := 25) hx hb hts k_X6_apart_0 hown hK hP 0 rfl rfl 0 (by decide) (hts _ k_X6_apart_4) (fun _ h9 => h9) rfl dX6_apart_127 ?_
  refine lv_ishl hx hb dX6_apart_130 ?_
  refine lv_icmp_ge (tgt := 204) hx hb dX6_apart_131 (by decide) (fun c27 => ?_) (fun c27 => ?_)
  · have hm := gk_it c27 hm
    exact kx _ _ _ (Option.some.inj hm).symm _ _ _ ⟨hP, hD, hS⟩ (lv_sub hl [0, 1, 2, 3, 4] rfl)
  · have hm := gk_if c27 hm
    refine lv_aload_n hx hb dX6_apart_134 rfl (lv_at hl 0 rfl) ?_
    refine lv_iload_n hx hb dX6_apart_135 rfl (lv_at hl 1 rfl) ?_
    refine lv_iload hx hb dX6_apart_136 (lv_at hl 6 rfl) ?_
    obtain ⟨r28, hq, hm⟩ := gk_bd1_some hm
    refine gk_callV (n := 2) (bytes := cX6_isMember) (maxL := 3) (ret := (some .boolean)) (Cn := RX6) (T := TX6) (N := 25) [(a2, gk_I G 6 f_kind), (a12, gk_I G 64 f_far), (a13, gk_I G 64 f_queue)] [(a0, .inr (5, [.int f_n, .ref a1, .ref a2, .ref a3, .ref a4, .int f_keptN, .ref a5, .ref a6, .ref a7, .ref a8, .ref a9, .ref a10, .ref a11, .ref a12, .ref a13, .ref a14, .ref a15, .ref a16, .int f_side, .ref a17, .ref a18, .ref a19, .int f_rows, .ref a20, .ref a21])), (a1, gk_J G 6 f_members), (a2, gk_I G 6 f_kind), (a12, gk_I G 64 f_far), (a13, gk_I G 64 f_queue)] [] C ⟨hP, hD, hS⟩ (c_X6_isMember l G a0 a1 a2 a3 a4 a5 a6 a7 a8 a9 a10 a11 a12 a13 a14 a15 a16 a17 a18 a19 a20 a21 f_n f_keptN f_side f_rows f_members x1 x7 hq) gX6_apart_X6_isMember dX6_apart_138 hl.1 [0, 1] [2, 3, 4] [3, 4, 0, 1, 2] rfl rfl ⟨rfl, rfl⟩ ⟨Nat.le_of_ble_eq_true rfl, Nat.le_of_ble_eq_true rfl⟩ ⟨rfl, by decide +kernel, by decide +kernel, by decide +kernel⟩ rfl (fun h => by cases h) (Nat.le_of_ble_eq_true rfl) rfl rfl rfl rfl (by decide) rfl rfl (fun H locs h => ?_)
    obtain ⟨hP, hD, hS⟩ := h
    refine lv_if_eq (tgt := 198) hx hb dX6_apart_141 (by decide) (fun c29 => ?_) (fun c29 => ?_)
    · have hm := gk_it c29 hm
      refine lv_iinc (v := x7 + 1) (lv' := [(7, .int (x7 + 1)), (0, .ref a0), (1, .int x1), (3, .int x3), (4, .int x4), (5, .int x5), (6, .int x6)]) hx hb dX6_apart_198 hl (k := 6) rfl rfl (by decide) rfl (fun ls hl => ?_)
      refine lv_goto (tgt := 123) hx hb dX6_apart_201 (by decide) ?_
      exact kl _ _ _ _ (Option.some.inj hm).symm _ _ _ ⟨hP, hD, hS⟩ (lv_sub hl [1, 2, 3, 4, 5, 6, 0] rfl)
    · have hm := gk_if c29 hm
      refine lv_aload_n hx hb dX6_apart_144 rfl (lv_at hl 0 rfl) ?_
      refine va_get (D := G.1) (cl := vwCl) (own := RX6) (ref := "ExchangeFamiliesModel") (ci := 5) (v := .ref a12) (C := RX6) (T := TX6) (N := 25) hx hb hts k_X6_apart_0 hown hK hP 0 rfl rfl 13 (by decide) (hts _ k_X6_apart_2) (fun _ h9 => h9) rfl dX6_apart_145 ?_
      refine lv_iload hx hb dX6_apart_148 (lv_at hl 6 rfl) ?_
      obtain ⟨hi, hm⟩ := gk_ix_some hm
      refine va_iald hx hb hK hP 3 0 rfl rfl hi dX6_apart_150 ?_
      refine lv_iconst (v := -1) hx hb dX6_apart_151 (by decide) ?_
      refine lv_icmp_ne (tgt := 198) hx hb dX6_apart_152 (by decide) (fun c30 => ?_) (fun c30 => ?_)
      · have hm := gk_if c30 hm
        refine lv_iinc (v := x7 + 1) (lv' := [(7, .int (x7 + 1)), (0, .ref a0), (1, .int x1), (3, .int x3), (4, .int x4), (5, .int x5), (6, .int x6)]) hx hb dX6_apart_198 hl (k := 6) rfl rfl (by decide) rfl (fun ls hl => ?_)
        refine lv_goto (tgt := 123) hx hb dX6_apart_201 (by decide) ?_
        exact kl _ _ _ _ (Option.some.inj hm).symm _ _ _ ⟨hP, hD, hS⟩ (lv_sub hl [1, 2, 3, 4, 5, 6, 0] rfl)
      · have hm := gk_it c30 hm
        refine lv_iload hx hb dX6_apart_155 (lv_at hl 5 rfl) ?_
        refine lv_iload hx hb dX6_apart_157 (lv_at hl 6 rfl) ?_
        refine lv_ixor hx hb dX6_apart_159 ?_
        obtain ⟨r31, hq, hm⟩ := gk_bd1_some hm
        refine gk_callS (n := 1) (bytes := cX6_ones) (maxL := 3) (ret := (some .int)) [(a0, .inr (5, [.int f_n, .ref a1, .ref a2, .ref a3, .ref a4, .int f_keptN, .ref a5, .ref a6, .ref a7, .ref a8, .ref a9, .ref a10, .ref a11, .ref a12, .ref a13, .ref a14, .ref a15, .ref a16, .int f_side, .ref a17, .ref a18, .ref a19, .int f_rows, .ref a20, .ref a21])), (a1, gk_J G 6 f_members), (a2, gk_I G 6 f_kind), (a12, gk_I G 64 f_far), (a13, gk_I G 64 f_queue)] [(a0, .inr (5, [.int f_n, .ref a1, .ref a2, .ref a3, .ref a4, .int f_keptN, .ref a5, .ref a6, .ref a7, .ref a8, .ref a9, .ref a10, .ref a11, .ref a12, .ref a13, .ref a14, .ref a15, .ref a16, .int f_side, .ref a17, .ref a18, .ref a19, .int f_rows, .ref a20, .ref a21])), (a1, gk_J G 6 f_members), (a2, gk_I G 6 f_kind), (a12, gk_I G 64 f_far), (a13, gk_I G 64 f_queue)] [] C ⟨hP, hD, hS⟩ (c_X6_ones l G (x6 ^^^ x7) hq) gX6_apart_X6_ones dX6_apart_160 hl.1 [] [0, 1, 2, 3, 4] [0, 1, 2, 3, 4] rfl ⟨rfl, rfl⟩ ⟨Nat.le_of_ble_eq_true rfl, Nat.le_of_ble_eq_true rfl⟩ ⟨by decide +kernel, by decide +kernel, by decide +kernel⟩ rfl (fun h => by cases h) (Nat.le_of_ble_eq_true rfl) rfl rfl rfl rfl (by decide) rfl rfl (fun H locs h => ?_)
        obtain ⟨hP, hD, hS⟩ := h
        refine lv_iconst (v := 2) hx hb dX6_apart_163 (by decide) ?_
        refine lv_icmp_le (tgt := 170) hx hb dX6_apart_164 (by decide) (fun c32 => ?_) (fun c32 => ?_)
        · have hm := gk_it c32 hm
          refine lv_aload_n hx hb dX6_apart_170 rfl (lv_at hl 0 rfl) ?_
          refine va_get (D := G.1) (cl := vwCl) (own := RX6) (ref := "ExchangeFamiliesModel") (ci := 5) (v := .ref a12) (C := RX6) (T := TX6) (N := 25) hx hb hts k_X6_apart_0 hown hK hP 0 rfl rfl 13 (by decide) (hts _ k_X6_apart_2) (fun _ h9 => h9) rfl dX6_apart_171 ?_
          refine lv_iload hx hb dX6_apart_174 (lv_at hl 6 rfl) ?_
          refine lv_aload_n hx hb dX6_apart_176 rfl (lv_at hl 0 rfl) ?_
          refine va_get (D := G.1) (cl := vwCl) (own := RX6) (ref := "ExchangeFamiliesModel") (ci := 5) (v := .ref a12) (C := RX6) (T := TX6) (N := 25) hx hb hts k_X6_apart_0 hown hK hP 0 rfl rfl 13 (by decide) (hts _ k_X6_apart_2) (fun _ h9 => h9) rfl dX6_apart_177 ?_
          refine lv_iload hx hb dX6_apart_180 (lv_at hl 5 rfl) ?_
          obtain ⟨hi, hm⟩ := gk_ix_some hm
          refine va_iald hx hb hK hP 3 0 rfl rfl hi dX6_apart_182 ?_
          refine lv_iconst (v := 1) hx hb dX6_apart_183 (by decide) ?_
          refine lv_iadd hx hb dX6_apart_184 ?_
          obtain ⟨hi, hm⟩ := gk_ix_some hm
          refine va_iast hx hb hK hP hD hS 3 0 rfl rfl hi dX6_apart_185 (fun H locs hP hD hS => ?_)
          have hP : va_P G.1 vwCl [(a0, .inr (5, [.int f_n, .ref a1, .ref a2, .ref a3, .ref a4, .int f_keptN, .ref a5, .ref a6, .ref a7, .ref a8, .ref a9, .ref a10, .ref a11, .ref a12, .ref a13, .ref a14, .ref a15, .ref a16, .int f_side, .ref a17, .ref a18, .ref a19, .int f_rows, .ref a20, .ref a21])), (a1, gk_J G 6 f_members), (a2, gk_I G 6 f_kind), (a12, gk_I G 64 (upd f_far x7.toNatClampNeg ((f_far x6.toNatClampNeg) + (1 : Int32)))), (a13, gk_I G 64 f_queue)] H := hP
          have hD : va_D A [(a0, .inr (5, [.int f_n, .ref a1, .ref a2, .ref a3, .ref a4, .int f_keptN, .ref a5, .ref a6, .ref a7, .ref a8, .ref a9, .ref a10, .ref a11, .ref a12, .ref a13, .ref a14, .ref a15, .ref a16, .int f_side, .ref a17, .ref a18, .ref a19, .int f_rows, .ref a20, .ref a21])), (a1, gk_J G 6 f_members), (a2, gk_I G 6 f_kind), (a12, gk_I G 64 (upd f_far x7.toNatClampNeg ((f_far x6.toNatClampNeg) + (1 : Int32)))), (a13, gk_I G 64 f_queue)] := hD
          refine lv_aload_n hx hb dX6_apart_186 rfl (lv_at hl 0 rfl) ?_
          refine va_get (D := G.1) (cl := vwCl) (own := RX6) (ref := "ExchangeFamiliesModel") (ci := 5) (v := .ref a13) (C := RX6) (T := TX6) (N := 25) hx hb hts k_X6_apart_0 hown hK hP 0 rfl rfl 14 (by decide) (hts _ k_X6_apart_3) (fun _ h9 => h9) rfl dX6_apart_187 ?_
          refine lv_iload hx hb dX6_apart_190 (lv_at hl 3 rfl) ?_
          refine lv_iload hx hb dX6_apart_192 (lv_at hl 6 rfl) ?_
          obtain ⟨hi, hm⟩ := gk_ix_some hm
          refine va_iast hx hb hK hP hD hS 4 0 rfl rfl hi dX6_apart_194 (fun H locs hP hD hS => ?_)
          have hP : va_P G.1 vwCl [(a0, .inr (5, [.int f_n, .ref a1, .ref a2, .ref a3, .ref a4, .int f_keptN, .ref a5, .ref a6, .ref a7, .ref a8, .ref a9, .ref a10, .ref a11, .ref a12, .ref a13, .ref a14, .ref a15, .ref a16, .int f_side, .ref a17, .ref a18, .ref a19, .int f_rows, .ref a20, .ref a21])), (a1, gk_J G 6 f_members), (a2, gk_I G 6 f_kind), (a12, gk_I G 64 (upd f_far x7.toNatClampNeg ((f_far x6.toNatClampNeg) + (1 : Int32)))), (a13, gk_I G 64 (upd f_queue x4.toNatClampNeg x7))] H := hP
          have hD : va_D A [(a0, .inr (5, [.int f_n, .ref a1, .ref a2, .ref a3, .ref a4, .int f_keptN, .ref a5, .ref a6, .ref a7, .ref a8, .ref a9, .ref a10, .ref a11, .ref a12, .ref a13, .ref a14, .ref a15, .ref a16, .int f_side, .ref a17, .ref a18, .ref a19, .int f_rows, .ref a20, .ref a21])), (a1, gk_J G 6 f_members), (a2, gk_I G 6 f_kind), (a12, gk_I G 64 (upd f_far x7.toNatClampNeg ((f_far x6.toNatClampNeg) + (1 : Int32)))), (a13, gk_I G 64 (upd f_queue x4.toNatClampNeg x7))] := hD
          refine lv_iinc (v := x4 + 1) (lv' := [(4, .int (x4 + 1)), (0, .ref a0), (1, .int x1), (3, .int x3), (5, .int x5), (6, .int x6), (7, .int x7)]) hx hb dX6_apart_195 hl (k := 3) rfl rfl (by decide) rfl (fun ls hl => ?_)
          refine lv_iinc (v := x7 + 1) (lv' := [(7, .int (x7 + 1)), (4, .int (x4 + 1)), (0, .ref a0), (1, .int x1), (3, .int x3), (5, .int x5), (6, .int x6)]) hx hb dX6_apart_198 hl (k := 6) rfl rfl (by decide) rfl (fun ls hl => ?_)
          refine lv_goto (tgt := 123) hx hb dX6_apart_201 (by decide) ?_
          exact kl _ _ _ _ (Option.some.inj hm).symm _ _ _ ⟨hP, hD, hS⟩ (lv_sub hl [2, 3, 4, 1, 5, 6, 0] rfl)
        · have hm := gk_if c32 hm
          refine lv_goto (tgt := 198) hx hb dX6_apart_167 (by decide) ?_
          refine lv_iinc (v := x7 + 1) (lv' := [(7, .int (x7 + 1)), (0, .ref a0), (1, .int x1), (3, .int x3), (4, .int x4), (5, .int x5), (6, .int x6)]) hx hb dX6_apart_198 hl (k := 6) rfl rfl (by decide) rfl (fun ls hl => ?_)
          refine lv_goto (tgt := 123) hx hb dX6_apart_201 (by decide) ?_
          exact kl _ _ _ _ (Option.some.inj hm).symm _ _ _ ⟨hP, hD, hS⟩ (lv_sub hl [1, 2, 3, 4, 5, 6, 0] rfl)
set_option maxRecDepth 100000 in
set_option maxHeartbeats 4000000 in
theorem w_X6_apart_L123 {p : Program} {l : Launch} {e : Env} {s : State} {m : MethodId} {args : Array Value} {below : List Frame} {meth : Method} {c : Code} {G : gk_G} {A : Nat → Prop} {Q : State → Prop} {a0 a1 a2 a3 a4 a5 a6 a7 a8 a9 a10 a11 a12 a13 a14 a15 a16 a17 a18 a19 a20 a21 : Nat} (C : gk_C p s m args meth c cX6_apart 8 (some .int) yX6_apart wsX6_apart false G A) {f_n : Int32} {f_members : (Nat → Int64)} {f_kind : (Nat → Int32)} {x1 : Int32} {x3 : Int32} {x5 : Int32} {x6 : Int32} {x4 : Int32} {x7 : Int32} {f_far : (Nat → Int32)} {f_queue : (Nat → Int32)} {f_keptN : Int32} {f_side : Int32} {f_rows : Int32} {k : Nat} {e_x4 : Int32} {e_f_far : (Nat → Int32)} {e_f_queue : (Nat → Int32)} (hm : gk_lp (fun z => m_X6_apart_B123 f_n f_members f_kind x1 x3 x5 x6 z.1 z.2.1 z.2.2.1 z.2.2.2) k (x4, x7, f_far, f_queue) = some (e_x4, e_f_far, e_f_queue)) (kx : ∀ (H : Heap) (locs : List Loc) (ls : Array Slot), gk_H G A s [(a0, .inr (5, [.int f_n, .ref a1, .ref a2, .ref a3, .ref a4, .int f_keptN, .ref a5, .ref a6, .ref a7, .ref a8, .ref a9, .ref a10, .ref a11, .ref a12, .ref a13, .ref a14, .ref a15, .ref a16, .int f_side, .ref a17, .ref a18, .ref a19, .int f_rows, .ref a20, .ref a21])), (a1, gk_J G 6 f_members), (a2, gk_I G 6 f_kind), (a12, gk_I G 64 e_f_far), (a13, gk_I G 64 e_f_queue)] H locs → lv_has ls 8 [(0, .ref a0), (1, .int x1), (3, .int x3), (4, .int e_x4), (5, .int x5)] → W p l e rm_X6_apart s m args below meth c H locs 0 0 Q (F0 m 204 ls [])) {H : Heap} {locs : List Loc} {ls : Array Slot} (h : gk_H G A s [(a0, .inr (5, [.int f_n, .ref a1, .ref a2, .ref a3, .ref a4, .int f_keptN, .ref a5, .ref a6, .ref a7, .ref a8, .ref a9, .ref a10, .ref a11, .ref a12, .ref a13, .ref a14, .ref a15, .ref a16, .int f_side, .ref a17, .ref a18, .ref a19, .int f_rows, .ref a20, .ref a21])), (a1, gk_J G 6 f_members), (a2, gk_I G 6 f_kind), (a12, gk_I G 64 f_far), (a13, gk_I G 64 f_queue)] H locs) (hl : lv_has ls 8 [(0, .ref a0), (1, .int x1), (3, .int x3), (4, .int x4), (5, .int x5), (6, .int x6), (7, .int x7)]) : W p l e rm_X6_apart s m args below meth c H locs 0 0 Q (F0 m 123 ls []) :=
  gk_lp_some (P := fun z => ∀ (H : Heap) (locs : List Loc) (ls : Array Slot), gk_H G A s [(a0, .inr (5, [.int f_n, .ref a1, .ref a2, .ref a3, .ref a4, .int f_keptN, .ref a5, .ref a6, .ref a7, .ref a8, .ref a9, .ref a10, .ref a11, .ref a12, .ref a13, .ref a14, .ref a15, .ref a16, .int f_side, .ref a17, .ref a18, .ref a19, .int f_rows, .ref a20, .ref a21])), (a1, gk_J G 6 f_members), (a2, gk_I G 6 f_kind), (a12, gk_I G 64 z.2.2.1), (a13, gk_I G 64 z.2.2.2)] H locs → lv_has ls 8 [(0, .ref a0), (1, .int x1), (3, .int x3), (4, .int z.1), (5, .int x5), (6, .int x6), (7, .int z.2.1)] → W p l e rm_X6_apart s m args below meth c H locs 0 0 Q (F0 m 123 ls [])) (E := fun r => (∀ (x4 : Int32) (f_far : (Nat → Int32)) (f_queue : (Nat → Int32)), r = (x4, f_far, f_queue) → ∀ (H : Heap) (locs : List Loc) (ls : Array Slot), gk_H G A s [(a0, .inr (5, [.int f_n, .ref a1, .ref a2, .ref a3, .ref a4, .int f_keptN, .ref a5, .ref a6, .ref a7, .ref a8, .ref a9, .ref a10, .ref a11, .ref a12, .ref a13, .ref a14, .ref a15, .ref a16, .int f_side, .ref a17, .ref a18, .ref a19, .int f_rows, .ref a20, .ref a21])), (a1, gk_J G 6 f_members), (a2, gk_I G 6 f_kind), (a12, gk_I G 64 f_far), (a13, gk_I G 64 f_queue)] H locs → lv_has ls 8 [(0, .ref a0), (1, .int x1), (3, .int x3), (4, .int x4), (5, .int x5)] → W p l e rm_X6_apart s m args below meth c H locs 0 0 Q (F0 m 204 ls []))) (fun z x hf kl ke H locs ls h hl => w_X6_apart_B123 C hf (fun v0 v1 v2 v3 ez => kl (v0, v1, v2, v3) ez) (fun v0 v1 v2 ez => ke _ ez v0 v1 v2 rfl) h hl) k (x4, x7, f_far, f_queue) _ hm (fun v0 v1 v2 ez => (by cases ez; exact kx)) _ _ _ h hl
def m_X6_apart_B104 (f_n : Int32) (f_members : (Nat → Int64)) (f_kind : (Nat → Int32)) (x1 : Int32) (x3 : Int32) (x4 : Int32) (x5 : Int32) (f_far : (Nat → Int32)) (f_queue : (Nat → Int32)) : Option ((Int32 × Int32 × (Nat → Int32) × (Nat → Int32)) ⊕ ((Nat → Int32) × (Nat → Int32))) := (if x4 ≤ x5 then some (.inr (f_far, f_queue)) else gk_ix x5 64 (gk_bd3 (gk_lp (fun z => m_X6_apart_B123 f_n f_members f_kind x1 x3 x5 (f_queue x5.toNatClampNeg) z.1 z.2.1 z.2.2.1 z.2.2.2) gk_fu (x4, (0 : Int32), f_far, f_queue)) (fun e33 e34 e35 => some (.inl (e33, x5 + 1, e34, e35)))))
set_option maxRecDepth 100000 in
set_option maxHeartbeats 4000000 in
theorem w_X6_apart_B104 {p : Program} {l : Launch} {e : Env} {s : State} {m : MethodId} {args : Array Value} {below : List Frame} {meth : Method} {c : Code} {G : gk_G} {A : Nat → Prop} {Q : State → Prop} {a0 a1 a2 a3 a4 a5 a6 a7 a8 a9 a10 a11 a12 a13 a14 a15 a16 a17 a18 a19 a20 a21 : Nat} (C : gk_C p s m args meth c cX6_apart 8 (some .int) yX6_apart wsX6_apart false G A) {f_n : Int32} {f_members : (Nat → Int64)} {f_kind : (Nat → Int32)} {x1 : Int32} {x3 : Int32} {x4 : Int32} {x5 : Int32} {f_far : (Nat → Int32)} {f_queue : (Nat → Int32)} {f_keptN : Int32} {f_side : Int32} {f_rows : Int32} {yy : (Int32 × Int32 × (Nat → Int32) × (Nat → Int32)) ⊕ ((Nat → Int32) × (Nat → Int32))} (hm : m_X6_apart_B104 f_n f_members f_kind x1 x3 x4 x5 f_far f_queue = some yy) (kl : ∀ (x4 : Int32) (x5 : Int32) (f_far : (Nat → Int32)) (f_queue : (Nat → Int32)), yy = .inl (x4, x5, f_far, f_queue) → ∀ (H : Heap) (locs : List Loc) (ls : Array Slot), gk_H G A s [(a0, .inr (5, [.int f_n, .ref a1, .ref a2, .ref a3, .ref a4, .int f_keptN, .ref a5, .ref a6, .ref a7, .ref a8, .ref a9, .ref a10, .ref a11, .ref a12, .ref a13, .ref a14, .ref a15, .ref a16, .int f_side, .ref a17, .ref a18, .ref a19, .int f_rows, .ref a20, .ref a21])), (a1, gk_J G 6 f_members), (a2, gk_I G 6 f_kind), (a12, gk_I G 64 f_far), (a13, gk_I G 64 f_queue)] H locs → lv_has ls 8 [(0, .ref a0), (1, .int x1), (3, .int x3), (4, .int x4), (5, .int x5)] → W p l e rm_X6_apart s m args below meth c H locs 0 0 Q (F0 m 104 ls [])) (kx : ∀ (f_far : (Nat → Int32)) (f_queue : (Nat → Int32)), yy = .inr (f_far, f_queue) → ∀ (H : Heap) (locs : List Loc) (ls : Array Slot), gk_H G A s [(a0, .inr (5, [.int f_n, .ref a1, .ref a2, .ref a3, .ref a4, .int f_keptN, .ref a5, .ref a6, .ref a7, .ref a8, .ref a9, .ref a10, .ref a11, .ref a12, .ref a13, .ref a14, .ref a15, .ref a16, .int f_side, .ref a17, .ref a18, .ref a19, .int f_rows, .ref a20, .ref a21])), (a1, gk_J G 6 f_members), (a2, gk_I G 6 f_kind), (a12, gk_I G 64 f_far), (a13, gk_I G 64 f_queue)] H locs → lv_has ls 8 [(0, .ref a0), (3, .int x3)] → W p l e rm_X6_apart s m args below meth c H locs 0 0 Q (F0 m 210 ls [])) {H : Heap} {locs : List Loc} {ls : Array Slot} (h : gk_H G A s [(a0, .inr (5, [.int f_n, .ref a1, .ref a2, .ref a3, .ref a4, .int f_keptN, .ref a5, .ref a6, .ref a7, .ref a8, .ref a9, .ref a10, .ref a11, .ref a12, .ref a13, .ref a14, .ref a15, .ref a16, .int f_side, .ref a17, .ref a18, .ref a19, .int f_rows, .ref a20, .ref a21])), (a1, gk_J G 6 f_members), (a2, gk_I G 6 f_kind), (a12, gk_I G 64 f_far), (a13, gk_I G 64 f_queue)] H locs) (hl : lv_has ls 8 [(0, .ref a0), (1, .int x1), (3, .int x3), (4, .int x4), (5, .int x5)]) : W p l e rm_X6_apart s m args below meth c H locs 0 0 Q (F0 m 104 ls []) := by
  obtain ⟨hx, hb, hml, hr, hown, hnm, hts, hlk, hK, hSt, hA⟩ := id C
  obtain ⟨hP, hD, hS⟩ := h
  unfold m_X6_apart_B104 at hm
  refine lv_iload hx hb dX6_apart_104 (lv_at hl 4 rfl) ?_
  refine lv_iload hx hb dX6_apart_106 (lv_at hl 3 rfl) ?_
  refine lv_icmp_ge (tgt := 210) hx hb dX6_apart_108 (by decide) (fun c26 => ?_) (fun c26 => ?_)
  · have hm := gk_it c26 hm
    exact kx _ _ (Option.some.inj hm).symm _ _ _ ⟨hP, hD, hS⟩ (lv_sub hl [0, 2] rfl)
  · have hm := gk_if c26 hm
    refine lv_aload_n hx hb dX6_apart_111 rfl (lv_at hl 0 rfl) ?_
    refine va_get (D := G.1) (cl := vwCl) (own := RX6) (ref := "ExchangeFamiliesModel") (ci := 5) (v := .ref a13) (C := RX6) (T := TX6) (N := 25) hx hb hts k_X6_apart_0 hown hK hP 0 rfl rfl 14 (by decide) (hts _ k_X6_apart_3) (fun _ h9 => h9) rfl dX6_apart_112 ?_
    refine lv_iload hx hb dX6_apart_115 (lv_at hl 4 rfl) ?_
    obtain ⟨hi, hm⟩ := gk_ix_some hm
    refine va_iald hx hb hK hP 4 0 rfl rfl hi dX6_apart_117 ?_
    refine lv_istore (lv' := [(6, .int (f_queue x5.toNatClampNeg)), (0, .ref a0), (1, .int x1), (3, .int x3), (4, .int x4), (5, .int x5)]) hx hb dX6_apart_118 hl (by decide) rfl (fun ls hl => ?_)
    refine lv_iconst (v := 0) hx hb dX6_apart_120 (by decide) ?_
    refine lv_istore (lv' := [(7, .int (0 : Int32)), (6, .int (f_queue x5.toNatClampNeg)), (0, .ref a0), (1, .int x1), (3, .int x3), (4, .int x4), (5, .int x5)]) hx hb dX6_apart_121 hl (by decide) rfl (fun ls hl => ?_)
    obtain ⟨e33, e34, e35, hq, hm⟩ := gk_bd3_some hm
    refine w_X6_apart_L123 C hq (fun H locs ls h hl => ?_) ⟨hP, hD, hS⟩ (lv_sub hl [2, 3, 4, 5, 6, 1, 0] rfl)
    obtain ⟨hP, hD, hS⟩ := h
    refine lv_iinc (v := x5 + 1) (lv' := [(5, .int (x5 + 1)), (0, .ref a0), (1, .int x1), (3, .int x3), (4, .int e33)]) hx hb dX6_apart_204 hl (k := 4) rfl rfl (by decide) rfl (fun ls hl => ?_)
    refine lv_goto (tgt := 104) hx hb dX6_apart_207 (by decide) ?_
    exact kl _ _ _ _ (Option.some.inj hm).symm _ _ _ ⟨hP, hD, hS⟩ (lv_sub hl [1, 2, 3, 4, 0] rfl)
set_option maxRecDepth 100000 in
set_option maxHeartbeats 4000000 in
theorem w_X6_apart_L104 {p : Program} {l : Launch} {e : Env} {s : State} {m : MethodId} {args : Array Value} {below : List Frame} {meth : Method} {c : Code} {G : gk_G} {A : Nat → Prop} {Q : State → Prop} {a0 a1 a2 a3 a4 a5 a6 a7 a8 a9 a10 a11 a12 a13 a14 a15 a16 a17 a18 a19 a20 a21 : Nat} (C : gk_C p s m args meth c cX6_apart 8 (some .int) yX6_apart wsX6_apart false G A) {f_n : Int32} {f_members : (Nat → Int64)} {f_kind : (Nat → Int32)} {x1 : Int32} {x3 : Int32} {x4 : Int32} {x5 : Int32} {f_far : (Nat → Int32)} {f_queue : (Nat → Int32)} {f_keptN : Int32} {f_side : Int32} {f_rows : Int32} {k : Nat} {e_f_far : (Nat → Int32)} {e_f_queue : (Nat → Int32)} (hm : gk_lp (fun z => m_X6_apart_B104 f_n f_members f_kind x1 x3 z.1 z.2.1 z.2.2.1 z.2.2.2) k (x4, x5, f_far, f_queue) = some (e_f_far, e_f_queue)) (kx : ∀ (H : Heap) (locs : List Loc) (ls : Array Slot), gk_H G A s [(a0, .inr (5, [.int f_n, .ref a1, .ref a2, .ref a3, .ref a4, .int f_keptN, .ref a5, .ref a6, .ref a7, .ref a8, .ref a9, .ref a10, .ref a11, .ref a12, .ref a13, .ref a14, .ref a15, .ref a16, .int f_side, .ref a17, .ref a18, .ref a19, .int f_rows, .ref a20, .ref a21])), (a1, gk_J G 6 f_members), (a2, gk_I G 6 f_kind), (a12, gk_I G 64 e_f_far), (a13, gk_I G 64 e_f_queue)] H locs → lv_has ls 8 [(0, .ref a0), (3, .int x3)] → W p l e rm_X6_apart s m args below meth c H locs 0 0 Q (F0 m 210 ls [])) {H : Heap} {locs : List Loc} {ls : Array Slot} (h : gk_H G A s [(a0, .inr (5, [.int f_n, .ref a1, .ref a2, .ref a3, .ref a4, .int f_keptN, .ref a5, .ref a6, .ref a7, .ref a8, .ref a9, .ref a10, .ref a11, .ref a12, .ref a13, .ref a14, .ref a15, .ref a16, .int f_side, .ref a17, .ref a18, .ref a19, .int f_rows, .ref a20, .ref a21])), (a1, gk_J G 6 f_members), (a2, gk_I G 6 f_kind), (a12, gk_I G 64 f_far), (a13, gk_I G 64 f_queue)] H locs) (hl : lv_has ls 8 [(0, .ref a0), (1, .int x1), (3, .int x3), (4, .int x4), (5, .int x5)]) : W p l e rm_X6_apart s m args below meth c H locs 0 0 Q (F0 m 104 ls []) :=
  gk_lp_some (P := fun z => ∀ (H : Heap) (locs : List Loc) (ls : Array Slot), gk_H G A s [(a0, .inr (5, [.int f_n, .ref a1, .ref a2, .ref a3, .ref a4, .int f_keptN, .ref a5, .ref a6, .ref a7, .ref a8, .ref a9, .ref a10, .ref a11, .ref a12, .ref a13, .ref a14, .ref a15, .ref a16, .int f_side, .ref a17, .ref a18, .ref a19, .int f_rows, .ref a20, .ref a21])), (a1, gk_J G 6 f_members), (a2, gk_I G 6 f_kind), (a12, gk_I G 64 z.2.2.1), (a13, gk_I G 64 z.2.2.2)] H locs → lv_has ls 8 [(0, .ref a0), (1, .int x1), (3, .int x3), (4, .int z.1), (5, .int z.2.1)] → W p l e rm_X6_apart s m args below meth c H locs 0 0 Q (F0 m 104 ls [])) (E := fun r => (∀ (f_far : (Nat → Int32)) (f_queue : (Nat → Int32)), r = (f_far, f_queue) → ∀ (H : Heap) (locs : List Loc) (ls : Array Slot), gk_H G A s [(a0, .inr (5, [.int f_n, .ref a1, .ref a2, .ref a3, .ref a4, .int f_keptN, .ref a5, .ref a6, .ref a7, .ref a8, .ref a9, .ref a10, .ref a11, .ref a12, .ref a13, .ref a14, .ref a15, .ref a16, .int f_side, .ref a17, .ref a18, .ref a19, .int f_rows, .ref a20, .ref a21])), (a1, gk_J G 6 f_members), (a2, gk_I G 6 f_kind), (a12, gk_I G 64 f_far), (a13, gk_I G 64 f_queue)] H locs → lv_has ls 8 [(0, .ref a0), (3, .int x3)] → W p l e rm_X6_apart s m args below meth c H locs 0 0 Q (F0 m 210 ls []))) (fun z x hf kl ke H locs ls h hl => w_X6_apart_B104 C hf (fun v0 v1 v2 v3 ez => kl (v0, v1, v2, v3) ez) (fun v0 v1 ez => ke _ ez v0 v1 rfl) h hl) k (x4, x5, f_far, f_queue) _ hm (fun v0 v1 ez => (by cases ez; exact kx)) _ _ _ h hl
def m_X6_apart_J84 (f_n : Int32) (f_members : (Nat → Int64)) (f_kind : (Nat → Int32)) (f_far : (Nat → Int32)) (f_queue : (Nat → Int32)) (x1 : Int32) (x2 : Int32) (x3 : Int32) : Option (Int32 × (Nat → Int32) × (Nat → Int32)) := gk_ix x2 64 (gk_ix (0 : Int32) 64 (gk_bd2 (gk_lp (fun z => m_X6_apart_B104 f_n f_members f_kind x1 x3 z.1 z.2.1 z.2.2.1 z.2.2.2) gk_fu ((1 : Int32), (0 : Int32), upd f_far x2.toNatClampNeg (0 : Int32), upd f_queue (0 : Int32).toNatClampNeg x2)) (fun e36 e37 => gk_ix x3 64 (some (e36 x3.toNatClampNeg, e36, e37)))))
set_option maxRecDepth 100000 in
set_option maxHeartbeats 4000000 in
theorem w_X6_apart_J84 {p : Program} {l : Launch} {e : Env} {s : State} {m : MethodId} {args : Array Value} {below : List Frame} {meth : Method} {c : Code} {G : gk_G} {A : Nat → Prop} {Q : State → Prop} {a0 a1 a2 a3 a4 a5 a6 a7 a8 a9 a10 a11 a12 a13 a14 a15 a16 a17 a18 a19 a20 a21 : Nat} (C : gk_C p s m args meth c cX6_apart 8 (some .int) yX6_apart wsX6_apart false G A) {f_n : Int32} {f_members : (Nat → Int64)} {f_kind : (Nat → Int32)} {f_far : (Nat → Int32)} {f_queue : (Nat → Int32)} {x1 : Int32} {x2 : Int32} {x3 : Int32} {f_keptN : Int32} {f_side : Int32} {f_rows : Int32} {yy : Int32 × (Nat → Int32) × (Nat → Int32)} (hm : m_X6_apart_J84 f_n f_members f_kind f_far f_queue x1 x2 x3 = some yy) (kr : ∀ (rv : Int32) (g_far : (Nat → Int32)) (g_queue : (Nat → Int32)), yy = (rv, g_far, g_queue) → Q = MQ below (gk_Q G (some (.int rv)) [(a0, .inr (5, [.int f_n, .ref a1, .ref a2, .ref a3, .ref a4, .int f_keptN, .ref a5, .ref a6, .ref a7, .ref a8, .ref a9, .ref a10, .ref a11, .ref a12, .ref a13, .ref a14, .ref a15, .ref a16, .int f_side, .ref a17, .ref a18, .ref a19, .int f_rows, .ref a20, .ref a21])), (a1, gk_J G 6 f_members), (a2, gk_I G 6 f_kind), (a12, gk_I G 64 g_far), (a13, gk_I G 64 g_queue)] A) args s 0 0 A) {H : Heap} {locs : List Loc} {ls : Array Slot} (h : gk_H G A s [(a0, .inr (5, [.int f_n, .ref a1, .ref a2, .ref a3, .ref a4, .int f_keptN, .ref a5, .ref a6, .ref a7, .ref a8, .ref a9, .ref a10, .ref a11, .ref a12, .ref a13, .ref a14, .ref a15, .ref a16, .int f_side, .ref a17, .ref a18, .ref a19, .int f_rows, .ref a20, .ref a21])), (a1, gk_J G 6 f_members), (a2, gk_I G 6 f_kind), (a12, gk_I G 64 f_far), (a13, gk_I G 64 f_queue)] H locs) (hl : lv_has ls 8 [(0, .ref a0), (1, .int x1), (2, .int x2), (3, .int x3)]) : W p l e rm_X6_apart s m args below meth c H locs 0 0 Q (F0 m 84 ls []) := by
  obtain ⟨hx, hb, hml, hr, hown, hnm, hts, hlk, hK, hSt, hA⟩ := id C
  obtain ⟨hP, hD, hS⟩ := h
  unfold m_X6_apart_J84 at hm
  refine lv_aload_n hx hb dX6_apart_84 rfl (lv_at hl 0 rfl) ?_
  refine va_get (D := G.1) (cl := vwCl) (own := RX6) (ref := "ExchangeFamiliesModel") (ci := 5) (v := .ref a12) (C := RX6) (T := TX6) (N := 25) hx hb hts k_X6_apart_0 hown hK hP 0 rfl rfl 13 (by decide) (hts _ k_X6_apart_2) (fun _ h9 => h9) rfl dX6_apart_85 ?_
  refine lv_iload_n hx hb dX6_apart_88 rfl (lv_at hl 2 rfl) ?_
  refine lv_iconst (v := 0) hx hb dX6_apart_89 (by decide) ?_
  obtain ⟨hi, hm⟩ := gk_ix_some hm
  refine va_iast hx hb hK hP hD hS 3 0 rfl rfl hi dX6_apart_90 (fun H locs hP hD hS => ?_)
  have hP : va_P G.1 vwCl [(a0, .inr (5, [.int f_n, .ref a1, .ref a2, .ref a3, .ref a4, .int f_keptN, .ref a5, .ref a6, .ref a7, .ref a8, .ref a9, .ref a10, .ref a11, .ref a12, .ref a13, .ref a14, .ref a15, .ref a16, .int f_side, .ref a17, .ref a18, .ref a19, .int f_rows, .ref a20, .ref a21])), (a1, gk_J G 6 f_members), (a2, gk_I G 6 f_kind), (a12, gk_I G 64 (upd f_far x2.toNatClampNeg (0 : Int32))), (a13, gk_I G 64 f_queue)] H := hP
  have hD : va_D A [(a0, .inr (5, [.int f_n, .ref a1, .ref a2, .ref a3, .ref a4, .int f_keptN, .ref a5, .ref a6, .ref a7, .ref a8, .ref a9, .ref a10, .ref a11, .ref a12, .ref a13, .ref a14, .ref a15, .ref a16, .int f_side, .ref a17, .ref a18, .ref a19, .int f_rows, .ref a20, .ref a21])), (a1, gk_J G 6 f_members), (a2, gk_I G 6 f_kind), (a12, gk_I G 64 (upd f_far x2.toNatClampNeg (0 : Int32))), (a13, gk_I G 64 f_queue)] := hD
  refine lv_aload_n hx hb dX6_apart_91 rfl (lv_at hl 0 rfl) ?_
  refine va_get (D := G.1) (cl := vwCl) (own := RX6) (ref := "ExchangeFamiliesModel") (ci := 5) (v := .ref a13) (C := RX6) (T := TX6) (N := 25) hx hb hts k_X6_apart_0 hown hK hP 0 rfl rfl 14 (by decide) (hts _ k_X6_apart_3) (fun _ h9 => h9) rfl dX6_apart_92 ?_
  refine lv_iconst (v := 0) hx hb dX6_apart_95 (by decide) ?_
  refine lv_iload_n hx hb dX6_apart_96 rfl (lv_at hl 2 rfl) ?_
  obtain ⟨hi, hm⟩ := gk_ix_some hm
  refine va_iast hx hb hK hP hD hS 4 0 rfl rfl hi dX6_apart_97 (fun H locs hP hD hS => ?_)
  have hP : va_P G.1 vwCl [(a0, .inr (5, [.int f_n, .ref a1, .ref a2, .ref a3, .ref a4, .int f_keptN, .ref a5, .ref a6, .ref a7, .ref a8, .ref a9, .ref a10, .ref a11, .ref a12, .ref a13, .ref a14, .ref a15, .ref a16, .int f_side, .ref a17, .ref a18, .ref a19, .int f_rows, .ref a20, .ref a21])), (a1, gk_J G 6 f_members), (a2, gk_I G 6 f_kind), (a12, gk_I G 64 (upd f_far x2.toNatClampNeg (0 : Int32))), (a13, gk_I G 64 (upd f_queue (0 : Int32).toNatClampNeg x2))] H := hP
  have hD : va_D A [(a0, .inr (5, [.int f_n, .ref a1, .ref a2, .ref a3, .ref a4, .int f_keptN, .ref a5, .ref a6, .ref a7, .ref a8, .ref a9, .ref a10, .ref a11, .ref a12, .ref a13, .ref a14, .ref a15, .ref a16, .int f_side, .ref a17, .ref a18, .ref a19, .int f_rows, .ref a20, .ref a21])), (a1, gk_J G 6 f_members), (a2, gk_I G 6 f_kind), (a12, gk_I G 64 (upd f_far x2.toNatClampNeg (0 : Int32))), (a13, gk_I G 64 (upd f_queue (0 : Int32).toNatClampNeg x2))] := hD
  refine lv_iconst (v := 1) hx hb dX6_apart_98 (by decide) ?_
  refine lv_istore (lv' := [(4, .int (1 : Int32)), (0, .ref a0), (1, .int x1), (2, .int x2), (3, .int x3)]) hx hb dX6_apart_99 hl (by decide) rfl (fun ls hl => ?_)
  refine lv_iconst (v := 0) hx hb dX6_apart_101 (by decide) ?_
  refine lv_istore (lv' := [(5, .int (0 : Int32)), (4, .int (1 : Int32)), (0, .ref a0), (1, .int x1), (2, .int x2), (3, .int x3)]) hx hb dX6_apart_102 hl (by decide) rfl (fun ls hl => ?_)
  obtain ⟨e36, e37, hq, hm⟩ := gk_bd2_some hm
  refine w_X6_apart_L104 C hq (fun H locs ls h hl => ?_) ⟨hP, hD, hS⟩ (lv_sub hl [2, 3, 5, 1, 0] rfl)
  obtain ⟨hP, hD, hS⟩ := h
  refine lv_aload_n hx hb dX6_apart_210 rfl (lv_at hl 0 rfl) ?_
  refine va_get (D := G.1) (cl := vwCl) (own := RX6) (ref := "ExchangeFamiliesModel") (ci := 5) (v := .ref a12) (C := RX6) (T := TX6) (N := 25) hx hb hts k_X6_apart_0 hown hK hP 0 rfl rfl 13 (by decide) (hts _ k_X6_apart_2) (fun _ h9 => h9) rfl dX6_apart_211 ?_
  refine lv_iload_n hx hb dX6_apart_214 rfl (lv_at hl 1 rfl) ?_
  obtain ⟨hi, hm⟩ := gk_ix_some hm
  refine va_iald hx hb hK hP 3 0 rfl rfl hi dX6_apart_215 ?_
  rw [kr _ _ _ (Option.some.inj hm).symm]
  exact gk_iret C ⟨hP, hD, hS⟩ dX6_apart_216
def m_X6_apart_0 (f_n : Int32) (f_members : (Nat → Int64)) (f_kind : (Nat → Int32)) (f_far : (Nat → Int32)) (f_queue : (Nat → Int32)) (x1 : Int32) (x2 : Int32) (x3 : Int32) : Option (Int32 × (Nat → Int32) × (Nat → Int32)) := gk_bd1 (m_X6_isFamily x1) (fun r13 => (if r13 = (0 : Int32) then some ((-2 : Int32), f_far, f_queue) else gk_bd1 (m_X6_isSet f_n x2) (fun r15 => (if r15 = (0 : Int32) then some ((-2 : Int32), f_far, f_queue) else gk_bd1 (m_X6_isSet f_n x3) (fun r17 => (if r17 = (0 : Int32) then some ((-2 : Int32), f_far, f_queue) else gk_ix x1 6 ((if (f_kind x1.toNatClampNeg) = (-1 : Int32) then some ((-11 : Int32), f_far, f_queue) else gk_bd1 (m_X6_isMember f_members x1 x2) (fun r20 => (if r20 = (0 : Int32) then some ((-3 : Int32), f_far, f_queue) else gk_bd1 (m_X6_isMember f_members x1 x3) (fun r22 => (if r22 = (0 : Int32) then some ((-3 : Int32), f_far, f_queue) else gk_bd1 (gk_lp (fun z => m_X6_apart_B63 f_n f_members f_kind f_queue x1 x2 x3 z.1 z.2) gk_fu ((0 : Int32), f_far)) (fun e25 => m_X6_apart_J84 f_n f_members f_kind e25 f_queue x1 x2 x3)))))))))))))
set_option maxRecDepth 100000 in
set_option maxHeartbeats 4000000 in
theorem w_X6_apart_0 {p : Program} {l : Launch} {e : Env} {s : State} {m : MethodId} {args : Array Value} {below : List Frame} {meth : Method} {c : Code} {G : gk_G} {A : Nat → Prop} {Q : State → Prop} {a0 a1 a2 a3 a4 a5 a6 a7 a8 a9 a10 a11 a12 a13 a14 a15 a16 a17 a18 a19 a20 a21 : Nat} (C : gk_C p s m args meth c cX6_apart 8 (some .int) yX6_apart wsX6_apart false G A) {f_n : Int32} {f_members : (Nat → Int64)} {f_kind : (Nat → Int32)} {f_far : (Nat → Int32)} {f_queue : (Nat → Int32)} {x1 : Int32} {x2 : Int32} {x3 : Int32} {f_keptN : Int32} {f_side : Int32} {f_rows : Int32} {yy : Int32 × (Nat → Int32) × (Nat → Int32)} (hm : m_X6_apart_0 f_n f_members f_kind f_far f_queue x1 x2 x3 = some yy) (kr : ∀ (rv : Int32) (g_far : (Nat → Int32)) (g_queue : (Nat → Int32)), yy = (rv, g_far, g_queue) → Q = MQ below (gk_Q G (some (.int rv)) [(a0, .inr (5, [.int f_n, .ref a1, .ref a2, .ref a3, .ref a4, .int f_keptN, .ref a5, .ref a6, .ref a7, .ref a8, .ref a9, .ref a10, .ref a11, .ref a12, .ref a13, .ref a14, .ref a15, .ref a16, .int f_side, .ref a17, .ref a18, .ref a19, .int f_rows, .ref a20, .ref a21])), (a1, gk_J G 6 f_members), (a2, gk_I G 6 f_kind), (a12, gk_I G 64 g_far), (a13, gk_I G 64 g_queue)] A) args s 0 0 A) {H : Heap} {locs : List Loc} {ls : Array Slot} (h : gk_H G A s [(a0, .inr (5, [.int f_n, .ref a1, .ref a2, .ref a3, .ref a4, .int f_keptN, .ref a5, .ref a6, .ref a7, .ref a8, .ref a9, .ref a10, .ref a11, .ref a12, .ref a13, .ref a14, .ref a15, .ref a16, .int f_side, .ref a17, .ref a18, .ref a19, .int f_rows, .ref a20, .ref a21])), (a1, gk_J G 6 f_members), (a2, gk_I G 6 f_kind), (a12, gk_I G 64 f_far), (a13, gk_I G 64 f_queue)] H locs) (hl : lv_has ls 8 [(0, .ref a0), (1, .int x1), (2, .int x2), (3, .int x3)]) : W p l e rm_X6_apart s m args below meth c H locs 0 0 Q (F0 m 0 ls []) := by
  obtain ⟨hx, hb, hml, hr, hown, hnm, hts, hlk, hK, hSt, hA⟩ := id C
  obtain ⟨hP, hD, hS⟩ := h
  unfold m_X6_apart_0 at hm
  refine lv_iload_n hx hb dX6_apart_0 rfl (lv_at hl 1 rfl) ?_
  obtain ⟨r13, hq, hm⟩ := gk_bd1_some hm
  refine gk_callS (n := 1) (bytes := cX6_isFamily) (maxL := 1) (ret := (some .boolean)) [(a0, .inr (5, [.int f_n, .ref a1, .ref a2, .ref a3, .ref a4, .int f_keptN, .ref a5, .ref a6, .ref a7, .ref a8, .ref a9, .ref a10, .ref a11, .ref a12, .ref a13, .ref a14, .ref a15, .ref a16, .int f_side, .ref a17, .ref a18, .ref a19, .int f_rows, .ref a20, .ref a21])), (a1, gk_J G 6 f_members), (a2, gk_I G 6 f_kind), (a12, gk_I G 64 f_far), (a13, gk_I G 64 f_queue)] [(a0, .inr (5, [.int f_n, .ref a1, .ref a2, .ref a3, .ref a4, .int f_keptN, .ref a5, .ref a6, .ref a7, .ref a8, .ref a9, .ref a10, .ref a11, .ref a12, .ref a13, .ref a14, .ref a15, .ref a16, .int f_side, .ref a17, .ref a18, .ref a19, .int f_rows, .ref a20, .ref a21])), (a1, gk_J G 6 f_members), (a2, gk_I G 6 f_kind), (a12, gk_I G 64 f_far), (a13, gk_I G 64 f_queue)] [] C ⟨hP, hD, hS⟩ (c_X6_isFamily l G x1 hq) gX6_apart_X6_isFamily dX6_apart_1 hl.1 [] [0, 1, 2, 3, 4] [0, 1, 2, 3, 4] rfl ⟨rfl, rfl⟩ ⟨Nat.le_of_ble_eq_true rfl, Nat.le_of_ble_eq_true rfl⟩ ⟨by decide +kernel, by decide +kernel, by decide +kernel⟩ rfl (fun h => by cases h) (Nat.le_of_ble_eq_true rfl) rfl rfl rfl rfl (by decide) rfl rfl (fun H locs h => ?_)
  obtain ⟨hP, hD, hS⟩ := h
  refine lv_if_eq (tgt := 23) hx hb dX6_apart_4 (by decide) (fun c14 => ?_) (fun c14 => ?_)
  · have hm := gk_it c14 hm
    refine lv_bipush (v := -2) hx hb dX6_apart_23 (by decide) ?_
    rw [kr _ _ _ (Option.some.inj hm).symm]
    exact gk_iret C ⟨hP, hD, hS⟩ dX6_apart_25
  · have hm := gk_if c14 hm
    refine lv_aload_n hx hb dX6_apart_7 rfl (lv_at hl 0 rfl) ?_
    refine lv_iload_n hx hb dX6_apart_8 rfl (lv_at hl 2 rfl) ?_
    obtain ⟨r15, hq, hm⟩ := gk_bd1_some hm
    refine gk_callV (n := 1) (bytes := cX6_isSet) (maxL := 2) (ret := (some .boolean)) (Cn := RX6) (T := TX6) (N := 25) [(a1, gk_J G 6 f_members), (a2, gk_I G 6 f_kind), (a12, gk_I G 64 f_far), (a13, gk_I G 64 f_queue)] [(a0, .inr (5, [.int f_n, .ref a1, .ref a2, .ref a3, .ref a4, .int f_keptN, .ref a5, .ref a6, .ref a7, .ref a8, .ref a9, .ref a10, .ref a11, .ref a12, .ref a13, .ref a14, .ref a15, .ref a16, .int f_side, .ref a17, .ref a18, .ref a19, .int f_rows, .ref a20, .ref a21])), (a1, gk_J G 6 f_members), (a2, gk_I G 6 f_kind), (a12, gk_I G 64 f_far), (a13, gk_I G 64 f_queue)] [] C ⟨hP, hD, hS⟩ (c_X6_isSet l G a0 a1 a2 a3 a4 a5 a6 a7 a8 a9 a10 a11 a12 a13 a14 a15 a16 a17 a18 a19 a20 a21 f_n f_keptN f_side f_rows x2 hq) gX6_apart_X6_isSet dX6_apart_9 hl.1 [0] [1, 2, 3, 4] [4, 0, 1, 2, 3] rfl rfl ⟨rfl, rfl⟩ ⟨Nat.le_of_ble_eq_true rfl, Nat.le_of_ble_eq_true rfl⟩ ⟨rfl, by decide +kernel, by decide +kernel, by decide +kernel⟩ rfl (fun h => by cases h) (Nat.le_of_ble_eq_true rfl) rfl rfl rfl rfl (by decide) rfl rfl (fun H locs h => ?_)
    obtain ⟨hP, hD, hS⟩ := h
    refine lv_if_eq (tgt := 23) hx hb dX6_apart_12 (by decide) (fun c16 => ?_) (fun c16 => ?_)
    · have hm := gk_it c16 hm
      refine lv_bipush (v := -2) hx hb dX6_apart_23 (by decide) ?_
      rw [kr _ _ _ (Option.some.inj hm).symm]
      exact gk_iret C ⟨hP, hD, hS⟩ dX6_apart_25
    · have hm := gk_if c16 hm
      refine lv_aload_n hx hb dX6_apart_15 rfl (lv_at hl 0 rfl) ?_
      refine lv_iload_n hx hb dX6_apart_16 rfl (lv_at hl 3 rfl) ?_
      obtain ⟨r17, hq, hm⟩ := gk_bd1_some hm
      refine gk_callV (n := 1) (bytes := cX6_isSet) (maxL := 2) (ret := (some .boolean)) (Cn := RX6) (T := TX6) (N := 25) [(a1, gk_J G 6 f_members), (a2, gk_I G 6 f_kind), (a12, gk_I G 64 f_far), (a13, gk_I G 64 f_queue)] [(a0, .inr (5, [.int f_n, .ref a1, .ref a2, .ref a3, .ref a4, .int f_keptN, .ref a5, .ref a6, .ref a7, .ref a8, .ref a9, .ref a10, .ref a11, .ref a12, .ref a13, .ref a14, .ref a15, .ref a16, .int f_side, .ref a17, .ref a18, .ref a19, .int f_rows, .ref a20, .ref a21])), (a1, gk_J G 6 f_members), (a2, gk_I G 6 f_kind), (a12, gk_I G 64 f_far), (a13, gk_I G 64 f_queue)] [] C ⟨hP, hD, hS⟩ (c_X6_isSet l G a0 a1 a2 a3 a4 a5 a6 a7 a8 a9 a10 a11 a12 a13 a14 a15 a16 a17 a18 a19 a20 a21 f_n f_keptN f_side f_rows x3 hq) gX6_apart_X6_isSet dX6_apart_17 hl.1 [0] [1, 2, 3, 4] [4, 0, 1, 2, 3] rfl rfl ⟨rfl, rfl⟩ ⟨Nat.le_of_ble_eq_true rfl, Nat.le_of_ble_eq_true rfl⟩ ⟨rfl, by decide +kernel, by decide +kernel, by decide +kernel⟩ rfl (fun h => by cases h) (Nat.le_of_ble_eq_true rfl) rfl rfl rfl rfl (by decide) rfl rfl (fun H locs h => ?_)
      obtain ⟨hP, hD, hS⟩ := h
      refine lv_if_ne (tgt := 26) hx hb dX6_apart_20 (by decide) (fun c18 => ?_) (fun c18 => ?_)
      · have hm := gk_if c18 hm
        refine lv_aload_n hx hb dX6_apart_26 rfl (lv_at hl 0 rfl) ?_
        refine va_get (D := G.1) (cl := vwCl) (own := RX6) (ref := "ExchangeFamiliesModel") (ci := 5) (v := .ref a2) (C := RX6) (T := TX6) (N := 25) hx hb hts k_X6_apart_0 hown hK hP 0 rfl rfl 2 (by decide) (hts _ k_X6_apart_1) (fun _ h9 => h9) rfl dX6_apart_27 ?_
        refine lv_iload_n hx hb dX6_apart_30 rfl (lv_at hl 1 rfl) ?_
        obtain ⟨hi, hm⟩ := gk_ix_some hm
        refine va_iald hx hb hK hP 2 0 rfl rfl hi dX6_apart_31 ?_
        refine lv_iconst (v := -1) hx hb dX6_apart_32 (by decide) ?_
        refine lv_icmp_ne (tgt := 39) hx hb dX6_apart_33 (by decide) (fun c19 => ?_) (fun c19 => ?_)
        · have hm := gk_if c19 hm
          refine lv_aload_n hx hb dX6_apart_39 rfl (lv_at hl 0 rfl) ?_
          refine lv_iload_n hx hb dX6_apart_40 rfl (lv_at hl 1 rfl) ?_
          refine lv_iload_n hx hb dX6_apart_41 rfl (lv_at hl 2 rfl) ?_
          obtain ⟨r20, hq, hm⟩ := gk_bd1_some hm
          refine gk_callV (n := 2) (bytes := cX6_isMember) (maxL := 3) (ret := (some .boolean)) (Cn := RX6) (T := TX6) (N := 25) [(a2, gk_I G 6 f_kind), (a12, gk_I G 64 f_far), (a13, gk_I G 64 f_queue)] [(a0, .inr (5, [.int f_n, .ref a1, .ref a2, .ref a3, .ref a4, .int f_keptN, .ref a5, .ref a6, .ref a7, .ref a8, .ref a9, .ref a10, .ref a11, .ref a12, .ref a13, .ref a14, .ref a15, .ref a16, .int f_side, .ref a17, .ref a18, .ref a19, .int f_rows, .ref a20, .ref a21])), (a1, gk_J G 6 f_members), (a2, gk_I G 6 f_kind), (a12, gk_I G 64 f_far), (a13, gk_I G 64 f_queue)] [] C ⟨hP, hD, hS⟩ (c_X6_isMember l G a0 a1 a2 a3 a4 a5 a6 a7 a8 a9 a10 a11 a12 a13 a14 a15 a16 a17 a18 a19 a20 a21 f_n f_keptN f_side f_rows f_members x1 x2 hq) gX6_apart_X6_isMember dX6_apart_42 hl.1 [0, 1] [2, 3, 4] [3, 4, 0, 1, 2] rfl rfl ⟨rfl, rfl⟩ ⟨Nat.le_of_ble_eq_true rfl, Nat.le_of_ble_eq_true rfl⟩ ⟨rfl, by decide +kernel, by decide +kernel, by decide +kernel⟩ rfl (fun h => by cases h) (Nat.le_of_ble_eq_true rfl) rfl rfl rfl rfl (by decide) rfl rfl (fun H locs h => ?_)
          obtain ⟨hP, hD, hS⟩ := h
          refine lv_if_eq (tgt := 57) hx hb dX6_apart_45 (by decide) (fun c21 => ?_) (fun c21 => ?_)
          · have hm := gk_it c21 hm
            refine lv_bipush (v := -3) hx hb dX6_apart_57 (by decide) ?_
            rw [kr _ _ _ (Option.some.inj hm).symm]
            exact gk_iret C ⟨hP, hD, hS⟩ dX6_apart_59
          · have hm := gk_if c21 hm
            refine lv_aload_n hx hb dX6_apart_48 rfl (lv_at hl 0 rfl) ?_
            refine lv_iload_n hx hb dX6_apart_49 rfl (lv_at hl 1 rfl) ?_
            refine lv_iload_n hx hb dX6_apart_50 rfl (lv_at hl 3 rfl) ?_
            obtain ⟨r22, hq, hm⟩ := gk_bd1_some hm
            refine gk_callV (n := 2) (bytes := cX6_isMember) (maxL := 3) (ret := (some .boolean)) (Cn := RX6) (T := TX6) (N := 25) [(a2, gk_I G 6 f_kind), (a12, gk_I G 64 f_far), (a13, gk_I G 64 f_queue)] [(a0, .inr (5, [.int f_n, .ref a1, .ref a2, .ref a3, .ref a4, .int f_keptN, .ref a5, .ref a6, .ref a7, .ref a8, .ref a9, .ref a10, .ref a11, .ref a12, .ref a13, .ref a14, .ref a15, .ref a16, .int f_side, .ref a17, .ref a18, .ref a19, .int f_rows, .ref a20, .ref a21])), (a1, gk_J G 6 f_members), (a2, gk_I G 6 f_kind), (a12, gk_I G 64 f_far), (a13, gk_I G 64 f_queue)] [] C ⟨hP, hD, hS⟩ (c_X6_isMember l G a0 a1 a2 a3 a4 a5 a6 a7 a8 a9 a10 a11 a12 a13 a14 a15 a16 a17 a18 a19 a20 a21 f_n f_keptN f_side f_rows f_members x1 x3 hq) gX6_apart_X6_isMember dX6_apart_51 hl.1 [0, 1] [2, 3, 4] [3, 4, 0, 1, 2] rfl rfl ⟨rfl, rfl⟩ ⟨Nat.le_of_ble_eq_true rfl, Nat.le_of_ble_eq_true rfl⟩ ⟨rfl, by decide +kernel, by decide +kernel, by decide +kernel⟩ rfl (fun h => by cases h) (Nat.le_of_ble_eq_true rfl) rfl rfl rfl rfl (by decide) rfl rfl (fun H locs h => ?_)
            obtain ⟨hP, hD, hS⟩ := h
            refine lv_if_ne (tgt := 60) hx hb dX6_apart_54 (by decide) (fun c23 => ?_) (fun c23 => ?_)
            · have hm := gk_if c23 hm
              refine lv_iconst (v := 0) hx hb dX6_apart_60 (by decide) ?_
              refine lv_istore (lv' := [(4, .int (0 : Int32)), (0, .ref a0), (1, .int x1), (2, .int x2), (3, .int x3)]) hx hb dX6_apart_61 hl (by decide) rfl (fun ls hl => ?_)
              obtain ⟨e25, hq, hm⟩ := gk_bd1_some hm
              refine w_X6_apart_L63 C hq (fun H locs ls h hl => ?_) ⟨hP, hD, hS⟩ (lv_sub hl [1, 2, 3, 4, 0] rfl)
              obtain ⟨hP, hD, hS⟩ := h
              exact w_X6_apart_J84 C hm kr ⟨hP, hD, hS⟩ (lv_sub hl [0, 1, 2, 3] rfl)
            · have hm := gk_it c23 hm
              refine lv_bipush (v := -3) hx hb dX6_apart_57 (by decide) ?_
              rw [kr _ _ _ (Option.some.inj hm).symm]
              exact gk_iret C ⟨hP, hD, hS⟩ dX6_apart_59
        · have hm := gk_it c19 hm
          refine lv_bipush (v := -11) hx hb dX6_apart_36 (by decide) ?_
          rw [kr _ _ _ (Option.some.inj hm).symm]
          exact gk_iret C ⟨hP, hD, hS⟩ dX6_apart_38
      · have hm := gk_it c18 hm
        refine lv_bipush (v := -2) hx hb dX6_apart_23 (by decide) ?_
        rw [kr _ _ _ (Option.some.inj hm).symm]
        exact gk_iret C ⟨hP, hD, hS⟩ dX6_apart_25
def m_X6_apart (f_n : Int32) (f_members : (Nat → Int64)) (f_kind : (Nat → Int32)) (f_far : (Nat → Int32)) (f_queue : (Nat → Int32)) (x1 : Int32) (x2 : Int32) (x3 : Int32) : Option (Int32 × (Nat → Int32) × (Nat → Int32)) := m_X6_apart_0 f_n f_members f_kind f_far f_queue x1 x2 x3
theorem c_X6_apart (l : Launch) (G : gk_G) (a0 a1 a2 a3 a4 a5 a6 a7 a8 a9 a10 a11 a12 a13 a14 a15 a16 a17 a18 a19 a20 a21 : Nat) (f_n : Int32) (f_keptN : Int32) (f_side : Int32) (f_rows : Int32) (f_members : (Nat → Int64)) (f_kind : (Nat → Int32)) (f_far : (Nat → Int32)) (f_queue : (Nat → Int32)) (x1 : Int32) (x2 : Int32) (x3 : Int32) {rv : Int32} {g_far : (Nat → Int32)} {g_queue : (Nat → Int32)} (hm : m_X6_apart f_n f_members f_kind f_far f_queue x1 x2 x3 = some (rv, g_far, g_queue)) : gk_M l yX6_apart wsX6_apart rm_X6_apart false G [.ref a0, .int x1, .int x2, .int x3] [(a0, .inr (5, [.int f_n, .ref a1, .ref a2, .ref a3, .ref a4, .int f_keptN, .ref a5, .ref a6, .ref a7, .ref a8, .ref a9, .ref a10, .ref a11, .ref a12, .ref a13, .ref a14, .ref a15, .ref a16, .int f_side, .ref a17, .ref a18, .ref a19, .int f_rows, .ref a20, .ref a21])), (a1, gk_J G 6 f_members), (a2, gk_I G 6 f_kind), (a12, gk_I G 64 f_far), (a13, gk_I G 64 f_queue)] (some (.int rv)) [(a0, .inr (5, [.int f_n, .ref a1, .ref a2, .ref a3, .ref a4, .int f_keptN, .ref a5, .ref a6, .ref a7, .ref a8, .ref a9, .ref a10, .ref a11, .ref a12, .ref a13, .ref a14, .ref a15, .ref a16, .int f_side, .ref a17, .ref a18, .ref a19, .int f_rows, .ref a20, .ref a21])), (a1, gk_J G 6 f_members), (a2, gk_I G 6 f_kind), (a12, gk_I G 64 g_far), (a13, gk_I G 64 g_queue)] :=
  gk_of (by decide) rfl (Nat.le_of_ble_eq_true rfl) (fun p e s m below meth c A ls C h hl => w_X6_apart_0 C hm (fun v0 v1 v2 ez => by cases ez; rfl) h (show lv_has ls 8 [(0, .ref a0), (1, .int x1), (2, .int x2), (3, .int x3)] from hl))

/-! ===== ExchangeFamiliesModel.weight(II)I ===== -/
abbrev rm_X6_weight : Room := { frames := 5, cells := 0, slots := 0, locals := 238 }
theorem k_X6_weight_0 : Cond.constantLong RX6 148 (-99) ∈ wsX6_weight := by decide +kernel
theorem k_X6_weight_1 : Cond.constantLong RX6 150 (99) ∈ wsX6_weight := by decide +kernel
theorem k_X6_weight_2 : ∀ w ∈ u_ws RX6 TX6 25, w ∈ wsX6_weight := by decide +kernel
theorem k_X6_weight_3 : Cond.fieldLink RX6 23 "ExchangeFamiliesModel" "weight" "[I" ∈ wsX6_weight := by decide +kernel
def m_X6_weight_0 (f_n : Int32) (f_weight : (Nat → Int32)) (x1 : Int32) (x2 : Int32) : Option (Int32 × (Nat → Int32)) := gk_bd1 (m_X6_isPoint f_n x1) (fun r3 => (if r3 = (0 : Int32) then some ((-1000 : Int32), f_weight) else gk_bd1 (m_X6_isIn x2.toInt64 (-99 : Int64) (99 : Int64)) (fun r5 => (if r5 = (0 : Int32) then some ((-1000 : Int32), f_weight) else gk_ix x1 6 (gk_ix x1 6 (some (f_weight x1.toNatClampNeg, upd f_weight x1.toNatClampNeg x2)))))))
set_option maxRecDepth 100000 in
set_option maxHeartbeats 4000000 in
theorem w_X6_weight_0 {p : Program} {l : Launch} {e : Env} {s : State} {m : MethodId} {args : Array Value} {below : List Frame} {meth : Method} {c : Code} {G : gk_G} {A : Nat → Prop} {Q : State → Prop} {a0 a1 a2 a3 a4 a5 a6 a7 a8 a9 a10 a11 a12 a13 a14 a15 a16 a17 a18 a19 a20 a21 : Nat} (C : gk_C p s m args meth c cX6_weight 4 (some .int) yX6_weight wsX6_weight false G A) {f_n : Int32} {f_weight : (Nat → Int32)} {x1 : Int32} {x2 : Int32} {f_keptN : Int32} {f_side : Int32} {f_rows : Int32} {yy : Int32 × (Nat → Int32)} (hm : m_X6_weight_0 f_n f_weight x1 x2 = some yy) (kr : ∀ (rv : Int32) (g_weight : (Nat → Int32)), yy = (rv, g_weight) → Q = MQ below (gk_Q G (some (.int rv)) [(a0, .inr (5, [.int f_n, .ref a1, .ref a2, .ref a3, .ref a4, .int f_keptN, .ref a5, .ref a6, .ref a7, .ref a8, .ref a9, .ref a10, .ref a11, .ref a12, .ref a13, .ref a14, .ref a15, .ref a16, .int f_side, .ref a17, .ref a18, .ref a19, .int f_rows, .ref a20, .ref a21])), (a3, gk_I G 6 g_weight)] A) args s 0 0 A) {H : Heap} {locs : List Loc} {ls : Array Slot} (h : gk_H G A s [(a0, .inr (5, [.int f_n, .ref a1, .ref a2, .ref a3, .ref a4, .int f_keptN, .ref a5, .ref a6, .ref a7, .ref a8, .ref a9, .ref a10, .ref a11, .ref a12, .ref a13, .ref a14, .ref a15, .ref a16, .int f_side, .ref a17, .ref a18, .ref a19, .int f_rows, .ref a20, .ref a21])), (a3, gk_I G 6 f_weight)] H locs) (hl : lv_has ls 4 [(0, .ref a0), (1, .int x1), (2, .int x2)]) : W p l e rm_X6_weight s m args below meth c H locs 0 0 Q (F0 m 0 ls []) := by
  obtain ⟨hx, hb, hml, hr, hown, hnm, hts, hlk, hK, hSt, hA⟩ := id C
  obtain ⟨hP, hD, hS⟩ := h
  unfold m_X6_weight_0 at hm
  refine lv_aload_n hx hb dX6_weight_0 rfl (lv_at hl 0 rfl) ?_
  refine lv_iload_n hx hb dX6_weight_1 rfl (lv_at hl 1 rfl) ?_
  obtain ⟨r3, hq, hm⟩ := gk_bd1_some hm
  refine gk_callV (n := 1) (bytes := cX6_isPoint) (maxL := 2) (ret := (some .boolean)) (Cn := RX6) (T := TX6) (N := 25) [(a3, gk_I G 6 f_weight)] [(a0, .inr (5, [.int f_n, .ref a1, .ref a2, .ref a3, .ref a4, .int f_keptN, .ref a5, .ref a6, .ref a7, .ref a8, .ref a9, .ref a10, .ref a11, .ref a12, .ref a13, .ref a14, .ref a15, .ref a16, .int f_side, .ref a17, .ref a18, .ref a19, .int f_rows, .ref a20, .ref a21])), (a3, gk_I G 6 f_weight)] [] C ⟨hP, hD, hS⟩ (c_X6_isPoint l G a0 a1 a2 a3 a4 a5 a6 a7 a8 a9 a10 a11 a12 a13 a14 a15 a16 a17 a18 a19 a20 a21 f_n f_keptN f_side f_rows x1 hq) gX6_weight_X6_isPoint dX6_weight_2 hl.1 [0] [1] [1, 0] rfl rfl ⟨rfl, rfl⟩ ⟨Nat.le_of_ble_eq_true rfl, Nat.le_of_ble_eq_true rfl⟩ ⟨rfl, by decide +kernel, by decide +kernel, by decide +kernel⟩ rfl (fun h => by cases h) (Nat.le_of_ble_eq_true rfl) rfl rfl rfl rfl (by decide) rfl rfl (fun H locs h => ?_)
  obtain ⟨hP, hD, hS⟩ := h
  refine lv_if_eq (tgt := 22) hx hb dX6_weight_5 (by decide) (fun c4 => ?_) (fun c4 => ?_)
  · have hm := gk_it c4 hm
    refine lv_sipush (v := -1000) hx hb dX6_weight_22 (by decide) ?_
    rw [kr _ _ (Option.some.inj hm).symm]
    exact gk_iret C ⟨hP, hD, hS⟩ dX6_weight_25
  · have hm := gk_if c4 hm
    refine lv_iload_n hx hb dX6_weight_8 rfl (lv_at hl 2 rfl) ?_
    refine lv_i2l hx hb dX6_weight_9 rfl ?_
    refine lv_ldc2 (own := RX6) (v := -99) hx hb hown (hts _ k_X6_weight_0) dX6_weight_10 ?_
    refine lv_ldc2 (own := RX6) (v := 99) hx hb hown (hts _ k_X6_weight_1) dX6_weight_13 ?_
    obtain ⟨r5, hq, hm⟩ := gk_bd1_some hm
    refine gk_callS (n := 3) (bytes := cX6_isIn) (maxL := 6) (ret := (some .boolean)) [(a0, .inr (5, [.int f_n, .ref a1, .ref a2, .ref a3, .ref a4, .int f_keptN, .ref a5, .ref a6, .ref a7, .ref a8, .ref a9, .ref a10, .ref a11, .ref a12, .ref a13, .ref a14, .ref a15, .ref a16, .int f_side, .ref a17, .ref a18, .ref a19, .int f_rows, .ref a20, .ref a21])), (a3, gk_I G 6 f_weight)] [(a0, .inr (5, [.int f_n, .ref a1, .ref a2, .ref a3, .ref a4, .int f_keptN, .ref a5, .ref a6, .ref a7, .ref a8, .ref a9, .ref a10, .ref a11, .ref a12, .ref a13, .ref a14, .ref a15, .ref a16, .int f_side, .ref a17, .ref a18, .ref a19, .int f_rows, .ref a20, .ref a21])), (a3, gk_I G 6 f_weight)] [] C ⟨hP, hD, hS⟩ (c_X6_isIn l G x2.toInt64 (-99 : Int64) (99 : Int64) hq) gX6_weight_X6_isIn dX6_weight_16 hl.1 [] [0, 1] [0, 1] rfl ⟨rfl, rfl⟩ ⟨Nat.le_of_ble_eq_true rfl, Nat.le_of_ble_eq_true rfl⟩ ⟨by decide +kernel, by decide +kernel, by decide +kernel⟩ rfl (fun h => by cases h) (Nat.le_of_ble_eq_true rfl) rfl rfl rfl rfl (by decide) rfl rfl (fun H locs h => ?_)
    obtain ⟨hP, hD, hS⟩ := h
    refine lv_if_ne (tgt := 26) hx hb dX6_weight_19 (by decide) (fun c6 => ?_) (fun c6 => ?_)
    · have hm := gk_if c6 hm
      refine lv_aload_n hx hb dX6_weight_26 rfl (lv_at hl 0 rfl) ?_
      refine va_get (D := G.1) (cl := vwCl) (own := RX6) (ref := "ExchangeFamiliesModel") (ci := 5) (v := .ref a3) (C := RX6) (T := TX6) (N := 25) hx hb hts k_X6_weight_2 hown hK hP 0 rfl rfl 3 (by decide) (hts _ k_X6_weight_3) (fun _ h9 => h9) rfl dX6_weight_27 ?_
      refine lv_iload_n hx hb dX6_weight_30 rfl (lv_at hl 1 rfl) ?_
      obtain ⟨hi, hm⟩ := gk_ix_some hm
      refine va_iald hx hb hK hP 1 0 rfl rfl hi dX6_weight_31 ?_
      refine lv_istore_n (lv' := [(3, .int (f_weight x1.toNatClampNeg)), (0, .ref a0), (1, .int x1), (2, .int x2)]) hx hb dX6_weight_32 rfl hl (by decide) rfl (fun ls hl => ?_)
      refine lv_aload_n hx hb dX6_weight_33 rfl (lv_at hl 1 rfl) ?_
      refine va_get (D := G.1) (cl := vwCl) (own := RX6) (ref := "ExchangeFamiliesModel") (ci := 5) (v := .ref a3) (C := RX6) (T := TX6) (N := 25) hx hb hts k_X6_weight_2 hown hK hP 0 rfl rfl 3 (by decide) (hts _ k_X6_weight_3) (fun _ h9 => h9) rfl dX6_weight_34 ?_
      refine lv_iload_n hx hb dX6_weight_37 rfl (lv_at hl 2 rfl) ?_
      refine lv_iload_n hx hb dX6_weight_38 rfl (lv_at hl 3 rfl) ?_
      obtain ⟨hi, hm⟩ := gk_ix_some hm
      refine va_iast hx hb hK hP hD hS 1 0 rfl rfl hi dX6_weight_39 (fun H locs hP hD hS => ?_)
      have hP : va_P G.1 vwCl [(a0, .inr (5, [.int f_n, .ref a1, .ref a2, .ref a3, .ref a4, .int f_keptN, .ref a5, .ref a6, .ref a7, .ref a8, .ref a9, .ref a10, .ref a11, .ref a12, .ref a13, .ref a14, .ref a15, .ref a16, .int f_side, .ref a17, .ref a18, .ref a19, .int f_rows, .ref a20, .ref a21])), (a3, gk_I G 6 (upd f_weight x1.toNatClampNeg x2))] H := hP
      have hD : va_D A [(a0, .inr (5, [.int f_n, .ref a1, .ref a2, .ref a3, .ref a4, .int f_keptN, .ref a5, .ref a6, .ref a7, .ref a8, .ref a9, .ref a10, .ref a11, .ref a12, .ref a13, .ref a14, .ref a15, .ref a16, .int f_side, .ref a17, .ref a18, .ref a19, .int f_rows, .ref a20, .ref a21])), (a3, gk_I G 6 (upd f_weight x1.toNatClampNeg x2))] := hD
      refine lv_iload_n hx hb dX6_weight_40 rfl (lv_at hl 0 rfl) ?_
      rw [kr _ _ (Option.some.inj hm).symm]
      exact gk_iret C ⟨hP, hD, hS⟩ dX6_weight_41
    · have hm := gk_it c6 hm
      refine lv_sipush (v := -1000) hx hb dX6_weight_22 (by decide) ?_
      rw [kr _ _ (Option.some.inj hm).symm]
      exact gk_iret C ⟨hP, hD, hS⟩ dX6_weight_25
def m_X6_weight (f_n : Int32) (f_weight : (Nat → Int32)) (x1 : Int32) (x2 : Int32) : Option (Int32 × (Nat → Int32)) := m_X6_weight_0 f_n f_weight x1 x2
theorem c_X6_weight (l : Launch) (G : gk_G) (a0 a1 a2 a3 a4 a5 a6 a7 a8 a9 a10 a11 a12 a13 a14 a15 a16 a17 a18 a19 a20 a21 : Nat) (f_n : Int32) (f_keptN : Int32) (f_side : Int32) (f_rows : Int32) (f_weight : (Nat → Int32)) (x1 : Int32) (x2 : Int32) {rv : Int32} {g_weight : (Nat → Int32)} (hm : m_X6_weight f_n f_weight x1 x2 = some (rv, g_weight)) : gk_M l yX6_weight wsX6_weight rm_X6_weight false G [.ref a0, .int x1, .int x2] [(a0, .inr (5, [.int f_n, .ref a1, .ref a2, .ref a3, .ref a4, .int f_keptN, .ref a5, .ref a6, .ref a7, .ref a8, .ref a9, .ref a10, .ref a11, .ref a12, .ref a13, .ref a14, .ref a15, .ref a16, .int f_side, .ref a17, .ref a18, .ref a19, .int f_rows, .ref a20, .ref a21])), (a3, gk_I G 6 f_weight)] (some (.int rv)) [(a0, .inr (5, [.int f_n, .ref a1, .ref a2, .ref a3, .ref a4, .int f_keptN, .ref a5, .ref a6, .ref a7, .ref a8, .ref a9, .ref a10, .ref a11, .ref a12, .ref a13, .ref a14, .ref a15, .ref a16, .int f_side, .ref a17, .ref a18, .ref a19, .int f_rows, .ref a20, .ref a21])), (a3, gk_I G 6 g_weight)] :=
  gk_of (by decide) rfl (Nat.le_of_ble_eq_true rfl) (fun p e s m below meth c A ls C h hl => w_X6_weight_0 C hm (fun v0 v1 ez => by cases ez; rfl) h (show lv_has ls 4 [(0, .ref a0), (1, .int x1), (2, .int x2)] from hl))

/-! ===== ExchangeFamiliesModel.weightOf(I)I ===== -/
abbrev rm_X6_weightOf : Room := { frames := 1, cells := 0, slots := 0, locals := 64 }
theorem k_X6_weightOf_0 : ∀ w ∈ u_ws RX6 TX6 25, w ∈ wsX6_weightOf := by decide +kernel
theorem k_X6_weightOf_1 : Cond.fieldLink RX6 9 "ExchangeFamiliesModel" "n" "I" ∈ wsX6_weightOf := by decide +kernel
theorem k_X6_weightOf_2 : Cond.fieldLink RX6 23 "ExchangeFamiliesModel" "weight" "[I" ∈ wsX6_weightOf := by decide +kernel
def m_X6_weightOf_B4 (f_n : Int32) (f_weight : (Nat → Int32)) (x1 : Int32) (x2 : Int32) (x3 : Int32) : Option ((Int32 × Int32) ⊕ (Int32)) := (if f_n ≤ x3 then some (.inr x2) else gk_ix x3 6 (some (.inl (x2 + (((x1 >>> (x3 &&& 31)) &&& (1 : Int32)) * (f_weight x3.toNatClampNeg)), x3 + 1))))
set_option maxRecDepth 100000 in
set_option maxHeartbeats 4000000 in
theorem w_X6_weightOf_B4 {p : Program} {l : Launch} {e : Env} {s : State} {m : MethodId} {args : Array Value} {below : List Frame} {meth : Method} {c : Code} {G : gk_G} {A : Nat → Prop} {Q : State → Prop} {a0 a1 a2 a3 a4 a5 a6 a7 a8 a9 a10 a11 a12 a13 a14 a15 a16 a17 a18 a19 a20 a21 : Nat} (C : gk_C p s m args meth c cX6_weightOf 4 (some .int) yX6_weightOf wsX6_weightOf false G A) {f_n : Int32} {f_weight : (Nat → Int32)} {x1 : Int32} {x2 : Int32} {x3 : Int32} {f_keptN : Int32} {f_side : Int32} {f_rows : Int32} {yy : (Int32 × Int32) ⊕ (Int32)} (hm : m_X6_weightOf_B4 f_n f_weight x1 x2 x3 = some yy) (kl : ∀ (x2 : Int32) (x3 : Int32), yy = .inl (x2, x3) → ∀ (H : Heap) (locs : List Loc) (ls : Array Slot), gk_H G A s [(a0, .inr (5, [.int f_n, .ref a1, .ref a2, .ref a3, .ref a4, .int f_keptN, .ref a5, .ref a6, .ref a7, .ref a8, .ref a9, .ref a10, .ref a11, .ref a12, .ref a13, .ref a14, .ref a15, .ref a16, .int f_side, .ref a17, .ref a18, .ref a19, .int f_rows, .ref a20, .ref a21])), (a3, gk_I G 6 f_weight)] H locs → lv_has ls 4 [(0, .ref a0), (1, .int x1), (2, .int x2), (3, .int x3)] → W p l e rm_X6_weightOf s m args below meth c H locs 0 0 Q (F0 m 4 ls [])) (kx : ∀ (x2 : Int32), yy = .inr x2 → ∀ (H : Heap) (locs : List Loc) (ls : Array Slot), gk_H G A s [(a0, .inr (5, [.int f_n, .ref a1, .ref a2, .ref a3, .ref a4, .int f_keptN, .ref a5, .ref a6, .ref a7, .ref a8, .ref a9, .ref a10, .ref a11, .ref a12, .ref a13, .ref a14, .ref a15, .ref a16, .int f_side, .ref a17, .ref a18, .ref a19, .int f_rows, .ref a20, .ref a21])), (a3, gk_I G 6 f_weight)] H locs → lv_has ls 4 [(2, .int x2)] → W p l e rm_X6_weightOf s m args below meth c H locs 0 0 Q (F0 m 33 ls [])) {H : Heap} {locs : List Loc} {ls : Array Slot} (h : gk_H G A s [(a0, .inr (5, [.int f_n, .ref a1, .ref a2, .ref a3, .ref a4, .int f_keptN, .ref a5, .ref a6, .ref a7, .ref a8, .ref a9, .ref a10, .ref a11, .ref a12, .ref a13, .ref a14, .ref a15, .ref a16, .int f_side, .ref a17, .ref a18, .ref a19, .int f_rows, .ref a20, .ref a21])), (a3, gk_I G 6 f_weight)] H locs) (hl : lv_has ls 4 [(0, .ref a0), (1, .int x1), (2, .int x2), (3, .int x3)]) : W p l e rm_X6_weightOf s m args below meth c H locs 0 0 Q (F0 m 4 ls []) := by
  obtain ⟨hx, hb, hml, hr, hown, hnm, hts, hlk, hK, hSt, hA⟩ := id C
  obtain ⟨hP, hD, hS⟩ := h
  unfold m_X6_weightOf_B4 at hm
  refine lv_iload_n hx hb dX6_weightOf_4 rfl (lv_at hl 3 rfl) ?_
  refine lv_aload_n hx hb dX6_weightOf_5 rfl (lv_at hl 0 rfl) ?_
  refine va_get (D := G.1) (cl := vwCl) (own := RX6) (ref := "ExchangeFamiliesModel") (ci := 5) (v := .int f_n) (C := RX6) (T := TX6) (N := 25) hx hb hts k_X6_weightOf_0 hown hK hP 0 rfl rfl 0 (by decide) (hts _ k_X6_weightOf_1) (fun _ h9 => h9) rfl dX6_weightOf_6 ?_
  refine lv_icmp_ge (tgt := 33) hx hb dX6_weightOf_9 (by decide) (fun c2 => ?_) (fun c2 => ?_)
  · have hm := gk_it c2 hm
    exact kx _ (Option.some.inj hm).symm _ _ _ ⟨hP, hD, hS⟩ (lv_sub hl [2] rfl)
  · have hm := gk_if c2 hm
    refine lv_iload_n hx hb dX6_weightOf_12 rfl (lv_at hl 2 rfl) ?_
    refine lv_iload_n hx hb dX6_weightOf_13 rfl (lv_at hl 1 rfl) ?_
    refine lv_iload_n hx hb dX6_weightOf_14 rfl (lv_at hl 3 rfl) ?_
    refine lv_ishr hx hb dX6_weightOf_15 ?_
    refine lv_iconst (v := 1) hx hb dX6_weightOf_16 (by decide) ?_
    refine lv_iand hx hb dX6_weightOf_17 ?_
    refine lv_aload_n hx hb dX6_weightOf_18 rfl (lv_at hl 0 rfl) ?_
    refine va_get (D := G.1) (cl := vwCl) (own := RX6) (ref := "ExchangeFamiliesModel") (ci := 5) (v := .ref a3) (C := RX6) (T := TX6) (N := 25) hx hb hts k_X6_weightOf_0 hown hK hP 0 rfl rfl 3 (by decide) (hts _ k_X6_weightOf_2) (fun _ h9 => h9) rfl dX6_weightOf_19 ?_
    refine lv_iload_n hx hb dX6_weightOf_22 rfl (lv_at hl 3 rfl) ?_
    obtain ⟨hi, hm⟩ := gk_ix_some hm
    refine va_iald hx hb hK hP 1 0 rfl rfl hi dX6_weightOf_23 ?_
    refine lv_imul hx hb dX6_weightOf_24 ?_
    refine lv_iadd hx hb dX6_weightOf_25 ?_
    refine lv_istore_n (lv' := [(2, .int (x2 + (((x1 >>> (x3 &&& 31)) &&& (1 : Int32)) * (f_weight x3.toNatClampNeg)))), (0, .ref a0), (1, .int x1), (3, .int x3)]) hx hb dX6_weightOf_26 rfl hl (by decide) rfl (fun ls hl => ?_)
    refine lv_iinc (v := x3 + 1) (lv' := [(3, .int (x3 + 1)), (2, .int (x2 + (((x1 >>> (x3 &&& 31)) &&& (1 : Int32)) * (f_weight x3.toNatClampNeg)))), (0, .ref a0), (1, .int x1)]) hx hb dX6_weightOf_27 hl (k := 3) rfl rfl (by decide) rfl (fun ls hl => ?_)
    refine lv_goto (tgt := 4) hx hb dX6_weightOf_30 (by decide) ?_
    exact kl _ _ (Option.some.inj hm).symm _ _ _ ⟨hP, hD, hS⟩ (lv_sub hl [2, 3, 1, 0] rfl)
set_option maxRecDepth 100000 in
set_option maxHeartbeats 4000000 in
theorem w_X6_weightOf_L4 {p : Program} {l : Launch} {e : Env} {s : State} {m : MethodId} {args : Array Value} {below : List Frame} {meth : Method} {c : Code} {G : gk_G} {A : Nat → Prop} {Q : State → Prop} {a0 a1 a2 a3 a4 a5 a6 a7 a8 a9 a10 a11 a12 a13 a14 a15 a16 a17 a18 a19 a20 a21 : Nat} (C : gk_C p s m args meth c cX6_weightOf 4 (some .int) yX6_weightOf wsX6_weightOf false G A) {f_n : Int32} {f_weight : (Nat → Int32)} {x1 : Int32} {x2 : Int32} {x3 : Int32} {f_keptN : Int32} {f_side : Int32} {f_rows : Int32} {k : Nat} {e_x2 : Int32} (hm : gk_lp (fun z => m_X6_weightOf_B4 f_n f_weight x1 z.1 z.2) k (x2, x3) = some e_x2) (kx : ∀ (H : Heap) (locs : List Loc) (ls : Array Slot), gk_H G A s [(a0, .inr (5, [.int f_n, .ref a1, .ref a2, .ref a3, .ref a4, .int f_keptN, .ref a5, .ref a6, .ref a7, .ref a8, .ref a9, .ref a10, .ref a11, .ref a12, .ref a13, .ref a14, .ref a15, .ref a16, .int f_side, .ref a17, .ref a18, .ref a19, .int f_rows, .ref a20, .ref a21])), (a3, gk_I G 6 f_weight)] H locs → lv_has ls 4 [(2, .int e_x2)] → W p l e rm_X6_weightOf s m args below meth c H locs 0 0 Q (F0 m 33 ls [])) {H : Heap} {locs : List Loc} {ls : Array Slot} (h : gk_H G A s [(a0, .inr (5, [.int f_n, .ref a1, .ref a2, .ref a3, .ref a4, .int f_keptN, .ref a5, .ref a6, .ref a7, .ref a8, .ref a9, .ref a10, .ref a11, .ref a12, .ref a13, .ref a14, .ref a15, .ref a16, .int f_side, .ref a17, .ref a18, .ref a19, .int f_rows, .ref a20, .ref a21])), (a3, gk_I G 6 f_weight)] H locs) (hl : lv_has ls 4 [(0, .ref a0), (1, .int x1), (2, .int x2), (3, .int x3)]) : W p l e rm_X6_weightOf s m args below meth c H locs 0 0 Q (F0 m 4 ls []) :=
  gk_lp_some (P := fun z => ∀ (H : Heap) (locs : List Loc) (ls : Array Slot), gk_H G A s [(a0, .inr (5, [.int f_n, .ref a1, .ref a2, .ref a3, .ref a4, .int f_keptN, .ref a5, .ref a6, .ref a7, .ref a8, .ref a9, .ref a10, .ref a11, .ref a12, .ref a13, .ref a14, .ref a15, .ref a16, .int f_side, .ref a17, .ref a18, .ref a19, .int f_rows, .ref a20, .ref a21])), (a3, gk_I G 6 f_weight)] H locs → lv_has ls 4 [(0, .ref a0), (1, .int x1), (2, .int z.1), (3, .int z.2)] → W p l e rm_X6_weightOf s m args below meth c H locs 0 0 Q (F0 m 4 ls [])) (E := fun r => (∀ (x2 : Int32), r = x2 → ∀ (H : Heap) (locs : List Loc) (ls : Array Slot), gk_H G A s [(a0, .inr (5, [.int f_n, .ref a1, .ref a2, .ref a3, .ref a4, .int f_keptN, .ref a5, .ref a6, .ref a7, .ref a8, .ref a9, .ref a10, .ref a11, .ref a12, .ref a13, .ref a14, .ref a15, .ref a16, .int f_side, .ref a17, .ref a18, .ref a19, .int f_rows, .ref a20, .ref a21])), (a3, gk_I G 6 f_weight)] H locs → lv_has ls 4 [(2, .int x2)] → W p l e rm_X6_weightOf s m args below meth c H locs 0 0 Q (F0 m 33 ls []))) (fun z x hf kl ke H locs ls h hl => w_X6_weightOf_B4 C hf (fun v0 v1 ez => kl (v0, v1) ez) (fun v0 ez => ke _ ez v0 rfl) h hl) k (x2, x3) _ hm (fun v0 ez => (by cases ez; exact kx)) _ _ _ h hl
def m_X6_weightOf_0 (f_n : Int32) (f_weight : (Nat → Int32)) (x1 : Int32) : Option (Int32) := gk_bd1 (gk_lp (fun z => m_X6_weightOf_B4 f_n f_weight x1 z.1 z.2) gk_fu ((0 : Int32), (0 : Int32))) (fun e3 => some e3)
set_option maxRecDepth 100000 in
set_option maxHeartbeats 4000000 in
theorem w_X6_weightOf_0 {p : Program} {l : Launch} {e : Env} {s : State} {m : MethodId} {args : Array Value} {below : List Frame} {meth : Method} {c : Code} {G : gk_G} {A : Nat → Prop} {Q : State → Prop} {a0 a1 a2 a3 a4 a5 a6 a7 a8 a9 a10 a11 a12 a13 a14 a15 a16 a17 a18 a19 a20 a21 : Nat} (C : gk_C p s m args meth c cX6_weightOf 4 (some .int) yX6_weightOf wsX6_weightOf false G A) {f_n : Int32} {f_weight : (Nat → Int32)} {x1 : Int32} {f_keptN : Int32} {f_side : Int32} {f_rows : Int32} {yy : Int32} (hm : m_X6_weightOf_0 f_n f_weight x1 = some yy) (kr : ∀ (rv : Int32), yy = rv → Q = MQ below (gk_Q G (some (.int rv)) [(a0, .inr (5, [.int f_n, .ref a1, .ref a2, .ref a3, .ref a4, .int f_keptN, .ref a5, .ref a6, .ref a7, .ref a8, .ref a9, .ref a10, .ref a11, .ref a12, .ref a13, .ref a14, .ref a15, .ref a16, .int f_side, .ref a17, .ref a18, .ref a19, .int f_rows, .ref a20, .ref a21])), (a3, gk_I G 6 f_weight)] A) args s 0 0 A) {H : Heap} {locs : List Loc} {ls : Array Slot} (h : gk_H G A s [(a0, .inr (5, [.int f_n, .ref a1, .ref a2, .ref a3, .ref a4, .int f_keptN, .ref a5, .ref a6, .ref a7, .ref a8, .ref a9, .ref a10, .ref a11, .ref a12, .ref a13, .ref a14, .ref a15, .ref a16, .int f_side, .ref a17, .ref a18, .ref a19, .int f_rows, .ref a20, .ref a21])), (a3, gk_I G 6 f_weight)] H locs) (hl : lv_has ls 4 [(0, .ref a0), (1, .int x1)]) : W p l e rm_X6_weightOf s m args below meth c H locs 0 0 Q (F0 m 0 ls []) := by
  obtain ⟨hx, hb, hml, hr, hown, hnm, hts, hlk, hK, hSt, hA⟩ := id C
  obtain ⟨hP, hD, hS⟩ := h
  unfold m_X6_weightOf_0 at hm
  refine lv_iconst (v := 0) hx hb dX6_weightOf_0 (by decide) ?_
  refine lv_istore_n (lv' := [(2, .int (0 : Int32)), (0, .ref a0), (1, .int x1)]) hx hb dX6_weightOf_1 rfl hl (by decide) rfl (fun ls hl => ?_)
  refine lv_iconst (v := 0) hx hb dX6_weightOf_2 (by decide) ?_
  refine lv_istore_n (lv' := [(3, .int (0 : Int32)), (2, .int (0 : Int32)), (0, .ref a0), (1, .int x1)]) hx hb dX6_weightOf_3 rfl hl (by decide) rfl (fun ls hl => ?_)
  obtain ⟨e3, hq, hm⟩ := gk_bd1_some hm
  refine w_X6_weightOf_L4 C hq (fun H locs ls h hl => ?_) ⟨hP, hD, hS⟩ (lv_sub hl [2, 3, 1, 0] rfl)
  obtain ⟨hP, hD, hS⟩ := h
  refine lv_iload_n hx hb dX6_weightOf_33 rfl (lv_at hl 0 rfl) ?_
  rw [kr _ (Option.some.inj hm).symm]
  exact gk_iret C ⟨hP, hD, hS⟩ dX6_weightOf_34
def m_X6_weightOf (f_n : Int32) (f_weight : (Nat → Int32)) (x1 : Int32) : Option (Int32) := m_X6_weightOf_0 f_n f_weight x1
theorem c_X6_weightOf (l : Launch) (G : gk_G) (a0 a1 a2 a3 a4 a5 a6 a7 a8 a9 a10 a11 a12 a13 a14 a15 a16 a17 a18 a19 a20 a21 : Nat) (f_n : Int32) (f_keptN : Int32) (f_side : Int32) (f_rows : Int32) (f_weight : (Nat → Int32)) (x1 : Int32) {rv : Int32} (hm : m_X6_weightOf f_n f_weight x1 = some rv) : gk_M l yX6_weightOf wsX6_weightOf rm_X6_weightOf false G [.ref a0, .int x1] [(a0, .inr (5, [.int f_n, .ref a1, .ref a2, .ref a3, .ref a4, .int f_keptN, .ref a5, .ref a6, .ref a7, .ref a8, .ref a9, .ref a10, .ref a11, .ref a12, .ref a13, .ref a14, .ref a15, .ref a16, .int f_side, .ref a17, .ref a18, .ref a19, .int f_rows, .ref a20, .ref a21])), (a3, gk_I G 6 f_weight)] (some (.int rv)) [(a0, .inr (5, [.int f_n, .ref a1, .ref a2, .ref a3, .ref a4, .int f_keptN, .ref a5, .ref a6, .ref a7, .ref a8, .ref a9, .ref a10, .ref a11, .ref a12, .ref a13, .ref a14, .ref a15, .ref a16, .int f_side, .ref a17, .ref a18, .ref a19, .int f_rows, .ref a20, .ref a21])), (a3, gk_I G 6 f_weight)] :=
  gk_of (by decide) rfl (Nat.le_of_ble_eq_true rfl) (fun p e s m below meth c A ls C h hl => w_X6_weightOf_0 C hm (fun v0 ez => by cases ez; rfl) h (show lv_has ls 4 [(0, .ref a0), (1, .int x1)] from hl))

/-! ===== ExchangeFamiliesModel.weighs(I)I ===== -/
abbrev rm_X6_weighs : Room := { frames := 5, cells := 0, slots := 0, locals := 238 }
def m_X6_weighs_0 (f_n : Int32) (f_weight : (Nat → Int32)) (x1 : Int32) : Option (Int32) := gk_bd1 (m_X6_isSet f_n x1) (fun r2 => (if r2 = (0 : Int32) then some (-1000 : Int32) else gk_bd1 (m_X6_weightOf f_n f_weight x1) (fun r4 => some r4)))
set_option maxRecDepth 100000 in
set_option maxHeartbeats 4000000 in
theorem w_X6_weighs_0 {p : Program} {l : Launch} {e : Env} {s : State} {m : MethodId} {args : Array Value} {below : List Frame} {meth : Method} {c : Code} {G : gk_G} {A : Nat → Prop} {Q : State → Prop} {a0 a1 a2 a3 a4 a5 a6 a7 a8 a9 a10 a11 a12 a13 a14 a15 a16 a17 a18 a19 a20 a21 : Nat} (C : gk_C p s m args meth c cX6_weighs 2 (some .int) yX6_weighs wsX6_weighs false G A) {f_n : Int32} {f_weight : (Nat → Int32)} {x1 : Int32} {f_keptN : Int32} {f_side : Int32} {f_rows : Int32} {yy : Int32} (hm : m_X6_weighs_0 f_n f_weight x1 = some yy) (kr : ∀ (rv : Int32), yy = rv → Q = MQ below (gk_Q G (some (.int rv)) [(a0, .inr (5, [.int f_n, .ref a1, .ref a2, .ref a3, .ref a4, .int f_keptN, .ref a5, .ref a6, .ref a7, .ref a8, .ref a9, .ref a10, .ref a11, .ref a12, .ref a13, .ref a14, .ref a15, .ref a16, .int f_side, .ref a17, .ref a18, .ref a19, .int f_rows, .ref a20, .ref a21])), (a3, gk_I G 6 f_weight)] A) args s 0 0 A) {H : Heap} {locs : List Loc} {ls : Array Slot} (h : gk_H G A s [(a0, .inr (5, [.int f_n, .ref a1, .ref a2, .ref a3, .ref a4, .int f_keptN, .ref a5, .ref a6, .ref a7, .ref a8, .ref a9, .ref a10, .ref a11, .ref a12, .ref a13, .ref a14, .ref a15, .ref a16, .int f_side, .ref a17, .ref a18, .ref a19, .int f_rows, .ref a20, .ref a21])), (a3, gk_I G 6 f_weight)] H locs) (hl : lv_has ls 2 [(0, .ref a0), (1, .int x1)]) : W p l e rm_X6_weighs s m args below meth c H locs 0 0 Q (F0 m 0 ls []) := by
  obtain ⟨hx, hb, hml, hr, hown, hnm, hts, hlk, hK, hSt, hA⟩ := id C
  obtain ⟨hP, hD, hS⟩ := h
  unfold m_X6_weighs_0 at hm
  refine lv_aload_n hx hb dX6_weighs_0 rfl (lv_at hl 0 rfl) ?_
  refine lv_iload_n hx hb dX6_weighs_1 rfl (lv_at hl 1 rfl) ?_
  obtain ⟨r2, hq, hm⟩ := gk_bd1_some hm
  refine gk_callV (n := 1) (bytes := cX6_isSet) (maxL := 2) (ret := (some .boolean)) (Cn := RX6) (T := TX6) (N := 25) [(a3, gk_I G 6 f_weight)] [(a0, .inr (5, [.int f_n, .ref a1, .ref a2, .ref a3, .ref a4, .int f_keptN, .ref a5, .ref a6, .ref a7, .ref a8, .ref a9, .ref a10, .ref a11, .ref a12, .ref a13, .ref a14, .ref a15, .ref a16, .int f_side, .ref a17, .ref a18, .ref a19, .int f_rows, .ref a20, .ref a21])), (a3, gk_I G 6 f_weight)] [] C ⟨hP, hD, hS⟩ (c_X6_isSet l G a0 a1 a2 a3 a4 a5 a6 a7 a8 a9 a10 a11 a12 a13 a14 a15 a16 a17 a18 a19 a20 a21 f_n f_keptN f_side f_rows x1 hq) gX6_weighs_X6_isSet dX6_weighs_2 hl.1 [0] [1] [1, 0] rfl rfl ⟨rfl, rfl⟩ ⟨Nat.le_of_ble_eq_true rfl, Nat.le_of_ble_eq_true rfl⟩ ⟨rfl, by decide +kernel, by decide +kernel, by decide +kernel⟩ rfl (fun h => by cases h) (Nat.le_of_ble_eq_true rfl) rfl rfl rfl rfl (by decide) rfl rfl (fun H locs h => ?_)
  obtain ⟨hP, hD, hS⟩ := h
  refine lv_if_eq (tgt := 16) hx hb dX6_weighs_5 (by decide) (fun c3 => ?_) (fun c3 => ?_)
  · have hm := gk_it c3 hm
    refine lv_sipush (v := -1000) hx hb dX6_weighs_16 (by decide) ?_
    rw [kr _ (Option.some.inj hm).symm]
    exact gk_iret C ⟨hP, hD, hS⟩ dX6_weighs_19
  · have hm := gk_if c3 hm
    refine lv_aload_n hx hb dX6_weighs_8 rfl (lv_at hl 0 rfl) ?_
    refine lv_iload_n hx hb dX6_weighs_9 rfl (lv_at hl 1 rfl) ?_
    obtain ⟨r4, hq, hm⟩ := gk_bd1_some hm
    refine gk_callV (n := 1) (bytes := cX6_weightOf) (maxL := 4) (ret := (some .int)) (Cn := RX6) (T := TX6) (N := 25) [] [(a0, .inr (5, [.int f_n, .ref a1, .ref a2, .ref a3, .ref a4, .int f_keptN, .ref a5, .ref a6, .ref a7, .ref a8, .ref a9, .ref a10, .ref a11, .ref a12, .ref a13, .ref a14, .ref a15, .ref a16, .int f_side, .ref a17, .ref a18, .ref a19, .int f_rows, .ref a20, .ref a21])), (a3, gk_I G 6 f_weight)] [] C ⟨hP, hD, hS⟩ (c_X6_weightOf l G a0 a1 a2 a3 a4 a5 a6 a7 a8 a9 a10 a11 a12 a13 a14 a15 a16 a17 a18 a19 a20 a21 f_n f_keptN f_side f_rows f_weight x1 hq) gX6_weighs_X6_weightOf dX6_weighs_10 hl.1 [0, 1] [] [0, 1] rfl rfl ⟨rfl, rfl⟩ ⟨Nat.le_of_ble_eq_true rfl, Nat.le_of_ble_eq_true rfl⟩ ⟨rfl, by decide +kernel, by decide +kernel, by decide +kernel⟩ rfl (fun h => by cases h) (Nat.le_of_ble_eq_true rfl) rfl rfl rfl rfl (by decide) rfl rfl (fun H locs h => ?_)
    obtain ⟨hP, hD, hS⟩ := h
    refine lv_goto (tgt := 19) hx hb dX6_weighs_13 (by decide) ?_
    rw [kr _ (Option.some.inj hm).symm]
    exact gk_iret C ⟨hP, hD, hS⟩ dX6_weighs_19
def m_X6_weighs (f_n : Int32) (f_weight : (Nat → Int32)) (x1 : Int32) : Option (Int32) := m_X6_weighs_0 f_n f_weight x1
theorem c_X6_weighs (l : Launch) (G : gk_G) (a0 a1 a2 a3 a4 a5 a6 a7 a8 a9 a10 a11 a12 a13 a14 a15 a16 a17 a18 a19 a20 a21 : Nat) (f_n : Int32) (f_keptN : Int32) (f_side : Int32) (f_rows : Int32) (f_weight : (Nat → Int32)) (x1 : Int32) {rv : Int32} (hm : m_X6_weighs f_n f_weight x1 = some rv) : gk_M l yX6_weighs wsX6_weighs rm_X6_weighs false G [.ref a0, .int x1] [(a0, .inr (5, [.int f_n, .ref a1, .ref a2, .ref a3, .ref a4, .int f_keptN, .ref a5, .ref a6, .ref a7, .ref a8, .ref a9, .ref a10, .ref a11, .ref a12, .ref a13, .ref a14, .ref a15, .ref a16, .int f_side, .ref a17, .ref a18, .ref a19, .int f_rows, .ref a20, .ref a21])), (a3, gk_I G 6 f_weight)] (some (.int rv)) [(a0, .inr (5, [.int f_n, .ref a1, .ref a2, .ref a3, .ref a4, .int f_keptN, .ref a5, .ref a6, .ref a7, .ref a8, .ref a9, .ref a10, .ref a11, .ref a12, .ref a13, .ref a14, .ref a15, .ref a16, .int f_side, .ref a17, .ref a18, .ref a19, .int f_rows, .ref a20, .ref a21])), (a3, gk_I G 6 f_weight)] :=
  gk_of (by decide) rfl (Nat.le_of_ble_eq_true rfl) (fun p e s m below meth c A ls C h hl => w_X6_weighs_0 C hm (fun v0 ez => by cases ez; rfl) h (show lv_has ls 2 [(0, .ref a0), (1, .int x1)] from hl))

/-! ===== ExchangeFamiliesModel.may(III)Z ===== -/
abbrev rm_X6_may : Room := { frames := 3, cells := 0, slots := 0, locals := 150 }
theorem k_X6_may_0 : ∀ w ∈ u_ws RX6 TX6 25, w ∈ wsX6_may := by decide +kernel
theorem k_X6_may_1 : Cond.fieldLink RX6 9 "ExchangeFamiliesModel" "n" "I" ∈ wsX6_may := by decide +kernel
def m_X6_may_B3 (f_n : Int32) (f_members : (Nat → Int64)) (x1 : Int32) (x2 : Int32) (x3 : Int32) (x4 : Int32) : Option ((Int32) ⊕ ((Int32) ⊕ (Unit))) := (if ((1 : Int32) <<< (f_n &&& 31)) ≤ x4 then some (.inr (.inr ())) else gk_bd1 (m_X6_isMember f_members x1 x4) (fun r5 => (if r5 = (0 : Int32) then some (.inl (x4 + 1)) else (if (x4 &&& x2) = x3 then some (.inr (.inl (1 : Int32))) else some (.inl (x4 + 1))))))
set_option maxRecDepth 100000 in
set_option maxHeartbeats 4000000 in
theorem w_X6_may_B3 {p : Program} {l : Launch} {e : Env} {s : State} {m : MethodId} {args : Array Value} {below : List Frame} {meth : Method} {c : Code} {G : gk_G} {A : Nat → Prop} {Q : State → Prop} {a0 a1 a2 a3 a4 a5 a6 a7 a8 a9 a10 a11 a12 a13 a14 a15 a16 a17 a18 a19 a20 a21 : Nat} (C : gk_C p s m args meth c cX6_may 5 (some .boolean) yX6_may wsX6_may false G A) {f_n : Int32} {f_members : (Nat → Int64)} {x1 : Int32} {x2 : Int32} {x3 : Int32} {x4 : Int32} {f_keptN : Int32} {f_side : Int32} {f_rows : Int32} {yy : (Int32) ⊕ ((Int32) ⊕ (Unit))} (hm : m_X6_may_B3 f_n f_members x1 x2 x3 x4 = some yy) (kl : ∀ (x4 : Int32), yy = .inl x4 → ∀ (H : Heap) (locs : List Loc) (ls : Array Slot), gk_H G A s [(a0, .inr (5, [.int f_n, .ref a1, .ref a2, .ref a3, .ref a4, .int f_keptN, .ref a5, .ref a6, .ref a7, .ref a8, .ref a9, .ref a10, .ref a11, .ref a12, .ref a13, .ref a14, .ref a15, .ref a16, .int f_side, .ref a17, .ref a18, .ref a19, .int f_rows, .ref a20, .ref a21])), (a1, gk_J G 6 f_members)] H locs → lv_has ls 5 [(0, .ref a0), (1, .int x1), (2, .int x2), (3, .int x3), (4, .int x4)] → W p l e rm_X6_may s m args below meth c H locs 0 0 Q (F0 m 3 ls [])) (kx : yy = .inr (.inr ()) → ∀ (H : Heap) (locs : List Loc) (ls : Array Slot), gk_H G A s [(a0, .inr (5, [.int f_n, .ref a1, .ref a2, .ref a3, .ref a4, .int f_keptN, .ref a5, .ref a6, .ref a7, .ref a8, .ref a9, .ref a10, .ref a11, .ref a12, .ref a13, .ref a14, .ref a15, .ref a16, .int f_side, .ref a17, .ref a18, .ref a19, .int f_rows, .ref a20, .ref a21])), (a1, gk_J G 6 f_members)] H locs → lv_has ls 5 [] → W p l e rm_X6_may s m args below meth c H locs 0 0 Q (F0 m 40 ls [])) (kr : ∀ (rv : Int32), yy = .inr (.inl rv) → Q = MQ below (gk_Q G (some (.int rv)) [(a0, .inr (5, [.int f_n, .ref a1, .ref a2, .ref a3, .ref a4, .int f_keptN, .ref a5, .ref a6, .ref a7, .ref a8, .ref a9, .ref a10, .ref a11, .ref a12, .ref a13, .ref a14, .ref a15, .ref a16, .int f_side, .ref a17, .ref a18, .ref a19, .int f_rows, .ref a20, .ref a21])), (a1, gk_J G 6 f_members)] A) args s 0 0 A) {H : Heap} {locs : List Loc} {ls : Array Slot} (h : gk_H G A s [(a0, .inr (5, [.int f_n, .ref a1, .ref a2, .ref a3, .ref a4, .int f_keptN, .ref a5, .ref a6, .ref a7, .ref a8, .ref a9, .ref a10, .ref a11, .ref a12, .ref a13, .ref a14, .ref a15, .ref a16, .int f_side, .ref a17, .ref a18, .ref a19, .int f_rows, .ref a20, .ref a21])), (a1, gk_J G 6 f_members)] H locs) (hl : lv_has ls 5 [(0, .ref a0), (1, .int x1), (2, .int x2), (3, .int x3), (4, .int x4)]) : W p l e rm_X6_may s m args below meth c H locs 0 0 Q (F0 m 3 ls []) := by
  obtain ⟨hx, hb, hml, hr, hown, hnm, hts, hlk, hK, hSt, hA⟩ := id C
  obtain ⟨hP, hD, hS⟩ := h
  unfold m_X6_may_B3 at hm
  refine lv_iload hx hb dX6_may_3 (lv_at hl 4 rfl) ?_
  refine lv_iconst (v := 1) hx hb dX6_may_5 (by decide) ?_
  refine lv_aload_n hx hb dX6_may_6 rfl (lv_at hl 0 rfl) ?_
  refine va_get (D := G.1) (cl := vwCl) (own := RX6) (ref := "ExchangeFamiliesModel") (ci := 5) (v := .int f_n) (C := RX6) (T := TX6) (N := 25) hx hb hts k_X6_may_0 hown hK hP 0 rfl rfl 0 (by decide) (hts _ k_X6_may_1) (fun _ h9 => h9) rfl dX6_may_7 ?_
  refine lv_ishl hx hb dX6_may_10 ?_
  refine lv_icmp_ge (tgt := 40) hx hb dX6_may_11 (by decide) (fun c4 => ?_) (fun c4 => ?_)
  · have hm := gk_it c4 hm
    exact kx (Option.some.inj hm).symm _ _ _ ⟨hP, hD, hS⟩ (lv_sub hl [] rfl)
  · have hm := gk_if c4 hm
    refine lv_aload_n hx hb dX6_may_14 rfl (lv_at hl 0 rfl) ?_
    refine lv_iload_n hx hb dX6_may_15 rfl (lv_at hl 1 rfl) ?_
    refine lv_iload hx hb dX6_may_16 (lv_at hl 4 rfl) ?_
    obtain ⟨r5, hq, hm⟩ := gk_bd1_some hm
    refine gk_callV (n := 2) (bytes := cX6_isMember) (maxL := 3) (ret := (some .boolean)) (Cn := RX6) (T := TX6) (N := 25) [] [(a0, .inr (5, [.int f_n, .ref a1, .ref a2, .ref a3, .ref a4, .int f_keptN, .ref a5, .ref a6, .ref a7, .ref a8, .ref a9, .ref a10, .ref a11, .ref a12, .ref a13, .ref a14, .ref a15, .ref a16, .int f_side, .ref a17, .ref a18, .ref a19, .int f_rows, .ref a20, .ref a21])), (a1, gk_J G 6 f_members)] [] C ⟨hP, hD, hS⟩ (c_X6_isMember l G a0 a1 a2 a3 a4 a5 a6 a7 a8 a9 a10 a11 a12 a13 a14 a15 a16 a17 a18 a19 a20 a21 f_n f_keptN f_side f_rows f_members x1 x4 hq) gX6_may_X6_isMember dX6_may_18 hl.1 [0, 1] [] [0, 1] rfl rfl ⟨rfl, rfl⟩ ⟨Nat.le_of_ble_eq_true rfl, Nat.le_of_ble_eq_true rfl⟩ ⟨rfl, by decide +kernel, by decide +kernel, by decide +kernel⟩ rfl (fun h => by cases h) (Nat.le_of_ble_eq_true rfl) rfl rfl rfl rfl (by decide) rfl rfl (fun H locs h => ?_)
    obtain ⟨hP, hD, hS⟩ := h
    refine lv_if_eq (tgt := 34) hx hb dX6_may_21 (by decide) (fun c6 => ?_) (fun c6 => ?_)
    · have hm := gk_it c6 hm
      refine lv_iinc (v := x4 + 1) (lv' := [(4, .int (x4 + 1)), (0, .ref a0), (1, .int x1), (2, .int x2), (3, .int x3)]) hx hb dX6_may_34 hl (k := 4) rfl rfl (by decide) rfl (fun ls hl => ?_)
      refine lv_goto (tgt := 3) hx hb dX6_may_37 (by decide) ?_
      exact kl _ (Option.some.inj hm).symm _ _ _ ⟨hP, hD, hS⟩ (lv_sub hl [1, 2, 3, 4, 0] rfl)
    · have hm := gk_if c6 hm
      refine lv_iload hx hb dX6_may_24 (lv_at hl 4 rfl) ?_
      refine lv_iload_n hx hb dX6_may_26 rfl (lv_at hl 2 rfl) ?_
      refine lv_iand hx hb dX6_may_27 ?_
      refine lv_iload_n hx hb dX6_may_28 rfl (lv_at hl 3 rfl) ?_
      refine lv_icmp_ne (tgt := 34) hx hb dX6_may_29 (by decide) (fun c7 => ?_) (fun c7 => ?_)
      · have hm := gk_if c7 hm
        refine lv_iinc (v := x4 + 1) (lv' := [(4, .int (x4 + 1)), (0, .ref a0), (1, .int x1), (2, .int x2), (3, .int x3)]) hx hb dX6_may_34 hl (k := 4) rfl rfl (by decide) rfl (fun ls hl => ?_)
        refine lv_goto (tgt := 3) hx hb dX6_may_37 (by decide) ?_
        exact kl _ (Option.some.inj hm).symm _ _ _ ⟨hP, hD, hS⟩ (lv_sub hl [1, 2, 3, 4, 0] rfl)
      · have hm := gk_it c7 hm
        refine lv_iconst (v := 1) hx hb dX6_may_32 (by decide) ?_
        rw [kr _ (Option.some.inj hm).symm]
        exact gk_zret C ⟨hP, hD, hS⟩ rfl dX6_may_33
set_option maxRecDepth 100000 in
set_option maxHeartbeats 4000000 in
theorem w_X6_may_L3 {p : Program} {l : Launch} {e : Env} {s : State} {m : MethodId} {args : Array Value} {below : List Frame} {meth : Method} {c : Code} {G : gk_G} {A : Nat → Prop} {Q : State → Prop} {a0 a1 a2 a3 a4 a5 a6 a7 a8 a9 a10 a11 a12 a13 a14 a15 a16 a17 a18 a19 a20 a21 : Nat} (C : gk_C p s m args meth c cX6_may 5 (some .boolean) yX6_may wsX6_may false G A) {f_n : Int32} {f_members : (Nat → Int64)} {x1 : Int32} {x2 : Int32} {x3 : Int32} {x4 : Int32} {f_keptN : Int32} {f_side : Int32} {f_rows : Int32} {k : Nat} (hm : gk_lp (fun z => m_X6_may_B3 f_n f_members x1 x2 x3 z) k x4 = some (.inr ())) (kx : ∀ (H : Heap) (locs : List Loc) (ls : Array Slot), gk_H G A s [(a0, .inr (5, [.int f_n, .ref a1, .ref a2, .ref a3, .ref a4, .int f_keptN, .ref a5, .ref a6, .ref a7, .ref a8, .ref a9, .ref a10, .ref a11, .ref a12, .ref a13, .ref a14, .ref a15, .ref a16, .int f_side, .ref a17, .ref a18, .ref a19, .int f_rows, .ref a20, .ref a21])), (a1, gk_J G 6 f_members)] H locs → lv_has ls 5 [] → W p l e rm_X6_may s m args below meth c H locs 0 0 Q (F0 m 40 ls [])) {H : Heap} {locs : List Loc} {ls : Array Slot} (h : gk_H G A s [(a0, .inr (5, [.int f_n, .ref a1, .ref a2, .ref a3, .ref a4, .int f_keptN, .ref a5, .ref a6, .ref a7, .ref a8, .ref a9, .ref a10, .ref a11, .ref a12, .ref a13, .ref a14, .ref a15, .ref a16, .int f_side, .ref a17, .ref a18, .ref a19, .int f_rows, .ref a20, .ref a21])), (a1, gk_J G 6 f_members)] H locs) (hl : lv_has ls 5 [(0, .ref a0), (1, .int x1), (2, .int x2), (3, .int x3), (4, .int x4)]) : W p l e rm_X6_may s m args below meth c H locs 0 0 Q (F0 m 3 ls []) :=
  gk_lp_some (P := fun z => ∀ (H : Heap) (locs : List Loc) (ls : Array Slot), gk_H G A s [(a0, .inr (5, [.int f_n, .ref a1, .ref a2, .ref a3, .ref a4, .int f_keptN, .ref a5, .ref a6, .ref a7, .ref a8, .ref a9, .ref a10, .ref a11, .ref a12, .ref a13, .ref a14, .ref a15, .ref a16, .int f_side, .ref a17, .ref a18, .ref a19, .int f_rows, .ref a20, .ref a21])), (a1, gk_J G 6 f_members)] H locs → lv_has ls 5 [(0, .ref a0), (1, .int x1), (2, .int x2), (3, .int x3), (4, .int z)] → W p l e rm_X6_may s m args below meth c H locs 0 0 Q (F0 m 3 ls [])) (E := fun r => (r = .inr () → ∀ (H : Heap) (locs : List Loc) (ls : Array Slot), gk_H G A s [(a0, .inr (5, [.int f_n, .ref a1, .ref a2, .ref a3, .ref a4, .int f_keptN, .ref a5, .ref a6, .ref a7, .ref a8, .ref a9, .ref a10, .ref a11, .ref a12, .ref a13, .ref a14, .ref a15, .ref a16, .int f_side, .ref a17, .ref a18, .ref a19, .int f_rows, .ref a20, .ref a21])), (a1, gk_J G 6 f_members)] H locs → lv_has ls 5 [] → W p l e rm_X6_may s m args below meth c H locs 0 0 Q (F0 m 40 ls [])) ∧ (∀ (rv : Int32), r = .inl rv → Q = MQ below (gk_Q G (some (.int rv)) [(a0, .inr (5, [.int f_n, .ref a1, .ref a2, .ref a3, .ref a4, .int f_keptN, .ref a5, .ref a6, .ref a7, .ref a8, .ref a9, .ref a10, .ref a11, .ref a12, .ref a13, .ref a14, .ref a15, .ref a16, .int f_side, .ref a17, .ref a18, .ref a19, .int f_rows, .ref a20, .ref a21])), (a1, gk_J G 6 f_members)] A) args s 0 0 A)) (fun z x hf kl ke H locs ls h hl => w_X6_may_B3 C hf (fun v0 ez => kl v0 ez) (fun ez => (ke _ ez).1 rfl) (fun v0 ez => (ke _ ez).2 v0 rfl) h hl) k x4 _ hm (⟨fun ez => (by cases ez; exact kx), fun v0 ez => (by cases ez)⟩) _ _ _ h hl
set_option maxRecDepth 100000 in
set_option maxHeartbeats 4000000 in
theorem w_X6_may_L3r {p : Program} {l : Launch} {e : Env} {s : State} {m : MethodId} {args : Array Value} {below : List Frame} {meth : Method} {c : Code} {G : gk_G} {A : Nat → Prop} {Q : State → Prop} {a0 a1 a2 a3 a4 a5 a6 a7 a8 a9 a10 a11 a12 a13 a14 a15 a16 a17 a18 a19 a20 a21 : Nat} (C : gk_C p s m args meth c cX6_may 5 (some .boolean) yX6_may wsX6_may false G A) {f_n : Int32} {f_members : (Nat → Int64)} {x1 : Int32} {x2 : Int32} {x3 : Int32} {x4 : Int32} {f_keptN : Int32} {f_side : Int32} {f_rows : Int32} {k : Nat} {rv : Int32} (hm : gk_lp (fun z => m_X6_may_B3 f_n f_members x1 x2 x3 z) k x4 = some (.inl rv)) (kr : Q = MQ below (gk_Q G (some (.int rv)) [(a0, .inr (5, [.int f_n, .ref a1, .ref a2, .ref a3, .ref a4, .int f_keptN, .ref a5, .ref a6, .ref a7, .ref a8, .ref a9, .ref a10, .ref a11, .ref a12, .ref a13, .ref a14, .ref a15, .ref a16, .int f_side, .ref a17, .ref a18, .ref a19, .int f_rows, .ref a20, .ref a21])), (a1, gk_J G 6 f_members)] A) args s 0 0 A) {H : Heap} {locs : List Loc} {ls : Array Slot} (h : gk_H G A s [(a0, .inr (5, [.int f_n, .ref a1, .ref a2, .ref a3, .ref a4, .int f_keptN, .ref a5, .ref a6, .ref a7, .ref a8, .ref a9, .ref a10, .ref a11, .ref a12, .ref a13, .ref a14, .ref a15, .ref a16, .int f_side, .ref a17, .ref a18, .ref a19, .int f_rows, .ref a20, .ref a21])), (a1, gk_J G 6 f_members)] H locs) (hl : lv_has ls 5 [(0, .ref a0), (1, .int x1), (2, .int x2), (3, .int x3), (4, .int x4)]) : W p l e rm_X6_may s m args below meth c H locs 0 0 Q (F0 m 3 ls []) :=
  gk_lp_some (P := fun z => ∀ (H : Heap) (locs : List Loc) (ls : Array Slot), gk_H G A s [(a0, .inr (5, [.int f_n, .ref a1, .ref a2, .ref a3, .ref a4, .int f_keptN, .ref a5, .ref a6, .ref a7, .ref a8, .ref a9, .ref a10, .ref a11, .ref a12, .ref a13, .ref a14, .ref a15, .ref a16, .int f_side, .ref a17, .ref a18, .ref a19, .int f_rows, .ref a20, .ref a21])), (a1, gk_J G 6 f_members)] H locs → lv_has ls 5 [(0, .ref a0), (1, .int x1), (2, .int x2), (3, .int x3), (4, .int z)] → W p l e rm_X6_may s m args below meth c H locs 0 0 Q (F0 m 3 ls [])) (E := fun r => (r = .inr () → ∀ (H : Heap) (locs : List Loc) (ls : Array Slot), gk_H G A s [(a0, .inr (5, [.int f_n, .ref a1, .ref a2, .ref a3, .ref a4, .int f_keptN, .ref a5, .ref a6, .ref a7, .ref a8, .ref a9, .ref a10, .ref a11, .ref a12, .ref a13, .ref a14, .ref a15, .ref a16, .int f_side, .ref a17, .ref a18, .ref a19, .int f_rows, .ref a20, .ref a21])), (a1, gk_J G 6 f_members)] H locs → lv_has ls 5 [] → W p l e rm_X6_may s m args below meth c H locs 0 0 Q (F0 m 40 ls [])) ∧ (∀ (rv : Int32), r = .inl rv → Q = MQ below (gk_Q G (some (.int rv)) [(a0, .inr (5, [.int f_n, .ref a1, .ref a2, .ref a3, .ref a4, .int f_keptN, .ref a5, .ref a6, .ref a7, .ref a8, .ref a9, .ref a10, .ref a11, .ref a12, .ref a13, .ref a14, .ref a15, .ref a16, .int f_side, .ref a17, .ref a18, .ref a19, .int f_rows, .ref a20, .ref a21])), (a1, gk_J G 6 f_members)] A) args s 0 0 A)) (fun z x hf kl ke H locs ls h hl => w_X6_may_B3 C hf (fun v0 ez => kl v0 ez) (fun ez => (ke _ ez).1 rfl) (fun v0 ez => (ke _ ez).2 v0 rfl) h hl) k x4 _ hm (⟨fun ez => (by cases ez), fun v0 ez => (by cases ez; exact kr)⟩) _ _ _ h hl
def m_X6_may_0 (f_n : Int32) (f_members : (Nat → Int64)) (x1 : Int32) (x2 : Int32) (x3 : Int32) : Option (Int32) := gk_bs0 (gk_lp (fun z => m_X6_may_B3 f_n f_members x1 x2 x3 z) gk_fu (0 : Int32)) (fun r => some r) (some (0 : Int32))
set_option maxRecDepth 100000 in
set_option maxHeartbeats 4000000 in
theorem w_X6_may_0 {p : Program} {l : Launch} {e : Env} {s : State} {m : MethodId} {args : Array Value} {below : List Frame} {meth : Method} {c : Code} {G : gk_G} {A : Nat → Prop} {Q : State → Prop} {a0 a1 a2 a3 a4 a5 a6 a7 a8 a9 a10 a11 a12 a13 a14 a15 a16 a17 a18 a19 a20 a21 : Nat} (C : gk_C p s m args meth c cX6_may 5 (some .boolean) yX6_may wsX6_may false G A) {f_n : Int32} {f_members : (Nat → Int64)} {x1 : Int32} {x2 : Int32} {x3 : Int32} {f_keptN : Int32} {f_side : Int32} {f_rows : Int32} {yy : Int32} (hm : m_X6_may_0 f_n f_members x1 x2 x3 = some yy) (kr : ∀ (rv : Int32), yy = rv → Q = MQ below (gk_Q G (some (.int rv)) [(a0, .inr (5, [.int f_n, .ref a1, .ref a2, .ref a3, .ref a4, .int f_keptN, .ref a5, .ref a6, .ref a7, .ref a8, .ref a9, .ref a10, .ref a11, .ref a12, .ref a13, .ref a14, .ref a15, .ref a16, .int f_side, .ref a17, .ref a18, .ref a19, .int f_rows, .ref a20, .ref a21])), (a1, gk_J G 6 f_members)] A) args s 0 0 A) {H : Heap} {locs : List Loc} {ls : Array Slot} (h : gk_H G A s [(a0, .inr (5, [.int f_n, .ref a1, .ref a2, .ref a3, .ref a4, .int f_keptN, .ref a5, .ref a6, .ref a7, .ref a8, .ref a9, .ref a10, .ref a11, .ref a12, .ref a13, .ref a14, .ref a15, .ref a16, .int f_side, .ref a17, .ref a18, .ref a19, .int f_rows, .ref a20, .ref a21])), (a1, gk_J G 6 f_members)] H locs) (hl : lv_has ls 5 [(0, .ref a0), (1, .int x1), (2, .int x2), (3, .int x3)]) : W p l e rm_X6_may s m args below meth c H locs 0 0 Q (F0 m 0 ls []) := by
  obtain ⟨hx, hb, hml, hr, hown, hnm, hts, hlk, hK, hSt, hA⟩ := id C
  obtain ⟨hP, hD, hS⟩ := h
  unfold m_X6_may_0 at hm
  refine lv_iconst (v := 0) hx hb dX6_may_0 (by decide) ?_
  refine lv_istore (lv' := [(4, .int (0 : Int32)), (0, .ref a0), (1, .int x1), (2, .int x2), (3, .int x3)]) hx hb dX6_may_1 hl (by decide) rfl (fun ls hl => ?_)
  rcases gk_bs0_some hm with ⟨r8, hq, hm⟩ | ⟨hq, hm⟩
  · exact w_X6_may_L3r C hq (kr _ (Option.some.inj hm).symm) ⟨hP, hD, hS⟩ (lv_sub hl [1, 2, 3, 4, 0] rfl)
  refine w_X6_may_L3 C hq (fun H locs ls h hl => ?_) ⟨hP, hD, hS⟩ (lv_sub hl [1, 2, 3, 4, 0] rfl)
  obtain ⟨hP, hD, hS⟩ := h
  refine lv_iconst (v := 0) hx hb dX6_may_40 (by decide) ?_
  rw [kr _ (Option.some.inj hm).symm]
  exact gk_zret C ⟨hP, hD, hS⟩ rfl dX6_may_41
def m_X6_may (f_n : Int32) (f_members : (Nat → Int64)) (x1 : Int32) (x2 : Int32) (x3 : Int32) : Option (Int32) := m_X6_may_0 f_n f_members x1 x2 x3
theorem c_X6_may (l : Launch) (G : gk_G) (a0 a1 a2 a3 a4 a5 a6 a7 a8 a9 a10 a11 a12 a13 a14 a15 a16 a17 a18 a19 a20 a21 : Nat) (f_n : Int32) (f_keptN : Int32) (f_side : Int32) (f_rows : Int32) (f_members : (Nat → Int64)) (x1 : Int32) (x2 : Int32) (x3 : Int32) {rv : Int32} (hm : m_X6_may f_n f_members x1 x2 x3 = some rv) : gk_M l yX6_may wsX6_may rm_X6_may false G [.ref a0, .int x1, .int x2, .int x3] [(a0, .inr (5, [.int f_n, .ref a1, .ref a2, .ref a3, .ref a4, .int f_keptN, .ref a5, .ref a6, .ref a7, .ref a8, .ref a9, .ref a10, .ref a11, .ref a12, .ref a13, .ref a14, .ref a15, .ref a16, .int f_side, .ref a17, .ref a18, .ref a19, .int f_rows, .ref a20, .ref a21])), (a1, gk_J G 6 f_members)] (some (.int rv)) [(a0, .inr (5, [.int f_n, .ref a1, .ref a2, .ref a3, .ref a4, .int f_keptN, .ref a5, .ref a6, .ref a7, .ref a8, .ref a9, .ref a10, .ref a11, .ref a12, .ref a13, .ref a14, .ref a15, .ref a16, .int f_side, .ref a17, .ref a18, .ref a19, .int f_rows, .ref a20, .ref a21])), (a1, gk_J G 6 f_members)] :=
  gk_of (by decide) rfl (Nat.le_of_ble_eq_true rfl) (fun p e s m below meth c A ls C h hl => w_X6_may_0 C hm (fun v0 ez => by cases ez; rfl) h (show lv_has ls 5 [(0, .ref a0), (1, .int x1), (2, .int x2), (3, .int x3)] from hl))

/-! ===== ExchangeFamiliesModel.heaviest(I)I ===== -/
abbrev rm_X6_heaviest : Room := { frames := 1, cells := 0, slots := 0, locals := 64 }
theorem k_X6_heaviest_0 : ∀ w ∈ u_ws RX6 TX6 25, w ∈ wsX6_heaviest := by decide +kernel
theorem k_X6_heaviest_1 : Cond.fieldLink RX6 9 "ExchangeFamiliesModel" "n" "I" ∈ wsX6_heaviest := by decide +kernel
theorem k_X6_heaviest_2 : Cond.fieldLink RX6 23 "ExchangeFamiliesModel" "weight" "[I" ∈ wsX6_heaviest := by decide +kernel
def m_X6_heaviest_J85 (f_n : Int32) (f_weight : (Nat → Int32)) (x1 : Int32) (x2 : Int32) (x3 : Int32) (x4 : Int32) (s0 : Int32) : Option ((Int32 × Int32) ⊕ (Int32)) := (if x4 ≤ s0 then some (.inl (x2, x3 + 1)) else some (.inl (x3, x3 + 1)))
set_option maxRecDepth 100000 in
set_option maxHeartbeats 4000000 in
theorem w_X6_heaviest_J85 {p : Program} {l : Launch} {e : Env} {s : State} {m : MethodId} {args : Array Value} {below : List Frame} {meth : Method} {c : Code} {G : gk_G} {A : Nat → Prop} {Q : State → Prop} {a0 a1 a2 a3 a4 a5 a6 a7 a8 a9 a10 a11 a12 a13 a14 a15 a16 a17 a18 a19 a20 a21 : Nat} (C : gk_C p s m args meth c cX6_heaviest 6 (some .int) yX6_heaviest wsX6_heaviest false G A) {f_n : Int32} {f_weight : (Nat → Int32)} {x1 : Int32} {x2 : Int32} {x3 : Int32} {x4 : Int32} {s0 : Int32} {f_keptN : Int32} {f_side : Int32} {f_rows : Int32} {yy : (Int32 × Int32) ⊕ (Int32)} (hm : m_X6_heaviest_J85 f_n f_weight x1 x2 x3 x4 s0 = some yy) (kl : ∀ (x2 : Int32) (x3 : Int32), yy = .inl (x2, x3) → ∀ (H : Heap) (locs : List Loc) (ls : Array Slot), gk_H G A s [(a0, .inr (5, [.int f_n, .ref a1, .ref a2, .ref a3, .ref a4, .int f_keptN, .ref a5, .ref a6, .ref a7, .ref a8, .ref a9, .ref a10, .ref a11, .ref a12, .ref a13, .ref a14, .ref a15, .ref a16, .int f_side, .ref a17, .ref a18, .ref a19, .int f_rows, .ref a20, .ref a21])), (a3, gk_I G 6 f_weight)] H locs → lv_has ls 6 [(0, .ref a0), (1, .int x1), (2, .int x2), (3, .int x3)] → W p l e rm_X6_heaviest s m args below meth c H locs 0 0 Q (F0 m 4 ls [])) (kx : ∀ (x2 : Int32), yy = .inr x2 → ∀ (H : Heap) (locs : List Loc) (ls : Array Slot), gk_H G A s [(a0, .inr (5, [.int f_n, .ref a1, .ref a2, .ref a3, .ref a4, .int f_keptN, .ref a5, .ref a6, .ref a7, .ref a8, .ref a9, .ref a10, .ref a11, .ref a12, .ref a13, .ref a14, .ref a15, .ref a16, .int f_side, .ref a17, .ref a18, .ref a19, .int f_rows, .ref a20, .ref a21])), (a3, gk_I G 6 f_weight)] H locs → lv_has ls 6 [(2, .int x2)] → W p l e rm_X6_heaviest s m args below meth c H locs 0 0 Q (F0 m 106 ls [])) {H : Heap} {locs : List Loc} {ls : Array Slot} (h : gk_H G A s [(a0, .inr (5, [.int f_n, .ref a1, .ref a2, .ref a3, .ref a4, .int f_keptN, .ref a5, .ref a6, .ref a7, .ref a8, .ref a9, .ref a10, .ref a11, .ref a12, .ref a13, .ref a14, .ref a15, .ref a16, .int f_side, .ref a17, .ref a18, .ref a19, .int f_rows, .ref a20, .ref a21])), (a3, gk_I G 6 f_weight)] H locs) (hl : lv_has ls 6 [(0, .ref a0), (1, .int x1), (2, .int x2), (3, .int x3), (4, .int x4)]) : W p l e rm_X6_heaviest s m args below meth c H locs 0 0 Q (F0 m 85 ls [.int s0]) := by
  obtain ⟨hx, hb, hml, hr, hown, hnm, hts, hlk, hK, hSt, hA⟩ := id C
  obtain ⟨hP, hD, hS⟩ := h
  unfold m_X6_heaviest_J85 at hm
  refine lv_istore (lv' := [(5, .int s0), (0, .ref a0), (1, .int x1), (2, .int x2), (3, .int x3), (4, .int x4)]) hx hb dX6_heaviest_85 hl (by decide) rfl (fun ls hl => ?_)
  refine lv_iload hx hb dX6_heaviest_87 (lv_at hl 5 rfl) ?_
  refine lv_iload hx hb dX6_heaviest_89 (lv_at hl 0 rfl) ?_
  refine lv_icmp_le (tgt := 98) hx hb dX6_heaviest_91 (by decide) (fun c12 => ?_) (fun c12 => ?_)
  · have hm := gk_it c12 hm
    refine lv_iload_n hx hb dX6_heaviest_98 rfl (lv_at hl 3 rfl) ?_
    refine lv_istore_n (lv' := [(2, .int x2), (5, .int s0), (0, .ref a0), (1, .int x1), (3, .int x3), (4, .int x4)]) hx hb dX6_heaviest_99 rfl hl (by decide) rfl (fun ls hl => ?_)
    refine lv_iinc (v := x3 + 1) (lv' := [(3, .int (x3 + 1)), (2, .int x2), (5, .int s0), (0, .ref a0), (1, .int x1), (4, .int x4)]) hx hb dX6_heaviest_100 hl (k := 4) rfl rfl (by decide) rfl (fun ls hl => ?_)
    refine lv_goto (tgt := 4) hx hb dX6_heaviest_103 (by decide) ?_
    exact kl _ _ (Option.some.inj hm).symm _ _ _ ⟨hP, hD, hS⟩ (lv_sub hl [3, 4, 1, 0] rfl)
  · have hm := gk_if c12 hm
    refine lv_iload_n hx hb dX6_heaviest_94 rfl (lv_at hl 4 rfl) ?_
    refine lv_goto (tgt := 99) hx hb dX6_heaviest_95 (by decide) ?_
    refine lv_istore_n (lv' := [(2, .int x3), (5, .int s0), (0, .ref a0), (1, .int x1), (3, .int x3), (4, .int x4)]) hx hb dX6_heaviest_99 rfl hl (by decide) rfl (fun ls hl => ?_)
    refine lv_iinc (v := x3 + 1) (lv' := [(3, .int (x3 + 1)), (2, .int x3), (5, .int s0), (0, .ref a0), (1, .int x1), (4, .int x4)]) hx hb dX6_heaviest_100 hl (k := 4) rfl rfl (by decide) rfl (fun ls hl => ?_)
    refine lv_goto (tgt := 4) hx hb dX6_heaviest_103 (by decide) ?_
    exact kl _ _ (Option.some.inj hm).symm _ _ _ ⟨hP, hD, hS⟩ (lv_sub hl [3, 4, 1, 0] rfl)
def m_X6_heaviest_J49 (f_n : Int32) (f_weight : (Nat → Int32)) (x1 : Int32) (x2 : Int32) (x3 : Int32) (s0 : Int32) : Option ((Int32 × Int32) ⊕ (Int32)) := (if x2 = (-1 : Int32) then m_X6_heaviest_J85 f_n f_weight x1 x2 x3 s0 (-1 : Int32) else gk_ix x2 6 ((if (0 : Int32) ≤ (f_weight x2.toNatClampNeg) then gk_ix x2 6 (m_X6_heaviest_J85 f_n f_weight x1 x2 x3 s0 (f_weight x2.toNatClampNeg)) else gk_ix x2 6 (m_X6_heaviest_J85 f_n f_weight x1 x2 x3 s0 (-(f_weight x2.toNatClampNeg))))))
set_option maxRecDepth 100000 in
set_option maxHeartbeats 4000000 in
theorem w_X6_heaviest_J49 {p : Program} {l : Launch} {e : Env} {s : State} {m : MethodId} {args : Array Value} {below : List Frame} {meth : Method} {c : Code} {G : gk_G} {A : Nat → Prop} {Q : State → Prop} {a0 a1 a2 a3 a4 a5 a6 a7 a8 a9 a10 a11 a12 a13 a14 a15 a16 a17 a18 a19 a20 a21 : Nat} (C : gk_C p s m args meth c cX6_heaviest 6 (some .int) yX6_heaviest wsX6_heaviest false G A) {f_n : Int32} {f_weight : (Nat → Int32)} {x1 : Int32} {x2 : Int32} {x3 : Int32} {s0 : Int32} {f_keptN : Int32} {f_side : Int32} {f_rows : Int32} {yy : (Int32 × Int32) ⊕ (Int32)} (hm : m_X6_heaviest_J49 f_n f_weight x1 x2 x3 s0 = some yy) (kl : ∀ (x2 : Int32) (x3 : Int32), yy = .inl (x2, x3) → ∀ (H : Heap) (locs : List Loc) (ls : Array Slot), gk_H G A s [(a0, .inr (5, [.int f_n, .ref a1, .ref a2, .ref a3, .ref a4, .int f_keptN, .ref a5, .ref a6, .ref a7, .ref a8, .ref a9, .ref a10, .ref a11, .ref a12, .ref a13, .ref a14, .ref a15, .ref a16, .int f_side, .ref a17, .ref a18, .ref a19, .int f_rows, .ref a20, .ref a21])), (a3, gk_I G 6 f_weight)] H locs → lv_has ls 6 [(0, .ref a0), (1, .int x1), (2, .int x2), (3, .int x3)] → W p l e rm_X6_heaviest s m args below meth c H locs 0 0 Q (F0 m 4 ls [])) (kx : ∀ (x2 : Int32), yy = .inr x2 → ∀ (H : Heap) (locs : List Loc) (ls : Array Slot), gk_H G A s [(a0, .inr (5, [.int f_n, .ref a1, .ref a2, .ref a3, .ref a4, .int f_keptN, .ref a5, .ref a6, .ref a7, .ref a8, .ref a9, .ref a10, .ref a11, .ref a12, .ref a13, .ref a14, .ref a15, .ref a16, .int f_side, .ref a17, .ref a18, .ref a19, .int f_rows, .ref a20, .ref a21])), (a3, gk_I G 6 f_weight)] H locs → lv_has ls 6 [(2, .int x2)] → W p l e rm_X6_heaviest s m args below meth c H locs 0 0 Q (F0 m 106 ls [])) {H : Heap} {locs : List Loc} {ls : Array Slot} (h : gk_H G A s [(a0, .inr (5, [.int f_n, .ref a1, .ref a2, .ref a3, .ref a4, .int f_keptN, .ref a5, .ref a6, .ref a7, .ref a8, .ref a9, .ref a10, .ref a11, .ref a12, .ref a13, .ref a14, .ref a15, .ref a16, .int f_side, .ref a17, .ref a18, .ref a19, .int f_rows, .ref a20, .ref a21])), (a3, gk_I G 6 f_weight)] H locs) (hl : lv_has ls 6 [(0, .ref a0), (1, .int x1), (2, .int x2), (3, .int x3)]) : W p l e rm_X6_heaviest s m args below meth c H locs 0 0 Q (F0 m 49 ls [.int s0]) := by
  obtain ⟨hx, hb, hml, hr, hown, hnm, hts, hlk, hK, hSt, hA⟩ := id C
  obtain ⟨hP, hD, hS⟩ := h
  unfold m_X6_heaviest_J49 at hm
  refine lv_istore (lv' := [(4, .int s0), (0, .ref a0), (1, .int x1), (2, .int x2), (3, .int x3)]) hx hb dX6_heaviest_49 hl (by decide) rfl (fun ls hl => ?_)
  refine lv_iload_n hx hb dX6_heaviest_51 rfl (lv_at hl 3 rfl) ?_
  refine lv_iconst (v := -1) hx hb dX6_heaviest_52 (by decide) ?_
  refine lv_icmp_ne (tgt := 60) hx hb dX6_heaviest_53 (by decide) (fun c10 => ?_) (fun c10 => ?_)
  · have hm := gk_if c10 hm
    refine lv_aload_n hx hb dX6_heaviest_60 rfl (lv_at hl 1 rfl) ?_
    refine va_get (D := G.1) (cl := vwCl) (own := RX6) (ref := "ExchangeFamiliesModel") (ci := 5) (v := .ref a3) (C := RX6) (T := TX6) (N := 25) hx hb hts k_X6_heaviest_0 hown hK hP 0 rfl rfl 3 (by decide) (hts _ k_X6_heaviest_2) (fun _ h9 => h9) rfl dX6_heaviest_61 ?_
    refine lv_iload_n hx hb dX6_heaviest_64 rfl (lv_at hl 3 rfl) ?_
    obtain ⟨hi, hm⟩ := gk_ix_some hm
    refine va_iald hx hb hK hP 1 0 rfl rfl hi dX6_heaviest_65 ?_
    refine lv_if_ge (tgt := 79) hx hb dX6_heaviest_66 (by decide) (fun c11 => ?_) (fun c11 => ?_)
    · have hm := gk_it c11 hm
      refine lv_aload_n hx hb dX6_heaviest_79 rfl (lv_at hl 1 rfl) ?_
      refine va_get (D := G.1) (cl := vwCl) (own := RX6) (ref := "ExchangeFamiliesModel") (ci := 5) (v := .ref a3) (C := RX6) (T := TX6) (N := 25) hx hb hts k_X6_heaviest_0 hown hK hP 0 rfl rfl 3 (by decide) (hts _ k_X6_heaviest_2) (fun _ h9 => h9) rfl dX6_heaviest_80 ?_
      refine lv_iload_n hx hb dX6_heaviest_83 rfl (lv_at hl 3 rfl) ?_
      obtain ⟨hi, hm⟩ := gk_ix_some hm
      refine va_iald hx hb hK hP 1 0 rfl rfl hi dX6_heaviest_84 ?_
      exact w_X6_heaviest_J85 C hm kl kx ⟨hP, hD, hS⟩ (lv_sub hl [1, 2, 3, 4, 0] rfl)
    · have hm := gk_if c11 hm
      refine lv_aload_n hx hb dX6_heaviest_69 rfl (lv_at hl 1 rfl) ?_
      refine va_get (D := G.1) (cl := vwCl) (own := RX6) (ref := "ExchangeFamiliesModel") (ci := 5) (v := .ref a3) (C := RX6) (T := TX6) (N := 25) hx hb hts k_X6_heaviest_0 hown hK hP 0 rfl rfl 3 (by decide) (hts _ k_X6_heaviest_2) (fun _ h9 => h9) rfl dX6_heaviest_70 ?_
      refine lv_iload_n hx hb dX6_heaviest_73 rfl (lv_at hl 3 rfl) ?_
      obtain ⟨hi, hm⟩ := gk_ix_some hm
      refine va_iald hx hb hK hP 1 0 rfl rfl hi dX6_heaviest_74 ?_
      refine lv_ineg hx hb dX6_heaviest_75 ?_
      refine lv_goto (tgt := 85) hx hb dX6_heaviest_76 (by decide) ?_
      exact w_X6_heaviest_J85 C hm kl kx ⟨hP, hD, hS⟩ (lv_sub hl [1, 2, 3, 4, 0] rfl)
  · have hm := gk_it c10 hm
    refine lv_iconst (v := -1) hx hb dX6_heaviest_56 (by decide) ?_
    refine lv_goto (tgt := 85) hx hb dX6_heaviest_57 (by decide) ?_
    exact w_X6_heaviest_J85 C hm kl kx ⟨hP, hD, hS⟩ (lv_sub hl [1, 2, 3, 4, 0] rfl)
def m_X6_heaviest_B4 (f_n : Int32) (f_weight : (Nat → Int32)) (x1 : Int32) (x2 : Int32) (x3 : Int32) : Option ((Int32 × Int32) ⊕ (Int32)) := (if f_n ≤ x3 then some (.inr x2) else (if ((x1 >>> (x3 &&& 31)) &&& (1 : Int32)) = (1 : Int32) then some (.inl (x2, x3 + 1)) else gk_ix x3 6 ((if (0 : Int32) ≤ (f_weight x3.toNatClampNeg) then gk_ix x3 6 (m_X6_heaviest_J49 f_n f_weight x1 x2 x3 (f_weight x3.toNatClampNeg)) else gk_ix x3 6 (m_X6_heaviest_J49 f_n f_weight x1 x2 x3 (-(f_weight x3.toNatClampNeg)))))))
set_option maxRecDepth 100000 in
set_option maxHeartbeats 4000000 in
theorem w_X6_heaviest_B4 {p : Program} {l : Launch} {e : Env} {s : State} {m : MethodId} {args : Array Value} {below : List Frame} {meth : Method} {c : Code} {G : gk_G} {A : Nat → Prop} {Q : State → Prop} {a0 a1 a2 a3 a4 a5 a6 a7 a8 a9 a10 a11 a12 a13 a14 a15 a16 a17 a18 a19 a20 a21 : Nat} (C : gk_C p s m args meth c cX6_heaviest 6 (some .int) yX6_heaviest wsX6_heaviest false G A) {f_n : Int32} {f_weight : (Nat → Int32)} {x1 : Int32} {x2 : Int32} {x3 : Int32} {f_keptN : Int32} {f_side : Int32} {f_rows : Int32} {yy : (Int32 × Int32) ⊕ (Int32)} (hm : m_X6_heaviest_B4 f_n f_weight x1 x2 x3 = some yy) (kl : ∀ (x2 : Int32) (x3 : Int32), yy = .inl (x2, x3) → ∀ (H : Heap) (locs : List Loc) (ls : Array Slot), gk_H G A s [(a0, .inr (5, [.int f_n, .ref a1, .ref a2, .ref a3, .ref a4, .int f_keptN, .ref a5, .ref a6, .ref a7, .ref a8, .ref a9, .ref a10, .ref a11, .ref a12, .ref a13, .ref a14, .ref a15, .ref a16, .int f_side, .ref a17, .ref a18, .ref a19, .int f_rows, .ref a20, .ref a21])), (a3, gk_I G 6 f_weight)] H locs → lv_has ls 6 [(0, .ref a0), (1, .int x1), (2, .int x2), (3, .int x3)] → W p l e rm_X6_heaviest s m args below meth c H locs 0 0 Q (F0 m 4 ls [])) (kx : ∀ (x2 : Int32), yy = .inr x2 → ∀ (H : Heap) (locs : List Loc) (ls : Array Slot), gk_H G A s [(a0, .inr (5, [.int f_n, .ref a1, .ref a2, .ref a3, .ref a4, .int f_keptN, .ref a5, .ref a6, .ref a7, .ref a8, .ref a9, .ref a10, .ref a11, .ref a12, .ref a13, .ref a14, .ref a15, .ref a16, .int f_side, .ref a17, .ref a18, .ref a19, .int f_rows, .ref a20, .ref a21])), (a3, gk_I G 6 f_weight)] H locs → lv_has ls 6 [(2, .int x2)] → W p l e rm_X6_heaviest s m args below meth c H locs 0 0 Q (F0 m 106 ls [])) {H : Heap} {locs : List Loc} {ls : Array Slot} (h : gk_H G A s [(a0, .inr (5, [.int f_n, .ref a1, .ref a2, .ref a3, .ref a4, .int f_keptN, .ref a5, .ref a6, .ref a7, .ref a8, .ref a9, .ref a10, .ref a11, .ref a12, .ref a13, .ref a14, .ref a15, .ref a16, .int f_side, .ref a17, .ref a18, .ref a19, .int f_rows, .ref a20, .ref a21])), (a3, gk_I G 6 f_weight)] H locs) (hl : lv_has ls 6 [(0, .ref a0), (1, .int x1), (2, .int x2), (3, .int x3)]) : W p l e rm_X6_heaviest s m args below meth c H locs 0 0 Q (F0 m 4 ls []) := by
  obtain ⟨hx, hb, hml, hr, hown, hnm, hts, hlk, hK, hSt, hA⟩ := id C
  obtain ⟨hP, hD, hS⟩ := h
  unfold m_X6_heaviest_B4 at hm
  refine lv_iload_n hx hb dX6_heaviest_4 rfl (lv_at hl 3 rfl) ?_
  refine lv_aload_n hx hb dX6_heaviest_5 rfl (lv_at hl 0 rfl) ?_
  refine va_get (D := G.1) (cl := vwCl) (own := RX6) (ref := "ExchangeFamiliesModel") (ci := 5) (v := .int f_n) (C := RX6) (T := TX6) (N := 25) hx hb hts k_X6_heaviest_0 hown hK hP 0 rfl rfl 0 (by decide) (hts _ k_X6_heaviest_1) (fun _ h9 => h9) rfl dX6_heaviest_6 ?_
  refine lv_icmp_ge (tgt := 106) hx hb dX6_heaviest_9 (by decide) (fun c7 => ?_) (fun c7 => ?_)
  · have hm := gk_it c7 hm
    exact kx _ (Option.some.inj hm).symm _ _ _ ⟨hP, hD, hS⟩ (lv_sub hl [2] rfl)
  · have hm := gk_if c7 hm
    refine lv_iload_n hx hb dX6_heaviest_12 rfl (lv_at hl 1 rfl) ?_
    refine lv_iload_n hx hb dX6_heaviest_13 rfl (lv_at hl 3 rfl) ?_
    refine lv_ishr hx hb dX6_heaviest_14 ?_
    refine lv_iconst (v := 1) hx hb dX6_heaviest_15 (by decide) ?_
    refine lv_iand hx hb dX6_heaviest_16 ?_
    refine lv_iconst (v := 1) hx hb dX6_heaviest_17 (by decide) ?_
    refine lv_icmp_ne (tgt := 24) hx hb dX6_heaviest_18 (by decide) (fun c8 => ?_) (fun c8 => ?_)
    · have hm := gk_if c8 hm
      refine lv_aload_n hx hb dX6_heaviest_24 rfl (lv_at hl 0 rfl) ?_
      refine va_get (D := G.1) (cl := vwCl) (own := RX6) (ref := "ExchangeFamiliesModel") (ci := 5) (v := .ref a3) (C := RX6) (T := TX6) (N := 25) hx hb hts k_X6_heaviest_0 hown hK hP 0 rfl rfl 3 (by decide) (hts _ k_X6_heaviest_2) (fun _ h9 => h9) rfl dX6_heaviest_25 ?_
      refine lv_iload_n hx hb dX6_heaviest_28 rfl (lv_at hl 3 rfl) ?_
      obtain ⟨hi, hm⟩ := gk_ix_some hm
      refine va_iald hx hb hK hP 1 0 rfl rfl hi dX6_heaviest_29 ?_
      refine lv_if_ge (tgt := 43) hx hb dX6_heaviest_30 (by decide) (fun c9 => ?_) (fun c9 => ?_)
      · have hm := gk_it c9 hm
        refine lv_aload_n hx hb dX6_heaviest_43 rfl (lv_at hl 0 rfl) ?_
        refine va_get (D := G.1) (cl := vwCl) (own := RX6) (ref := "ExchangeFamiliesModel") (ci := 5) (v := .ref a3) (C := RX6) (T := TX6) (N := 25) hx hb hts k_X6_heaviest_0 hown hK hP 0 rfl rfl 3 (by decide) (hts _ k_X6_heaviest_2) (fun _ h9 => h9) rfl dX6_heaviest_44 ?_
        refine lv_iload_n hx hb dX6_heaviest_47 rfl (lv_at hl 3 rfl) ?_
        obtain ⟨hi, hm⟩ := gk_ix_some hm
        refine va_iald hx hb hK hP 1 0 rfl rfl hi dX6_heaviest_48 ?_
        exact w_X6_heaviest_J49 C hm kl kx ⟨hP, hD, hS⟩ (lv_sub hl [0, 1, 2, 3] rfl)
      · have hm := gk_if c9 hm
        refine lv_aload_n hx hb dX6_heaviest_33 rfl (lv_at hl 0 rfl) ?_
        refine va_get (D := G.1) (cl := vwCl) (own := RX6) (ref := "ExchangeFamiliesModel") (ci := 5) (v := .ref a3) (C := RX6) (T := TX6) (N := 25) hx hb hts k_X6_heaviest_0 hown hK hP 0 rfl rfl 3 (by decide) (hts _ k_X6_heaviest_2) (fun _ h9 => h9) rfl dX6_heaviest_34 ?_
        refine lv_iload_n hx hb dX6_heaviest_37 rfl (lv_at hl 3 rfl) ?_
        obtain ⟨hi, hm⟩ := gk_ix_some hm
        refine va_iald hx hb hK hP 1 0 rfl rfl hi dX6_heaviest_38 ?_
        refine lv_ineg hx hb dX6_heaviest_39 ?_
        refine lv_goto (tgt := 49) hx hb dX6_heaviest_40 (by decide) ?_
        exact w_X6_heaviest_J49 C hm kl kx ⟨hP, hD, hS⟩ (lv_sub hl [0, 1, 2, 3] rfl)
    · have hm := gk_it c8 hm
      refine lv_goto (tgt := 100) hx hb dX6_heaviest_21 (by decide) ?_
      refine lv_iinc (v := x3 + 1) (lv' := [(3, .int (x3 + 1)), (0, .ref a0), (1, .int x1), (2, .int x2)]) hx hb dX6_heaviest_100 hl (k := 3) rfl rfl (by decide) rfl (fun ls hl => ?_)
      refine lv_goto (tgt := 4) hx hb dX6_heaviest_103 (by decide) ?_
      exact kl _ _ (Option.some.inj hm).symm _ _ _ ⟨hP, hD, hS⟩ (lv_sub hl [1, 2, 3, 0] rfl)
set_option maxRecDepth 100000 in
set_option maxHeartbeats 4000000 in
theorem w_X6_heaviest_L4 {p : Program} {l : Launch} {e : Env} {s : State} {m : MethodId} {args : Array Value} {below : List Frame} {meth : Method} {c : Code} {G : gk_G} {A : Nat → Prop} {Q : State → Prop} {a0 a1 a2 a3 a4 a5 a6 a7 a8 a9 a10 a11 a12 a13 a14 a15 a16 a17 a18 a19 a20 a21 : Nat} (C : gk_C p s m args meth c cX6_heaviest 6 (some .int) yX6_heaviest wsX6_heaviest false G A) {f_n : Int32} {f_weight : (Nat → Int32)} {x1 : Int32} {x2 : Int32} {x3 : Int32} {f_keptN : Int32} {f_side : Int32} {f_rows : Int32} {k : Nat} {e_x2 : Int32} (hm : gk_lp (fun z => m_X6_heaviest_B4 f_n f_weight x1 z.1 z.2) k (x2, x3) = some e_x2) (kx : ∀ (H : Heap) (locs : List Loc) (ls : Array Slot), gk_H G A s [(a0, .inr (5, [.int f_n, .ref a1, .ref a2, .ref a3, .ref a4, .int f_keptN, .ref a5, .ref a6, .ref a7, .ref a8, .ref a9, .ref a10, .ref a11, .ref a12, .ref a13, .ref a14, .ref a15, .ref a16, .int f_side, .ref a17, .ref a18, .ref a19, .int f_rows, .ref a20, .ref a21])), (a3, gk_I G 6 f_weight)] H locs → lv_has ls 6 [(2, .int e_x2)] → W p l e rm_X6_heaviest s m args below meth c H locs 0 0 Q (F0 m 106 ls [])) {H : Heap} {locs : List Loc} {ls : Array Slot} (h : gk_H G A s [(a0, .inr (5, [.int f_n, .ref a1, .ref a2, .ref a3, .ref a4, .int f_keptN, .ref a5, .ref a6, .ref a7, .ref a8, .ref a9, .ref a10, .ref a11, .ref a12, .ref a13, .ref a14, .ref a15, .ref a16, .int f_side, .ref a17, .ref a18, .ref a19, .int f_rows, .ref a20, .ref a21])), (a3, gk_I G 6 f_weight)] H locs) (hl : lv_has ls 6 [(0, .ref a0), (1, .int x1), (2, .int x2), (3, .int x3)]) : W p l e rm_X6_heaviest s m args below meth c H locs 0 0 Q (F0 m 4 ls []) :=
  gk_lp_some (P := fun z => ∀ (H : Heap) (locs : List Loc) (ls : Array Slot), gk_H G A s [(a0, .inr (5, [.int f_n, .ref a1, .ref a2, .ref a3, .ref a4, .int f_keptN, .ref a5, .ref a6, .ref a7, .ref a8, .ref a9, .ref a10, .ref a11, .ref a12, .ref a13, .ref a14, .ref a15, .ref a16, .int f_side, .ref a17, .ref a18, .ref a19, .int f_rows, .ref a20, .ref a21])), (a3, gk_I G 6 f_weight)] H locs → lv_has ls 6 [(0, .ref a0), (1, .int x1), (2, .int z.1), (3, .int z.2)] → W p l e rm_X6_heaviest s m args below meth c H locs 0 0 Q (F0 m 4 ls [])) (E := fun r => (∀ (x2 : Int32), r = x2 → ∀ (H : Heap) (locs : List Loc) (ls : Array Slot), gk_H G A s [(a0, .inr (5, [.int f_n, .ref a1, .ref a2, .ref a3, .ref a4, .int f_keptN, .ref a5, .ref a6, .ref a7, .ref a8, .ref a9, .ref a10, .ref a11, .ref a12, .ref a13, .ref a14, .ref a15, .ref a16, .int f_side, .ref a17, .ref a18, .ref a19, .int f_rows, .ref a20, .ref a21])), (a3, gk_I G 6 f_weight)] H locs → lv_has ls 6 [(2, .int x2)] → W p l e rm_X6_heaviest s m args below meth c H locs 0 0 Q (F0 m 106 ls []))) (fun z x hf kl ke H locs ls h hl => w_X6_heaviest_B4 C hf (fun v0 v1 ez => kl (v0, v1) ez) (fun v0 ez => ke _ ez v0 rfl) h hl) k (x2, x3) _ hm (fun v0 ez => (by cases ez; exact kx)) _ _ _ h hl
def m_X6_heaviest_0 (f_n : Int32) (f_weight : (Nat → Int32)) (x1 : Int32) : Option (Int32) := gk_bd1 (gk_lp (fun z => m_X6_heaviest_B4 f_n f_weight x1 z.1 z.2) gk_fu ((-1 : Int32), (0 : Int32))) (fun e13 => some e13)
set_option maxRecDepth 100000 in
set_option maxHeartbeats 4000000 in
theorem w_X6_heaviest_0 {p : Program} {l : Launch} {e : Env} {s : State} {m : MethodId} {args : Array Value} {below : List Frame} {meth : Method} {c : Code} {G : gk_G} {A : Nat → Prop} {Q : State → Prop} {a0 a1 a2 a3 a4 a5 a6 a7 a8 a9 a10 a11 a12 a13 a14 a15 a16 a17 a18 a19 a20 a21 : Nat} (C : gk_C p s m args meth c cX6_heaviest 6 (some .int) yX6_heaviest wsX6_heaviest false G A) {f_n : Int32} {f_weight : (Nat → Int32)} {x1 : Int32} {f_keptN : Int32} {f_side : Int32} {f_rows : Int32} {yy : Int32} (hm : m_X6_heaviest_0 f_n f_weight x1 = some yy) (kr : ∀ (rv : Int32), yy = rv → Q = MQ below (gk_Q G (some (.int rv)) [(a0, .inr (5, [.int f_n, .ref a1, .ref a2, .ref a3, .ref a4, .int f_keptN, .ref a5, .ref a6, .ref a7, .ref a8, .ref a9, .ref a10, .ref a11, .ref a12, .ref a13, .ref a14, .ref a15, .ref a16, .int f_side, .ref a17, .ref a18, .ref a19, .int f_rows, .ref a20, .ref a21])), (a3, gk_I G 6 f_weight)] A) args s 0 0 A) {H : Heap} {locs : List Loc} {ls : Array Slot} (h : gk_H G A s [(a0, .inr (5, [.int f_n, .ref a1, .ref a2, .ref a3, .ref a4, .int f_keptN, .ref a5, .ref a6, .ref a7, .ref a8, .ref a9, .ref a10, .ref a11, .ref a12, .ref a13, .ref a14, .ref a15, .ref a16, .int f_side, .ref a17, .ref a18, .ref a19, .int f_rows, .ref a20, .ref a21])), (a3, gk_I G 6 f_weight)] H locs) (hl : lv_has ls 6 [(0, .ref a0), (1, .int x1)]) : W p l e rm_X6_heaviest s m args below meth c H locs 0 0 Q (F0 m 0 ls []) := by
  obtain ⟨hx, hb, hml, hr, hown, hnm, hts, hlk, hK, hSt, hA⟩ := id C
  obtain ⟨hP, hD, hS⟩ := h
  unfold m_X6_heaviest_0 at hm
  refine lv_iconst (v := -1) hx hb dX6_heaviest_0 (by decide) ?_
  refine lv_istore_n (lv' := [(2, .int (-1 : Int32)), (0, .ref a0), (1, .int x1)]) hx hb dX6_heaviest_1 rfl hl (by decide) rfl (fun ls hl => ?_)
  refine lv_iconst (v := 0) hx hb dX6_heaviest_2 (by decide) ?_
  refine lv_istore_n (lv' := [(3, .int (0 : Int32)), (2, .int (-1 : Int32)), (0, .ref a0), (1, .int x1)]) hx hb dX6_heaviest_3 rfl hl (by decide) rfl (fun ls hl => ?_)
  obtain ⟨e13, hq, hm⟩ := gk_bd1_some hm
  refine w_X6_heaviest_L4 C hq (fun H locs ls h hl => ?_) ⟨hP, hD, hS⟩ (lv_sub hl [2, 3, 1, 0] rfl)
  obtain ⟨hP, hD, hS⟩ := h
  refine lv_iload_n hx hb dX6_heaviest_106 rfl (lv_at hl 0 rfl) ?_
  rw [kr _ (Option.some.inj hm).symm]
  exact gk_iret C ⟨hP, hD, hS⟩ dX6_heaviest_107
def m_X6_heaviest (f_n : Int32) (f_weight : (Nat → Int32)) (x1 : Int32) : Option (Int32) := m_X6_heaviest_0 f_n f_weight x1
theorem c_X6_heaviest (l : Launch) (G : gk_G) (a0 a1 a2 a3 a4 a5 a6 a7 a8 a9 a10 a11 a12 a13 a14 a15 a16 a17 a18 a19 a20 a21 : Nat) (f_n : Int32) (f_keptN : Int32) (f_side : Int32) (f_rows : Int32) (f_weight : (Nat → Int32)) (x1 : Int32) {rv : Int32} (hm : m_X6_heaviest f_n f_weight x1 = some rv) : gk_M l yX6_heaviest wsX6_heaviest rm_X6_heaviest false G [.ref a0, .int x1] [(a0, .inr (5, [.int f_n, .ref a1, .ref a2, .ref a3, .ref a4, .int f_keptN, .ref a5, .ref a6, .ref a7, .ref a8, .ref a9, .ref a10, .ref a11, .ref a12, .ref a13, .ref a14, .ref a15, .ref a16, .int f_side, .ref a17, .ref a18, .ref a19, .int f_rows, .ref a20, .ref a21])), (a3, gk_I G 6 f_weight)] (some (.int rv)) [(a0, .inr (5, [.int f_n, .ref a1, .ref a2, .ref a3, .ref a4, .int f_keptN, .ref a5, .ref a6, .ref a7, .ref a8, .ref a9, .ref a10, .ref a11, .ref a12, .ref a13, .ref a14, .ref a15, .ref a16, .int f_side, .ref a17, .ref a18, .ref a19, .int f_rows, .ref a20, .ref a21])), (a3, gk_I G 6 f_weight)] :=
  gk_of (by decide) rfl (Nat.le_of_ble_eq_true rfl) (fun p e s m below meth c A ls C h hl => w_X6_heaviest_0 C hm (fun v0 ez => by cases ez; rfl) h (show lv_has ls 6 [(0, .ref a0), (1, .int x1)] from hl))

/-! ===== ExchangeFamiliesModel.greed(I)I ===== -/
abbrev rm_X6_greed : Room := { frames := 5, cells := 0, slots := 0, locals := 238 }
theorem k_X6_greed_0 : ∀ w ∈ u_ws RX6 TX6 25, w ∈ wsX6_greed := by decide +kernel
theorem k_X6_greed_1 : Cond.fieldLink RX6 19 "ExchangeFamiliesModel" "kind" "[I" ∈ wsX6_greed := by decide +kernel
theorem k_X6_greed_2 : Cond.fieldLink RX6 15 "ExchangeFamiliesModel" "members" "[J" ∈ wsX6_greed := by decide +kernel
theorem k_X6_greed_3 : Cond.fieldLink RX6 9 "ExchangeFamiliesModel" "n" "I" ∈ wsX6_greed := by decide +kernel
theorem k_X6_greed_4 : Cond.fieldLink RX6 23 "ExchangeFamiliesModel" "weight" "[I" ∈ wsX6_greed := by decide +kernel
def m_X6_greed_J108 (f_n : Int32) (f_members : (Nat → Int64)) (f_kind : (Nat → Int32)) (f_weight : (Nat → Int32)) (x1 : Int32) (x2 : Int32) (x4 : Int32) (x6 : Int32) (s0 : Int32) : Option ((Int32 × Int32 × Int32) ⊕ (Int32)) := gk_bd1 (m_X6_may f_n f_members x1 x2 x6) (fun r16 => (if r16 = (0 : Int32) then some (.inl (x2, s0, x4 + 1)) else some (.inl (x2, x6, x4 + 1))))
set_option maxRecDepth 100000 in
set_option maxHeartbeats 4000000 in
theorem w_X6_greed_J108 {p : Program} {l : Launch} {e : Env} {s : State} {m : MethodId} {args : Array Value} {below : List Frame} {meth : Method} {c : Code} {G : gk_G} {A : Nat → Prop} {Q : State → Prop} {a0 a1 a2 a3 a4 a5 a6 a7 a8 a9 a10 a11 a12 a13 a14 a15 a16 a17 a18 a19 a20 a21 : Nat} (C : gk_C p s m args meth c cX6_greed 8 (some .int) yX6_greed wsX6_greed false G A) {f_n : Int32} {f_members : (Nat → Int64)} {f_kind : (Nat → Int32)} {f_weight : (Nat → Int32)} {x1 : Int32} {x2 : Int32} {x4 : Int32} {x6 : Int32} {s0 : Int32} {f_keptN : Int32} {f_side : Int32} {f_rows : Int32} {yy : (Int32 × Int32 × Int32) ⊕ (Int32)} (hm : m_X6_greed_J108 f_n f_members f_kind f_weight x1 x2 x4 x6 s0 = some yy) (kl : ∀ (x2 : Int32) (x3 : Int32) (x4 : Int32), yy = .inl (x2, x3, x4) → ∀ (H : Heap) (locs : List Loc) (ls : Array Slot), gk_H G A s [(a0, .inr (5, [.int f_n, .ref a1, .ref a2, .ref a3, .ref a4, .int f_keptN, .ref a5, .ref a6, .ref a7, .ref a8, .ref a9, .ref a10, .ref a11, .ref a12, .ref a13, .ref a14, .ref a15, .ref a16, .int f_side, .ref a17, .ref a18, .ref a19, .int f_rows, .ref a20, .ref a21])), (a1, gk_J G 6 f_members), (a2, gk_I G 6 f_kind), (a3, gk_I G 6 f_weight)] H locs → lv_has ls 8 [(0, .ref a0), (1, .int x1), (2, .int x2), (3, .int x3), (4, .int x4)] → W p l e rm_X6_greed s m args below meth c H locs 0 0 Q (F0 m 43 ls [])) (kx : ∀ (x3 : Int32), yy = .inr x3 → ∀ (H : Heap) (locs : List Loc) (ls : Array Slot), gk_H G A s [(a0, .inr (5, [.int f_n, .ref a1, .ref a2, .ref a3, .ref a4, .int f_keptN, .ref a5, .ref a6, .ref a7, .ref a8, .ref a9, .ref a10, .ref a11, .ref a12, .ref a13, .ref a14, .ref a15, .ref a16, .int f_side, .ref a17, .ref a18, .ref a19, .int f_rows, .ref a20, .ref a21])), (a1, gk_J G 6 f_members), (a2, gk_I G 6 f_kind), (a3, gk_I G 6 f_weight)] H locs → lv_has ls 8 [(3, .int x3)] → W p l e rm_X6_greed s m args below meth c H locs 0 0 Q (F0 m 135 ls [])) {H : Heap} {locs : List Loc} {ls : Array Slot} (h : gk_H G A s [(a0, .inr (5, [.int f_n, .ref a1, .ref a2, .ref a3, .ref a4, .int f_keptN, .ref a5, .ref a6, .ref a7, .ref a8, .ref a9, .ref a10, .ref a11, .ref a12, .ref a13, .ref a14, .ref a15, .ref a16, .int f_side, .ref a17, .ref a18, .ref a19, .int f_rows, .ref a20, .ref a21])), (a1, gk_J G 6 f_members), (a2, gk_I G 6 f_kind), (a3, gk_I G 6 f_weight)] H locs) (hl : lv_has ls 8 [(0, .ref a0), (1, .int x1), (2, .int x2), (4, .int x4), (6, .int x6)]) : W p l e rm_X6_greed s m args below meth c H locs 0 0 Q (F0 m 108 ls [.int s0]) := by
  obtain ⟨hx, hb, hml, hr, hown, hnm, hts, hlk, hK, hSt, hA⟩ := id C
  obtain ⟨hP, hD, hS⟩ := h
  unfold m_X6_greed_J108 at hm
  refine lv_istore (lv' := [(7, .int s0), (0, .ref a0), (1, .int x1), (2, .int x2), (4, .int x4), (6, .int x6)]) hx hb dX6_greed_108 hl (by decide) rfl (fun ls hl => ?_)
  refine lv_aload_n hx hb dX6_greed_110 rfl (lv_at hl 1 rfl) ?_
  refine lv_iload_n hx hb dX6_greed_111 rfl (lv_at hl 2 rfl) ?_
  refine lv_iload_n hx hb dX6_greed_112 rfl (lv_at hl 3 rfl) ?_
  refine lv_iload hx hb dX6_greed_113 (lv_at hl 5 rfl) ?_
  obtain ⟨r16, hq, hm⟩ := gk_bd1_some hm
  refine gk_callV (n := 3) (bytes := cX6_may) (maxL := 5) (ret := (some .boolean)) (Cn := RX6) (T := TX6) (N := 25) [(a2, gk_I G 6 f_kind), (a3, gk_I G 6 f_weight)] [(a0, .inr (5, [.int f_n, .ref a1, .ref a2, .ref a3, .ref a4, .int f_keptN, .ref a5, .ref a6, .ref a7, .ref a8, .ref a9, .ref a10, .ref a11, .ref a12, .ref a13, .ref a14, .ref a15, .ref a16, .int f_side, .ref a17, .ref a18, .ref a19, .int f_rows, .ref a20, .ref a21])), (a1, gk_J G 6 f_members), (a2, gk_I G 6 f_kind), (a3, gk_I G 6 f_weight)] [] C ⟨hP, hD, hS⟩ (c_X6_may l G a0 a1 a2 a3 a4 a5 a6 a7 a8 a9 a10 a11 a12 a13 a14 a15 a16 a17 a18 a19 a20 a21 f_n f_keptN f_side f_rows f_members x1 x2 x6 hq) gX6_greed_X6_may dX6_greed_115 hl.1 [0, 1] [2, 3] [2, 3, 0, 1] rfl rfl ⟨rfl, rfl⟩ ⟨Nat.le_of_ble_eq_true rfl, Nat.le_of_ble_eq_true rfl⟩ ⟨rfl, by decide +kernel, by decide +kernel, by decide +kernel⟩ rfl (fun h => by cases h) (Nat.le_of_ble_eq_true rfl) rfl rfl rfl rfl (by decide) rfl rfl (fun H locs h => ?_)
  obtain ⟨hP, hD, hS⟩ := h
  refine lv_if_eq (tgt := 126) hx hb dX6_greed_118 (by decide) (fun c17 => ?_) (fun c17 => ?_)
  · have hm := gk_it c17 hm
    refine lv_iload hx hb dX6_greed_126 (lv_at hl 0 rfl) ?_
    refine lv_istore_n (lv' := [(3, .int s0), (7, .int s0), (0, .ref a0), (1, .int x1), (2, .int x2), (4, .int x4), (6, .int x6)]) hx hb dX6_greed_128 rfl hl (by decide) rfl (fun ls hl => ?_)
    refine lv_iinc (v := x4 + 1) (lv' := [(4, .int (x4 + 1)), (3, .int s0), (7, .int s0), (0, .ref a0), (1, .int x1), (2, .int x2), (6, .int x6)]) hx hb dX6_greed_129 hl (k := 5) rfl rfl (by decide) rfl (fun ls hl => ?_)
    refine lv_goto (tgt := 43) hx hb dX6_greed_132 (by decide) ?_
    exact kl _ _ _ (Option.some.inj hm).symm _ _ _ ⟨hP, hD, hS⟩ (lv_sub hl [3, 4, 5, 1, 0] rfl)
  · have hm := gk_if c17 hm
    refine lv_iload hx hb dX6_greed_121 (lv_at hl 5 rfl) ?_
    refine lv_goto (tgt := 128) hx hb dX6_greed_123 (by decide) ?_
    refine lv_istore_n (lv' := [(3, .int x6), (7, .int s0), (0, .ref a0), (1, .int x1), (2, .int x2), (4, .int x4), (6, .int x6)]) hx hb dX6_greed_128 rfl hl (by decide) rfl (fun ls hl => ?_)
    refine lv_iinc (v := x4 + 1) (lv' := [(4, .int (x4 + 1)), (3, .int x6), (7, .int s0), (0, .ref a0), (1, .int x1), (2, .int x2), (6, .int x6)]) hx hb dX6_greed_129 hl (k := 5) rfl rfl (by decide) rfl (fun ls hl => ?_)
    refine lv_goto (tgt := 43) hx hb dX6_greed_132 (by decide) ?_
    exact kl _ _ _ (Option.some.inj hm).symm _ _ _ ⟨hP, hD, hS⟩ (lv_sub hl [3, 4, 5, 1, 0] rfl)
def m_X6_greed_J86 (f_n : Int32) (f_members : (Nat → Int64)) (f_kind : (Nat → Int32)) (f_weight : (Nat → Int32)) (x1 : Int32) (x2 : Int32) (x3 : Int32) (x4 : Int32) (x5 : Int32) (s0 : Int32) : Option ((Int32 × Int32 × Int32) ⊕ (Int32)) := gk_ix x5 6 ((if (f_weight x5.toNatClampNeg) < (0 : Int32) then m_X6_greed_J108 f_n f_members f_kind f_weight x1 x2 x4 s0 (x3 ||| ((1 : Int32) <<< (x5 &&& 31))) else m_X6_greed_J108 f_n f_members f_kind f_weight x1 x2 x4 s0 x3))
set_option maxRecDepth 100000 in
set_option maxHeartbeats 4000000 in
theorem w_X6_greed_J86 {p : Program} {l : Launch} {e : Env} {s : State} {m : MethodId} {args : Array Value} {below : List Frame} {meth : Method} {c : Code} {G : gk_G} {A : Nat → Prop} {Q : State → Prop} {a0 a1 a2 a3 a4 a5 a6 a7 a8 a9 a10 a11 a12 a13 a14 a15 a16 a17 a18 a19 a20 a21 : Nat} (C : gk_C p s m args meth c cX6_greed 8 (some .int) yX6_greed wsX6_greed false G A) {f_n : Int32} {f_members : (Nat → Int64)} {f_kind : (Nat → Int32)} {f_weight : (Nat → Int32)} {x1 : Int32} {x2 : Int32} {x3 : Int32} {x4 : Int32} {x5 : Int32} {s0 : Int32} {f_keptN : Int32} {f_side : Int32} {f_rows : Int32} {yy : (Int32 × Int32 × Int32) ⊕ (Int32)} (hm : m_X6_greed_J86 f_n f_members f_kind f_weight x1 x2 x3 x4 x5 s0 = some yy) (kl : ∀ (x2 : Int32) (x3 : Int32) (x4 : Int32), yy = .inl (x2, x3, x4) → ∀ (H : Heap) (locs : List Loc) (ls : Array Slot), gk_H G A s [(a0, .inr (5, [.int f_n, .ref a1, .ref a2, .ref a3, .ref a4, .int f_keptN, .ref a5, .ref a6, .ref a7, .ref a8, .ref a9, .ref a10, .ref a11, .ref a12, .ref a13, .ref a14, .ref a15, .ref a16, .int f_side, .ref a17, .ref a18, .ref a19, .int f_rows, .ref a20, .ref a21])), (a1, gk_J G 6 f_members), (a2, gk_I G 6 f_kind), (a3, gk_I G 6 f_weight)] H locs → lv_has ls 8 [(0, .ref a0), (1, .int x1), (2, .int x2), (3, .int x3), (4, .int x4)] → W p l e rm_X6_greed s m args below meth c H locs 0 0 Q (F0 m 43 ls [])) (kx : ∀ (x3 : Int32), yy = .inr x3 → ∀ (H : Heap) (locs : List Loc) (ls : Array Slot), gk_H G A s [(a0, .inr (5, [.int f_n, .ref a1, .ref a2, .ref a3, .ref a4, .int f_keptN, .ref a5, .ref a6, .ref a7, .ref a8, .ref a9, .ref a10, .ref a11, .ref a12, .ref a13, .ref a14, .ref a15, .ref a16, .int f_side, .ref a17, .ref a18, .ref a19, .int f_rows, .ref a20, .ref a21])), (a1, gk_J G 6 f_members), (a2, gk_I G 6 f_kind), (a3, gk_I G 6 f_weight)] H locs → lv_has ls 8 [(3, .int x3)] → W p l e rm_X6_greed s m args below meth c H locs 0 0 Q (F0 m 135 ls [])) {H : Heap} {locs : List Loc} {ls : Array Slot} (h : gk_H G A s [(a0, .inr (5, [.int f_n, .ref a1, .ref a2, .ref a3, .ref a4, .int f_keptN, .ref a5, .ref a6, .ref a7, .ref a8, .ref a9, .ref a10, .ref a11, .ref a12, .ref a13, .ref a14, .ref a15, .ref a16, .int f_side, .ref a17, .ref a18, .ref a19, .int f_rows, .ref a20, .ref a21])), (a1, gk_J G 6 f_members), (a2, gk_I G 6 f_kind), (a3, gk_I G 6 f_weight)] H locs) (hl : lv_has ls 8 [(0, .ref a0), (1, .int x1), (2, .int x2), (3, .int x3), (4, .int x4), (5, .int x5)]) : W p l e rm_X6_greed s m args below meth c H locs 0 0 Q (F0 m 86 ls [.int s0]) := by
  obtain ⟨hx, hb, hml, hr, hown, hnm, hts, hlk, hK, hSt, hA⟩ := id C
  obtain ⟨hP, hD, hS⟩ := h
  unfold m_X6_greed_J86 at hm
  refine lv_istore (lv' := [(6, .int s0), (0, .ref a0), (1, .int x1), (2, .int x2), (3, .int x3), (4, .int x4), (5, .int x5)]) hx hb dX6_greed_86 hl (by decide) rfl (fun ls hl => ?_)
  refine lv_aload_n hx hb dX6_greed_88 rfl (lv_at hl 1 rfl) ?_
  refine va_get (D := G.1) (cl := vwCl) (own := RX6) (ref := "ExchangeFamiliesModel") (ci := 5) (v := .ref a3) (C := RX6) (T := TX6) (N := 25) hx hb hts k_X6_greed_0 hown hK hP 0 rfl rfl 3 (by decide) (hts _ k_X6_greed_4) (fun _ h9 => h9) rfl dX6_greed_89 ?_
  refine lv_iload hx hb dX6_greed_92 (lv_at hl 6 rfl) ?_
  obtain ⟨hi, hm⟩ := gk_ix_some hm
  refine va_iald hx hb hK hP 3 0 rfl rfl hi dX6_greed_94 ?_
  refine lv_if_lt (tgt := 102) hx hb dX6_greed_95 (by decide) (fun c15 => ?_) (fun c15 => ?_)
  · have hm := gk_it c15 hm
    refine lv_iload_n hx hb dX6_greed_102 rfl (lv_at hl 4 rfl) ?_
    refine lv_iconst (v := 1) hx hb dX6_greed_103 (by decide) ?_
    refine lv_iload hx hb dX6_greed_104 (lv_at hl 6 rfl) ?_
    refine lv_ishl hx hb dX6_greed_106 ?_
    refine lv_ior hx hb dX6_greed_107 ?_
    exact w_X6_greed_J108 C hm kl kx ⟨hP, hD, hS⟩ (lv_sub hl [1, 2, 3, 5, 0] rfl)
  · have hm := gk_if c15 hm
    refine lv_iload_n hx hb dX6_greed_98 rfl (lv_at hl 4 rfl) ?_
    refine lv_goto (tgt := 108) hx hb dX6_greed_99 (by decide) ?_
    exact w_X6_greed_J108 C hm kl kx ⟨hP, hD, hS⟩ (lv_sub hl [1, 2, 3, 5, 0] rfl)
def m_X6_greed_B43 (f_n : Int32) (f_members : (Nat → Int64)) (f_kind : (Nat → Int32)) (f_weight : (Nat → Int32)) (x1 : Int32) (x2 : Int32) (x3 : Int32) (x4 : Int32) : Option ((Int32 × Int32 × Int32) ⊕ (Int32)) := (if f_n ≤ x4 then some (.inr x3) else gk_bd1 (m_X6_heaviest f_n f_weight x2) (fun r13 => gk_ix r13 6 ((if (f_weight r13.toNatClampNeg) < (0 : Int32) then m_X6_greed_J86 f_n f_members f_kind f_weight x1 (x2 ||| ((1 : Int32) <<< (r13 &&& 31))) x3 x4 r13 x3 else m_X6_greed_J86 f_n f_members f_kind f_weight x1 (x2 ||| ((1 : Int32) <<< (r13 &&& 31))) x3 x4 r13 (x3 ||| ((1 : Int32) <<< (r13 &&& 31)))))))
set_option maxRecDepth 100000 in
set_option maxHeartbeats 4000000 in
theorem w_X6_greed_B43 {p : Program} {l : Launch} {e : Env} {s : State} {m : MethodId} {args : Array Value} {below : List Frame} {meth : Method} {c : Code} {G : gk_G} {A : Nat → Prop} {Q : State → Prop} {a0 a1 a2 a3 a4 a5 a6 a7 a8 a9 a10 a11 a12 a13 a14 a15 a16 a17 a18 a19 a20 a21 : Nat} (C : gk_C p s m args meth c cX6_greed 8 (some .int) yX6_greed wsX6_greed false G A) {f_n : Int32} {f_members : (Nat → Int64)} {f_kind : (Nat → Int32)} {f_weight : (Nat → Int32)} {x1 : Int32} {x2 : Int32} {x3 : Int32} {x4 : Int32} {f_keptN : Int32} {f_side : Int32} {f_rows : Int32} {yy : (Int32 × Int32 × Int32) ⊕ (Int32)} (hm : m_X6_greed_B43 f_n f_members f_kind f_weight x1 x2 x3 x4 = some yy) (kl : ∀ (x2 : Int32) (x3 : Int32) (x4 : Int32), yy = .inl (x2, x3, x4) → ∀ (H : Heap) (locs : List Loc) (ls : Array Slot), gk_H G A s [(a0, .inr (5, [.int f_n, .ref a1, .ref a2, .ref a3, .ref a4, .int f_keptN, .ref a5, .ref a6, .ref a7, .ref a8, .ref a9, .ref a10, .ref a11, .ref a12, .ref a13, .ref a14, .ref a15, .ref a16, .int f_side, .ref a17, .ref a18, .ref a19, .int f_rows, .ref a20, .ref a21])), (a1, gk_J G 6 f_members), (a2, gk_I G 6 f_kind), (a3, gk_I G 6 f_weight)] H locs → lv_has ls 8 [(0, .ref a0), (1, .int x1), (2, .int x2), (3, .int x3), (4, .int x4)] → W p l e rm_X6_greed s m args below meth c H locs 0 0 Q (F0 m 43 ls [])) (kx : ∀ (x3 : Int32), yy = .inr x3 → ∀ (H : Heap) (locs : List Loc) (ls : Array Slot), gk_H G A s [(a0, .inr (5, [.int f_n, .ref a1, .ref a2, .ref a3, .ref a4, .int f_keptN, .ref a5, .ref a6, .ref a7, .ref a8, .ref a9, .ref a10, .ref a11, .ref a12, .ref a13, .ref a14, .ref a15, .ref a16, .int f_side, .ref a17, .ref a18, .ref a19, .int f_rows, .ref a20, .ref a21])), (a1, gk_J G 6 f_members), (a2, gk_I G 6 f_kind), (a3, gk_I G 6 f_weight)] H locs → lv_has ls 8 [(3, .int x3)] → W p l e rm_X6_greed s m args below meth c H locs 0 0 Q (F0 m 135 ls [])) {H : Heap} {locs : List Loc} {ls : Array Slot} (h : gk_H G A s [(a0, .inr (5, [.int f_n, .ref a1, .ref a2, .ref a3, .ref a4, .int f_keptN, .ref a5, .ref a6, .ref a7, .ref a8, .ref a9, .ref a10, .ref a11, .ref a12, .ref a13, .ref a14, .ref a15, .ref a16, .int f_side, .ref a17, .ref a18, .ref a19, .int f_rows, .ref a20, .ref a21])), (a1, gk_J G 6 f_members), (a2, gk_I G 6 f_kind), (a3, gk_I G 6 f_weight)] H locs) (hl : lv_has ls 8 [(0, .ref a0), (1, .int x1), (2, .int x2), (3, .int x3), (4, .int x4)]) : W p l e rm_X6_greed s m args below meth c H locs 0 0 Q (F0 m 43 ls []) := by
  obtain ⟨hx, hb, hml, hr, hown, hnm, hts, hlk, hK, hSt, hA⟩ := id C
  obtain ⟨hP, hD, hS⟩ := h
  unfold m_X6_greed_B43 at hm
  refine lv_iload hx hb dX6_greed_43 (lv_at hl 4 rfl) ?_
  refine lv_aload_n hx hb dX6_greed_45 rfl (lv_at hl 0 rfl) ?_
  refine va_get (D := G.1) (cl := vwCl) (own := RX6) (ref := "ExchangeFamiliesModel") (ci := 5) (v := .int f_n) (C := RX6) (T := TX6) (N := 25) hx hb hts k_X6_greed_0 hown hK hP 0 rfl rfl 0 (by decide) (hts _ k_X6_greed_3) (fun _ h9 => h9) rfl dX6_greed_46 ?_
  refine lv_icmp_ge (tgt := 135) hx hb dX6_greed_49 (by decide) (fun c12 => ?_) (fun c12 => ?_)
  · have hm := gk_it c12 hm
    exact kx _ (Option.some.inj hm).symm _ _ _ ⟨hP, hD, hS⟩ (lv_sub hl [3] rfl)
  · have hm := gk_if c12 hm
    refine lv_aload_n hx hb dX6_greed_52 rfl (lv_at hl 0 rfl) ?_
    refine lv_iload_n hx hb dX6_greed_53 rfl (lv_at hl 2 rfl) ?_
    obtain ⟨r13, hq, hm⟩ := gk_bd1_some hm
    refine gk_callV (n := 1) (bytes := cX6_heaviest) (maxL := 6) (ret := (some .int)) (Cn := RX6) (T := TX6) (N := 25) [(a1, gk_J G 6 f_members), (a2, gk_I G 6 f_kind)] [(a0, .inr (5, [.int f_n, .ref a1, .ref a2, .ref a3, .ref a4, .int f_keptN, .ref a5, .ref a6, .ref a7, .ref a8, .ref a9, .ref a10, .ref a11, .ref a12, .ref a13, .ref a14, .ref a15, .ref a16, .int f_side, .ref a17, .ref a18, .ref a19, .int f_rows, .ref a20, .ref a21])), (a1, gk_J G 6 f_members), (a2, gk_I G 6 f_kind), (a3, gk_I G 6 f_weight)] [] C ⟨hP, hD, hS⟩ (c_X6_heaviest l G a0 a1 a2 a3 a4 a5 a6 a7 a8 a9 a10 a11 a12 a13 a14 a15 a16 a17 a18 a19 a20 a21 f_n f_keptN f_side f_rows f_weight x2 hq) gX6_greed_X6_heaviest dX6_greed_54 hl.1 [0, 3] [1, 2] [2, 0, 1, 3] rfl rfl ⟨rfl, rfl⟩ ⟨Nat.le_of_ble_eq_true rfl, Nat.le_of_ble_eq_true rfl⟩ ⟨rfl, by decide +kernel, by decide +kernel, by decide +kernel⟩ rfl (fun h => by cases h) (Nat.le_of_ble_eq_true rfl) rfl rfl rfl rfl (by decide) rfl rfl (fun H locs h => ?_)
    obtain ⟨hP, hD, hS⟩ := h
    refine lv_istore (lv' := [(5, .int r13), (0, .ref a0), (1, .int x1), (2, .int x2), (3, .int x3), (4, .int x4)]) hx hb dX6_greed_57 hl (by decide) rfl (fun ls hl => ?_)
    refine lv_iload_n hx hb dX6_greed_59 rfl (lv_at hl 3 rfl) ?_
    refine lv_iconst (v := 1) hx hb dX6_greed_60 (by decide) ?_
    refine lv_iload hx hb dX6_greed_61 (lv_at hl 0 rfl) ?_
    refine lv_ishl hx hb dX6_greed_63 ?_
    refine lv_ior hx hb dX6_greed_64 ?_
    refine lv_istore_n (lv' := [(2, .int (x2 ||| ((1 : Int32) <<< (r13 &&& 31)))), (5, .int r13), (0, .ref a0), (1, .int x1), (3, .int x3), (4, .int x4)]) hx hb dX6_greed_65 rfl hl (by decide) rfl (fun ls hl => ?_)
    refine lv_aload_n hx hb dX6_greed_66 rfl (lv_at hl 2 rfl) ?_
    refine va_get (D := G.1) (cl := vwCl) (own := RX6) (ref := "ExchangeFamiliesModel") (ci := 5) (v := .ref a3) (C := RX6) (T := TX6) (N := 25) hx hb hts k_X6_greed_0 hown hK hP 0 rfl rfl 3 (by decide) (hts _ k_X6_greed_4) (fun _ h9 => h9) rfl dX6_greed_67 ?_
    refine lv_iload hx hb dX6_greed_70 (lv_at hl 1 rfl) ?_
    obtain ⟨hi, hm⟩ := gk_ix_some hm
    refine va_iald hx hb hK hP 3 0 rfl rfl hi dX6_greed_72 ?_
    refine lv_if_lt (tgt := 85) hx hb dX6_greed_73 (by decide) (fun c14 => ?_) (fun c14 => ?_)
    · have hm := gk_it c14 hm
      refine lv_iload_n hx hb dX6_greed_85 rfl (lv_at hl 4 rfl) ?_
      exact w_X6_greed_J86 C hm kl kx ⟨hP, hD, hS⟩ (lv_sub hl [2, 3, 0, 4, 5, 1] rfl)
    · have hm := gk_if c14 hm
      refine lv_iload_n hx hb dX6_greed_76 rfl (lv_at hl 4 rfl) ?_
      refine lv_iconst (v := 1) hx hb dX6_greed_77 (by decide) ?_
      refine lv_iload hx hb dX6_greed_78 (lv_at hl 1 rfl) ?_
      refine lv_ishl hx hb dX6_greed_80 ?_
      refine lv_ior hx hb dX6_greed_81 ?_
      refine lv_goto (tgt := 86) hx hb dX6_greed_82 (by decide) ?_
      exact w_X6_greed_J86 C hm kl kx ⟨hP, hD, hS⟩ (lv_sub hl [2, 3, 0, 4, 5, 1] rfl)
set_option maxRecDepth 100000 in
set_option maxHeartbeats 4000000 in
theorem w_X6_greed_L43 {p : Program} {l : Launch} {e : Env} {s : State} {m : MethodId} {args : Array Value} {below : List Frame} {meth : Method} {c : Code} {G : gk_G} {A : Nat → Prop} {Q : State → Prop} {a0 a1 a2 a3 a4 a5 a6 a7 a8 a9 a10 a11 a12 a13 a14 a15 a16 a17 a18 a19 a20 a21 : Nat} (C : gk_C p s m args meth c cX6_greed 8 (some .int) yX6_greed wsX6_greed false G A) {f_n : Int32} {f_members : (Nat → Int64)} {f_kind : (Nat → Int32)} {f_weight : (Nat → Int32)} {x1 : Int32} {x2 : Int32} {x3 : Int32} {x4 : Int32} {f_keptN : Int32} {f_side : Int32} {f_rows : Int32} {k : Nat} {e_x3 : Int32} (hm : gk_lp (fun z => m_X6_greed_B43 f_n f_members f_kind f_weight x1 z.1 z.2.1 z.2.2) k (x2, x3, x4) = some e_x3) (kx : ∀ (H : Heap) (locs : List Loc) (ls : Array Slot), gk_H G A s [(a0, .inr (5, [.int f_n, .ref a1, .ref a2, .ref a3, .ref a4, .int f_keptN, .ref a5, .ref a6, .ref a7, .ref a8, .ref a9, .ref a10, .ref a11, .ref a12, .ref a13, .ref a14, .ref a15, .ref a16, .int f_side, .ref a17, .ref a18, .ref a19, .int f_rows, .ref a20, .ref a21])), (a1, gk_J G 6 f_members), (a2, gk_I G 6 f_kind), (a3, gk_I G 6 f_weight)] H locs → lv_has ls 8 [(3, .int e_x3)] → W p l e rm_X6_greed s m args below meth c H locs 0 0 Q (F0 m 135 ls [])) {H : Heap} {locs : List Loc} {ls : Array Slot} (h : gk_H G A s [(a0, .inr (5, [.int f_n, .ref a1, .ref a2, .ref a3, .ref a4, .int f_keptN, .ref a5, .ref a6, .ref a7, .ref a8, .ref a9, .ref a10, .ref a11, .ref a12, .ref a13, .ref a14, .ref a15, .ref a16, .int f_side, .ref a17, .ref a18, .ref a19, .int f_rows, .ref a20, .ref a21])), (a1, gk_J G 6 f_members), (a2, gk_I G 6 f_kind), (a3, gk_I G 6 f_weight)] H locs) (hl : lv_has ls 8 [(0, .ref a0), (1, .int x1), (2, .int x2), (3, .int x3), (4, .int x4)]) : W p l e rm_X6_greed s m args below meth c H locs 0 0 Q (F0 m 43 ls []) :=
  gk_lp_some (P := fun z => ∀ (H : Heap) (locs : List Loc) (ls : Array Slot), gk_H G A s [(a0, .inr (5, [.int f_n, .ref a1, .ref a2, .ref a3, .ref a4, .int f_keptN, .ref a5, .ref a6, .ref a7, .ref a8, .ref a9, .ref a10, .ref a11, .ref a12, .ref a13, .ref a14, .ref a15, .ref a16, .int f_side, .ref a17, .ref a18, .ref a19, .int f_rows, .ref a20, .ref a21])), (a1, gk_J G 6 f_members), (a2, gk_I G 6 f_kind), (a3, gk_I G 6 f_weight)] H locs → lv_has ls 8 [(0, .ref a0), (1, .int x1), (2, .int z.1), (3, .int z.2.1), (4, .int z.2.2)] → W p l e rm_X6_greed s m args below meth c H locs 0 0 Q (F0 m 43 ls [])) (E := fun r => (∀ (x3 : Int32), r = x3 → ∀ (H : Heap) (locs : List Loc) (ls : Array Slot), gk_H G A s [(a0, .inr (5, [.int f_n, .ref a1, .ref a2, .ref a3, .ref a4, .int f_keptN, .ref a5, .ref a6, .ref a7, .ref a8, .ref a9, .ref a10, .ref a11, .ref a12, .ref a13, .ref a14, .ref a15, .ref a16, .int f_side, .ref a17, .ref a18, .ref a19, .int f_rows, .ref a20, .ref a21])), (a1, gk_J G 6 f_members), (a2, gk_I G 6 f_kind), (a3, gk_I G 6 f_weight)] H locs → lv_has ls 8 [(3, .int x3)] → W p l e rm_X6_greed s m args below meth c H locs 0 0 Q (F0 m 135 ls []))) (fun z x hf kl ke H locs ls h hl => w_X6_greed_B43 C hf (fun v0 v1 v2 ez => kl (v0, v1, v2) ez) (fun v0 ez => ke _ ez v0 rfl) h hl) k (x2, x3, x4) _ hm (fun v0 ez => (by cases ez; exact kx)) _ _ _ h hl
def m_X6_greed_0 (f_n : Int32) (f_members : (Nat → Int64)) (f_kind : (Nat → Int32)) (f_weight : (Nat → Int32)) (x1 : Int32) : Option (Int32) := gk_bd1 (m_X6_isFamily x1) (fun r8 => (if r8 = (0 : Int32) then some (-2 : Int32) else gk_ix x1 6 ((if (f_kind x1.toNatClampNeg) = (-1 : Int32) then some (-11 : Int32) else gk_ix x1 6 ((if (lg_cmp (f_members x1.toNatClampNeg) (0 : Int64)) = (0 : Int32) then some (-1 : Int32) else gk_bd1 (gk_lp (fun z => m_X6_greed_B43 f_n f_members f_kind f_weight x1 z.1 z.2.1 z.2.2) gk_fu ((0 : Int32), (0 : Int32), (0 : Int32))) (fun e18 => some e18)))))))
set_option maxRecDepth 100000 in
set_option maxHeartbeats 4000000 in
theorem w_X6_greed_0 {p : Program} {l : Launch} {e : Env} {s : State} {m : MethodId} {args : Array Value} {below : List Frame} {meth : Method} {c : Code} {G : gk_G} {A : Nat → Prop} {Q : State → Prop} {a0 a1 a2 a3 a4 a5 a6 a7 a8 a9 a10 a11 a12 a13 a14 a15 a16 a17 a18 a19 a20 a21 : Nat} (C : gk_C p s m args meth c cX6_greed 8 (some .int) yX6_greed wsX6_greed false G A) {f_n : Int32} {f_members : (Nat → Int64)} {f_kind : (Nat → Int32)} {f_weight : (Nat → Int32)} {x1 : Int32} {f_keptN : Int32} {f_side : Int32} {f_rows : Int32} {yy : Int32} (hm : m_X6_greed_0 f_n f_members f_kind f_weight x1 = some yy) (kr : ∀ (rv : Int32), yy = rv → Q = MQ below (gk_Q G (some (.int rv)) [(a0, .inr (5, [.int f_n, .ref a1, .ref a2, .ref a3, .ref a4, .int f_keptN, .ref a5, .ref a6, .ref a7, .ref a8, .ref a9, .ref a10, .ref a11, .ref a12, .ref a13, .ref a14, .ref a15, .ref a16, .int f_side, .ref a17, .ref a18, .ref a19, .int f_rows, .ref a20, .ref a21])), (a1, gk_J G 6 f_members), (a2, gk_I G 6 f_kind), (a3, gk_I G 6 f_weight)] A) args s 0 0 A) {H : Heap} {locs : List Loc} {ls : Array Slot} (h : gk_H G A s [(a0, .inr (5, [.int f_n, .ref a1, .ref a2, .ref a3, .ref a4, .int f_keptN, .ref a5, .ref a6, .ref a7, .ref a8, .ref a9, .ref a10, .ref a11, .ref a12, .ref a13, .ref a14, .ref a15, .ref a16, .int f_side, .ref a17, .ref a18, .ref a19, .int f_rows, .ref a20, .ref a21])), (a1, gk_J G 6 f_members), (a2, gk_I G 6 f_kind), (a3, gk_I G 6 f_weight)] H locs) (hl : lv_has ls 8 [(0, .ref a0), (1, .int x1)]) : W p l e rm_X6_greed s m args below meth c H locs 0 0 Q (F0 m 0 ls []) := by
  obtain ⟨hx, hb, hml, hr, hown, hnm, hts, hlk, hK, hSt, hA⟩ := id C
  obtain ⟨hP, hD, hS⟩ := h
  unfold m_X6_greed_0 at hm
  refine lv_iload_n hx hb dX6_greed_0 rfl (lv_at hl 1 rfl) ?_
  obtain ⟨r8, hq, hm⟩ := gk_bd1_some hm
  refine gk_callS (n := 1) (bytes := cX6_isFamily) (maxL := 1) (ret := (some .boolean)) [(a0, .inr (5, [.int f_n, .ref a1, .ref a2, .ref a3, .ref a4, .int f_keptN, .ref a5, .ref a6, .ref a7, .ref a8, .ref a9, .ref a10, .ref a11, .ref a12, .ref a13, .ref a14, .ref a15, .ref a16, .int f_side, .ref a17, .ref a18, .ref a19, .int f_rows, .ref a20, .ref a21])), (a1, gk_J G 6 f_members), (a2, gk_I G 6 f_kind), (a3, gk_I G 6 f_weight)] [(a0, .inr (5, [.int f_n, .ref a1, .ref a2, .ref a3, .ref a4, .int f_keptN, .ref a5, .ref a6, .ref a7, .ref a8, .ref a9, .ref a10, .ref a11, .ref a12, .ref a13, .ref a14, .ref a15, .ref a16, .int f_side, .ref a17, .ref a18, .ref a19, .int f_rows, .ref a20, .ref a21])), (a1, gk_J G 6 f_members), (a2, gk_I G 6 f_kind), (a3, gk_I G 6 f_weight)] [] C ⟨hP, hD, hS⟩ (c_X6_isFamily l G x1 hq) gX6_greed_X6_isFamily dX6_greed_1 hl.1 [] [0, 1, 2, 3] [0, 1, 2, 3] rfl ⟨rfl, rfl⟩ ⟨Nat.le_of_ble_eq_true rfl, Nat.le_of_ble_eq_true rfl⟩ ⟨by decide +kernel, by decide +kernel, by decide +kernel⟩ rfl (fun h => by cases h) (Nat.le_of_ble_eq_true rfl) rfl rfl rfl rfl (by decide) rfl rfl (fun H locs h => ?_)
  obtain ⟨hP, hD, hS⟩ := h
  refine lv_if_ne (tgt := 10) hx hb dX6_greed_4 (by decide) (fun c9 => ?_) (fun c9 => ?_)
  · have hm := gk_if c9 hm
    refine lv_aload_n hx hb dX6_greed_10 rfl (lv_at hl 0 rfl) ?_
    refine va_get (D := G.1) (cl := vwCl) (own := RX6) (ref := "ExchangeFamiliesModel") (ci := 5) (v := .ref a2) (C := RX6) (T := TX6) (N := 25) hx hb hts k_X6_greed_0 hown hK hP 0 rfl rfl 2 (by decide) (hts _ k_X6_greed_1) (fun _ h9 => h9) rfl dX6_greed_11 ?_
    refine lv_iload_n hx hb dX6_greed_14 rfl (lv_at hl 1 rfl) ?_
    obtain ⟨hi, hm⟩ := gk_ix_some hm
    refine va_iald hx hb hK hP 2 0 rfl rfl hi dX6_greed_15 ?_
    refine lv_iconst (v := -1) hx hb dX6_greed_16 (by decide) ?_
    refine lv_icmp_ne (tgt := 23) hx hb dX6_greed_17 (by decide) (fun c10 => ?_) (fun c10 => ?_)
    · have hm := gk_if c10 hm
      refine lv_aload_n hx hb dX6_greed_23 rfl (lv_at hl 0 rfl) ?_
      refine va_get (D := G.1) (cl := vwCl) (own := RX6) (ref := "ExchangeFamiliesModel") (ci := 5) (v := .ref a1) (C := RX6) (T := TX6) (N := 25) hx hb hts k_X6_greed_0 hown hK hP 0 rfl rfl 1 (by decide) (hts _ k_X6_greed_2) (fun _ h9 => h9) rfl dX6_greed_24 ?_
      refine lv_iload_n hx hb dX6_greed_27 rfl (lv_at hl 1 rfl) ?_
      obtain ⟨hi, hm⟩ := gk_ix_some hm
      refine va_lald hx hb hK hP 1 1 rfl rfl hi dX6_greed_28 ?_
      refine lv_lconst (v := 0) hx hb dX6_greed_29 (by decide) ?_
      refine W.lcmp hx hb dX6_greed_30 ?_
      refine lv_if_ne (tgt := 36) hx hb dX6_greed_31 (by decide) (fun c11 => ?_) (fun c11 => ?_)
      · have hm := gk_if c11 hm
        refine lv_iconst (v := 0) hx hb dX6_greed_36 (by decide) ?_
        refine lv_istore_n (lv' := [(2, .int (0 : Int32)), (0, .ref a0), (1, .int x1)]) hx hb dX6_greed_37 rfl hl (by decide) rfl (fun ls hl => ?_)
        refine lv_iconst (v := 0) hx hb dX6_greed_38 (by decide) ?_
        refine lv_istore_n (lv' := [(3, .int (0 : Int32)), (2, .int (0 : Int32)), (0, .ref a0), (1, .int x1)]) hx hb dX6_greed_39 rfl hl (by decide) rfl (fun ls hl => ?_)
        refine lv_iconst (v := 0) hx hb dX6_greed_40 (by decide) ?_
        refine lv_istore (lv' := [(4, .int (0 : Int32)), (3, .int (0 : Int32)), (2, .int (0 : Int32)), (0, .ref a0), (1, .int x1)]) hx hb dX6_greed_41 hl (by decide) rfl (fun ls hl => ?_)
        obtain ⟨e18, hq, hm⟩ := gk_bd1_some hm
        refine w_X6_greed_L43 C hq (fun H locs ls h hl => ?_) ⟨hP, hD, hS⟩ (lv_sub hl [3, 4, 2, 1, 0] rfl)
        obtain ⟨hP, hD, hS⟩ := h
        refine lv_iload_n hx hb dX6_greed_135 rfl (lv_at hl 0 rfl) ?_
        rw [kr _ (Option.some.inj hm).symm]
        exact gk_iret C ⟨hP, hD, hS⟩ dX6_greed_136
      · have hm := gk_it c11 hm
        refine lv_iconst (v := -1) hx hb dX6_greed_34 (by decide) ?_
        rw [kr _ (Option.some.inj hm).symm]
        exact gk_iret C ⟨hP, hD, hS⟩ dX6_greed_35
    · have hm := gk_it c10 hm
      refine lv_bipush (v := -11) hx hb dX6_greed_20 (by decide) ?_
      rw [kr _ (Option.some.inj hm).symm]
      exact gk_iret C ⟨hP, hD, hS⟩ dX6_greed_22
  · have hm := gk_it c9 hm
    refine lv_bipush (v := -2) hx hb dX6_greed_7 (by decide) ?_
    rw [kr _ (Option.some.inj hm).symm]
    exact gk_iret C ⟨hP, hD, hS⟩ dX6_greed_9
def m_X6_greed (f_n : Int32) (f_members : (Nat → Int64)) (f_kind : (Nat → Int32)) (f_weight : (Nat → Int32)) (x1 : Int32) : Option (Int32) := m_X6_greed_0 f_n f_members f_kind f_weight x1
theorem c_X6_greed (l : Launch) (G : gk_G) (a0 a1 a2 a3 a4 a5 a6 a7 a8 a9 a10 a11 a12 a13 a14 a15 a16 a17 a18 a19 a20 a21 : Nat) (f_n : Int32) (f_keptN : Int32) (f_side : Int32) (f_rows : Int32) (f_members : (Nat → Int64)) (f_kind : (Nat → Int32)) (f_weight : (Nat → Int32)) (x1 : Int32) {rv : Int32} (hm : m_X6_greed f_n f_members f_kind f_weight x1 = some rv) : gk_M l yX6_greed wsX6_greed rm_X6_greed false G [.ref a0, .int x1] [(a0, .inr (5, [.int f_n, .ref a1, .ref a2, .ref a3, .ref a4, .int f_keptN, .ref a5, .ref a6, .ref a7, .ref a8, .ref a9, .ref a10, .ref a11, .ref a12, .ref a13, .ref a14, .ref a15, .ref a16, .int f_side, .ref a17, .ref a18, .ref a19, .int f_rows, .ref a20, .ref a21])), (a1, gk_J G 6 f_members), (a2, gk_I G 6 f_kind), (a3, gk_I G 6 f_weight)] (some (.int rv)) [(a0, .inr (5, [.int f_n, .ref a1, .ref a2, .ref a3, .ref a4, .int f_keptN, .ref a5, .ref a6, .ref a7, .ref a8, .ref a9, .ref a10, .ref a11, .ref a12, .ref a13, .ref a14, .ref a15, .ref a16, .int f_side, .ref a17, .ref a18, .ref a19, .int f_rows, .ref a20, .ref a21])), (a1, gk_J G 6 f_members), (a2, gk_I G 6 f_kind), (a3, gk_I G 6 f_weight)] :=
  gk_of (by decide) rfl (Nat.le_of_ble_eq_true rfl) (fun p e s m below meth c A ls C h hl => w_X6_greed_0 C hm (fun v0 ez => by cases ez; rfl) h (show lv_has ls 8 [(0, .ref a0), (1, .int x1)] from hl))

/-! ===== ExchangeFamiliesModel.best(I)I ===== -/
abbrev rm_X6_best : Room := { frames := 5, cells := 0, slots := 0, locals := 237 }
theorem k_X6_best_0 : ∀ w ∈ u_ws RX6 TX6 25, w ∈ wsX6_best := by decide +kernel
theorem k_X6_best_1 : Cond.fieldLink RX6 19 "ExchangeFamiliesModel" "kind" "[I" ∈ wsX6_best := by decide +kernel
theorem k_X6_best_2 : Cond.fieldLink RX6 9 "ExchangeFamiliesModel" "n" "I" ∈ wsX6_best := by decide +kernel
def m_X6_best_B27 (f_n : Int32) (f_members : (Nat → Int64)) (f_kind : (Nat → Int32)) (f_weight : (Nat → Int32)) (x1 : Int32) (x2 : Int32) (x3 : Int32) : Option ((Int32 × Int32) ⊕ (Int32)) := (if ((1 : Int32) <<< (f_n &&& 31)) ≤ x3 then some (.inr x2) else gk_bd1 (m_X6_isMember f_members x1 x3) (fun r11 => (if r11 = (0 : Int32) then some (.inl (x2, x3 + 1)) else (if x2 = (-1 : Int32) then some (.inl (x3, x3 + 1)) else gk_bd1 (m_X6_weightOf f_n f_weight x3) (fun r14 => gk_bd1 (m_X6_weightOf f_n f_weight x2) (fun r15 => (if r14 ≤ r15 then some (.inl (x2, x3 + 1)) else some (.inl (x3, x3 + 1)))))))))
set_option maxRecDepth 100000 in
set_option maxHeartbeats 4000000 in
theorem w_X6_best_B27 {p : Program} {l : Launch} {e : Env} {s : State} {m : MethodId} {args : Array Value} {below : List Frame} {meth : Method} {c : Code} {G : gk_G} {A : Nat → Prop} {Q : State → Prop} {a0 a1 a2 a3 a4 a5 a6 a7 a8 a9 a10 a11 a12 a13 a14 a15 a16 a17 a18 a19 a20 a21 : Nat} (C : gk_C p s m args meth c cX6_best 4 (some .int) yX6_best wsX6_best false G A) {f_n : Int32} {f_members : (Nat → Int64)} {f_kind : (Nat → Int32)} {f_weight : (Nat → Int32)} {x1 : Int32} {x2 : Int32} {x3 : Int32} {f_keptN : Int32} {f_side : Int32} {f_rows : Int32} {yy : (Int32 × Int32) ⊕ (Int32)} (hm : m_X6_best_B27 f_n f_members f_kind f_weight x1 x2 x3 = some yy) (kl : ∀ (x2 : Int32) (x3 : Int32), yy = .inl (x2, x3) → ∀ (H : Heap) (locs : List Loc) (ls : Array Slot), gk_H G A s [(a0, .inr (5, [.int f_n, .ref a1, .ref a2, .ref a3, .ref a4, .int f_keptN, .ref a5, .ref a6, .ref a7, .ref a8, .ref a9, .ref a10, .ref a11, .ref a12, .ref a13, .ref a14, .ref a15, .ref a16, .int f_side, .ref a17, .ref a18, .ref a19, .int f_rows, .ref a20, .ref a21])), (a1, gk_J G 6 f_members), (a2, gk_I G 6 f_kind), (a3, gk_I G 6 f_weight)] H locs → lv_has ls 4 [(0, .ref a0), (1, .int x1), (2, .int x2), (3, .int x3)] → W p l e rm_X6_best s m args below meth c H locs 0 0 Q (F0 m 27 ls [])) (kx : ∀ (x2 : Int32), yy = .inr x2 → ∀ (H : Heap) (locs : List Loc) (ls : Array Slot), gk_H G A s [(a0, .inr (5, [.int f_n, .ref a1, .ref a2, .ref a3, .ref a4, .int f_keptN, .ref a5, .ref a6, .ref a7, .ref a8, .ref a9, .ref a10, .ref a11, .ref a12, .ref a13, .ref a14, .ref a15, .ref a16, .int f_side, .ref a17, .ref a18, .ref a19, .int f_rows, .ref a20, .ref a21])), (a1, gk_J G 6 f_members), (a2, gk_I G 6 f_kind), (a3, gk_I G 6 f_weight)] H locs → lv_has ls 4 [(2, .int x2)] → W p l e rm_X6_best s m args below meth c H locs 0 0 Q (F0 m 72 ls [])) {H : Heap} {locs : List Loc} {ls : Array Slot} (h : gk_H G A s [(a0, .inr (5, [.int f_n, .ref a1, .ref a2, .ref a3, .ref a4, .int f_keptN, .ref a5, .ref a6, .ref a7, .ref a8, .ref a9, .ref a10, .ref a11, .ref a12, .ref a13, .ref a14, .ref a15, .ref a16, .int f_side, .ref a17, .ref a18, .ref a19, .int f_rows, .ref a20, .ref a21])), (a1, gk_J G 6 f_members), (a2, gk_I G 6 f_kind), (a3, gk_I G 6 f_weight)] H locs) (hl : lv_has ls 4 [(0, .ref a0), (1, .int x1), (2, .int x2), (3, .int x3)]) : W p l e rm_X6_best s m args below meth c H locs 0 0 Q (F0 m 27 ls []) := by
  obtain ⟨hx, hb, hml, hr, hown, hnm, hts, hlk, hK, hSt, hA⟩ := id C
  obtain ⟨hP, hD, hS⟩ := h
  unfold m_X6_best_B27 at hm
  refine lv_iload_n hx hb dX6_best_27 rfl (lv_at hl 3 rfl) ?_
  refine lv_iconst (v := 1) hx hb dX6_best_28 (by decide) ?_
  refine lv_aload_n hx hb dX6_best_29 rfl (lv_at hl 0 rfl) ?_
  refine va_get (D := G.1) (cl := vwCl) (own := RX6) (ref := "ExchangeFamiliesModel") (ci := 5) (v := .int f_n) (C := RX6) (T := TX6) (N := 25) hx hb hts k_X6_best_0 hown hK hP 0 rfl rfl 0 (by decide) (hts _ k_X6_best_2) (fun _ h9 => h9) rfl dX6_best_30 ?_
  refine lv_ishl hx hb dX6_best_33 ?_
  refine lv_icmp_ge (tgt := 72) hx hb dX6_best_34 (by decide) (fun c10 => ?_) (fun c10 => ?_)
  · have hm := gk_it c10 hm
    exact kx _ (Option.some.inj hm).symm _ _ _ ⟨hP, hD, hS⟩ (lv_sub hl [2] rfl)
  · have hm := gk_if c10 hm
    refine lv_aload_n hx hb dX6_best_37 rfl (lv_at hl 0 rfl) ?_
    refine lv_iload_n hx hb dX6_best_38 rfl (lv_at hl 1 rfl) ?_
    refine lv_iload_n hx hb dX6_best_39 rfl (lv_at hl 3 rfl) ?_
    obtain ⟨r11, hq, hm⟩ := gk_bd1_some hm
    refine gk_callV (n := 2) (bytes := cX6_isMember) (maxL := 3) (ret := (some .boolean)) (Cn := RX6) (T := TX6) (N := 25) [(a2, gk_I G 6 f_kind), (a3, gk_I G 6 f_weight)] [(a0, .inr (5, [.int f_n, .ref a1, .ref a2, .ref a3, .ref a4, .int f_keptN, .ref a5, .ref a6, .ref a7, .ref a8, .ref a9, .ref a10, .ref a11, .ref a12, .ref a13, .ref a14, .ref a15, .ref a16, .int f_side, .ref a17, .ref a18, .ref a19, .int f_rows, .ref a20, .ref a21])), (a1, gk_J G 6 f_members), (a2, gk_I G 6 f_kind), (a3, gk_I G 6 f_weight)] [] C ⟨hP, hD, hS⟩ (c_X6_isMember l G a0 a1 a2 a3 a4 a5 a6 a7 a8 a9 a10 a11 a12 a13 a14 a15 a16 a17 a18 a19 a20 a21 f_n f_keptN f_side f_rows f_members x1 x3 hq) gX6_best_X6_isMember dX6_best_40 hl.1 [0, 1] [2, 3] [2, 3, 0, 1] rfl rfl ⟨rfl, rfl⟩ ⟨Nat.le_of_ble_eq_true rfl, Nat.le_of_ble_eq_true rfl⟩ ⟨rfl, by decide +kernel, by decide +kernel, by decide +kernel⟩ rfl (fun h => by cases h) (Nat.le_of_ble_eq_true rfl) rfl rfl rfl rfl (by decide) rfl rfl (fun H locs h => ?_)
    obtain ⟨hP, hD, hS⟩ := h
    refine lv_if_eq (tgt := 66) hx hb dX6_best_43 (by decide) (fun c12 => ?_) (fun c12 => ?_)
    · have hm := gk_it c12 hm
      refine lv_iinc (v := x3 + 1) (lv' := [(3, .int (x3 + 1)), (0, .ref a0), (1, .int x1), (2, .int x2)]) hx hb dX6_best_66 hl (k := 3) rfl rfl (by decide) rfl (fun ls hl => ?_)
      refine lv_goto (tgt := 27) hx hb dX6_best_69 (by decide) ?_
      exact kl _ _ (Option.some.inj hm).symm _ _ _ ⟨hP, hD, hS⟩ (lv_sub hl [1, 2, 3, 0] rfl)
    · have hm := gk_if c12 hm
      refine lv_iload_n hx hb dX6_best_46 rfl (lv_at hl 2 rfl) ?_
      refine lv_iconst (v := -1) hx hb dX6_best_47 (by decide) ?_
      refine lv_icmp_eq (tgt := 64) hx hb dX6_best_48 (by decide) (fun c13 => ?_) (fun c13 => ?_)
      · have hm := gk_it c13 hm
        refine lv_iload_n hx hb dX6_best_64 rfl (lv_at hl 3 rfl) ?_
        refine lv_istore_n (lv' := [(2, .int x3), (0, .ref a0), (1, .int x1), (3, .int x3)]) hx hb dX6_best_65 rfl hl (by decide) rfl (fun ls hl => ?_)
        refine lv_iinc (v := x3 + 1) (lv' := [(3, .int (x3 + 1)), (2, .int x3), (0, .ref a0), (1, .int x1)]) hx hb dX6_best_66 hl (k := 3) rfl rfl (by decide) rfl (fun ls hl => ?_)
        refine lv_goto (tgt := 27) hx hb dX6_best_69 (by decide) ?_
        exact kl _ _ (Option.some.inj hm).symm _ _ _ ⟨hP, hD, hS⟩ (lv_sub hl [2, 3, 1, 0] rfl)
      · have hm := gk_if c13 hm
        refine lv_aload_n hx hb dX6_best_51 rfl (lv_at hl 0 rfl) ?_
        refine lv_iload_n hx hb dX6_best_52 rfl (lv_at hl 3 rfl) ?_
        obtain ⟨r14, hq, hm⟩ := gk_bd1_some hm
        refine gk_callV (n := 1) (bytes := cX6_weightOf) (maxL := 4) (ret := (some .int)) (Cn := RX6) (T := TX6) (N := 25) [(a1, gk_J G 6 f_members), (a2, gk_I G 6 f_kind)] [(a0, .inr (5, [.int f_n, .ref a1, .ref a2, .ref a3, .ref a4, .int f_keptN, .ref a5, .ref a6, .ref a7, .ref a8, .ref a9, .ref a10, .ref a11, .ref a12, .ref a13, .ref a14, .ref a15, .ref a16, .int f_side, .ref a17, .ref a18, .ref a19, .int f_rows, .ref a20, .ref a21])), (a1, gk_J G 6 f_members), (a2, gk_I G 6 f_kind), (a3, gk_I G 6 f_weight)] [] C ⟨hP, hD, hS⟩ (c_X6_weightOf l G a0 a1 a2 a3 a4 a5 a6 a7 a8 a9 a10 a11 a12 a13 a14 a15 a16 a17 a18 a19 a20 a21 f_n f_keptN f_side f_rows f_weight x3 hq) gX6_best_X6_weightOf dX6_best_53 hl.1 [0, 3] [1, 2] [2, 0, 1, 3] rfl rfl ⟨rfl, rfl⟩ ⟨Nat.le_of_ble_eq_true rfl, Nat.le_of_ble_eq_true rfl⟩ ⟨rfl, by decide +kernel, by decide +kernel, by decide +kernel⟩ rfl (fun h => by cases h) (Nat.le_of_ble_eq_true rfl) rfl rfl rfl rfl (by decide) rfl rfl (fun H locs h => ?_)
        obtain ⟨hP, hD, hS⟩ := h
        refine lv_aload_n hx hb dX6_best_56 rfl (lv_at hl 0 rfl) ?_
        refine lv_iload_n hx hb dX6_best_57 rfl (lv_at hl 2 rfl) ?_
        obtain ⟨r15, hq, hm⟩ := gk_bd1_some hm
        refine gk_callV (n := 1) (bytes := cX6_weightOf) (maxL := 4) (ret := (some .int)) (Cn := RX6) (T := TX6) (N := 25) [(a1, gk_J G 6 f_members), (a2, gk_I G 6 f_kind)] [(a0, .inr (5, [.int f_n, .ref a1, .ref a2, .ref a3, .ref a4, .int f_keptN, .ref a5, .ref a6, .ref a7, .ref a8, .ref a9, .ref a10, .ref a11, .ref a12, .ref a13, .ref a14, .ref a15, .ref a16, .int f_side, .ref a17, .ref a18, .ref a19, .int f_rows, .ref a20, .ref a21])), (a1, gk_J G 6 f_members), (a2, gk_I G 6 f_kind), (a3, gk_I G 6 f_weight)] [.int r14] C ⟨hP, hD, hS⟩ (c_X6_weightOf l G a0 a1 a2 a3 a4 a5 a6 a7 a8 a9 a10 a11 a12 a13 a14 a15 a16 a17 a18 a19 a20 a21 f_n f_keptN f_side f_rows f_weight x2 hq) gX6_best_X6_weightOf dX6_best_58 hl.1 [0, 3] [1, 2] [2, 0, 1, 3] rfl rfl ⟨rfl, rfl⟩ ⟨Nat.le_of_ble_eq_true rfl, Nat.le_of_ble_eq_true rfl⟩ ⟨rfl, by decide +kernel, by decide +kernel, by decide +kernel⟩ rfl (fun h => by cases h) (Nat.le_of_ble_eq_true rfl) rfl rfl rfl rfl (by decide) rfl rfl (fun H locs h => ?_)
        obtain ⟨hP, hD, hS⟩ := h
        refine lv_icmp_le (tgt := 66) hx hb dX6_best_61 (by decide) (fun c16 => ?_) (fun c16 => ?_)
        · have hm := gk_it c16 hm
          refine lv_iinc (v := x3 + 1) (lv' := [(3, .int (x3 + 1)), (0, .ref a0), (1, .int x1), (2, .int x2)]) hx hb dX6_best_66 hl (k := 3) rfl rfl (by decide) rfl (fun ls hl => ?_)
          refine lv_goto (tgt := 27) hx hb dX6_best_69 (by decide) ?_
          exact kl _ _ (Option.some.inj hm).symm _ _ _ ⟨hP, hD, hS⟩ (lv_sub hl [1, 2, 3, 0] rfl)
        · have hm := gk_if c16 hm
          refine lv_iload_n hx hb dX6_best_64 rfl (lv_at hl 3 rfl) ?_
          refine lv_istore_n (lv' := [(2, .int x3), (0, .ref a0), (1, .int x1), (3, .int x3)]) hx hb dX6_best_65 rfl hl (by decide) rfl (fun ls hl => ?_)
          refine lv_iinc (v := x3 + 1) (lv' := [(3, .int (x3 + 1)), (2, .int x3), (0, .ref a0), (1, .int x1)]) hx hb dX6_best_66 hl (k := 3) rfl rfl (by decide) rfl (fun ls hl => ?_)
          refine lv_goto (tgt := 27) hx hb dX6_best_69 (by decide) ?_
          exact kl _ _ (Option.some.inj hm).symm _ _ _ ⟨hP, hD, hS⟩ (lv_sub hl [2, 3, 1, 0] rfl)
set_option maxRecDepth 100000 in
set_option maxHeartbeats 4000000 in
theorem w_X6_best_L27 {p : Program} {l : Launch} {e : Env} {s : State} {m : MethodId} {args : Array Value} {below : List Frame} {meth : Method} {c : Code} {G : gk_G} {A : Nat → Prop} {Q : State → Prop} {a0 a1 a2 a3 a4 a5 a6 a7 a8 a9 a10 a11 a12 a13 a14 a15 a16 a17 a18 a19 a20 a21 : Nat} (C : gk_C p s m args meth c cX6_best 4 (some .int) yX6_best wsX6_best false G A) {f_n : Int32} {f_members : (Nat → Int64)} {f_kind : (Nat → Int32)} {f_weight : (Nat → Int32)} {x1 : Int32} {x2 : Int32} {x3 : Int32} {f_keptN : Int32} {f_side : Int32} {f_rows : Int32} {k : Nat} {e_x2 : Int32} (hm : gk_lp (fun z => m_X6_best_B27 f_n f_members f_kind f_weight x1 z.1 z.2) k (x2, x3) = some e_x2) (kx : ∀ (H : Heap) (locs : List Loc) (ls : Array Slot), gk_H G A s [(a0, .inr (5, [.int f_n, .ref a1, .ref a2, .ref a3, .ref a4, .int f_keptN, .ref a5, .ref a6, .ref a7, .ref a8, .ref a9, .ref a10, .ref a11, .ref a12, .ref a13, .ref a14, .ref a15, .ref a16, .int f_side, .ref a17, .ref a18, .ref a19, .int f_rows, .ref a20, .ref a21])), (a1, gk_J G 6 f_members), (a2, gk_I G 6 f_kind), (a3, gk_I G 6 f_weight)] H locs → lv_has ls 4 [(2, .int e_x2)] → W p l e rm_X6_best s m args below meth c H locs 0 0 Q (F0 m 72 ls [])) {H : Heap} {locs : List Loc} {ls : Array Slot} (h : gk_H G A s [(a0, .inr (5, [.int f_n, .ref a1, .ref a2, .ref a3, .ref a4, .int f_keptN, .ref a5, .ref a6, .ref a7, .ref a8, .ref a9, .ref a10, .ref a11, .ref a12, .ref a13, .ref a14, .ref a15, .ref a16, .int f_side, .ref a17, .ref a18, .ref a19, .int f_rows, .ref a20, .ref a21])), (a1, gk_J G 6 f_members), (a2, gk_I G 6 f_kind), (a3, gk_I G 6 f_weight)] H locs) (hl : lv_has ls 4 [(0, .ref a0), (1, .int x1), (2, .int x2), (3, .int x3)]) : W p l e rm_X6_best s m args below meth c H locs 0 0 Q (F0 m 27 ls []) :=
  gk_lp_some (P := fun z => ∀ (H : Heap) (locs : List Loc) (ls : Array Slot), gk_H G A s [(a0, .inr (5, [.int f_n, .ref a1, .ref a2, .ref a3, .ref a4, .int f_keptN, .ref a5, .ref a6, .ref a7, .ref a8, .ref a9, .ref a10, .ref a11, .ref a12, .ref a13, .ref a14, .ref a15, .ref a16, .int f_side, .ref a17, .ref a18, .ref a19, .int f_rows, .ref a20, .ref a21])), (a1, gk_J G 6 f_members), (a2, gk_I G 6 f_kind), (a3, gk_I G 6 f_weight)] H locs → lv_has ls 4 [(0, .ref a0), (1, .int x1), (2, .int z.1), (3, .int z.2)] → W p l e rm_X6_best s m args below meth c H locs 0 0 Q (F0 m 27 ls [])) (E := fun r => (∀ (x2 : Int32), r = x2 → ∀ (H : Heap) (locs : List Loc) (ls : Array Slot), gk_H G A s [(a0, .inr (5, [.int f_n, .ref a1, .ref a2, .ref a3, .ref a4, .int f_keptN, .ref a5, .ref a6, .ref a7, .ref a8, .ref a9, .ref a10, .ref a11, .ref a12, .ref a13, .ref a14, .ref a15, .ref a16, .int f_side, .ref a17, .ref a18, .ref a19, .int f_rows, .ref a20, .ref a21])), (a1, gk_J G 6 f_members), (a2, gk_I G 6 f_kind), (a3, gk_I G 6 f_weight)] H locs → lv_has ls 4 [(2, .int x2)] → W p l e rm_X6_best s m args below meth c H locs 0 0 Q (F0 m 72 ls []))) (fun z x hf kl ke H locs ls h hl => w_X6_best_B27 C hf (fun v0 v1 ez => kl (v0, v1) ez) (fun v0 ez => ke _ ez v0 rfl) h hl) k (x2, x3) _ hm (fun v0 ez => (by cases ez; exact kx)) _ _ _ h hl
def m_X6_best_0 (f_n : Int32) (f_members : (Nat → Int64)) (f_kind : (Nat → Int32)) (f_weight : (Nat → Int32)) (x1 : Int32) : Option (Int32) := gk_bd1 (m_X6_isFamily x1) (fun r7 => (if r7 = (0 : Int32) then some (-2 : Int32) else gk_ix x1 6 ((if (f_kind x1.toNatClampNeg) = (-1 : Int32) then some (-11 : Int32) else gk_bd1 (gk_lp (fun z => m_X6_best_B27 f_n f_members f_kind f_weight x1 z.1 z.2) gk_fu ((-1 : Int32), (0 : Int32))) (fun e17 => some e17)))))
set_option maxRecDepth 100000 in
set_option maxHeartbeats 4000000 in
theorem w_X6_best_0 {p : Program} {l : Launch} {e : Env} {s : State} {m : MethodId} {args : Array Value} {below : List Frame} {meth : Method} {c : Code} {G : gk_G} {A : Nat → Prop} {Q : State → Prop} {a0 a1 a2 a3 a4 a5 a6 a7 a8 a9 a10 a11 a12 a13 a14 a15 a16 a17 a18 a19 a20 a21 : Nat} (C : gk_C p s m args meth c cX6_best 4 (some .int) yX6_best wsX6_best false G A) {f_n : Int32} {f_members : (Nat → Int64)} {f_kind : (Nat → Int32)} {f_weight : (Nat → Int32)} {x1 : Int32} {f_keptN : Int32} {f_side : Int32} {f_rows : Int32} {yy : Int32} (hm : m_X6_best_0 f_n f_members f_kind f_weight x1 = some yy) (kr : ∀ (rv : Int32), yy = rv → Q = MQ below (gk_Q G (some (.int rv)) [(a0, .inr (5, [.int f_n, .ref a1, .ref a2, .ref a3, .ref a4, .int f_keptN, .ref a5, .ref a6, .ref a7, .ref a8, .ref a9, .ref a10, .ref a11, .ref a12, .ref a13, .ref a14, .ref a15, .ref a16, .int f_side, .ref a17, .ref a18, .ref a19, .int f_rows, .ref a20, .ref a21])), (a1, gk_J G 6 f_members), (a2, gk_I G 6 f_kind), (a3, gk_I G 6 f_weight)] A) args s 0 0 A) {H : Heap} {locs : List Loc} {ls : Array Slot} (h : gk_H G A s [(a0, .inr (5, [.int f_n, .ref a1, .ref a2, .ref a3, .ref a4, .int f_keptN, .ref a5, .ref a6, .ref a7, .ref a8, .ref a9, .ref a10, .ref a11, .ref a12, .ref a13, .ref a14, .ref a15, .ref a16, .int f_side, .ref a17, .ref a18, .ref a19, .int f_rows, .ref a20, .ref a21])), (a1, gk_J G 6 f_members), (a2, gk_I G 6 f_kind), (a3, gk_I G 6 f_weight)] H locs) (hl : lv_has ls 4 [(0, .ref a0), (1, .int x1)]) : W p l e rm_X6_best s m args below meth c H locs 0 0 Q (F0 m 0 ls []) := by
  obtain ⟨hx, hb, hml, hr, hown, hnm, hts, hlk, hK, hSt, hA⟩ := id C
  obtain ⟨hP, hD, hS⟩ := h
  unfold m_X6_best_0 at hm
  refine lv_iload_n hx hb dX6_best_0 rfl (lv_at hl 1 rfl) ?_
  obtain ⟨r7, hq, hm⟩ := gk_bd1_some hm
  refine gk_callS (n := 1) (bytes := cX6_isFamily) (maxL := 1) (ret := (some .boolean)) [(a0, .inr (5, [.int f_n, .ref a1, .ref a2, .ref a3, .ref a4, .int f_keptN, .ref a5, .ref a6, .ref a7, .ref a8, .ref a9, .ref a10, .ref a11, .ref a12, .ref a13, .ref a14, .ref a15, .ref a16, .int f_side, .ref a17, .ref a18, .ref a19, .int f_rows, .ref a20, .ref a21])), (a1, gk_J G 6 f_members), (a2, gk_I G 6 f_kind), (a3, gk_I G 6 f_weight)] [(a0, .inr (5, [.int f_n, .ref a1, .ref a2, .ref a3, .ref a4, .int f_keptN, .ref a5, .ref a6, .ref a7, .ref a8, .ref a9, .ref a10, .ref a11, .ref a12, .ref a13, .ref a14, .ref a15, .ref a16, .int f_side, .ref a17, .ref a18, .ref a19, .int f_rows, .ref a20, .ref a21])), (a1, gk_J G 6 f_members), (a2, gk_I G 6 f_kind), (a3, gk_I G 6 f_weight)] [] C ⟨hP, hD, hS⟩ (c_X6_isFamily l G x1 hq) gX6_best_X6_isFamily dX6_best_1 hl.1 [] [0, 1, 2, 3] [0, 1, 2, 3] rfl ⟨rfl, rfl⟩ ⟨Nat.le_of_ble_eq_true rfl, Nat.le_of_ble_eq_true rfl⟩ ⟨by decide +kernel, by decide +kernel, by decide +kernel⟩ rfl (fun h => by cases h) (Nat.le_of_ble_eq_true rfl) rfl rfl rfl rfl (by decide) rfl rfl (fun H locs h => ?_)
  obtain ⟨hP, hD, hS⟩ := h
  refine lv_if_ne (tgt := 10) hx hb dX6_best_4 (by decide) (fun c8 => ?_) (fun c8 => ?_)
  · have hm := gk_if c8 hm
    refine lv_aload_n hx hb dX6_best_10 rfl (lv_at hl 0 rfl) ?_
    refine va_get (D := G.1) (cl := vwCl) (own := RX6) (ref := "ExchangeFamiliesModel") (ci := 5) (v := .ref a2) (C := RX6) (T := TX6) (N := 25) hx hb hts k_X6_best_0 hown hK hP 0 rfl rfl 2 (by decide) (hts _ k_X6_best_1) (fun _ h9 => h9) rfl dX6_best_11 ?_
    refine lv_iload_n hx hb dX6_best_14 rfl (lv_at hl 1 rfl) ?_
    obtain ⟨hi, hm⟩ := gk_ix_some hm
    refine va_iald hx hb hK hP 2 0 rfl rfl hi dX6_best_15 ?_
    refine lv_iconst (v := -1) hx hb dX6_best_16 (by decide) ?_
    refine lv_icmp_ne (tgt := 23) hx hb dX6_best_17 (by decide) (fun c9 => ?_) (fun c9 => ?_)
    · have hm := gk_if c9 hm
      refine lv_iconst (v := -1) hx hb dX6_best_23 (by decide) ?_
      refine lv_istore_n (lv' := [(2, .int (-1 : Int32)), (0, .ref a0), (1, .int x1)]) hx hb dX6_best_24 rfl hl (by decide) rfl (fun ls hl => ?_)
      refine lv_iconst (v := 0) hx hb dX6_best_25 (by decide) ?_
      refine lv_istore_n (lv' := [(3, .int (0 : Int32)), (2, .int (-1 : Int32)), (0, .ref a0), (1, .int x1)]) hx hb dX6_best_26 rfl hl (by decide) rfl (fun ls hl => ?_)
      obtain ⟨e17, hq, hm⟩ := gk_bd1_some hm
      refine w_X6_best_L27 C hq (fun H locs ls h hl => ?_) ⟨hP, hD, hS⟩ (lv_sub hl [2, 3, 1, 0] rfl)
      obtain ⟨hP, hD, hS⟩ := h
      refine lv_iload_n hx hb dX6_best_72 rfl (lv_at hl 0 rfl) ?_
      rw [kr _ (Option.some.inj hm).symm]
      exact gk_iret C ⟨hP, hD, hS⟩ dX6_best_73
    · have hm := gk_it c9 hm
      refine lv_bipush (v := -11) hx hb dX6_best_20 (by decide) ?_
      rw [kr _ (Option.some.inj hm).symm]
      exact gk_iret C ⟨hP, hD, hS⟩ dX6_best_22
  · have hm := gk_it c8 hm
    refine lv_bipush (v := -2) hx hb dX6_best_7 (by decide) ?_
    rw [kr _ (Option.some.inj hm).symm]
    exact gk_iret C ⟨hP, hD, hS⟩ dX6_best_9
def m_X6_best (f_n : Int32) (f_members : (Nat → Int64)) (f_kind : (Nat → Int32)) (f_weight : (Nat → Int32)) (x1 : Int32) : Option (Int32) := m_X6_best_0 f_n f_members f_kind f_weight x1
theorem c_X6_best (l : Launch) (G : gk_G) (a0 a1 a2 a3 a4 a5 a6 a7 a8 a9 a10 a11 a12 a13 a14 a15 a16 a17 a18 a19 a20 a21 : Nat) (f_n : Int32) (f_keptN : Int32) (f_side : Int32) (f_rows : Int32) (f_members : (Nat → Int64)) (f_kind : (Nat → Int32)) (f_weight : (Nat → Int32)) (x1 : Int32) {rv : Int32} (hm : m_X6_best f_n f_members f_kind f_weight x1 = some rv) : gk_M l yX6_best wsX6_best rm_X6_best false G [.ref a0, .int x1] [(a0, .inr (5, [.int f_n, .ref a1, .ref a2, .ref a3, .ref a4, .int f_keptN, .ref a5, .ref a6, .ref a7, .ref a8, .ref a9, .ref a10, .ref a11, .ref a12, .ref a13, .ref a14, .ref a15, .ref a16, .int f_side, .ref a17, .ref a18, .ref a19, .int f_rows, .ref a20, .ref a21])), (a1, gk_J G 6 f_members), (a2, gk_I G 6 f_kind), (a3, gk_I G 6 f_weight)] (some (.int rv)) [(a0, .inr (5, [.int f_n, .ref a1, .ref a2, .ref a3, .ref a4, .int f_keptN, .ref a5, .ref a6, .ref a7, .ref a8, .ref a9, .ref a10, .ref a11, .ref a12, .ref a13, .ref a14, .ref a15, .ref a16, .int f_side, .ref a17, .ref a18, .ref a19, .int f_rows, .ref a20, .ref a21])), (a1, gk_J G 6 f_members), (a2, gk_I G 6 f_kind), (a3, gk_I G 6 f_weight)] :=
  gk_of (by decide) rfl (Nat.le_of_ble_eq_true rfl) (fun p e s m below meth c A ls C h hl => w_X6_best_0 C hm (fun v0 ez => by cases ez; rfl) h (show lv_has ls 4 [(0, .ref a0), (1, .int x1)] from hl))

