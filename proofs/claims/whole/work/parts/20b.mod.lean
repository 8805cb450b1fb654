/-! ===== ExchangeFamiliesModel.tabled(I)I ===== -/
abbrev rm_X6_tabled : Room := { frames := 7, cells := 0, slots := 0, locals := 325 }
theorem k_X6_tabled_0 : ∀ w ∈ u_ws RX6 TX6 25, w ∈ wsX6_tabled := by decide +kernel
theorem k_X6_tabled_1 : Cond.fieldLink RX6 9 "ExchangeFamiliesModel" "n" "I" ∈ wsX6_tabled := by decide +kernel
def m_X6_tabled_B15 (f_n : Int32) (f_members : (Nat → Int64)) (f_kind : (Nat → Int32)) (f_table : (Nat → Int32)) (x1 : Int32) (x2 : Int64) (x4 : Int32) (f_side : Int32) (f_square : (Nat → Int32)) (f_beside : (Nat → Int32)) (f_point : (Nat → Int32)) : Option ((Int64 × Int32 × Int32 × (Nat → Int32) × (Nat → Int32) × (Nat → Int32)) ⊕ (Int64 × Int32 × (Nat → Int32) × (Nat → Int32) × (Nat → Int32))) := (if ((1 : Int32) <<< (f_n &&& 31)) ≤ x4 then some (.inr (x2, f_side, f_square, f_beside, f_point)) else gk_bd5 (m_X6_wholeOf f_n f_side f_table f_square f_beside f_point x4) (fun r7 r8 r9 r10 r11 => (if r7 = (0 : Int32) then some (.inl (x2 ||| (0 : Int64), x4 + 1, r8, r9, r10, r11)) else some (.inl (x2 ||| ((1 : Int64) <<< (x4.toInt64 &&& 63)), x4 + 1, r8, r9, r10, r11)))))
set_option maxRecDepth 100000 in
set_option maxHeartbeats 4000000 in
theorem w_X6_tabled_B15 {p : Program} {l : Launch} {e : Env} {s : State} {m : MethodId} {args : Array Value} {below : List Frame} {meth : Method} {c : Code} {G : gk_G} {A : Nat → Prop} {Q : State → Prop} {a0 a1 a2 a3 a4 a5 a6 a7 a8 a9 a10 a11 a12 a13 a14 a15 a16 a17 a18 a19 a20 a21 : Nat} (C : gk_C p s m args meth c cX6_tabled 5 (some .int) yX6_tabled wsX6_tabled false G A) {f_n : Int32} {f_members : (Nat → Int64)} {f_kind : (Nat → Int32)} {f_table : (Nat → Int32)} {x1 : Int32} {x2 : Int64} {x4 : Int32} {f_side : Int32} {f_square : (Nat → Int32)} {f_beside : (Nat → Int32)} {f_point : (Nat → Int32)} {f_keptN : Int32} {f_rows : Int32} {yy : (Int64 × Int32 × Int32 × (Nat → Int32) × (Nat → Int32) × (Nat → Int32)) ⊕ (Int64 × Int32 × (Nat → Int32) × (Nat → Int32) × (Nat → Int32))} (hm : m_X6_tabled_B15 f_n f_members f_kind f_table x1 x2 x4 f_side f_square f_beside f_point = some yy) (kl : ∀ (x2 : Int64) (x4 : Int32) (f_side : Int32) (f_square : (Nat → Int32)) (f_beside : (Nat → Int32)) (f_point : (Nat → Int32)), yy = .inl (x2, x4, f_side, f_square, f_beside, f_point) → ∀ (H : Heap) (locs : List Loc) (ls : Array Slot), gk_H G A s [(a0, .inr (5, [.int f_n, .ref a1, .ref a2, .ref a3, .ref a4, .int f_keptN, .ref a5, .ref a6, .ref a7, .ref a8, .ref a9, .ref a10, .ref a11, .ref a12, .ref a13, .ref a14, .ref a15, .ref a16, .int f_side, .ref a17, .ref a18, .ref a19, .int f_rows, .ref a20, .ref a21])), (a1, gk_J G 6 f_members), (a2, gk_I G 6 f_kind), (a4, gk_I G 36 f_table), (a14, gk_I G 36 f_square), (a15, gk_I G 36 f_beside), (a16, gk_I G 6 f_point)] H locs → lv_has ls 5 [(0, .ref a0), (1, .int x1), (2, .long x2), (4, .int x4)] → W p l e rm_X6_tabled s m args below meth c H locs 0 0 Q (F0 m 15 ls [])) (kx : ∀ (x2 : Int64) (f_side : Int32) (f_square : (Nat → Int32)) (f_beside : (Nat → Int32)) (f_point : (Nat → Int32)), yy = .inr (x2, f_side, f_square, f_beside, f_point) → ∀ (H : Heap) (locs : List Loc) (ls : Array Slot), gk_H G A s [(a0, .inr (5, [.int f_n, .ref a1, .ref a2, .ref a3, .ref a4, .int f_keptN, .ref a5, .ref a6, .ref a7, .ref a8, .ref a9, .ref a10, .ref a11, .ref a12, .ref a13, .ref a14, .ref a15, .ref a16, .int f_side, .ref a17, .ref a18, .ref a19, .int f_rows, .ref a20, .ref a21])), (a1, gk_J G 6 f_members), (a2, gk_I G 6 f_kind), (a4, gk_I G 36 f_table), (a14, gk_I G 36 f_square), (a15, gk_I G 36 f_beside), (a16, gk_I G 6 f_point)] H locs → lv_has ls 5 [(0, .ref a0), (1, .int x1), (2, .long x2)] → W p l e rm_X6_tabled s m args below meth c H locs 0 0 Q (F0 m 52 ls [])) {H : Heap} {locs : List Loc} {ls : Array Slot} (h : gk_H G A s [(a0, .inr (5, [.int f_n, .ref a1, .ref a2, .ref a3, .ref a4, .int f_keptN, .ref a5, .ref a6, .ref a7, .ref a8, .ref a9, .ref a10, .ref a11, .ref a12, .ref a13, .ref a14, .ref a15, .ref a16, .int f_side, .ref a17, .ref a18, .ref a19, .int f_rows, .ref a20, .ref a21])), (a1, gk_J G 6 f_members), (a2, gk_I G 6 f_kind), (a4, gk_I G 36 f_table), (a14, gk_I G 36 f_square), (a15, gk_I G 36 f_beside), (a16, gk_I G 6 f_point)] H locs) (hl : lv_has ls 5 [(0, .ref a0), (1, .int x1), (2, .long x2), (4, .int x4)]) : W p l e rm_X6_tabled s m args below meth c H locs 0 0 Q (F0 m 15 ls []) := by
  obtain ⟨hx, hb, hml, hr, hown, hnm, hts, hlk, hK, hSt, hA⟩ := id C
  obtain ⟨hP, hD, hS⟩ := h
  unfold m_X6_tabled_B15 at hm
  refine lv_iload hx hb dX6_tabled_15 (lv_at hl 3 rfl) ?_
  refine lv_iconst (v := 1) hx hb dX6_tabled_17 (by decide) ?_
  refine lv_aload_n hx hb dX6_tabled_18 rfl (lv_at hl 0 rfl) ?_
  refine va_get (D := G.1) (cl := vwCl) (own := RX6) (ref := "ExchangeFamiliesModel") (ci := 5) (v := .int f_n) (C := RX6) (T := TX6) (N := 25) hx hb hts k_X6_tabled_0 hown hK hP 0 rfl rfl 0 (by decide) (hts _ k_X6_tabled_1) (fun _ h9 => h9) rfl dX6_tabled_19 ?_
  refine lv_ishl hx hb dX6_tabled_22 ?_
  refine lv_icmp_ge (tgt := 52) hx hb dX6_tabled_23 (by decide) (fun c6 => ?_) (fun c6 => ?_)
  · have hm := gk_it c6 hm
    exact kx _ _ _ _ _ (Option.some.inj hm).symm _ _ _ ⟨hP, hD, hS⟩ (lv_sub hl [0, 1, 2] rfl)
  · have hm := gk_if c6 hm
    refine lv_lload_n hx hb dX6_tabled_26 rfl (lv_at hl 2 rfl) ?_
    refine lv_aload_n hx hb dX6_tabled_27 rfl (lv_at hl 0 rfl) ?_
    refine lv_iload hx hb dX6_tabled_28 (lv_at hl 3 rfl) ?_
    obtain ⟨r7, r8, r9, r10, r11, hq, hm⟩ := gk_bd5_some hm
    refine gk_callV (n := 1) (bytes := cX6_wholeOf) (maxL := 6) (ret := (some .int)) (Cn := RX6) (T := TX6) (N := 25) [(a1, gk_J G 6 f_members), (a2, gk_I G 6 f_kind)] [(a0, .inr (5, [.int f_n, .ref a1, .ref a2, .ref a3, .ref a4, .int f_keptN, .ref a5, .ref a6, .ref a7, .ref a8, .ref a9, .ref a10, .ref a11, .ref a12, .ref a13, .ref a14, .ref a15, .ref a16, .int r8, .ref a17, .ref a18, .ref a19, .int f_rows, .ref a20, .ref a21])), (a1, gk_J G 6 f_members), (a2, gk_I G 6 f_kind), (a4, gk_I G 36 f_table), (a14, gk_I G 36 r9), (a15, gk_I G 36 r10), (a16, gk_I G 6 r11)] [.long x2] C ⟨hP, hD, hS⟩ (c_X6_wholeOf l G a0 a1 a2 a3 a4 a5 a6 a7 a8 a9 a10 a11 a12 a13 a14 a15 a16 a17 a18 a19 a20 a21 f_n f_keptN f_side f_rows f_table f_square f_beside f_point x4 hq) gX6_tabled_X6_wholeOf dX6_tabled_30 hl.1 [0, 3, 4, 5, 6] [1, 2] [2, 0, 1, 3, 4, 5, 6] rfl rfl ⟨rfl, rfl⟩ ⟨Nat.le_of_ble_eq_true rfl, Nat.le_of_ble_eq_true rfl⟩ ⟨rfl, by decide +kernel, by decide +kernel, by decide +kernel⟩ rfl (fun h => by cases h) (Nat.le_of_ble_eq_true rfl) rfl rfl rfl rfl (by decide) rfl rfl (fun H locs h => ?_)
    obtain ⟨hP, hD, hS⟩ := h
    refine lv_if_eq (tgt := 43) hx hb dX6_tabled_33 (by decide) (fun c12 => ?_) (fun c12 => ?_)
    · have hm := gk_it c12 hm
      refine lv_lconst (v := 0) hx hb dX6_tabled_43 (by decide) ?_
      refine lv_lor hx hb dX6_tabled_44 ?_
      refine lv_lstore_n (lv' := [(2, .long (x2 ||| (0 : Int64))), (0, .ref a0), (1, .int x1), (4, .int x4)]) hx hb dX6_tabled_45 rfl hl (by decide) rfl (fun ls hl => ?_)
      refine lv_iinc (v := x4 + 1) (lv' := [(4, .int (x4 + 1)), (2, .long (x2 ||| (0 : Int64))), (0, .ref a0), (1, .int x1)]) hx hb dX6_tabled_46 hl (k := 3) rfl rfl (by decide) rfl (fun ls hl => ?_)
      refine lv_goto (tgt := 15) hx hb dX6_tabled_49 (by decide) ?_
      exact kl _ _ _ _ _ _ (Option.some.inj hm).symm _ _ _ ⟨hP, hD, hS⟩ (lv_sub hl [2, 3, 1, 0] rfl)
    · have hm := gk_if c12 hm
      refine lv_lconst (v := 1) hx hb dX6_tabled_36 (by decide) ?_
      refine lv_iload hx hb dX6_tabled_37 (lv_at hl 3 rfl) ?_
      refine lv_lshl hx hb dX6_tabled_39 rfl ?_
      refine lv_goto (tgt := 44) hx hb dX6_tabled_40 (by decide) ?_
      refine lv_lor hx hb dX6_tabled_44 ?_
      refine lv_lstore_n (lv' := [(2, .long (x2 ||| ((1 : Int64) <<< (x4.toInt64 &&& 63)))), (0, .ref a0), (1, .int x1), (4, .int x4)]) hx hb dX6_tabled_45 rfl hl (by decide) rfl (fun ls hl => ?_)
      refine lv_iinc (v := x4 + 1) (lv' := [(4, .int (x4 + 1)), (2, .long (x2 ||| ((1 : Int64) <<< (x4.toInt64 &&& 63)))), (0, .ref a0), (1, .int x1)]) hx hb dX6_tabled_46 hl (k := 3) rfl rfl (by decide) rfl (fun ls hl => ?_)
      refine lv_goto (tgt := 15) hx hb dX6_tabled_49 (by decide) ?_
      exact kl _ _ _ _ _ _ (Option.some.inj hm).symm _ _ _ ⟨hP, hD, hS⟩ (lv_sub hl [2, 3, 1, 0] rfl)
set_option maxRecDepth 100000 in
set_option maxHeartbeats 4000000 in
theorem w_X6_tabled_L15 {p : Program} {l : Launch} {e : Env} {s : State} {m : MethodId} {args : Array Value} {below : List Frame} {meth : Method} {c : Code} {G : gk_G} {A : Nat → Prop} {Q : State → Prop} {a0 a1 a2 a3 a4 a5 a6 a7 a8 a9 a10 a11 a12 a13 a14 a15 a16 a17 a18 a19 a20 a21 : Nat} (C : gk_C p s m args meth c cX6_tabled 5 (some .int) yX6_tabled wsX6_tabled false G A) {f_n : Int32} {f_members : (Nat → Int64)} {f_kind : (Nat → Int32)} {f_table : (Nat → Int32)} {x1 : Int32} {x2 : Int64} {x4 : Int32} {f_side : Int32} {f_square : (Nat → Int32)} {f_beside : (Nat → Int32)} {f_point : (Nat → Int32)} {f_keptN : Int32} {f_rows : Int32} {k : Nat} {e_x2 : Int64} {e_f_side : Int32} {e_f_square : (Nat → Int32)} {e_f_beside : (Nat → Int32)} {e_f_point : (Nat → Int32)} (hm : gk_lp (fun z => m_X6_tabled_B15 f_n f_members f_kind f_table x1 z.1 z.2.1 z.2.2.1 z.2.2.2.1 z.2.2.2.2.1 z.2.2.2.2.2) k (x2, x4, f_side, f_square, f_beside, f_point) = some (e_x2, e_f_side, e_f_square, e_f_beside, e_f_point)) (kx : ∀ (H : Heap) (locs : List Loc) (ls : Array Slot), gk_H G A s [(a0, .inr (5, [.int f_n, .ref a1, .ref a2, .ref a3, .ref a4, .int f_keptN, .ref a5, .ref a6, .ref a7, .ref a8, .ref a9, .ref a10, .ref a11, .ref a12, .ref a13, .ref a14, .ref a15, .ref a16, .int e_f_side, .ref a17, .ref a18, .ref a19, .int f_rows, .ref a20, .ref a21])), (a1, gk_J G 6 f_members), (a2, gk_I G 6 f_kind), (a4, gk_I G 36 f_table), (a14, gk_I G 36 e_f_square), (a15, gk_I G 36 e_f_beside), (a16, gk_I G 6 e_f_point)] H locs → lv_has ls 5 [(0, .ref a0), (1, .int x1), (2, .long e_x2)] → W p l e rm_X6_tabled s m args below meth c H locs 0 0 Q (F0 m 52 ls [])) {H : Heap} {locs : List Loc} {ls : Array Slot} (h : gk_H G A s [(a0, .inr (5, [.int f_n, .ref a1, .ref a2, .ref a3, .ref a4, .int f_keptN, .ref a5, .ref a6, .ref a7, .ref a8, .ref a9, .ref a10, .ref a11, .ref a12, .ref a13, .ref a14, .ref a15, .ref a16, .int f_side, .ref a17, .ref a18, .ref a19, .int f_rows, .ref a20, .ref a21])), (a1, gk_J G 6 f_members), (a2, gk_I G 6 f_kind), (a4, gk_I G 36 f_table), (a14, gk_I G 36 f_square), (a15, gk_I G 36 f_beside), (a16, gk_I G 6 f_point)] H locs) (hl : lv_has ls 5 [(0, .ref a0), (1, .int x1), (2, .long x2), (4, .int x4)]) : W p l e rm_X6_tabled s m args below meth c H locs 0 0 Q (F0 m 15 ls []) :=
  gk_lp_some (P := fun z => ∀ (H : Heap) (locs : List Loc) (ls : Array Slot), gk_H G A s [(a0, .inr (5, [.int f_n, .ref a1, .ref a2, .ref a3, .ref a4, .int f_keptN, .ref a5, .ref a6, .ref a7, .ref a8, .ref a9, .ref a10, .ref a11, .ref a12, .ref a13, .ref a14, .ref a15, .ref a16, .int z.2.2.1, .ref a17, .ref a18, .ref a19, .int f_rows, .ref a20, .ref a21])), (a1, gk_J G 6 f_members), (a2, gk_I G 6 f_kind), (a4, gk_I G 36 f_table), (a14, gk_I G 36 z.2.2.2.1), (a15, gk_I G 36 z.2.2.2.2.1), (a16, gk_I G 6 z.2.2.2.2.2)] H locs → lv_has ls 5 [(0, .ref a0), (1, .int x1), (2, .long z.1), (4, .int z.2.1)] → W p l e rm_X6_tabled s m args below meth c H locs 0 0 Q (F0 m 15 ls [])) (E := fun r => (∀ (x2 : Int64) (f_side : Int32) (f_square : (Nat → Int32)) (f_beside : (Nat → Int32)) (f_point : (Nat → Int32)), r = (x2, f_side, f_square, f_beside, f_point) → ∀ (H : Heap) (locs : List Loc) (ls : Array Slot), gk_H G A s [(a0, .inr (5, [.int f_n, .ref a1, .ref a2, .ref a3, .ref a4, .int f_keptN, .ref a5, .ref a6, .ref a7, .ref a8, .ref a9, .ref a10, .ref a11, .ref a12, .ref a13, .ref a14, .ref a15, .ref a16, .int f_side, .ref a17, .ref a18, .ref a19, .int f_rows, .ref a20, .ref a21])), (a1, gk_J G 6 f_members), (a2, gk_I G 6 f_kind), (a4, gk_I G 36 f_table), (a14, gk_I G 36 f_square), (a15, gk_I G 36 f_beside), (a16, gk_I G 6 f_point)] H locs → lv_has ls 5 [(0, .ref a0), (1, .int x1), (2, .long x2)] → W p l e rm_X6_tabled s m args below meth c H locs 0 0 Q (F0 m 52 ls []))) (fun z x hf kl ke H locs ls h hl => w_X6_tabled_B15 C hf (fun v0 v1 v2 v3 v4 v5 ez => kl (v0, v1, v2, v3, v4, v5) ez) (fun v0 v1 v2 v3 v4 ez => ke _ ez v0 v1 v2 v3 v4 rfl) h hl) k (x2, x4, f_side, f_square, f_beside, f_point) _ hm (fun v0 v1 v2 v3 v4 ez => (by cases ez; exact kx)) _ _ _ h hl
def m_X6_tabled_0 (f_n : Int32) (f_side : Int32) (f_members : (Nat → Int64)) (f_kind : (Nat → Int32)) (f_table : (Nat → Int32)) (f_square : (Nat → Int32)) (f_beside : (Nat → Int32)) (f_point : (Nat → Int32)) (x1 : Int32) : Option (Int32 × Int32 × (Nat → Int64) × (Nat → Int32) × (Nat → Int32) × (Nat → Int32) × (Nat → Int32)) := gk_bd1 (m_X6_isFamily x1) (fun r4 => (if r4 = (0 : Int32) then some ((-2 : Int32), f_side, f_members, f_kind, f_square, f_beside, f_point) else gk_bd5 (gk_lp (fun z => m_X6_tabled_B15 f_n f_members f_kind f_table x1 z.1 z.2.1 z.2.2.1 z.2.2.2.1 z.2.2.2.2.1 z.2.2.2.2.2) gk_fu ((0 : Int64), (0 : Int32), f_side, f_square, f_beside, f_point)) (fun e13 e14 e15 e16 e17 => gk_bd3 (m_X6_becomes f_members f_kind x1 (2 : Int32) e13) (fun r18 r19 r20 => some (r18, e14, r19, r20, e15, e16, e17)))))
set_option maxRecDepth 100000 in
set_option maxHeartbeats 4000000 in
theorem w_X6_tabled_0 {p : Program} {l : Launch} {e : Env} {s : State} {m : MethodId} {args : Array Value} {below : List Frame} {meth : Method} {c : Code} {G : gk_G} {A : Nat → Prop} {Q : State → Prop} {a0 a1 a2 a3 a4 a5 a6 a7 a8 a9 a10 a11 a12 a13 a14 a15 a16 a17 a18 a19 a20 a21 : Nat} (C : gk_C p s m args meth c cX6_tabled 5 (some .int) yX6_tabled wsX6_tabled false G A) {f_n : Int32} {f_side : Int32} {f_members : (Nat → Int64)} {f_kind : (Nat → Int32)} {f_table : (Nat → Int32)} {f_square : (Nat → Int32)} {f_beside : (Nat → Int32)} {f_point : (Nat → Int32)} {x1 : Int32} {f_keptN : Int32} {f_rows : Int32} {yy : Int32 × Int32 × (Nat → Int64) × (Nat → Int32) × (Nat → Int32) × (Nat → Int32) × (Nat → Int32)} (hm : m_X6_tabled_0 f_n f_side f_members f_kind f_table f_square f_beside f_point x1 = some yy) (kr : ∀ (rv : Int32) (g_side : Int32) (g_members : (Nat → Int64)) (g_kind : (Nat → Int32)) (g_square : (Nat → Int32)) (g_beside : (Nat → Int32)) (g_point : (Nat → Int32)), yy = (rv, g_side, g_members, g_kind, g_square, g_beside, g_point) → Q = MQ below (gk_Q G (some (.int rv)) [(a0, .inr (5, [.int f_n, .ref a1, .ref a2, .ref a3, .ref a4, .int f_keptN, .ref a5, .ref a6, .ref a7, .ref a8, .ref a9, .ref a10, .ref a11, .ref a12, .ref a13, .ref a14, .ref a15, .ref a16, .int g_side, .ref a17, .ref a18, .ref a19, .int f_rows, .ref a20, .ref a21])), (a1, gk_J G 6 g_members), (a2, gk_I G 6 g_kind), (a4, gk_I G 36 f_table), (a14, gk_I G 36 g_square), (a15, gk_I G 36 g_beside), (a16, gk_I G 6 g_point)] A) args s 0 0 A) {H : Heap} {locs : List Loc} {ls : Array Slot} (h : gk_H G A s [(a0, .inr (5, [.int f_n, .ref a1, .ref a2, .ref a3, .ref a4, .int f_keptN, .ref a5, .ref a6, .ref a7, .ref a8, .ref a9, .ref a10, .ref a11, .ref a12, .ref a13, .ref a14, .ref a15, .ref a16, .int f_side, .ref a17, .ref a18, .ref a19, .int f_rows, .ref a20, .ref a21])), (a1, gk_J G 6 f_members), (a2, gk_I G 6 f_kind), (a4, gk_I G 36 f_table), (a14, gk_I G 36 f_square), (a15, gk_I G 36 f_beside), (a16, gk_I G 6 f_point)] H locs) (hl : lv_has ls 5 [(0, .ref a0), (1, .int x1)]) : W p l e rm_X6_tabled s m args below meth c H locs 0 0 Q (F0 m 0 ls []) := by
  obtain ⟨hx, hb, hml, hr, hown, hnm, hts, hlk, hK, hSt, hA⟩ := id C
  obtain ⟨hP, hD, hS⟩ := h
  unfold m_X6_tabled_0 at hm
  refine lv_iload_n hx hb dX6_tabled_0 rfl (lv_at hl 1 rfl) ?_
  obtain ⟨r4, hq, hm⟩ := gk_bd1_some hm
  refine gk_callS (n := 1) (bytes := cX6_isFamily) (maxL := 1) (ret := (some .boolean)) [(a0, .inr (5, [.int f_n, .ref a1, .ref a2, .ref a3, .ref a4, .int f_keptN, .ref a5, .ref a6, .ref a7, .ref a8, .ref a9, .ref a10, .ref a11, .ref a12, .ref a13, .ref a14, .ref a15, .ref a16, .int f_side, .ref a17, .ref a18, .ref a19, .int f_rows, .ref a20, .ref a21])), (a1, gk_J G 6 f_members), (a2, gk_I G 6 f_kind), (a4, gk_I G 36 f_table), (a14, gk_I G 36 f_square), (a15, gk_I G 36 f_beside), (a16, gk_I G 6 f_point)] [(a0, .inr (5, [.int f_n, .ref a1, .ref a2, .ref a3, .ref a4, .int f_keptN, .ref a5, .ref a6, .ref a7, .ref a8, .ref a9, .ref a10, .ref a11, .ref a12, .ref a13, .ref a14, .ref a15, .ref a16, .int f_side, .ref a17, .ref a18, .ref a19, .int f_rows, .ref a20, .ref a21])), (a1, gk_J G 6 f_members), (a2, gk_I G 6 f_kind), (a4, gk_I G 36 f_table), (a14, gk_I G 36 f_square), (a15, gk_I G 36 f_beside), (a16, gk_I G 6 f_point)] [] C ⟨hP, hD, hS⟩ (c_X6_isFamily l G x1 hq) gX6_tabled_X6_isFamily dX6_tabled_1 hl.1 [] [0, 1, 2, 3, 4, 5, 6] [0, 1, 2, 3, 4, 5, 6] rfl ⟨rfl, rfl⟩ ⟨Nat.le_of_ble_eq_true rfl, Nat.le_of_ble_eq_true rfl⟩ ⟨by decide +kernel, by decide +kernel, by decide +kernel⟩ rfl (fun h => by cases h) (Nat.le_of_ble_eq_true rfl) rfl rfl rfl rfl (by decide) rfl rfl (fun H locs h => ?_)
  obtain ⟨hP, hD, hS⟩ := h
  refine lv_if_ne (tgt := 10) hx hb dX6_tabled_4 (by decide) (fun c5 => ?_) (fun c5 => ?_)
  · have hm := gk_if c5 hm
    refine lv_lconst (v := 0) hx hb dX6_tabled_10 (by decide) ?_
    refine lv_lstore_n (lv' := [(2, .long (0 : Int64)), (0, .ref a0), (1, .int x1)]) hx hb dX6_tabled_11 rfl hl (by decide) rfl (fun ls hl => ?_)
    refine lv_iconst (v := 0) hx hb dX6_tabled_12 (by decide) ?_
    refine lv_istore (lv' := [(4, .int (0 : Int32)), (2, .long (0 : Int64)), (0, .ref a0), (1, .int x1)]) hx hb dX6_tabled_13 hl (by decide) rfl (fun ls hl => ?_)
    obtain ⟨e13, e14, e15, e16, e17, hq, hm⟩ := gk_bd5_some hm
    refine w_X6_tabled_L15 C hq (fun H locs ls h hl => ?_) ⟨hP, hD, hS⟩ (lv_sub hl [2, 3, 1, 0] rfl)
    obtain ⟨hP, hD, hS⟩ := h
    refine lv_aload_n hx hb dX6_tabled_52 rfl (lv_at hl 0 rfl) ?_
    refine lv_iload_n hx hb dX6_tabled_53 rfl (lv_at hl 1 rfl) ?_
    refine lv_iconst (v := 2) hx hb dX6_tabled_54 (by decide) ?_
    refine lv_lload_n hx hb dX6_tabled_55 rfl (lv_at hl 2 rfl) ?_
    obtain ⟨r18, r19, r20, hq, hm⟩ := gk_bd3_some hm
    refine gk_callV (n := 3) (bytes := cX6_becomes) (maxL := 5) (ret := (some .int)) (Cn := RX6) (T := TX6) (N := 25) [(a4, gk_I G 36 f_table), (a14, gk_I G 36 e15), (a15, gk_I G 36 e16), (a16, gk_I G 6 e17)] [(a0, .inr (5, [.int f_n, .ref a1, .ref a2, .ref a3, .ref a4, .int f_keptN, .ref a5, .ref a6, .ref a7, .ref a8, .ref a9, .ref a10, .ref a11, .ref a12, .ref a13, .ref a14, .ref a15, .ref a16, .int e14, .ref a17, .ref a18, .ref a19, .int f_rows, .ref a20, .ref a21])), (a1, gk_J G 6 r19), (a2, gk_I G 6 r20), (a4, gk_I G 36 f_table), (a14, gk_I G 36 e15), (a15, gk_I G 36 e16), (a16, gk_I G 6 e17)] [] C ⟨hP, hD, hS⟩ (c_X6_becomes l G a0 a1 a2 a3 a4 a5 a6 a7 a8 a9 a10 a11 a12 a13 a14 a15 a16 a17 a18 a19 a20 a21 f_n f_keptN e14 f_rows f_members f_kind x1 (2 : Int32) e13 hq) gX6_tabled_X6_becomes dX6_tabled_56 hl.1 [0, 1, 2] [3, 4, 5, 6] [4, 5, 6, 0, 1, 2, 3] rfl rfl ⟨rfl, rfl⟩ ⟨Nat.le_of_ble_eq_true rfl, Nat.le_of_ble_eq_true rfl⟩ ⟨rfl, by decide +kernel, by decide +kernel, by decide +kernel⟩ rfl (fun h => by cases h) (Nat.le_of_ble_eq_true rfl) rfl rfl rfl rfl (by decide) rfl rfl (fun H locs h => ?_)
    obtain ⟨hP, hD, hS⟩ := h
    rw [kr _ _ _ _ _ _ _ (Option.some.inj hm).symm]
    exact gk_iret C ⟨hP, hD, hS⟩ dX6_tabled_59
  · have hm := gk_it c5 hm
    refine lv_bipush (v := -2) hx hb dX6_tabled_7 (by decide) ?_
    rw [kr _ _ _ _ _ _ _ (Option.some.inj hm).symm]
    exact gk_iret C ⟨hP, hD, hS⟩ dX6_tabled_9
def m_X6_tabled (f_n : Int32) (f_side : Int32) (f_members : (Nat → Int64)) (f_kind : (Nat → Int32)) (f_table : (Nat → Int32)) (f_square : (Nat → Int32)) (f_beside : (Nat → Int32)) (f_point : (Nat → Int32)) (x1 : Int32) : Option (Int32 × Int32 × (Nat → Int64) × (Nat → Int32) × (Nat → Int32) × (Nat → Int32) × (Nat → Int32)) := m_X6_tabled_0 f_n f_side f_members f_kind f_table f_square f_beside f_point x1
theorem c_X6_tabled (l : Launch) (G : gk_G) (a0 a1 a2 a3 a4 a5 a6 a7 a8 a9 a10 a11 a12 a13 a14 a15 a16 a17 a18 a19 a20 a21 : Nat) (f_n : Int32) (f_keptN : Int32) (f_side : Int32) (f_rows : Int32) (f_members : (Nat → Int64)) (f_kind : (Nat → Int32)) (f_table : (Nat → Int32)) (f_square : (Nat → Int32)) (f_beside : (Nat → Int32)) (f_point : (Nat → Int32)) (x1 : Int32) {rv : Int32} {g_side : Int32} {g_members : (Nat → Int64)} {g_kind : (Nat → Int32)} {g_square : (Nat → Int32)} {g_beside : (Nat → Int32)} {g_point : (Nat → Int32)} (hm : m_X6_tabled f_n f_side f_members f_kind f_table f_square f_beside f_point x1 = some (rv, g_side, g_members, g_kind, g_square, g_beside, g_point)) : gk_M l yX6_tabled wsX6_tabled rm_X6_tabled false G [.ref a0, .int x1] [(a0, .inr (5, [.int f_n, .ref a1, .ref a2, .ref a3, .ref a4, .int f_keptN, .ref a5, .ref a6, .ref a7, .ref a8, .ref a9, .ref a10, .ref a11, .ref a12, .ref a13, .ref a14, .ref a15, .ref a16, .int f_side, .ref a17, .ref a18, .ref a19, .int f_rows, .ref a20, .ref a21])), (a1, gk_J G 6 f_members), (a2, gk_I G 6 f_kind), (a4, gk_I G 36 f_table), (a14, gk_I G 36 f_square), (a15, gk_I G 36 f_beside), (a16, gk_I G 6 f_point)] (some (.int rv)) [(a0, .inr (5, [.int f_n, .ref a1, .ref a2, .ref a3, .ref a4, .int f_keptN, .ref a5, .ref a6, .ref a7, .ref a8, .ref a9, .ref a10, .ref a11, .ref a12, .ref a13, .ref a14, .ref a15, .ref a16, .int g_side, .ref a17, .ref a18, .ref a19, .int f_rows, .ref a20, .ref a21])), (a1, gk_J G 6 g_members), (a2, gk_I G 6 g_kind), (a4, gk_I G 36 f_table), (a14, gk_I G 36 g_square), (a15, gk_I G 36 g_beside), (a16, gk_I G 6 g_point)] :=
  gk_of (by decide) rfl (Nat.le_of_ble_eq_true rfl) (fun p e s m below meth c A ls C h hl => w_X6_tabled_0 C hm (fun v0 v1 v2 v3 v4 v5 v6 ez => by cases ez; rfl) h (show lv_has ls 5 [(0, .ref a0), (1, .int x1)] from hl))

/-! ===== ExchangeFamiliesModel.twisted(JI)J ===== -/
abbrev rm_X6_twisted : Room := { frames := 1, cells := 0, slots := 0, locals := 64 }
theorem k_X6_twisted_0 : ∀ w ∈ u_ws RX6 TX6 25, w ∈ wsX6_twisted := by decide +kernel
theorem k_X6_twisted_1 : Cond.fieldLink RX6 9 "ExchangeFamiliesModel" "n" "I" ∈ wsX6_twisted := by decide +kernel
def m_X6_twisted_B6 (f_n : Int32) (x1 : Int64) (x3 : Int32) (x4 : Int64) (x6 : Int32) : Option ((Int64 × Int32) ⊕ (Int64)) := (if ((1 : Int32) <<< (f_n &&& 31)) ≤ x6 then some (.inr x4) else some (.inl (x4 ||| (((x1 >>> (x6.toInt64 &&& 63)) &&& (1 : Int64)) <<< ((x6 ^^^ x3).toInt64 &&& 63)), x6 + 1)))
set_option maxRecDepth 100000 in
set_option maxHeartbeats 4000000 in
theorem w_X6_twisted_B6 {p : Program} {l : Launch} {e : Env} {s : State} {m : MethodId} {args : Array Value} {below : List Frame} {meth : Method} {c : Code} {G : gk_G} {A : Nat → Prop} {Q : State → Prop} {a0 a1 a2 a3 a4 a5 a6 a7 a8 a9 a10 a11 a12 a13 a14 a15 a16 a17 a18 a19 a20 a21 : Nat} (C : gk_C p s m args meth c cX6_twisted 7 (some .long) yX6_twisted wsX6_twisted false G A) {f_n : Int32} {x1 : Int64} {x3 : Int32} {x4 : Int64} {x6 : Int32} {f_keptN : Int32} {f_side : Int32} {f_rows : Int32} {yy : (Int64 × Int32) ⊕ (Int64)} (hm : m_X6_twisted_B6 f_n x1 x3 x4 x6 = some yy) (kl : ∀ (x4 : Int64) (x6 : Int32), yy = .inl (x4, x6) → ∀ (H : Heap) (locs : List Loc) (ls : Array Slot), gk_H G A s [(a0, .inr (5, [.int f_n, .ref a1, .ref a2, .ref a3, .ref a4, .int f_keptN, .ref a5, .ref a6, .ref a7, .ref a8, .ref a9, .ref a10, .ref a11, .ref a12, .ref a13, .ref a14, .ref a15, .ref a16, .int f_side, .ref a17, .ref a18, .ref a19, .int f_rows, .ref a20, .ref a21]))] H locs → lv_has ls 7 [(0, .ref a0), (1, .long x1), (3, .int x3), (4, .long x4), (6, .int x6)] → W p l e rm_X6_twisted s m args below meth c H locs 0 0 Q (F0 m 6 ls [])) (kx : ∀ (x4 : Int64), yy = .inr x4 → ∀ (H : Heap) (locs : List Loc) (ls : Array Slot), gk_H G A s [(a0, .inr (5, [.int f_n, .ref a1, .ref a2, .ref a3, .ref a4, .int f_keptN, .ref a5, .ref a6, .ref a7, .ref a8, .ref a9, .ref a10, .ref a11, .ref a12, .ref a13, .ref a14, .ref a15, .ref a16, .int f_side, .ref a17, .ref a18, .ref a19, .int f_rows, .ref a20, .ref a21]))] H locs → lv_has ls 7 [(4, .long x4)] → W p l e rm_X6_twisted s m args below meth c H locs 0 0 Q (F0 m 39 ls [])) {H : Heap} {locs : List Loc} {ls : Array Slot} (h : gk_H G A s [(a0, .inr (5, [.int f_n, .ref a1, .ref a2, .ref a3, .ref a4, .int f_keptN, .ref a5, .ref a6, .ref a7, .ref a8, .ref a9, .ref a10, .ref a11, .ref a12, .ref a13, .ref a14, .ref a15, .ref a16, .int f_side, .ref a17, .ref a18, .ref a19, .int f_rows, .ref a20, .ref a21]))] H locs) (hl : lv_has ls 7 [(0, .ref a0), (1, .long x1), (3, .int x3), (4, .long x4), (6, .int x6)]) : W p l e rm_X6_twisted s m args below meth c H locs 0 0 Q (F0 m 6 ls []) := by
  obtain ⟨hx, hb, hml, hr, hown, hnm, hts, hlk, hK, hSt, hA⟩ := id C
  obtain ⟨hP, hD, hS⟩ := h
  unfold m_X6_twisted_B6 at hm
  refine lv_iload hx hb dX6_twisted_6 (lv_at hl 4 rfl) ?_
  refine lv_iconst (v := 1) hx hb dX6_twisted_8 (by decide) ?_
  refine lv_aload_n hx hb dX6_twisted_9 rfl (lv_at hl 0 rfl) ?_
  refine va_get (D := G.1) (cl := vwCl) (own := RX6) (ref := "ExchangeFamiliesModel") (ci := 5) (v := .int f_n) (C := RX6) (T := TX6) (N := 25) hx hb hts k_X6_twisted_0 hown hK hP 0 rfl rfl 0 (by decide) (hts _ k_X6_twisted_1) (fun _ h9 => h9) rfl dX6_twisted_10 ?_
  refine lv_ishl hx hb dX6_twisted_13 ?_
  refine lv_icmp_ge (tgt := 39) hx hb dX6_twisted_14 (by decide) (fun c2 => ?_) (fun c2 => ?_)
  · have hm := gk_it c2 hm
    exact kx _ (Option.some.inj hm).symm _ _ _ ⟨hP, hD, hS⟩ (lv_sub hl [3] rfl)
  · have hm := gk_if c2 hm
    refine lv_lload hx hb dX6_twisted_17 (lv_at hl 3 rfl) ?_
    refine lv_lload_n hx hb dX6_twisted_19 rfl (lv_at hl 1 rfl) ?_
    refine lv_iload hx hb dX6_twisted_20 (lv_at hl 4 rfl) ?_
    refine lv_lshr hx hb dX6_twisted_22 rfl ?_
    refine lv_lconst (v := 1) hx hb dX6_twisted_23 (by decide) ?_
    refine lv_land hx hb dX6_twisted_24 ?_
    refine lv_iload hx hb dX6_twisted_25 (lv_at hl 4 rfl) ?_
    refine lv_iload_n hx hb dX6_twisted_27 rfl (lv_at hl 2 rfl) ?_
    refine lv_ixor hx hb dX6_twisted_28 ?_
    refine lv_lshl hx hb dX6_twisted_29 rfl ?_
    refine lv_lor hx hb dX6_twisted_30 ?_
    refine lv_lstore (lv' := [(4, .long (x4 ||| (((x1 >>> (x6.toInt64 &&& 63)) &&& (1 : Int64)) <<< ((x6 ^^^ x3).toInt64 &&& 63)))), (0, .ref a0), (1, .long x1), (3, .int x3), (6, .int x6)]) hx hb dX6_twisted_31 hl (by decide) rfl (fun ls hl => ?_)
    refine lv_iinc (v := x6 + 1) (lv' := [(6, .int (x6 + 1)), (4, .long (x4 ||| (((x1 >>> (x6.toInt64 &&& 63)) &&& (1 : Int64)) <<< ((x6 ^^^ x3).toInt64 &&& 63)))), (0, .ref a0), (1, .long x1), (3, .int x3)]) hx hb dX6_twisted_33 hl (k := 4) rfl rfl (by decide) rfl (fun ls hl => ?_)
    refine lv_goto (tgt := 6) hx hb dX6_twisted_36 (by decide) ?_
    exact kl _ _ (Option.some.inj hm).symm _ _ _ ⟨hP, hD, hS⟩ (lv_sub hl [2, 3, 4, 1, 0] rfl)
set_option maxRecDepth 100000 in
set_option maxHeartbeats 4000000 in
theorem w_X6_twisted_L6 {p : Program} {l : Launch} {e : Env} {s : State} {m : MethodId} {args : Array Value} {below : List Frame} {meth : Method} {c : Code} {G : gk_G} {A : Nat → Prop} {Q : State → Prop} {a0 a1 a2 a3 a4 a5 a6 a7 a8 a9 a10 a11 a12 a13 a14 a15 a16 a17 a18 a19 a20 a21 : Nat} (C : gk_C p s m args meth c cX6_twisted 7 (some .long) yX6_twisted wsX6_twisted false G A) {f_n : Int32} {x1 : Int64} {x3 : Int32} {x4 : Int64} {x6 : Int32} {f_keptN : Int32} {f_side : Int32} {f_rows : Int32} {k : Nat} {e_x4 : Int64} (hm : gk_lp (fun z => m_X6_twisted_B6 f_n x1 x3 z.1 z.2) k (x4, x6) = some e_x4) (kx : ∀ (H : Heap) (locs : List Loc) (ls : Array Slot), gk_H G A s [(a0, .inr (5, [.int f_n, .ref a1, .ref a2, .ref a3, .ref a4, .int f_keptN, .ref a5, .ref a6, .ref a7, .ref a8, .ref a9, .ref a10, .ref a11, .ref a12, .ref a13, .ref a14, .ref a15, .ref a16, .int f_side, .ref a17, .ref a18, .ref a19, .int f_rows, .ref a20, .ref a21]))] H locs → lv_has ls 7 [(4, .long e_x4)] → W p l e rm_X6_twisted s m args below meth c H locs 0 0 Q (F0 m 39 ls [])) {H : Heap} {locs : List Loc} {ls : Array Slot} (h : gk_H G A s [(a0, .inr (5, [.int f_n, .ref a1, .ref a2, .ref a3, .ref a4, .int f_keptN, .ref a5, .ref a6, .ref a7, .ref a8, .ref a9, .ref a10, .ref a11, .ref a12, .ref a13, .ref a14, .ref a15, .ref a16, .int f_side, .ref a17, .ref a18, .ref a19, .int f_rows, .ref a20, .ref a21]))] H locs) (hl : lv_has ls 7 [(0, .ref a0), (1, .long x1), (3, .int x3), (4, .long x4), (6, .int x6)]) : W p l e rm_X6_twisted s m args below meth c H locs 0 0 Q (F0 m 6 ls []) :=
  gk_lp_some (P := fun z => ∀ (H : Heap) (locs : List Loc) (ls : Array Slot), gk_H G A s [(a0, .inr (5, [.int f_n, .ref a1, .ref a2, .ref a3, .ref a4, .int f_keptN, .ref a5, .ref a6, .ref a7, .ref a8, .ref a9, .ref a10, .ref a11, .ref a12, .ref a13, .ref a14, .ref a15, .ref a16, .int f_side, .ref a17, .ref a18, .ref a19, .int f_rows, .ref a20, .ref a21]))] H locs → lv_has ls 7 [(0, .ref a0), (1, .long x1), (3, .int x3), (4, .long z.1), (6, .int z.2)] → W p l e rm_X6_twisted s m args below meth c H locs 0 0 Q (F0 m 6 ls [])) (E := fun r => (∀ (x4 : Int64), r = x4 → ∀ (H : Heap) (locs : List Loc) (ls : Array Slot), gk_H G A s [(a0, .inr (5, [.int f_n, .ref a1, .ref a2, .ref a3, .ref a4, .int f_keptN, .ref a5, .ref a6, .ref a7, .ref a8, .ref a9, .ref a10, .ref a11, .ref a12, .ref a13, .ref a14, .ref a15, .ref a16, .int f_side, .ref a17, .ref a18, .ref a19, .int f_rows, .ref a20, .ref a21]))] H locs → lv_has ls 7 [(4, .long x4)] → W p l e rm_X6_twisted s m args below meth c H locs 0 0 Q (F0 m 39 ls []))) (fun z x hf kl ke H locs ls h hl => w_X6_twisted_B6 C hf (fun v0 v1 ez => kl (v0, v1) ez) (fun v0 ez => ke _ ez v0 rfl) h hl) k (x4, x6) _ hm (fun v0 ez => (by cases ez; exact kx)) _ _ _ h hl
def m_X6_twisted_0 (f_n : Int32) (x1 : Int64) (x3 : Int32) : Option (Int64) := gk_bd1 (gk_lp (fun z => m_X6_twisted_B6 f_n x1 x3 z.1 z.2) gk_fu ((0 : Int64), (0 : Int32))) (fun e3 => some e3)
set_option maxRecDepth 100000 in
set_option maxHeartbeats 4000000 in
theorem w_X6_twisted_0 {p : Program} {l : Launch} {e : Env} {s : State} {m : MethodId} {args : Array Value} {below : List Frame} {meth : Method} {c : Code} {G : gk_G} {A : Nat → Prop} {Q : State → Prop} {a0 a1 a2 a3 a4 a5 a6 a7 a8 a9 a10 a11 a12 a13 a14 a15 a16 a17 a18 a19 a20 a21 : Nat} (C : gk_C p s m args meth c cX6_twisted 7 (some .long) yX6_twisted wsX6_twisted false G A) {f_n : Int32} {x1 : Int64} {x3 : Int32} {f_keptN : Int32} {f_side : Int32} {f_rows : Int32} {yy : Int64} (hm : m_X6_twisted_0 f_n x1 x3 = some yy) (kr : ∀ (rv : Int64), yy = rv → Q = MQ below (gk_Q G (some (.long rv)) [(a0, .inr (5, [.int f_n, .ref a1, .ref a2, .ref a3, .ref a4, .int f_keptN, .ref a5, .ref a6, .ref a7, .ref a8, .ref a9, .ref a10, .ref a11, .ref a12, .ref a13, .ref a14, .ref a15, .ref a16, .int f_side, .ref a17, .ref a18, .ref a19, .int f_rows, .ref a20, .ref a21]))] A) args s 0 0 A) {H : Heap} {locs : List Loc} {ls : Array Slot} (h : gk_H G A s [(a0, .inr (5, [.int f_n, .ref a1, .ref a2, .ref a3, .ref a4, .int f_keptN, .ref a5, .ref a6, .ref a7, .ref a8, .ref a9, .ref a10, .ref a11, .ref a12, .ref a13, .ref a14, .ref a15, .ref a16, .int f_side, .ref a17, .ref a18, .ref a19, .int f_rows, .ref a20, .ref a21]))] H locs) (hl : lv_has ls 7 [(0, .ref a0), (1, .long x1), (3, .int x3)]) : W p l e rm_X6_twisted s m args below meth c H locs 0 0 Q (F0 m 0 ls []) := by
  obtain ⟨hx, hb, hml, hr, hown, hnm, hts, hlk, hK, hSt, hA⟩ := id C
  obtain ⟨hP, hD, hS⟩ := h
  unfold m_X6_twisted_0 at hm
  refine lv_lconst (v := 0) hx hb dX6_twisted_0 (by decide) ?_
  refine lv_lstore (lv' := [(4, .long (0 : Int64)), (0, .ref a0), (1, .long x1), (3, .int x3)]) hx hb dX6_twisted_1 hl (by decide) rfl (fun ls hl => ?_)
  refine lv_iconst (v := 0) hx hb dX6_twisted_3 (by decide) ?_
  refine lv_istore (lv' := [(6, .int (0 : Int32)), (4, .long (0 : Int64)), (0, .ref a0), (1, .long x1), (3, .int x3)]) hx hb dX6_twisted_4 hl (by decide) rfl (fun ls hl => ?_)
  obtain ⟨e3, hq, hm⟩ := gk_bd1_some hm
  refine w_X6_twisted_L6 C hq (fun H locs ls h hl => ?_) ⟨hP, hD, hS⟩ (lv_sub hl [2, 3, 4, 1, 0] rfl)
  obtain ⟨hP, hD, hS⟩ := h
  refine lv_lload hx hb dX6_twisted_39 (lv_at hl 0 rfl) ?_
  rw [kr _ (Option.some.inj hm).symm]
  exact gk_lret C ⟨hP, hD, hS⟩ dX6_twisted_41
def m_X6_twisted (f_n : Int32) (x1 : Int64) (x3 : Int32) : Option (Int64) := m_X6_twisted_0 f_n x1 x3
theorem c_X6_twisted (l : Launch) (G : gk_G) (a0 a1 a2 a3 a4 a5 a6 a7 a8 a9 a10 a11 a12 a13 a14 a15 a16 a17 a18 a19 a20 a21 : Nat) (f_n : Int32) (f_keptN : Int32) (f_side : Int32) (f_rows : Int32) (x1 : Int64) (x3 : Int32) {rv : Int64} (hm : m_X6_twisted f_n x1 x3 = some rv) : gk_M l yX6_twisted wsX6_twisted rm_X6_twisted false G [.ref a0, .long x1, .int x3] [(a0, .inr (5, [.int f_n, .ref a1, .ref a2, .ref a3, .ref a4, .int f_keptN, .ref a5, .ref a6, .ref a7, .ref a8, .ref a9, .ref a10, .ref a11, .ref a12, .ref a13, .ref a14, .ref a15, .ref a16, .int f_side, .ref a17, .ref a18, .ref a19, .int f_rows, .ref a20, .ref a21]))] (some (.long rv)) [(a0, .inr (5, [.int f_n, .ref a1, .ref a2, .ref a3, .ref a4, .int f_keptN, .ref a5, .ref a6, .ref a7, .ref a8, .ref a9, .ref a10, .ref a11, .ref a12, .ref a13, .ref a14, .ref a15, .ref a16, .int f_side, .ref a17, .ref a18, .ref a19, .int f_rows, .ref a20, .ref a21]))] :=
  gk_of (by decide) rfl (Nat.le_of_ble_eq_true rfl) (fun p e s m below meth c A ls C h hl => w_X6_twisted_0 C hm (fun v0 ez => by cases ez; rfl) h (show lv_has ls 7 [(0, .ref a0), (1, .long x1), (3, .int x3)] from hl))

/-! ===== ExchangeFamiliesModel.twist(III)I ===== -/
abbrev rm_X6_twist : Room := { frames := 5, cells := 0, slots := 0, locals := 240 }
theorem k_X6_twist_0 : ∀ w ∈ u_ws RX6 TX6 25, w ∈ wsX6_twist := by decide +kernel
theorem k_X6_twist_1 : Cond.fieldLink RX6 19 "ExchangeFamiliesModel" "kind" "[I" ∈ wsX6_twist := by decide +kernel
theorem k_X6_twist_2 : Cond.fieldLink RX6 15 "ExchangeFamiliesModel" "members" "[J" ∈ wsX6_twist := by decide +kernel
def m_X6_twist_0 (f_n : Int32) (f_members : (Nat → Int64)) (f_kind : (Nat → Int32)) (x1 : Int32) (x2 : Int32) (x3 : Int32) : Option (Int32 × (Nat → Int64) × (Nat → Int32)) := gk_bd1 (m_X6_isFamily x1) (fun r5 => (if r5 = (0 : Int32) then some ((-2 : Int32), f_members, f_kind) else gk_bd1 (m_X6_isSet f_n x2) (fun r7 => (if r7 = (0 : Int32) then some ((-2 : Int32), f_members, f_kind) else gk_bd1 (m_X6_isFamily x3) (fun r9 => (if r9 = (0 : Int32) then some ((-2 : Int32), f_members, f_kind) else gk_ix x1 6 ((if (f_kind x1.toNatClampNeg) = (-1 : Int32) then some ((-11 : Int32), f_members, f_kind) else gk_ix x1 6 (gk_bd1 (m_X6_twisted f_n (f_members x1.toNatClampNeg) x2) (fun r12 => gk_bd3 (m_X6_becomes f_members f_kind x3 (3 : Int32) r12) (fun r13 r14 r15 => some (r13, r14, r15))))))))))))
set_option maxRecDepth 100000 in
set_option maxHeartbeats 4000000 in
theorem w_X6_twist_0 {p : Program} {l : Launch} {e : Env} {s : State} {m : MethodId} {args : Array Value} {below : List Frame} {meth : Method} {c : Code} {G : gk_G} {A : Nat → Prop} {Q : State → Prop} {a0 a1 a2 a3 a4 a5 a6 a7 a8 a9 a10 a11 a12 a13 a14 a15 a16 a17 a18 a19 a20 a21 : Nat} (C : gk_C p s m args meth c cX6_twist 4 (some .int) yX6_twist wsX6_twist false G A) {f_n : Int32} {f_members : (Nat → Int64)} {f_kind : (Nat → Int32)} {x1 : Int32} {x2 : Int32} {x3 : Int32} {f_keptN : Int32} {f_side : Int32} {f_rows : Int32} {yy : Int32 × (Nat → Int64) × (Nat → Int32)} (hm : m_X6_twist_0 f_n f_members f_kind x1 x2 x3 = some yy) (kr : ∀ (rv : Int32) (g_members : (Nat → Int64)) (g_kind : (Nat → Int32)), yy = (rv, g_members, g_kind) → Q = MQ below (gk_Q G (some (.int rv)) [(a0, .inr (5, [.int f_n, .ref a1, .ref a2, .ref a3, .ref a4, .int f_keptN, .ref a5, .ref a6, .ref a7, .ref a8, .ref a9, .ref a10, .ref a11, .ref a12, .ref a13, .ref a14, .ref a15, .ref a16, .int f_side, .ref a17, .ref a18, .ref a19, .int f_rows, .ref a20, .ref a21])), (a1, gk_J G 6 g_members), (a2, gk_I G 6 g_kind)] A) args s 0 0 A) {H : Heap} {locs : List Loc} {ls : Array Slot} (h : gk_H G A s [(a0, .inr (5, [.int f_n, .ref a1, .ref a2, .ref a3, .ref a4, .int f_keptN, .ref a5, .ref a6, .ref a7, .ref a8, .ref a9, .ref a10, .ref a11, .ref a12, .ref a13, .ref a14, .ref a15, .ref a16, .int f_side, .ref a17, .ref a18, .ref a19, .int f_rows, .ref a20, .ref a21])), (a1, gk_J G 6 f_members), (a2, gk_I G 6 f_kind)] H locs) (hl : lv_has ls 4 [(0, .ref a0), (1, .int x1), (2, .int x2), (3, .int x3)]) : W p l e rm_X6_twist s m args below meth c H locs 0 0 Q (F0 m 0 ls []) := by
  obtain ⟨hx, hb, hml, hr, hown, hnm, hts, hlk, hK, hSt, hA⟩ := id C
  obtain ⟨hP, hD, hS⟩ := h
  unfold m_X6_twist_0 at hm
  refine lv_iload_n hx hb dX6_twist_0 rfl (lv_at hl 1 rfl) ?_
  obtain ⟨r5, hq, hm⟩ := gk_bd1_some hm
  refine gk_callS (n := 1) (bytes := cX6_isFamily) (maxL := 1) (ret := (some .boolean)) [(a0, .inr (5, [.int f_n, .ref a1, .ref a2, .ref a3, .ref a4, .int f_keptN, .ref a5, .ref a6, .ref a7, .ref a8, .ref a9, .ref a10, .ref a11, .ref a12, .ref a13, .ref a14, .ref a15, .ref a16, .int f_side, .ref a17, .ref a18, .ref a19, .int f_rows, .ref a20, .ref a21])), (a1, gk_J G 6 f_members), (a2, gk_I G 6 f_kind)] [(a0, .inr (5, [.int f_n, .ref a1, .ref a2, .ref a3, .ref a4, .int f_keptN, .ref a5, .ref a6, .ref a7, .ref a8, .ref a9, .ref a10, .ref a11, .ref a12, .ref a13, .ref a14, .ref a15, .ref a16, .int f_side, .ref a17, .ref a18, .ref a19, .int f_rows, .ref a20, .ref a21])), (a1, gk_J G 6 f_members), (a2, gk_I G 6 f_kind)] [] C ⟨hP, hD, hS⟩ (c_X6_isFamily l G x1 hq) gX6_twist_X6_isFamily dX6_twist_1 hl.1 [] [0, 1, 2] [0, 1, 2] rfl ⟨rfl, rfl⟩ ⟨Nat.le_of_ble_eq_true rfl, Nat.le_of_ble_eq_true rfl⟩ ⟨by decide +kernel, by decide +kernel, by decide +kernel⟩ rfl (fun h => by cases h) (Nat.le_of_ble_eq_true rfl) rfl rfl rfl rfl (by decide) rfl rfl (fun H locs h => ?_)
  obtain ⟨hP, hD, hS⟩ := h
  refine lv_if_eq (tgt := 22) hx hb dX6_twist_4 (by decide) (fun c6 => ?_) (fun c6 => ?_)
  · have hm := gk_it c6 hm
    refine lv_bipush (v := -2) hx hb dX6_twist_22 (by decide) ?_
    rw [kr _ _ _ (Option.some.inj hm).symm]
    exact gk_iret C ⟨hP, hD, hS⟩ dX6_twist_24
  · have hm := gk_if c6 hm
    refine lv_aload_n hx hb dX6_twist_7 rfl (lv_at hl 0 rfl) ?_
    refine lv_iload_n hx hb dX6_twist_8 rfl (lv_at hl 2 rfl) ?_
    obtain ⟨r7, hq, hm⟩ := gk_bd1_some hm
    refine gk_callV (n := 1) (bytes := cX6_isSet) (maxL := 2) (ret := (some .boolean)) (Cn := RX6) (T := TX6) (N := 25) [(a1, gk_J G 6 f_members), (a2, gk_I G 6 f_kind)] [(a0, .inr (5, [.int f_n, .ref a1, .ref a2, .ref a3, .ref a4, .int f_keptN, .ref a5, .ref a6, .ref a7, .ref a8, .ref a9, .ref a10, .ref a11, .ref a12, .ref a13, .ref a14, .ref a15, .ref a16, .int f_side, .ref a17, .ref a18, .ref a19, .int f_rows, .ref a20, .ref a21])), (a1, gk_J G 6 f_members), (a2, gk_I G 6 f_kind)] [] C ⟨hP, hD, hS⟩ (c_X6_isSet l G a0 a1 a2 a3 a4 a5 a6 a7 a8 a9 a10 a11 a12 a13 a14 a15 a16 a17 a18 a19 a20 a21 f_n f_keptN f_side f_rows x2 hq) gX6_twist_X6_isSet dX6_twist_9 hl.1 [0] [1, 2] [2, 0, 1] rfl rfl ⟨rfl, rfl⟩ ⟨Nat.le_of_ble_eq_true rfl, Nat.le_of_ble_eq_true rfl⟩ ⟨rfl, by decide +kernel, by decide +kernel, by decide +kernel⟩ rfl (fun h => by cases h) (Nat.le_of_ble_eq_true rfl) rfl rfl rfl rfl (by decide) rfl rfl (fun H locs h => ?_)
    obtain ⟨hP, hD, hS⟩ := h
    refine lv_if_eq (tgt := 22) hx hb dX6_twist_12 (by decide) (fun c8 => ?_) (fun c8 => ?_)
    · have hm := gk_it c8 hm
      refine lv_bipush (v := -2) hx hb dX6_twist_22 (by decide) ?_
      rw [kr _ _ _ (Option.some.inj hm).symm]
      exact gk_iret C ⟨hP, hD, hS⟩ dX6_twist_24
    · have hm := gk_if c8 hm
      refine lv_iload_n hx hb dX6_twist_15 rfl (lv_at hl 3 rfl) ?_
      obtain ⟨r9, hq, hm⟩ := gk_bd1_some hm
      refine gk_callS (n := 1) (bytes := cX6_isFamily) (maxL := 1) (ret := (some .boolean)) [(a0, .inr (5, [.int f_n, .ref a1, .ref a2, .ref a3, .ref a4, .int f_keptN, .ref a5, .ref a6, .ref a7, .ref a8, .ref a9, .ref a10, .ref a11, .ref a12, .ref a13, .ref a14, .ref a15, .ref a16, .int f_side, .ref a17, .ref a18, .ref a19, .int f_rows, .ref a20, .ref a21])), (a1, gk_J G 6 f_members), (a2, gk_I G 6 f_kind)] [(a0, .inr (5, [.int f_n, .ref a1, .ref a2, .ref a3, .ref a4, .int f_keptN, .ref a5, .ref a6, .ref a7, .ref a8, .ref a9, .ref a10, .ref a11, .ref a12, .ref a13, .ref a14, .ref a15, .ref a16, .int f_side, .ref a17, .ref a18, .ref a19, .int f_rows, .ref a20, .ref a21])), (a1, gk_J G 6 f_members), (a2, gk_I G 6 f_kind)] [] C ⟨hP, hD, hS⟩ (c_X6_isFamily l G x3 hq) gX6_twist_X6_isFamily dX6_twist_16 hl.1 [] [0, 1, 2] [0, 1, 2] rfl ⟨rfl, rfl⟩ ⟨Nat.le_of_ble_eq_true rfl, Nat.le_of_ble_eq_true rfl⟩ ⟨by decide +kernel, by decide +kernel, by decide +kernel⟩ rfl (fun h => by cases h) (Nat.le_of_ble_eq_true rfl) rfl rfl rfl rfl (by decide) rfl rfl (fun H locs h => ?_)
      obtain ⟨hP, hD, hS⟩ := h
      refine lv_if_ne (tgt := 25) hx hb dX6_twist_19 (by decide) (fun c10 => ?_) (fun c10 => ?_)
      · have hm := gk_if c10 hm
        refine lv_aload_n hx hb dX6_twist_25 rfl (lv_at hl 0 rfl) ?_
        refine va_get (D := G.1) (cl := vwCl) (own := RX6) (ref := "ExchangeFamiliesModel") (ci := 5) (v := .ref a2) (C := RX6) (T := TX6) (N := 25) hx hb hts k_X6_twist_0 hown hK hP 0 rfl rfl 2 (by decide) (hts _ k_X6_twist_1) (fun _ h9 => h9) rfl dX6_twist_26 ?_
        refine lv_iload_n hx hb dX6_twist_29 rfl (lv_at hl 1 rfl) ?_
        obtain ⟨hi, hm⟩ := gk_ix_some hm
        refine va_iald hx hb hK hP 2 0 rfl rfl hi dX6_twist_30 ?_
        refine lv_iconst (v := -1) hx hb dX6_twist_31 (by decide) ?_
        refine lv_icmp_ne (tgt := 40) hx hb dX6_twist_32 (by decide) (fun c11 => ?_) (fun c11 => ?_)
        · have hm := gk_if c11 hm
          refine lv_aload_n hx hb dX6_twist_40 rfl (lv_at hl 0 rfl) ?_
          refine lv_iload_n hx hb dX6_twist_41 rfl (lv_at hl 3 rfl) ?_
          refine lv_iconst (v := 3) hx hb dX6_twist_42 (by decide) ?_
          refine lv_aload_n hx hb dX6_twist_43 rfl (lv_at hl 0 rfl) ?_
          refine lv_aload_n hx hb dX6_twist_44 rfl (lv_at hl 0 rfl) ?_
          refine va_get (D := G.1) (cl := vwCl) (own := RX6) (ref := "ExchangeFamiliesModel") (ci := 5) (v := .ref a1) (C := RX6) (T := TX6) (N := 25) hx hb hts k_X6_twist_0 hown hK hP 0 rfl rfl 1 (by decide) (hts _ k_X6_twist_2) (fun _ h9 => h9) rfl dX6_twist_45 ?_
          refine lv_iload_n hx hb dX6_twist_48 rfl (lv_at hl 1 rfl) ?_
          obtain ⟨hi, hm⟩ := gk_ix_some hm
          refine va_lald hx hb hK hP 1 1 rfl rfl hi dX6_twist_49 ?_
          refine lv_iload_n hx hb dX6_twist_50 rfl (lv_at hl 2 rfl) ?_
          obtain ⟨r12, hq, hm⟩ := gk_bd1_some hm
          refine gk_callV (n := 2) (bytes := cX6_twisted) (maxL := 7) (ret := (some .long)) (Cn := RX6) (T := TX6) (N := 25) [(a1, gk_J G 6 f_members), (a2, gk_I G 6 f_kind)] [(a0, .inr (5, [.int f_n, .ref a1, .ref a2, .ref a3, .ref a4, .int f_keptN, .ref a5, .ref a6, .ref a7, .ref a8, .ref a9, .ref a10, .ref a11, .ref a12, .ref a13, .ref a14, .ref a15, .ref a16, .int f_side, .ref a17, .ref a18, .ref a19, .int f_rows, .ref a20, .ref a21])), (a1, gk_J G 6 f_members), (a2, gk_I G 6 f_kind)] [.int (3 : Int32), .int x3, .ref a0] C ⟨hP, hD, hS⟩ (c_X6_twisted l G a0 a1 a2 a3 a4 a5 a6 a7 a8 a9 a10 a11 a12 a13 a14 a15 a16 a17 a18 a19 a20 a21 f_n f_keptN f_side f_rows (f_members x1.toNatClampNeg) x2 hq) gX6_twist_X6_twisted dX6_twist_51 hl.1 [0] [1, 2] [2, 0, 1] rfl rfl ⟨rfl, rfl⟩ ⟨Nat.le_of_ble_eq_true rfl, Nat.le_of_ble_eq_true rfl⟩ ⟨rfl, by decide +kernel, by decide +kernel, by decide +kernel⟩ rfl (fun h => by cases h) (Nat.le_of_ble_eq_true rfl) rfl rfl rfl rfl (by decide) rfl rfl (fun H locs h => ?_)
          obtain ⟨hP, hD, hS⟩ := h
          obtain ⟨r13, r14, r15, hq, hm⟩ := gk_bd3_some hm
          refine gk_callV (n := 3) (bytes := cX6_becomes) (maxL := 5) (ret := (some .int)) (Cn := RX6) (T := TX6) (N := 25) [] [(a0, .inr (5, [.int f_n, .ref a1, .ref a2, .ref a3, .ref a4, .int f_keptN, .ref a5, .ref a6, .ref a7, .ref a8, .ref a9, .ref a10, .ref a11, .ref a12, .ref a13, .ref a14, .ref a15, .ref a16, .int f_side, .ref a17, .ref a18, .ref a19, .int f_rows, .ref a20, .ref a21])), (a1, gk_J G 6 r14), (a2, gk_I G 6 r15)] [] C ⟨hP, hD, hS⟩ (c_X6_becomes l G a0 a1 a2 a3 a4 a5 a6 a7 a8 a9 a10 a11 a12 a13 a14 a15 a16 a17 a18 a19 a20 a21 f_n f_keptN f_side f_rows f_members f_kind x3 (3 : Int32) r12 hq) gX6_twist_X6_becomes dX6_twist_54 hl.1 [0, 1, 2] [] [0, 1, 2] rfl rfl ⟨rfl, rfl⟩ ⟨Nat.le_of_ble_eq_true rfl, Nat.le_of_ble_eq_true rfl⟩ ⟨rfl, by decide +kernel, by decide +kernel, by decide +kernel⟩ rfl (fun h => by cases h) (Nat.le_of_ble_eq_true rfl) rfl rfl rfl rfl (by decide) rfl rfl (fun H locs h => ?_)
          obtain ⟨hP, hD, hS⟩ := h
          rw [kr _ _ _ (Option.some.inj hm).symm]
          exact gk_iret C ⟨hP, hD, hS⟩ dX6_twist_57
        · have hm := gk_it c11 hm
          refine lv_bipush (v := -11) hx hb dX6_twist_35 (by decide) ?_
          refine lv_goto (tgt := 57) hx hb dX6_twist_37 (by decide) ?_
          rw [kr _ _ _ (Option.some.inj hm).symm]
          exact gk_iret C ⟨hP, hD, hS⟩ dX6_twist_57
      · have hm := gk_it c10 hm
        refine lv_bipush (v := -2) hx hb dX6_twist_22 (by decide) ?_
        rw [kr _ _ _ (Option.some.inj hm).symm]
        exact gk_iret C ⟨hP, hD, hS⟩ dX6_twist_24
def m_X6_twist (f_n : Int32) (f_members : (Nat → Int64)) (f_kind : (Nat → Int32)) (x1 : Int32) (x2 : Int32) (x3 : Int32) : Option (Int32 × (Nat → Int64) × (Nat → Int32)) := m_X6_twist_0 f_n f_members f_kind x1 x2 x3
theorem c_X6_twist (l : Launch) (G : gk_G) (a0 a1 a2 a3 a4 a5 a6 a7 a8 a9 a10 a11 a12 a13 a14 a15 a16 a17 a18 a19 a20 a21 : Nat) (f_n : Int32) (f_keptN : Int32) (f_side : Int32) (f_rows : Int32) (f_members : (Nat → Int64)) (f_kind : (Nat → Int32)) (x1 : Int32) (x2 : Int32) (x3 : Int32) {rv : Int32} {g_members : (Nat → Int64)} {g_kind : (Nat → Int32)} (hm : m_X6_twist f_n f_members f_kind x1 x2 x3 = some (rv, g_members, g_kind)) : gk_M l yX6_twist wsX6_twist rm_X6_twist false G [.ref a0, .int x1, .int x2, .int x3] [(a0, .inr (5, [.int f_n, .ref a1, .ref a2, .ref a3, .ref a4, .int f_keptN, .ref a5, .ref a6, .ref a7, .ref a8, .ref a9, .ref a10, .ref a11, .ref a12, .ref a13, .ref a14, .ref a15, .ref a16, .int f_side, .ref a17, .ref a18, .ref a19, .int f_rows, .ref a20, .ref a21])), (a1, gk_J G 6 f_members), (a2, gk_I G 6 f_kind)] (some (.int rv)) [(a0, .inr (5, [.int f_n, .ref a1, .ref a2, .ref a3, .ref a4, .int f_keptN, .ref a5, .ref a6, .ref a7, .ref a8, .ref a9, .ref a10, .ref a11, .ref a12, .ref a13, .ref a14, .ref a15, .ref a16, .int f_side, .ref a17, .ref a18, .ref a19, .int f_rows, .ref a20, .ref a21])), (a1, gk_J G 6 g_members), (a2, gk_I G 6 g_kind)] :=
  gk_of (by decide) rfl (Nat.le_of_ble_eq_true rfl) (fun p e s m below meth c A ls C h hl => w_X6_twist_0 C hm (fun v0 v1 v2 ez => by cases ez; rfl) h (show lv_has ls 4 [(0, .ref a0), (1, .int x1), (2, .int x2), (3, .int x3)] from hl))

/-! ===== ExchangeFamiliesModel.dual(II)I ===== -/
abbrev rm_X6_dual : Room := { frames := 5, cells := 0, slots := 0, locals := 240 }
theorem k_X6_dual_0 : ∀ w ∈ u_ws RX6 TX6 25, w ∈ wsX6_dual := by decide +kernel
theorem k_X6_dual_1 : Cond.fieldLink RX6 19 "ExchangeFamiliesModel" "kind" "[I" ∈ wsX6_dual := by decide +kernel
theorem k_X6_dual_2 : Cond.fieldLink RX6 15 "ExchangeFamiliesModel" "members" "[J" ∈ wsX6_dual := by decide +kernel
theorem k_X6_dual_3 : Cond.fieldLink RX6 9 "ExchangeFamiliesModel" "n" "I" ∈ wsX6_dual := by decide +kernel
def m_X6_dual_0 (f_n : Int32) (f_members : (Nat → Int64)) (f_kind : (Nat → Int32)) (x1 : Int32) (x2 : Int32) : Option (Int32 × (Nat → Int64) × (Nat → Int32)) := gk_bd1 (m_X6_isFamily x1) (fun r4 => (if r4 = (0 : Int32) then some ((-2 : Int32), f_members, f_kind) else gk_bd1 (m_X6_isFamily x2) (fun r6 => (if r6 = (0 : Int32) then some ((-2 : Int32), f_members, f_kind) else gk_ix x1 6 ((if (f_kind x1.toNatClampNeg) = (-1 : Int32) then some ((-11 : Int32), f_members, f_kind) else gk_ix x1 6 (gk_bd1 (m_X6_twisted f_n (f_members x1.toNatClampNeg) (((1 : Int32) <<< (f_n &&& 31)) - (1 : Int32))) (fun r9 => gk_bd3 (m_X6_becomes f_members f_kind x2 (5 : Int32) r9) (fun r10 r11 r12 => some (r10, r11, r12))))))))))
set_option maxRecDepth 100000 in
set_option maxHeartbeats 4000000 in
theorem w_X6_dual_0 {p : Program} {l : Launch} {e : Env} {s : State} {m : MethodId} {args : Array Value} {below : List Frame} {meth : Method} {c : Code} {G : gk_G} {A : Nat → Prop} {Q : State → Prop} {a0 a1 a2 a3 a4 a5 a6 a7 a8 a9 a10 a11 a12 a13 a14 a15 a16 a17 a18 a19 a20 a21 : Nat} (C : gk_C p s m args meth c cX6_dual 3 (some .int) yX6_dual wsX6_dual false G A) {f_n : Int32} {f_members : (Nat → Int64)} {f_kind : (Nat → Int32)} {x1 : Int32} {x2 : Int32} {f_keptN : Int32} {f_side : Int32} {f_rows : Int32} {yy : Int32 × (Nat → Int64) × (Nat → Int32)} (hm : m_X6_dual_0 f_n f_members f_kind x1 x2 = some yy) (kr : ∀ (rv : Int32) (g_members : (Nat → Int64)) (g_kind : (Nat → Int32)), yy = (rv, g_members, g_kind) → Q = MQ below (gk_Q G (some (.int rv)) [(a0, .inr (5, [.int f_n, .ref a1, .ref a2, .ref a3, .ref a4, .int f_keptN, .ref a5, .ref a6, .ref a7, .ref a8, .ref a9, .ref a10, .ref a11, .ref a12, .ref a13, .ref a14, .ref a15, .ref a16, .int f_side, .ref a17, .ref a18, .ref a19, .int f_rows, .ref a20, .ref a21])), (a1, gk_J G 6 g_members), (a2, gk_I G 6 g_kind)] A) args s 0 0 A) {H : Heap} {locs : List Loc} {ls : Array Slot} (h : gk_H G A s [(a0, .inr (5, [.int f_n, .ref a1, .ref a2, .ref a3, .ref a4, .int f_keptN, .ref a5, .ref a6, .ref a7, .ref a8, .ref a9, .ref a10, .ref a11, .ref a12, .ref a13, .ref a14, .ref a15, .ref a16, .int f_side, .ref a17, .ref a18, .ref a19, .int f_rows, .ref a20, .ref a21])), (a1, gk_J G 6 f_members), (a2, gk_I G 6 f_kind)] H locs) (hl : lv_has ls 3 [(0, .ref a0), (1, .int x1), (2, .int x2)]) : W p l e rm_X6_dual s m args below meth c H locs 0 0 Q (F0 m 0 ls []) := by
  obtain ⟨hx, hb, hml, hr, hown, hnm, hts, hlk, hK, hSt, hA⟩ := id C
  obtain ⟨hP, hD, hS⟩ := h
  unfold m_X6_dual_0 at hm
  refine lv_iload_n hx hb dX6_dual_0 rfl (lv_at hl 1 rfl) ?_
  obtain ⟨r4, hq, hm⟩ := gk_bd1_some hm
  refine gk_callS (n := 1) (bytes := cX6_isFamily) (maxL := 1) (ret := (some .boolean)) [(a0, .inr (5, [.int f_n, .ref a1, .ref a2, .ref a3, .ref a4, .int f_keptN, .ref a5, .ref a6, .ref a7, .ref a8, .ref a9, .ref a10, .ref a11, .ref a12, .ref a13, .ref a14, .ref a15, .ref a16, .int f_side, .ref a17, .ref a18, .ref a19, .int f_rows, .ref a20, .ref a21])), (a1, gk_J G 6 f_members), (a2, gk_I G 6 f_kind)] [(a0, .inr (5, [.int f_n, .ref a1, .ref a2, .ref a3, .ref a4, .int f_keptN, .ref a5, .ref a6, .ref a7, .ref a8, .ref a9, .ref a10, .ref a11, .ref a12, .ref a13, .ref a14, .ref a15, .ref a16, .int f_side, .ref a17, .ref a18, .ref a19, .int f_rows, .ref a20, .ref a21])), (a1, gk_J G 6 f_members), (a2, gk_I G 6 f_kind)] [] C ⟨hP, hD, hS⟩ (c_X6_isFamily l G x1 hq) gX6_dual_X6_isFamily dX6_dual_1 hl.1 [] [0, 1, 2] [0, 1, 2] rfl ⟨rfl, rfl⟩ ⟨Nat.le_of_ble_eq_true rfl, Nat.le_of_ble_eq_true rfl⟩ ⟨by decide +kernel, by decide +kernel, by decide +kernel⟩ rfl (fun h => by cases h) (Nat.le_of_ble_eq_true rfl) rfl rfl rfl rfl (by decide) rfl rfl (fun H locs h => ?_)
  obtain ⟨hP, hD, hS⟩ := h
  refine lv_if_eq (tgt := 14) hx hb dX6_dual_4 (by decide) (fun c5 => ?_) (fun c5 => ?_)
  · have hm := gk_it c5 hm
    refine lv_bipush (v := -2) hx hb dX6_dual_14 (by decide) ?_
    rw [kr _ _ _ (Option.some.inj hm).symm]
    exact gk_iret C ⟨hP, hD, hS⟩ dX6_dual_16
  · have hm := gk_if c5 hm
    refine lv_iload_n hx hb dX6_dual_7 rfl (lv_at hl 2 rfl) ?_
    obtain ⟨r6, hq, hm⟩ := gk_bd1_some hm
    refine gk_callS (n := 1) (bytes := cX6_isFamily) (maxL := 1) (ret := (some .boolean)) [(a0, .inr (5, [.int f_n, .ref a1, .ref a2, .ref a3, .ref a4, .int f_keptN, .ref a5, .ref a6, .ref a7, .ref a8, .ref a9, .ref a10, .ref a11, .ref a12, .ref a13, .ref a14, .ref a15, .ref a16, .int f_side, .ref a17, .ref a18, .ref a19, .int f_rows, .ref a20, .ref a21])), (a1, gk_J G 6 f_members), (a2, gk_I G 6 f_kind)] [(a0, .inr (5, [.int f_n, .ref a1, .ref a2, .ref a3, .ref a4, .int f_keptN, .ref a5, .ref a6, .ref a7, .ref a8, .ref a9, .ref a10, .ref a11, .ref a12, .ref a13, .ref a14, .ref a15, .ref a16, .int f_side, .ref a17, .ref a18, .ref a19, .int f_rows, .ref a20, .ref a21])), (a1, gk_J G 6 f_members), (a2, gk_I G 6 f_kind)] [] C ⟨hP, hD, hS⟩ (c_X6_isFamily l G x2 hq) gX6_dual_X6_isFamily dX6_dual_8 hl.1 [] [0, 1, 2] [0, 1, 2] rfl ⟨rfl, rfl⟩ ⟨Nat.le_of_ble_eq_true rfl, Nat.le_of_ble_eq_true rfl⟩ ⟨by decide +kernel, by decide +kernel, by decide +kernel⟩ rfl (fun h => by cases h) (Nat.le_of_ble_eq_true rfl) rfl rfl rfl rfl (by decide) rfl rfl (fun H locs h => ?_)
    obtain ⟨hP, hD, hS⟩ := h
    refine lv_if_ne (tgt := 17) hx hb dX6_dual_11 (by decide) (fun c7 => ?_) (fun c7 => ?_)
    · have hm := gk_if c7 hm
      refine lv_aload_n hx hb dX6_dual_17 rfl (lv_at hl 0 rfl) ?_
      refine va_get (D := G.1) (cl := vwCl) (own := RX6) (ref := "ExchangeFamiliesModel") (ci := 5) (v := .ref a2) (C := RX6) (T := TX6) (N := 25) hx hb hts k_X6_dual_0 hown hK hP 0 rfl rfl 2 (by decide) (hts _ k_X6_dual_1) (fun _ h9 => h9) rfl dX6_dual_18 ?_
      refine lv_iload_n hx hb dX6_dual_21 rfl (lv_at hl 1 rfl) ?_
      obtain ⟨hi, hm⟩ := gk_ix_some hm
      refine va_iald hx hb hK hP 2 0 rfl rfl hi dX6_dual_22 ?_
      refine lv_iconst (v := -1) hx hb dX6_dual_23 (by decide) ?_
      refine lv_icmp_ne (tgt := 32) hx hb dX6_dual_24 (by decide) (fun c8 => ?_) (fun c8 => ?_)
      · have hm := gk_if c8 hm
        refine lv_aload_n hx hb dX6_dual_32 rfl (lv_at hl 0 rfl) ?_
        refine lv_iload_n hx hb dX6_dual_33 rfl (lv_at hl 2 rfl) ?_
        refine lv_iconst (v := 5) hx hb dX6_dual_34 (by decide) ?_
        refine lv_aload_n hx hb dX6_dual_35 rfl (lv_at hl 0 rfl) ?_
        refine lv_aload_n hx hb dX6_dual_36 rfl (lv_at hl 0 rfl) ?_
        refine va_get (D := G.1) (cl := vwCl) (own := RX6) (ref := "ExchangeFamiliesModel") (ci := 5) (v := .ref a1) (C := RX6) (T := TX6) (N := 25) hx hb hts k_X6_dual_0 hown hK hP 0 rfl rfl 1 (by decide) (hts _ k_X6_dual_2) (fun _ h9 => h9) rfl dX6_dual_37 ?_
        refine lv_iload_n hx hb dX6_dual_40 rfl (lv_at hl 1 rfl) ?_
        obtain ⟨hi, hm⟩ := gk_ix_some hm
        refine va_lald hx hb hK hP 1 1 rfl rfl hi dX6_dual_41 ?_
        refine lv_iconst (v := 1) hx hb dX6_dual_42 (by decide) ?_
        refine lv_aload_n hx hb dX6_dual_43 rfl (lv_at hl 0 rfl) ?_
        refine va_get (D := G.1) (cl := vwCl) (own := RX6) (ref := "ExchangeFamiliesModel") (ci := 5) (v := .int f_n) (C := RX6) (T := TX6) (N := 25) hx hb hts k_X6_dual_0 hown hK hP 0 rfl rfl 0 (by decide) (hts _ k_X6_dual_3) (fun _ h9 => h9) rfl dX6_dual_44 ?_
        refine lv_ishl hx hb dX6_dual_47 ?_
        refine lv_iconst (v := 1) hx hb dX6_dual_48 (by decide) ?_
        refine lv_isub hx hb dX6_dual_49 ?_
        obtain ⟨r9, hq, hm⟩ := gk_bd1_some hm
        refine gk_callV (n := 2) (bytes := cX6_twisted) (maxL := 7) (ret := (some .long)) (Cn := RX6) (T := TX6) (N := 25) [(a1, gk_J G 6 f_members), (a2, gk_I G 6 f_kind)] [(a0, .inr (5, [.int f_n, .ref a1, .ref a2, .ref a3, .ref a4, .int f_keptN, .ref a5, .ref a6, .ref a7, .ref a8, .ref a9, .ref a10, .ref a11, .ref a12, .ref a13, .ref a14, .ref a15, .ref a16, .int f_side, .ref a17, .ref a18, .ref a19, .int f_rows, .ref a20, .ref a21])), (a1, gk_J G 6 f_members), (a2, gk_I G 6 f_kind)] [.int (5 : Int32), .int x2, .ref a0] C ⟨hP, hD, hS⟩ (c_X6_twisted l G a0 a1 a2 a3 a4 a5 a6 a7 a8 a9 a10 a11 a12 a13 a14 a15 a16 a17 a18 a19 a20 a21 f_n f_keptN f_side f_rows (f_members x1.toNatClampNeg) (((1 : Int32) <<< (f_n &&& 31)) - (1 : Int32)) hq) gX6_dual_X6_twisted dX6_dual_50 hl.1 [0] [1, 2] [2, 0, 1] rfl rfl ⟨rfl, rfl⟩ ⟨Nat.le_of_ble_eq_true rfl, Nat.le_of_ble_eq_true rfl⟩ ⟨rfl, by decide +kernel, by decide +kernel, by decide +kernel⟩ rfl (fun h => by cases h) (Nat.le_of_ble_eq_true rfl) rfl rfl rfl rfl (by decide) rfl rfl (fun H locs h => ?_)
        obtain ⟨hP, hD, hS⟩ := h
        obtain ⟨r10, r11, r12, hq, hm⟩ := gk_bd3_some hm
        refine gk_callV (n := 3) (bytes := cX6_becomes) (maxL := 5) (ret := (some .int)) (Cn := RX6) (T := TX6) (N := 25) [] [(a0, .inr (5, [.int f_n, .ref a1, .ref a2, .ref a3, .ref a4, .int f_keptN, .ref a5, .ref a6, .ref a7, .ref a8, .ref a9, .ref a10, .ref a11, .ref a12, .ref a13, .ref a14, .ref a15, .ref a16, .int f_side, .ref a17, .ref a18, .ref a19, .int f_rows, .ref a20, .ref a21])), (a1, gk_J G 6 r11), (a2, gk_I G 6 r12)] [] C ⟨hP, hD, hS⟩ (c_X6_becomes l G a0 a1 a2 a3 a4 a5 a6 a7 a8 a9 a10 a11 a12 a13 a14 a15 a16 a17 a18 a19 a20 a21 f_n f_keptN f_side f_rows f_members f_kind x2 (5 : Int32) r9 hq) gX6_dual_X6_becomes dX6_dual_53 hl.1 [0, 1, 2] [] [0, 1, 2] rfl rfl ⟨rfl, rfl⟩ ⟨Nat.le_of_ble_eq_true rfl, Nat.le_of_ble_eq_true rfl⟩ ⟨rfl, by decide +kernel, by decide +kernel, by decide +kernel⟩ rfl (fun h => by cases h) (Nat.le_of_ble_eq_true rfl) rfl rfl rfl rfl (by decide) rfl rfl (fun H locs h => ?_)
        obtain ⟨hP, hD, hS⟩ := h
        rw [kr _ _ _ (Option.some.inj hm).symm]
        exact gk_iret C ⟨hP, hD, hS⟩ dX6_dual_56
      · have hm := gk_it c8 hm
        refine lv_bipush (v := -11) hx hb dX6_dual_27 (by decide) ?_
        refine lv_goto (tgt := 56) hx hb dX6_dual_29 (by decide) ?_
        rw [kr _ _ _ (Option.some.inj hm).symm]
        exact gk_iret C ⟨hP, hD, hS⟩ dX6_dual_56
    · have hm := gk_it c7 hm
      refine lv_bipush (v := -2) hx hb dX6_dual_14 (by decide) ?_
      rw [kr _ _ _ (Option.some.inj hm).symm]
      exact gk_iret C ⟨hP, hD, hS⟩ dX6_dual_16
def m_X6_dual (f_n : Int32) (f_members : (Nat → Int64)) (f_kind : (Nat → Int32)) (x1 : Int32) (x2 : Int32) : Option (Int32 × (Nat → Int64) × (Nat → Int32)) := m_X6_dual_0 f_n f_members f_kind x1 x2
theorem c_X6_dual (l : Launch) (G : gk_G) (a0 a1 a2 a3 a4 a5 a6 a7 a8 a9 a10 a11 a12 a13 a14 a15 a16 a17 a18 a19 a20 a21 : Nat) (f_n : Int32) (f_keptN : Int32) (f_side : Int32) (f_rows : Int32) (f_members : (Nat → Int64)) (f_kind : (Nat → Int32)) (x1 : Int32) (x2 : Int32) {rv : Int32} {g_members : (Nat → Int64)} {g_kind : (Nat → Int32)} (hm : m_X6_dual f_n f_members f_kind x1 x2 = some (rv, g_members, g_kind)) : gk_M l yX6_dual wsX6_dual rm_X6_dual false G [.ref a0, .int x1, .int x2] [(a0, .inr (5, [.int f_n, .ref a1, .ref a2, .ref a3, .ref a4, .int f_keptN, .ref a5, .ref a6, .ref a7, .ref a8, .ref a9, .ref a10, .ref a11, .ref a12, .ref a13, .ref a14, .ref a15, .ref a16, .int f_side, .ref a17, .ref a18, .ref a19, .int f_rows, .ref a20, .ref a21])), (a1, gk_J G 6 f_members), (a2, gk_I G 6 f_kind)] (some (.int rv)) [(a0, .inr (5, [.int f_n, .ref a1, .ref a2, .ref a3, .ref a4, .int f_keptN, .ref a5, .ref a6, .ref a7, .ref a8, .ref a9, .ref a10, .ref a11, .ref a12, .ref a13, .ref a14, .ref a15, .ref a16, .int f_side, .ref a17, .ref a18, .ref a19, .int f_rows, .ref a20, .ref a21])), (a1, gk_J G 6 g_members), (a2, gk_I G 6 g_kind)] :=
  gk_of (by decide) rfl (Nat.le_of_ble_eq_true rfl) (fun p e s m below meth c A ls C h hl => w_X6_dual_0 C hm (fun v0 v1 v2 ez => by cases ez; rfl) h (show lv_has ls 3 [(0, .ref a0), (1, .int x1), (2, .int x2)] from hl))

/-! ===== ExchangeFamiliesModel.reduce(IIII)I ===== -/
abbrev rm_X6_reduce : Room := { frames := 5, cells := 0, slots := 0, locals := 240 }
theorem k_X6_reduce_0 : ∀ w ∈ u_ws RX6 TX6 25, w ∈ wsX6_reduce := by decide +kernel
theorem k_X6_reduce_1 : Cond.fieldLink RX6 19 "ExchangeFamiliesModel" "kind" "[I" ∈ wsX6_reduce := by decide +kernel
theorem k_X6_reduce_2 : Cond.fieldLink RX6 9 "ExchangeFamiliesModel" "n" "I" ∈ wsX6_reduce := by decide +kernel
theorem k_X6_reduce_3 : Cond.fieldLink RX6 15 "ExchangeFamiliesModel" "members" "[J" ∈ wsX6_reduce := by decide +kernel
def m_X6_reduce_B55 (f_n : Int32) (f_members : (Nat → Int64)) (f_kind : (Nat → Int32)) (x1 : Int32) (x2 : Int32) (x3 : Int32) (x4 : Int32) (x5 : Int64) (x7 : Int32) : Option ((Int64 × Int32) ⊕ (Int64)) := (if ((1 : Int32) <<< (f_n &&& 31)) ≤ x7 then some (.inr x5) else (if ((x7 >>> (x2 &&& 31)) &&& (1 : Int32)) = x3 then gk_ix x1 6 (some (.inl (x5 ||| ((f_members x1.toNatClampNeg) &&& ((1 : Int64) <<< (x7.toInt64 &&& 63))), x7 + 1))) else some (.inl (x5, x7 + 1))))
set_option maxRecDepth 100000 in
set_option maxHeartbeats 4000000 in
theorem w_X6_reduce_B55 {p : Program} {l : Launch} {e : Env} {s : State} {m : MethodId} {args : Array Value} {below : List Frame} {meth : Method} {c : Code} {G : gk_G} {A : Nat → Prop} {Q : State → Prop} {a0 a1 a2 a3 a4 a5 a6 a7 a8 a9 a10 a11 a12 a13 a14 a15 a16 a17 a18 a19 a20 a21 : Nat} (C : gk_C p s m args meth c cX6_reduce 12 (some .int) yX6_reduce wsX6_reduce false G A) {f_n : Int32} {f_members : (Nat → Int64)} {f_kind : (Nat → Int32)} {x1 : Int32} {x2 : Int32} {x3 : Int32} {x4 : Int32} {x5 : Int64} {x7 : Int32} {f_keptN : Int32} {f_side : Int32} {f_rows : Int32} {yy : (Int64 × Int32) ⊕ (Int64)} (hm : m_X6_reduce_B55 f_n f_members f_kind x1 x2 x3 x4 x5 x7 = some yy) (kl : ∀ (x5 : Int64) (x7 : Int32), yy = .inl (x5, x7) → ∀ (H : Heap) (locs : List Loc) (ls : Array Slot), gk_H G A s [(a0, .inr (5, [.int f_n, .ref a1, .ref a2, .ref a3, .ref a4, .int f_keptN, .ref a5, .ref a6, .ref a7, .ref a8, .ref a9, .ref a10, .ref a11, .ref a12, .ref a13, .ref a14, .ref a15, .ref a16, .int f_side, .ref a17, .ref a18, .ref a19, .int f_rows, .ref a20, .ref a21])), (a1, gk_J G 6 f_members), (a2, gk_I G 6 f_kind)] H locs → lv_has ls 12 [(0, .ref a0), (1, .int x1), (2, .int x2), (3, .int x3), (4, .int x4), (5, .long x5), (7, .int x7)] → W p l e rm_X6_reduce s m args below meth c H locs 0 0 Q (F0 m 55 ls [])) (kx : ∀ (x5 : Int64), yy = .inr x5 → ∀ (H : Heap) (locs : List Loc) (ls : Array Slot), gk_H G A s [(a0, .inr (5, [.int f_n, .ref a1, .ref a2, .ref a3, .ref a4, .int f_keptN, .ref a5, .ref a6, .ref a7, .ref a8, .ref a9, .ref a10, .ref a11, .ref a12, .ref a13, .ref a14, .ref a15, .ref a16, .int f_side, .ref a17, .ref a18, .ref a19, .int f_rows, .ref a20, .ref a21])), (a1, gk_J G 6 f_members), (a2, gk_I G 6 f_kind)] H locs → lv_has ls 12 [(0, .ref a0), (1, .int x1), (2, .int x2), (4, .int x4), (5, .long x5)] → W p l e rm_X6_reduce s m args below meth c H locs 0 0 Q (F0 m 98 ls [])) {H : Heap} {locs : List Loc} {ls : Array Slot} (h : gk_H G A s [(a0, .inr (5, [.int f_n, .ref a1, .ref a2, .ref a3, .ref a4, .int f_keptN, .ref a5, .ref a6, .ref a7, .ref a8, .ref a9, .ref a10, .ref a11, .ref a12, .ref a13, .ref a14, .ref a15, .ref a16, .int f_side, .ref a17, .ref a18, .ref a19, .int f_rows, .ref a20, .ref a21])), (a1, gk_J G 6 f_members), (a2, gk_I G 6 f_kind)] H locs) (hl : lv_has ls 12 [(0, .ref a0), (1, .int x1), (2, .int x2), (3, .int x3), (4, .int x4), (5, .long x5), (7, .int x7)]) : W p l e rm_X6_reduce s m args below meth c H locs 0 0 Q (F0 m 55 ls []) := by
  obtain ⟨hx, hb, hml, hr, hown, hnm, hts, hlk, hK, hSt, hA⟩ := id C
  obtain ⟨hP, hD, hS⟩ := h
  unfold m_X6_reduce_B55 at hm
  refine lv_iload hx hb dX6_reduce_55 (lv_at hl 6 rfl) ?_
  refine lv_iconst (v := 1) hx hb dX6_reduce_57 (by decide) ?_
  refine lv_aload_n hx hb dX6_reduce_58 rfl (lv_at hl 0 rfl) ?_
  refine va_get (D := G.1) (cl := vwCl) (own := RX6) (ref := "ExchangeFamiliesModel") (ci := 5) (v := .int f_n) (C := RX6) (T := TX6) (N := 25) hx hb hts k_X6_reduce_0 hown hK hP 0 rfl rfl 0 (by decide) (hts _ k_X6_reduce_2) (fun _ h9 => h9) rfl dX6_reduce_59 ?_
  refine lv_ishl hx hb dX6_reduce_62 ?_
  refine lv_icmp_ge (tgt := 98) hx hb dX6_reduce_63 (by decide) (fun c20 => ?_) (fun c20 => ?_)
  · have hm := gk_it c20 hm
    exact kx _ (Option.some.inj hm).symm _ _ _ ⟨hP, hD, hS⟩ (lv_sub hl [0, 1, 2, 4, 5] rfl)
  · have hm := gk_if c20 hm
    refine lv_iload hx hb dX6_reduce_66 (lv_at hl 6 rfl) ?_
    refine lv_iload_n hx hb dX6_reduce_68 rfl (lv_at hl 2 rfl) ?_
    refine lv_ishr hx hb dX6_reduce_69 ?_
    refine lv_iconst (v := 1) hx hb dX6_reduce_70 (by decide) ?_
    refine lv_iand hx hb dX6_reduce_71 ?_
    refine lv_iload_n hx hb dX6_reduce_72 rfl (lv_at hl 3 rfl) ?_
    refine lv_icmp_ne (tgt := 92) hx hb dX6_reduce_73 (by decide) (fun c21 => ?_) (fun c21 => ?_)
    · have hm := gk_if c21 hm
      refine lv_iinc (v := x7 + 1) (lv' := [(7, .int (x7 + 1)), (0, .ref a0), (1, .int x1), (2, .int x2), (3, .int x3), (4, .int x4), (5, .long x5)]) hx hb dX6_reduce_92 hl (k := 6) rfl rfl (by decide) rfl (fun ls hl => ?_)
      refine lv_goto (tgt := 55) hx hb dX6_reduce_95 (by decide) ?_
      exact kl _ _ (Option.some.inj hm).symm _ _ _ ⟨hP, hD, hS⟩ (lv_sub hl [1, 2, 3, 4, 5, 6, 0] rfl)
    · have hm := gk_it c21 hm
      refine lv_lload hx hb dX6_reduce_76 (lv_at hl 5 rfl) ?_
      refine lv_aload_n hx hb dX6_reduce_78 rfl (lv_at hl 0 rfl) ?_
      refine va_get (D := G.1) (cl := vwCl) (own := RX6) (ref := "ExchangeFamiliesModel") (ci := 5) (v := .ref a1) (C := RX6) (T := TX6) (N := 25) hx hb hts k_X6_reduce_0 hown hK hP 0 rfl rfl 1 (by decide) (hts _ k_X6_reduce_3) (fun _ h9 => h9) rfl dX6_reduce_79 ?_
      refine lv_iload_n hx hb dX6_reduce_82 rfl (lv_at hl 1 rfl) ?_
      obtain ⟨hi, hm⟩ := gk_ix_some hm
      refine va_lald hx hb hK hP 1 1 rfl rfl hi dX6_reduce_83 ?_
      refine lv_lconst (v := 1) hx hb dX6_reduce_84 (by decide) ?_
      refine lv_iload hx hb dX6_reduce_85 (lv_at hl 6 rfl) ?_
      refine lv_lshl hx hb dX6_reduce_87 rfl ?_
      refine lv_land hx hb dX6_reduce_88 ?_
      refine lv_lor hx hb dX6_reduce_89 ?_
      refine lv_lstore (lv' := [(5, .long (x5 ||| ((f_members x1.toNatClampNeg) &&& ((1 : Int64) <<< (x7.toInt64 &&& 63))))), (0, .ref a0), (1, .int x1), (2, .int x2), (3, .int x3), (4, .int x4), (7, .int x7)]) hx hb dX6_reduce_90 hl (by decide) rfl (fun ls hl => ?_)
      refine lv_iinc (v := x7 + 1) (lv' := [(7, .int (x7 + 1)), (5, .long (x5 ||| ((f_members x1.toNatClampNeg) &&& ((1 : Int64) <<< (x7.toInt64 &&& 63))))), (0, .ref a0), (1, .int x1), (2, .int x2), (3, .int x3), (4, .int x4)]) hx hb dX6_reduce_92 hl (k := 6) rfl rfl (by decide) rfl (fun ls hl => ?_)
      refine lv_goto (tgt := 55) hx hb dX6_reduce_95 (by decide) ?_
      exact kl _ _ (Option.some.inj hm).symm _ _ _ ⟨hP, hD, hS⟩ (lv_sub hl [2, 3, 4, 5, 6, 1, 0] rfl)
set_option maxRecDepth 100000 in
set_option maxHeartbeats 4000000 in
theorem w_X6_reduce_L55 {p : Program} {l : Launch} {e : Env} {s : State} {m : MethodId} {args : Array Value} {below : List Frame} {meth : Method} {c : Code} {G : gk_G} {A : Nat → Prop} {Q : State → Prop} {a0 a1 a2 a3 a4 a5 a6 a7 a8 a9 a10 a11 a12 a13 a14 a15 a16 a17 a18 a19 a20 a21 : Nat} (C : gk_C p s m args meth c cX6_reduce 12 (some .int) yX6_reduce wsX6_reduce false G A) {f_n : Int32} {f_members : (Nat → Int64)} {f_kind : (Nat → Int32)} {x1 : Int32} {x2 : Int32} {x3 : Int32} {x4 : Int32} {x5 : Int64} {x7 : Int32} {f_keptN : Int32} {f_side : Int32} {f_rows : Int32} {k : Nat} {e_x5 : Int64} (hm : gk_lp (fun z => m_X6_reduce_B55 f_n f_members f_kind x1 x2 x3 x4 z.1 z.2) k (x5, x7) = some e_x5) (kx : ∀ (H : Heap) (locs : List Loc) (ls : Array Slot), gk_H G A s [(a0, .inr (5, [.int f_n, .ref a1, .ref a2, .ref a3, .ref a4, .int f_keptN, .ref a5, .ref a6, .ref a7, .ref a8, .ref a9, .ref a10, .ref a11, .ref a12, .ref a13, .ref a14, .ref a15, .ref a16, .int f_side, .ref a17, .ref a18, .ref a19, .int f_rows, .ref a20, .ref a21])), (a1, gk_J G 6 f_members), (a2, gk_I G 6 f_kind)] H locs → lv_has ls 12 [(0, .ref a0), (1, .int x1), (2, .int x2), (4, .int x4), (5, .long e_x5)] → W p l e rm_X6_reduce s m args below meth c H locs 0 0 Q (F0 m 98 ls [])) {H : Heap} {locs : List Loc} {ls : Array Slot} (h : gk_H G A s [(a0, .inr (5, [.int f_n, .ref a1, .ref a2, .ref a3, .ref a4, .int f_keptN, .ref a5, .ref a6, .ref a7, .ref a8, .ref a9, .ref a10, .ref a11, .ref a12, .ref a13, .ref a14, .ref a15, .ref a16, .int f_side, .ref a17, .ref a18, .ref a19, .int f_rows, .ref a20, .ref a21])), (a1, gk_J G 6 f_members), (a2, gk_I G 6 f_kind)] H locs) (hl : lv_has ls 12 [(0, .ref a0), (1, .int x1), (2, .int x2), (3, .int x3), (4, .int x4), (5, .long x5), (7, .int x7)]) : W p l e rm_X6_reduce s m args below meth c H locs 0 0 Q (F0 m 55 ls []) :=
  gk_lp_some (P := fun z => ∀ (H : Heap) (locs : List Loc) (ls : Array Slot), gk_H G A s [(a0, .inr (5, [.int f_n, .ref a1, .ref a2, .ref a3, .ref a4, .int f_keptN, .ref a5, .ref a6, .ref a7, .ref a8, .ref a9, .ref a10, .ref a11, .ref a12, .ref a13, .ref a14, .ref a15, .ref a16, .int f_side, .ref a17, .ref a18, .ref a19, .int f_rows, .ref a20, .ref a21])), (a1, gk_J G 6 f_members), (a2, gk_I G 6 f_kind)] H locs → lv_has ls 12 [(0, .ref a0), (1, .int x1), (2, .int x2), (3, .int x3), (4, .int x4), (5, .long z.1), (7, .int z.2)] → W p l e rm_X6_reduce s m args below meth c H locs 0 0 Q (F0 m 55 ls [])) (E := fun r => (∀ (x5 : Int64), r = x5 → ∀ (H : Heap) (locs : List Loc) (ls : Array Slot), gk_H G A s [(a0, .inr (5, [.int f_n, .ref a1, .ref a2, .ref a3, .ref a4, .int f_keptN, .ref a5, .ref a6, .ref a7, .ref a8, .ref a9, .ref a10, .ref a11, .ref a12, .ref a13, .ref a14, .ref a15, .ref a16, .int f_side, .ref a17, .ref a18, .ref a19, .int f_rows, .ref a20, .ref a21])), (a1, gk_J G 6 f_members), (a2, gk_I G 6 f_kind)] H locs → lv_has ls 12 [(0, .ref a0), (1, .int x1), (2, .int x2), (4, .int x4), (5, .long x5)] → W p l e rm_X6_reduce s m args below meth c H locs 0 0 Q (F0 m 98 ls []))) (fun z x hf kl ke H locs ls h hl => w_X6_reduce_B55 C hf (fun v0 v1 ez => kl (v0, v1) ez) (fun v0 ez => ke _ ez v0 rfl) h hl) k (x5, x7) _ hm (fun v0 ez => (by cases ez; exact kx)) _ _ _ h hl
def m_X6_reduce_B124 (f_n : Int32) (f_members : (Nat → Int64)) (f_kind : (Nat → Int32)) (x2 : Int32) (x4 : Int32) (x7 : Int64) (x9 : Int64) (x11 : Int32) : Option ((Int64 × Int32) ⊕ (Int64)) := (if ((1 : Int32) <<< (f_n &&& 31)) ≤ x11 then some (.inr x9) else (if (lg_cmp ((x7 >>> (x11.toInt64 &&& 63)) &&& (1 : Int64)) (1 : Int64)) = (0 : Int32) then some (.inl (x9 ||| ((1 : Int64) <<< ((x11 &&& (((1 : Int32) <<< (x2 &&& 31)) ^^^ (-1 : Int32))).toInt64 &&& 63)), x11 + 1)) else some (.inl (x9, x11 + 1))))
set_option maxRecDepth 100000 in
set_option maxHeartbeats 4000000 in
theorem w_X6_reduce_B124 {p : Program} {l : Launch} {e : Env} {s : State} {m : MethodId} {args : Array Value} {below : List Frame} {meth : Method} {c : Code} {G : gk_G} {A : Nat → Prop} {Q : State → Prop} {a0 a1 a2 a3 a4 a5 a6 a7 a8 a9 a10 a11 a12 a13 a14 a15 a16 a17 a18 a19 a20 a21 : Nat} (C : gk_C p s m args meth c cX6_reduce 12 (some .int) yX6_reduce wsX6_reduce false G A) {f_n : Int32} {f_members : (Nat → Int64)} {f_kind : (Nat → Int32)} {x2 : Int32} {x4 : Int32} {x7 : Int64} {x9 : Int64} {x11 : Int32} {f_keptN : Int32} {f_side : Int32} {f_rows : Int32} {yy : (Int64 × Int32) ⊕ (Int64)} (hm : m_X6_reduce_B124 f_n f_members f_kind x2 x4 x7 x9 x11 = some yy) (kl : ∀ (x9 : Int64) (x11 : Int32), yy = .inl (x9, x11) → ∀ (H : Heap) (locs : List Loc) (ls : Array Slot), gk_H G A s [(a0, .inr (5, [.int f_n, .ref a1, .ref a2, .ref a3, .ref a4, .int f_keptN, .ref a5, .ref a6, .ref a7, .ref a8, .ref a9, .ref a10, .ref a11, .ref a12, .ref a13, .ref a14, .ref a15, .ref a16, .int f_side, .ref a17, .ref a18, .ref a19, .int f_rows, .ref a20, .ref a21])), (a1, gk_J G 6 f_members), (a2, gk_I G 6 f_kind)] H locs → lv_has ls 12 [(0, .ref a0), (2, .int x2), (4, .int x4), (7, .long x7), (9, .long x9), (11, .int x11)] → W p l e rm_X6_reduce s m args below meth c H locs 0 0 Q (F0 m 124 ls [])) (kx : ∀ (x9 : Int64), yy = .inr x9 → ∀ (H : Heap) (locs : List Loc) (ls : Array Slot), gk_H G A s [(a0, .inr (5, [.int f_n, .ref a1, .ref a2, .ref a3, .ref a4, .int f_keptN, .ref a5, .ref a6, .ref a7, .ref a8, .ref a9, .ref a10, .ref a11, .ref a12, .ref a13, .ref a14, .ref a15, .ref a16, .int f_side, .ref a17, .ref a18, .ref a19, .int f_rows, .ref a20, .ref a21])), (a1, gk_J G 6 f_members), (a2, gk_I G 6 f_kind)] H locs → lv_has ls 12 [(0, .ref a0), (4, .int x4), (9, .long x9)] → W p l e rm_X6_reduce s m args below meth c H locs 0 0 Q (F0 m 168 ls [])) {H : Heap} {locs : List Loc} {ls : Array Slot} (h : gk_H G A s [(a0, .inr (5, [.int f_n, .ref a1, .ref a2, .ref a3, .ref a4, .int f_keptN, .ref a5, .ref a6, .ref a7, .ref a8, .ref a9, .ref a10, .ref a11, .ref a12, .ref a13, .ref a14, .ref a15, .ref a16, .int f_side, .ref a17, .ref a18, .ref a19, .int f_rows, .ref a20, .ref a21])), (a1, gk_J G 6 f_members), (a2, gk_I G 6 f_kind)] H locs) (hl : lv_has ls 12 [(0, .ref a0), (2, .int x2), (4, .int x4), (7, .long x7), (9, .long x9), (11, .int x11)]) : W p l e rm_X6_reduce s m args below meth c H locs 0 0 Q (F0 m 124 ls []) := by
  obtain ⟨hx, hb, hml, hr, hown, hnm, hts, hlk, hK, hSt, hA⟩ := id C
  obtain ⟨hP, hD, hS⟩ := h
  unfold m_X6_reduce_B124 at hm
  refine lv_iload hx hb dX6_reduce_124 (lv_at hl 5 rfl) ?_
  refine lv_iconst (v := 1) hx hb dX6_reduce_126 (by decide) ?_
  refine lv_aload_n hx hb dX6_reduce_127 rfl (lv_at hl 0 rfl) ?_
  refine va_get (D := G.1) (cl := vwCl) (own := RX6) (ref := "ExchangeFamiliesModel") (ci := 5) (v := .int f_n) (C := RX6) (T := TX6) (N := 25) hx hb hts k_X6_reduce_0 hown hK hP 0 rfl rfl 0 (by decide) (hts _ k_X6_reduce_2) (fun _ h9 => h9) rfl dX6_reduce_128 ?_
  refine lv_ishl hx hb dX6_reduce_131 ?_
  refine lv_icmp_ge (tgt := 168) hx hb dX6_reduce_132 (by decide) (fun c24 => ?_) (fun c24 => ?_)
  · have hm := gk_it c24 hm
    exact kx _ (Option.some.inj hm).symm _ _ _ ⟨hP, hD, hS⟩ (lv_sub hl [0, 2, 4] rfl)
  · have hm := gk_if c24 hm
    refine lv_lload hx hb dX6_reduce_135 (lv_at hl 3 rfl) ?_
    refine lv_iload hx hb dX6_reduce_137 (lv_at hl 5 rfl) ?_
    refine lv_lshr hx hb dX6_reduce_139 rfl ?_
    refine lv_lconst (v := 1) hx hb dX6_reduce_140 (by decide) ?_
    refine lv_land hx hb dX6_reduce_141 ?_
    refine lv_lconst (v := 1) hx hb dX6_reduce_142 (by decide) ?_
    refine W.lcmp hx hb dX6_reduce_143 ?_
    refine lv_if_ne (tgt := 162) hx hb dX6_reduce_144 (by decide) (fun c25 => ?_) (fun c25 => ?_)
    · have hm := gk_if c25 hm
      refine lv_iinc (v := x11 + 1) (lv' := [(11, .int (x11 + 1)), (0, .ref a0), (2, .int x2), (4, .int x4), (7, .long x7), (9, .long x9)]) hx hb dX6_reduce_162 hl (k := 5) rfl rfl (by decide) rfl (fun ls hl => ?_)
      refine lv_goto (tgt := 124) hx hb dX6_reduce_165 (by decide) ?_
      exact kl _ _ (Option.some.inj hm).symm _ _ _ ⟨hP, hD, hS⟩ (lv_sub hl [1, 2, 3, 4, 5, 0] rfl)
    · have hm := gk_it c25 hm
      refine lv_lload hx hb dX6_reduce_147 (lv_at hl 4 rfl) ?_
      refine lv_lconst (v := 1) hx hb dX6_reduce_149 (by decide) ?_
      refine lv_iload hx hb dX6_reduce_150 (lv_at hl 5 rfl) ?_
      refine lv_iconst (v := 1) hx hb dX6_reduce_152 (by decide) ?_
      refine lv_iload_n hx hb dX6_reduce_153 rfl (lv_at hl 1 rfl) ?_
      refine lv_ishl hx hb dX6_reduce_154 ?_
      refine lv_iconst (v := -1) hx hb dX6_reduce_155 (by decide) ?_
      refine lv_ixor hx hb dX6_reduce_156 ?_
      refine lv_iand hx hb dX6_reduce_157 ?_
      refine lv_lshl hx hb dX6_reduce_158 rfl ?_
      refine lv_lor hx hb dX6_reduce_159 ?_
      refine lv_lstore (lv' := [(9, .long (x9 ||| ((1 : Int64) <<< ((x11 &&& (((1 : Int32) <<< (x2 &&& 31)) ^^^ (-1 : Int32))).toInt64 &&& 63)))), (0, .ref a0), (2, .int x2), (4, .int x4), (7, .long x7), (11, .int x11)]) hx hb dX6_reduce_160 hl (by decide) rfl (fun ls hl => ?_)
      refine lv_iinc (v := x11 + 1) (lv' := [(11, .int (x11 + 1)), (9, .long (x9 ||| ((1 : Int64) <<< ((x11 &&& (((1 : Int32) <<< (x2 &&& 31)) ^^^ (-1 : Int32))).toInt64 &&& 63)))), (0, .ref a0), (2, .int x2), (4, .int x4), (7, .long x7)]) hx hb dX6_reduce_162 hl (k := 5) rfl rfl (by decide) rfl (fun ls hl => ?_)
      refine lv_goto (tgt := 124) hx hb dX6_reduce_165 (by decide) ?_
      exact kl _ _ (Option.some.inj hm).symm _ _ _ ⟨hP, hD, hS⟩ (lv_sub hl [2, 3, 4, 5, 1, 0] rfl)
set_option maxRecDepth 100000 in
set_option maxHeartbeats 4000000 in
theorem w_X6_reduce_L124 {p : Program} {l : Launch} {e : Env} {s : State} {m : MethodId} {args : Array Value} {below : List Frame} {meth : Method} {c : Code} {G : gk_G} {A : Nat → Prop} {Q : State → Prop} {a0 a1 a2 a3 a4 a5 a6 a7 a8 a9 a10 a11 a12 a13 a14 a15 a16 a17 a18 a19 a20 a21 : Nat} (C : gk_C p s m args meth c cX6_reduce 12 (some .int) yX6_reduce wsX6_reduce false G A) {f_n : Int32} {f_members : (Nat → Int64)} {f_kind : (Nat → Int32)} {x2 : Int32} {x4 : Int32} {x7 : Int64} {x9 : Int64} {x11 : Int32} {f_keptN : Int32} {f_side : Int32} {f_rows : Int32} {k : Nat} {e_x9 : Int64} (hm : gk_lp (fun z => m_X6_reduce_B124 f_n f_members f_kind x2 x4 x7 z.1 z.2) k (x9, x11) = some e_x9) (kx : ∀ (H : Heap) (locs : List Loc) (ls : Array Slot), gk_H G A s [(a0, .inr (5, [.int f_n, .ref a1, .ref a2, .ref a3, .ref a4, .int f_keptN, .ref a5, .ref a6, .ref a7, .ref a8, .ref a9, .ref a10, .ref a11, .ref a12, .ref a13, .ref a14, .ref a15, .ref a16, .int f_side, .ref a17, .ref a18, .ref a19, .int f_rows, .ref a20, .ref a21])), (a1, gk_J G 6 f_members), (a2, gk_I G 6 f_kind)] H locs → lv_has ls 12 [(0, .ref a0), (4, .int x4), (9, .long e_x9)] → W p l e rm_X6_reduce s m args below meth c H locs 0 0 Q (F0 m 168 ls [])) {H : Heap} {locs : List Loc} {ls : Array Slot} (h : gk_H G A s [(a0, .inr (5, [.int f_n, .ref a1, .ref a2, .ref a3, .ref a4, .int f_keptN, .ref a5, .ref a6, .ref a7, .ref a8, .ref a9, .ref a10, .ref a11, .ref a12, .ref a13, .ref a14, .ref a15, .ref a16, .int f_side, .ref a17, .ref a18, .ref a19, .int f_rows, .ref a20, .ref a21])), (a1, gk_J G 6 f_members), (a2, gk_I G 6 f_kind)] H locs) (hl : lv_has ls 12 [(0, .ref a0), (2, .int x2), (4, .int x4), (7, .long x7), (9, .long x9), (11, .int x11)]) : W p l e rm_X6_reduce s m args below meth c H locs 0 0 Q (F0 m 124 ls []) :=
  gk_lp_some (P := fun z => ∀ (H : Heap) (locs : List Loc) (ls : Array Slot), gk_H G A s [(a0, .inr (5, [.int f_n, .ref a1, .ref a2, .ref a3, .ref a4, .int f_keptN, .ref a5, .ref a6, .ref a7, .ref a8, .ref a9, .ref a10, .ref a11, .ref a12, .ref a13, .ref a14, .ref a15, .ref a16, .int f_side, .ref a17, .ref a18, .ref a19, .int f_rows, .ref a20, .ref a21])), (a1, gk_J G 6 f_members), (a2, gk_I G 6 f_kind)] H locs → lv_has ls 12 [(0, .ref a0), (2, .int x2), (4, .int x4), (7, .long x7), (9, .long z.1), (11, .int z.2)] → W p l e rm_X6_reduce s m args below meth c H locs 0 0 Q (F0 m 124 ls [])) (E := fun r => (∀ (x9 : Int64), r = x9 → ∀ (H : Heap) (locs : List Loc) (ls : Array Slot), gk_H G A s [(a0, .inr (5, [.int f_n, .ref a1, .ref a2, .ref a3, .ref a4, .int f_keptN, .ref a5, .ref a6, .ref a7, .ref a8, .ref a9, .ref a10, .ref a11, .ref a12, .ref a13, .ref a14, .ref a15, .ref a16, .int f_side, .ref a17, .ref a18, .ref a19, .int f_rows, .ref a20, .ref a21])), (a1, gk_J G 6 f_members), (a2, gk_I G 6 f_kind)] H locs → lv_has ls 12 [(0, .ref a0), (4, .int x4), (9, .long x9)] → W p l e rm_X6_reduce s m args below meth c H locs 0 0 Q (F0 m 168 ls []))) (fun z x hf kl ke H locs ls h hl => w_X6_reduce_B124 C hf (fun v0 v1 ez => kl (v0, v1) ez) (fun v0 ez => ke _ ez v0 rfl) h hl) k (x9, x11) _ hm (fun v0 ez => (by cases ez; exact kx)) _ _ _ h hl
def m_X6_reduce_J98 (f_n : Int32) (f_members : (Nat → Int64)) (f_kind : (Nat → Int32)) (x1 : Int32) (x2 : Int32) (x4 : Int32) (x5 : Int64) : Option (Int32 × (Nat → Int64) × (Nat → Int32)) := (if (lg_cmp x5 (0 : Int64)) = (0 : Int32) then gk_ix x1 6 (gk_bd1 (gk_lp (fun z => m_X6_reduce_B124 f_n f_members f_kind x2 x4 (f_members x1.toNatClampNeg) z.1 z.2) gk_fu ((0 : Int64), (0 : Int32))) (fun e30 => gk_bd3 (m_X6_becomes f_members f_kind x4 (4 : Int32) e30) (fun r31 r32 r33 => some (r31, r32, r33)))) else gk_bd1 (gk_lp (fun z => m_X6_reduce_B124 f_n f_members f_kind x2 x4 x5 z.1 z.2) gk_fu ((0 : Int64), (0 : Int32))) (fun e26 => gk_bd3 (m_X6_becomes f_members f_kind x4 (4 : Int32) e26) (fun r27 r28 r29 => some (r27, r28, r29))))
set_option maxRecDepth 100000 in
set_option maxHeartbeats 4000000 in
theorem w_X6_reduce_J98 {p : Program} {l : Launch} {e : Env} {s : State} {m : MethodId} {args : Array Value} {below : List Frame} {meth : Method} {c : Code} {G : gk_G} {A : Nat → Prop} {Q : State → Prop} {a0 a1 a2 a3 a4 a5 a6 a7 a8 a9 a10 a11 a12 a13 a14 a15 a16 a17 a18 a19 a20 a21 : Nat} (C : gk_C p s m args meth c cX6_reduce 12 (some .int) yX6_reduce wsX6_reduce false G A) {f_n : Int32} {f_members : (Nat → Int64)} {f_kind : (Nat → Int32)} {x1 : Int32} {x2 : Int32} {x4 : Int32} {x5 : Int64} {f_keptN : Int32} {f_side : Int32} {f_rows : Int32} {yy : Int32 × (Nat → Int64) × (Nat → Int32)} (hm : m_X6_reduce_J98 f_n f_members f_kind x1 x2 x4 x5 = some yy) (kr : ∀ (rv : Int32) (g_members : (Nat → Int64)) (g_kind : (Nat → Int32)), yy = (rv, g_members, g_kind) → Q = MQ below (gk_Q G (some (.int rv)) [(a0, .inr (5, [.int f_n, .ref a1, .ref a2, .ref a3, .ref a4, .int f_keptN, .ref a5, .ref a6, .ref a7, .ref a8, .ref a9, .ref a10, .ref a11, .ref a12, .ref a13, .ref a14, .ref a15, .ref a16, .int f_side, .ref a17, .ref a18, .ref a19, .int f_rows, .ref a20, .ref a21])), (a1, gk_J G 6 g_members), (a2, gk_I G 6 g_kind)] A) args s 0 0 A) {H : Heap} {locs : List Loc} {ls : Array Slot} (h : gk_H G A s [(a0, .inr (5, [.int f_n, .ref a1, .ref a2, .ref a3, .ref a4, .int f_keptN, .ref a5, .ref a6, .ref a7, .ref a8, .ref a9, .ref a10, .ref a11, .ref a12, .ref a13, .ref a14, .ref a15, .ref a16, .int f_side, .ref a17, .ref a18, .ref a19, .int f_rows, .ref a20, .ref a21])), (a1, gk_J G 6 f_members), (a2, gk_I G 6 f_kind)] H locs) (hl : lv_has ls 12 [(0, .ref a0), (1, .int x1), (2, .int x2), (4, .int x4), (5, .long x5)]) : W p l e rm_X6_reduce s m args below meth c H locs 0 0 Q (F0 m 98 ls []) := by
  obtain ⟨hx, hb, hml, hr, hown, hnm, hts, hlk, hK, hSt, hA⟩ := id C
  obtain ⟨hP, hD, hS⟩ := h
  unfold m_X6_reduce_J98 at hm
  refine lv_lload hx hb dX6_reduce_98 (lv_at hl 4 rfl) ?_
  refine lv_lconst (v := 0) hx hb dX6_reduce_100 (by decide) ?_
  refine W.lcmp hx hb dX6_reduce_101 ?_
  refine lv_if_ne (tgt := 114) hx hb dX6_reduce_102 (by decide) (fun c23 => ?_) (fun c23 => ?_)
  · have hm := gk_if c23 hm
    refine lv_lload hx hb dX6_reduce_114 (lv_at hl 4 rfl) ?_
    refine lv_lstore (lv' := [(7, .long x5), (0, .ref a0), (1, .int x1), (2, .int x2), (4, .int x4), (5, .long x5)]) hx hb dX6_reduce_116 hl (by decide) rfl (fun ls hl => ?_)
    refine lv_lconst (v := 0) hx hb dX6_reduce_118 (by decide) ?_
    refine lv_lstore (lv' := [(9, .long (0 : Int64)), (7, .long x5), (0, .ref a0), (1, .int x1), (2, .int x2), (4, .int x4), (5, .long x5)]) hx hb dX6_reduce_119 hl (by decide) rfl (fun ls hl => ?_)
    refine lv_iconst (v := 0) hx hb dX6_reduce_121 (by decide) ?_
    refine lv_istore (lv' := [(11, .int (0 : Int32)), (9, .long (0 : Int64)), (7, .long x5), (0, .ref a0), (1, .int x1), (2, .int x2), (4, .int x4), (5, .long x5)]) hx hb dX6_reduce_122 hl (by decide) rfl (fun ls hl => ?_)
    obtain ⟨e26, hq, hm⟩ := gk_bd1_some hm
    refine w_X6_reduce_L124 C hq (fun H locs ls h hl => ?_) ⟨hP, hD, hS⟩ (lv_sub hl [3, 5, 6, 2, 1, 0] rfl)
    obtain ⟨hP, hD, hS⟩ := h
    refine lv_aload_n hx hb dX6_reduce_168 rfl (lv_at hl 0 rfl) ?_
    refine lv_iload hx hb dX6_reduce_169 (lv_at hl 1 rfl) ?_
    refine lv_iconst (v := 4) hx hb dX6_reduce_171 (by decide) ?_
    refine lv_lload hx hb dX6_reduce_172 (lv_at hl 2 rfl) ?_
    obtain ⟨r27, r28, r29, hq, hm⟩ := gk_bd3_some hm
    refine gk_callV (n := 3) (bytes := cX6_becomes) (maxL := 5) (ret := (some .int)) (Cn := RX6) (T := TX6) (N := 25) [] [(a0, .inr (5, [.int f_n, .ref a1, .ref a2, .ref a3, .ref a4, .int f_keptN, .ref a5, .ref a6, .ref a7, .ref a8, .ref a9, .ref a10, .ref a11, .ref a12, .ref a13, .ref a14, .ref a15, .ref a16, .int f_side, .ref a17, .ref a18, .ref a19, .int f_rows, .ref a20, .ref a21])), (a1, gk_J G 6 r28), (a2, gk_I G 6 r29)] [] C ⟨hP, hD, hS⟩ (c_X6_becomes l G a0 a1 a2 a3 a4 a5 a6 a7 a8 a9 a10 a11 a12 a13 a14 a15 a16 a17 a18 a19 a20 a21 f_n f_keptN f_side f_rows f_members f_kind x4 (4 : Int32) e26 hq) gX6_reduce_X6_becomes dX6_reduce_174 hl.1 [0, 1, 2] [] [0, 1, 2] rfl rfl ⟨rfl, rfl⟩ ⟨Nat.le_of_ble_eq_true rfl, Nat.le_of_ble_eq_true rfl⟩ ⟨rfl, by decide +kernel, by decide +kernel, by decide +kernel⟩ rfl (fun h => by cases h) (Nat.le_of_ble_eq_true rfl) rfl rfl rfl rfl (by decide) rfl rfl (fun H locs h => ?_)
    obtain ⟨hP, hD, hS⟩ := h
    rw [kr _ _ _ (Option.some.inj hm).symm]
    exact gk_iret C ⟨hP, hD, hS⟩ dX6_reduce_177
  · have hm := gk_it c23 hm
    refine lv_aload_n hx hb dX6_reduce_105 rfl (lv_at hl 0 rfl) ?_
    refine va_get (D := G.1) (cl := vwCl) (own := RX6) (ref := "ExchangeFamiliesModel") (ci := 5) (v := .ref a1) (C := RX6) (T := TX6) (N := 25) hx hb hts k_X6_reduce_0 hown hK hP 0 rfl rfl 1 (by decide) (hts _ k_X6_reduce_3) (fun _ h9 => h9) rfl dX6_reduce_106 ?_
    refine lv_iload_n hx hb dX6_reduce_109 rfl (lv_at hl 1 rfl) ?_
    obtain ⟨hi, hm⟩ := gk_ix_some hm
    refine va_lald hx hb hK hP 1 1 rfl rfl hi dX6_reduce_110 ?_
    refine lv_goto (tgt := 116) hx hb dX6_reduce_111 (by decide) ?_
    refine lv_lstore (lv' := [(7, .long (f_members x1.toNatClampNeg)), (0, .ref a0), (1, .int x1), (2, .int x2), (4, .int x4), (5, .long x5)]) hx hb dX6_reduce_116 hl (by decide) rfl (fun ls hl => ?_)
    refine lv_lconst (v := 0) hx hb dX6_reduce_118 (by decide) ?_
    refine lv_lstore (lv' := [(9, .long (0 : Int64)), (7, .long (f_members x1.toNatClampNeg)), (0, .ref a0), (1, .int x1), (2, .int x2), (4, .int x4), (5, .long x5)]) hx hb dX6_reduce_119 hl (by decide) rfl (fun ls hl => ?_)
    refine lv_iconst (v := 0) hx hb dX6_reduce_121 (by decide) ?_
    refine lv_istore (lv' := [(11, .int (0 : Int32)), (9, .long (0 : Int64)), (7, .long (f_members x1.toNatClampNeg)), (0, .ref a0), (1, .int x1), (2, .int x2), (4, .int x4), (5, .long x5)]) hx hb dX6_reduce_122 hl (by decide) rfl (fun ls hl => ?_)
    obtain ⟨e30, hq, hm⟩ := gk_bd1_some hm
    refine w_X6_reduce_L124 C hq (fun H locs ls h hl => ?_) ⟨hP, hD, hS⟩ (lv_sub hl [3, 5, 6, 2, 1, 0] rfl)
    obtain ⟨hP, hD, hS⟩ := h
    refine lv_aload_n hx hb dX6_reduce_168 rfl (lv_at hl 0 rfl) ?_
    refine lv_iload hx hb dX6_reduce_169 (lv_at hl 1 rfl) ?_
    refine lv_iconst (v := 4) hx hb dX6_reduce_171 (by decide) ?_
    refine lv_lload hx hb dX6_reduce_172 (lv_at hl 2 rfl) ?_
    obtain ⟨r31, r32, r33, hq, hm⟩ := gk_bd3_some hm
    refine gk_callV (n := 3) (bytes := cX6_becomes) (maxL := 5) (ret := (some .int)) (Cn := RX6) (T := TX6) (N := 25) [] [(a0, .inr (5, [.int f_n, .ref a1, .ref a2, .ref a3, .ref a4, .int f_keptN, .ref a5, .ref a6, .ref a7, .ref a8, .ref a9, .ref a10, .ref a11, .ref a12, .ref a13, .ref a14, .ref a15, .ref a16, .int f_side, .ref a17, .ref a18, .ref a19, .int f_rows, .ref a20, .ref a21])), (a1, gk_J G 6 r32), (a2, gk_I G 6 r33)] [] C ⟨hP, hD, hS⟩ (c_X6_becomes l G a0 a1 a2 a3 a4 a5 a6 a7 a8 a9 a10 a11 a12 a13 a14 a15 a16 a17 a18 a19 a20 a21 f_n f_keptN f_side f_rows f_members f_kind x4 (4 : Int32) e30 hq) gX6_reduce_X6_becomes dX6_reduce_174 hl.1 [0, 1, 2] [] [0, 1, 2] rfl rfl ⟨rfl, rfl⟩ ⟨Nat.le_of_ble_eq_true rfl, Nat.le_of_ble_eq_true rfl⟩ ⟨rfl, by decide +kernel, by decide +kernel, by decide +kernel⟩ rfl (fun h => by cases h) (Nat.le_of_ble_eq_true rfl) rfl rfl rfl rfl (by decide) rfl rfl (fun H locs h => ?_)
    obtain ⟨hP, hD, hS⟩ := h
    rw [kr _ _ _ (Option.some.inj hm).symm]
    exact gk_iret C ⟨hP, hD, hS⟩ dX6_reduce_177
def m_X6_reduce_0 (f_n : Int32) (f_members : (Nat → Int64)) (f_kind : (Nat → Int32)) (x1 : Int32) (x2 : Int32) (x3 : Int32) (x4 : Int32) : Option (Int32 × (Nat → Int64) × (Nat → Int32)) := gk_bd1 (m_X6_isFamily x1) (fun r11 => (if r11 = (0 : Int32) then some ((-2 : Int32), f_members, f_kind) else gk_bd1 (m_X6_isPoint f_n x2) (fun r13 => (if r13 = (0 : Int32) then some ((-2 : Int32), f_members, f_kind) else gk_bd1 (m_X6_isIn x3.toInt64 (0 : Int64) (1 : Int64)) (fun r15 => (if r15 = (0 : Int32) then some ((-2 : Int32), f_members, f_kind) else gk_bd1 (m_X6_isFamily x4) (fun r17 => (if r17 = (0 : Int32) then some ((-2 : Int32), f_members, f_kind) else gk_ix x1 6 ((if (f_kind x1.toNatClampNeg) = (-1 : Int32) then some ((-11 : Int32), f_members, f_kind) else gk_bd1 (gk_lp (fun z => m_X6_reduce_B55 f_n f_members f_kind x1 x2 x3 x4 z.1 z.2) gk_fu ((0 : Int64), (0 : Int32))) (fun e22 => m_X6_reduce_J98 f_n f_members f_kind x1 x2 x4 e22)))))))))))
set_option maxRecDepth 100000 in
set_option maxHeartbeats 4000000 in
theorem w_X6_reduce_0 {p : Program} {l : Launch} {e : Env} {s : State} {m : MethodId} {args : Array Value} {below : List Frame} {meth : Method} {c : Code} {G : gk_G} {A : Nat → Prop} {Q : State → Prop} {a0 a1 a2 a3 a4 a5 a6 a7 a8 a9 a10 a11 a12 a13 a14 a15 a16 a17 a18 a19 a20 a21 : Nat} (C : gk_C p s m args meth c cX6_reduce 12 (some .int) yX6_reduce wsX6_reduce false G A) {f_n : Int32} {f_members : (Nat → Int64)} {f_kind : (Nat → Int32)} {x1 : Int32} {x2 : Int32} {x3 : Int32} {x4 : Int32} {f_keptN : Int32} {f_side : Int32} {f_rows : Int32} {yy : Int32 × (Nat → Int64) × (Nat → Int32)} (hm : m_X6_reduce_0 f_n f_members f_kind x1 x2 x3 x4 = some yy) (kr : ∀ (rv : Int32) (g_members : (Nat → Int64)) (g_kind : (Nat → Int32)), yy = (rv, g_members, g_kind) → Q = MQ below (gk_Q G (some (.int rv)) [(a0, .inr (5, [.int f_n, .ref a1, .ref a2, .ref a3, .ref a4, .int f_keptN, .ref a5, .ref a6, .ref a7, .ref a8, .ref a9, .ref a10, .ref a11, .ref a12, .ref a13, .ref a14, .ref a15, .ref a16, .int f_side, .ref a17, .ref a18, .ref a19, .int f_rows, .ref a20, .ref a21])), (a1, gk_J G 6 g_members), (a2, gk_I G 6 g_kind)] A) args s 0 0 A) {H : Heap} {locs : List Loc} {ls : Array Slot} (h : gk_H G A s [(a0, .inr (5, [.int f_n, .ref a1, .ref a2, .ref a3, .ref a4, .int f_keptN, .ref a5, .ref a6, .ref a7, .ref a8, .ref a9, .ref a10, .ref a11, .ref a12, .ref a13, .ref a14, .ref a15, .ref a16, .int f_side, .ref a17, .ref a18, .ref a19, .int f_rows, .ref a20, .ref a21])), (a1, gk_J G 6 f_members), (a2, gk_I G 6 f_kind)] H locs) (hl : lv_has ls 12 [(0, .ref a0), (1, .int x1), (2, .int x2), (3, .int x3), (4, .int x4)]) : W p l e rm_X6_reduce s m args below meth c H locs 0 0 Q (F0 m 0 ls []) := by
  obtain ⟨hx, hb, hml, hr, hown, hnm, hts, hlk, hK, hSt, hA⟩ := id C
  obtain ⟨hP, hD, hS⟩ := h
  unfold m_X6_reduce_0 at hm
  refine lv_iload_n hx hb dX6_reduce_0 rfl (lv_at hl 1 rfl) ?_
  obtain ⟨r11, hq, hm⟩ := gk_bd1_some hm
  refine gk_callS (n := 1) (bytes := cX6_isFamily) (maxL := 1) (ret := (some .boolean)) [(a0, .inr (5, [.int f_n, .ref a1, .ref a2, .ref a3, .ref a4, .int f_keptN, .ref a5, .ref a6, .ref a7, .ref a8, .ref a9, .ref a10, .ref a11, .ref a12, .ref a13, .ref a14, .ref a15, .ref a16, .int f_side, .ref a17, .ref a18, .ref a19, .int f_rows, .ref a20, .ref a21])), (a1, gk_J G 6 f_members), (a2, gk_I G 6 f_kind)] [(a0, .inr (5, [.int f_n, .ref a1, .ref a2, .ref a3, .ref a4, .int f_keptN, .ref a5, .ref a6, .ref a7, .ref a8, .ref a9, .ref a10, .ref a11, .ref a12, .ref a13, .ref a14, .ref a15, .ref a16, .int f_side, .ref a17, .ref a18, .ref a19, .int f_rows, .ref a20, .ref a21])), (a1, gk_J G 6 f_members), (a2, gk_I G 6 f_kind)] [] C ⟨hP, hD, hS⟩ (c_X6_isFamily l G x1 hq) gX6_reduce_X6_isFamily dX6_reduce_1 hl.1 [] [0, 1, 2] [0, 1, 2] rfl ⟨rfl, rfl⟩ ⟨Nat.le_of_ble_eq_true rfl, Nat.le_of_ble_eq_true rfl⟩ ⟨by decide +kernel, by decide +kernel, by decide +kernel⟩ rfl (fun h => by cases h) (Nat.le_of_ble_eq_true rfl) rfl rfl rfl rfl (by decide) rfl rfl (fun H locs h => ?_)
  obtain ⟨hP, hD, hS⟩ := h
  refine lv_if_eq (tgt := 33) hx hb dX6_reduce_4 (by decide) (fun c12 => ?_) (fun c12 => ?_)
  · have hm := gk_it c12 hm
    refine lv_bipush (v := -2) hx hb dX6_reduce_33 (by decide) ?_
    rw [kr _ _ _ (Option.some.inj hm).symm]
    exact gk_iret C ⟨hP, hD, hS⟩ dX6_reduce_35
  · have hm := gk_if c12 hm
    refine lv_aload_n hx hb dX6_reduce_7 rfl (lv_at hl 0 rfl) ?_
    refine lv_iload_n hx hb dX6_reduce_8 rfl (lv_at hl 2 rfl) ?_
    obtain ⟨r13, hq, hm⟩ := gk_bd1_some hm
    refine gk_callV (n := 1) (bytes := cX6_isPoint) (maxL := 2) (ret := (some .boolean)) (Cn := RX6) (T := TX6) (N := 25) [(a1, gk_J G 6 f_members), (a2, gk_I G 6 f_kind)] [(a0, .inr (5, [.int f_n, .ref a1, .ref a2, .ref a3, .ref a4, .int f_keptN, .ref a5, .ref a6, .ref a7, .ref a8, .ref a9, .ref a10, .ref a11, .ref a12, .ref a13, .ref a14, .ref a15, .ref a16, .int f_side, .ref a17, .ref a18, .ref a19, .int f_rows, .ref a20, .ref a21])), (a1, gk_J G 6 f_members), (a2, gk_I G 6 f_kind)] [] C ⟨hP, hD, hS⟩ (c_X6_isPoint l G a0 a1 a2 a3 a4 a5 a6 a7 a8 a9 a10 a11 a12 a13 a14 a15 a16 a17 a18 a19 a20 a21 f_n f_keptN f_side f_rows x2 hq) gX6_reduce_X6_isPoint dX6_reduce_9 hl.1 [0] [1, 2] [2, 0, 1] rfl rfl ⟨rfl, rfl⟩ ⟨Nat.le_of_ble_eq_true rfl, Nat.le_of_ble_eq_true rfl⟩ ⟨rfl, by decide +kernel, by decide +kernel, by decide +kernel⟩ rfl (fun h => by cases h) (Nat.le_of_ble_eq_true rfl) rfl rfl rfl rfl (by decide) rfl rfl (fun H locs h => ?_)
    obtain ⟨hP, hD, hS⟩ := h
    refine lv_if_eq (tgt := 33) hx hb dX6_reduce_12 (by decide) (fun c14 => ?_) (fun c14 => ?_)
    · have hm := gk_it c14 hm
      refine lv_bipush (v := -2) hx hb dX6_reduce_33 (by decide) ?_
      rw [kr _ _ _ (Option.some.inj hm).symm]
      exact gk_iret C ⟨hP, hD, hS⟩ dX6_reduce_35
    · have hm := gk_if c14 hm
      refine lv_iload_n hx hb dX6_reduce_15 rfl (lv_at hl 3 rfl) ?_
      refine lv_i2l hx hb dX6_reduce_16 rfl ?_
      refine lv_lconst (v := 0) hx hb dX6_reduce_17 (by decide) ?_
      refine lv_lconst (v := 1) hx hb dX6_reduce_18 (by decide) ?_
      obtain ⟨r15, hq, hm⟩ := gk_bd1_some hm
      refine gk_callS (n := 3) (bytes := cX6_isIn) (maxL := 6) (ret := (some .boolean)) [(a0, .inr (5, [.int f_n, .ref a1, .ref a2, .ref a3, .ref a4, .int f_keptN, .ref a5, .ref a6, .ref a7, .ref a8, .ref a9, .ref a10, .ref a11, .ref a12, .ref a13, .ref a14, .ref a15, .ref a16, .int f_side, .ref a17, .ref a18, .ref a19, .int f_rows, .ref a20, .ref a21])), (a1, gk_J G 6 f_members), (a2, gk_I G 6 f_kind)] [(a0, .inr (5, [.int f_n, .ref a1, .ref a2, .ref a3, .ref a4, .int f_keptN, .ref a5, .ref a6, .ref a7, .ref a8, .ref a9, .ref a10, .ref a11, .ref a12, .ref a13, .ref a14, .ref a15, .ref a16, .int f_side, .ref a17, .ref a18, .ref a19, .int f_rows, .ref a20, .ref a21])), (a1, gk_J G 6 f_members), (a2, gk_I G 6 f_kind)] [] C ⟨hP, hD, hS⟩ (c_X6_isIn l G x3.toInt64 (0 : Int64) (1 : Int64) hq) gX6_reduce_X6_isIn dX6_reduce_19 hl.1 [] [0, 1, 2] [0, 1, 2] rfl ⟨rfl, rfl⟩ ⟨Nat.le_of_ble_eq_true rfl, Nat.le_of_ble_eq_true rfl⟩ ⟨by decide +kernel, by decide +kernel, by decide +kernel⟩ rfl (fun h => by cases h) (Nat.le_of_ble_eq_true rfl) rfl rfl rfl rfl (by decide) rfl rfl (fun H locs h => ?_)
      obtain ⟨hP, hD, hS⟩ := h
      refine lv_if_eq (tgt := 33) hx hb dX6_reduce_22 (by decide) (fun c16 => ?_) (fun c16 => ?_)
      · have hm := gk_it c16 hm
        refine lv_bipush (v := -2) hx hb dX6_reduce_33 (by decide) ?_
        rw [kr _ _ _ (Option.some.inj hm).symm]
        exact gk_iret C ⟨hP, hD, hS⟩ dX6_reduce_35
      · have hm := gk_if c16 hm
        refine lv_iload hx hb dX6_reduce_25 (lv_at hl 4 rfl) ?_
        obtain ⟨r17, hq, hm⟩ := gk_bd1_some hm
        refine gk_callS (n := 1) (bytes := cX6_isFamily) (maxL := 1) (ret := (some .boolean)) [(a0, .inr (5, [.int f_n, .ref a1, .ref a2, .ref a3, .ref a4, .int f_keptN, .ref a5, .ref a6, .ref a7, .ref a8, .ref a9, .ref a10, .ref a11, .ref a12, .ref a13, .ref a14, .ref a15, .ref a16, .int f_side, .ref a17, .ref a18, .ref a19, .int f_rows, .ref a20, .ref a21])), (a1, gk_J G 6 f_members), (a2, gk_I G 6 f_kind)] [(a0, .inr (5, [.int f_n, .ref a1, .ref a2, .ref a3, .ref a4, .int f_keptN, .ref a5, .ref a6, .ref a7, .ref a8, .ref a9, .ref a10, .ref a11, .ref a12, .ref a13, .ref a14, .ref a15, .ref a16, .int f_side, .ref a17, .ref a18, .ref a19, .int f_rows, .ref a20, .ref a21])), (a1, gk_J G 6 f_members), (a2, gk_I G 6 f_kind)] [] C ⟨hP, hD, hS⟩ (c_X6_isFamily l G x4 hq) gX6_reduce_X6_isFamily dX6_reduce_27 hl.1 [] [0, 1, 2] [0, 1, 2] rfl ⟨rfl, rfl⟩ ⟨Nat.le_of_ble_eq_true rfl, Nat.le_of_ble_eq_true rfl⟩ ⟨by decide +kernel, by decide +kernel, by decide +kernel⟩ rfl (fun h => by cases h) (Nat.le_of_ble_eq_true rfl) rfl rfl rfl rfl (by decide) rfl rfl (fun H locs h => ?_)
        obtain ⟨hP, hD, hS⟩ := h
        refine lv_if_ne (tgt := 36) hx hb dX6_reduce_30 (by decide) (fun c18 => ?_) (fun c18 => ?_)
        · have hm := gk_if c18 hm
          refine lv_aload_n hx hb dX6_reduce_36 rfl (lv_at hl 0 rfl) ?_
          refine va_get (D := G.1) (cl := vwCl) (own := RX6) (ref := "ExchangeFamiliesModel") (ci := 5) (v := .ref a2) (C := RX6) (T := TX6) (N := 25) hx hb hts k_X6_reduce_0 hown hK hP 0 rfl rfl 2 (by decide) (hts _ k_X6_reduce_1) (fun _ h9 => h9) rfl dX6_reduce_37 ?_
          refine lv_iload_n hx hb dX6_reduce_40 rfl (lv_at hl 1 rfl) ?_
          obtain ⟨hi, hm⟩ := gk_ix_some hm
          refine va_iald hx hb hK hP 2 0 rfl rfl hi dX6_reduce_41 ?_
          refine lv_iconst (v := -1) hx hb dX6_reduce_42 (by decide) ?_
          refine lv_icmp_ne (tgt := 49) hx hb dX6_reduce_43 (by decide) (fun c19 => ?_) (fun c19 => ?_)
          · have hm := gk_if c19 hm
            refine lv_lconst (v := 0) hx hb dX6_reduce_49 (by decide) ?_
            refine lv_lstore (lv' := [(5, .long (0 : Int64)), (0, .ref a0), (1, .int x1), (2, .int x2), (3, .int x3), (4, .int x4)]) hx hb dX6_reduce_50 hl (by decide) rfl (fun ls hl => ?_)
            refine lv_iconst (v := 0) hx hb dX6_reduce_52 (by decide) ?_
            refine lv_istore (lv' := [(7, .int (0 : Int32)), (5, .long (0 : Int64)), (0, .ref a0), (1, .int x1), (2, .int x2), (3, .int x3), (4, .int x4)]) hx hb dX6_reduce_53 hl (by decide) rfl (fun ls hl => ?_)
            obtain ⟨e22, hq, hm⟩ := gk_bd1_some hm
            refine w_X6_reduce_L55 C hq (fun H locs ls h hl => ?_) ⟨hP, hD, hS⟩ (lv_sub hl [2, 3, 4, 5, 6, 1, 0] rfl)
            obtain ⟨hP, hD, hS⟩ := h
            exact w_X6_reduce_J98 C hm kr ⟨hP, hD, hS⟩ (lv_sub hl [0, 1, 2, 3, 4] rfl)
          · have hm := gk_it c19 hm
            refine lv_bipush (v := -11) hx hb dX6_reduce_46 (by decide) ?_
            rw [kr _ _ _ (Option.some.inj hm).symm]
            exact gk_iret C ⟨hP, hD, hS⟩ dX6_reduce_48
        · have hm := gk_it c18 hm
          refine lv_bipush (v := -2) hx hb dX6_reduce_33 (by decide) ?_
          rw [kr _ _ _ (Option.some.inj hm).symm]
          exact gk_iret C ⟨hP, hD, hS⟩ dX6_reduce_35
def m_X6_reduce (f_n : Int32) (f_members : (Nat → Int64)) (f_kind : (Nat → Int32)) (x1 : Int32) (x2 : Int32) (x3 : Int32) (x4 : Int32) : Option (Int32 × (Nat → Int64) × (Nat → Int32)) := m_X6_reduce_0 f_n f_members f_kind x1 x2 x3 x4
theorem c_X6_reduce (l : Launch) (G : gk_G) (a0 a1 a2 a3 a4 a5 a6 a7 a8 a9 a10 a11 a12 a13 a14 a15 a16 a17 a18 a19 a20 a21 : Nat) (f_n : Int32) (f_keptN : Int32) (f_side : Int32) (f_rows : Int32) (f_members : (Nat → Int64)) (f_kind : (Nat → Int32)) (x1 : Int32) (x2 : Int32) (x3 : Int32) (x4 : Int32) {rv : Int32} {g_members : (Nat → Int64)} {g_kind : (Nat → Int32)} (hm : m_X6_reduce f_n f_members f_kind x1 x2 x3 x4 = some (rv, g_members, g_kind)) : gk_M l yX6_reduce wsX6_reduce rm_X6_reduce false G [.ref a0, .int x1, .int x2, .int x3, .int x4] [(a0, .inr (5, [.int f_n, .ref a1, .ref a2, .ref a3, .ref a4, .int f_keptN, .ref a5, .ref a6, .ref a7, .ref a8, .ref a9, .ref a10, .ref a11, .ref a12, .ref a13, .ref a14, .ref a15, .ref a16, .int f_side, .ref a17, .ref a18, .ref a19, .int f_rows, .ref a20, .ref a21])), (a1, gk_J G 6 f_members), (a2, gk_I G 6 f_kind)] (some (.int rv)) [(a0, .inr (5, [.int f_n, .ref a1, .ref a2, .ref a3, .ref a4, .int f_keptN, .ref a5, .ref a6, .ref a7, .ref a8, .ref a9, .ref a10, .ref a11, .ref a12, .ref a13, .ref a14, .ref a15, .ref a16, .int f_side, .ref a17, .ref a18, .ref a19, .int f_rows, .ref a20, .ref a21])), (a1, gk_J G 6 g_members), (a2, gk_I G 6 g_kind)] :=
  gk_of (by decide) rfl (Nat.le_of_ble_eq_true rfl) (fun p e s m below meth c A ls C h hl => w_X6_reduce_0 C hm (fun v0 v1 v2 ez => by cases ez; rfl) h (show lv_has ls 12 [(0, .ref a0), (1, .int x1), (2, .int x2), (3, .int x3), (4, .int x4)] from hl))

/-! ===== ExchangeFamiliesModel.clear(I)I ===== -/
abbrev rm_X6_clear : Room := { frames := 5, cells := 0, slots := 0, locals := 237 }
theorem k_X6_clear_0 : ∀ w ∈ u_ws RX6 TX6 25, w ∈ wsX6_clear := by decide +kernel
theorem k_X6_clear_1 : Cond.fieldLink RX6 19 "ExchangeFamiliesModel" "kind" "[I" ∈ wsX6_clear := by decide +kernel
theorem k_X6_clear_2 : Cond.fieldLink RX6 15 "ExchangeFamiliesModel" "members" "[J" ∈ wsX6_clear := by decide +kernel
def m_X6_clear_0 (f_members : (Nat → Int64)) (f_kind : (Nat → Int32)) (x1 : Int32) : Option (Int32 × (Nat → Int64) × (Nat → Int32)) := gk_bd1 (m_X6_isFamily x1) (fun r3 => (if r3 = (0 : Int32) then some ((-2 : Int32), f_members, f_kind) else gk_ix x1 6 ((if (f_kind x1.toNatClampNeg) = (-1 : Int32) then some ((-11 : Int32), f_members, f_kind) else gk_ix x1 6 (gk_bd1 (m_X6_size (f_members x1.toNatClampNeg)) (fun r6 => gk_ix x1 6 (gk_ix x1 6 (some (r6, vp_updL f_members x1.toNatClampNeg (0 : Int64), upd f_kind x1.toNatClampNeg (-1 : Int32))))))))))
set_option maxRecDepth 100000 in
set_option maxHeartbeats 4000000 in
theorem w_X6_clear_0 {p : Program} {l : Launch} {e : Env} {s : State} {m : MethodId} {args : Array Value} {below : List Frame} {meth : Method} {c : Code} {G : gk_G} {A : Nat → Prop} {Q : State → Prop} {a0 a1 a2 a3 a4 a5 a6 a7 a8 a9 a10 a11 a12 a13 a14 a15 a16 a17 a18 a19 a20 a21 : Nat} (C : gk_C p s m args meth c cX6_clear 3 (some .int) yX6_clear wsX6_clear false G A) {f_members : (Nat → Int64)} {f_kind : (Nat → Int32)} {x1 : Int32} {f_n : Int32} {f_keptN : Int32} {f_side : Int32} {f_rows : Int32} {yy : Int32 × (Nat → Int64) × (Nat → Int32)} (hm : m_X6_clear_0 f_members f_kind x1 = some yy) (kr : ∀ (rv : Int32) (g_members : (Nat → Int64)) (g_kind : (Nat → Int32)), yy = (rv, g_members, g_kind) → Q = MQ below (gk_Q G (some (.int rv)) [(a0, .inr (5, [.int f_n, .ref a1, .ref a2, .ref a3, .ref a4, .int f_keptN, .ref a5, .ref a6, .ref a7, .ref a8, .ref a9, .ref a10, .ref a11, .ref a12, .ref a13, .ref a14, .ref a15, .ref a16, .int f_side, .ref a17, .ref a18, .ref a19, .int f_rows, .ref a20, .ref a21])), (a1, gk_J G 6 g_members), (a2, gk_I G 6 g_kind)] A) args s 0 0 A) {H : Heap} {locs : List Loc} {ls : Array Slot} (h : gk_H G A s [(a0, .inr (5, [.int f_n, .ref a1, .ref a2, .ref a3, .ref a4, .int f_keptN, .ref a5, .ref a6, .ref a7, .ref a8, .ref a9, .ref a10, .ref a11, .ref a12, .ref a13, .ref a14, .ref a15, .ref a16, .int f_side, .ref a17, .ref a18, .ref a19, .int f_rows, .ref a20, .ref a21])), (a1, gk_J G 6 f_members), (a2, gk_I G 6 f_kind)] H locs) (hl : lv_has ls 3 [(0, .ref a0), (1, .int x1)]) : W p l e rm_X6_clear s m args below meth c H locs 0 0 Q (F0 m 0 ls []) := by
  obtain ⟨hx, hb, hml, hr, hown, hnm, hts, hlk, hK, hSt, hA⟩ := id C
  obtain ⟨hP, hD, hS⟩ := h
  unfold m_X6_clear_0 at hm
  refine lv_iload_n hx hb dX6_clear_0 rfl (lv_at hl 1 rfl) ?_
  obtain ⟨r3, hq, hm⟩ := gk_bd1_some hm
  refine gk_callS (n := 1) (bytes := cX6_isFamily) (maxL := 1) (ret := (some .boolean)) [(a0, .inr (5, [.int f_n, .ref a1, .ref a2, .ref a3, .ref a4, .int f_keptN, .ref a5, .ref a6, .ref a7, .ref a8, .ref a9, .ref a10, .ref a11, .ref a12, .ref a13, .ref a14, .ref a15, .ref a16, .int f_side, .ref a17, .ref a18, .ref a19, .int f_rows, .ref a20, .ref a21])), (a1, gk_J G 6 f_members), (a2, gk_I G 6 f_kind)] [(a0, .inr (5, [.int f_n, .ref a1, .ref a2, .ref a3, .ref a4, .int f_keptN, .ref a5, .ref a6, .ref a7, .ref a8, .ref a9, .ref a10, .ref a11, .ref a12, .ref a13, .ref a14, .ref a15, .ref a16, .int f_side, .ref a17, .ref a18, .ref a19, .int f_rows, .ref a20, .ref a21])), (a1, gk_J G 6 f_members), (a2, gk_I G 6 f_kind)] [] C ⟨hP, hD, hS⟩ (c_X6_isFamily l G x1 hq) gX6_clear_X6_isFamily dX6_clear_1 hl.1 [] [0, 1, 2] [0, 1, 2] rfl ⟨rfl, rfl⟩ ⟨Nat.le_of_ble_eq_true rfl, Nat.le_of_ble_eq_true rfl⟩ ⟨by decide +kernel, by decide +kernel, by decide +kernel⟩ rfl (fun h => by cases h) (Nat.le_of_ble_eq_true rfl) rfl rfl rfl rfl (by decide) rfl rfl (fun H locs h => ?_)
  obtain ⟨hP, hD, hS⟩ := h
  refine lv_if_ne (tgt := 10) hx hb dX6_clear_4 (by decide) (fun c4 => ?_) (fun c4 => ?_)
  · have hm := gk_if c4 hm
    refine lv_aload_n hx hb dX6_clear_10 rfl (lv_at hl 0 rfl) ?_
    refine va_get (D := G.1) (cl := vwCl) (own := RX6) (ref := "ExchangeFamiliesModel") (ci := 5) (v := .ref a2) (C := RX6) (T := TX6) (N := 25) hx hb hts k_X6_clear_0 hown hK hP 0 rfl rfl 2 (by decide) (hts _ k_X6_clear_1) (fun _ h9 => h9) rfl dX6_clear_11 ?_
    refine lv_iload_n hx hb dX6_clear_14 rfl (lv_at hl 1 rfl) ?_
    obtain ⟨hi, hm⟩ := gk_ix_some hm
    refine va_iald hx hb hK hP 2 0 rfl rfl hi dX6_clear_15 ?_
    refine lv_iconst (v := -1) hx hb dX6_clear_16 (by decide) ?_
    refine lv_icmp_ne (tgt := 23) hx hb dX6_clear_17 (by decide) (fun c5 => ?_) (fun c5 => ?_)
    · have hm := gk_if c5 hm
      refine lv_aload_n hx hb dX6_clear_23 rfl (lv_at hl 0 rfl) ?_
      refine lv_aload_n hx hb dX6_clear_24 rfl (lv_at hl 0 rfl) ?_
      refine va_get (D := G.1) (cl := vwCl) (own := RX6) (ref := "ExchangeFamiliesModel") (ci := 5) (v := .ref a1) (C := RX6) (T := TX6) (N := 25) hx hb hts k_X6_clear_0 hown hK hP 0 rfl rfl 1 (by decide) (hts _ k_X6_clear_2) (fun _ h9 => h9) rfl dX6_clear_25 ?_
      refine lv_iload_n hx hb dX6_clear_28 rfl (lv_at hl 1 rfl) ?_
      obtain ⟨hi, hm⟩ := gk_ix_some hm
      refine va_lald hx hb hK hP 1 1 rfl rfl hi dX6_clear_29 ?_
      obtain ⟨r6, hq, hm⟩ := gk_bd1_some hm
      refine gk_callV (n := 1) (bytes := cX6_size) (maxL := 5) (ret := (some .int)) (Cn := RX6) (T := TX6) (N := 25) [(a1, gk_J G 6 f_members), (a2, gk_I G 6 f_kind)] [(a0, .inr (5, [.int f_n, .ref a1, .ref a2, .ref a3, .ref a4, .int f_keptN, .ref a5, .ref a6, .ref a7, .ref a8, .ref a9, .ref a10, .ref a11, .ref a12, .ref a13, .ref a14, .ref a15, .ref a16, .int f_side, .ref a17, .ref a18, .ref a19, .int f_rows, .ref a20, .ref a21])), (a1, gk_J G 6 f_members), (a2, gk_I G 6 f_kind)] [] C ⟨hP, hD, hS⟩ (c_X6_size l G a0 a1 a2 a3 a4 a5 a6 a7 a8 a9 a10 a11 a12 a13 a14 a15 a16 a17 a18 a19 a20 a21 f_n f_keptN f_side f_rows (f_members x1.toNatClampNeg) hq) gX6_clear_X6_size dX6_clear_30 hl.1 [0] [1, 2] [2, 0, 1] rfl rfl ⟨rfl, rfl⟩ ⟨Nat.le_of_ble_eq_true rfl, Nat.le_of_ble_eq_true rfl⟩ ⟨rfl, by decide +kernel, by decide +kernel, by decide +kernel⟩ rfl (fun h => by cases h) (Nat.le_of_ble_eq_true rfl) rfl rfl rfl rfl (by decide) rfl rfl (fun H locs h => ?_)
      obtain ⟨hP, hD, hS⟩ := h
      refine lv_istore_n (lv' := [(2, .int r6), (0, .ref a0), (1, .int x1)]) hx hb dX6_clear_33 rfl hl (by decide) rfl (fun ls hl => ?_)
      refine lv_aload_n hx hb dX6_clear_34 rfl (lv_at hl 1 rfl) ?_
      refine va_get (D := G.1) (cl := vwCl) (own := RX6) (ref := "ExchangeFamiliesModel") (ci := 5) (v := .ref a1) (C := RX6) (T := TX6) (N := 25) hx hb hts k_X6_clear_0 hown hK hP 0 rfl rfl 1 (by decide) (hts _ k_X6_clear_2) (fun _ h9 => h9) rfl dX6_clear_35 ?_
      refine lv_iload_n hx hb dX6_clear_38 rfl (lv_at hl 2 rfl) ?_
      refine lv_lconst (v := 0) hx hb dX6_clear_39 (by decide) ?_
      obtain ⟨hi, hm⟩ := gk_ix_some hm
      refine va_last hx hb hK hP hD hS 1 1 rfl rfl hi dX6_clear_40 (fun H locs hP hD hS => ?_)
      have hP : va_P G.1 vwCl [(a0, .inr (5, [.int f_n, .ref a1, .ref a2, .ref a3, .ref a4, .int f_keptN, .ref a5, .ref a6, .ref a7, .ref a8, .ref a9, .ref a10, .ref a11, .ref a12, .ref a13, .ref a14, .ref a15, .ref a16, .int f_side, .ref a17, .ref a18, .ref a19, .int f_rows, .ref a20, .ref a21])), (a1, gk_J G 6 (vp_updL f_members x1.toNatClampNeg (0 : Int64))), (a2, gk_I G 6 f_kind)] H := hP
      have hD : va_D A [(a0, .inr (5, [.int f_n, .ref a1, .ref a2, .ref a3, .ref a4, .int f_keptN, .ref a5, .ref a6, .ref a7, .ref a8, .ref a9, .ref a10, .ref a11, .ref a12, .ref a13, .ref a14, .ref a15, .ref a16, .int f_side, .ref a17, .ref a18, .ref a19, .int f_rows, .ref a20, .ref a21])), (a1, gk_J G 6 (vp_updL f_members x1.toNatClampNeg (0 : Int64))), (a2, gk_I G 6 f_kind)] := hD
      refine lv_aload_n hx hb dX6_clear_41 rfl (lv_at hl 1 rfl) ?_
      refine va_get (D := G.1) (cl := vwCl) (own := RX6) (ref := "ExchangeFamiliesModel") (ci := 5) (v := .ref a2) (C := RX6) (T := TX6) (N := 25) hx hb hts k_X6_clear_0 hown hK hP 0 rfl rfl 2 (by decide) (hts _ k_X6_clear_1) (fun _ h9 => h9) rfl dX6_clear_42 ?_
      refine lv_iload_n hx hb dX6_clear_45 rfl (lv_at hl 2 rfl) ?_
      refine lv_iconst (v := -1) hx hb dX6_clear_46 (by decide) ?_
      obtain ⟨hi, hm⟩ := gk_ix_some hm
      refine va_iast hx hb hK hP hD hS 2 0 rfl rfl hi dX6_clear_47 (fun H locs hP hD hS => ?_)
      have hP : va_P G.1 vwCl [(a0, .inr (5, [.int f_n, .ref a1, .ref a2, .ref a3, .ref a4, .int f_keptN, .ref a5, .ref a6, .ref a7, .ref a8, .ref a9, .ref a10, .ref a11, .ref a12, .ref a13, .ref a14, .ref a15, .ref a16, .int f_side, .ref a17, .ref a18, .ref a19, .int f_rows, .ref a20, .ref a21])), (a1, gk_J G 6 (vp_updL f_members x1.toNatClampNeg (0 : Int64))), (a2, gk_I G 6 (upd f_kind x1.toNatClampNeg (-1 : Int32)))] H := hP
      have hD : va_D A [(a0, .inr (5, [.int f_n, .ref a1, .ref a2, .ref a3, .ref a4, .int f_keptN, .ref a5, .ref a6, .ref a7, .ref a8, .ref a9, .ref a10, .ref a11, .ref a12, .ref a13, .ref a14, .ref a15, .ref a16, .int f_side, .ref a17, .ref a18, .ref a19, .int f_rows, .ref a20, .ref a21])), (a1, gk_J G 6 (vp_updL f_members x1.toNatClampNeg (0 : Int64))), (a2, gk_I G 6 (upd f_kind x1.toNatClampNeg (-1 : Int32)))] := hD
      refine lv_iload_n hx hb dX6_clear_48 rfl (lv_at hl 0 rfl) ?_
      rw [kr _ _ _ (Option.some.inj hm).symm]
      exact gk_iret C ⟨hP, hD, hS⟩ dX6_clear_49
    · have hm := gk_it c5 hm
      refine lv_bipush (v := -11) hx hb dX6_clear_20 (by decide) ?_
      rw [kr _ _ _ (Option.some.inj hm).symm]
      exact gk_iret C ⟨hP, hD, hS⟩ dX6_clear_22
  · have hm := gk_it c4 hm
    refine lv_bipush (v := -2) hx hb dX6_clear_7 (by decide) ?_
    rw [kr _ _ _ (Option.some.inj hm).symm]
    exact gk_iret C ⟨hP, hD, hS⟩ dX6_clear_9
def m_X6_clear (f_members : (Nat → Int64)) (f_kind : (Nat → Int32)) (x1 : Int32) : Option (Int32 × (Nat → Int64) × (Nat → Int32)) := m_X6_clear_0 f_members f_kind x1
theorem c_X6_clear (l : Launch) (G : gk_G) (a0 a1 a2 a3 a4 a5 a6 a7 a8 a9 a10 a11 a12 a13 a14 a15 a16 a17 a18 a19 a20 a21 : Nat) (f_n : Int32) (f_keptN : Int32) (f_side : Int32) (f_rows : Int32) (f_members : (Nat → Int64)) (f_kind : (Nat → Int32)) (x1 : Int32) {rv : Int32} {g_members : (Nat → Int64)} {g_kind : (Nat → Int32)} (hm : m_X6_clear f_members f_kind x1 = some (rv, g_members, g_kind)) : gk_M l yX6_clear wsX6_clear rm_X6_clear false G [.ref a0, .int x1] [(a0, .inr (5, [.int f_n, .ref a1, .ref a2, .ref a3, .ref a4, .int f_keptN, .ref a5, .ref a6, .ref a7, .ref a8, .ref a9, .ref a10, .ref a11, .ref a12, .ref a13, .ref a14, .ref a15, .ref a16, .int f_side, .ref a17, .ref a18, .ref a19, .int f_rows, .ref a20, .ref a21])), (a1, gk_J G 6 f_members), (a2, gk_I G 6 f_kind)] (some (.int rv)) [(a0, .inr (5, [.int f_n, .ref a1, .ref a2, .ref a3, .ref a4, .int f_keptN, .ref a5, .ref a6, .ref a7, .ref a8, .ref a9, .ref a10, .ref a11, .ref a12, .ref a13, .ref a14, .ref a15, .ref a16, .int f_side, .ref a17, .ref a18, .ref a19, .int f_rows, .ref a20, .ref a21])), (a1, gk_J G 6 g_members), (a2, gk_I G 6 g_kind)] :=
  gk_of (by decide) rfl (Nat.le_of_ble_eq_true rfl) (fun p e s m below meth c A ls C h hl => w_X6_clear_0 C hm (fun v0 v1 v2 ez => by cases ez; rfl) h (show lv_has ls 3 [(0, .ref a0), (1, .int x1)] from hl))

/-! ===== ExchangeFamiliesModel.has(II)I ===== -/
abbrev rm_X6_has : Room := { frames := 5, cells := 0, slots := 0, locals := 238 }
theorem k_X6_has_0 : ∀ w ∈ u_ws RX6 TX6 25, w ∈ wsX6_has := by decide +kernel
theorem k_X6_has_1 : Cond.fieldLink RX6 19 "ExchangeFamiliesModel" "kind" "[I" ∈ wsX6_has := by decide +kernel
def m_X6_has_0 (f_n : Int32) (f_members : (Nat → Int64)) (f_kind : (Nat → Int32)) (x1 : Int32) (x2 : Int32) : Option (Int32) := gk_bd1 (m_X6_isFamily x1) (fun r5 => (if r5 = (0 : Int32) then some (-2 : Int32) else gk_bd1 (m_X6_isSet f_n x2) (fun r7 => (if r7 = (0 : Int32) then some (-2 : Int32) else gk_ix x1 6 ((if (f_kind x1.toNatClampNeg) = (-1 : Int32) then some (-11 : Int32) else gk_bd1 (m_X6_isMember f_members x1 x2) (fun r10 => (if r10 = (0 : Int32) then some (0 : Int32) else some (1 : Int32)))))))))
set_option maxRecDepth 100000 in
set_option maxHeartbeats 4000000 in
theorem w_X6_has_0 {p : Program} {l : Launch} {e : Env} {s : State} {m : MethodId} {args : Array Value} {below : List Frame} {meth : Method} {c : Code} {G : gk_G} {A : Nat → Prop} {Q : State → Prop} {a0 a1 a2 a3 a4 a5 a6 a7 a8 a9 a10 a11 a12 a13 a14 a15 a16 a17 a18 a19 a20 a21 : Nat} (C : gk_C p s m args meth c cX6_has 3 (some .int) yX6_has wsX6_has false G A) {f_n : Int32} {f_members : (Nat → Int64)} {f_kind : (Nat → Int32)} {x1 : Int32} {x2 : Int32} {f_keptN : Int32} {f_side : Int32} {f_rows : Int32} {yy : Int32} (hm : m_X6_has_0 f_n f_members f_kind x1 x2 = some yy) (kr : ∀ (rv : Int32), yy = rv → Q = MQ below (gk_Q G (some (.int rv)) [(a0, .inr (5, [.int f_n, .ref a1, .ref a2, .ref a3, .ref a4, .int f_keptN, .ref a5, .ref a6, .ref a7, .ref a8, .ref a9, .ref a10, .ref a11, .ref a12, .ref a13, .ref a14, .ref a15, .ref a16, .int f_side, .ref a17, .ref a18, .ref a19, .int f_rows, .ref a20, .ref a21])), (a1, gk_J G 6 f_members), (a2, gk_I G 6 f_kind)] A) args s 0 0 A) {H : Heap} {locs : List Loc} {ls : Array Slot} (h : gk_H G A s [(a0, .inr (5, [.int f_n, .ref a1, .ref a2, .ref a3, .ref a4, .int f_keptN, .ref a5, .ref a6, .ref a7, .ref a8, .ref a9, .ref a10, .ref a11, .ref a12, .ref a13, .ref a14, .ref a15, .ref a16, .int f_side, .ref a17, .ref a18, .ref a19, .int f_rows, .ref a20, .ref a21])), (a1, gk_J G 6 f_members), (a2, gk_I G 6 f_kind)] H locs) (hl : lv_has ls 3 [(0, .ref a0), (1, .int x1), (2, .int x2)]) : W p l e rm_X6_has s m args below meth c H locs 0 0 Q (F0 m 0 ls []) := by
  obtain ⟨hx, hb, hml, hr, hown, hnm, hts, hlk, hK, hSt, hA⟩ := id C
  obtain ⟨hP, hD, hS⟩ := h
  unfold m_X6_has_0 at hm
  refine lv_iload_n hx hb dX6_has_0 rfl (lv_at hl 1 rfl) ?_
  obtain ⟨r5, hq, hm⟩ := gk_bd1_some hm
  refine gk_callS (n := 1) (bytes := cX6_isFamily) (maxL := 1) (ret := (some .boolean)) [(a0, .inr (5, [.int f_n, .ref a1, .ref a2, .ref a3, .ref a4, .int f_keptN, .ref a5, .ref a6, .ref a7, .ref a8, .ref a9, .ref a10, .ref a11, .ref a12, .ref a13, .ref a14, .ref a15, .ref a16, .int f_side, .ref a17, .ref a18, .ref a19, .int f_rows, .ref a20, .ref a21])), (a1, gk_J G 6 f_members), (a2, gk_I G 6 f_kind)] [(a0, .inr (5, [.int f_n, .ref a1, .ref a2, .ref a3, .ref a4, .int f_keptN, .ref a5, .ref a6, .ref a7, .ref a8, .ref a9, .ref a10, .ref a11, .ref a12, .ref a13, .ref a14, .ref a15, .ref a16, .int f_side, .ref a17, .ref a18, .ref a19, .int f_rows, .ref a20, .ref a21])), (a1, gk_J G 6 f_members), (a2, gk_I G 6 f_kind)] [] C ⟨hP, hD, hS⟩ (c_X6_isFamily l G x1 hq) gX6_has_X6_isFamily dX6_has_1 hl.1 [] [0, 1, 2] [0, 1, 2] rfl ⟨rfl, rfl⟩ ⟨Nat.le_of_ble_eq_true rfl, Nat.le_of_ble_eq_true rfl⟩ ⟨by decide +kernel, by decide +kernel, by decide +kernel⟩ rfl (fun h => by cases h) (Nat.le_of_ble_eq_true rfl) rfl rfl rfl rfl (by decide) rfl rfl (fun H locs h => ?_)
  obtain ⟨hP, hD, hS⟩ := h
  refine lv_if_eq (tgt := 15) hx hb dX6_has_4 (by decide) (fun c6 => ?_) (fun c6 => ?_)
  · have hm := gk_it c6 hm
    refine lv_bipush (v := -2) hx hb dX6_has_15 (by decide) ?_
    rw [kr _ (Option.some.inj hm).symm]
    exact gk_iret C ⟨hP, hD, hS⟩ dX6_has_17
  · have hm := gk_if c6 hm
    refine lv_aload_n hx hb dX6_has_7 rfl (lv_at hl 0 rfl) ?_
    refine lv_iload_n hx hb dX6_has_8 rfl (lv_at hl 2 rfl) ?_
    obtain ⟨r7, hq, hm⟩ := gk_bd1_some hm
    refine gk_callV (n := 1) (bytes := cX6_isSet) (maxL := 2) (ret := (some .boolean)) (Cn := RX6) (T := TX6) (N := 25) [(a1, gk_J G 6 f_members), (a2, gk_I G 6 f_kind)] [(a0, .inr (5, [.int f_n, .ref a1, .ref a2, .ref a3, .ref a4, .int f_keptN, .ref a5, .ref a6, .ref a7, .ref a8, .ref a9, .ref a10, .ref a11, .ref a12, .ref a13, .ref a14, .ref a15, .ref a16, .int f_side, .ref a17, .ref a18, .ref a19, .int f_rows, .ref a20, .ref a21])), (a1, gk_J G 6 f_members), (a2, gk_I G 6 f_kind)] [] C ⟨hP, hD, hS⟩ (c_X6_isSet l G a0 a1 a2 a3 a4 a5 a6 a7 a8 a9 a10 a11 a12 a13 a14 a15 a16 a17 a18 a19 a20 a21 f_n f_keptN f_side f_rows x2 hq) gX6_has_X6_isSet dX6_has_9 hl.1 [0] [1, 2] [2, 0, 1] rfl rfl ⟨rfl, rfl⟩ ⟨Nat.le_of_ble_eq_true rfl, Nat.le_of_ble_eq_true rfl⟩ ⟨rfl, by decide +kernel, by decide +kernel, by decide +kernel⟩ rfl (fun h => by cases h) (Nat.le_of_ble_eq_true rfl) rfl rfl rfl rfl (by decide) rfl rfl (fun H locs h => ?_)
    obtain ⟨hP, hD, hS⟩ := h
    refine lv_if_ne (tgt := 18) hx hb dX6_has_12 (by decide) (fun c8 => ?_) (fun c8 => ?_)
    · have hm := gk_if c8 hm
      refine lv_aload_n hx hb dX6_has_18 rfl (lv_at hl 0 rfl) ?_
      refine va_get (D := G.1) (cl := vwCl) (own := RX6) (ref := "ExchangeFamiliesModel") (ci := 5) (v := .ref a2) (C := RX6) (T := TX6) (N := 25) hx hb hts k_X6_has_0 hown hK hP 0 rfl rfl 2 (by decide) (hts _ k_X6_has_1) (fun _ h9 => h9) rfl dX6_has_19 ?_
      refine lv_iload_n hx hb dX6_has_22 rfl (lv_at hl 1 rfl) ?_
      obtain ⟨hi, hm⟩ := gk_ix_some hm
      refine va_iald hx hb hK hP 2 0 rfl rfl hi dX6_has_23 ?_
      refine lv_iconst (v := -1) hx hb dX6_has_24 (by decide) ?_
      refine lv_icmp_ne (tgt := 33) hx hb dX6_has_25 (by decide) (fun c9 => ?_) (fun c9 => ?_)
      · have hm := gk_if c9 hm
        refine lv_aload_n hx hb dX6_has_33 rfl (lv_at hl 0 rfl) ?_
        refine lv_iload_n hx hb dX6_has_34 rfl (lv_at hl 1 rfl) ?_
        refine lv_iload_n hx hb dX6_has_35 rfl (lv_at hl 2 rfl) ?_
        obtain ⟨r10, hq, hm⟩ := gk_bd1_some hm
        refine gk_callV (n := 2) (bytes := cX6_isMember) (maxL := 3) (ret := (some .boolean)) (Cn := RX6) (T := TX6) (N := 25) [(a2, gk_I G 6 f_kind)] [(a0, .inr (5, [.int f_n, .ref a1, .ref a2, .ref a3, .ref a4, .int f_keptN, .ref a5, .ref a6, .ref a7, .ref a8, .ref a9, .ref a10, .ref a11, .ref a12, .ref a13, .ref a14, .ref a15, .ref a16, .int f_side, .ref a17, .ref a18, .ref a19, .int f_rows, .ref a20, .ref a21])), (a1, gk_J G 6 f_members), (a2, gk_I G 6 f_kind)] [] C ⟨hP, hD, hS⟩ (c_X6_isMember l G a0 a1 a2 a3 a4 a5 a6 a7 a8 a9 a10 a11 a12 a13 a14 a15 a16 a17 a18 a19 a20 a21 f_n f_keptN f_side f_rows f_members x1 x2 hq) gX6_has_X6_isMember dX6_has_36 hl.1 [0, 1] [2] [1, 2, 0] rfl rfl ⟨rfl, rfl⟩ ⟨Nat.le_of_ble_eq_true rfl, Nat.le_of_ble_eq_true rfl⟩ ⟨rfl, by decide +kernel, by decide +kernel, by decide +kernel⟩ rfl (fun h => by cases h) (Nat.le_of_ble_eq_true rfl) rfl rfl rfl rfl (by decide) rfl rfl (fun H locs h => ?_)
        obtain ⟨hP, hD, hS⟩ := h
        refine lv_if_eq (tgt := 46) hx hb dX6_has_39 (by decide) (fun c11 => ?_) (fun c11 => ?_)
        · have hm := gk_it c11 hm
          refine lv_iconst (v := 0) hx hb dX6_has_46 (by decide) ?_
          rw [kr _ (Option.some.inj hm).symm]
          exact gk_iret C ⟨hP, hD, hS⟩ dX6_has_47
        · have hm := gk_if c11 hm
          refine lv_iconst (v := 1) hx hb dX6_has_42 (by decide) ?_
          refine lv_goto (tgt := 47) hx hb dX6_has_43 (by decide) ?_
          rw [kr _ (Option.some.inj hm).symm]
          exact gk_iret C ⟨hP, hD, hS⟩ dX6_has_47
      · have hm := gk_it c9 hm
        refine lv_bipush (v := -11) hx hb dX6_has_28 (by decide) ?_
        refine lv_goto (tgt := 47) hx hb dX6_has_30 (by decide) ?_
        rw [kr _ (Option.some.inj hm).symm]
        exact gk_iret C ⟨hP, hD, hS⟩ dX6_has_47
    · have hm := gk_it c8 hm
      refine lv_bipush (v := -2) hx hb dX6_has_15 (by decide) ?_
      rw [kr _ (Option.some.inj hm).symm]
      exact gk_iret C ⟨hP, hD, hS⟩ dX6_has_17
def m_X6_has (f_n : Int32) (f_members : (Nat → Int64)) (f_kind : (Nat → Int32)) (x1 : Int32) (x2 : Int32) : Option (Int32) := m_X6_has_0 f_n f_members f_kind x1 x2
theorem c_X6_has (l : Launch) (G : gk_G) (a0 a1 a2 a3 a4 a5 a6 a7 a8 a9 a10 a11 a12 a13 a14 a15 a16 a17 a18 a19 a20 a21 : Nat) (f_n : Int32) (f_keptN : Int32) (f_side : Int32) (f_rows : Int32) (f_members : (Nat → Int64)) (f_kind : (Nat → Int32)) (x1 : Int32) (x2 : Int32) {rv : Int32} (hm : m_X6_has f_n f_members f_kind x1 x2 = some rv) : gk_M l yX6_has wsX6_has rm_X6_has false G [.ref a0, .int x1, .int x2] [(a0, .inr (5, [.int f_n, .ref a1, .ref a2, .ref a3, .ref a4, .int f_keptN, .ref a5, .ref a6, .ref a7, .ref a8, .ref a9, .ref a10, .ref a11, .ref a12, .ref a13, .ref a14, .ref a15, .ref a16, .int f_side, .ref a17, .ref a18, .ref a19, .int f_rows, .ref a20, .ref a21])), (a1, gk_J G 6 f_members), (a2, gk_I G 6 f_kind)] (some (.int rv)) [(a0, .inr (5, [.int f_n, .ref a1, .ref a2, .ref a3, .ref a4, .int f_keptN, .ref a5, .ref a6, .ref a7, .ref a8, .ref a9, .ref a10, .ref a11, .ref a12, .ref a13, .ref a14, .ref a15, .ref a16, .int f_side, .ref a17, .ref a18, .ref a19, .int f_rows, .ref a20, .ref a21])), (a1, gk_J G 6 f_members), (a2, gk_I G 6 f_kind)] :=
  gk_of (by decide) rfl (Nat.le_of_ble_eq_true rfl) (fun p e s m below meth c A ls C h hl => w_X6_has_0 C hm (fun v0 ez => by cases ez; rfl) h (show lv_has ls 3 [(0, .ref a0), (1, .int x1), (2, .int x2)] from hl))

/-! ===== ExchangeFamiliesModel.member(II)I ===== -/
abbrev rm_X6_member : Room := { frames := 5, cells := 0, slots := 0, locals := 237 }
theorem k_X6_member_0 : ∀ w ∈ u_ws RX6 TX6 25, w ∈ wsX6_member := by decide +kernel
theorem k_X6_member_1 : Cond.fieldLink RX6 19 "ExchangeFamiliesModel" "kind" "[I" ∈ wsX6_member := by decide +kernel
theorem k_X6_member_2 : Cond.fieldLink RX6 9 "ExchangeFamiliesModel" "n" "I" ∈ wsX6_member := by decide +kernel
theorem k_X6_member_3 : Cond.fieldLink RX6 15 "ExchangeFamiliesModel" "members" "[J" ∈ wsX6_member := by decide +kernel
def m_X6_member_B49 (f_n : Int32) (f_members : (Nat → Int64)) (f_kind : (Nat → Int32)) (x1 : Int32) (x2 : Int32) (x3 : Int32) (x4 : Int32) : Option ((Int32 × Int32) ⊕ ((Int32) ⊕ (Unit))) := (if ((1 : Int32) <<< (f_n &&& 31)) ≤ x4 then some (.inr (.inr ())) else gk_bd1 (m_X6_isMember f_members x1 x4) (fun r14 => (if r14 = (0 : Int32) then some (.inl (x3, x4 + 1)) else (if x3 = x2 then some (.inr (.inl x4)) else some (.inl (x3 + 1, x4 + 1))))))
set_option maxRecDepth 100000 in
set_option maxHeartbeats 4000000 in
theorem w_X6_member_B49 {p : Program} {l : Launch} {e : Env} {s : State} {m : MethodId} {args : Array Value} {below : List Frame} {meth : Method} {c : Code} {G : gk_G} {A : Nat → Prop} {Q : State → Prop} {a0 a1 a2 a3 a4 a5 a6 a7 a8 a9 a10 a11 a12 a13 a14 a15 a16 a17 a18 a19 a20 a21 : Nat} (C : gk_C p s m args meth c cX6_member 5 (some .int) yX6_member wsX6_member false G A) {f_n : Int32} {f_members : (Nat → Int64)} {f_kind : (Nat → Int32)} {x1 : Int32} {x2 : Int32} {x3 : Int32} {x4 : Int32} {f_keptN : Int32} {f_side : Int32} {f_rows : Int32} {yy : (Int32 × Int32) ⊕ ((Int32) ⊕ (Unit))} (hm : m_X6_member_B49 f_n f_members f_kind x1 x2 x3 x4 = some yy) (kl : ∀ (x3 : Int32) (x4 : Int32), yy = .inl (x3, x4) → ∀ (H : Heap) (locs : List Loc) (ls : Array Slot), gk_H G A s [(a0, .inr (5, [.int f_n, .ref a1, .ref a2, .ref a3, .ref a4, .int f_keptN, .ref a5, .ref a6, .ref a7, .ref a8, .ref a9, .ref a10, .ref a11, .ref a12, .ref a13, .ref a14, .ref a15, .ref a16, .int f_side, .ref a17, .ref a18, .ref a19, .int f_rows, .ref a20, .ref a21])), (a1, gk_J G 6 f_members), (a2, gk_I G 6 f_kind)] H locs → lv_has ls 5 [(0, .ref a0), (1, .int x1), (2, .int x2), (3, .int x3), (4, .int x4)] → W p l e rm_X6_member s m args below meth c H locs 0 0 Q (F0 m 49 ls [])) (kx : yy = .inr (.inr ()) → ∀ (H : Heap) (locs : List Loc) (ls : Array Slot), gk_H G A s [(a0, .inr (5, [.int f_n, .ref a1, .ref a2, .ref a3, .ref a4, .int f_keptN, .ref a5, .ref a6, .ref a7, .ref a8, .ref a9, .ref a10, .ref a11, .ref a12, .ref a13, .ref a14, .ref a15, .ref a16, .int f_side, .ref a17, .ref a18, .ref a19, .int f_rows, .ref a20, .ref a21])), (a1, gk_J G 6 f_members), (a2, gk_I G 6 f_kind)] H locs → lv_has ls 5 [] → W p l e rm_X6_member s m args below meth c H locs 0 0 Q (F0 m 90 ls [])) (kr : ∀ (rv : Int32), yy = .inr (.inl rv) → Q = MQ below (gk_Q G (some (.int rv)) [(a0, .inr (5, [.int f_n, .ref a1, .ref a2, .ref a3, .ref a4, .int f_keptN, .ref a5, .ref a6, .ref a7, .ref a8, .ref a9, .ref a10, .ref a11, .ref a12, .ref a13, .ref a14, .ref a15, .ref a16, .int f_side, .ref a17, .ref a18, .ref a19, .int f_rows, .ref a20, .ref a21])), (a1, gk_J G 6 f_members), (a2, gk_I G 6 f_kind)] A) args s 0 0 A) {H : Heap} {locs : List Loc} {ls : Array Slot} (h : gk_H G A s [(a0, .inr (5, [.int f_n, .ref a1, .ref a2, .ref a3, .ref a4, .int f_keptN, .ref a5, .ref a6, .ref a7, .ref a8, .ref a9, .ref a10, .ref a11, .ref a12, .ref a13, .ref a14, .ref a15, .ref a16, .int f_side, .ref a17, .ref a18, .ref a19, .int f_rows, .ref a20, .ref a21])), (a1, gk_J G 6 f_members), (a2, gk_I G 6 f_kind)] H locs) (hl : lv_has ls 5 [(0, .ref a0), (1, .int x1), (2, .int x2), (3, .int x3), (4, .int x4)]) : W p l e rm_X6_member s m args below meth c H locs 0 0 Q (F0 m 49 ls []) := by
  obtain ⟨hx, hb, hml, hr, hown, hnm, hts, hlk, hK, hSt, hA⟩ := id C
  obtain ⟨hP, hD, hS⟩ := h
  unfold m_X6_member_B49 at hm
  refine lv_iload hx hb dX6_member_49 (lv_at hl 4 rfl) ?_
  refine lv_iconst (v := 1) hx hb dX6_member_51 (by decide) ?_
  refine lv_aload_n hx hb dX6_member_52 rfl (lv_at hl 0 rfl) ?_
  refine va_get (D := G.1) (cl := vwCl) (own := RX6) (ref := "ExchangeFamiliesModel") (ci := 5) (v := .int f_n) (C := RX6) (T := TX6) (N := 25) hx hb hts k_X6_member_0 hown hK hP 0 rfl rfl 0 (by decide) (hts _ k_X6_member_2) (fun _ h9 => h9) rfl dX6_member_53 ?_
  refine lv_ishl hx hb dX6_member_56 ?_
  refine lv_icmp_ge (tgt := 90) hx hb dX6_member_57 (by decide) (fun c13 => ?_) (fun c13 => ?_)
  · have hm := gk_it c13 hm
    exact kx (Option.some.inj hm).symm _ _ _ ⟨hP, hD, hS⟩ (lv_sub hl [] rfl)
  · have hm := gk_if c13 hm
    refine lv_aload_n hx hb dX6_member_60 rfl (lv_at hl 0 rfl) ?_
    refine lv_iload_n hx hb dX6_member_61 rfl (lv_at hl 1 rfl) ?_
    refine lv_iload hx hb dX6_member_62 (lv_at hl 4 rfl) ?_
    obtain ⟨r14, hq, hm⟩ := gk_bd1_some hm
    refine gk_callV (n := 2) (bytes := cX6_isMember) (maxL := 3) (ret := (some .boolean)) (Cn := RX6) (T := TX6) (N := 25) [(a2, gk_I G 6 f_kind)] [(a0, .inr (5, [.int f_n, .ref a1, .ref a2, .ref a3, .ref a4, .int f_keptN, .ref a5, .ref a6, .ref a7, .ref a8, .ref a9, .ref a10, .ref a11, .ref a12, .ref a13, .ref a14, .ref a15, .ref a16, .int f_side, .ref a17, .ref a18, .ref a19, .int f_rows, .ref a20, .ref a21])), (a1, gk_J G 6 f_members), (a2, gk_I G 6 f_kind)] [] C ⟨hP, hD, hS⟩ (c_X6_isMember l G a0 a1 a2 a3 a4 a5 a6 a7 a8 a9 a10 a11 a12 a13 a14 a15 a16 a17 a18 a19 a20 a21 f_n f_keptN f_side f_rows f_members x1 x4 hq) gX6_member_X6_isMember dX6_member_64 hl.1 [0, 1] [2] [1, 2, 0] rfl rfl ⟨rfl, rfl⟩ ⟨Nat.le_of_ble_eq_true rfl, Nat.le_of_ble_eq_true rfl⟩ ⟨rfl, by decide +kernel, by decide +kernel, by decide +kernel⟩ rfl (fun h => by cases h) (Nat.le_of_ble_eq_true rfl) rfl rfl rfl rfl (by decide) rfl rfl (fun H locs h => ?_)
    obtain ⟨hP, hD, hS⟩ := h
    refine lv_if_ne (tgt := 73) hx hb dX6_member_67 (by decide) (fun c15 => ?_) (fun c15 => ?_)
    · have hm := gk_if c15 hm
      refine lv_iload_n hx hb dX6_member_73 rfl (lv_at hl 3 rfl) ?_
      refine lv_iload_n hx hb dX6_member_74 rfl (lv_at hl 2 rfl) ?_
      refine lv_icmp_ne (tgt := 81) hx hb dX6_member_75 (by decide) (fun c16 => ?_) (fun c16 => ?_)
      · have hm := gk_if c16 hm
        refine lv_iinc (v := x3 + 1) (lv' := [(3, .int (x3 + 1)), (0, .ref a0), (1, .int x1), (2, .int x2), (4, .int x4)]) hx hb dX6_member_81 hl (k := 3) rfl rfl (by decide) rfl (fun ls hl => ?_)
        refine lv_iinc (v := x4 + 1) (lv' := [(4, .int (x4 + 1)), (3, .int (x3 + 1)), (0, .ref a0), (1, .int x1), (2, .int x2)]) hx hb dX6_member_84 hl (k := 4) rfl rfl (by decide) rfl (fun ls hl => ?_)
        refine lv_goto (tgt := 49) hx hb dX6_member_87 (by decide) ?_
        exact kl _ _ (Option.some.inj hm).symm _ _ _ ⟨hP, hD, hS⟩ (lv_sub hl [2, 3, 4, 1, 0] rfl)
      · have hm := gk_it c16 hm
        refine lv_iload hx hb dX6_member_78 (lv_at hl 4 rfl) ?_
        rw [kr _ (Option.some.inj hm).symm]
        exact gk_iret C ⟨hP, hD, hS⟩ dX6_member_80
    · have hm := gk_it c15 hm
      refine lv_goto (tgt := 84) hx hb dX6_member_70 (by decide) ?_
      refine lv_iinc (v := x4 + 1) (lv' := [(4, .int (x4 + 1)), (0, .ref a0), (1, .int x1), (2, .int x2), (3, .int x3)]) hx hb dX6_member_84 hl (k := 4) rfl rfl (by decide) rfl (fun ls hl => ?_)
      refine lv_goto (tgt := 49) hx hb dX6_member_87 (by decide) ?_
      exact kl _ _ (Option.some.inj hm).symm _ _ _ ⟨hP, hD, hS⟩ (lv_sub hl [1, 2, 3, 4, 0] rfl)
set_option maxRecDepth 100000 in
set_option maxHeartbeats 4000000 in
theorem w_X6_member_L49 {p : Program} {l : Launch} {e : Env} {s : State} {m : MethodId} {args : Array Value} {below : List Frame} {meth : Method} {c : Code} {G : gk_G} {A : Nat → Prop} {Q : State → Prop} {a0 a1 a2 a3 a4 a5 a6 a7 a8 a9 a10 a11 a12 a13 a14 a15 a16 a17 a18 a19 a20 a21 : Nat} (C : gk_C p s m args meth c cX6_member 5 (some .int) yX6_member wsX6_member false G A) {f_n : Int32} {f_members : (Nat → Int64)} {f_kind : (Nat → Int32)} {x1 : Int32} {x2 : Int32} {x3 : Int32} {x4 : Int32} {f_keptN : Int32} {f_side : Int32} {f_rows : Int32} {k : Nat} (hm : gk_lp (fun z => m_X6_member_B49 f_n f_members f_kind x1 x2 z.1 z.2) k (x3, x4) = some (.inr ())) (kx : ∀ (H : Heap) (locs : List Loc) (ls : Array Slot), gk_H G A s [(a0, .inr (5, [.int f_n, .ref a1, .ref a2, .ref a3, .ref a4, .int f_keptN, .ref a5, .ref a6, .ref a7, .ref a8, .ref a9, .ref a10, .ref a11, .ref a12, .ref a13, .ref a14, .ref a15, .ref a16, .int f_side, .ref a17, .ref a18, .ref a19, .int f_rows, .ref a20, .ref a21])), (a1, gk_J G 6 f_members), (a2, gk_I G 6 f_kind)] H locs → lv_has ls 5 [] → W p l e rm_X6_member s m args below meth c H locs 0 0 Q (F0 m 90 ls [])) {H : Heap} {locs : List Loc} {ls : Array Slot} (h : gk_H G A s [(a0, .inr (5, [.int f_n, .ref a1, .ref a2, .ref a3, .ref a4, .int f_keptN, .ref a5, .ref a6, .ref a7, .ref a8, .ref a9, .ref a10, .ref a11, .ref a12, .ref a13, .ref a14, .ref a15, .ref a16, .int f_side, .ref a17, .ref a18, .ref a19, .int f_rows, .ref a20, .ref a21])), (a1, gk_J G 6 f_members), (a2, gk_I G 6 f_kind)] H locs) (hl : lv_has ls 5 [(0, .ref a0), (1, .int x1), (2, .int x2), (3, .int x3), (4, .int x4)]) : W p l e rm_X6_member s m args below meth c H locs 0 0 Q (F0 m 49 ls []) :=
  gk_lp_some (P := fun z => ∀ (H : Heap) (locs : List Loc) (ls : Array Slot), gk_H G A s [(a0, .inr (5, [.int f_n, .ref a1, .ref a2, .ref a3, .ref a4, .int f_keptN, .ref a5, .ref a6, .ref a7, .ref a8, .ref a9, .ref a10, .ref a11, .ref a12, .ref a13, .ref a14, .ref a15, .ref a16, .int f_side, .ref a17, .ref a18, .ref a19, .int f_rows, .ref a20, .ref a21])), (a1, gk_J G 6 f_members), (a2, gk_I G 6 f_kind)] H locs → lv_has ls 5 [(0, .ref a0), (1, .int x1), (2, .int x2), (3, .int z.1), (4, .int z.2)] → W p l e rm_X6_member s m args below meth c H locs 0 0 Q (F0 m 49 ls [])) (E := fun r => (r = .inr () → ∀ (H : Heap) (locs : List Loc) (ls : Array Slot), gk_H G A s [(a0, .inr (5, [.int f_n, .ref a1, .ref a2, .ref a3, .ref a4, .int f_keptN, .ref a5, .ref a6, .ref a7, .ref a8, .ref a9, .ref a10, .ref a11, .ref a12, .ref a13, .ref a14, .ref a15, .ref a16, .int f_side, .ref a17, .ref a18, .ref a19, .int f_rows, .ref a20, .ref a21])), (a1, gk_J G 6 f_members), (a2, gk_I G 6 f_kind)] H locs → lv_has ls 5 [] → W p l e rm_X6_member s m args below meth c H locs 0 0 Q (F0 m 90 ls [])) ∧ (∀ (rv : Int32), r = .inl rv → Q = MQ below (gk_Q G (some (.int rv)) [(a0, .inr (5, [.int f_n, .ref a1, .ref a2, .ref a3, .ref a4, .int f_keptN, .ref a5, .ref a6, .ref a7, .ref a8, .ref a9, .ref a10, .ref a11, .ref a12, .ref a13, .ref a14, .ref a15, .ref a16, .int f_side, .ref a17, .ref a18, .ref a19, .int f_rows, .ref a20, .ref a21])), (a1, gk_J G 6 f_members), (a2, gk_I G 6 f_kind)] A) args s 0 0 A)) (fun z x hf kl ke H locs ls h hl => w_X6_member_B49 C hf (fun v0 v1 ez => kl (v0, v1) ez) (fun ez => (ke _ ez).1 rfl) (fun v0 ez => (ke _ ez).2 v0 rfl) h hl) k (x3, x4) _ hm (⟨fun ez => (by cases ez; exact kx), fun v0 ez => (by cases ez)⟩) _ _ _ h hl
set_option maxRecDepth 100000 in
set_option maxHeartbeats 4000000 in
theorem w_X6_member_L49r {p : Program} {l : Launch} {e : Env} {s : State} {m : MethodId} {args : Array Value} {below : List Frame} {meth : Method} {c : Code} {G : gk_G} {A : Nat → Prop} {Q : State → Prop} {a0 a1 a2 a3 a4 a5 a6 a7 a8 a9 a10 a11 a12 a13 a14 a15 a16 a17 a18 a19 a20 a21 : Nat} (C : gk_C p s m args meth c cX6_member 5 (some .int) yX6_member wsX6_member false G A) {f_n : Int32} {f_members : (Nat → Int64)} {f_kind : (Nat → Int32)} {x1 : Int32} {x2 : Int32} {x3 : Int32} {x4 : Int32} {f_keptN : Int32} {f_side : Int32} {f_rows : Int32} {k : Nat} {rv : Int32} (hm : gk_lp (fun z => m_X6_member_B49 f_n f_members f_kind x1 x2 z.1 z.2) k (x3, x4) = some (.inl rv)) (kr : Q = MQ below (gk_Q G (some (.int rv)) [(a0, .inr (5, [.int f_n, .ref a1, .ref a2, .ref a3, .ref a4, .int f_keptN, .ref a5, .ref a6, .ref a7, .ref a8, .ref a9, .ref a10, .ref a11, .ref a12, .ref a13, .ref a14, .ref a15, .ref a16, .int f_side, .ref a17, .ref a18, .ref a19, .int f_rows, .ref a20, .ref a21])), (a1, gk_J G 6 f_members), (a2, gk_I G 6 f_kind)] A) args s 0 0 A) {H : Heap} {locs : List Loc} {ls : Array Slot} (h : gk_H G A s [(a0, .inr (5, [.int f_n, .ref a1, .ref a2, .ref a3, .ref a4, .int f_keptN, .ref a5, .ref a6, .ref a7, .ref a8, .ref a9, .ref a10, .ref a11, .ref a12, .ref a13, .ref a14, .ref a15, .ref a16, .int f_side, .ref a17, .ref a18, .ref a19, .int f_rows, .ref a20, .ref a21])), (a1, gk_J G 6 f_members), (a2, gk_I G 6 f_kind)] H locs) (hl : lv_has ls 5 [(0, .ref a0), (1, .int x1), (2, .int x2), (3, .int x3), (4, .int x4)]) : W p l e rm_X6_member s m args below meth c H locs 0 0 Q (F0 m 49 ls []) :=
  gk_lp_some (P := fun z => ∀ (H : Heap) (locs : List Loc) (ls : Array Slot), gk_H G A s [(a0, .inr (5, [.int f_n, .ref a1, .ref a2, .ref a3, .ref a4, .int f_keptN, .ref a5, .ref a6, .ref a7, .ref a8, .ref a9, .ref a10, .ref a11, .ref a12, .ref a13, .ref a14, .ref a15, .ref a16, .int f_side, .ref a17, .ref a18, .ref a19, .int f_rows, .ref a20, .ref a21])), (a1, gk_J G 6 f_members), (a2, gk_I G 6 f_kind)] H locs → lv_has ls 5 [(0, .ref a0), (1, .int x1), (2, .int x2), (3, .int z.1), (4, .int z.2)] → W p l e rm_X6_member s m args below meth c H locs 0 0 Q (F0 m 49 ls [])) (E := fun r => (r = .inr () → ∀ (H : Heap) (locs : List Loc) (ls : Array Slot), gk_H G A s [(a0, .inr (5, [.int f_n, .ref a1, .ref a2, .ref a3, .ref a4, .int f_keptN, .ref a5, .ref a6, .ref a7, .ref a8, .ref a9, .ref a10, .ref a11, .ref a12, .ref a13, .ref a14, .ref a15, .ref a16, .int f_side, .ref a17, .ref a18, .ref a19, .int f_rows, .ref a20, .ref a21])), (a1, gk_J G 6 f_members), (a2, gk_I G 6 f_kind)] H locs → lv_has ls 5 [] → W p l e rm_X6_member s m args below meth c H locs 0 0 Q (F0 m 90 ls [])) ∧ (∀ (rv : Int32), r = .inl rv → Q = MQ below (gk_Q G (some (.int rv)) [(a0, .inr (5, [.int f_n, .ref a1, .ref a2, .ref a3, .ref a4, .int f_keptN, .ref a5, .ref a6, .ref a7, .ref a8, .ref a9, .ref a10, .ref a11, .ref a12, .ref a13, .ref a14, .ref a15, .ref a16, .int f_side, .ref a17, .ref a18, .ref a19, .int f_rows, .ref a20, .ref a21])), (a1, gk_J G 6 f_members), (a2, gk_I G 6 f_kind)] A) args s 0 0 A)) (fun z x hf kl ke H locs ls h hl => w_X6_member_B49 C hf (fun v0 v1 ez => kl (v0, v1) ez) (fun ez => (ke _ ez).1 rfl) (fun v0 ez => (ke _ ez).2 v0 rfl) h hl) k (x3, x4) _ hm (⟨fun ez => (by cases ez), fun v0 ez => (by cases ez; exact kr)⟩) _ _ _ h hl
def m_X6_member_0 (f_n : Int32) (f_members : (Nat → Int64)) (f_kind : (Nat → Int32)) (x1 : Int32) (x2 : Int32) : Option (Int32) := gk_bd1 (m_X6_isFamily x1) (fun r8 => (if r8 = (0 : Int32) then some (-2 : Int32) else (if (-1 : Int32) ≤ x2 then gk_ix x1 6 ((if (f_kind x1.toNatClampNeg) = (-1 : Int32) then some (-11 : Int32) else (if x2 = (-1 : Int32) then gk_ix x1 6 (gk_bd1 (m_X6_size (f_members x1.toNatClampNeg)) (fun r18 => some r18)) else gk_bs0 (gk_lp (fun z => m_X6_member_B49 f_n f_members f_kind x1 x2 z.1 z.2) gk_fu ((0 : Int32), (0 : Int32))) (fun r => some r) (some (-12 : Int32))))) else some (-2 : Int32))))
set_option maxRecDepth 100000 in
set_option maxHeartbeats 4000000 in
theorem w_X6_member_0 {p : Program} {l : Launch} {e : Env} {s : State} {m : MethodId} {args : Array Value} {below : List Frame} {meth : Method} {c : Code} {G : gk_G} {A : Nat → Prop} {Q : State → Prop} {a0 a1 a2 a3 a4 a5 a6 a7 a8 a9 a10 a11 a12 a13 a14 a15 a16 a17 a18 a19 a20 a21 : Nat} (C : gk_C p s m args meth c cX6_member 5 (some .int) yX6_member wsX6_member false G A) {f_n : Int32} {f_members : (Nat → Int64)} {f_kind : (Nat → Int32)} {x1 : Int32} {x2 : Int32} {f_keptN : Int32} {f_side : Int32} {f_rows : Int32} {yy : Int32} (hm : m_X6_member_0 f_n f_members f_kind x1 x2 = some yy) (kr : ∀ (rv : Int32), yy = rv → Q = MQ below (gk_Q G (some (.int rv)) [(a0, .inr (5, [.int f_n, .ref a1, .ref a2, .ref a3, .ref a4, .int f_keptN, .ref a5, .ref a6, .ref a7, .ref a8, .ref a9, .ref a10, .ref a11, .ref a12, .ref a13, .ref a14, .ref a15, .ref a16, .int f_side, .ref a17, .ref a18, .ref a19, .int f_rows, .ref a20, .ref a21])), (a1, gk_J G 6 f_members), (a2, gk_I G 6 f_kind)] A) args s 0 0 A) {H : Heap} {locs : List Loc} {ls : Array Slot} (h : gk_H G A s [(a0, .inr (5, [.int f_n, .ref a1, .ref a2, .ref a3, .ref a4, .int f_keptN, .ref a5, .ref a6, .ref a7, .ref a8, .ref a9, .ref a10, .ref a11, .ref a12, .ref a13, .ref a14, .ref a15, .ref a16, .int f_side, .ref a17, .ref a18, .ref a19, .int f_rows, .ref a20, .ref a21])), (a1, gk_J G 6 f_members), (a2, gk_I G 6 f_kind)] H locs) (hl : lv_has ls 5 [(0, .ref a0), (1, .int x1), (2, .int x2)]) : W p l e rm_X6_member s m args below meth c H locs 0 0 Q (F0 m 0 ls []) := by
  obtain ⟨hx, hb, hml, hr, hown, hnm, hts, hlk, hK, hSt, hA⟩ := id C
  obtain ⟨hP, hD, hS⟩ := h
  unfold m_X6_member_0 at hm
  refine lv_iload_n hx hb dX6_member_0 rfl (lv_at hl 1 rfl) ?_
  obtain ⟨r8, hq, hm⟩ := gk_bd1_some hm
  refine gk_callS (n := 1) (bytes := cX6_isFamily) (maxL := 1) (ret := (some .boolean)) [(a0, .inr (5, [.int f_n, .ref a1, .ref a2, .ref a3, .ref a4, .int f_keptN, .ref a5, .ref a6, .ref a7, .ref a8, .ref a9, .ref a10, .ref a11, .ref a12, .ref a13, .ref a14, .ref a15, .ref a16, .int f_side, .ref a17, .ref a18, .ref a19, .int f_rows, .ref a20, .ref a21])), (a1, gk_J G 6 f_members), (a2, gk_I G 6 f_kind)] [(a0, .inr (5, [.int f_n, .ref a1, .ref a2, .ref a3, .ref a4, .int f_keptN, .ref a5, .ref a6, .ref a7, .ref a8, .ref a9, .ref a10, .ref a11, .ref a12, .ref a13, .ref a14, .ref a15, .ref a16, .int f_side, .ref a17, .ref a18, .ref a19, .int f_rows, .ref a20, .ref a21])), (a1, gk_J G 6 f_members), (a2, gk_I G 6 f_kind)] [] C ⟨hP, hD, hS⟩ (c_X6_isFamily l G x1 hq) gX6_member_X6_isFamily dX6_member_1 hl.1 [] [0, 1, 2] [0, 1, 2] rfl ⟨rfl, rfl⟩ ⟨Nat.le_of_ble_eq_true rfl, Nat.le_of_ble_eq_true rfl⟩ ⟨by decide +kernel, by decide +kernel, by decide +kernel⟩ rfl (fun h => by cases h) (Nat.le_of_ble_eq_true rfl) rfl rfl rfl rfl (by decide) rfl rfl (fun H locs h => ?_)
  obtain ⟨hP, hD, hS⟩ := h
  refine lv_if_eq (tgt := 12) hx hb dX6_member_4 (by decide) (fun c9 => ?_) (fun c9 => ?_)
  · have hm := gk_it c9 hm
    refine lv_bipush (v := -2) hx hb dX6_member_12 (by decide) ?_
    rw [kr _ (Option.some.inj hm).symm]
    exact gk_iret C ⟨hP, hD, hS⟩ dX6_member_14
  · have hm := gk_if c9 hm
    refine lv_iload_n hx hb dX6_member_7 rfl (lv_at hl 2 rfl) ?_
    refine lv_iconst (v := -1) hx hb dX6_member_8 (by decide) ?_
    refine lv_icmp_ge (tgt := 15) hx hb dX6_member_9 (by decide) (fun c10 => ?_) (fun c10 => ?_)
    · have hm := gk_it c10 hm
      refine lv_aload_n hx hb dX6_member_15 rfl (lv_at hl 0 rfl) ?_
      refine va_get (D := G.1) (cl := vwCl) (own := RX6) (ref := "ExchangeFamiliesModel") (ci := 5) (v := .ref a2) (C := RX6) (T := TX6) (N := 25) hx hb hts k_X6_member_0 hown hK hP 0 rfl rfl 2 (by decide) (hts _ k_X6_member_1) (fun _ h9 => h9) rfl dX6_member_16 ?_
      refine lv_iload_n hx hb dX6_member_19 rfl (lv_at hl 1 rfl) ?_
      obtain ⟨hi, hm⟩ := gk_ix_some hm
      refine va_iald hx hb hK hP 2 0 rfl rfl hi dX6_member_20 ?_
      refine lv_iconst (v := -1) hx hb dX6_member_21 (by decide) ?_
      refine lv_icmp_ne (tgt := 28) hx hb dX6_member_22 (by decide) (fun c11 => ?_) (fun c11 => ?_)
      · have hm := gk_if c11 hm
        refine lv_iload_n hx hb dX6_member_28 rfl (lv_at hl 2 rfl) ?_
        refine lv_iconst (v := -1) hx hb dX6_member_29 (by decide) ?_
        refine lv_icmp_ne (tgt := 44) hx hb dX6_member_30 (by decide) (fun c12 => ?_) (fun c12 => ?_)
        · have hm := gk_if c12 hm
          refine lv_iconst (v := 0) hx hb dX6_member_44 (by decide) ?_
          refine lv_istore_n (lv' := [(3, .int (0 : Int32)), (0, .ref a0), (1, .int x1), (2, .int x2)]) hx hb dX6_member_45 rfl hl (by decide) rfl (fun ls hl => ?_)
          refine lv_iconst (v := 0) hx hb dX6_member_46 (by decide) ?_
          refine lv_istore (lv' := [(4, .int (0 : Int32)), (3, .int (0 : Int32)), (0, .ref a0), (1, .int x1), (2, .int x2)]) hx hb dX6_member_47 hl (by decide) rfl (fun ls hl => ?_)
          rcases gk_bs0_some hm with ⟨r17, hq, hm⟩ | ⟨hq, hm⟩
          · exact w_X6_member_L49r C hq (kr _ (Option.some.inj hm).symm) ⟨hP, hD, hS⟩ (lv_sub hl [2, 3, 4, 1, 0] rfl)
          refine w_X6_member_L49 C hq (fun H locs ls h hl => ?_) ⟨hP, hD, hS⟩ (lv_sub hl [2, 3, 4, 1, 0] rfl)
          obtain ⟨hP, hD, hS⟩ := h
          refine lv_bipush (v := -12) hx hb dX6_member_90 (by decide) ?_
          rw [kr _ (Option.some.inj hm).symm]
          exact gk_iret C ⟨hP, hD, hS⟩ dX6_member_92
        · have hm := gk_it c12 hm
          refine lv_aload_n hx hb dX6_member_33 rfl (lv_at hl 0 rfl) ?_
          refine lv_aload_n hx hb dX6_member_34 rfl (lv_at hl 0 rfl) ?_
          refine va_get (D := G.1) (cl := vwCl) (own := RX6) (ref := "ExchangeFamiliesModel") (ci := 5) (v := .ref a1) (C := RX6) (T := TX6) (N := 25) hx hb hts k_X6_member_0 hown hK hP 0 rfl rfl 1 (by decide) (hts _ k_X6_member_3) (fun _ h9 => h9) rfl dX6_member_35 ?_
          refine lv_iload_n hx hb dX6_member_38 rfl (lv_at hl 1 rfl) ?_
          obtain ⟨hi, hm⟩ := gk_ix_some hm
          refine va_lald hx hb hK hP 1 1 rfl rfl hi dX6_member_39 ?_
          obtain ⟨r18, hq, hm⟩ := gk_bd1_some hm
          refine gk_callV (n := 1) (bytes := cX6_size) (maxL := 5) (ret := (some .int)) (Cn := RX6) (T := TX6) (N := 25) [(a1, gk_J G 6 f_members), (a2, gk_I G 6 f_kind)] [(a0, .inr (5, [.int f_n, .ref a1, .ref a2, .ref a3, .ref a4, .int f_keptN, .ref a5, .ref a6, .ref a7, .ref a8, .ref a9, .ref a10, .ref a11, .ref a12, .ref a13, .ref a14, .ref a15, .ref a16, .int f_side, .ref a17, .ref a18, .ref a19, .int f_rows, .ref a20, .ref a21])), (a1, gk_J G 6 f_members), (a2, gk_I G 6 f_kind)] [] C ⟨hP, hD, hS⟩ (c_X6_size l G a0 a1 a2 a3 a4 a5 a6 a7 a8 a9 a10 a11 a12 a13 a14 a15 a16 a17 a18 a19 a20 a21 f_n f_keptN f_side f_rows (f_members x1.toNatClampNeg) hq) gX6_member_X6_size dX6_member_40 hl.1 [0] [1, 2] [2, 0, 1] rfl rfl ⟨rfl, rfl⟩ ⟨Nat.le_of_ble_eq_true rfl, Nat.le_of_ble_eq_true rfl⟩ ⟨rfl, by decide +kernel, by decide +kernel, by decide +kernel⟩ rfl (fun h => by cases h) (Nat.le_of_ble_eq_true rfl) rfl rfl rfl rfl (by decide) rfl rfl (fun H locs h => ?_)
          obtain ⟨hP, hD, hS⟩ := h
          rw [kr _ (Option.some.inj hm).symm]
          exact gk_iret C ⟨hP, hD, hS⟩ dX6_member_43
      · have hm := gk_it c11 hm
        refine lv_bipush (v := -11) hx hb dX6_member_25 (by decide) ?_
        rw [kr _ (Option.some.inj hm).symm]
        exact gk_iret C ⟨hP, hD, hS⟩ dX6_member_27
    · have hm := gk_if c10 hm
      refine lv_bipush (v := -2) hx hb dX6_member_12 (by decide) ?_
      rw [kr _ (Option.some.inj hm).symm]
      exact gk_iret C ⟨hP, hD, hS⟩ dX6_member_14
def m_X6_member (f_n : Int32) (f_members : (Nat → Int64)) (f_kind : (Nat → Int32)) (x1 : Int32) (x2 : Int32) : Option (Int32) := m_X6_member_0 f_n f_members f_kind x1 x2
theorem c_X6_member (l : Launch) (G : gk_G) (a0 a1 a2 a3 a4 a5 a6 a7 a8 a9 a10 a11 a12 a13 a14 a15 a16 a17 a18 a19 a20 a21 : Nat) (f_n : Int32) (f_keptN : Int32) (f_side : Int32) (f_rows : Int32) (f_members : (Nat → Int64)) (f_kind : (Nat → Int32)) (x1 : Int32) (x2 : Int32) {rv : Int32} (hm : m_X6_member f_n f_members f_kind x1 x2 = some rv) : gk_M l yX6_member wsX6_member rm_X6_member false G [.ref a0, .int x1, .int x2] [(a0, .inr (5, [.int f_n, .ref a1, .ref a2, .ref a3, .ref a4, .int f_keptN, .ref a5, .ref a6, .ref a7, .ref a8, .ref a9, .ref a10, .ref a11, .ref a12, .ref a13, .ref a14, .ref a15, .ref a16, .int f_side, .ref a17, .ref a18, .ref a19, .int f_rows, .ref a20, .ref a21])), (a1, gk_J G 6 f_members), (a2, gk_I G 6 f_kind)] (some (.int rv)) [(a0, .inr (5, [.int f_n, .ref a1, .ref a2, .ref a3, .ref a4, .int f_keptN, .ref a5, .ref a6, .ref a7, .ref a8, .ref a9, .ref a10, .ref a11, .ref a12, .ref a13, .ref a14, .ref a15, .ref a16, .int f_side, .ref a17, .ref a18, .ref a19, .int f_rows, .ref a20, .ref a21])), (a1, gk_J G 6 f_members), (a2, gk_I G 6 f_kind)] :=
  gk_of (by decide) rfl (Nat.le_of_ble_eq_true rfl) (fun p e s m below meth c A ls C h hl => w_X6_member_0 C hm (fun v0 ez => by cases ez; rfl) h (show lv_has ls 5 [(0, .ref a0), (1, .int x1), (2, .int x2)] from hl))

/-! ===== ExchangeFamiliesModel.areSizes(IZ)Z ===== -/
abbrev rm_X6_areSizes : Room := { frames := 3, cells := 0, slots := 0, locals := 150 }
theorem k_X6_areSizes_0 : ∀ w ∈ u_ws RX6 TX6 25, w ∈ wsX6_areSizes := by decide +kernel
theorem k_X6_areSizes_1 : Cond.fieldLink RX6 9 "ExchangeFamiliesModel" "n" "I" ∈ wsX6_areSizes := by decide +kernel
def m_X6_areSizes_J48 (f_n : Int32) (f_members : (Nat → Int64)) (x1 : Int32) (x2 : Int32) (x3 : Int32) (x4 : Int32) (s0 : Int32) : Option ((Int32 × Int32) ⊕ ((Int32) ⊕ (Unit))) := (if x3 = (-1 : Int32) then some (.inl (s0, x4 + 1)) else (if s0 = x3 then some (.inl (s0, x4 + 1)) else some (.inr (.inl (0 : Int32)))))
set_option maxRecDepth 100000 in
set_option maxHeartbeats 4000000 in
theorem w_X6_areSizes_J48 {p : Program} {l : Launch} {e : Env} {s : State} {m : MethodId} {args : Array Value} {below : List Frame} {meth : Method} {c : Code} {G : gk_G} {A : Nat → Prop} {Q : State → Prop} {a0 a1 a2 a3 a4 a5 a6 a7 a8 a9 a10 a11 a12 a13 a14 a15 a16 a17 a18 a19 a20 a21 : Nat} (C : gk_C p s m args meth c cX6_areSizes 6 (some .boolean) yX6_areSizes wsX6_areSizes false G A) {f_n : Int32} {f_members : (Nat → Int64)} {x1 : Int32} {x2 : Int32} {x3 : Int32} {x4 : Int32} {s0 : Int32} {f_keptN : Int32} {f_side : Int32} {f_rows : Int32} {yy : (Int32 × Int32) ⊕ ((Int32) ⊕ (Unit))} (hm : m_X6_areSizes_J48 f_n f_members x1 x2 x3 x4 s0 = some yy) (kl : ∀ (x3 : Int32) (x4 : Int32), yy = .inl (x3, x4) → ∀ (H : Heap) (locs : List Loc) (ls : Array Slot), gk_H G A s [(a0, .inr (5, [.int f_n, .ref a1, .ref a2, .ref a3, .ref a4, .int f_keptN, .ref a5, .ref a6, .ref a7, .ref a8, .ref a9, .ref a10, .ref a11, .ref a12, .ref a13, .ref a14, .ref a15, .ref a16, .int f_side, .ref a17, .ref a18, .ref a19, .int f_rows, .ref a20, .ref a21])), (a1, gk_J G 6 f_members)] H locs → lv_has ls 6 [(0, .ref a0), (1, .int x1), (2, .int x2), (3, .int x3), (4, .int x4)] → W p l e rm_X6_areSizes s m args below meth c H locs 0 0 Q (F0 m 5 ls [])) (kx : yy = .inr (.inr ()) → ∀ (H : Heap) (locs : List Loc) (ls : Array Slot), gk_H G A s [(a0, .inr (5, [.int f_n, .ref a1, .ref a2, .ref a3, .ref a4, .int f_keptN, .ref a5, .ref a6, .ref a7, .ref a8, .ref a9, .ref a10, .ref a11, .ref a12, .ref a13, .ref a14, .ref a15, .ref a16, .int f_side, .ref a17, .ref a18, .ref a19, .int f_rows, .ref a20, .ref a21])), (a1, gk_J G 6 f_members)] H locs → lv_has ls 6 [] → W p l e rm_X6_areSizes s m args below meth c H locs 0 0 Q (F0 m 72 ls [])) (kr : ∀ (rv : Int32), yy = .inr (.inl rv) → Q = MQ below (gk_Q G (some (.int rv)) [(a0, .inr (5, [.int f_n, .ref a1, .ref a2, .ref a3, .ref a4, .int f_keptN, .ref a5, .ref a6, .ref a7, .ref a8, .ref a9, .ref a10, .ref a11, .ref a12, .ref a13, .ref a14, .ref a15, .ref a16, .int f_side, .ref a17, .ref a18, .ref a19, .int f_rows, .ref a20, .ref a21])), (a1, gk_J G 6 f_members)] A) args s 0 0 A) {H : Heap} {locs : List Loc} {ls : Array Slot} (h : gk_H G A s [(a0, .inr (5, [.int f_n, .ref a1, .ref a2, .ref a3, .ref a4, .int f_keptN, .ref a5, .ref a6, .ref a7, .ref a8, .ref a9, .ref a10, .ref a11, .ref a12, .ref a13, .ref a14, .ref a15, .ref a16, .int f_side, .ref a17, .ref a18, .ref a19, .int f_rows, .ref a20, .ref a21])), (a1, gk_J G 6 f_members)] H locs) (hl : lv_has ls 6 [(0, .ref a0), (1, .int x1), (2, .int x2), (3, .int x3), (4, .int x4)]) : W p l e rm_X6_areSizes s m args below meth c H locs 0 0 Q (F0 m 48 ls [.int s0]) := by
  obtain ⟨hx, hb, hml, hr, hown, hnm, hts, hlk, hK, hSt, hA⟩ := id C
  obtain ⟨hP, hD, hS⟩ := h
  unfold m_X6_areSizes_J48 at hm
  refine lv_istore (lv' := [(5, .int s0), (0, .ref a0), (1, .int x1), (2, .int x2), (3, .int x3), (4, .int x4)]) hx hb dX6_areSizes_48 hl (by decide) rfl (fun ls hl => ?_)
  refine lv_iload_n hx hb dX6_areSizes_50 rfl (lv_at hl 4 rfl) ?_
  refine lv_iconst (v := -1) hx hb dX6_areSizes_51 (by decide) ?_
  refine lv_icmp_eq (tgt := 63) hx hb dX6_areSizes_52 (by decide) (fun c11 => ?_) (fun c11 => ?_)
  · have hm := gk_it c11 hm
    refine lv_iload hx hb dX6_areSizes_63 (lv_at hl 0 rfl) ?_
    refine lv_istore_n (lv' := [(3, .int s0), (5, .int s0), (0, .ref a0), (1, .int x1), (2, .int x2), (4, .int x4)]) hx hb dX6_areSizes_65 rfl hl (by decide) rfl (fun ls hl => ?_)
    refine lv_iinc (v := x4 + 1) (lv' := [(4, .int (x4 + 1)), (3, .int s0), (5, .int s0), (0, .ref a0), (1, .int x1), (2, .int x2)]) hx hb dX6_areSizes_66 hl (k := 5) rfl rfl (by decide) rfl (fun ls hl => ?_)
    refine lv_goto (tgt := 5) hx hb dX6_areSizes_69 (by decide) ?_
    exact kl _ _ (Option.some.inj hm).symm _ _ _ ⟨hP, hD, hS⟩ (lv_sub hl [3, 4, 5, 1, 0] rfl)
  · have hm := gk_if c11 hm
    refine lv_iload hx hb dX6_areSizes_55 (lv_at hl 0 rfl) ?_
    refine lv_iload_n hx hb dX6_areSizes_57 rfl (lv_at hl 4 rfl) ?_
    refine lv_icmp_eq (tgt := 63) hx hb dX6_areSizes_58 (by decide) (fun c12 => ?_) (fun c12 => ?_)
    · have hm := gk_it c12 hm
      refine lv_iload hx hb dX6_areSizes_63 (lv_at hl 0 rfl) ?_
      refine lv_istore_n (lv' := [(3, .int s0), (5, .int s0), (0, .ref a0), (1, .int x1), (2, .int x2), (4, .int x4)]) hx hb dX6_areSizes_65 rfl hl (by decide) rfl (fun ls hl => ?_)
      refine lv_iinc (v := x4 + 1) (lv' := [(4, .int (x4 + 1)), (3, .int s0), (5, .int s0), (0, .ref a0), (1, .int x1), (2, .int x2)]) hx hb dX6_areSizes_66 hl (k := 5) rfl rfl (by decide) rfl (fun ls hl => ?_)
      refine lv_goto (tgt := 5) hx hb dX6_areSizes_69 (by decide) ?_
      exact kl _ _ (Option.some.inj hm).symm _ _ _ ⟨hP, hD, hS⟩ (lv_sub hl [3, 4, 5, 1, 0] rfl)
    · have hm := gk_if c12 hm
      refine lv_iconst (v := 0) hx hb dX6_areSizes_61 (by decide) ?_
      rw [kr _ (Option.some.inj hm).symm]
      exact gk_zret C ⟨hP, hD, hS⟩ rfl dX6_areSizes_62
def m_X6_areSizes_B5 (f_n : Int32) (f_members : (Nat → Int64)) (x1 : Int32) (x2 : Int32) (x3 : Int32) (x4 : Int32) : Option ((Int32 × Int32) ⊕ ((Int32) ⊕ (Unit))) := (if ((1 : Int32) <<< (f_n &&& 31)) ≤ x4 then some (.inr (.inr ())) else gk_bd1 (m_X6_isMember f_members x1 x4) (fun r7 => (if r7 = (0 : Int32) then some (.inl (x3, x4 + 1)) else (if x2 = (0 : Int32) then gk_bd1 (m_X6_ones x4) (fun r10 => m_X6_areSizes_J48 f_n f_members x1 x2 x3 x4 r10) else gk_bd1 (m_X6_ones x4) (fun r13 => gk_nz (2 : Int32) (m_X6_areSizes_J48 f_n f_members x1 x2 x3 x4 (r13 - r13 / (2 : Int32) * (2 : Int32))))))))
set_option maxRecDepth 100000 in
set_option maxHeartbeats 4000000 in
theorem w_X6_areSizes_B5 {p : Program} {l : Launch} {e : Env} {s : State} {m : MethodId} {args : Array Value} {below : List Frame} {meth : Method} {c : Code} {G : gk_G} {A : Nat → Prop} {Q : State → Prop} {a0 a1 a2 a3 a4 a5 a6 a7 a8 a9 a10 a11 a12 a13 a14 a15 a16 a17 a18 a19 a20 a21 : Nat} (C : gk_C p s m args meth c cX6_areSizes 6 (some .boolean) yX6_areSizes wsX6_areSizes false G A) {f_n : Int32} {f_members : (Nat → Int64)} {x1 : Int32} {x2 : Int32} {x3 : Int32} {x4 : Int32} {f_keptN : Int32} {f_side : Int32} {f_rows : Int32} {yy : (Int32 × Int32) ⊕ ((Int32) ⊕ (Unit))} (hm : m_X6_areSizes_B5 f_n f_members x1 x2 x3 x4 = some yy) (kl : ∀ (x3 : Int32) (x4 : Int32), yy = .inl (x3, x4) → ∀ (H : Heap) (locs : List Loc) (ls : Array Slot), gk_H G A s [(a0, .inr (5, [.int f_n, .ref a1, .ref a2, .ref a3, .ref a4, .int f_keptN, .ref a5, .ref a6, .ref a7, .ref a8, .ref a9, .ref a10, .ref a11, .ref a12, .ref a13, .ref a14, .ref a15, .ref a16, .int f_side, .ref a17, .ref a18, .ref a19, .int f_rows, .ref a20, .ref a21])), (a1, gk_J G 6 f_members)] H locs → lv_has ls 6 [(0, .ref a0), (1, .int x1), (2, .int x2), (3, .int x3), (4, .int x4)] → W p l e rm_X6_areSizes s m args below meth c H locs 0 0 Q (F0 m 5 ls [])) (kx : yy = .inr (.inr ()) → ∀ (H : Heap) (locs : List Loc) (ls : Array Slot), gk_H G A s [(a0, .inr (5, [.int f_n, .ref a1, .ref a2, .ref a3, .ref a4, .int f_keptN, .ref a5, .ref a6, .ref a7, .ref a8, .ref a9, .ref a10, .ref a11, .ref a12, .ref a13, .ref a14, .ref a15, .ref a16, .int f_side, .ref a17, .ref a18, .ref a19, .int f_rows, .ref a20, .ref a21])), (a1, gk_J G 6 f_members)] H locs → lv_has ls 6 [] → W p l e rm_X6_areSizes s m args below meth c H locs 0 0 Q (F0 m 72 ls [])) (kr : ∀ (rv : Int32), yy = .inr (.inl rv) → Q = MQ below (gk_Q G (some (.int rv)) [(a0, .inr (5, [.int f_n, .ref a1, .ref a2, .ref a3, .ref a4, .int f_keptN, .ref a5, .ref a6, .ref a7, .ref a8, .ref a9, .ref a10, .ref a11, .ref a12, .ref a13, .ref a14, .ref a15, .ref a16, .int f_side, .ref a17, .ref a18, .ref a19, .int f_rows, .ref a20, .ref a21])), (a1, gk_J G 6 f_members)] A) args s 0 0 A) {H : Heap} {locs : List Loc} {ls : Array Slot} (h : gk_H G A s [(a0, .inr (5, [.int f_n, .ref a1, .ref a2, .ref a3, .ref a4, .int f_keptN, .ref a5, .ref a6, .ref a7, .ref a8, .ref a9, .ref a10, .ref a11, .ref a12, .ref a13, .ref a14, .ref a15, .ref a16, .int f_side, .ref a17, .ref a18, .ref a19, .int f_rows, .ref a20, .ref a21])), (a1, gk_J G 6 f_members)] H locs) (hl : lv_has ls 6 [(0, .ref a0), (1, .int x1), (2, .int x2), (3, .int x3), (4, .int x4)]) : W p l e rm_X6_areSizes s m args below meth c H locs 0 0 Q (F0 m 5 ls []) := by
  obtain ⟨hx, hb, hml, hr, hown, hnm, hts, hlk, hK, hSt, hA⟩ := id C
  obtain ⟨hP, hD, hS⟩ := h
  unfold m_X6_areSizes_B5 at hm
  refine lv_iload hx hb dX6_areSizes_5 (lv_at hl 4 rfl) ?_
  refine lv_iconst (v := 1) hx hb dX6_areSizes_7 (by decide) ?_
  refine lv_aload_n hx hb dX6_areSizes_8 rfl (lv_at hl 0 rfl) ?_
  refine va_get (D := G.1) (cl := vwCl) (own := RX6) (ref := "ExchangeFamiliesModel") (ci := 5) (v := .int f_n) (C := RX6) (T := TX6) (N := 25) hx hb hts k_X6_areSizes_0 hown hK hP 0 rfl rfl 0 (by decide) (hts _ k_X6_areSizes_1) (fun _ h9 => h9) rfl dX6_areSizes_9 ?_
  refine lv_ishl hx hb dX6_areSizes_12 ?_
  refine lv_icmp_ge (tgt := 72) hx hb dX6_areSizes_13 (by decide) (fun c6 => ?_) (fun c6 => ?_)
  · have hm := gk_it c6 hm
    exact kx (Option.some.inj hm).symm _ _ _ ⟨hP, hD, hS⟩ (lv_sub hl [] rfl)
  · have hm := gk_if c6 hm
    refine lv_aload_n hx hb dX6_areSizes_16 rfl (lv_at hl 0 rfl) ?_
    refine lv_iload_n hx hb dX6_areSizes_17 rfl (lv_at hl 1 rfl) ?_
    refine lv_iload hx hb dX6_areSizes_18 (lv_at hl 4 rfl) ?_
    obtain ⟨r7, hq, hm⟩ := gk_bd1_some hm
    refine gk_callV (n := 2) (bytes := cX6_isMember) (maxL := 3) (ret := (some .boolean)) (Cn := RX6) (T := TX6) (N := 25) [] [(a0, .inr (5, [.int f_n, .ref a1, .ref a2, .ref a3, .ref a4, .int f_keptN, .ref a5, .ref a6, .ref a7, .ref a8, .ref a9, .ref a10, .ref a11, .ref a12, .ref a13, .ref a14, .ref a15, .ref a16, .int f_side, .ref a17, .ref a18, .ref a19, .int f_rows, .ref a20, .ref a21])), (a1, gk_J G 6 f_members)] [] C ⟨hP, hD, hS⟩ (c_X6_isMember l G a0 a1 a2 a3 a4 a5 a6 a7 a8 a9 a10 a11 a12 a13 a14 a15 a16 a17 a18 a19 a20 a21 f_n f_keptN f_side f_rows f_members x1 x4 hq) gX6_areSizes_X6_isMember dX6_areSizes_20 hl.1 [0, 1] [] [0, 1] rfl rfl ⟨rfl, rfl⟩ ⟨Nat.le_of_ble_eq_true rfl, Nat.le_of_ble_eq_true rfl⟩ ⟨rfl, by decide +kernel, by decide +kernel, by decide +kernel⟩ rfl (fun h => by cases h) (Nat.le_of_ble_eq_true rfl) rfl rfl rfl rfl (by decide) rfl rfl (fun H locs h => ?_)
    obtain ⟨hP, hD, hS⟩ := h
    refine lv_if_ne (tgt := 29) hx hb dX6_areSizes_23 (by decide) (fun c8 => ?_) (fun c8 => ?_)
    · have hm := gk_if c8 hm
      refine lv_iload_n hx hb dX6_areSizes_29 rfl (lv_at hl 2 rfl) ?_
      refine lv_if_eq (tgt := 43) hx hb dX6_areSizes_30 (by decide) (fun c9 => ?_) (fun c9 => ?_)
      · have hm := gk_it c9 hm
        refine lv_iload hx hb dX6_areSizes_43 (lv_at hl 4 rfl) ?_
        obtain ⟨r10, hq, hm⟩ := gk_bd1_some hm
        refine gk_callS (n := 1) (bytes := cX6_ones) (maxL := 3) (ret := (some .int)) [(a0, .inr (5, [.int f_n, .ref a1, .ref a2, .ref a3, .ref a4, .int f_keptN, .ref a5, .ref a6, .ref a7, .ref a8, .ref a9, .ref a10, .ref a11, .ref a12, .ref a13, .ref a14, .ref a15, .ref a16, .int f_side, .ref a17, .ref a18, .ref a19, .int f_rows, .ref a20, .ref a21])), (a1, gk_J G 6 f_members)] [(a0, .inr (5, [.int f_n, .ref a1, .ref a2, .ref a3, .ref a4, .int f_keptN, .ref a5, .ref a6, .ref a7, .ref a8, .ref a9, .ref a10, .ref a11, .ref a12, .ref a13, .ref a14, .ref a15, .ref a16, .int f_side, .ref a17, .ref a18, .ref a19, .int f_rows, .ref a20, .ref a21])), (a1, gk_J G 6 f_members)] [] C ⟨hP, hD, hS⟩ (c_X6_ones l G x4 hq) gX6_areSizes_X6_ones dX6_areSizes_45 hl.1 [] [0, 1] [0, 1] rfl ⟨rfl, rfl⟩ ⟨Nat.le_of_ble_eq_true rfl, Nat.le_of_ble_eq_true rfl⟩ ⟨by decide +kernel, by decide +kernel, by decide +kernel⟩ rfl (fun h => by cases h) (Nat.le_of_ble_eq_true rfl) rfl rfl rfl rfl (by decide) rfl rfl (fun H locs h => ?_)
        obtain ⟨hP, hD, hS⟩ := h
        exact w_X6_areSizes_J48 C hm kl kx kr ⟨hP, hD, hS⟩ (lv_sub hl [0, 1, 2, 3, 4] rfl)
      · have hm := gk_if c9 hm
        refine lv_iload hx hb dX6_areSizes_33 (lv_at hl 4 rfl) ?_
        obtain ⟨r13, hq, hm⟩ := gk_bd1_some hm
        refine gk_callS (n := 1) (bytes := cX6_ones) (maxL := 3) (ret := (some .int)) [(a0, .inr (5, [.int f_n, .ref a1, .ref a2, .ref a3, .ref a4, .int f_keptN, .ref a5, .ref a6, .ref a7, .ref a8, .ref a9, .ref a10, .ref a11, .ref a12, .ref a13, .ref a14, .ref a15, .ref a16, .int f_side, .ref a17, .ref a18, .ref a19, .int f_rows, .ref a20, .ref a21])), (a1, gk_J G 6 f_members)] [(a0, .inr (5, [.int f_n, .ref a1, .ref a2, .ref a3, .ref a4, .int f_keptN, .ref a5, .ref a6, .ref a7, .ref a8, .ref a9, .ref a10, .ref a11, .ref a12, .ref a13, .ref a14, .ref a15, .ref a16, .int f_side, .ref a17, .ref a18, .ref a19, .int f_rows, .ref a20, .ref a21])), (a1, gk_J G 6 f_members)] [] C ⟨hP, hD, hS⟩ (c_X6_ones l G x4 hq) gX6_areSizes_X6_ones dX6_areSizes_35 hl.1 [] [0, 1] [0, 1] rfl ⟨rfl, rfl⟩ ⟨Nat.le_of_ble_eq_true rfl, Nat.le_of_ble_eq_true rfl⟩ ⟨by decide +kernel, by decide +kernel, by decide +kernel⟩ rfl (fun h => by cases h) (Nat.le_of_ble_eq_true rfl) rfl rfl rfl rfl (by decide) rfl rfl (fun H locs h => ?_)
        obtain ⟨hP, hD, hS⟩ := h
        refine lv_iconst (v := 2) hx hb dX6_areSizes_38 (by decide) ?_
        obtain ⟨hz, hm⟩ := gk_nz_some hm
        refine lv_irem hx hb dX6_areSizes_39 hz ?_
        refine lv_goto (tgt := 48) hx hb dX6_areSizes_40 (by decide) ?_
        exact w_X6_areSizes_J48 C hm kl kx kr ⟨hP, hD, hS⟩ (lv_sub hl [0, 1, 2, 3, 4] rfl)
    · have hm := gk_it c8 hm
      refine lv_goto (tgt := 66) hx hb dX6_areSizes_26 (by decide) ?_
      refine lv_iinc (v := x4 + 1) (lv' := [(4, .int (x4 + 1)), (0, .ref a0), (1, .int x1), (2, .int x2), (3, .int x3)]) hx hb dX6_areSizes_66 hl (k := 4) rfl rfl (by decide) rfl (fun ls hl => ?_)
      refine lv_goto (tgt := 5) hx hb dX6_areSizes_69 (by decide) ?_
      exact kl _ _ (Option.some.inj hm).symm _ _ _ ⟨hP, hD, hS⟩ (lv_sub hl [1, 2, 3, 4, 0] rfl)
set_option maxRecDepth 100000 in
set_option maxHeartbeats 4000000 in
theorem w_X6_areSizes_L5 {p : Program} {l : Launch} {e : Env} {s : State} {m : MethodId} {args : Array Value} {below : List Frame} {meth : Method} {c : Code} {G : gk_G} {A : Nat → Prop} {Q : State → Prop} {a0 a1 a2 a3 a4 a5 a6 a7 a8 a9 a10 a11 a12 a13 a14 a15 a16 a17 a18 a19 a20 a21 : Nat} (C : gk_C p s m args meth c cX6_areSizes 6 (some .boolean) yX6_areSizes wsX6_areSizes false G A) {f_n : Int32} {f_members : (Nat → Int64)} {x1 : Int32} {x2 : Int32} {x3 : Int32} {x4 : Int32} {f_keptN : Int32} {f_side : Int32} {f_rows : Int32} {k : Nat} (hm : gk_lp (fun z => m_X6_areSizes_B5 f_n f_members x1 x2 z.1 z.2) k (x3, x4) = some (.inr ())) (kx : ∀ (H : Heap) (locs : List Loc) (ls : Array Slot), gk_H G A s [(a0, .inr (5, [.int f_n, .ref a1, .ref a2, .ref a3, .ref a4, .int f_keptN, .ref a5, .ref a6, .ref a7, .ref a8, .ref a9, .ref a10, .ref a11, .ref a12, .ref a13, .ref a14, .ref a15, .ref a16, .int f_side, .ref a17, .ref a18, .ref a19, .int f_rows, .ref a20, .ref a21])), (a1, gk_J G 6 f_members)] H locs → lv_has ls 6 [] → W p l e rm_X6_areSizes s m args below meth c H locs 0 0 Q (F0 m 72 ls [])) {H : Heap} {locs : List Loc} {ls : Array Slot} (h : gk_H G A s [(a0, .inr (5, [.int f_n, .ref a1, .ref a2, .ref a3, .ref a4, .int f_keptN, .ref a5, .ref a6, .ref a7, .ref a8, .ref a9, .ref a10, .ref a11, .ref a12, .ref a13, .ref a14, .ref a15, .ref a16, .int f_side, .ref a17, .ref a18, .ref a19, .int f_rows, .ref a20, .ref a21])), (a1, gk_J G 6 f_members)] H locs) (hl : lv_has ls 6 [(0, .ref a0), (1, .int x1), (2, .int x2), (3, .int x3), (4, .int x4)]) : W p l e rm_X6_areSizes s m args below meth c H locs 0 0 Q (F0 m 5 ls []) :=
  gk_lp_some (P := fun z => ∀ (H : Heap) (locs : List Loc) (ls : Array Slot), gk_H G A s [(a0, .inr (5, [.int f_n, .ref a1, .ref a2, .ref a3, .ref a4, .int f_keptN, .ref a5, .ref a6, .ref a7, .ref a8, .ref a9, .ref a10, .ref a11, .ref a12, .ref a13, .ref a14, .ref a15, .ref a16, .int f_side, .ref a17, .ref a18, .ref a19, .int f_rows, .ref a20, .ref a21])), (a1, gk_J G 6 f_members)] H locs → lv_has ls 6 [(0, .ref a0), (1, .int x1), (2, .int x2), (3, .int z.1), (4, .int z.2)] → W p l e rm_X6_areSizes s m args below meth c H locs 0 0 Q (F0 m 5 ls [])) (E := fun r => (r = .inr () → ∀ (H : Heap) (locs : List Loc) (ls : Array Slot), gk_H G A s [(a0, .inr (5, [.int f_n, .ref a1, .ref a2, .ref a3, .ref a4, .int f_keptN, .ref a5, .ref a6, .ref a7, .ref a8, .ref a9, .ref a10, .ref a11, .ref a12, .ref a13, .ref a14, .ref a15, .ref a16, .int f_side, .ref a17, .ref a18, .ref a19, .int f_rows, .ref a20, .ref a21])), (a1, gk_J G 6 f_members)] H locs → lv_has ls 6 [] → W p l e rm_X6_areSizes s m args below meth c H locs 0 0 Q (F0 m 72 ls [])) ∧ (∀ (rv : Int32), r = .inl rv → Q = MQ below (gk_Q G (some (.int rv)) [(a0, .inr (5, [.int f_n, .ref a1, .ref a2, .ref a3, .ref a4, .int f_keptN, .ref a5, .ref a6, .ref a7, .ref a8, .ref a9, .ref a10, .ref a11, .ref a12, .ref a13, .ref a14, .ref a15, .ref a16, .int f_side, .ref a17, .ref a18, .ref a19, .int f_rows, .ref a20, .ref a21])), (a1, gk_J G 6 f_members)] A) args s 0 0 A)) (fun z x hf kl ke H locs ls h hl => w_X6_areSizes_B5 C hf (fun v0 v1 ez => kl (v0, v1) ez) (fun ez => (ke _ ez).1 rfl) (fun v0 ez => (ke _ ez).2 v0 rfl) h hl) k (x3, x4) _ hm (⟨fun ez => (by cases ez; exact kx), fun v0 ez => (by cases ez)⟩) _ _ _ h hl
set_option maxRecDepth 100000 in
set_option maxHeartbeats 4000000 in
theorem w_X6_areSizes_L5r {p : Program} {l : Launch} {e : Env} {s : State} {m : MethodId} {args : Array Value} {below : List Frame} {meth : Method} {c : Code} {G : gk_G} {A : Nat → Prop} {Q : State → Prop} {a0 a1 a2 a3 a4 a5 a6 a7 a8 a9 a10 a11 a12 a13 a14 a15 a16 a17 a18 a19 a20 a21 : Nat} (C : gk_C p s m args meth c cX6_areSizes 6 (some .boolean) yX6_areSizes wsX6_areSizes false G A) {f_n : Int32} {f_members : (Nat → Int64)} {x1 : Int32} {x2 : Int32} {x3 : Int32} {x4 : Int32} {f_keptN : Int32} {f_side : Int32} {f_rows : Int32} {k : Nat} {rv : Int32} (hm : gk_lp (fun z => m_X6_areSizes_B5 f_n f_members x1 x2 z.1 z.2) k (x3, x4) = some (.inl rv)) (kr : Q = MQ below (gk_Q G (some (.int rv)) [(a0, .inr (5, [.int f_n, .ref a1, .ref a2, .ref a3, .ref a4, .int f_keptN, .ref a5, .ref a6, .ref a7, .ref a8, .ref a9, .ref a10, .ref a11, .ref a12, .ref a13, .ref a14, .ref a15, .ref a16, .int f_side, .ref a17, .ref a18, .ref a19, .int f_rows, .ref a20, .ref a21])), (a1, gk_J G 6 f_members)] A) args s 0 0 A) {H : Heap} {locs : List Loc} {ls : Array Slot} (h : gk_H G A s [(a0, .inr (5, [.int f_n, .ref a1, .ref a2, .ref a3, .ref a4, .int f_keptN, .ref a5, .ref a6, .ref a7, .ref a8, .ref a9, .ref a10, .ref a11, .ref a12, .ref a13, .ref a14, .ref a15, .ref a16, .int f_side, .ref a17, .ref a18, .ref a19, .int f_rows, .ref a20, .ref a21])), (a1, gk_J G 6 f_members)] H locs) (hl : lv_has ls 6 [(0, .ref a0), (1, .int x1), (2, .int x2), (3, .int x3), (4, .int x4)]) : W p l e rm_X6_areSizes s m args below meth c H locs 0 0 Q (F0 m 5 ls []) :=
  gk_lp_some (P := fun z => ∀ (H : Heap) (locs : List Loc) (ls : Array Slot), gk_H G A s [(a0, .inr (5, [.int f_n, .ref a1, .ref a2, .ref a3, .ref a4, .int f_keptN, .ref a5, .ref a6, .ref a7, .ref a8, .ref a9, .ref a10, .ref a11, .ref a12, .ref a13, .ref a14, .ref a15, .ref a16, .int f_side, .ref a17, .ref a18, .ref a19, .int f_rows, .ref a20, .ref a21])), (a1, gk_J G 6 f_members)] H locs → lv_has ls 6 [(0, .ref a0), (1, .int x1), (2, .int x2), (3, .int z.1), (4, .int z.2)] → W p l e rm_X6_areSizes s m args below meth c H locs 0 0 Q (F0 m 5 ls [])) (E := fun r => (r = .inr () → ∀ (H : Heap) (locs : List Loc) (ls : Array Slot), gk_H G A s [(a0, .inr (5, [.int f_n, .ref a1, .ref a2, .ref a3, .ref a4, .int f_keptN, .ref a5, .ref a6, .ref a7, .ref a8, .ref a9, .ref a10, .ref a11, .ref a12, .ref a13, .ref a14, .ref a15, .ref a16, .int f_side, .ref a17, .ref a18, .ref a19, .int f_rows, .ref a20, .ref a21])), (a1, gk_J G 6 f_members)] H locs → lv_has ls 6 [] → W p l e rm_X6_areSizes s m args below meth c H locs 0 0 Q (F0 m 72 ls [])) ∧ (∀ (rv : Int32), r = .inl rv → Q = MQ below (gk_Q G (some (.int rv)) [(a0, .inr (5, [.int f_n, .ref a1, .ref a2, .ref a3, .ref a4, .int f_keptN, .ref a5, .ref a6, .ref a7, .ref a8, .ref a9, .ref a10, .ref a11, .ref a12, .ref a13, .ref a14, .ref a15, .ref a16, .int f_side, .ref a17, .ref a18, .ref a19, .int f_rows, .ref a20, .ref a21])), (a1, gk_J G 6 f_members)] A) args s 0 0 A)) (fun z x hf kl ke H locs ls h hl => w_X6_areSizes_B5 C hf (fun v0 v1 ez => kl (v0, v1) ez) (fun ez => (ke _ ez).1 rfl) (fun v0 ez => (ke _ ez).2 v0 rfl) h hl) k (x3, x4) _ hm (⟨fun ez => (by cases ez), fun v0 ez => (by cases ez; exact kr)⟩) _ _ _ h hl
def m_X6_areSizes_0 (f_n : Int32) (f_members : (Nat → Int64)) (x1 : Int32) (x2 : Int32) : Option (Int32) := gk_bs0 (gk_lp (fun z => m_X6_areSizes_B5 f_n f_members x1 x2 z.1 z.2) gk_fu ((-1 : Int32), (0 : Int32))) (fun r => some r) (some (1 : Int32))
set_option maxRecDepth 100000 in
set_option maxHeartbeats 4000000 in
theorem w_X6_areSizes_0 {p : Program} {l : Launch} {e : Env} {s : State} {m : MethodId} {args : Array Value} {below : List Frame} {meth : Method} {c : Code} {G : gk_G} {A : Nat → Prop} {Q : State → Prop} {a0 a1 a2 a3 a4 a5 a6 a7 a8 a9 a10 a11 a12 a13 a14 a15 a16 a17 a18 a19 a20 a21 : Nat} (C : gk_C p s m args meth c cX6_areSizes 6 (some .boolean) yX6_areSizes wsX6_areSizes false G A) {f_n : Int32} {f_members : (Nat → Int64)} {x1 : Int32} {x2 : Int32} {f_keptN : Int32} {f_side : Int32} {f_rows : Int32} {yy : Int32} (hm : m_X6_areSizes_0 f_n f_members x1 x2 = some yy) (kr : ∀ (rv : Int32), yy = rv → Q = MQ below (gk_Q G (some (.int rv)) [(a0, .inr (5, [.int f_n, .ref a1, .ref a2, .ref a3, .ref a4, .int f_keptN, .ref a5, .ref a6, .ref a7, .ref a8, .ref a9, .ref a10, .ref a11, .ref a12, .ref a13, .ref a14, .ref a15, .ref a16, .int f_side, .ref a17, .ref a18, .ref a19, .int f_rows, .ref a20, .ref a21])), (a1, gk_J G 6 f_members)] A) args s 0 0 A) {H : Heap} {locs : List Loc} {ls : Array Slot} (h : gk_H G A s [(a0, .inr (5, [.int f_n, .ref a1, .ref a2, .ref a3, .ref a4, .int f_keptN, .ref a5, .ref a6, .ref a7, .ref a8, .ref a9, .ref a10, .ref a11, .ref a12, .ref a13, .ref a14, .ref a15, .ref a16, .int f_side, .ref a17, .ref a18, .ref a19, .int f_rows, .ref a20, .ref a21])), (a1, gk_J G 6 f_members)] H locs) (hl : lv_has ls 6 [(0, .ref a0), (1, .int x1), (2, .int x2)]) : W p l e rm_X6_areSizes s m args below meth c H locs 0 0 Q (F0 m 0 ls []) := by
  obtain ⟨hx, hb, hml, hr, hown, hnm, hts, hlk, hK, hSt, hA⟩ := id C
  obtain ⟨hP, hD, hS⟩ := h
  unfold m_X6_areSizes_0 at hm
  refine lv_iconst (v := -1) hx hb dX6_areSizes_0 (by decide) ?_
  refine lv_istore_n (lv' := [(3, .int (-1 : Int32)), (0, .ref a0), (1, .int x1), (2, .int x2)]) hx hb dX6_areSizes_1 rfl hl (by decide) rfl (fun ls hl => ?_)
  refine lv_iconst (v := 0) hx hb dX6_areSizes_2 (by decide) ?_
  refine lv_istore (lv' := [(4, .int (0 : Int32)), (3, .int (-1 : Int32)), (0, .ref a0), (1, .int x1), (2, .int x2)]) hx hb dX6_areSizes_3 hl (by decide) rfl (fun ls hl => ?_)
  rcases gk_bs0_some hm with ⟨r14, hq, hm⟩ | ⟨hq, hm⟩
  · exact w_X6_areSizes_L5r C hq (kr _ (Option.some.inj hm).symm) ⟨hP, hD, hS⟩ (lv_sub hl [2, 3, 4, 1, 0] rfl)
  refine w_X6_areSizes_L5 C hq (fun H locs ls h hl => ?_) ⟨hP, hD, hS⟩ (lv_sub hl [2, 3, 4, 1, 0] rfl)
  obtain ⟨hP, hD, hS⟩ := h
  refine lv_iconst (v := 1) hx hb dX6_areSizes_72 (by decide) ?_
  rw [kr _ (Option.some.inj hm).symm]
  exact gk_zret C ⟨hP, hD, hS⟩ rfl dX6_areSizes_73
def m_X6_areSizes (f_n : Int32) (f_members : (Nat → Int64)) (x1 : Int32) (x2 : Int32) : Option (Int32) := m_X6_areSizes_0 f_n f_members x1 x2
theorem c_X6_areSizes (l : Launch) (G : gk_G) (a0 a1 a2 a3 a4 a5 a6 a7 a8 a9 a10 a11 a12 a13 a14 a15 a16 a17 a18 a19 a20 a21 : Nat) (f_n : Int32) (f_keptN : Int32) (f_side : Int32) (f_rows : Int32) (f_members : (Nat → Int64)) (x1 : Int32) (x2 : Int32) {rv : Int32} (hm : m_X6_areSizes f_n f_members x1 x2 = some rv) : gk_M l yX6_areSizes wsX6_areSizes rm_X6_areSizes false G [.ref a0, .int x1, .int x2] [(a0, .inr (5, [.int f_n, .ref a1, .ref a2, .ref a3, .ref a4, .int f_keptN, .ref a5, .ref a6, .ref a7, .ref a8, .ref a9, .ref a10, .ref a11, .ref a12, .ref a13, .ref a14, .ref a15, .ref a16, .int f_side, .ref a17, .ref a18, .ref a19, .int f_rows, .ref a20, .ref a21])), (a1, gk_J G 6 f_members)] (some (.int rv)) [(a0, .inr (5, [.int f_n, .ref a1, .ref a2, .ref a3, .ref a4, .int f_keptN, .ref a5, .ref a6, .ref a7, .ref a8, .ref a9, .ref a10, .ref a11, .ref a12, .ref a13, .ref a14, .ref a15, .ref a16, .int f_side, .ref a17, .ref a18, .ref a19, .int f_rows, .ref a20, .ref a21])), (a1, gk_J G 6 f_members)] :=
  gk_of (by decide) rfl (Nat.le_of_ble_eq_true rfl) (fun p e s m below meth c A ls C h hl => w_X6_areSizes_0 C hm (fun v0 ez => by cases ez; rfl) h (show lv_has ls 6 [(0, .ref a0), (1, .int x1), (2, .int x2)] from hl))

/-! ===== ExchangeFamiliesModel.loops(IZ)I ===== -/
abbrev rm_X6_loops : Room := { frames := 3, cells := 0, slots := 0, locals := 150 }
theorem k_X6_loops_0 : ∀ w ∈ u_ws RX6 TX6 25, w ∈ wsX6_loops := by decide +kernel
theorem k_X6_loops_1 : Cond.fieldLink RX6 9 "ExchangeFamiliesModel" "n" "I" ∈ wsX6_loops := by decide +kernel
def m_X6_loops_B12 (f_n : Int32) (f_members : (Nat → Int64)) (x1 : Int32) (x2 : Int32) (x3 : Int32) (x4 : Int32) : Option ((Int32 × Int32) ⊕ (Int32)) := (if ((1 : Int32) <<< (f_n &&& 31)) ≤ x4 then some (.inr x3) else gk_bd1 (m_X6_isMember f_members x1 x4) (fun r5 => (if r5 = (0 : Int32) then some (.inl (x3, x4 + 1)) else (if x2 = (0 : Int32) then some (.inl (x3 &&& (x4 ^^^ (-1 : Int32)), x4 + 1)) else some (.inl (x3 &&& x4, x4 + 1))))))
set_option maxRecDepth 100000 in
set_option maxHeartbeats 4000000 in
theorem w_X6_loops_B12 {p : Program} {l : Launch} {e : Env} {s : State} {m : MethodId} {args : Array Value} {below : List Frame} {meth : Method} {c : Code} {G : gk_G} {A : Nat → Prop} {Q : State → Prop} {a0 a1 a2 a3 a4 a5 a6 a7 a8 a9 a10 a11 a12 a13 a14 a15 a16 a17 a18 a19 a20 a21 : Nat} (C : gk_C p s m args meth c cX6_loops 5 (some .int) yX6_loops wsX6_loops false G A) {f_n : Int32} {f_members : (Nat → Int64)} {x1 : Int32} {x2 : Int32} {x3 : Int32} {x4 : Int32} {f_keptN : Int32} {f_side : Int32} {f_rows : Int32} {yy : (Int32 × Int32) ⊕ (Int32)} (hm : m_X6_loops_B12 f_n f_members x1 x2 x3 x4 = some yy) (kl : ∀ (x3 : Int32) (x4 : Int32), yy = .inl (x3, x4) → ∀ (H : Heap) (locs : List Loc) (ls : Array Slot), gk_H G A s [(a0, .inr (5, [.int f_n, .ref a1, .ref a2, .ref a3, .ref a4, .int f_keptN, .ref a5, .ref a6, .ref a7, .ref a8, .ref a9, .ref a10, .ref a11, .ref a12, .ref a13, .ref a14, .ref a15, .ref a16, .int f_side, .ref a17, .ref a18, .ref a19, .int f_rows, .ref a20, .ref a21])), (a1, gk_J G 6 f_members)] H locs → lv_has ls 5 [(0, .ref a0), (1, .int x1), (2, .int x2), (3, .int x3), (4, .int x4)] → W p l e rm_X6_loops s m args below meth c H locs 0 0 Q (F0 m 12 ls [])) (kx : ∀ (x3 : Int32), yy = .inr x3 → ∀ (H : Heap) (locs : List Loc) (ls : Array Slot), gk_H G A s [(a0, .inr (5, [.int f_n, .ref a1, .ref a2, .ref a3, .ref a4, .int f_keptN, .ref a5, .ref a6, .ref a7, .ref a8, .ref a9, .ref a10, .ref a11, .ref a12, .ref a13, .ref a14, .ref a15, .ref a16, .int f_side, .ref a17, .ref a18, .ref a19, .int f_rows, .ref a20, .ref a21])), (a1, gk_J G 6 f_members)] H locs → lv_has ls 5 [(3, .int x3)] → W p l e rm_X6_loops s m args below meth c H locs 0 0 Q (F0 m 55 ls [])) {H : Heap} {locs : List Loc} {ls : Array Slot} (h : gk_H G A s [(a0, .inr (5, [.int f_n, .ref a1, .ref a2, .ref a3, .ref a4, .int f_keptN, .ref a5, .ref a6, .ref a7, .ref a8, .ref a9, .ref a10, .ref a11, .ref a12, .ref a13, .ref a14, .ref a15, .ref a16, .int f_side, .ref a17, .ref a18, .ref a19, .int f_rows, .ref a20, .ref a21])), (a1, gk_J G 6 f_members)] H locs) (hl : lv_has ls 5 [(0, .ref a0), (1, .int x1), (2, .int x2), (3, .int x3), (4, .int x4)]) : W p l e rm_X6_loops s m args below meth c H locs 0 0 Q (F0 m 12 ls []) := by
  obtain ⟨hx, hb, hml, hr, hown, hnm, hts, hlk, hK, hSt, hA⟩ := id C
  obtain ⟨hP, hD, hS⟩ := h
  unfold m_X6_loops_B12 at hm
  refine lv_iload hx hb dX6_loops_12 (lv_at hl 4 rfl) ?_
  refine lv_iconst (v := 1) hx hb dX6_loops_14 (by decide) ?_
  refine lv_aload_n hx hb dX6_loops_15 rfl (lv_at hl 0 rfl) ?_
  refine va_get (D := G.1) (cl := vwCl) (own := RX6) (ref := "ExchangeFamiliesModel") (ci := 5) (v := .int f_n) (C := RX6) (T := TX6) (N := 25) hx hb hts k_X6_loops_0 hown hK hP 0 rfl rfl 0 (by decide) (hts _ k_X6_loops_1) (fun _ h9 => h9) rfl dX6_loops_16 ?_
  refine lv_ishl hx hb dX6_loops_19 ?_
  refine lv_icmp_ge (tgt := 55) hx hb dX6_loops_20 (by decide) (fun c4 => ?_) (fun c4 => ?_)
  · have hm := gk_it c4 hm
    exact kx _ (Option.some.inj hm).symm _ _ _ ⟨hP, hD, hS⟩ (lv_sub hl [3] rfl)
  · have hm := gk_if c4 hm
    refine lv_aload_n hx hb dX6_loops_23 rfl (lv_at hl 0 rfl) ?_
    refine lv_iload_n hx hb dX6_loops_24 rfl (lv_at hl 1 rfl) ?_
    refine lv_iload hx hb dX6_loops_25 (lv_at hl 4 rfl) ?_
    obtain ⟨r5, hq, hm⟩ := gk_bd1_some hm
    refine gk_callV (n := 2) (bytes := cX6_isMember) (maxL := 3) (ret := (some .boolean)) (Cn := RX6) (T := TX6) (N := 25) [] [(a0, .inr (5, [.int f_n, .ref a1, .ref a2, .ref a3, .ref a4, .int f_keptN, .ref a5, .ref a6, .ref a7, .ref a8, .ref a9, .ref a10, .ref a11, .ref a12, .ref a13, .ref a14, .ref a15, .ref a16, .int f_side, .ref a17, .ref a18, .ref a19, .int f_rows, .ref a20, .ref a21])), (a1, gk_J G 6 f_members)] [] C ⟨hP, hD, hS⟩ (c_X6_isMember l G a0 a1 a2 a3 a4 a5 a6 a7 a8 a9 a10 a11 a12 a13 a14 a15 a16 a17 a18 a19 a20 a21 f_n f_keptN f_side f_rows f_members x1 x4 hq) gX6_loops_X6_isMember dX6_loops_27 hl.1 [0, 1] [] [0, 1] rfl rfl ⟨rfl, rfl⟩ ⟨Nat.le_of_ble_eq_true rfl, Nat.le_of_ble_eq_true rfl⟩ ⟨rfl, by decide +kernel, by decide +kernel, by decide +kernel⟩ rfl (fun h => by cases h) (Nat.le_of_ble_eq_true rfl) rfl rfl rfl rfl (by decide) rfl rfl (fun H locs h => ?_)
    obtain ⟨hP, hD, hS⟩ := h
    refine lv_if_eq (tgt := 49) hx hb dX6_loops_30 (by decide) (fun c6 => ?_) (fun c6 => ?_)
    · have hm := gk_it c6 hm
      refine lv_iinc (v := x4 + 1) (lv' := [(4, .int (x4 + 1)), (0, .ref a0), (1, .int x1), (2, .int x2), (3, .int x3)]) hx hb dX6_loops_49 hl (k := 4) rfl rfl (by decide) rfl (fun ls hl => ?_)
      refine lv_goto (tgt := 12) hx hb dX6_loops_52 (by decide) ?_
      exact kl _ _ (Option.some.inj hm).symm _ _ _ ⟨hP, hD, hS⟩ (lv_sub hl [1, 2, 3, 4, 0] rfl)
    · have hm := gk_if c6 hm
      refine lv_iload_n hx hb dX6_loops_33 rfl (lv_at hl 3 rfl) ?_
      refine lv_iload_n hx hb dX6_loops_34 rfl (lv_at hl 2 rfl) ?_
      refine lv_if_eq (tgt := 43) hx hb dX6_loops_35 (by decide) (fun c7 => ?_) (fun c7 => ?_)
      · have hm := gk_it c7 hm
        refine lv_iload hx hb dX6_loops_43 (lv_at hl 4 rfl) ?_
        refine lv_iconst (v := -1) hx hb dX6_loops_45 (by decide) ?_
        refine lv_ixor hx hb dX6_loops_46 ?_
        refine lv_iand hx hb dX6_loops_47 ?_
        refine lv_istore_n (lv' := [(3, .int (x3 &&& (x4 ^^^ (-1 : Int32)))), (0, .ref a0), (1, .int x1), (2, .int x2), (4, .int x4)]) hx hb dX6_loops_48 rfl hl (by decide) rfl (fun ls hl => ?_)
        refine lv_iinc (v := x4 + 1) (lv' := [(4, .int (x4 + 1)), (3, .int (x3 &&& (x4 ^^^ (-1 : Int32)))), (0, .ref a0), (1, .int x1), (2, .int x2)]) hx hb dX6_loops_49 hl (k := 4) rfl rfl (by decide) rfl (fun ls hl => ?_)
        refine lv_goto (tgt := 12) hx hb dX6_loops_52 (by decide) ?_
        exact kl _ _ (Option.some.inj hm).symm _ _ _ ⟨hP, hD, hS⟩ (lv_sub hl [2, 3, 4, 1, 0] rfl)
      · have hm := gk_if c7 hm
        refine lv_iload hx hb dX6_loops_38 (lv_at hl 4 rfl) ?_
        refine lv_goto (tgt := 47) hx hb dX6_loops_40 (by decide) ?_
        refine lv_iand hx hb dX6_loops_47 ?_
        refine lv_istore_n (lv' := [(3, .int (x3 &&& x4)), (0, .ref a0), (1, .int x1), (2, .int x2), (4, .int x4)]) hx hb dX6_loops_48 rfl hl (by decide) rfl (fun ls hl => ?_)
        refine lv_iinc (v := x4 + 1) (lv' := [(4, .int (x4 + 1)), (3, .int (x3 &&& x4)), (0, .ref a0), (1, .int x1), (2, .int x2)]) hx hb dX6_loops_49 hl (k := 4) rfl rfl (by decide) rfl (fun ls hl => ?_)
        refine lv_goto (tgt := 12) hx hb dX6_loops_52 (by decide) ?_
        exact kl _ _ (Option.some.inj hm).symm _ _ _ ⟨hP, hD, hS⟩ (lv_sub hl [2, 3, 4, 1, 0] rfl)
set_option maxRecDepth 100000 in
set_option maxHeartbeats 4000000 in
theorem w_X6_loops_L12 {p : Program} {l : Launch} {e : Env} {s : State} {m : MethodId} {args : Array Value} {below : List Frame} {meth : Method} {c : Code} {G : gk_G} {A : Nat → Prop} {Q : State → Prop} {a0 a1 a2 a3 a4 a5 a6 a7 a8 a9 a10 a11 a12 a13 a14 a15 a16 a17 a18 a19 a20 a21 : Nat} (C : gk_C p s m args meth c cX6_loops 5 (some .int) yX6_loops wsX6_loops false G A) {f_n : Int32} {f_members : (Nat → Int64)} {x1 : Int32} {x2 : Int32} {x3 : Int32} {x4 : Int32} {f_keptN : Int32} {f_side : Int32} {f_rows : Int32} {k : Nat} {e_x3 : Int32} (hm : gk_lp (fun z => m_X6_loops_B12 f_n f_members x1 x2 z.1 z.2) k (x3, x4) = some e_x3) (kx : ∀ (H : Heap) (locs : List Loc) (ls : Array Slot), gk_H G A s [(a0, .inr (5, [.int f_n, .ref a1, .ref a2, .ref a3, .ref a4, .int f_keptN, .ref a5, .ref a6, .ref a7, .ref a8, .ref a9, .ref a10, .ref a11, .ref a12, .ref a13, .ref a14, .ref a15, .ref a16, .int f_side, .ref a17, .ref a18, .ref a19, .int f_rows, .ref a20, .ref a21])), (a1, gk_J G 6 f_members)] H locs → lv_has ls 5 [(3, .int e_x3)] → W p l e rm_X6_loops s m args below meth c H locs 0 0 Q (F0 m 55 ls [])) {H : Heap} {locs : List Loc} {ls : Array Slot} (h : gk_H G A s [(a0, .inr (5, [.int f_n, .ref a1, .ref a2, .ref a3, .ref a4, .int f_keptN, .ref a5, .ref a6, .ref a7, .ref a8, .ref a9, .ref a10, .ref a11, .ref a12, .ref a13, .ref a14, .ref a15, .ref a16, .int f_side, .ref a17, .ref a18, .ref a19, .int f_rows, .ref a20, .ref a21])), (a1, gk_J G 6 f_members)] H locs) (hl : lv_has ls 5 [(0, .ref a0), (1, .int x1), (2, .int x2), (3, .int x3), (4, .int x4)]) : W p l e rm_X6_loops s m args below meth c H locs 0 0 Q (F0 m 12 ls []) :=
  gk_lp_some (P := fun z => ∀ (H : Heap) (locs : List Loc) (ls : Array Slot), gk_H G A s [(a0, .inr (5, [.int f_n, .ref a1, .ref a2, .ref a3, .ref a4, .int f_keptN, .ref a5, .ref a6, .ref a7, .ref a8, .ref a9, .ref a10, .ref a11, .ref a12, .ref a13, .ref a14, .ref a15, .ref a16, .int f_side, .ref a17, .ref a18, .ref a19, .int f_rows, .ref a20, .ref a21])), (a1, gk_J G 6 f_members)] H locs → lv_has ls 5 [(0, .ref a0), (1, .int x1), (2, .int x2), (3, .int z.1), (4, .int z.2)] → W p l e rm_X6_loops s m args below meth c H locs 0 0 Q (F0 m 12 ls [])) (E := fun r => (∀ (x3 : Int32), r = x3 → ∀ (H : Heap) (locs : List Loc) (ls : Array Slot), gk_H G A s [(a0, .inr (5, [.int f_n, .ref a1, .ref a2, .ref a3, .ref a4, .int f_keptN, .ref a5, .ref a6, .ref a7, .ref a8, .ref a9, .ref a10, .ref a11, .ref a12, .ref a13, .ref a14, .ref a15, .ref a16, .int f_side, .ref a17, .ref a18, .ref a19, .int f_rows, .ref a20, .ref a21])), (a1, gk_J G 6 f_members)] H locs → lv_has ls 5 [(3, .int x3)] → W p l e rm_X6_loops s m args below meth c H locs 0 0 Q (F0 m 55 ls []))) (fun z x hf kl ke H locs ls h hl => w_X6_loops_B12 C hf (fun v0 v1 ez => kl (v0, v1) ez) (fun v0 ez => ke _ ez v0 rfl) h hl) k (x3, x4) _ hm (fun v0 ez => (by cases ez; exact kx)) _ _ _ h hl
def m_X6_loops_0 (f_n : Int32) (f_members : (Nat → Int64)) (x1 : Int32) (x2 : Int32) : Option (Int32) := gk_bd1 (gk_lp (fun z => m_X6_loops_B12 f_n f_members x1 x2 z.1 z.2) gk_fu (((1 : Int32) <<< (f_n &&& 31)) - (1 : Int32), (0 : Int32))) (fun e8 => some e8)
set_option maxRecDepth 100000 in
set_option maxHeartbeats 4000000 in
theorem w_X6_loops_0 {p : Program} {l : Launch} {e : Env} {s : State} {m : MethodId} {args : Array Value} {below : List Frame} {meth : Method} {c : Code} {G : gk_G} {A : Nat → Prop} {Q : State → Prop} {a0 a1 a2 a3 a4 a5 a6 a7 a8 a9 a10 a11 a12 a13 a14 a15 a16 a17 a18 a19 a20 a21 : Nat} (C : gk_C p s m args meth c cX6_loops 5 (some .int) yX6_loops wsX6_loops false G A) {f_n : Int32} {f_members : (Nat → Int64)} {x1 : Int32} {x2 : Int32} {f_keptN : Int32} {f_side : Int32} {f_rows : Int32} {yy : Int32} (hm : m_X6_loops_0 f_n f_members x1 x2 = some yy) (kr : ∀ (rv : Int32), yy = rv → Q = MQ below (gk_Q G (some (.int rv)) [(a0, .inr (5, [.int f_n, .ref a1, .ref a2, .ref a3, .ref a4, .int f_keptN, .ref a5, .ref a6, .ref a7, .ref a8, .ref a9, .ref a10, .ref a11, .ref a12, .ref a13, .ref a14, .ref a15, .ref a16, .int f_side, .ref a17, .ref a18, .ref a19, .int f_rows, .ref a20, .ref a21])), (a1, gk_J G 6 f_members)] A) args s 0 0 A) {H : Heap} {locs : List Loc} {ls : Array Slot} (h : gk_H G A s [(a0, .inr (5, [.int f_n, .ref a1, .ref a2, .ref a3, .ref a4, .int f_keptN, .ref a5, .ref a6, .ref a7, .ref a8, .ref a9, .ref a10, .ref a11, .ref a12, .ref a13, .ref a14, .ref a15, .ref a16, .int f_side, .ref a17, .ref a18, .ref a19, .int f_rows, .ref a20, .ref a21])), (a1, gk_J G 6 f_members)] H locs) (hl : lv_has ls 5 [(0, .ref a0), (1, .int x1), (2, .int x2)]) : W p l e rm_X6_loops s m args below meth c H locs 0 0 Q (F0 m 0 ls []) := by
  obtain ⟨hx, hb, hml, hr, hown, hnm, hts, hlk, hK, hSt, hA⟩ := id C
  obtain ⟨hP, hD, hS⟩ := h
  unfold m_X6_loops_0 at hm
  refine lv_iconst (v := 1) hx hb dX6_loops_0 (by decide) ?_
  refine lv_aload_n hx hb dX6_loops_1 rfl (lv_at hl 0 rfl) ?_
  refine va_get (D := G.1) (cl := vwCl) (own := RX6) (ref := "ExchangeFamiliesModel") (ci := 5) (v := .int f_n) (C := RX6) (T := TX6) (N := 25) hx hb hts k_X6_loops_0 hown hK hP 0 rfl rfl 0 (by decide) (hts _ k_X6_loops_1) (fun _ h9 => h9) rfl dX6_loops_2 ?_
  refine lv_ishl hx hb dX6_loops_5 ?_
  refine lv_iconst (v := 1) hx hb dX6_loops_6 (by decide) ?_
  refine lv_isub hx hb dX6_loops_7 ?_
  refine lv_istore_n (lv' := [(3, .int (((1 : Int32) <<< (f_n &&& 31)) - (1 : Int32))), (0, .ref a0), (1, .int x1), (2, .int x2)]) hx hb dX6_loops_8 rfl hl (by decide) rfl (fun ls hl => ?_)
  refine lv_iconst (v := 0) hx hb dX6_loops_9 (by decide) ?_
  refine lv_istore (lv' := [(4, .int (0 : Int32)), (3, .int (((1 : Int32) <<< (f_n &&& 31)) - (1 : Int32))), (0, .ref a0), (1, .int x1), (2, .int x2)]) hx hb dX6_loops_10 hl (by decide) rfl (fun ls hl => ?_)
  obtain ⟨e8, hq, hm⟩ := gk_bd1_some hm
  refine w_X6_loops_L12 C hq (fun H locs ls h hl => ?_) ⟨hP, hD, hS⟩ (lv_sub hl [2, 3, 4, 1, 0] rfl)
  obtain ⟨hP, hD, hS⟩ := h
  refine lv_iload_n hx hb dX6_loops_55 rfl (lv_at hl 0 rfl) ?_
  rw [kr _ (Option.some.inj hm).symm]
  exact gk_iret C ⟨hP, hD, hS⟩ dX6_loops_56
def m_X6_loops (f_n : Int32) (f_members : (Nat → Int64)) (x1 : Int32) (x2 : Int32) : Option (Int32) := m_X6_loops_0 f_n f_members x1 x2
theorem c_X6_loops (l : Launch) (G : gk_G) (a0 a1 a2 a3 a4 a5 a6 a7 a8 a9 a10 a11 a12 a13 a14 a15 a16 a17 a18 a19 a20 a21 : Nat) (f_n : Int32) (f_keptN : Int32) (f_side : Int32) (f_rows : Int32) (f_members : (Nat → Int64)) (x1 : Int32) (x2 : Int32) {rv : Int32} (hm : m_X6_loops f_n f_members x1 x2 = some rv) : gk_M l yX6_loops wsX6_loops rm_X6_loops false G [.ref a0, .int x1, .int x2] [(a0, .inr (5, [.int f_n, .ref a1, .ref a2, .ref a3, .ref a4, .int f_keptN, .ref a5, .ref a6, .ref a7, .ref a8, .ref a9, .ref a10, .ref a11, .ref a12, .ref a13, .ref a14, .ref a15, .ref a16, .int f_side, .ref a17, .ref a18, .ref a19, .int f_rows, .ref a20, .ref a21])), (a1, gk_J G 6 f_members)] (some (.int rv)) [(a0, .inr (5, [.int f_n, .ref a1, .ref a2, .ref a3, .ref a4, .int f_keptN, .ref a5, .ref a6, .ref a7, .ref a8, .ref a9, .ref a10, .ref a11, .ref a12, .ref a13, .ref a14, .ref a15, .ref a16, .int f_side, .ref a17, .ref a18, .ref a19, .int f_rows, .ref a20, .ref a21])), (a1, gk_J G 6 f_members)] :=
  gk_of (by decide) rfl (Nat.le_of_ble_eq_true rfl) (fun p e s m below meth c A ls C h hl => w_X6_loops_0 C hm (fun v0 ez => by cases ez; rfl) h (show lv_has ls 5 [(0, .ref a0), (1, .int x1), (2, .int x2)] from hl))

/-! ===== ExchangeFamiliesModel.sizeOf(IZ)I ===== -/
abbrev rm_X6_sizeOf : Room := { frames := 3, cells := 0, slots := 0, locals := 150 }
theorem k_X6_sizeOf_0 : ∀ w ∈ u_ws RX6 TX6 25, w ∈ wsX6_sizeOf := by decide +kernel
theorem k_X6_sizeOf_1 : Cond.fieldLink RX6 9 "ExchangeFamiliesModel" "n" "I" ∈ wsX6_sizeOf := by decide +kernel
def m_X6_sizeOf_B5 (f_n : Int32) (f_members : (Nat → Int64)) (x1 : Int32) (x2 : Int32) (x3 : Int32) (x4 : Int32) : Option ((Int32 × Int32) ⊕ (Int32)) := (if ((1 : Int32) <<< (f_n &&& 31)) ≤ x4 then some (.inr x3) else gk_bd1 (m_X6_isMember f_members x1 x4) (fun r8 => (if r8 = (0 : Int32) then some (.inl (x3, x4 + 1)) else gk_bd1 (m_X6_ones x4) (fun r10 => (if x3 = (-1 : Int32) then some (.inl (r10, x4 + 1)) else (if x2 = (0 : Int32) then (if r10 ≤ x3 then some (.inl (x3, x4 + 1)) else some (.inl (r10, x4 + 1))) else (if x3 ≤ r10 then some (.inl (x3, x4 + 1)) else some (.inl (r10, x4 + 1)))))))))
set_option maxRecDepth 100000 in
set_option maxHeartbeats 4000000 in
theorem w_X6_sizeOf_B5 {p : Program} {l : Launch} {e : Env} {s : State} {m : MethodId} {args : Array Value} {below : List Frame} {meth : Method} {c : Code} {G : gk_G} {A : Nat → Prop} {Q : State → Prop} {a0 a1 a2 a3 a4 a5 a6 a7 a8 a9 a10 a11 a12 a13 a14 a15 a16 a17 a18 a19 a20 a21 : Nat} (C : gk_C p s m args meth c cX6_sizeOf 6 (some .int) yX6_sizeOf wsX6_sizeOf false G A) {f_n : Int32} {f_members : (Nat → Int64)} {x1 : Int32} {x2 : Int32} {x3 : Int32} {x4 : Int32} {f_keptN : Int32} {f_side : Int32} {f_rows : Int32} {yy : (Int32 × Int32) ⊕ (Int32)} (hm : m_X6_sizeOf_B5 f_n f_members x1 x2 x3 x4 = some yy) (kl : ∀ (x3 : Int32) (x4 : Int32), yy = .inl (x3, x4) → ∀ (H : Heap) (locs : List Loc) (ls : Array Slot), gk_H G A s [(a0, .inr (5, [.int f_n, .ref a1, .ref a2, .ref a3, .ref a4, .int f_keptN, .ref a5, .ref a6, .ref a7, .ref a8, .ref a9, .ref a10, .ref a11, .ref a12, .ref a13, .ref a14, .ref a15, .ref a16, .int f_side, .ref a17, .ref a18, .ref a19, .int f_rows, .ref a20, .ref a21])), (a1, gk_J G 6 f_members)] H locs → lv_has ls 6 [(0, .ref a0), (1, .int x1), (2, .int x2), (3, .int x3), (4, .int x4)] → W p l e rm_X6_sizeOf s m args below meth c H locs 0 0 Q (F0 m 5 ls [])) (kx : ∀ (x3 : Int32), yy = .inr x3 → ∀ (H : Heap) (locs : List Loc) (ls : Array Slot), gk_H G A s [(a0, .inr (5, [.int f_n, .ref a1, .ref a2, .ref a3, .ref a4, .int f_keptN, .ref a5, .ref a6, .ref a7, .ref a8, .ref a9, .ref a10, .ref a11, .ref a12, .ref a13, .ref a14, .ref a15, .ref a16, .int f_side, .ref a17, .ref a18, .ref a19, .int f_rows, .ref a20, .ref a21])), (a1, gk_J G 6 f_members)] H locs → lv_has ls 6 [(3, .int x3)] → W p l e rm_X6_sizeOf s m args below meth c H locs 0 0 Q (F0 m 73 ls [])) {H : Heap} {locs : List Loc} {ls : Array Slot} (h : gk_H G A s [(a0, .inr (5, [.int f_n, .ref a1, .ref a2, .ref a3, .ref a4, .int f_keptN, .ref a5, .ref a6, .ref a7, .ref a8, .ref a9, .ref a10, .ref a11, .ref a12, .ref a13, .ref a14, .ref a15, .ref a16, .int f_side, .ref a17, .ref a18, .ref a19, .int f_rows, .ref a20, .ref a21])), (a1, gk_J G 6 f_members)] H locs) (hl : lv_has ls 6 [(0, .ref a0), (1, .int x1), (2, .int x2), (3, .int x3), (4, .int x4)]) : W p l e rm_X6_sizeOf s m args below meth c H locs 0 0 Q (F0 m 5 ls []) := by
  obtain ⟨hx, hb, hml, hr, hown, hnm, hts, hlk, hK, hSt, hA⟩ := id C
  obtain ⟨hP, hD, hS⟩ := h
  unfold m_X6_sizeOf_B5 at hm
  refine lv_iload hx hb dX6_sizeOf_5 (lv_at hl 4 rfl) ?_
  refine lv_iconst (v := 1) hx hb dX6_sizeOf_7 (by decide) ?_
  refine lv_aload_n hx hb dX6_sizeOf_8 rfl (lv_at hl 0 rfl) ?_
  refine va_get (D := G.1) (cl := vwCl) (own := RX6) (ref := "ExchangeFamiliesModel") (ci := 5) (v := .int f_n) (C := RX6) (T := TX6) (N := 25) hx hb hts k_X6_sizeOf_0 hown hK hP 0 rfl rfl 0 (by decide) (hts _ k_X6_sizeOf_1) (fun _ h9 => h9) rfl dX6_sizeOf_9 ?_
  refine lv_ishl hx hb dX6_sizeOf_12 ?_
  refine lv_icmp_ge (tgt := 73) hx hb dX6_sizeOf_13 (by decide) (fun c7 => ?_) (fun c7 => ?_)
  · have hm := gk_it c7 hm
    exact kx _ (Option.some.inj hm).symm _ _ _ ⟨hP, hD, hS⟩ (lv_sub hl [3] rfl)
  · have hm := gk_if c7 hm
    refine lv_aload_n hx hb dX6_sizeOf_16 rfl (lv_at hl 0 rfl) ?_
    refine lv_iload_n hx hb dX6_sizeOf_17 rfl (lv_at hl 1 rfl) ?_
    refine lv_iload hx hb dX6_sizeOf_18 (lv_at hl 4 rfl) ?_
    obtain ⟨r8, hq, hm⟩ := gk_bd1_some hm
    refine gk_callV (n := 2) (bytes := cX6_isMember) (maxL := 3) (ret := (some .boolean)) (Cn := RX6) (T := TX6) (N := 25) [] [(a0, .inr (5, [.int f_n, .ref a1, .ref a2, .ref a3, .ref a4, .int f_keptN, .ref a5, .ref a6, .ref a7, .ref a8, .ref a9, .ref a10, .ref a11, .ref a12, .ref a13, .ref a14, .ref a15, .ref a16, .int f_side, .ref a17, .ref a18, .ref a19, .int f_rows, .ref a20, .ref a21])), (a1, gk_J G 6 f_members)] [] C ⟨hP, hD, hS⟩ (c_X6_isMember l G a0 a1 a2 a3 a4 a5 a6 a7 a8 a9 a10 a11 a12 a13 a14 a15 a16 a17 a18 a19 a20 a21 f_n f_keptN f_side f_rows f_members x1 x4 hq) gX6_sizeOf_X6_isMember dX6_sizeOf_20 hl.1 [0, 1] [] [0, 1] rfl rfl ⟨rfl, rfl⟩ ⟨Nat.le_of_ble_eq_true rfl, Nat.le_of_ble_eq_true rfl⟩ ⟨rfl, by decide +kernel, by decide +kernel, by decide +kernel⟩ rfl (fun h => by cases h) (Nat.le_of_ble_eq_true rfl) rfl rfl rfl rfl (by decide) rfl rfl (fun H locs h => ?_)
    obtain ⟨hP, hD, hS⟩ := h
    refine lv_if_ne (tgt := 29) hx hb dX6_sizeOf_23 (by decide) (fun c9 => ?_) (fun c9 => ?_)
    · have hm := gk_if c9 hm
      refine lv_iload hx hb dX6_sizeOf_29 (lv_at hl 4 rfl) ?_
      obtain ⟨r10, hq, hm⟩ := gk_bd1_some hm
      refine gk_callS (n := 1) (bytes := cX6_ones) (maxL := 3) (ret := (some .int)) [(a0, .inr (5, [.int f_n, .ref a1, .ref a2, .ref a3, .ref a4, .int f_keptN, .ref a5, .ref a6, .ref a7, .ref a8, .ref a9, .ref a10, .ref a11, .ref a12, .ref a13, .ref a14, .ref a15, .ref a16, .int f_side, .ref a17, .ref a18, .ref a19, .int f_rows, .ref a20, .ref a21])), (a1, gk_J G 6 f_members)] [(a0, .inr (5, [.int f_n, .ref a1, .ref a2, .ref a3, .ref a4, .int f_keptN, .ref a5, .ref a6, .ref a7, .ref a8, .ref a9, .ref a10, .ref a11, .ref a12, .ref a13, .ref a14, .ref a15, .ref a16, .int f_side, .ref a17, .ref a18, .ref a19, .int f_rows, .ref a20, .ref a21])), (a1, gk_J G 6 f_members)] [] C ⟨hP, hD, hS⟩ (c_X6_ones l G x4 hq) gX6_sizeOf_X6_ones dX6_sizeOf_31 hl.1 [] [0, 1] [0, 1] rfl ⟨rfl, rfl⟩ ⟨Nat.le_of_ble_eq_true rfl, Nat.le_of_ble_eq_true rfl⟩ ⟨by decide +kernel, by decide +kernel, by decide +kernel⟩ rfl (fun h => by cases h) (Nat.le_of_ble_eq_true rfl) rfl rfl rfl rfl (by decide) rfl rfl (fun H locs h => ?_)
      obtain ⟨hP, hD, hS⟩ := h
      refine lv_istore (lv' := [(5, .int r10), (0, .ref a0), (1, .int x1), (2, .int x2), (3, .int x3), (4, .int x4)]) hx hb dX6_sizeOf_34 hl (by decide) rfl (fun ls hl => ?_)
      refine lv_iload_n hx hb dX6_sizeOf_36 rfl (lv_at hl 4 rfl) ?_
      refine lv_iconst (v := -1) hx hb dX6_sizeOf_37 (by decide) ?_
      refine lv_icmp_eq (tgt := 60) hx hb dX6_sizeOf_38 (by decide) (fun c11 => ?_) (fun c11 => ?_)
      · have hm := gk_it c11 hm
        refine lv_iload hx hb dX6_sizeOf_60 (lv_at hl 0 rfl) ?_
        refine lv_goto (tgt := 66) hx hb dX6_sizeOf_62 (by decide) ?_
        refine lv_istore_n (lv' := [(3, .int r10), (5, .int r10), (0, .ref a0), (1, .int x1), (2, .int x2), (4, .int x4)]) hx hb dX6_sizeOf_66 rfl hl (by decide) rfl (fun ls hl => ?_)
        refine lv_iinc (v := x4 + 1) (lv' := [(4, .int (x4 + 1)), (3, .int r10), (5, .int r10), (0, .ref a0), (1, .int x1), (2, .int x2)]) hx hb dX6_sizeOf_67 hl (k := 5) rfl rfl (by decide) rfl (fun ls hl => ?_)
        refine lv_goto (tgt := 5) hx hb dX6_sizeOf_70 (by decide) ?_
        exact kl _ _ (Option.some.inj hm).symm _ _ _ ⟨hP, hD, hS⟩ (lv_sub hl [3, 4, 5, 1, 0] rfl)
      · have hm := gk_if c11 hm
        refine lv_iload_n hx hb dX6_sizeOf_41 rfl (lv_at hl 3 rfl) ?_
        refine lv_if_eq (tgt := 54) hx hb dX6_sizeOf_42 (by decide) (fun c12 => ?_) (fun c12 => ?_)
        · have hm := gk_it c12 hm
          refine lv_iload hx hb dX6_sizeOf_54 (lv_at hl 0 rfl) ?_
          refine lv_iload_n hx hb dX6_sizeOf_56 rfl (lv_at hl 4 rfl) ?_
          refine lv_icmp_le (tgt := 65) hx hb dX6_sizeOf_57 (by decide) (fun c13 => ?_) (fun c13 => ?_)
          · have hm := gk_it c13 hm
            refine lv_iload_n hx hb dX6_sizeOf_65 rfl (lv_at hl 4 rfl) ?_
            refine lv_istore_n (lv' := [(3, .int x3), (5, .int r10), (0, .ref a0), (1, .int x1), (2, .int x2), (4, .int x4)]) hx hb dX6_sizeOf_66 rfl hl (by decide) rfl (fun ls hl => ?_)
            refine lv_iinc (v := x4 + 1) (lv' := [(4, .int (x4 + 1)), (3, .int x3), (5, .int r10), (0, .ref a0), (1, .int x1), (2, .int x2)]) hx hb dX6_sizeOf_67 hl (k := 5) rfl rfl (by decide) rfl (fun ls hl => ?_)
            refine lv_goto (tgt := 5) hx hb dX6_sizeOf_70 (by decide) ?_
            exact kl _ _ (Option.some.inj hm).symm _ _ _ ⟨hP, hD, hS⟩ (lv_sub hl [3, 4, 5, 1, 0] rfl)
          · have hm := gk_if c13 hm
            refine lv_iload hx hb dX6_sizeOf_60 (lv_at hl 0 rfl) ?_
            refine lv_goto (tgt := 66) hx hb dX6_sizeOf_62 (by decide) ?_
            refine lv_istore_n (lv' := [(3, .int r10), (5, .int r10), (0, .ref a0), (1, .int x1), (2, .int x2), (4, .int x4)]) hx hb dX6_sizeOf_66 rfl hl (by decide) rfl (fun ls hl => ?_)
            refine lv_iinc (v := x4 + 1) (lv' := [(4, .int (x4 + 1)), (3, .int r10), (5, .int r10), (0, .ref a0), (1, .int x1), (2, .int x2)]) hx hb dX6_sizeOf_67 hl (k := 5) rfl rfl (by decide) rfl (fun ls hl => ?_)
            refine lv_goto (tgt := 5) hx hb dX6_sizeOf_70 (by decide) ?_
            exact kl _ _ (Option.some.inj hm).symm _ _ _ ⟨hP, hD, hS⟩ (lv_sub hl [3, 4, 5, 1, 0] rfl)
        · have hm := gk_if c12 hm
          refine lv_iload hx hb dX6_sizeOf_45 (lv_at hl 0 rfl) ?_
          refine lv_iload_n hx hb dX6_sizeOf_47 rfl (lv_at hl 4 rfl) ?_
          refine lv_icmp_ge (tgt := 65) hx hb dX6_sizeOf_48 (by decide) (fun c14 => ?_) (fun c14 => ?_)
          · have hm := gk_it c14 hm
            refine lv_iload_n hx hb dX6_sizeOf_65 rfl (lv_at hl 4 rfl) ?_
            refine lv_istore_n (lv' := [(3, .int x3), (5, .int r10), (0, .ref a0), (1, .int x1), (2, .int x2), (4, .int x4)]) hx hb dX6_sizeOf_66 rfl hl (by decide) rfl (fun ls hl => ?_)
            refine lv_iinc (v := x4 + 1) (lv' := [(4, .int (x4 + 1)), (3, .int x3), (5, .int r10), (0, .ref a0), (1, .int x1), (2, .int x2)]) hx hb dX6_sizeOf_67 hl (k := 5) rfl rfl (by decide) rfl (fun ls hl => ?_)
            refine lv_goto (tgt := 5) hx hb dX6_sizeOf_70 (by decide) ?_
            exact kl _ _ (Option.some.inj hm).symm _ _ _ ⟨hP, hD, hS⟩ (lv_sub hl [3, 4, 5, 1, 0] rfl)
          · have hm := gk_if c14 hm
            refine lv_goto (tgt := 60) hx hb dX6_sizeOf_51 (by decide) ?_
            refine lv_iload hx hb dX6_sizeOf_60 (lv_at hl 0 rfl) ?_
            refine lv_goto (tgt := 66) hx hb dX6_sizeOf_62 (by decide) ?_
            refine lv_istore_n (lv' := [(3, .int r10), (5, .int r10), (0, .ref a0), (1, .int x1), (2, .int x2), (4, .int x4)]) hx hb dX6_sizeOf_66 rfl hl (by decide) rfl (fun ls hl => ?_)
            refine lv_iinc (v := x4 + 1) (lv' := [(4, .int (x4 + 1)), (3, .int r10), (5, .int r10), (0, .ref a0), (1, .int x1), (2, .int x2)]) hx hb dX6_sizeOf_67 hl (k := 5) rfl rfl (by decide) rfl (fun ls hl => ?_)
            refine lv_goto (tgt := 5) hx hb dX6_sizeOf_70 (by decide) ?_
            exact kl _ _ (Option.some.inj hm).symm _ _ _ ⟨hP, hD, hS⟩ (lv_sub hl [3, 4, 5, 1, 0] rfl)
    · have hm := gk_it c9 hm
      refine lv_goto (tgt := 67) hx hb dX6_sizeOf_26 (by decide) ?_
      refine lv_iinc (v := x4 + 1) (lv' := [(4, .int (x4 + 1)), (0, .ref a0), (1, .int x1), (2, .int x2), (3, .int x3)]) hx hb dX6_sizeOf_67 hl (k := 4) rfl rfl (by decide) rfl (fun ls hl => ?_)
      refine lv_goto (tgt := 5) hx hb dX6_sizeOf_70 (by decide) ?_
      exact kl _ _ (Option.some.inj hm).symm _ _ _ ⟨hP, hD, hS⟩ (lv_sub hl [1, 2, 3, 4, 0] rfl)
set_option maxRecDepth 100000 in
set_option maxHeartbeats 4000000 in
theorem w_X6_sizeOf_L5 {p : Program} {l : Launch} {e : Env} {s : State} {m : MethodId} {args : Array Value} {below : List Frame} {meth : Method} {c : Code} {G : gk_G} {A : Nat → Prop} {Q : State → Prop} {a0 a1 a2 a3 a4 a5 a6 a7 a8 a9 a10 a11 a12 a13 a14 a15 a16 a17 a18 a19 a20 a21 : Nat} (C : gk_C p s m args meth c cX6_sizeOf 6 (some .int) yX6_sizeOf wsX6_sizeOf false G A) {f_n : Int32} {f_members : (Nat → Int64)} {x1 : Int32} {x2 : Int32} {x3 : Int32} {x4 : Int32} {f_keptN : Int32} {f_side : Int32} {f_rows : Int32} {k : Nat} {e_x3 : Int32} (hm : gk_lp (fun z => m_X6_sizeOf_B5 f_n f_members x1 x2 z.1 z.2) k (x3, x4) = some e_x3) (kx : ∀ (H : Heap) (locs : List Loc) (ls : Array Slot), gk_H G A s [(a0, .inr (5, [.int f_n, .ref a1, .ref a2, .ref a3, .ref a4, .int f_keptN, .ref a5, .ref a6, .ref a7, .ref a8, .ref a9, .ref a10, .ref a11, .ref a12, .ref a13, .ref a14, .ref a15, .ref a16, .int f_side, .ref a17, .ref a18, .ref a19, .int f_rows, .ref a20, .ref a21])), (a1, gk_J G 6 f_members)] H locs → lv_has ls 6 [(3, .int e_x3)] → W p l e rm_X6_sizeOf s m args below meth c H locs 0 0 Q (F0 m 73 ls [])) {H : Heap} {locs : List Loc} {ls : Array Slot} (h : gk_H G A s [(a0, .inr (5, [.int f_n, .ref a1, .ref a2, .ref a3, .ref a4, .int f_keptN, .ref a5, .ref a6, .ref a7, .ref a8, .ref a9, .ref a10, .ref a11, .ref a12, .ref a13, .ref a14, .ref a15, .ref a16, .int f_side, .ref a17, .ref a18, .ref a19, .int f_rows, .ref a20, .ref a21])), (a1, gk_J G 6 f_members)] H locs) (hl : lv_has ls 6 [(0, .ref a0), (1, .int x1), (2, .int x2), (3, .int x3), (4, .int x4)]) : W p l e rm_X6_sizeOf s m args below meth c H locs 0 0 Q (F0 m 5 ls []) :=
  gk_lp_some (P := fun z => ∀ (H : Heap) (locs : List Loc) (ls : Array Slot), gk_H G A s [(a0, .inr (5, [.int f_n, .ref a1, .ref a2, .ref a3, .ref a4, .int f_keptN, .ref a5, .ref a6, .ref a7, .ref a8, .ref a9, .ref a10, .ref a11, .ref a12, .ref a13, .ref a14, .ref a15, .ref a16, .int f_side, .ref a17, .ref a18, .ref a19, .int f_rows, .ref a20, .ref a21])), (a1, gk_J G 6 f_members)] H locs → lv_has ls 6 [(0, .ref a0), (1, .int x1), (2, .int x2), (3, .int z.1), (4, .int z.2)] → W p l e rm_X6_sizeOf s m args below meth c H locs 0 0 Q (F0 m 5 ls [])) (E := fun r => (∀ (x3 : Int32), r = x3 → ∀ (H : Heap) (locs : List Loc) (ls : Array Slot), gk_H G A s [(a0, .inr (5, [.int f_n, .ref a1, .ref a2, .ref a3, .ref a4, .int f_keptN, .ref a5, .ref a6, .ref a7, .ref a8, .ref a9, .ref a10, .ref a11, .ref a12, .ref a13, .ref a14, .ref a15, .ref a16, .int f_side, .ref a17, .ref a18, .ref a19, .int f_rows, .ref a20, .ref a21])), (a1, gk_J G 6 f_members)] H locs → lv_has ls 6 [(3, .int x3)] → W p l e rm_X6_sizeOf s m args below meth c H locs 0 0 Q (F0 m 73 ls []))) (fun z x hf kl ke H locs ls h hl => w_X6_sizeOf_B5 C hf (fun v0 v1 ez => kl (v0, v1) ez) (fun v0 ez => ke _ ez v0 rfl) h hl) k (x3, x4) _ hm (fun v0 ez => (by cases ez; exact kx)) _ _ _ h hl
def m_X6_sizeOf_0 (f_n : Int32) (f_members : (Nat → Int64)) (x1 : Int32) (x2 : Int32) : Option (Int32) := gk_bd1 (gk_lp (fun z => m_X6_sizeOf_B5 f_n f_members x1 x2 z.1 z.2) gk_fu ((-1 : Int32), (0 : Int32))) (fun e15 => some e15)
set_option maxRecDepth 100000 in
set_option maxHeartbeats 4000000 in
theorem w_X6_sizeOf_0 {p : Program} {l : Launch} {e : Env} {s : State} {m : MethodId} {args : Array Value} {below : List Frame} {meth : Method} {c : Code} {G : gk_G} {A : Nat → Prop} {Q : State → Prop} {a0 a1 a2 a3 a4 a5 a6 a7 a8 a9 a10 a11 a12 a13 a14 a15 a16 a17 a18 a19 a20 a21 : Nat} (C : gk_C p s m args meth c cX6_sizeOf 6 (some .int) yX6_sizeOf wsX6_sizeOf false G A) {f_n : Int32} {f_members : (Nat → Int64)} {x1 : Int32} {x2 : Int32} {f_keptN : Int32} {f_side : Int32} {f_rows : Int32} {yy : Int32} (hm : m_X6_sizeOf_0 f_n f_members x1 x2 = some yy) (kr : ∀ (rv : Int32), yy = rv → Q = MQ below (gk_Q G (some (.int rv)) [(a0, .inr (5, [.int f_n, .ref a1, .ref a2, .ref a3, .ref a4, .int f_keptN, .ref a5, .ref a6, .ref a7, .ref a8, .ref a9, .ref a10, .ref a11, .ref a12, .ref a13, .ref a14, .ref a15, .ref a16, .int f_side, .ref a17, .ref a18, .ref a19, .int f_rows, .ref a20, .ref a21])), (a1, gk_J G 6 f_members)] A) args s 0 0 A) {H : Heap} {locs : List Loc} {ls : Array Slot} (h : gk_H G A s [(a0, .inr (5, [.int f_n, .ref a1, .ref a2, .ref a3, .ref a4, .int f_keptN, .ref a5, .ref a6, .ref a7, .ref a8, .ref a9, .ref a10, .ref a11, .ref a12, .ref a13, .ref a14, .ref a15, .ref a16, .int f_side, .ref a17, .ref a18, .ref a19, .int f_rows, .ref a20, .ref a21])), (a1, gk_J G 6 f_members)] H locs) (hl : lv_has ls 6 [(0, .ref a0), (1, .int x1), (2, .int x2)]) : W p l e rm_X6_sizeOf s m args below meth c H locs 0 0 Q (F0 m 0 ls []) := by
  obtain ⟨hx, hb, hml, hr, hown, hnm, hts, hlk, hK, hSt, hA⟩ := id C
  obtain ⟨hP, hD, hS⟩ := h
  unfold m_X6_sizeOf_0 at hm
  refine lv_iconst (v := -1) hx hb dX6_sizeOf_0 (by decide) ?_
  refine lv_istore_n (lv' := [(3, .int (-1 : Int32)), (0, .ref a0), (1, .int x1), (2, .int x2)]) hx hb dX6_sizeOf_1 rfl hl (by decide) rfl (fun ls hl => ?_)
  refine lv_iconst (v := 0) hx hb dX6_sizeOf_2 (by decide) ?_
  refine lv_istore (lv' := [(4, .int (0 : Int32)), (3, .int (-1 : Int32)), (0, .ref a0), (1, .int x1), (2, .int x2)]) hx hb dX6_sizeOf_3 hl (by decide) rfl (fun ls hl => ?_)
  obtain ⟨e15, hq, hm⟩ := gk_bd1_some hm
  refine w_X6_sizeOf_L5 C hq (fun H locs ls h hl => ?_) ⟨hP, hD, hS⟩ (lv_sub hl [2, 3, 4, 1, 0] rfl)
  obtain ⟨hP, hD, hS⟩ := h
  refine lv_iload_n hx hb dX6_sizeOf_73 rfl (lv_at hl 0 rfl) ?_
  rw [kr _ (Option.some.inj hm).symm]
  exact gk_iret C ⟨hP, hD, hS⟩ dX6_sizeOf_74
def m_X6_sizeOf (f_n : Int32) (f_members : (Nat → Int64)) (x1 : Int32) (x2 : Int32) : Option (Int32) := m_X6_sizeOf_0 f_n f_members x1 x2
theorem c_X6_sizeOf (l : Launch) (G : gk_G) (a0 a1 a2 a3 a4 a5 a6 a7 a8 a9 a10 a11 a12 a13 a14 a15 a16 a17 a18 a19 a20 a21 : Nat) (f_n : Int32) (f_keptN : Int32) (f_side : Int32) (f_rows : Int32) (f_members : (Nat → Int64)) (x1 : Int32) (x2 : Int32) {rv : Int32} (hm : m_X6_sizeOf f_n f_members x1 x2 = some rv) : gk_M l yX6_sizeOf wsX6_sizeOf rm_X6_sizeOf false G [.ref a0, .int x1, .int x2] [(a0, .inr (5, [.int f_n, .ref a1, .ref a2, .ref a3, .ref a4, .int f_keptN, .ref a5, .ref a6, .ref a7, .ref a8, .ref a9, .ref a10, .ref a11, .ref a12, .ref a13, .ref a14, .ref a15, .ref a16, .int f_side, .ref a17, .ref a18, .ref a19, .int f_rows, .ref a20, .ref a21])), (a1, gk_J G 6 f_members)] (some (.int rv)) [(a0, .inr (5, [.int f_n, .ref a1, .ref a2, .ref a3, .ref a4, .int f_keptN, .ref a5, .ref a6, .ref a7, .ref a8, .ref a9, .ref a10, .ref a11, .ref a12, .ref a13, .ref a14, .ref a15, .ref a16, .int f_side, .ref a17, .ref a18, .ref a19, .int f_rows, .ref a20, .ref a21])), (a1, gk_J G 6 f_members)] :=
  gk_of (by decide) rfl (Nat.le_of_ble_eq_true rfl) (fun p e s m below meth c A ls C h hl => w_X6_sizeOf_0 C hm (fun v0 ez => by cases ez; rfl) h (show lv_has ls 6 [(0, .ref a0), (1, .int x1), (2, .int x2)] from hl))

/-! ===== ExchangeFamiliesModel.partnerOf(IIII)I ===== -/
abbrev rm_X6_partnerOf : Room := { frames := 3, cells := 0, slots := 0, locals := 150 }
theorem k_X6_partnerOf_0 : ∀ w ∈ u_ws RX6 TX6 25, w ∈ wsX6_partnerOf := by decide +kernel
theorem k_X6_partnerOf_1 : Cond.fieldLink RX6 9 "ExchangeFamiliesModel" "n" "I" ∈ wsX6_partnerOf := by decide +kernel
def m_X6_partnerOf_B3 (f_n : Int32) (f_members : (Nat → Int64)) (x1 : Int32) (x2 : Int32) (x3 : Int32) (x4 : Int32) (x5 : Int32) : Option ((Int32) ⊕ ((Int32) ⊕ (Unit))) := (if f_n ≤ x5 then some (.inr (.inr ())) else (if (((x2 ^^^ x3) >>> (x5 &&& 31)) &&& (1 : Int32)) = (1 : Int32) then gk_bd1 (m_X6_isMember f_members x1 (x2 ^^^ (((1 : Int32) <<< (x4 &&& 31)) ||| ((1 : Int32) <<< (x5 &&& 31))))) (fun r6 => (if r6 = (0 : Int32) then some (.inl (x5 + 1)) else some (.inr (.inl x5)))) else some (.inl (x5 + 1))))
set_option maxRecDepth 100000 in
set_option maxHeartbeats 4000000 in
theorem w_X6_partnerOf_B3 {p : Program} {l : Launch} {e : Env} {s : State} {m : MethodId} {args : Array Value} {below : List Frame} {meth : Method} {c : Code} {G : gk_G} {A : Nat → Prop} {Q : State → Prop} {a0 a1 a2 a3 a4 a5 a6 a7 a8 a9 a10 a11 a12 a13 a14 a15 a16 a17 a18 a19 a20 a21 : Nat} (C : gk_C p s m args meth c cX6_partnerOf 6 (some .int) yX6_partnerOf wsX6_partnerOf false G A) {f_n : Int32} {f_members : (Nat → Int64)} {x1 : Int32} {x2 : Int32} {x3 : Int32} {x4 : Int32} {x5 : Int32} {f_keptN : Int32} {f_side : Int32} {f_rows : Int32} {yy : (Int32) ⊕ ((Int32) ⊕ (Unit))} (hm : m_X6_partnerOf_B3 f_n f_members x1 x2 x3 x4 x5 = some yy) (kl : ∀ (x5 : Int32), yy = .inl x5 → ∀ (H : Heap) (locs : List Loc) (ls : Array Slot), gk_H G A s [(a0, .inr (5, [.int f_n, .ref a1, .ref a2, .ref a3, .ref a4, .int f_keptN, .ref a5, .ref a6, .ref a7, .ref a8, .ref a9, .ref a10, .ref a11, .ref a12, .ref a13, .ref a14, .ref a15, .ref a16, .int f_side, .ref a17, .ref a18, .ref a19, .int f_rows, .ref a20, .ref a21])), (a1, gk_J G 6 f_members)] H locs → lv_has ls 6 [(0, .ref a0), (1, .int x1), (2, .int x2), (3, .int x3), (4, .int x4), (5, .int x5)] → W p l e rm_X6_partnerOf s m args below meth c H locs 0 0 Q (F0 m 3 ls [])) (kx : yy = .inr (.inr ()) → ∀ (H : Heap) (locs : List Loc) (ls : Array Slot), gk_H G A s [(a0, .inr (5, [.int f_n, .ref a1, .ref a2, .ref a3, .ref a4, .int f_keptN, .ref a5, .ref a6, .ref a7, .ref a8, .ref a9, .ref a10, .ref a11, .ref a12, .ref a13, .ref a14, .ref a15, .ref a16, .int f_side, .ref a17, .ref a18, .ref a19, .int f_rows, .ref a20, .ref a21])), (a1, gk_J G 6 f_members)] H locs → lv_has ls 6 [] → W p l e rm_X6_partnerOf s m args below meth c H locs 0 0 Q (F0 m 52 ls [])) (kr : ∀ (rv : Int32), yy = .inr (.inl rv) → Q = MQ below (gk_Q G (some (.int rv)) [(a0, .inr (5, [.int f_n, .ref a1, .ref a2, .ref a3, .ref a4, .int f_keptN, .ref a5, .ref a6, .ref a7, .ref a8, .ref a9, .ref a10, .ref a11, .ref a12, .ref a13, .ref a14, .ref a15, .ref a16, .int f_side, .ref a17, .ref a18, .ref a19, .int f_rows, .ref a20, .ref a21])), (a1, gk_J G 6 f_members)] A) args s 0 0 A) {H : Heap} {locs : List Loc} {ls : Array Slot} (h : gk_H G A s [(a0, .inr (5, [.int f_n, .ref a1, .ref a2, .ref a3, .ref a4, .int f_keptN, .ref a5, .ref a6, .ref a7, .ref a8, .ref a9, .ref a10, .ref a11, .ref a12, .ref a13, .ref a14, .ref a15, .ref a16, .int f_side, .ref a17, .ref a18, .ref a19, .int f_rows, .ref a20, .ref a21])), (a1, gk_J G 6 f_members)] H locs) (hl : lv_has ls 6 [(0, .ref a0), (1, .int x1), (2, .int x2), (3, .int x3), (4, .int x4), (5, .int x5)]) : W p l e rm_X6_partnerOf s m args below meth c H locs 0 0 Q (F0 m 3 ls []) := by
  obtain ⟨hx, hb, hml, hr, hown, hnm, hts, hlk, hK, hSt, hA⟩ := id C
  obtain ⟨hP, hD, hS⟩ := h
  unfold m_X6_partnerOf_B3 at hm
  refine lv_iload hx hb dX6_partnerOf_3 (lv_at hl 5 rfl) ?_
  refine lv_aload_n hx hb dX6_partnerOf_5 rfl (lv_at hl 0 rfl) ?_
  refine va_get (D := G.1) (cl := vwCl) (own := RX6) (ref := "ExchangeFamiliesModel") (ci := 5) (v := .int f_n) (C := RX6) (T := TX6) (N := 25) hx hb hts k_X6_partnerOf_0 hown hK hP 0 rfl rfl 0 (by decide) (hts _ k_X6_partnerOf_1) (fun _ h9 => h9) rfl dX6_partnerOf_6 ?_
  refine lv_icmp_ge (tgt := 52) hx hb dX6_partnerOf_9 (by decide) (fun c4 => ?_) (fun c4 => ?_)
  · have hm := gk_it c4 hm
    exact kx (Option.some.inj hm).symm _ _ _ ⟨hP, hD, hS⟩ (lv_sub hl [] rfl)
  · have hm := gk_if c4 hm
    refine lv_iload_n hx hb dX6_partnerOf_12 rfl (lv_at hl 2 rfl) ?_
    refine lv_iload_n hx hb dX6_partnerOf_13 rfl (lv_at hl 3 rfl) ?_
    refine lv_ixor hx hb dX6_partnerOf_14 ?_
    refine lv_iload hx hb dX6_partnerOf_15 (lv_at hl 5 rfl) ?_
    refine lv_ishr hx hb dX6_partnerOf_17 ?_
    refine lv_iconst (v := 1) hx hb dX6_partnerOf_18 (by decide) ?_
    refine lv_iand hx hb dX6_partnerOf_19 ?_
    refine lv_iconst (v := 1) hx hb dX6_partnerOf_20 (by decide) ?_
    refine lv_icmp_ne (tgt := 46) hx hb dX6_partnerOf_21 (by decide) (fun c5 => ?_) (fun c5 => ?_)
    · have hm := gk_if c5 hm
      refine lv_iinc (v := x5 + 1) (lv' := [(5, .int (x5 + 1)), (0, .ref a0), (1, .int x1), (2, .int x2), (3, .int x3), (4, .int x4)]) hx hb dX6_partnerOf_46 hl (k := 5) rfl rfl (by decide) rfl (fun ls hl => ?_)
      refine lv_goto (tgt := 3) hx hb dX6_partnerOf_49 (by decide) ?_
      exact kl _ (Option.some.inj hm).symm _ _ _ ⟨hP, hD, hS⟩ (lv_sub hl [1, 2, 3, 4, 5, 0] rfl)
    · have hm := gk_it c5 hm
      refine lv_aload_n hx hb dX6_partnerOf_24 rfl (lv_at hl 0 rfl) ?_
      refine lv_iload_n hx hb dX6_partnerOf_25 rfl (lv_at hl 1 rfl) ?_
      refine lv_iload_n hx hb dX6_partnerOf_26 rfl (lv_at hl 2 rfl) ?_
      refine lv_iconst (v := 1) hx hb dX6_partnerOf_27 (by decide) ?_
      refine lv_iload hx hb dX6_partnerOf_28 (lv_at hl 4 rfl) ?_
      refine lv_ishl hx hb dX6_partnerOf_30 ?_
      refine lv_iconst (v := 1) hx hb dX6_partnerOf_31 (by decide) ?_
      refine lv_iload hx hb dX6_partnerOf_32 (lv_at hl 5 rfl) ?_
      refine lv_ishl hx hb dX6_partnerOf_34 ?_
      refine lv_ior hx hb dX6_partnerOf_35 ?_
      refine lv_ixor hx hb dX6_partnerOf_36 ?_
      obtain ⟨r6, hq, hm⟩ := gk_bd1_some hm
      refine gk_callV (n := 2) (bytes := cX6_isMember) (maxL := 3) (ret := (some .boolean)) (Cn := RX6) (T := TX6) (N := 25) [] [(a0, .inr (5, [.int f_n, .ref a1, .ref a2, .ref a3, .ref a4, .int f_keptN, .ref a5, .ref a6, .ref a7, .ref a8, .ref a9, .ref a10, .ref a11, .ref a12, .ref a13, .ref a14, .ref a15, .ref a16, .int f_side, .ref a17, .ref a18, .ref a19, .int f_rows, .ref a20, .ref a21])), (a1, gk_J G 6 f_members)] [] C ⟨hP, hD, hS⟩ (c_X6_isMember l G a0 a1 a2 a3 a4 a5 a6 a7 a8 a9 a10 a11 a12 a13 a14 a15 a16 a17 a18 a19 a20 a21 f_n f_keptN f_side f_rows f_members x1 (x2 ^^^ (((1 : Int32) <<< (x4 &&& 31)) ||| ((1 : Int32) <<< (x5 &&& 31)))) hq) gX6_partnerOf_X6_isMember dX6_partnerOf_37 hl.1 [0, 1] [] [0, 1] rfl rfl ⟨rfl, rfl⟩ ⟨Nat.le_of_ble_eq_true rfl, Nat.le_of_ble_eq_true rfl⟩ ⟨rfl, by decide +kernel, by decide +kernel, by decide +kernel⟩ rfl (fun h => by cases h) (Nat.le_of_ble_eq_true rfl) rfl rfl rfl rfl (by decide) rfl rfl (fun H locs h => ?_)
      obtain ⟨hP, hD, hS⟩ := h
      refine lv_if_eq (tgt := 46) hx hb dX6_partnerOf_40 (by decide) (fun c7 => ?_) (fun c7 => ?_)
      · have hm := gk_it c7 hm
        refine lv_iinc (v := x5 + 1) (lv' := [(5, .int (x5 + 1)), (0, .ref a0), (1, .int x1), (2, .int x2), (3, .int x3), (4, .int x4)]) hx hb dX6_partnerOf_46 hl (k := 5) rfl rfl (by decide) rfl (fun ls hl => ?_)
        refine lv_goto (tgt := 3) hx hb dX6_partnerOf_49 (by decide) ?_
        exact kl _ (Option.some.inj hm).symm _ _ _ ⟨hP, hD, hS⟩ (lv_sub hl [1, 2, 3, 4, 5, 0] rfl)
      · have hm := gk_if c7 hm
        refine lv_iload hx hb dX6_partnerOf_43 (lv_at hl 5 rfl) ?_
        rw [kr _ (Option.some.inj hm).symm]
        exact gk_iret C ⟨hP, hD, hS⟩ dX6_partnerOf_45
set_option maxRecDepth 100000 in
set_option maxHeartbeats 4000000 in
theorem w_X6_partnerOf_L3 {p : Program} {l : Launch} {e : Env} {s : State} {m : MethodId} {args : Array Value} {below : List Frame} {meth : Method} {c : Code} {G : gk_G} {A : Nat → Prop} {Q : State → Prop} {a0 a1 a2 a3 a4 a5 a6 a7 a8 a9 a10 a11 a12 a13 a14 a15 a16 a17 a18 a19 a20 a21 : Nat} (C : gk_C p s m args meth c cX6_partnerOf 6 (some .int) yX6_partnerOf wsX6_partnerOf false G A) {f_n : Int32} {f_members : (Nat → Int64)} {x1 : Int32} {x2 : Int32} {x3 : Int32} {x4 : Int32} {x5 : Int32} {f_keptN : Int32} {f_side : Int32} {f_rows : Int32} {k : Nat} (hm : gk_lp (fun z => m_X6_partnerOf_B3 f_n f_members x1 x2 x3 x4 z) k x5 = some (.inr ())) (kx : ∀ (H : Heap) (locs : List Loc) (ls : Array Slot), gk_H G A s [(a0, .inr (5, [.int f_n, .ref a1, .ref a2, .ref a3, .ref a4, .int f_keptN, .ref a5, .ref a6, .ref a7, .ref a8, .ref a9, .ref a10, .ref a11, .ref a12, .ref a13, .ref a14, .ref a15, .ref a16, .int f_side, .ref a17, .ref a18, .ref a19, .int f_rows, .ref a20, .ref a21])), (a1, gk_J G 6 f_members)] H locs → lv_has ls 6 [] → W p l e rm_X6_partnerOf s m args below meth c H locs 0 0 Q (F0 m 52 ls [])) {H : Heap} {locs : List Loc} {ls : Array Slot} (h : gk_H G A s [(a0, .inr (5, [.int f_n, .ref a1, .ref a2, .ref a3, .ref a4, .int f_keptN, .ref a5, .ref a6, .ref a7, .ref a8, .ref a9, .ref a10, .ref a11, .ref a12, .ref a13, .ref a14, .ref a15, .ref a16, .int f_side, .ref a17, .ref a18, .ref a19, .int f_rows, .ref a20, .ref a21])), (a1, gk_J G 6 f_members)] H locs) (hl : lv_has ls 6 [(0, .ref a0), (1, .int x1), (2, .int x2), (3, .int x3), (4, .int x4), (5, .int x5)]) : W p l e rm_X6_partnerOf s m args below meth c H locs 0 0 Q (F0 m 3 ls []) :=
  gk_lp_some (P := fun z => ∀ (H : Heap) (locs : List Loc) (ls : Array Slot), gk_H G A s [(a0, .inr (5, [.int f_n, .ref a1, .ref a2, .ref a3, .ref a4, .int f_keptN, .ref a5, .ref a6, .ref a7, .ref a8, .ref a9, .ref a10, .ref a11, .ref a12, .ref a13, .ref a14, .ref a15, .ref a16, .int f_side, .ref a17, .ref a18, .ref a19, .int f_rows, .ref a20, .ref a21])), (a1, gk_J G 6 f_members)] H locs → lv_has ls 6 [(0, .ref a0), (1, .int x1), (2, .int x2), (3, .int x3), (4, .int x4), (5, .int z)] → W p l e rm_X6_partnerOf s m args below meth c H locs 0 0 Q (F0 m 3 ls [])) (E := fun r => (r = .inr () → ∀ (H : Heap) (locs : List Loc) (ls : Array Slot), gk_H G A s [(a0, .inr (5, [.int f_n, .ref a1, .ref a2, .ref a3, .ref a4, .int f_keptN, .ref a5, .ref a6, .ref a7, .ref a8, .ref a9, .ref a10, .ref a11, .ref a12, .ref a13, .ref a14, .ref a15, .ref a16, .int f_side, .ref a17, .ref a18, .ref a19, .int f_rows, .ref a20, .ref a21])), (a1, gk_J G 6 f_members)] H locs → lv_has ls 6 [] → W p l e rm_X6_partnerOf s m args below meth c H locs 0 0 Q (F0 m 52 ls [])) ∧ (∀ (rv : Int32), r = .inl rv → Q = MQ below (gk_Q G (some (.int rv)) [(a0, .inr (5, [.int f_n, .ref a1, .ref a2, .ref a3, .ref a4, .int f_keptN, .ref a5, .ref a6, .ref a7, .ref a8, .ref a9, .ref a10, .ref a11, .ref a12, .ref a13, .ref a14, .ref a15, .ref a16, .int f_side, .ref a17, .ref a18, .ref a19, .int f_rows, .ref a20, .ref a21])), (a1, gk_J G 6 f_members)] A) args s 0 0 A)) (fun z x hf kl ke H locs ls h hl => w_X6_partnerOf_B3 C hf (fun v0 ez => kl v0 ez) (fun ez => (ke _ ez).1 rfl) (fun v0 ez => (ke _ ez).2 v0 rfl) h hl) k x5 _ hm (⟨fun ez => (by cases ez; exact kx), fun v0 ez => (by cases ez)⟩) _ _ _ h hl
set_option maxRecDepth 100000 in
set_option maxHeartbeats 4000000 in
theorem w_X6_partnerOf_L3r {p : Program} {l : Launch} {e : Env} {s : State} {m : MethodId} {args : Array Value} {below : List Frame} {meth : Method} {c : Code} {G : gk_G} {A : Nat → Prop} {Q : State → Prop} {a0 a1 a2 a3 a4 a5 a6 a7 a8 a9 a10 a11 a12 a13 a14 a15 a16 a17 a18 a19 a20 a21 : Nat} (C : gk_C p s m args meth c cX6_partnerOf 6 (some .int) yX6_partnerOf wsX6_partnerOf false G A) {f_n : Int32} {f_members : (Nat → Int64)} {x1 : Int32} {x2 : Int32} {x3 : Int32} {x4 : Int32} {x5 : Int32} {f_keptN : Int32} {f_side : Int32} {f_rows : Int32} {k : Nat} {rv : Int32} (hm : gk_lp (fun z => m_X6_partnerOf_B3 f_n f_members x1 x2 x3 x4 z) k x5 = some (.inl rv)) (kr : Q = MQ below (gk_Q G (some (.int rv)) [(a0, .inr (5, [.int f_n, .ref a1, .ref a2, .ref a3, .ref a4, .int f_keptN, .ref a5, .ref a6, .ref a7, .ref a8, .ref a9, .ref a10, .ref a11, .ref a12, .ref a13, .ref a14, .ref a15, .ref a16, .int f_side, .ref a17, .ref a18, .ref a19, .int f_rows, .ref a20, .ref a21])), (a1, gk_J G 6 f_members)] A) args s 0 0 A) {H : Heap} {locs : List Loc} {ls : Array Slot} (h : gk_H G A s [(a0, .inr (5, [.int f_n, .ref a1, .ref a2, .ref a3, .ref a4, .int f_keptN, .ref a5, .ref a6, .ref a7, .ref a8, .ref a9, .ref a10, .ref a11, .ref a12, .ref a13, .ref a14, .ref a15, .ref a16, .int f_side, .ref a17, .ref a18, .ref a19, .int f_rows, .ref a20, .ref a21])), (a1, gk_J G 6 f_members)] H locs) (hl : lv_has ls 6 [(0, .ref a0), (1, .int x1), (2, .int x2), (3, .int x3), (4, .int x4), (5, .int x5)]) : W p l e rm_X6_partnerOf s m args below meth c H locs 0 0 Q (F0 m 3 ls []) :=
  gk_lp_some (P := fun z => ∀ (H : Heap) (locs : List Loc) (ls : Array Slot), gk_H G A s [(a0, .inr (5, [.int f_n, .ref a1, .ref a2, .ref a3, .ref a4, .int f_keptN, .ref a5, .ref a6, .ref a7, .ref a8, .ref a9, .ref a10, .ref a11, .ref a12, .ref a13, .ref a14, .ref a15, .ref a16, .int f_side, .ref a17, .ref a18, .ref a19, .int f_rows, .ref a20, .ref a21])), (a1, gk_J G 6 f_members)] H locs → lv_has ls 6 [(0, .ref a0), (1, .int x1), (2, .int x2), (3, .int x3), (4, .int x4), (5, .int z)] → W p l e rm_X6_partnerOf s m args below meth c H locs 0 0 Q (F0 m 3 ls [])) (E := fun r => (r = .inr () → ∀ (H : Heap) (locs : List Loc) (ls : Array Slot), gk_H G A s [(a0, .inr (5, [.int f_n, .ref a1, .ref a2, .ref a3, .ref a4, .int f_keptN, .ref a5, .ref a6, .ref a7, .ref a8, .ref a9, .ref a10, .ref a11, .ref a12, .ref a13, .ref a14, .ref a15, .ref a16, .int f_side, .ref a17, .ref a18, .ref a19, .int f_rows, .ref a20, .ref a21])), (a1, gk_J G 6 f_members)] H locs → lv_has ls 6 [] → W p l e rm_X6_partnerOf s m args below meth c H locs 0 0 Q (F0 m 52 ls [])) ∧ (∀ (rv : Int32), r = .inl rv → Q = MQ below (gk_Q G (some (.int rv)) [(a0, .inr (5, [.int f_n, .ref a1, .ref a2, .ref a3, .ref a4, .int f_keptN, .ref a5, .ref a6, .ref a7, .ref a8, .ref a9, .ref a10, .ref a11, .ref a12, .ref a13, .ref a14, .ref a15, .ref a16, .int f_side, .ref a17, .ref a18, .ref a19, .int f_rows, .ref a20, .ref a21])), (a1, gk_J G 6 f_members)] A) args s 0 0 A)) (fun z x hf kl ke H locs ls h hl => w_X6_partnerOf_B3 C hf (fun v0 ez => kl v0 ez) (fun ez => (ke _ ez).1 rfl) (fun v0 ez => (ke _ ez).2 v0 rfl) h hl) k x5 _ hm (⟨fun ez => (by cases ez), fun v0 ez => (by cases ez; exact kr)⟩) _ _ _ h hl
def m_X6_partnerOf_0 (f_n : Int32) (f_members : (Nat → Int64)) (x1 : Int32) (x2 : Int32) (x3 : Int32) (x4 : Int32) : Option (Int32) := gk_bs0 (gk_lp (fun z => m_X6_partnerOf_B3 f_n f_members x1 x2 x3 x4 z) gk_fu (0 : Int32)) (fun r => some r) (some (-1 : Int32))
set_option maxRecDepth 100000 in
set_option maxHeartbeats 4000000 in
theorem w_X6_partnerOf_0 {p : Program} {l : Launch} {e : Env} {s : State} {m : MethodId} {args : Array Value} {below : List Frame} {meth : Method} {c : Code} {G : gk_G} {A : Nat → Prop} {Q : State → Prop} {a0 a1 a2 a3 a4 a5 a6 a7 a8 a9 a10 a11 a12 a13 a14 a15 a16 a17 a18 a19 a20 a21 : Nat} (C : gk_C p s m args meth c cX6_partnerOf 6 (some .int) yX6_partnerOf wsX6_partnerOf false G A) {f_n : Int32} {f_members : (Nat → Int64)} {x1 : Int32} {x2 : Int32} {x3 : Int32} {x4 : Int32} {f_keptN : Int32} {f_side : Int32} {f_rows : Int32} {yy : Int32} (hm : m_X6_partnerOf_0 f_n f_members x1 x2 x3 x4 = some yy) (kr : ∀ (rv : Int32), yy = rv → Q = MQ below (gk_Q G (some (.int rv)) [(a0, .inr (5, [.int f_n, .ref a1, .ref a2, .ref a3, .ref a4, .int f_keptN, .ref a5, .ref a6, .ref a7, .ref a8, .ref a9, .ref a10, .ref a11, .ref a12, .ref a13, .ref a14, .ref a15, .ref a16, .int f_side, .ref a17, .ref a18, .ref a19, .int f_rows, .ref a20, .ref a21])), (a1, gk_J G 6 f_members)] A) args s 0 0 A) {H : Heap} {locs : List Loc} {ls : Array Slot} (h : gk_H G A s [(a0, .inr (5, [.int f_n, .ref a1, .ref a2, .ref a3, .ref a4, .int f_keptN, .ref a5, .ref a6, .ref a7, .ref a8, .ref a9, .ref a10, .ref a11, .ref a12, .ref a13, .ref a14, .ref a15, .ref a16, .int f_side, .ref a17, .ref a18, .ref a19, .int f_rows, .ref a20, .ref a21])), (a1, gk_J G 6 f_members)] H locs) (hl : lv_has ls 6 [(0, .ref a0), (1, .int x1), (2, .int x2), (3, .int x3), (4, .int x4)]) : W p l e rm_X6_partnerOf s m args below meth c H locs 0 0 Q (F0 m 0 ls []) := by
  obtain ⟨hx, hb, hml, hr, hown, hnm, hts, hlk, hK, hSt, hA⟩ := id C
  obtain ⟨hP, hD, hS⟩ := h
  unfold m_X6_partnerOf_0 at hm
  refine lv_iconst (v := 0) hx hb dX6_partnerOf_0 (by decide) ?_
  refine lv_istore (lv' := [(5, .int (0 : Int32)), (0, .ref a0), (1, .int x1), (2, .int x2), (3, .int x3), (4, .int x4)]) hx hb dX6_partnerOf_1 hl (by decide) rfl (fun ls hl => ?_)
  rcases gk_bs0_some hm with ⟨r8, hq, hm⟩ | ⟨hq, hm⟩
  · exact w_X6_partnerOf_L3r C hq (kr _ (Option.some.inj hm).symm) ⟨hP, hD, hS⟩ (lv_sub hl [1, 2, 3, 4, 5, 0] rfl)
  refine w_X6_partnerOf_L3 C hq (fun H locs ls h hl => ?_) ⟨hP, hD, hS⟩ (lv_sub hl [1, 2, 3, 4, 5, 0] rfl)
  obtain ⟨hP, hD, hS⟩ := h
  refine lv_iconst (v := -1) hx hb dX6_partnerOf_52 (by decide) ?_
  rw [kr _ (Option.some.inj hm).symm]
  exact gk_iret C ⟨hP, hD, hS⟩ dX6_partnerOf_53
def m_X6_partnerOf (f_n : Int32) (f_members : (Nat → Int64)) (x1 : Int32) (x2 : Int32) (x3 : Int32) (x4 : Int32) : Option (Int32) := m_X6_partnerOf_0 f_n f_members x1 x2 x3 x4
theorem c_X6_partnerOf (l : Launch) (G : gk_G) (a0 a1 a2 a3 a4 a5 a6 a7 a8 a9 a10 a11 a12 a13 a14 a15 a16 a17 a18 a19 a20 a21 : Nat) (f_n : Int32) (f_keptN : Int32) (f_side : Int32) (f_rows : Int32) (f_members : (Nat → Int64)) (x1 : Int32) (x2 : Int32) (x3 : Int32) (x4 : Int32) {rv : Int32} (hm : m_X6_partnerOf f_n f_members x1 x2 x3 x4 = some rv) : gk_M l yX6_partnerOf wsX6_partnerOf rm_X6_partnerOf false G [.ref a0, .int x1, .int x2, .int x3, .int x4] [(a0, .inr (5, [.int f_n, .ref a1, .ref a2, .ref a3, .ref a4, .int f_keptN, .ref a5, .ref a6, .ref a7, .ref a8, .ref a9, .ref a10, .ref a11, .ref a12, .ref a13, .ref a14, .ref a15, .ref a16, .int f_side, .ref a17, .ref a18, .ref a19, .int f_rows, .ref a20, .ref a21])), (a1, gk_J G 6 f_members)] (some (.int rv)) [(a0, .inr (5, [.int f_n, .ref a1, .ref a2, .ref a3, .ref a4, .int f_keptN, .ref a5, .ref a6, .ref a7, .ref a8, .ref a9, .ref a10, .ref a11, .ref a12, .ref a13, .ref a14, .ref a15, .ref a16, .int f_side, .ref a17, .ref a18, .ref a19, .int f_rows, .ref a20, .ref a21])), (a1, gk_J G 6 f_members)] :=
  gk_of (by decide) rfl (Nat.le_of_ble_eq_true rfl) (fun p e s m below meth c A ls C h hl => w_X6_partnerOf_0 C hm (fun v0 ez => by cases ez; rfl) h (show lv_has ls 6 [(0, .ref a0), (1, .int x1), (2, .int x2), (3, .int x3), (4, .int x4)] from hl))

/-! ===== ExchangeFamiliesModel.failing(II)I ===== -/
abbrev rm_X6_failing : Room := { frames := 5, cells := 0, slots := 0, locals := 239 }
theorem k_X6_failing_0 : ∀ w ∈ u_ws RX6 TX6 25, w ∈ wsX6_failing := by decide +kernel
theorem k_X6_failing_1 : Cond.fieldLink RX6 9 "ExchangeFamiliesModel" "n" "I" ∈ wsX6_failing := by decide +kernel
def m_X6_failing_B38 (f_n : Int32) (f_members : (Nat → Int64)) (x1 : Int32) (x2 : Int32) (x3 : Int32) (x4 : Int32) (x5 : Int32) : Option ((Int32) ⊕ ((Int32) ⊕ (Unit))) := (if f_n ≤ x5 then some (.inr (.inr ())) else gk_bd1 (m_X6_isMember f_members x1 x4) (fun r15 => (if r15 = (0 : Int32) then some (.inr (.inr ())) else (if (((x3 ^^^ x4) >>> (x5 &&& 31)) &&& (1 : Int32)) = (1 : Int32) then gk_bd1 (m_X6_partnerOf f_n f_members x1 x3 x4 x5) (fun r18 => (if r18 = (-1 : Int32) then (if x2 = (0 : Int32) then some (.inr (.inl x3)) else (if x2 = (1 : Int32) then some (.inr (.inl x4)) else some (.inr (.inl x5)))) else some (.inl (x5 + 1)))) else some (.inl (x5 + 1))))))
set_option maxRecDepth 100000 in
set_option maxHeartbeats 4000000 in
theorem w_X6_failing_B38 {p : Program} {l : Launch} {e : Env} {s : State} {m : MethodId} {args : Array Value} {below : List Frame} {meth : Method} {c : Code} {G : gk_G} {A : Nat → Prop} {Q : State → Prop} {a0 a1 a2 a3 a4 a5 a6 a7 a8 a9 a10 a11 a12 a13 a14 a15 a16 a17 a18 a19 a20 a21 : Nat} (C : gk_C p s m args meth c cX6_failing 6 (some .int) yX6_failing wsX6_failing false G A) {f_n : Int32} {f_members : (Nat → Int64)} {x1 : Int32} {x2 : Int32} {x3 : Int32} {x4 : Int32} {x5 : Int32} {f_keptN : Int32} {f_side : Int32} {f_rows : Int32} {yy : (Int32) ⊕ ((Int32) ⊕ (Unit))} (hm : m_X6_failing_B38 f_n f_members x1 x2 x3 x4 x5 = some yy) (kl : ∀ (x5 : Int32), yy = .inl x5 → ∀ (H : Heap) (locs : List Loc) (ls : Array Slot), gk_H G A s [(a0, .inr (5, [.int f_n, .ref a1, .ref a2, .ref a3, .ref a4, .int f_keptN, .ref a5, .ref a6, .ref a7, .ref a8, .ref a9, .ref a10, .ref a11, .ref a12, .ref a13, .ref a14, .ref a15, .ref a16, .int f_side, .ref a17, .ref a18, .ref a19, .int f_rows, .ref a20, .ref a21])), (a1, gk_J G 6 f_members)] H locs → lv_has ls 6 [(0, .ref a0), (1, .int x1), (2, .int x2), (3, .int x3), (4, .int x4), (5, .int x5)] → W p l e rm_X6_failing s m args below meth c H locs 0 0 Q (F0 m 38 ls [])) (kx : yy = .inr (.inr ()) → ∀ (H : Heap) (locs : List Loc) (ls : Array Slot), gk_H G A s [(a0, .inr (5, [.int f_n, .ref a1, .ref a2, .ref a3, .ref a4, .int f_keptN, .ref a5, .ref a6, .ref a7, .ref a8, .ref a9, .ref a10, .ref a11, .ref a12, .ref a13, .ref a14, .ref a15, .ref a16, .int f_side, .ref a17, .ref a18, .ref a19, .int f_rows, .ref a20, .ref a21])), (a1, gk_J G 6 f_members)] H locs → lv_has ls 6 [(0, .ref a0), (1, .int x1), (2, .int x2), (3, .int x3), (4, .int x4)] → W p l e rm_X6_failing s m args below meth c H locs 0 0 Q (F0 m 111 ls [])) (kr : ∀ (rv : Int32), yy = .inr (.inl rv) → Q = MQ below (gk_Q G (some (.int rv)) [(a0, .inr (5, [.int f_n, .ref a1, .ref a2, .ref a3, .ref a4, .int f_keptN, .ref a5, .ref a6, .ref a7, .ref a8, .ref a9, .ref a10, .ref a11, .ref a12, .ref a13, .ref a14, .ref a15, .ref a16, .int f_side, .ref a17, .ref a18, .ref a19, .int f_rows, .ref a20, .ref a21])), (a1, gk_J G 6 f_members)] A) args s 0 0 A) {H : Heap} {locs : List Loc} {ls : Array Slot} (h : gk_H G A s [(a0, .inr (5, [.int f_n, .ref a1, .ref a2, .ref a3, .ref a4, .int f_keptN, .ref a5, .ref a6, .ref a7, .ref a8, .ref a9, .ref a10, .ref a11, .ref a12, .ref a13, .ref a14, .ref a15, .ref a16, .int f_side, .ref a17, .ref a18, .ref a19, .int f_rows, .ref a20, .ref a21])), (a1, gk_J G 6 f_members)] H locs) (hl : lv_has ls 6 [(0, .ref a0), (1, .int x1), (2, .int x2), (3, .int x3), (4, .int x4), (5, .int x5)]) : W p l e rm_X6_failing s m args below meth c H locs 0 0 Q (F0 m 38 ls []) := by
  obtain ⟨hx, hb, hml, hr, hown, hnm, hts, hlk, hK, hSt, hA⟩ := id C
  obtain ⟨hP, hD, hS⟩ := h
  unfold m_X6_failing_B38 at hm
  refine lv_iload hx hb dX6_failing_38 (lv_at hl 5 rfl) ?_
  refine lv_aload_n hx hb dX6_failing_40 rfl (lv_at hl 0 rfl) ?_
  refine va_get (D := G.1) (cl := vwCl) (own := RX6) (ref := "ExchangeFamiliesModel") (ci := 5) (v := .int f_n) (C := RX6) (T := TX6) (N := 25) hx hb hts k_X6_failing_0 hown hK hP 0 rfl rfl 0 (by decide) (hts _ k_X6_failing_1) (fun _ h9 => h9) rfl dX6_failing_41 ?_
  refine lv_icmp_ge (tgt := 111) hx hb dX6_failing_44 (by decide) (fun c14 => ?_) (fun c14 => ?_)
  · have hm := gk_it c14 hm
    exact kx (Option.some.inj hm).symm _ _ _ ⟨hP, hD, hS⟩ (lv_sub hl [0, 1, 2, 3, 4] rfl)
  · have hm := gk_if c14 hm
    refine lv_aload_n hx hb dX6_failing_47 rfl (lv_at hl 0 rfl) ?_
    refine lv_iload_n hx hb dX6_failing_48 rfl (lv_at hl 1 rfl) ?_
    refine lv_iload hx hb dX6_failing_49 (lv_at hl 4 rfl) ?_
    obtain ⟨r15, hq, hm⟩ := gk_bd1_some hm
    refine gk_callV (n := 2) (bytes := cX6_isMember) (maxL := 3) (ret := (some .boolean)) (Cn := RX6) (T := TX6) (N := 25) [] [(a0, .inr (5, [.int f_n, .ref a1, .ref a2, .ref a3, .ref a4, .int f_keptN, .ref a5, .ref a6, .ref a7, .ref a8, .ref a9, .ref a10, .ref a11, .ref a12, .ref a13, .ref a14, .ref a15, .ref a16, .int f_side, .ref a17, .ref a18, .ref a19, .int f_rows, .ref a20, .ref a21])), (a1, gk_J G 6 f_members)] [] C ⟨hP, hD, hS⟩ (c_X6_isMember l G a0 a1 a2 a3 a4 a5 a6 a7 a8 a9 a10 a11 a12 a13 a14 a15 a16 a17 a18 a19 a20 a21 f_n f_keptN f_side f_rows f_members x1 x4 hq) gX6_failing_X6_isMember dX6_failing_51 hl.1 [0, 1] [] [0, 1] rfl rfl ⟨rfl, rfl⟩ ⟨Nat.le_of_ble_eq_true rfl, Nat.le_of_ble_eq_true rfl⟩ ⟨rfl, by decide +kernel, by decide +kernel, by decide +kernel⟩ rfl (fun h => by cases h) (Nat.le_of_ble_eq_true rfl) rfl rfl rfl rfl (by decide) rfl rfl (fun H locs h => ?_)
    obtain ⟨hP, hD, hS⟩ := h
    refine lv_if_eq (tgt := 111) hx hb dX6_failing_54 (by decide) (fun c16 => ?_) (fun c16 => ?_)
    · have hm := gk_it c16 hm
      exact kx (Option.some.inj hm).symm _ _ _ ⟨hP, hD, hS⟩ (lv_sub hl [0, 1, 2, 3, 4] rfl)
    · have hm := gk_if c16 hm
      refine lv_iload_n hx hb dX6_failing_57 rfl (lv_at hl 3 rfl) ?_
      refine lv_iload hx hb dX6_failing_58 (lv_at hl 4 rfl) ?_
      refine lv_ixor hx hb dX6_failing_60 ?_
      refine lv_iload hx hb dX6_failing_61 (lv_at hl 5 rfl) ?_
      refine lv_ishr hx hb dX6_failing_63 ?_
      refine lv_iconst (v := 1) hx hb dX6_failing_64 (by decide) ?_
      refine lv_iand hx hb dX6_failing_65 ?_
      refine lv_iconst (v := 1) hx hb dX6_failing_66 (by decide) ?_
      refine lv_icmp_ne (tgt := 105) hx hb dX6_failing_67 (by decide) (fun c17 => ?_) (fun c17 => ?_)
      · have hm := gk_if c17 hm
        refine lv_iinc (v := x5 + 1) (lv' := [(5, .int (x5 + 1)), (0, .ref a0), (1, .int x1), (2, .int x2), (3, .int x3), (4, .int x4)]) hx hb dX6_failing_105 hl (k := 5) rfl rfl (by decide) rfl (fun ls hl => ?_)
        refine lv_goto (tgt := 38) hx hb dX6_failing_108 (by decide) ?_
        exact kl _ (Option.some.inj hm).symm _ _ _ ⟨hP, hD, hS⟩ (lv_sub hl [1, 2, 3, 4, 5, 0] rfl)
      · have hm := gk_it c17 hm
        refine lv_aload_n hx hb dX6_failing_70 rfl (lv_at hl 0 rfl) ?_
        refine lv_iload_n hx hb dX6_failing_71 rfl (lv_at hl 1 rfl) ?_
        refine lv_iload_n hx hb dX6_failing_72 rfl (lv_at hl 3 rfl) ?_
        refine lv_iload hx hb dX6_failing_73 (lv_at hl 4 rfl) ?_
        refine lv_iload hx hb dX6_failing_75 (lv_at hl 5 rfl) ?_
        obtain ⟨r18, hq, hm⟩ := gk_bd1_some hm
        refine gk_callV (n := 4) (bytes := cX6_partnerOf) (maxL := 6) (ret := (some .int)) (Cn := RX6) (T := TX6) (N := 25) [] [(a0, .inr (5, [.int f_n, .ref a1, .ref a2, .ref a3, .ref a4, .int f_keptN, .ref a5, .ref a6, .ref a7, .ref a8, .ref a9, .ref a10, .ref a11, .ref a12, .ref a13, .ref a14, .ref a15, .ref a16, .int f_side, .ref a17, .ref a18, .ref a19, .int f_rows, .ref a20, .ref a21])), (a1, gk_J G 6 f_members)] [] C ⟨hP, hD, hS⟩ (c_X6_partnerOf l G a0 a1 a2 a3 a4 a5 a6 a7 a8 a9 a10 a11 a12 a13 a14 a15 a16 a17 a18 a19 a20 a21 f_n f_keptN f_side f_rows f_members x1 x3 x4 x5 hq) gX6_failing_X6_partnerOf dX6_failing_77 hl.1 [0, 1] [] [0, 1] rfl rfl ⟨rfl, rfl⟩ ⟨Nat.le_of_ble_eq_true rfl, Nat.le_of_ble_eq_true rfl⟩ ⟨rfl, by decide +kernel, by decide +kernel, by decide +kernel⟩ rfl (fun h => by cases h) (Nat.le_of_ble_eq_true rfl) rfl rfl rfl rfl (by decide) rfl rfl (fun H locs h => ?_)
        obtain ⟨hP, hD, hS⟩ := h
        refine lv_iconst (v := -1) hx hb dX6_failing_80 (by decide) ?_
        refine lv_icmp_ne (tgt := 105) hx hb dX6_failing_81 (by decide) (fun c19 => ?_) (fun c19 => ?_)
        · have hm := gk_if c19 hm
          refine lv_iinc (v := x5 + 1) (lv' := [(5, .int (x5 + 1)), (0, .ref a0), (1, .int x1), (2, .int x2), (3, .int x3), (4, .int x4)]) hx hb dX6_failing_105 hl (k := 5) rfl rfl (by decide) rfl (fun ls hl => ?_)
          refine lv_goto (tgt := 38) hx hb dX6_failing_108 (by decide) ?_
          exact kl _ (Option.some.inj hm).symm _ _ _ ⟨hP, hD, hS⟩ (lv_sub hl [1, 2, 3, 4, 5, 0] rfl)
        · have hm := gk_it c19 hm
          refine lv_iload_n hx hb dX6_failing_84 rfl (lv_at hl 2 rfl) ?_
          refine lv_if_ne (tgt := 92) hx hb dX6_failing_85 (by decide) (fun c20 => ?_) (fun c20 => ?_)
          · have hm := gk_if c20 hm
            refine lv_iload_n hx hb dX6_failing_92 rfl (lv_at hl 2 rfl) ?_
            refine lv_iconst (v := 1) hx hb dX6_failing_93 (by decide) ?_
            refine lv_icmp_ne (tgt := 102) hx hb dX6_failing_94 (by decide) (fun c21 => ?_) (fun c21 => ?_)
            · have hm := gk_if c21 hm
              refine lv_iload hx hb dX6_failing_102 (lv_at hl 5 rfl) ?_
              rw [kr _ (Option.some.inj hm).symm]
              exact gk_iret C ⟨hP, hD, hS⟩ dX6_failing_104
            · have hm := gk_it c21 hm
              refine lv_iload hx hb dX6_failing_97 (lv_at hl 4 rfl) ?_
              refine lv_goto (tgt := 104) hx hb dX6_failing_99 (by decide) ?_
              rw [kr _ (Option.some.inj hm).symm]
              exact gk_iret C ⟨hP, hD, hS⟩ dX6_failing_104
          · have hm := gk_it c20 hm
            refine lv_iload_n hx hb dX6_failing_88 rfl (lv_at hl 3 rfl) ?_
            refine lv_goto (tgt := 104) hx hb dX6_failing_89 (by decide) ?_
            rw [kr _ (Option.some.inj hm).symm]
            exact gk_iret C ⟨hP, hD, hS⟩ dX6_failing_104
set_option maxRecDepth 100000 in
set_option maxHeartbeats 4000000 in
theorem w_X6_failing_L38 {p : Program} {l : Launch} {e : Env} {s : State} {m : MethodId} {args : Array Value} {below : List Frame} {meth : Method} {c : Code} {G : gk_G} {A : Nat → Prop} {Q : State → Prop} {a0 a1 a2 a3 a4 a5 a6 a7 a8 a9 a10 a11 a12 a13 a14 a15 a16 a17 a18 a19 a20 a21 : Nat} (C : gk_C p s m args meth c cX6_failing 6 (some .int) yX6_failing wsX6_failing false G A) {f_n : Int32} {f_members : (Nat → Int64)} {x1 : Int32} {x2 : Int32} {x3 : Int32} {x4 : Int32} {x5 : Int32} {f_keptN : Int32} {f_side : Int32} {f_rows : Int32} {k : Nat} (hm : gk_lp (fun z => m_X6_failing_B38 f_n f_members x1 x2 x3 x4 z) k x5 = some (.inr ())) (kx : ∀ (H : Heap) (locs : List Loc) (ls : Array Slot), gk_H G A s [(a0, .inr (5, [.int f_n, .ref a1, .ref a2, .ref a3, .ref a4, .int f_keptN, .ref a5, .ref a6, .ref a7, .ref a8, .ref a9, .ref a10, .ref a11, .ref a12, .ref a13, .ref a14, .ref a15, .ref a16, .int f_side, .ref a17, .ref a18, .ref a19, .int f_rows, .ref a20, .ref a21])), (a1, gk_J G 6 f_members)] H locs → lv_has ls 6 [(0, .ref a0), (1, .int x1), (2, .int x2), (3, .int x3), (4, .int x4)] → W p l e rm_X6_failing s m args below meth c H locs 0 0 Q (F0 m 111 ls [])) {H : Heap} {locs : List Loc} {ls : Array Slot} (h : gk_H G A s [(a0, .inr (5, [.int f_n, .ref a1, .ref a2, .ref a3, .ref a4, .int f_keptN, .ref a5, .ref a6, .ref a7, .ref a8, .ref a9, .ref a10, .ref a11, .ref a12, .ref a13, .ref a14, .ref a15, .ref a16, .int f_side, .ref a17, .ref a18, .ref a19, .int f_rows, .ref a20, .ref a21])), (a1, gk_J G 6 f_members)] H locs) (hl : lv_has ls 6 [(0, .ref a0), (1, .int x1), (2, .int x2), (3, .int x3), (4, .int x4), (5, .int x5)]) : W p l e rm_X6_failing s m args below meth c H locs 0 0 Q (F0 m 38 ls []) :=
  gk_lp_some (P := fun z => ∀ (H : Heap) (locs : List Loc) (ls : Array Slot), gk_H G A s [(a0, .inr (5, [.int f_n, .ref a1, .ref a2, .ref a3, .ref a4, .int f_keptN, .ref a5, .ref a6, .ref a7, .ref a8, .ref a9, .ref a10, .ref a11, .ref a12, .ref a13, .ref a14, .ref a15, .ref a16, .int f_side, .ref a17, .ref a18, .ref a19, .int f_rows, .ref a20, .ref a21])), (a1, gk_J G 6 f_members)] H locs → lv_has ls 6 [(0, .ref a0), (1, .int x1), (2, .int x2), (3, .int x3), (4, .int x4), (5, .int z)] → W p l e rm_X6_failing s m args below meth c H locs 0 0 Q (F0 m 38 ls [])) (E := fun r => (r = .inr () → ∀ (H : Heap) (locs : List Loc) (ls : Array Slot), gk_H G A s [(a0, .inr (5, [.int f_n, .ref a1, .ref a2, .ref a3, .ref a4, .int f_keptN, .ref a5, .ref a6, .ref a7, .ref a8, .ref a9, .ref a10, .ref a11, .ref a12, .ref a13, .ref a14, .ref a15, .ref a16, .int f_side, .ref a17, .ref a18, .ref a19, .int f_rows, .ref a20, .ref a21])), (a1, gk_J G 6 f_members)] H locs → lv_has ls 6 [(0, .ref a0), (1, .int x1), (2, .int x2), (3, .int x3), (4, .int x4)] → W p l e rm_X6_failing s m args below meth c H locs 0 0 Q (F0 m 111 ls [])) ∧ (∀ (rv : Int32), r = .inl rv → Q = MQ below (gk_Q G (some (.int rv)) [(a0, .inr (5, [.int f_n, .ref a1, .ref a2, .ref a3, .ref a4, .int f_keptN, .ref a5, .ref a6, .ref a7, .ref a8, .ref a9, .ref a10, .ref a11, .ref a12, .ref a13, .ref a14, .ref a15, .ref a16, .int f_side, .ref a17, .ref a18, .ref a19, .int f_rows, .ref a20, .ref a21])), (a1, gk_J G 6 f_members)] A) args s 0 0 A)) (fun z x hf kl ke H locs ls h hl => w_X6_failing_B38 C hf (fun v0 ez => kl v0 ez) (fun ez => (ke _ ez).1 rfl) (fun v0 ez => (ke _ ez).2 v0 rfl) h hl) k x5 _ hm (⟨fun ez => (by cases ez; exact kx), fun v0 ez => (by cases ez)⟩) _ _ _ h hl
set_option maxRecDepth 100000 in
set_option maxHeartbeats 4000000 in
theorem w_X6_failing_L38r {p : Program} {l : Launch} {e : Env} {s : State} {m : MethodId} {args : Array Value} {below : List Frame} {meth : Method} {c : Code} {G : gk_G} {A : Nat → Prop} {Q : State → Prop} {a0 a1 a2 a3 a4 a5 a6 a7 a8 a9 a10 a11 a12 a13 a14 a15 a16 a17 a18 a19 a20 a21 : Nat} (C : gk_C p s m args meth c cX6_failing 6 (some .int) yX6_failing wsX6_failing false G A) {f_n : Int32} {f_members : (Nat → Int64)} {x1 : Int32} {x2 : Int32} {x3 : Int32} {x4 : Int32} {x5 : Int32} {f_keptN : Int32} {f_side : Int32} {f_rows : Int32} {k : Nat} {rv : Int32} (hm : gk_lp (fun z => m_X6_failing_B38 f_n f_members x1 x2 x3 x4 z) k x5 = some (.inl rv)) (kr : Q = MQ below (gk_Q G (some (.int rv)) [(a0, .inr (5, [.int f_n, .ref a1, .ref a2, .ref a3, .ref a4, .int f_keptN, .ref a5, .ref a6, .ref a7, .ref a8, .ref a9, .ref a10, .ref a11, .ref a12, .ref a13, .ref a14, .ref a15, .ref a16, .int f_side, .ref a17, .ref a18, .ref a19, .int f_rows, .ref a20, .ref a21])), (a1, gk_J G 6 f_members)] A) args s 0 0 A) {H : Heap} {locs : List Loc} {ls : Array Slot} (h : gk_H G A s [(a0, .inr (5, [.int f_n, .ref a1, .ref a2, .ref a3, .ref a4, .int f_keptN, .ref a5, .ref a6, .ref a7, .ref a8, .ref a9, .ref a10, .ref a11, .ref a12, .ref a13, .ref a14, .ref a15, .ref a16, .int f_side, .ref a17, .ref a18, .ref a19, .int f_rows, .ref a20, .ref a21])), (a1, gk_J G 6 f_members)] H locs) (hl : lv_has ls 6 [(0, .ref a0), (1, .int x1), (2, .int x2), (3, .int x3), (4, .int x4), (5, .int x5)]) : W p l e rm_X6_failing s m args below meth c H locs 0 0 Q (F0 m 38 ls []) :=
  gk_lp_some (P := fun z => ∀ (H : Heap) (locs : List Loc) (ls : Array Slot), gk_H G A s [(a0, .inr (5, [.int f_n, .ref a1, .ref a2, .ref a3, .ref a4, .int f_keptN, .ref a5, .ref a6, .ref a7, .ref a8, .ref a9, .ref a10, .ref a11, .ref a12, .ref a13, .ref a14, .ref a15, .ref a16, .int f_side, .ref a17, .ref a18, .ref a19, .int f_rows, .ref a20, .ref a21])), (a1, gk_J G 6 f_members)] H locs → lv_has ls 6 [(0, .ref a0), (1, .int x1), (2, .int x2), (3, .int x3), (4, .int x4), (5, .int z)] → W p l e rm_X6_failing s m args below meth c H locs 0 0 Q (F0 m 38 ls [])) (E := fun r => (r = .inr () → ∀ (H : Heap) (locs : List Loc) (ls : Array Slot), gk_H G A s [(a0, .inr (5, [.int f_n, .ref a1, .ref a2, .ref a3, .ref a4, .int f_keptN, .ref a5, .ref a6, .ref a7, .ref a8, .ref a9, .ref a10, .ref a11, .ref a12, .ref a13, .ref a14, .ref a15, .ref a16, .int f_side, .ref a17, .ref a18, .ref a19, .int f_rows, .ref a20, .ref a21])), (a1, gk_J G 6 f_members)] H locs → lv_has ls 6 [(0, .ref a0), (1, .int x1), (2, .int x2), (3, .int x3), (4, .int x4)] → W p l e rm_X6_failing s m args below meth c H locs 0 0 Q (F0 m 111 ls [])) ∧ (∀ (rv : Int32), r = .inl rv → Q = MQ below (gk_Q G (some (.int rv)) [(a0, .inr (5, [.int f_n, .ref a1, .ref a2, .ref a3, .ref a4, .int f_keptN, .ref a5, .ref a6, .ref a7, .ref a8, .ref a9, .ref a10, .ref a11, .ref a12, .ref a13, .ref a14, .ref a15, .ref a16, .int f_side, .ref a17, .ref a18, .ref a19, .int f_rows, .ref a20, .ref a21])), (a1, gk_J G 6 f_members)] A) args s 0 0 A)) (fun z x hf kl ke H locs ls h hl => w_X6_failing_B38 C hf (fun v0 ez => kl v0 ez) (fun ez => (ke _ ez).1 rfl) (fun v0 ez => (ke _ ez).2 v0 rfl) h hl) k x5 _ hm (⟨fun ez => (by cases ez), fun v0 ez => (by cases ez; exact kr)⟩) _ _ _ h hl
def m_X6_failing_B15 (f_n : Int32) (f_members : (Nat → Int64)) (x1 : Int32) (x2 : Int32) (x3 : Int32) (x4 : Int32) : Option ((Int32) ⊕ ((Int32) ⊕ (Unit))) := (if ((1 : Int32) <<< (f_n &&& 31)) ≤ x4 then some (.inr (.inr ())) else gk_bd1 (m_X6_isMember f_members x1 x3) (fun r12 => (if r12 = (0 : Int32) then some (.inr (.inr ())) else gk_bs0 (gk_lp (fun z => m_X6_failing_B38 f_n f_members x1 x2 x3 x4 z) gk_fu (0 : Int32)) (fun r => some (.inr (.inl r))) (some (.inl (x4 + 1))))))
set_option maxRecDepth 100000 in
set_option maxHeartbeats 4000000 in
theorem w_X6_failing_B15 {p : Program} {l : Launch} {e : Env} {s : State} {m : MethodId} {args : Array Value} {below : List Frame} {meth : Method} {c : Code} {G : gk_G} {A : Nat → Prop} {Q : State → Prop} {a0 a1 a2 a3 a4 a5 a6 a7 a8 a9 a10 a11 a12 a13 a14 a15 a16 a17 a18 a19 a20 a21 : Nat} (C : gk_C p s m args meth c cX6_failing 6 (some .int) yX6_failing wsX6_failing false G A) {f_n : Int32} {f_members : (Nat → Int64)} {x1 : Int32} {x2 : Int32} {x3 : Int32} {x4 : Int32} {f_keptN : Int32} {f_side : Int32} {f_rows : Int32} {yy : (Int32) ⊕ ((Int32) ⊕ (Unit))} (hm : m_X6_failing_B15 f_n f_members x1 x2 x3 x4 = some yy) (kl : ∀ (x4 : Int32), yy = .inl x4 → ∀ (H : Heap) (locs : List Loc) (ls : Array Slot), gk_H G A s [(a0, .inr (5, [.int f_n, .ref a1, .ref a2, .ref a3, .ref a4, .int f_keptN, .ref a5, .ref a6, .ref a7, .ref a8, .ref a9, .ref a10, .ref a11, .ref a12, .ref a13, .ref a14, .ref a15, .ref a16, .int f_side, .ref a17, .ref a18, .ref a19, .int f_rows, .ref a20, .ref a21])), (a1, gk_J G 6 f_members)] H locs → lv_has ls 6 [(0, .ref a0), (1, .int x1), (2, .int x2), (3, .int x3), (4, .int x4)] → W p l e rm_X6_failing s m args below meth c H locs 0 0 Q (F0 m 15 ls [])) (kx : yy = .inr (.inr ()) → ∀ (H : Heap) (locs : List Loc) (ls : Array Slot), gk_H G A s [(a0, .inr (5, [.int f_n, .ref a1, .ref a2, .ref a3, .ref a4, .int f_keptN, .ref a5, .ref a6, .ref a7, .ref a8, .ref a9, .ref a10, .ref a11, .ref a12, .ref a13, .ref a14, .ref a15, .ref a16, .int f_side, .ref a17, .ref a18, .ref a19, .int f_rows, .ref a20, .ref a21])), (a1, gk_J G 6 f_members)] H locs → lv_has ls 6 [(0, .ref a0), (1, .int x1), (2, .int x2), (3, .int x3)] → W p l e rm_X6_failing s m args below meth c H locs 0 0 Q (F0 m 117 ls [])) (kr : ∀ (rv : Int32), yy = .inr (.inl rv) → Q = MQ below (gk_Q G (some (.int rv)) [(a0, .inr (5, [.int f_n, .ref a1, .ref a2, .ref a3, .ref a4, .int f_keptN, .ref a5, .ref a6, .ref a7, .ref a8, .ref a9, .ref a10, .ref a11, .ref a12, .ref a13, .ref a14, .ref a15, .ref a16, .int f_side, .ref a17, .ref a18, .ref a19, .int f_rows, .ref a20, .ref a21])), (a1, gk_J G 6 f_members)] A) args s 0 0 A) {H : Heap} {locs : List Loc} {ls : Array Slot} (h : gk_H G A s [(a0, .inr (5, [.int f_n, .ref a1, .ref a2, .ref a3, .ref a4, .int f_keptN, .ref a5, .ref a6, .ref a7, .ref a8, .ref a9, .ref a10, .ref a11, .ref a12, .ref a13, .ref a14, .ref a15, .ref a16, .int f_side, .ref a17, .ref a18, .ref a19, .int f_rows, .ref a20, .ref a21])), (a1, gk_J G 6 f_members)] H locs) (hl : lv_has ls 6 [(0, .ref a0), (1, .int x1), (2, .int x2), (3, .int x3), (4, .int x4)]) : W p l e rm_X6_failing s m args below meth c H locs 0 0 Q (F0 m 15 ls []) := by
  obtain ⟨hx, hb, hml, hr, hown, hnm, hts, hlk, hK, hSt, hA⟩ := id C
  obtain ⟨hP, hD, hS⟩ := h
  unfold m_X6_failing_B15 at hm
  refine lv_iload hx hb dX6_failing_15 (lv_at hl 4 rfl) ?_
  refine lv_iconst (v := 1) hx hb dX6_failing_17 (by decide) ?_
  refine lv_aload_n hx hb dX6_failing_18 rfl (lv_at hl 0 rfl) ?_
  refine va_get (D := G.1) (cl := vwCl) (own := RX6) (ref := "ExchangeFamiliesModel") (ci := 5) (v := .int f_n) (C := RX6) (T := TX6) (N := 25) hx hb hts k_X6_failing_0 hown hK hP 0 rfl rfl 0 (by decide) (hts _ k_X6_failing_1) (fun _ h9 => h9) rfl dX6_failing_19 ?_
  refine lv_ishl hx hb dX6_failing_22 ?_
  refine lv_icmp_ge (tgt := 117) hx hb dX6_failing_23 (by decide) (fun c11 => ?_) (fun c11 => ?_)
  · have hm := gk_it c11 hm
    exact kx (Option.some.inj hm).symm _ _ _ ⟨hP, hD, hS⟩ (lv_sub hl [0, 1, 2, 3] rfl)
  · have hm := gk_if c11 hm
    refine lv_aload_n hx hb dX6_failing_26 rfl (lv_at hl 0 rfl) ?_
    refine lv_iload_n hx hb dX6_failing_27 rfl (lv_at hl 1 rfl) ?_
    refine lv_iload_n hx hb dX6_failing_28 rfl (lv_at hl 3 rfl) ?_
    obtain ⟨r12, hq, hm⟩ := gk_bd1_some hm
    refine gk_callV (n := 2) (bytes := cX6_isMember) (maxL := 3) (ret := (some .boolean)) (Cn := RX6) (T := TX6) (N := 25) [] [(a0, .inr (5, [.int f_n, .ref a1, .ref a2, .ref a3, .ref a4, .int f_keptN, .ref a5, .ref a6, .ref a7, .ref a8, .ref a9, .ref a10, .ref a11, .ref a12, .ref a13, .ref a14, .ref a15, .ref a16, .int f_side, .ref a17, .ref a18, .ref a19, .int f_rows, .ref a20, .ref a21])), (a1, gk_J G 6 f_members)] [] C ⟨hP, hD, hS⟩ (c_X6_isMember l G a0 a1 a2 a3 a4 a5 a6 a7 a8 a9 a10 a11 a12 a13 a14 a15 a16 a17 a18 a19 a20 a21 f_n f_keptN f_side f_rows f_members x1 x3 hq) gX6_failing_X6_isMember dX6_failing_29 hl.1 [0, 1] [] [0, 1] rfl rfl ⟨rfl, rfl⟩ ⟨Nat.le_of_ble_eq_true rfl, Nat.le_of_ble_eq_true rfl⟩ ⟨rfl, by decide +kernel, by decide +kernel, by decide +kernel⟩ rfl (fun h => by cases h) (Nat.le_of_ble_eq_true rfl) rfl rfl rfl rfl (by decide) rfl rfl (fun H locs h => ?_)
    obtain ⟨hP, hD, hS⟩ := h
    refine lv_if_eq (tgt := 117) hx hb dX6_failing_32 (by decide) (fun c13 => ?_) (fun c13 => ?_)
    · have hm := gk_it c13 hm
      exact kx (Option.some.inj hm).symm _ _ _ ⟨hP, hD, hS⟩ (lv_sub hl [0, 1, 2, 3] rfl)
    · have hm := gk_if c13 hm
      refine lv_iconst (v := 0) hx hb dX6_failing_35 (by decide) ?_
      refine lv_istore (lv' := [(5, .int (0 : Int32)), (0, .ref a0), (1, .int x1), (2, .int x2), (3, .int x3), (4, .int x4)]) hx hb dX6_failing_36 hl (by decide) rfl (fun ls hl => ?_)
      rcases gk_bs0_some hm with ⟨r22, hq, hm⟩ | ⟨hq, hm⟩
      · exact w_X6_failing_L38r C hq (kr _ (Option.some.inj hm).symm) ⟨hP, hD, hS⟩ (lv_sub hl [1, 2, 3, 4, 5, 0] rfl)
      refine w_X6_failing_L38 C hq (fun H locs ls h hl => ?_) ⟨hP, hD, hS⟩ (lv_sub hl [1, 2, 3, 4, 5, 0] rfl)
      obtain ⟨hP, hD, hS⟩ := h
      refine lv_iinc (v := x4 + 1) (lv' := [(4, .int (x4 + 1)), (0, .ref a0), (1, .int x1), (2, .int x2), (3, .int x3)]) hx hb dX6_failing_111 hl (k := 4) rfl rfl (by decide) rfl (fun ls hl => ?_)
      refine lv_goto (tgt := 15) hx hb dX6_failing_114 (by decide) ?_
      exact kl _ (Option.some.inj hm).symm _ _ _ ⟨hP, hD, hS⟩ (lv_sub hl [1, 2, 3, 4, 0] rfl)
set_option maxRecDepth 100000 in
set_option maxHeartbeats 4000000 in
theorem w_X6_failing_L15 {p : Program} {l : Launch} {e : Env} {s : State} {m : MethodId} {args : Array Value} {below : List Frame} {meth : Method} {c : Code} {G : gk_G} {A : Nat → Prop} {Q : State → Prop} {a0 a1 a2 a3 a4 a5 a6 a7 a8 a9 a10 a11 a12 a13 a14 a15 a16 a17 a18 a19 a20 a21 : Nat} (C : gk_C p s m args meth c cX6_failing 6 (some .int) yX6_failing wsX6_failing false G A) {f_n : Int32} {f_members : (Nat → Int64)} {x1 : Int32} {x2 : Int32} {x3 : Int32} {x4 : Int32} {f_keptN : Int32} {f_side : Int32} {f_rows : Int32} {k : Nat} (hm : gk_lp (fun z => m_X6_failing_B15 f_n f_members x1 x2 x3 z) k x4 = some (.inr ())) (kx : ∀ (H : Heap) (locs : List Loc) (ls : Array Slot), gk_H G A s [(a0, .inr (5, [.int f_n, .ref a1, .ref a2, .ref a3, .ref a4, .int f_keptN, .ref a5, .ref a6, .ref a7, .ref a8, .ref a9, .ref a10, .ref a11, .ref a12, .ref a13, .ref a14, .ref a15, .ref a16, .int f_side, .ref a17, .ref a18, .ref a19, .int f_rows, .ref a20, .ref a21])), (a1, gk_J G 6 f_members)] H locs → lv_has ls 6 [(0, .ref a0), (1, .int x1), (2, .int x2), (3, .int x3)] → W p l e rm_X6_failing s m args below meth c H locs 0 0 Q (F0 m 117 ls [])) {H : Heap} {locs : List Loc} {ls : Array Slot} (h : gk_H G A s [(a0, .inr (5, [.int f_n, .ref a1, .ref a2, .ref a3, .ref a4, .int f_keptN, .ref a5, .ref a6, .ref a7, .ref a8, .ref a9, .ref a10, .ref a11, .ref a12, .ref a13, .ref a14, .ref a15, .ref a16, .int f_side, .ref a17, .ref a18, .ref a19, .int f_rows, .ref a20, .ref a21])), (a1, gk_J G 6 f_members)] H locs) (hl : lv_has ls 6 [(0, .ref a0), (1, .int x1), (2, .int x2), (3, .int x3), (4, .int x4)]) : W p l e rm_X6_failing s m args below meth c H locs 0 0 Q (F0 m 15 ls []) :=
  gk_lp_some (P := fun z => ∀ (H : Heap) (locs : List Loc) (ls : Array Slot), gk_H G A s [(a0, .inr (5, [.int f_n, .ref a1, .ref a2, .ref a3, .ref a4, .int f_keptN, .ref a5, .ref a6, .ref a7, .ref a8, .ref a9, .ref a10, .ref a11, .ref a12, .ref a13, .ref a14, .ref a15, .ref a16, .int f_side, .ref a17, .ref a18, .ref a19, .int f_rows, .ref a20, .ref a21])), (a1, gk_J G 6 f_members)] H locs → lv_has ls 6 [(0, .ref a0), (1, .int x1), (2, .int x2), (3, .int x3), (4, .int z)] → W p l e rm_X6_failing s m args below meth c H locs 0 0 Q (F0 m 15 ls [])) (E := fun r => (r = .inr () → ∀ (H : Heap) (locs : List Loc) (ls : Array Slot), gk_H G A s [(a0, .inr (5, [.int f_n, .ref a1, .ref a2, .ref a3, .ref a4, .int f_keptN, .ref a5, .ref a6, .ref a7, .ref a8, .ref a9, .ref a10, .ref a11, .ref a12, .ref a13, .ref a14, .ref a15, .ref a16, .int f_side, .ref a17, .ref a18, .ref a19, .int f_rows, .ref a20, .ref a21])), (a1, gk_J G 6 f_members)] H locs → lv_has ls 6 [(0, .ref a0), (1, .int x1), (2, .int x2), (3, .int x3)] → W p l e rm_X6_failing s m args below meth c H locs 0 0 Q (F0 m 117 ls [])) ∧ (∀ (rv : Int32), r = .inl rv → Q = MQ below (gk_Q G (some (.int rv)) [(a0, .inr (5, [.int f_n, .ref a1, .ref a2, .ref a3, .ref a4, .int f_keptN, .ref a5, .ref a6, .ref a7, .ref a8, .ref a9, .ref a10, .ref a11, .ref a12, .ref a13, .ref a14, .ref a15, .ref a16, .int f_side, .ref a17, .ref a18, .ref a19, .int f_rows, .ref a20, .ref a21])), (a1, gk_J G 6 f_members)] A) args s 0 0 A)) (fun z x hf kl ke H locs ls h hl => w_X6_failing_B15 C hf (fun v0 ez => kl v0 ez) (fun ez => (ke _ ez).1 rfl) (fun v0 ez => (ke _ ez).2 v0 rfl) h hl) k x4 _ hm (⟨fun ez => (by cases ez; exact kx), fun v0 ez => (by cases ez)⟩) _ _ _ h hl
set_option maxRecDepth 100000 in
set_option maxHeartbeats 4000000 in
theorem w_X6_failing_L15r {p : Program} {l : Launch} {e : Env} {s : State} {m : MethodId} {args : Array Value} {below : List Frame} {meth : Method} {c : Code} {G : gk_G} {A : Nat → Prop} {Q : State → Prop} {a0 a1 a2 a3 a4 a5 a6 a7 a8 a9 a10 a11 a12 a13 a14 a15 a16 a17 a18 a19 a20 a21 : Nat} (C : gk_C p s m args meth c cX6_failing 6 (some .int) yX6_failing wsX6_failing false G A) {f_n : Int32} {f_members : (Nat → Int64)} {x1 : Int32} {x2 : Int32} {x3 : Int32} {x4 : Int32} {f_keptN : Int32} {f_side : Int32} {f_rows : Int32} {k : Nat} {rv : Int32} (hm : gk_lp (fun z => m_X6_failing_B15 f_n f_members x1 x2 x3 z) k x4 = some (.inl rv)) (kr : Q = MQ below (gk_Q G (some (.int rv)) [(a0, .inr (5, [.int f_n, .ref a1, .ref a2, .ref a3, .ref a4, .int f_keptN, .ref a5, .ref a6, .ref a7, .ref a8, .ref a9, .ref a10, .ref a11, .ref a12, .ref a13, .ref a14, .ref a15, .ref a16, .int f_side, .ref a17, .ref a18, .ref a19, .int f_rows, .ref a20, .ref a21])), (a1, gk_J G 6 f_members)] A) args s 0 0 A) {H : Heap} {locs : List Loc} {ls : Array Slot} (h : gk_H G A s [(a0, .inr (5, [.int f_n, .ref a1, .ref a2, .ref a3, .ref a4, .int f_keptN, .ref a5, .ref a6, .ref a7, .ref a8, .ref a9, .ref a10, .ref a11, .ref a12, .ref a13, .ref a14, .ref a15, .ref a16, .int f_side, .ref a17, .ref a18, .ref a19, .int f_rows, .ref a20, .ref a21])), (a1, gk_J G 6 f_members)] H locs) (hl : lv_has ls 6 [(0, .ref a0), (1, .int x1), (2, .int x2), (3, .int x3), (4, .int x4)]) : W p l e rm_X6_failing s m args below meth c H locs 0 0 Q (F0 m 15 ls []) :=
  gk_lp_some (P := fun z => ∀ (H : Heap) (locs : List Loc) (ls : Array Slot), gk_H G A s [(a0, .inr (5, [.int f_n, .ref a1, .ref a2, .ref a3, .ref a4, .int f_keptN, .ref a5, .ref a6, .ref a7, .ref a8, .ref a9, .ref a10, .ref a11, .ref a12, .ref a13, .ref a14, .ref a15, .ref a16, .int f_side, .ref a17, .ref a18, .ref a19, .int f_rows, .ref a20, .ref a21])), (a1, gk_J G 6 f_members)] H locs → lv_has ls 6 [(0, .ref a0), (1, .int x1), (2, .int x2), (3, .int x3), (4, .int z)] → W p l e rm_X6_failing s m args below meth c H locs 0 0 Q (F0 m 15 ls [])) (E := fun r => (r = .inr () → ∀ (H : Heap) (locs : List Loc) (ls : Array Slot), gk_H G A s [(a0, .inr (5, [.int f_n, .ref a1, .ref a2, .ref a3, .ref a4, .int f_keptN, .ref a5, .ref a6, .ref a7, .ref a8, .ref a9, .ref a10, .ref a11, .ref a12, .ref a13, .ref a14, .ref a15, .ref a16, .int f_side, .ref a17, .ref a18, .ref a19, .int f_rows, .ref a20, .ref a21])), (a1, gk_J G 6 f_members)] H locs → lv_has ls 6 [(0, .ref a0), (1, .int x1), (2, .int x2), (3, .int x3)] → W p l e rm_X6_failing s m args below meth c H locs 0 0 Q (F0 m 117 ls [])) ∧ (∀ (rv : Int32), r = .inl rv → Q = MQ below (gk_Q G (some (.int rv)) [(a0, .inr (5, [.int f_n, .ref a1, .ref a2, .ref a3, .ref a4, .int f_keptN, .ref a5, .ref a6, .ref a7, .ref a8, .ref a9, .ref a10, .ref a11, .ref a12, .ref a13, .ref a14, .ref a15, .ref a16, .int f_side, .ref a17, .ref a18, .ref a19, .int f_rows, .ref a20, .ref a21])), (a1, gk_J G 6 f_members)] A) args s 0 0 A)) (fun z x hf kl ke H locs ls h hl => w_X6_failing_B15 C hf (fun v0 ez => kl v0 ez) (fun ez => (ke _ ez).1 rfl) (fun v0 ez => (ke _ ez).2 v0 rfl) h hl) k x4 _ hm (⟨fun ez => (by cases ez), fun v0 ez => (by cases ez; exact kr)⟩) _ _ _ h hl
def m_X6_failing_B2 (f_n : Int32) (f_members : (Nat → Int64)) (x1 : Int32) (x2 : Int32) (x3 : Int32) : Option ((Int32) ⊕ ((Int32) ⊕ (Unit))) := (if ((1 : Int32) <<< (f_n &&& 31)) ≤ x3 then some (.inr (.inr ())) else gk_bs0 (gk_lp (fun z => m_X6_failing_B15 f_n f_members x1 x2 x3 z) gk_fu (0 : Int32)) (fun r => some (.inr (.inl r))) (some (.inl (x3 + 1))))
set_option maxRecDepth 100000 in
set_option maxHeartbeats 4000000 in
theorem w_X6_failing_B2 {p : Program} {l : Launch} {e : Env} {s : State} {m : MethodId} {args : Array Value} {below : List Frame} {meth : Method} {c : Code} {G : gk_G} {A : Nat → Prop} {Q : State → Prop} {a0 a1 a2 a3 a4 a5 a6 a7 a8 a9 a10 a11 a12 a13 a14 a15 a16 a17 a18 a19 a20 a21 : Nat} (C : gk_C p s m args meth c cX6_failing 6 (some .int) yX6_failing wsX6_failing false G A) {f_n : Int32} {f_members : (Nat → Int64)} {x1 : Int32} {x2 : Int32} {x3 : Int32} {f_keptN : Int32} {f_side : Int32} {f_rows : Int32} {yy : (Int32) ⊕ ((Int32) ⊕ (Unit))} (hm : m_X6_failing_B2 f_n f_members x1 x2 x3 = some yy) (kl : ∀ (x3 : Int32), yy = .inl x3 → ∀ (H : Heap) (locs : List Loc) (ls : Array Slot), gk_H G A s [(a0, .inr (5, [.int f_n, .ref a1, .ref a2, .ref a3, .ref a4, .int f_keptN, .ref a5, .ref a6, .ref a7, .ref a8, .ref a9, .ref a10, .ref a11, .ref a12, .ref a13, .ref a14, .ref a15, .ref a16, .int f_side, .ref a17, .ref a18, .ref a19, .int f_rows, .ref a20, .ref a21])), (a1, gk_J G 6 f_members)] H locs → lv_has ls 6 [(0, .ref a0), (1, .int x1), (2, .int x2), (3, .int x3)] → W p l e rm_X6_failing s m args below meth c H locs 0 0 Q (F0 m 2 ls [])) (kx : yy = .inr (.inr ()) → ∀ (H : Heap) (locs : List Loc) (ls : Array Slot), gk_H G A s [(a0, .inr (5, [.int f_n, .ref a1, .ref a2, .ref a3, .ref a4, .int f_keptN, .ref a5, .ref a6, .ref a7, .ref a8, .ref a9, .ref a10, .ref a11, .ref a12, .ref a13, .ref a14, .ref a15, .ref a16, .int f_side, .ref a17, .ref a18, .ref a19, .int f_rows, .ref a20, .ref a21])), (a1, gk_J G 6 f_members)] H locs → lv_has ls 6 [] → W p l e rm_X6_failing s m args below meth c H locs 0 0 Q (F0 m 123 ls [])) (kr : ∀ (rv : Int32), yy = .inr (.inl rv) → Q = MQ below (gk_Q G (some (.int rv)) [(a0, .inr (5, [.int f_n, .ref a1, .ref a2, .ref a3, .ref a4, .int f_keptN, .ref a5, .ref a6, .ref a7, .ref a8, .ref a9, .ref a10, .ref a11, .ref a12, .ref a13, .ref a14, .ref a15, .ref a16, .int f_side, .ref a17, .ref a18, .ref a19, .int f_rows, .ref a20, .ref a21])), (a1, gk_J G 6 f_members)] A) args s 0 0 A) {H : Heap} {locs : List Loc} {ls : Array Slot} (h : gk_H G A s [(a0, .inr (5, [.int f_n, .ref a1, .ref a2, .ref a3, .ref a4, .int f_keptN, .ref a5, .ref a6, .ref a7, .ref a8, .ref a9, .ref a10, .ref a11, .ref a12, .ref a13, .ref a14, .ref a15, .ref a16, .int f_side, .ref a17, .ref a18, .ref a19, .int f_rows, .ref a20, .ref a21])), (a1, gk_J G 6 f_members)] H locs) (hl : lv_has ls 6 [(0, .ref a0), (1, .int x1), (2, .int x2), (3, .int x3)]) : W p l e rm_X6_failing s m args below meth c H locs 0 0 Q (F0 m 2 ls []) := by
  obtain ⟨hx, hb, hml, hr, hown, hnm, hts, hlk, hK, hSt, hA⟩ := id C
  obtain ⟨hP, hD, hS⟩ := h
  unfold m_X6_failing_B2 at hm
  refine lv_iload_n hx hb dX6_failing_2 rfl (lv_at hl 3 rfl) ?_
  refine lv_iconst (v := 1) hx hb dX6_failing_3 (by decide) ?_
  refine lv_aload_n hx hb dX6_failing_4 rfl (lv_at hl 0 rfl) ?_
  refine va_get (D := G.1) (cl := vwCl) (own := RX6) (ref := "ExchangeFamiliesModel") (ci := 5) (v := .int f_n) (C := RX6) (T := TX6) (N := 25) hx hb hts k_X6_failing_0 hown hK hP 0 rfl rfl 0 (by decide) (hts _ k_X6_failing_1) (fun _ h9 => h9) rfl dX6_failing_5 ?_
  refine lv_ishl hx hb dX6_failing_8 ?_
  refine lv_icmp_ge (tgt := 123) hx hb dX6_failing_9 (by decide) (fun c10 => ?_) (fun c10 => ?_)
  · have hm := gk_it c10 hm
    exact kx (Option.some.inj hm).symm _ _ _ ⟨hP, hD, hS⟩ (lv_sub hl [] rfl)
  · have hm := gk_if c10 hm
    refine lv_iconst (v := 0) hx hb dX6_failing_12 (by decide) ?_
    refine lv_istore (lv' := [(4, .int (0 : Int32)), (0, .ref a0), (1, .int x1), (2, .int x2), (3, .int x3)]) hx hb dX6_failing_13 hl (by decide) rfl (fun ls hl => ?_)
    rcases gk_bs0_some hm with ⟨r23, hq, hm⟩ | ⟨hq, hm⟩
    · exact w_X6_failing_L15r C hq (kr _ (Option.some.inj hm).symm) ⟨hP, hD, hS⟩ (lv_sub hl [1, 2, 3, 4, 0] rfl)
    refine w_X6_failing_L15 C hq (fun H locs ls h hl => ?_) ⟨hP, hD, hS⟩ (lv_sub hl [1, 2, 3, 4, 0] rfl)
    obtain ⟨hP, hD, hS⟩ := h
    refine lv_iinc (v := x3 + 1) (lv' := [(3, .int (x3 + 1)), (0, .ref a0), (1, .int x1), (2, .int x2)]) hx hb dX6_failing_117 hl (k := 3) rfl rfl (by decide) rfl (fun ls hl => ?_)
    refine lv_goto (tgt := 2) hx hb dX6_failing_120 (by decide) ?_
    exact kl _ (Option.some.inj hm).symm _ _ _ ⟨hP, hD, hS⟩ (lv_sub hl [1, 2, 3, 0] rfl)
set_option maxRecDepth 100000 in
set_option maxHeartbeats 4000000 in
theorem w_X6_failing_L2 {p : Program} {l : Launch} {e : Env} {s : State} {m : MethodId} {args : Array Value} {below : List Frame} {meth : Method} {c : Code} {G : gk_G} {A : Nat → Prop} {Q : State → Prop} {a0 a1 a2 a3 a4 a5 a6 a7 a8 a9 a10 a11 a12 a13 a14 a15 a16 a17 a18 a19 a20 a21 : Nat} (C : gk_C p s m args meth c cX6_failing 6 (some .int) yX6_failing wsX6_failing false G A) {f_n : Int32} {f_members : (Nat → Int64)} {x1 : Int32} {x2 : Int32} {x3 : Int32} {f_keptN : Int32} {f_side : Int32} {f_rows : Int32} {k : Nat} (hm : gk_lp (fun z => m_X6_failing_B2 f_n f_members x1 x2 z) k x3 = some (.inr ())) (kx : ∀ (H : Heap) (locs : List Loc) (ls : Array Slot), gk_H G A s [(a0, .inr (5, [.int f_n, .ref a1, .ref a2, .ref a3, .ref a4, .int f_keptN, .ref a5, .ref a6, .ref a7, .ref a8, .ref a9, .ref a10, .ref a11, .ref a12, .ref a13, .ref a14, .ref a15, .ref a16, .int f_side, .ref a17, .ref a18, .ref a19, .int f_rows, .ref a20, .ref a21])), (a1, gk_J G 6 f_members)] H locs → lv_has ls 6 [] → W p l e rm_X6_failing s m args below meth c H locs 0 0 Q (F0 m 123 ls [])) {H : Heap} {locs : List Loc} {ls : Array Slot} (h : gk_H G A s [(a0, .inr (5, [.int f_n, .ref a1, .ref a2, .ref a3, .ref a4, .int f_keptN, .ref a5, .ref a6, .ref a7, .ref a8, .ref a9, .ref a10, .ref a11, .ref a12, .ref a13, .ref a14, .ref a15, .ref a16, .int f_side, .ref a17, .ref a18, .ref a19, .int f_rows, .ref a20, .ref a21])), (a1, gk_J G 6 f_members)] H locs) (hl : lv_has ls 6 [(0, .ref a0), (1, .int x1), (2, .int x2), (3, .int x3)]) : W p l e rm_X6_failing s m args below meth c H locs 0 0 Q (F0 m 2 ls []) :=
  gk_lp_some (P := fun z => ∀ (H : Heap) (locs : List Loc) (ls : Array Slot), gk_H G A s [(a0, .inr (5, [.int f_n, .ref a1, .ref a2, .ref a3, .ref a4, .int f_keptN, .ref a5, .ref a6, .ref a7, .ref a8, .ref a9, .ref a10, .ref a11, .ref a12, .ref a13, .ref a14, .ref a15, .ref a16, .int f_side, .ref a17, .ref a18, .ref a19, .int f_rows, .ref a20, .ref a21])), (a1, gk_J G 6 f_members)] H locs → lv_has ls 6 [(0, .ref a0), (1, .int x1), (2, .int x2), (3, .int z)] → W p l e rm_X6_failing s m args below meth c H locs 0 0 Q (F0 m 2 ls [])) (E := fun r => (r = .inr () → ∀ (H : Heap) (locs : List Loc) (ls : Array Slot), gk_H G A s [(a0, .inr (5, [.int f_n, .ref a1, .ref a2, .ref a3, .ref a4, .int f_keptN, .ref a5, .ref a6, .ref a7, .ref a8, .ref a9, .ref a10, .ref a11, .ref a12, .ref a13, .ref a14, .ref a15, .ref a16, .int f_side, .ref a17, .ref a18, .ref a19, .int f_rows, .ref a20, .ref a21])), (a1, gk_J G 6 f_members)] H locs → lv_has ls 6 [] → W p l e rm_X6_failing s m args below meth c H locs 0 0 Q (F0 m 123 ls [])) ∧ (∀ (rv : Int32), r = .inl rv → Q = MQ below (gk_Q G (some (.int rv)) [(a0, .inr (5, [.int f_n, .ref a1, .ref a2, .ref a3, .ref a4, .int f_keptN, .ref a5, .ref a6, .ref a7, .ref a8, .ref a9, .ref a10, .ref a11, .ref a12, .ref a13, .ref a14, .ref a15, .ref a16, .int f_side, .ref a17, .ref a18, .ref a19, .int f_rows, .ref a20, .ref a21])), (a1, gk_J G 6 f_members)] A) args s 0 0 A)) (fun z x hf kl ke H locs ls h hl => w_X6_failing_B2 C hf (fun v0 ez => kl v0 ez) (fun ez => (ke _ ez).1 rfl) (fun v0 ez => (ke _ ez).2 v0 rfl) h hl) k x3 _ hm (⟨fun ez => (by cases ez; exact kx), fun v0 ez => (by cases ez)⟩) _ _ _ h hl
set_option maxRecDepth 100000 in
set_option maxHeartbeats 4000000 in
theorem w_X6_failing_L2r {p : Program} {l : Launch} {e : Env} {s : State} {m : MethodId} {args : Array Value} {below : List Frame} {meth : Method} {c : Code} {G : gk_G} {A : Nat → Prop} {Q : State → Prop} {a0 a1 a2 a3 a4 a5 a6 a7 a8 a9 a10 a11 a12 a13 a14 a15 a16 a17 a18 a19 a20 a21 : Nat} (C : gk_C p s m args meth c cX6_failing 6 (some .int) yX6_failing wsX6_failing false G A) {f_n : Int32} {f_members : (Nat → Int64)} {x1 : Int32} {x2 : Int32} {x3 : Int32} {f_keptN : Int32} {f_side : Int32} {f_rows : Int32} {k : Nat} {rv : Int32} (hm : gk_lp (fun z => m_X6_failing_B2 f_n f_members x1 x2 z) k x3 = some (.inl rv)) (kr : Q = MQ below (gk_Q G (some (.int rv)) [(a0, .inr (5, [.int f_n, .ref a1, .ref a2, .ref a3, .ref a4, .int f_keptN, .ref a5, .ref a6, .ref a7, .ref a8, .ref a9, .ref a10, .ref a11, .ref a12, .ref a13, .ref a14, .ref a15, .ref a16, .int f_side, .ref a17, .ref a18, .ref a19, .int f_rows, .ref a20, .ref a21])), (a1, gk_J G 6 f_members)] A) args s 0 0 A) {H : Heap} {locs : List Loc} {ls : Array Slot} (h : gk_H G A s [(a0, .inr (5, [.int f_n, .ref a1, .ref a2, .ref a3, .ref a4, .int f_keptN, .ref a5, .ref a6, .ref a7, .ref a8, .ref a9, .ref a10, .ref a11, .ref a12, .ref a13, .ref a14, .ref a15, .ref a16, .int f_side, .ref a17, .ref a18, .ref a19, .int f_rows, .ref a20, .ref a21])), (a1, gk_J G 6 f_members)] H locs) (hl : lv_has ls 6 [(0, .ref a0), (1, .int x1), (2, .int x2), (3, .int x3)]) : W p l e rm_X6_failing s m args below meth c H locs 0 0 Q (F0 m 2 ls []) :=
  gk_lp_some (P := fun z => ∀ (H : Heap) (locs : List Loc) (ls : Array Slot), gk_H G A s [(a0, .inr (5, [.int f_n, .ref a1, .ref a2, .ref a3, .ref a4, .int f_keptN, .ref a5, .ref a6, .ref a7, .ref a8, .ref a9, .ref a10, .ref a11, .ref a12, .ref a13, .ref a14, .ref a15, .ref a16, .int f_side, .ref a17, .ref a18, .ref a19, .int f_rows, .ref a20, .ref a21])), (a1, gk_J G 6 f_members)] H locs → lv_has ls 6 [(0, .ref a0), (1, .int x1), (2, .int x2), (3, .int z)] → W p l e rm_X6_failing s m args below meth c H locs 0 0 Q (F0 m 2 ls [])) (E := fun r => (r = .inr () → ∀ (H : Heap) (locs : List Loc) (ls : Array Slot), gk_H G A s [(a0, .inr (5, [.int f_n, .ref a1, .ref a2, .ref a3, .ref a4, .int f_keptN, .ref a5, .ref a6, .ref a7, .ref a8, .ref a9, .ref a10, .ref a11, .ref a12, .ref a13, .ref a14, .ref a15, .ref a16, .int f_side, .ref a17, .ref a18, .ref a19, .int f_rows, .ref a20, .ref a21])), (a1, gk_J G 6 f_members)] H locs → lv_has ls 6 [] → W p l e rm_X6_failing s m args below meth c H locs 0 0 Q (F0 m 123 ls [])) ∧ (∀ (rv : Int32), r = .inl rv → Q = MQ below (gk_Q G (some (.int rv)) [(a0, .inr (5, [.int f_n, .ref a1, .ref a2, .ref a3, .ref a4, .int f_keptN, .ref a5, .ref a6, .ref a7, .ref a8, .ref a9, .ref a10, .ref a11, .ref a12, .ref a13, .ref a14, .ref a15, .ref a16, .int f_side, .ref a17, .ref a18, .ref a19, .int f_rows, .ref a20, .ref a21])), (a1, gk_J G 6 f_members)] A) args s 0 0 A)) (fun z x hf kl ke H locs ls h hl => w_X6_failing_B2 C hf (fun v0 ez => kl v0 ez) (fun ez => (ke _ ez).1 rfl) (fun v0 ez => (ke _ ez).2 v0 rfl) h hl) k x3 _ hm (⟨fun ez => (by cases ez), fun v0 ez => (by cases ez; exact kr)⟩) _ _ _ h hl
def m_X6_failing_0 (f_n : Int32) (f_members : (Nat → Int64)) (x1 : Int32) (x2 : Int32) : Option (Int32) := gk_bs0 (gk_lp (fun z => m_X6_failing_B2 f_n f_members x1 x2 z) gk_fu (0 : Int32)) (fun r => some r) (some (-1 : Int32))
set_option maxRecDepth 100000 in
set_option maxHeartbeats 4000000 in
theorem w_X6_failing_0 {p : Program} {l : Launch} {e : Env} {s : State} {m : MethodId} {args : Array Value} {below : List Frame} {meth : Method} {c : Code} {G : gk_G} {A : Nat → Prop} {Q : State → Prop} {a0 a1 a2 a3 a4 a5 a6 a7 a8 a9 a10 a11 a12 a13 a14 a15 a16 a17 a18 a19 a20 a21 : Nat} (C : gk_C p s m args meth c cX6_failing 6 (some .int) yX6_failing wsX6_failing false G A) {f_n : Int32} {f_members : (Nat → Int64)} {x1 : Int32} {x2 : Int32} {f_keptN : Int32} {f_side : Int32} {f_rows : Int32} {yy : Int32} (hm : m_X6_failing_0 f_n f_members x1 x2 = some yy) (kr : ∀ (rv : Int32), yy = rv → Q = MQ below (gk_Q G (some (.int rv)) [(a0, .inr (5, [.int f_n, .ref a1, .ref a2, .ref a3, .ref a4, .int f_keptN, .ref a5, .ref a6, .ref a7, .ref a8, .ref a9, .ref a10, .ref a11, .ref a12, .ref a13, .ref a14, .ref a15, .ref a16, .int f_side, .ref a17, .ref a18, .ref a19, .int f_rows, .ref a20, .ref a21])), (a1, gk_J G 6 f_members)] A) args s 0 0 A) {H : Heap} {locs : List Loc} {ls : Array Slot} (h : gk_H G A s [(a0, .inr (5, [.int f_n, .ref a1, .ref a2, .ref a3, .ref a4, .int f_keptN, .ref a5, .ref a6, .ref a7, .ref a8, .ref a9, .ref a10, .ref a11, .ref a12, .ref a13, .ref a14, .ref a15, .ref a16, .int f_side, .ref a17, .ref a18, .ref a19, .int f_rows, .ref a20, .ref a21])), (a1, gk_J G 6 f_members)] H locs) (hl : lv_has ls 6 [(0, .ref a0), (1, .int x1), (2, .int x2)]) : W p l e rm_X6_failing s m args below meth c H locs 0 0 Q (F0 m 0 ls []) := by
  obtain ⟨hx, hb, hml, hr, hown, hnm, hts, hlk, hK, hSt, hA⟩ := id C
  obtain ⟨hP, hD, hS⟩ := h
  unfold m_X6_failing_0 at hm
  refine lv_iconst (v := 0) hx hb dX6_failing_0 (by decide) ?_
  refine lv_istore_n (lv' := [(3, .int (0 : Int32)), (0, .ref a0), (1, .int x1), (2, .int x2)]) hx hb dX6_failing_1 rfl hl (by decide) rfl (fun ls hl => ?_)
  rcases gk_bs0_some hm with ⟨r24, hq, hm⟩ | ⟨hq, hm⟩
  · exact w_X6_failing_L2r C hq (kr _ (Option.some.inj hm).symm) ⟨hP, hD, hS⟩ (lv_sub hl [1, 2, 3, 0] rfl)
  refine w_X6_failing_L2 C hq (fun H locs ls h hl => ?_) ⟨hP, hD, hS⟩ (lv_sub hl [1, 2, 3, 0] rfl)
  obtain ⟨hP, hD, hS⟩ := h
  refine lv_iconst (v := -1) hx hb dX6_failing_123 (by decide) ?_
  rw [kr _ (Option.some.inj hm).symm]
  exact gk_iret C ⟨hP, hD, hS⟩ dX6_failing_124
def m_X6_failing (f_n : Int32) (f_members : (Nat → Int64)) (x1 : Int32) (x2 : Int32) : Option (Int32) := m_X6_failing_0 f_n f_members x1 x2
theorem c_X6_failing (l : Launch) (G : gk_G) (a0 a1 a2 a3 a4 a5 a6 a7 a8 a9 a10 a11 a12 a13 a14 a15 a16 a17 a18 a19 a20 a21 : Nat) (f_n : Int32) (f_keptN : Int32) (f_side : Int32) (f_rows : Int32) (f_members : (Nat → Int64)) (x1 : Int32) (x2 : Int32) {rv : Int32} (hm : m_X6_failing f_n f_members x1 x2 = some rv) : gk_M l yX6_failing wsX6_failing rm_X6_failing false G [.ref a0, .int x1, .int x2] [(a0, .inr (5, [.int f_n, .ref a1, .ref a2, .ref a3, .ref a4, .int f_keptN, .ref a5, .ref a6, .ref a7, .ref a8, .ref a9, .ref a10, .ref a11, .ref a12, .ref a13, .ref a14, .ref a15, .ref a16, .int f_side, .ref a17, .ref a18, .ref a19, .int f_rows, .ref a20, .ref a21])), (a1, gk_J G 6 f_members)] (some (.int rv)) [(a0, .inr (5, [.int f_n, .ref a1, .ref a2, .ref a3, .ref a4, .int f_keptN, .ref a5, .ref a6, .ref a7, .ref a8, .ref a9, .ref a10, .ref a11, .ref a12, .ref a13, .ref a14, .ref a15, .ref a16, .int f_side, .ref a17, .ref a18, .ref a19, .int f_rows, .ref a20, .ref a21])), (a1, gk_J G 6 f_members)] :=
  gk_of (by decide) rfl (Nat.le_of_ble_eq_true rfl) (fun p e s m below meth c A ls C h hl => w_X6_failing_0 C hm (fun v0 ez => by cases ez; rfl) h (show lv_has ls 6 [(0, .ref a0), (1, .int x1), (2, .int x2)] from hl))

