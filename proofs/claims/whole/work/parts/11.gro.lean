/-! ===== ExchangeFamilies.Ground.begin(I)V ===== -/
abbrev rm_X1_begin : Room := { frames := 5, cells := 0, slots := 0, locals := 235 }
theorem k_X1_begin_0 : ∀ w ∈ u_ws RX1 TX1 5, w ∈ wsX1_begin := by decide +kernel
theorem k_X1_begin_1 : Cond.fieldLink RX1 9 "ExchangeFamilies$Ground" "n" "I" ∈ wsX1_begin := by decide +kernel
theorem k_X1_begin_2 : Cond.fieldLink RX1 15 "ExchangeFamilies$Ground" "members" "[J" ∈ wsX1_begin := by decide +kernel
theorem k_X1_begin_3 : Cond.fieldLink RX1 19 "ExchangeFamilies$Ground" "kinds" "[I" ∈ wsX1_begin := by decide +kernel
theorem k_X1_begin_4 : Cond.fieldLink RX1 23 "ExchangeFamilies$Ground" "weights" "[I" ∈ wsX1_begin := by decide +kernel
theorem k_X1_begin_5 : Cond.fieldLink RX1 29 "ExchangeFamilies$Ground" "table" "LExchangeFamilies$Table;" ∈ wsX1_begin := by decide +kernel
def m_X1_begin_0 (f_n : Int32) (f_members : (Nat → Int64)) (f_kinds : (Nat → Int32)) (f_weights : (Nat → Int32)) (f_table_entries : (Nat → Int32)) (x1 : Int32) : Option (Int32 × (Nat → Int64) × (Nat → Int32) × (Nat → Int32) × (Nat → Int32)) := gk_bd1 (m_J7_fill_d0a16 6 f_members (0 : Int64)) (fun r1 => gk_bd1 (m_J7_fill_53178 6 f_kinds (-1 : Int32)) (fun r2 => gk_bd1 (m_J7_fill_53178 6 f_weights (0 : Int32)) (fun r3 => gk_bd1 (m_X4_wipe f_table_entries) (fun r4 => some (x1, r1, r2, r3, r4)))))
set_option maxRecDepth 100000 in
set_option maxHeartbeats 4000000 in
theorem w_X1_begin_0 {p : Program} {l : Launch} {e : Env} {s : State} {m : MethodId} {args : Array Value} {below : List Frame} {meth : Method} {c : Code} {G : gk_G} {A : Nat → Prop} {Q : State → Prop} {a0 a1 a2 a3 a4 a5 : Nat} (C : gk_C p s m args meth c cX1_begin 2 none yX1_begin wsX1_begin false G A) {f_n : Int32} {f_members : (Nat → Int64)} {f_kinds : (Nat → Int32)} {f_weights : (Nat → Int32)} {f_table_entries : (Nat → Int32)} {x1 : Int32} {yy : Int32 × (Nat → Int64) × (Nat → Int32) × (Nat → Int32) × (Nat → Int32)} (hm : m_X1_begin_0 f_n f_members f_kinds f_weights f_table_entries x1 = some yy) (kr : ∀ (g_n : Int32) (g_members : (Nat → Int64)) (g_kinds : (Nat → Int32)) (g_weights : (Nat → Int32)) (g_table_entries : (Nat → Int32)), yy = (g_n, g_members, g_kinds, g_weights, g_table_entries) → Q = MQ below (gk_Q G none [(a0, .inr (0, [.int g_n, .ref a1, .ref a2, .ref a3, .ref a4])), (a1, gk_J G 6 g_members), (a2, gk_I G 6 g_kinds), (a3, gk_I G 6 g_weights), (a4, .inr (3, [.ref a5])), (a5, gk_I G 36 g_table_entries)] A) args s 0 0 A) {H : Heap} {locs : List Loc} {ls : Array Slot} (h : gk_H G A s [(a0, .inr (0, [.int f_n, .ref a1, .ref a2, .ref a3, .ref a4])), (a1, gk_J G 6 f_members), (a2, gk_I G 6 f_kinds), (a3, gk_I G 6 f_weights), (a4, .inr (3, [.ref a5])), (a5, gk_I G 36 f_table_entries)] H locs) (hl : lv_has ls 2 [(0, .ref a0), (1, .int x1)]) : W p l e rm_X1_begin s m args below meth c H locs 0 0 Q (F0 m 0 ls []) := by
  obtain ⟨hx, hb, hml, hr, hown, hnm, hts, hlk, hK, hSt, hA⟩ := id C
  obtain ⟨hP, hD, hS⟩ := h
  unfold m_X1_begin_0 at hm
  refine lv_aload_n hx hb dX1_begin_0 rfl (lv_at hl 0 rfl) ?_
  refine lv_iload_n hx hb dX1_begin_1 rfl (lv_at hl 1 rfl) ?_
  refine va_put (D := G.1) (cl := vwCl) (own := RX1) (ref := "ExchangeFamilies$Ground") (ci := 0) (v := .int x1) (ty := .int) (C := RX1) (T := TX1) (N := 5) hx hb hts k_X1_begin_0 tyX1 tyX1_ok nmX1 hown hK hP hD hS 0 rfl rfl 0 (by decide) (hts _ k_X1_begin_1) (fun _ h9 => h9) rfl (by decide +kernel) rfl rfl (Nat.le_of_ble_eq_true rfl) dX1_begin_2 (fun H locs hP hD hS => ?_)
  have hP : va_P G.1 vwCl [(a0, .inr (0, [.int x1, .ref a1, .ref a2, .ref a3, .ref a4])), (a1, gk_J G 6 f_members), (a2, gk_I G 6 f_kinds), (a3, gk_I G 6 f_weights), (a4, .inr (3, [.ref a5])), (a5, gk_I G 36 f_table_entries)] H := hP
  have hD : va_D A [(a0, .inr (0, [.int x1, .ref a1, .ref a2, .ref a3, .ref a4])), (a1, gk_J G 6 f_members), (a2, gk_I G 6 f_kinds), (a3, gk_I G 6 f_weights), (a4, .inr (3, [.ref a5])), (a5, gk_I G 36 f_table_entries)] := hD
  refine lv_aload_n hx hb dX1_begin_5 rfl (lv_at hl 0 rfl) ?_
  refine va_get (D := G.1) (cl := vwCl) (own := RX1) (ref := "ExchangeFamilies$Ground") (ci := 0) (v := .ref a1) (C := RX1) (T := TX1) (N := 5) hx hb hts k_X1_begin_0 hown hK hP 0 rfl rfl 1 (by decide) (hts _ k_X1_begin_2) (fun _ h9 => h9) rfl dX1_begin_6 ?_
  refine lv_lconst (v := 0) hx hb dX1_begin_9 (by decide) ?_
  obtain ⟨r1, hq, hm⟩ := gk_bd1_some hm
  refine gk_callS (n := 2) (bytes := cJ7_fill_d0a16) (maxL := 5) (ret := none) [(a0, .inr (0, [.int x1, .ref a1, .ref a2, .ref a3, .ref a4])), (a2, gk_I G 6 f_kinds), (a3, gk_I G 6 f_weights), (a4, .inr (3, [.ref a5])), (a5, gk_I G 36 f_table_entries)] [(a0, .inr (0, [.int x1, .ref a1, .ref a2, .ref a3, .ref a4])), (a1, gk_J G 6 r1), (a2, gk_I G 6 f_kinds), (a3, gk_I G 6 f_weights), (a4, .inr (3, [.ref a5])), (a5, gk_I G 36 f_table_entries)] [] C ⟨hP, hD, hS⟩ (c_J7_fill_d0a16 l G a1 6 f_members (0 : Int64) hq) gX1_begin_J7_fill_d0a16 dX1_begin_10 hl.1 [1] [0, 2, 3, 4, 5] [0, 5, 1, 2, 3, 4] rfl ⟨rfl, rfl⟩ ⟨Nat.le_of_ble_eq_true rfl, Nat.le_of_ble_eq_true rfl⟩ ⟨by decide +kernel, by decide +kernel, by decide +kernel⟩ rfl (fun h => by cases h) (Nat.le_of_ble_eq_true rfl) rfl rfl rfl rfl (by decide) rfl rfl (fun H locs h => ?_)
  obtain ⟨hP, hD, hS⟩ := h
  refine lv_aload_n hx hb dX1_begin_13 rfl (lv_at hl 0 rfl) ?_
  refine va_get (D := G.1) (cl := vwCl) (own := RX1) (ref := "ExchangeFamilies$Ground") (ci := 0) (v := .ref a2) (C := RX1) (T := TX1) (N := 5) hx hb hts k_X1_begin_0 hown hK hP 0 rfl rfl 2 (by decide) (hts _ k_X1_begin_3) (fun _ h9 => h9) rfl dX1_begin_14 ?_
  refine lv_iconst (v := -1) hx hb dX1_begin_17 (by decide) ?_
  obtain ⟨r2, hq, hm⟩ := gk_bd1_some hm
  refine gk_callS (n := 2) (bytes := cJ7_fill_53178) (maxL := 4) (ret := none) [(a0, .inr (0, [.int x1, .ref a1, .ref a2, .ref a3, .ref a4])), (a1, gk_J G 6 r1), (a3, gk_I G 6 f_weights), (a4, .inr (3, [.ref a5])), (a5, gk_I G 36 f_table_entries)] [(a0, .inr (0, [.int x1, .ref a1, .ref a2, .ref a3, .ref a4])), (a1, gk_J G 6 r1), (a2, gk_I G 6 r2), (a3, gk_I G 6 f_weights), (a4, .inr (3, [.ref a5])), (a5, gk_I G 36 f_table_entries)] [] C ⟨hP, hD, hS⟩ (c_J7_fill_53178 l G a2 6 f_kinds (-1 : Int32) hq) gX1_begin_J7_fill_53178 dX1_begin_18 hl.1 [2] [0, 1, 3, 4, 5] [0, 1, 5, 2, 3, 4] rfl ⟨rfl, rfl⟩ ⟨Nat.le_of_ble_eq_true rfl, Nat.le_of_ble_eq_true rfl⟩ ⟨by decide +kernel, by decide +kernel, by decide +kernel⟩ rfl (fun h => by cases h) (Nat.le_of_ble_eq_true rfl) rfl rfl rfl rfl (by decide) rfl rfl (fun H locs h => ?_)
  obtain ⟨hP, hD, hS⟩ := h
  refine lv_aload_n hx hb dX1_begin_21 rfl (lv_at hl 0 rfl) ?_
  refine va_get (D := G.1) (cl := vwCl) (own := RX1) (ref := "ExchangeFamilies$Ground") (ci := 0) (v := .ref a3) (C := RX1) (T := TX1) (N := 5) hx hb hts k_X1_begin_0 hown hK hP 0 rfl rfl 3 (by decide) (hts _ k_X1_begin_4) (fun _ h9 => h9) rfl dX1_begin_22 ?_
  refine lv_iconst (v := 0) hx hb dX1_begin_25 (by decide) ?_
  obtain ⟨r3, hq, hm⟩ := gk_bd1_some hm
  refine gk_callS (n := 2) (bytes := cJ7_fill_53178) (maxL := 4) (ret := none) [(a0, .inr (0, [.int x1, .ref a1, .ref a2, .ref a3, .ref a4])), (a1, gk_J G 6 r1), (a2, gk_I G 6 r2), (a4, .inr (3, [.ref a5])), (a5, gk_I G 36 f_table_entries)] [(a0, .inr (0, [.int x1, .ref a1, .ref a2, .ref a3, .ref a4])), (a1, gk_J G 6 r1), (a2, gk_I G 6 r2), (a3, gk_I G 6 r3), (a4, .inr (3, [.ref a5])), (a5, gk_I G 36 f_table_entries)] [] C ⟨hP, hD, hS⟩ (c_J7_fill_53178 l G a3 6 f_weights (0 : Int32) hq) gX1_begin_J7_fill_53178 dX1_begin_26 hl.1 [3] [0, 1, 2, 4, 5] [0, 1, 2, 5, 3, 4] rfl ⟨rfl, rfl⟩ ⟨Nat.le_of_ble_eq_true rfl, Nat.le_of_ble_eq_true rfl⟩ ⟨by decide +kernel, by decide +kernel, by decide +kernel⟩ rfl (fun h => by cases h) (Nat.le_of_ble_eq_true rfl) rfl rfl rfl rfl (by decide) rfl rfl (fun H locs h => ?_)
  obtain ⟨hP, hD, hS⟩ := h
  refine lv_aload_n hx hb dX1_begin_29 rfl (lv_at hl 0 rfl) ?_
  refine va_get (D := G.1) (cl := vwCl) (own := RX1) (ref := "ExchangeFamilies$Ground") (ci := 0) (v := .ref a4) (C := RX1) (T := TX1) (N := 5) hx hb hts k_X1_begin_0 hown hK hP 0 rfl rfl 4 (by decide) (hts _ k_X1_begin_5) (fun _ h9 => h9) rfl dX1_begin_30 ?_
  obtain ⟨r4, hq, hm⟩ := gk_bd1_some hm
  refine gk_callV (n := 0) (bytes := cX4_wipe) (maxL := 1) (ret := none) (Cn := RX4) (T := TX4) (N := 1) [(a0, .inr (0, [.int x1, .ref a1, .ref a2, .ref a3, .ref a4])), (a1, gk_J G 6 r1), (a2, gk_I G 6 r2), (a3, gk_I G 6 r3)] [(a0, .inr (0, [.int x1, .ref a1, .ref a2, .ref a3, .ref a4])), (a1, gk_J G 6 r1), (a2, gk_I G 6 r2), (a3, gk_I G 6 r3), (a4, .inr (3, [.ref a5])), (a5, gk_I G 36 r4)] [] C ⟨hP, hD, hS⟩ (c_X4_wipe l G a4 a5 f_table_entries hq) gX1_begin_X4_wipe dX1_begin_33 hl.1 [4, 5] [0, 1, 2, 3] [0, 1, 2, 3, 4, 5] rfl rfl ⟨rfl, rfl⟩ ⟨Nat.le_of_ble_eq_true rfl, Nat.le_of_ble_eq_true rfl⟩ ⟨rfl, by decide +kernel, by decide +kernel, by decide +kernel⟩ rfl (fun h => by cases h) (Nat.le_of_ble_eq_true rfl) rfl rfl rfl rfl (by decide) rfl rfl (fun H locs h => ?_)
  obtain ⟨hP, hD, hS⟩ := h
  rw [kr _ _ _ _ _ (Option.some.inj hm).symm]
  exact gk_vret C ⟨hP, hD, hS⟩ dX1_begin_36
def m_X1_begin (f_n : Int32) (f_members : (Nat → Int64)) (f_kinds : (Nat → Int32)) (f_weights : (Nat → Int32)) (f_table_entries : (Nat → Int32)) (x1 : Int32) : Option (Int32 × (Nat → Int64) × (Nat → Int32) × (Nat → Int32) × (Nat → Int32)) := m_X1_begin_0 f_n f_members f_kinds f_weights f_table_entries x1
theorem c_X1_begin (l : Launch) (G : gk_G) (a0 a1 a2 a3 a4 a5 : Nat) (f_n : Int32) (f_members : (Nat → Int64)) (f_kinds : (Nat → Int32)) (f_weights : (Nat → Int32)) (f_table_entries : (Nat → Int32)) (x1 : Int32) {g_n : Int32} {g_members : (Nat → Int64)} {g_kinds : (Nat → Int32)} {g_weights : (Nat → Int32)} {g_table_entries : (Nat → Int32)} (hm : m_X1_begin f_n f_members f_kinds f_weights f_table_entries x1 = some (g_n, g_members, g_kinds, g_weights, g_table_entries)) : gk_M l yX1_begin wsX1_begin rm_X1_begin false G [.ref a0, .int x1] [(a0, .inr (0, [.int f_n, .ref a1, .ref a2, .ref a3, .ref a4])), (a1, gk_J G 6 f_members), (a2, gk_I G 6 f_kinds), (a3, gk_I G 6 f_weights), (a4, .inr (3, [.ref a5])), (a5, gk_I G 36 f_table_entries)] none [(a0, .inr (0, [.int g_n, .ref a1, .ref a2, .ref a3, .ref a4])), (a1, gk_J G 6 g_members), (a2, gk_I G 6 g_kinds), (a3, gk_I G 6 g_weights), (a4, .inr (3, [.ref a5])), (a5, gk_I G 36 g_table_entries)] :=
  gk_of (by decide) rfl (Nat.le_of_ble_eq_true rfl) (fun p e s m below meth c A ls C h hl => w_X1_begin_0 C hm (fun v0 v1 v2 v3 v4 ez => by cases ez; rfl) h (show lv_has ls 2 [(0, .ref a0), (1, .int x1)] from hl))

/-! ===== ExchangeFamilies.Ground.takeOver(LExchangeFamilies$Ground;)V ===== -/
abbrev rm_X1_takeOver : Room := { frames := 3, cells := 0, slots := 0, locals := 149 }
theorem k_X1_takeOver_0 : ∀ w ∈ u_ws RX1 TX1 5, w ∈ wsX1_takeOver := by decide +kernel
theorem k_X1_takeOver_1 : Cond.fieldLink RX1 9 "ExchangeFamilies$Ground" "n" "I" ∈ wsX1_takeOver := by decide +kernel
theorem k_X1_takeOver_2 : Cond.fieldLink RX1 15 "ExchangeFamilies$Ground" "members" "[J" ∈ wsX1_takeOver := by decide +kernel
theorem k_X1_takeOver_3 : Cond.methodLink RX1 45 arraycopyName ∈ wsX1_takeOver := by decide +kernel
theorem k_X1_takeOver_4 : Cond.native arraycopyName ∈ wsX1_takeOver := by decide +kernel
theorem k_X1_takeOver_5 : Cond.static arraycopyName ∈ wsX1_takeOver := by decide +kernel
theorem k_X1_takeOver_6 : Cond.initialized "java/lang/System" ∈ wsX1_takeOver := by decide +kernel
theorem k_X1_takeOver_7 : Cond.fieldLink RX1 19 "ExchangeFamilies$Ground" "kinds" "[I" ∈ wsX1_takeOver := by decide +kernel
theorem k_X1_takeOver_8 : Cond.fieldLink RX1 23 "ExchangeFamilies$Ground" "weights" "[I" ∈ wsX1_takeOver := by decide +kernel
theorem k_X1_takeOver_9 : Cond.fieldLink RX1 29 "ExchangeFamilies$Ground" "table" "LExchangeFamilies$Table;" ∈ wsX1_takeOver := by decide +kernel
def m_X1_takeOver_0 (f_n : Int32) (f_members : (Nat → Int64)) (f_kinds : (Nat → Int32)) (f_weights : (Nat → Int32)) (f_table_entries : (Nat → Int32)) (f_o0_n : Int32) (f_o0_members : (Nat → Int64)) (f_o0_kinds : (Nat → Int32)) (f_o0_weights : (Nat → Int32)) (f_o0_table_entries : (Nat → Int32)) : Option (Int32 × (Nat → Int64) × (Nat → Int32) × (Nat → Int32) × (Nat → Int32)) := gk_cp (0 : Int32) (0 : Int32) (6 : Int32) 6 6 (gk_cp (0 : Int32) (0 : Int32) (6 : Int32) 6 6 (gk_cp (0 : Int32) (0 : Int32) (6 : Int32) 6 6 (gk_bd1 (m_X4_takeOver f_table_entries f_o0_table_entries) (fun r1 => some (f_o0_n, va_cpy f_o0_members f_members (0 : Int32).toNatClampNeg (0 : Int32).toNatClampNeg (6 : Int32).toNatClampNeg, va_cpy f_o0_kinds f_kinds (0 : Int32).toNatClampNeg (0 : Int32).toNatClampNeg (6 : Int32).toNatClampNeg, va_cpy f_o0_weights f_weights (0 : Int32).toNatClampNeg (0 : Int32).toNatClampNeg (6 : Int32).toNatClampNeg, r1)))))
set_option maxRecDepth 100000 in
set_option maxHeartbeats 4000000 in
theorem w_X1_takeOver_0 {p : Program} {l : Launch} {e : Env} {s : State} {m : MethodId} {args : Array Value} {below : List Frame} {meth : Method} {c : Code} {G : gk_G} {A : Nat → Prop} {Q : State → Prop} {a0 a1 a2 a3 a4 a5 b0 b1 b2 b3 b4 b5 : Nat} (C : gk_C p s m args meth c cX1_takeOver 2 none yX1_takeOver wsX1_takeOver false G A) {f_n : Int32} {f_members : (Nat → Int64)} {f_kinds : (Nat → Int32)} {f_weights : (Nat → Int32)} {f_table_entries : (Nat → Int32)} {f_o0_n : Int32} {f_o0_members : (Nat → Int64)} {f_o0_kinds : (Nat → Int32)} {f_o0_weights : (Nat → Int32)} {f_o0_table_entries : (Nat → Int32)} {yy : Int32 × (Nat → Int64) × (Nat → Int32) × (Nat → Int32) × (Nat → Int32)} (hm : m_X1_takeOver_0 f_n f_members f_kinds f_weights f_table_entries f_o0_n f_o0_members f_o0_kinds f_o0_weights f_o0_table_entries = some yy) (kr : ∀ (g_n : Int32) (g_members : (Nat → Int64)) (g_kinds : (Nat → Int32)) (g_weights : (Nat → Int32)) (g_table_entries : (Nat → Int32)), yy = (g_n, g_members, g_kinds, g_weights, g_table_entries) → Q = MQ below (gk_Q G none [(a0, .inr (0, [.int g_n, .ref a1, .ref a2, .ref a3, .ref a4])), (a1, gk_J G 6 g_members), (a2, gk_I G 6 g_kinds), (a3, gk_I G 6 g_weights), (a4, .inr (3, [.ref a5])), (a5, gk_I G 36 g_table_entries), (b0, .inr (0, [.int f_o0_n, .ref b1, .ref b2, .ref b3, .ref b4])), (b1, gk_J G 6 f_o0_members), (b2, gk_I G 6 f_o0_kinds), (b3, gk_I G 6 f_o0_weights), (b4, .inr (3, [.ref b5])), (b5, gk_I G 36 f_o0_table_entries)] A) args s 0 0 A) {H : Heap} {locs : List Loc} {ls : Array Slot} (h : gk_H G A s [(a0, .inr (0, [.int f_n, .ref a1, .ref a2, .ref a3, .ref a4])), (a1, gk_J G 6 f_members), (a2, gk_I G 6 f_kinds), (a3, gk_I G 6 f_weights), (a4, .inr (3, [.ref a5])), (a5, gk_I G 36 f_table_entries), (b0, .inr (0, [.int f_o0_n, .ref b1, .ref b2, .ref b3, .ref b4])), (b1, gk_J G 6 f_o0_members), (b2, gk_I G 6 f_o0_kinds), (b3, gk_I G 6 f_o0_weights), (b4, .inr (3, [.ref b5])), (b5, gk_I G 36 f_o0_table_entries)] H locs) (hl : lv_has ls 2 [(0, .ref a0), (1, .ref b0)]) : W p l e rm_X1_takeOver s m args below meth c H locs 0 0 Q (F0 m 0 ls []) := by
  obtain ⟨hx, hb, hml, hr, hown, hnm, hts, hlk, hK, hSt, hA⟩ := id C
  obtain ⟨hP, hD, hS⟩ := h
  unfold m_X1_takeOver_0 at hm
  refine lv_aload_n hx hb dX1_takeOver_0 rfl (lv_at hl 0 rfl) ?_
  refine lv_aload_n hx hb dX1_takeOver_1 rfl (lv_at hl 1 rfl) ?_
  refine va_get (D := G.1) (cl := vwCl) (own := RX1) (ref := "ExchangeFamilies$Ground") (ci := 0) (v := .int f_o0_n) (C := RX1) (T := TX1) (N := 5) hx hb hts k_X1_takeOver_0 hown hK hP 6 rfl rfl 0 (by decide) (hts _ k_X1_takeOver_1) (fun _ h9 => h9) rfl dX1_takeOver_2 ?_
  refine va_put (D := G.1) (cl := vwCl) (own := RX1) (ref := "ExchangeFamilies$Ground") (ci := 0) (v := .int f_o0_n) (ty := .int) (C := RX1) (T := TX1) (N := 5) hx hb hts k_X1_takeOver_0 tyX1 tyX1_ok nmX1 hown hK hP hD hS 0 rfl rfl 0 (by decide) (hts _ k_X1_takeOver_1) (fun _ h9 => h9) rfl (by decide +kernel) rfl rfl (Nat.le_of_ble_eq_true rfl) dX1_takeOver_5 (fun H locs hP hD hS => ?_)
  have hP : va_P G.1 vwCl [(a0, .inr (0, [.int f_o0_n, .ref a1, .ref a2, .ref a3, .ref a4])), (a1, gk_J G 6 f_members), (a2, gk_I G 6 f_kinds), (a3, gk_I G 6 f_weights), (a4, .inr (3, [.ref a5])), (a5, gk_I G 36 f_table_entries), (b0, .inr (0, [.int f_o0_n, .ref b1, .ref b2, .ref b3, .ref b4])), (b1, gk_J G 6 f_o0_members), (b2, gk_I G 6 f_o0_kinds), (b3, gk_I G 6 f_o0_weights), (b4, .inr (3, [.ref b5])), (b5, gk_I G 36 f_o0_table_entries)] H := hP
  have hD : va_D A [(a0, .inr (0, [.int f_o0_n, .ref a1, .ref a2, .ref a3, .ref a4])), (a1, gk_J G 6 f_members), (a2, gk_I G 6 f_kinds), (a3, gk_I G 6 f_weights), (a4, .inr (3, [.ref a5])), (a5, gk_I G 36 f_table_entries), (b0, .inr (0, [.int f_o0_n, .ref b1, .ref b2, .ref b3, .ref b4])), (b1, gk_J G 6 f_o0_members), (b2, gk_I G 6 f_o0_kinds), (b3, gk_I G 6 f_o0_weights), (b4, .inr (3, [.ref b5])), (b5, gk_I G 36 f_o0_table_entries)] := hD
  refine lv_aload_n hx hb dX1_takeOver_8 rfl (lv_at hl 1 rfl) ?_
  refine va_get (D := G.1) (cl := vwCl) (own := RX1) (ref := "ExchangeFamilies$Ground") (ci := 0) (v := .ref b1) (C := RX1) (T := TX1) (N := 5) hx hb hts k_X1_takeOver_0 hown hK hP 6 rfl rfl 1 (by decide) (hts _ k_X1_takeOver_2) (fun _ h9 => h9) rfl dX1_takeOver_9 ?_
  refine lv_iconst (v := 0) hx hb dX1_takeOver_12 (by decide) ?_
  refine lv_aload_n hx hb dX1_takeOver_13 rfl (lv_at hl 0 rfl) ?_
  refine va_get (D := G.1) (cl := vwCl) (own := RX1) (ref := "ExchangeFamilies$Ground") (ci := 0) (v := .ref a1) (C := RX1) (T := TX1) (N := 5) hx hb hts k_X1_takeOver_0 hown hK hP 0 rfl rfl 1 (by decide) (hts _ k_X1_takeOver_2) (fun _ h9 => h9) rfl dX1_takeOver_14 ?_
  refine lv_iconst (v := 0) hx hb dX1_takeOver_17 (by decide) ?_
  refine lv_bipush (v := 6) hx hb dX1_takeOver_18 (by decide) ?_
  obtain ⟨⟨hc1, hc2, hc3, hc4, hc5⟩, hm⟩ := gk_cp_some hm
  refine va_copyl (own := RX1) hx hb (by rw [hml]; exact hl.1.symm) hown (hts _ k_X1_takeOver_3) (hts _ k_X1_takeOver_4) (hts _ k_X1_takeOver_5) (hts _ k_X1_takeOver_6) hK hP hD hS 7 1 1 1 rfl rfl rfl rfl rfl hc1 hc2 hc3 hc4 hc5 (fun _ _ => rfl) (Nat.le_of_ble_eq_true rfl) (Nat.le_of_ble_eq_true rfl) dX1_takeOver_20 (fun H locs hP hD hS => ?_)
  have hP : va_P G.1 vwCl [(a0, .inr (0, [.int f_o0_n, .ref a1, .ref a2, .ref a3, .ref a4])), (a1, gk_J G 6 (va_cpy f_o0_members f_members (0 : Int32).toNatClampNeg (0 : Int32).toNatClampNeg (6 : Int32).toNatClampNeg)), (a2, gk_I G 6 f_kinds), (a3, gk_I G 6 f_weights), (a4, .inr (3, [.ref a5])), (a5, gk_I G 36 f_table_entries), (b0, .inr (0, [.int f_o0_n, .ref b1, .ref b2, .ref b3, .ref b4])), (b1, gk_J G 6 f_o0_members), (b2, gk_I G 6 f_o0_kinds), (b3, gk_I G 6 f_o0_weights), (b4, .inr (3, [.ref b5])), (b5, gk_I G 36 f_o0_table_entries)] H := hP
  have hD : va_D A [(a0, .inr (0, [.int f_o0_n, .ref a1, .ref a2, .ref a3, .ref a4])), (a1, gk_J G 6 (va_cpy f_o0_members f_members (0 : Int32).toNatClampNeg (0 : Int32).toNatClampNeg (6 : Int32).toNatClampNeg)), (a2, gk_I G 6 f_kinds), (a3, gk_I G 6 f_weights), (a4, .inr (3, [.ref a5])), (a5, gk_I G 36 f_table_entries), (b0, .inr (0, [.int f_o0_n, .ref b1, .ref b2, .ref b3, .ref b4])), (b1, gk_J G 6 f_o0_members), (b2, gk_I G 6 f_o0_kinds), (b3, gk_I G 6 f_o0_weights), (b4, .inr (3, [.ref b5])), (b5, gk_I G 36 f_o0_table_entries)] := hD
  refine lv_aload_n hx hb dX1_takeOver_23 rfl (lv_at hl 1 rfl) ?_
  refine va_get (D := G.1) (cl := vwCl) (own := RX1) (ref := "ExchangeFamilies$Ground") (ci := 0) (v := .ref b2) (C := RX1) (T := TX1) (N := 5) hx hb hts k_X1_takeOver_0 hown hK hP 6 rfl rfl 2 (by decide) (hts _ k_X1_takeOver_7) (fun _ h9 => h9) rfl dX1_takeOver_24 ?_
  refine lv_iconst (v := 0) hx hb dX1_takeOver_27 (by decide) ?_
  refine lv_aload_n hx hb dX1_takeOver_28 rfl (lv_at hl 0 rfl) ?_
  refine va_get (D := G.1) (cl := vwCl) (own := RX1) (ref := "ExchangeFamilies$Ground") (ci := 0) (v := .ref a2) (C := RX1) (T := TX1) (N := 5) hx hb hts k_X1_takeOver_0 hown hK hP 0 rfl rfl 2 (by decide) (hts _ k_X1_takeOver_7) (fun _ h9 => h9) rfl dX1_takeOver_29 ?_
  refine lv_iconst (v := 0) hx hb dX1_takeOver_32 (by decide) ?_
  refine lv_bipush (v := 6) hx hb dX1_takeOver_33 (by decide) ?_
  obtain ⟨⟨hc1, hc2, hc3, hc4, hc5⟩, hm⟩ := gk_cp_some hm
  refine va_copyi (own := RX1) hx hb (by rw [hml]; exact hl.1.symm) hown (hts _ k_X1_takeOver_3) (hts _ k_X1_takeOver_4) (hts _ k_X1_takeOver_5) (hts _ k_X1_takeOver_6) hK hP hD hS 8 2 0 0 rfl rfl rfl rfl rfl hc1 hc2 hc3 hc4 hc5 (fun _ _ => rfl) (Nat.le_of_ble_eq_true rfl) (Nat.le_of_ble_eq_true rfl) dX1_takeOver_35 (fun H locs hP hD hS => ?_)
  have hP : va_P G.1 vwCl [(a0, .inr (0, [.int f_o0_n, .ref a1, .ref a2, .ref a3, .ref a4])), (a1, gk_J G 6 (va_cpy f_o0_members f_members (0 : Int32).toNatClampNeg (0 : Int32).toNatClampNeg (6 : Int32).toNatClampNeg)), (a2, gk_I G 6 (va_cpy f_o0_kinds f_kinds (0 : Int32).toNatClampNeg (0 : Int32).toNatClampNeg (6 : Int32).toNatClampNeg)), (a3, gk_I G 6 f_weights), (a4, .inr (3, [.ref a5])), (a5, gk_I G 36 f_table_entries), (b0, .inr (0, [.int f_o0_n, .ref b1, .ref b2, .ref b3, .ref b4])), (b1, gk_J G 6 f_o0_members), (b2, gk_I G 6 f_o0_kinds), (b3, gk_I G 6 f_o0_weights), (b4, .inr (3, [.ref b5])), (b5, gk_I G 36 f_o0_table_entries)] H := hP
  have hD : va_D A [(a0, .inr (0, [.int f_o0_n, .ref a1, .ref a2, .ref a3, .ref a4])), (a1, gk_J G 6 (va_cpy f_o0_members f_members (0 : Int32).toNatClampNeg (0 : Int32).toNatClampNeg (6 : Int32).toNatClampNeg)), (a2, gk_I G 6 (va_cpy f_o0_kinds f_kinds (0 : Int32).toNatClampNeg (0 : Int32).toNatClampNeg (6 : Int32).toNatClampNeg)), (a3, gk_I G 6 f_weights), (a4, .inr (3, [.ref a5])), (a5, gk_I G 36 f_table_entries), (b0, .inr (0, [.int f_o0_n, .ref b1, .ref b2, .ref b3, .ref b4])), (b1, gk_J G 6 f_o0_members), (b2, gk_I G 6 f_o0_kinds), (b3, gk_I G 6 f_o0_weights), (b4, .inr (3, [.ref b5])), (b5, gk_I G 36 f_o0_table_entries)] := hD
  refine lv_aload_n hx hb dX1_takeOver_38 rfl (lv_at hl 1 rfl) ?_
  refine va_get (D := G.1) (cl := vwCl) (own := RX1) (ref := "ExchangeFamilies$Ground") (ci := 0) (v := .ref b3) (C := RX1) (T := TX1) (N := 5) hx hb hts k_X1_takeOver_0 hown hK hP 6 rfl rfl 3 (by decide) (hts _ k_X1_takeOver_8) (fun _ h9 => h9) rfl dX1_takeOver_39 ?_
  refine lv_iconst (v := 0) hx hb dX1_takeOver_42 (by decide) ?_
  refine lv_aload_n hx hb dX1_takeOver_43 rfl (lv_at hl 0 rfl) ?_
  refine va_get (D := G.1) (cl := vwCl) (own := RX1) (ref := "ExchangeFamilies$Ground") (ci := 0) (v := .ref a3) (C := RX1) (T := TX1) (N := 5) hx hb hts k_X1_takeOver_0 hown hK hP 0 rfl rfl 3 (by decide) (hts _ k_X1_takeOver_8) (fun _ h9 => h9) rfl dX1_takeOver_44 ?_
  refine lv_iconst (v := 0) hx hb dX1_takeOver_47 (by decide) ?_
  refine lv_bipush (v := 6) hx hb dX1_takeOver_48 (by decide) ?_
  obtain ⟨⟨hc1, hc2, hc3, hc4, hc5⟩, hm⟩ := gk_cp_some hm
  refine va_copyi (own := RX1) hx hb (by rw [hml]; exact hl.1.symm) hown (hts _ k_X1_takeOver_3) (hts _ k_X1_takeOver_4) (hts _ k_X1_takeOver_5) (hts _ k_X1_takeOver_6) hK hP hD hS 9 3 0 0 rfl rfl rfl rfl rfl hc1 hc2 hc3 hc4 hc5 (fun _ _ => rfl) (Nat.le_of_ble_eq_true rfl) (Nat.le_of_ble_eq_true rfl) dX1_takeOver_50 (fun H locs hP hD hS => ?_)
  have hP : va_P G.1 vwCl [(a0, .inr (0, [.int f_o0_n, .ref a1, .ref a2, .ref a3, .ref a4])), (a1, gk_J G 6 (va_cpy f_o0_members f_members (0 : Int32).toNatClampNeg (0 : Int32).toNatClampNeg (6 : Int32).toNatClampNeg)), (a2, gk_I G 6 (va_cpy f_o0_kinds f_kinds (0 : Int32).toNatClampNeg (0 : Int32).toNatClampNeg (6 : Int32).toNatClampNeg)), (a3, gk_I G 6 (va_cpy f_o0_weights f_weights (0 : Int32).toNatClampNeg (0 : Int32).toNatClampNeg (6 : Int32).toNatClampNeg)), (a4, .inr (3, [.ref a5])), (a5, gk_I G 36 f_table_entries), (b0, .inr (0, [.int f_o0_n, .ref b1, .ref b2, .ref b3, .ref b4])), (b1, gk_J G 6 f_o0_members), (b2, gk_I G 6 f_o0_kinds), (b3, gk_I G 6 f_o0_weights), (b4, .inr (3, [.ref b5])), (b5, gk_I G 36 f_o0_table_entries)] H := hP
  have hD : va_D A [(a0, .inr (0, [.int f_o0_n, .ref a1, .ref a2, .ref a3, .ref a4])), (a1, gk_J G 6 (va_cpy f_o0_members f_members (0 : Int32).toNatClampNeg (0 : Int32).toNatClampNeg (6 : Int32).toNatClampNeg)), (a2, gk_I G 6 (va_cpy f_o0_kinds f_kinds (0 : Int32).toNatClampNeg (0 : Int32).toNatClampNeg (6 : Int32).toNatClampNeg)), (a3, gk_I G 6 (va_cpy f_o0_weights f_weights (0 : Int32).toNatClampNeg (0 : Int32).toNatClampNeg (6 : Int32).toNatClampNeg)), (a4, .inr (3, [.ref a5])), (a5, gk_I G 36 f_table_entries), (b0, .inr (0, [.int f_o0_n, .ref b1, .ref b2, .ref b3, .ref b4])), (b1, gk_J G 6 f_o0_members), (b2, gk_I G 6 f_o0_kinds), (b3, gk_I G 6 f_o0_weights), (b4, .inr (3, [.ref b5])), (b5, gk_I G 36 f_o0_table_entries)] := hD
  refine lv_aload_n hx hb dX1_takeOver_53 rfl (lv_at hl 0 rfl) ?_
  refine va_get (D := G.1) (cl := vwCl) (own := RX1) (ref := "ExchangeFamilies$Ground") (ci := 0) (v := .ref a4) (C := RX1) (T := TX1) (N := 5) hx hb hts k_X1_takeOver_0 hown hK hP 0 rfl rfl 4 (by decide) (hts _ k_X1_takeOver_9) (fun _ h9 => h9) rfl dX1_takeOver_54 ?_
  refine lv_aload_n hx hb dX1_takeOver_57 rfl (lv_at hl 1 rfl) ?_
  refine va_get (D := G.1) (cl := vwCl) (own := RX1) (ref := "ExchangeFamilies$Ground") (ci := 0) (v := .ref b4) (C := RX1) (T := TX1) (N := 5) hx hb hts k_X1_takeOver_0 hown hK hP 6 rfl rfl 4 (by decide) (hts _ k_X1_takeOver_9) (fun _ h9 => h9) rfl dX1_takeOver_58 ?_
  obtain ⟨r1, hq, hm⟩ := gk_bd1_some hm
  refine gk_callV (n := 1) (bytes := cX4_takeOver) (maxL := 2) (ret := none) (Cn := RX4) (T := TX4) (N := 1) [(a0, .inr (0, [.int f_o0_n, .ref a1, .ref a2, .ref a3, .ref a4])), (a1, gk_J G 6 (va_cpy f_o0_members f_members (0 : Int32).toNatClampNeg (0 : Int32).toNatClampNeg (6 : Int32).toNatClampNeg)), (a2, gk_I G 6 (va_cpy f_o0_kinds f_kinds (0 : Int32).toNatClampNeg (0 : Int32).toNatClampNeg (6 : Int32).toNatClampNeg)), (a3, gk_I G 6 (va_cpy f_o0_weights f_weights (0 : Int32).toNatClampNeg (0 : Int32).toNatClampNeg (6 : Int32).toNatClampNeg)), (b0, .inr (0, [.int f_o0_n, .ref b1, .ref b2, .ref b3, .ref b4])), (b1, gk_J G 6 f_o0_members), (b2, gk_I G 6 f_o0_kinds), (b3, gk_I G 6 f_o0_weights)] [(a0, .inr (0, [.int f_o0_n, .ref a1, .ref a2, .ref a3, .ref a4])), (a1, gk_J G 6 (va_cpy f_o0_members f_members (0 : Int32).toNatClampNeg (0 : Int32).toNatClampNeg (6 : Int32).toNatClampNeg)), (a2, gk_I G 6 (va_cpy f_o0_kinds f_kinds (0 : Int32).toNatClampNeg (0 : Int32).toNatClampNeg (6 : Int32).toNatClampNeg)), (a3, gk_I G 6 (va_cpy f_o0_weights f_weights (0 : Int32).toNatClampNeg (0 : Int32).toNatClampNeg (6 : Int32).toNatClampNeg)), (a4, .inr (3, [.ref a5])), (a5, gk_I G 36 r1), (b0, .inr (0, [.int f_o0_n, .ref b1, .ref b2, .ref b3, .ref b4])), (b1, gk_J G 6 f_o0_members), (b2, gk_I G 6 f_o0_kinds), (b3, gk_I G 6 f_o0_weights), (b4, .inr (3, [.ref b5])), (b5, gk_I G 36 f_o0_table_entries)] [] C ⟨hP, hD, hS⟩ (c_X4_takeOver l G a4 a5 b4 b5 f_table_entries f_o0_table_entries hq) gX1_takeOver_X4_takeOver dX1_takeOver_61 hl.1 [4, 5, 10, 11] [0, 1, 2, 3, 6, 7, 8, 9] [0, 1, 2, 3, 8, 9, 4, 5, 6, 7, 10, 11] rfl rfl ⟨rfl, rfl⟩ ⟨Nat.le_of_ble_eq_true rfl, Nat.le_of_ble_eq_true rfl⟩ ⟨rfl, by decide +kernel, by decide +kernel, by decide +kernel⟩ rfl (fun h => by cases h) (Nat.le_of_ble_eq_true rfl) rfl rfl rfl rfl (by decide) rfl rfl (fun H locs h => ?_)
  obtain ⟨hP, hD, hS⟩ := h
  rw [kr _ _ _ _ _ (Option.some.inj hm).symm]
  exact gk_vret C ⟨hP, hD, hS⟩ dX1_takeOver_64
def m_X1_takeOver (f_n : Int32) (f_members : (Nat → Int64)) (f_kinds : (Nat → Int32)) (f_weights : (Nat → Int32)) (f_table_entries : (Nat → Int32)) (f_o0_n : Int32) (f_o0_members : (Nat → Int64)) (f_o0_kinds : (Nat → Int32)) (f_o0_weights : (Nat → Int32)) (f_o0_table_entries : (Nat → Int32)) : Option (Int32 × (Nat → Int64) × (Nat → Int32) × (Nat → Int32) × (Nat → Int32)) := m_X1_takeOver_0 f_n f_members f_kinds f_weights f_table_entries f_o0_n f_o0_members f_o0_kinds f_o0_weights f_o0_table_entries
theorem c_X1_takeOver (l : Launch) (G : gk_G) (a0 a1 a2 a3 a4 a5 b0 b1 b2 b3 b4 b5 : Nat) (f_n : Int32) (f_members : (Nat → Int64)) (f_kinds : (Nat → Int32)) (f_weights : (Nat → Int32)) (f_table_entries : (Nat → Int32)) (f_o0_n : Int32) (f_o0_members : (Nat → Int64)) (f_o0_kinds : (Nat → Int32)) (f_o0_weights : (Nat → Int32)) (f_o0_table_entries : (Nat → Int32)) {g_n : Int32} {g_members : (Nat → Int64)} {g_kinds : (Nat → Int32)} {g_weights : (Nat → Int32)} {g_table_entries : (Nat → Int32)} (hm : m_X1_takeOver f_n f_members f_kinds f_weights f_table_entries f_o0_n f_o0_members f_o0_kinds f_o0_weights f_o0_table_entries = some (g_n, g_members, g_kinds, g_weights, g_table_entries)) : gk_M l yX1_takeOver wsX1_takeOver rm_X1_takeOver false G [.ref a0, .ref b0] [(a0, .inr (0, [.int f_n, .ref a1, .ref a2, .ref a3, .ref a4])), (a1, gk_J G 6 f_members), (a2, gk_I G 6 f_kinds), (a3, gk_I G 6 f_weights), (a4, .inr (3, [.ref a5])), (a5, gk_I G 36 f_table_entries), (b0, .inr (0, [.int f_o0_n, .ref b1, .ref b2, .ref b3, .ref b4])), (b1, gk_J G 6 f_o0_members), (b2, gk_I G 6 f_o0_kinds), (b3, gk_I G 6 f_o0_weights), (b4, .inr (3, [.ref b5])), (b5, gk_I G 36 f_o0_table_entries)] none [(a0, .inr (0, [.int g_n, .ref a1, .ref a2, .ref a3, .ref a4])), (a1, gk_J G 6 g_members), (a2, gk_I G 6 g_kinds), (a3, gk_I G 6 g_weights), (a4, .inr (3, [.ref a5])), (a5, gk_I G 36 g_table_entries), (b0, .inr (0, [.int f_o0_n, .ref b1, .ref b2, .ref b3, .ref b4])), (b1, gk_J G 6 f_o0_members), (b2, gk_I G 6 f_o0_kinds), (b3, gk_I G 6 f_o0_weights), (b4, .inr (3, [.ref b5])), (b5, gk_I G 36 f_o0_table_entries)] :=
  gk_of (by decide) rfl (Nat.le_of_ble_eq_true rfl) (fun p e s m below meth c A ls C h hl => w_X1_takeOver_0 C hm (fun v0 v1 v2 v3 v4 ez => by cases ez; rfl) h (show lv_has ls 2 [(0, .ref a0), (1, .ref b0)] from hl))

/-! ===== ExchangeFamilies.Ground.isMissing(I)Z ===== -/
abbrev rm_X1_isMissing : Room := { frames := 1, cells := 0, slots := 0, locals := 64 }
theorem k_X1_isMissing_0 : ∀ w ∈ u_ws RX1 TX1 5, w ∈ wsX1_isMissing := by decide +kernel
theorem k_X1_isMissing_1 : Cond.fieldLink RX1 19 "ExchangeFamilies$Ground" "kinds" "[I" ∈ wsX1_isMissing := by decide +kernel
def m_X1_isMissing_0 (f_kinds : (Nat → Int32)) (x1 : Int32) : Option (Int32) := gk_ix x1 6 ((if (f_kinds x1.toNatClampNeg) = (-1 : Int32) then some (1 : Int32) else some (0 : Int32)))
set_option maxRecDepth 100000 in
set_option maxHeartbeats 4000000 in
theorem w_X1_isMissing_0 {p : Program} {l : Launch} {e : Env} {s : State} {m : MethodId} {args : Array Value} {below : List Frame} {meth : Method} {c : Code} {G : gk_G} {A : Nat → Prop} {Q : State → Prop} {a0 a1 a2 a3 a4 : Nat} (C : gk_C p s m args meth c cX1_isMissing 2 (some .boolean) yX1_isMissing wsX1_isMissing false G A) {f_kinds : (Nat → Int32)} {x1 : Int32} {f_n : Int32} {yy : Int32} (hm : m_X1_isMissing_0 f_kinds x1 = some yy) (kr : ∀ (rv : Int32), yy = rv → Q = MQ below (gk_Q G (some (.int rv)) [(a0, .inr (0, [.int f_n, .ref a1, .ref a2, .ref a3, .ref a4])), (a2, gk_I G 6 f_kinds)] A) args s 0 0 A) {H : Heap} {locs : List Loc} {ls : Array Slot} (h : gk_H G A s [(a0, .inr (0, [.int f_n, .ref a1, .ref a2, .ref a3, .ref a4])), (a2, gk_I G 6 f_kinds)] H locs) (hl : lv_has ls 2 [(0, .ref a0), (1, .int x1)]) : W p l e rm_X1_isMissing s m args below meth c H locs 0 0 Q (F0 m 0 ls []) := by
  obtain ⟨hx, hb, hml, hr, hown, hnm, hts, hlk, hK, hSt, hA⟩ := id C
  obtain ⟨hP, hD, hS⟩ := h
  unfold m_X1_isMissing_0 at hm
  refine lv_aload_n hx hb dX1_isMissing_0 rfl (lv_at hl 0 rfl) ?_
  refine va_get (D := G.1) (cl := vwCl) (own := RX1) (ref := "ExchangeFamilies$Ground") (ci := 0) (v := .ref a2) (C := RX1) (T := TX1) (N := 5) hx hb hts k_X1_isMissing_0 hown hK hP 0 rfl rfl 2 (by decide) (hts _ k_X1_isMissing_1) (fun _ h9 => h9) rfl dX1_isMissing_1 ?_
  refine lv_iload_n hx hb dX1_isMissing_4 rfl (lv_at hl 1 rfl) ?_
  obtain ⟨hi, hm⟩ := gk_ix_some hm
  refine va_iald hx hb hK hP 1 0 rfl rfl hi dX1_isMissing_5 ?_
  refine lv_iconst (v := -1) hx hb dX1_isMissing_6 (by decide) ?_
  refine lv_icmp_ne (tgt := 14) hx hb dX1_isMissing_7 (by decide) (fun c2 => ?_) (fun c2 => ?_)
  · have hm := gk_if c2 hm
    refine lv_iconst (v := 0) hx hb dX1_isMissing_14 (by decide) ?_
    rw [kr _ (Option.some.inj hm).symm]
    exact gk_zret C ⟨hP, hD, hS⟩ rfl dX1_isMissing_15
  · have hm := gk_it c2 hm
    refine lv_iconst (v := 1) hx hb dX1_isMissing_10 (by decide) ?_
    refine lv_goto (tgt := 15) hx hb dX1_isMissing_11 (by decide) ?_
    rw [kr _ (Option.some.inj hm).symm]
    exact gk_zret C ⟨hP, hD, hS⟩ rfl dX1_isMissing_15
def m_X1_isMissing (f_kinds : (Nat → Int32)) (x1 : Int32) : Option (Int32) := m_X1_isMissing_0 f_kinds x1
theorem c_X1_isMissing (l : Launch) (G : gk_G) (a0 a1 a2 a3 a4 : Nat) (f_n : Int32) (f_kinds : (Nat → Int32)) (x1 : Int32) {rv : Int32} (hm : m_X1_isMissing f_kinds x1 = some rv) : gk_M l yX1_isMissing wsX1_isMissing rm_X1_isMissing false G [.ref a0, .int x1] [(a0, .inr (0, [.int f_n, .ref a1, .ref a2, .ref a3, .ref a4])), (a2, gk_I G 6 f_kinds)] (some (.int rv)) [(a0, .inr (0, [.int f_n, .ref a1, .ref a2, .ref a3, .ref a4])), (a2, gk_I G 6 f_kinds)] :=
  gk_of (by decide) rfl (Nat.le_of_ble_eq_true rfl) (fun p e s m below meth c A ls C h hl => w_X1_isMissing_0 C hm (fun v0 ez => by cases ez; rfl) h (show lv_has ls 2 [(0, .ref a0), (1, .int x1)] from hl))

/-! ===== ExchangeFamilies.Ground.become(IJI)I ===== -/
abbrev rm_X1_become : Room := { frames := 3, cells := 0, slots := 0, locals := 149 }
theorem k_X1_become_0 : ∀ w ∈ u_ws RX1 TX1 5, w ∈ wsX1_become := by decide +kernel
theorem k_X1_become_1 : Cond.fieldLink RX1 15 "ExchangeFamilies$Ground" "members" "[J" ∈ wsX1_become := by decide +kernel
theorem k_X1_become_2 : Cond.fieldLink RX1 19 "ExchangeFamilies$Ground" "kinds" "[I" ∈ wsX1_become := by decide +kernel
def m_X1_become_0 (f_members : (Nat → Int64)) (f_kinds : (Nat → Int32)) (x1 : Int32) (x2 : Int64) (x4 : Int32) : Option (Int32 × (Nat → Int64) × (Nat → Int32)) := gk_ix x1 6 (gk_ix x1 6 (gk_bd1 (m_J13_bitCount_95d88 x2) (fun r1 => some (r1, vp_updL f_members x1.toNatClampNeg x2, upd f_kinds x1.toNatClampNeg x4))))
set_option maxRecDepth 100000 in
set_option maxHeartbeats 4000000 in
theorem w_X1_become_0 {p : Program} {l : Launch} {e : Env} {s : State} {m : MethodId} {args : Array Value} {below : List Frame} {meth : Method} {c : Code} {G : gk_G} {A : Nat → Prop} {Q : State → Prop} {a0 a1 a2 a3 a4 : Nat} (C : gk_C p s m args meth c cX1_become 5 (some .int) yX1_become wsX1_become false G A) {f_members : (Nat → Int64)} {f_kinds : (Nat → Int32)} {x1 : Int32} {x2 : Int64} {x4 : Int32} {f_n : Int32} {yy : Int32 × (Nat → Int64) × (Nat → Int32)} (hm : m_X1_become_0 f_members f_kinds x1 x2 x4 = some yy) (kr : ∀ (rv : Int32) (g_members : (Nat → Int64)) (g_kinds : (Nat → Int32)), yy = (rv, g_members, g_kinds) → Q = MQ below (gk_Q G (some (.int rv)) [(a0, .inr (0, [.int f_n, .ref a1, .ref a2, .ref a3, .ref a4])), (a1, gk_J G 6 g_members), (a2, gk_I G 6 g_kinds)] A) args s 0 0 A) {H : Heap} {locs : List Loc} {ls : Array Slot} (h : gk_H G A s [(a0, .inr (0, [.int f_n, .ref a1, .ref a2, .ref a3, .ref a4])), (a1, gk_J G 6 f_members), (a2, gk_I G 6 f_kinds)] H locs) (hl : lv_has ls 5 [(0, .ref a0), (1, .int x1), (2, .long x2), (4, .int x4)]) : W p l e rm_X1_become s m args below meth c H locs 0 0 Q (F0 m 0 ls []) := by
  obtain ⟨hx, hb, hml, hr, hown, hnm, hts, hlk, hK, hSt, hA⟩ := id C
  obtain ⟨hP, hD, hS⟩ := h
  unfold m_X1_become_0 at hm
  refine lv_aload_n hx hb dX1_become_0 rfl (lv_at hl 0 rfl) ?_
  refine va_get (D := G.1) (cl := vwCl) (own := RX1) (ref := "ExchangeFamilies$Ground") (ci := 0) (v := .ref a1) (C := RX1) (T := TX1) (N := 5) hx hb hts k_X1_become_0 hown hK hP 0 rfl rfl 1 (by decide) (hts _ k_X1_become_1) (fun _ h9 => h9) rfl dX1_become_1 ?_
  refine lv_iload_n hx hb dX1_become_4 rfl (lv_at hl 1 rfl) ?_
  refine lv_lload_n hx hb dX1_become_5 rfl (lv_at hl 2 rfl) ?_
  obtain ⟨hi, hm⟩ := gk_ix_some hm
  refine va_last hx hb hK hP hD hS 1 1 rfl rfl hi dX1_become_6 (fun H locs hP hD hS => ?_)
  have hP : va_P G.1 vwCl [(a0, .inr (0, [.int f_n, .ref a1, .ref a2, .ref a3, .ref a4])), (a1, gk_J G 6 (vp_updL f_members x1.toNatClampNeg x2)), (a2, gk_I G 6 f_kinds)] H := hP
  have hD : va_D A [(a0, .inr (0, [.int f_n, .ref a1, .ref a2, .ref a3, .ref a4])), (a1, gk_J G 6 (vp_updL f_members x1.toNatClampNeg x2)), (a2, gk_I G 6 f_kinds)] := hD
  refine lv_aload_n hx hb dX1_become_7 rfl (lv_at hl 0 rfl) ?_
  refine va_get (D := G.1) (cl := vwCl) (own := RX1) (ref := "ExchangeFamilies$Ground") (ci := 0) (v := .ref a2) (C := RX1) (T := TX1) (N := 5) hx hb hts k_X1_become_0 hown hK hP 0 rfl rfl 2 (by decide) (hts _ k_X1_become_2) (fun _ h9 => h9) rfl dX1_become_8 ?_
  refine lv_iload_n hx hb dX1_become_11 rfl (lv_at hl 1 rfl) ?_
  refine lv_iload hx hb dX1_become_12 (lv_at hl 3 rfl) ?_
  obtain ⟨hi, hm⟩ := gk_ix_some hm
  refine va_iast hx hb hK hP hD hS 2 0 rfl rfl hi dX1_become_14 (fun H locs hP hD hS => ?_)
  have hP : va_P G.1 vwCl [(a0, .inr (0, [.int f_n, .ref a1, .ref a2, .ref a3, .ref a4])), (a1, gk_J G 6 (vp_updL f_members x1.toNatClampNeg x2)), (a2, gk_I G 6 (upd f_kinds x1.toNatClampNeg x4))] H := hP
  have hD : va_D A [(a0, .inr (0, [.int f_n, .ref a1, .ref a2, .ref a3, .ref a4])), (a1, gk_J G 6 (vp_updL f_members x1.toNatClampNeg x2)), (a2, gk_I G 6 (upd f_kinds x1.toNatClampNeg x4))] := hD
  refine lv_lload_n hx hb dX1_become_15 rfl (lv_at hl 2 rfl) ?_
  obtain ⟨r1, hq, hm⟩ := gk_bd1_some hm
  refine gk_callS (n := 1) (bytes := cJ13_bitCount_95d88) (maxL := 2) (ret := (some .int)) [(a0, .inr (0, [.int f_n, .ref a1, .ref a2, .ref a3, .ref a4])), (a1, gk_J G 6 (vp_updL f_members x1.toNatClampNeg x2)), (a2, gk_I G 6 (upd f_kinds x1.toNatClampNeg x4))] [(a0, .inr (0, [.int f_n, .ref a1, .ref a2, .ref a3, .ref a4])), (a1, gk_J G 6 (vp_updL f_members x1.toNatClampNeg x2)), (a2, gk_I G 6 (upd f_kinds x1.toNatClampNeg x4))] [] C ⟨hP, hD, hS⟩ (c_J13_bitCount_95d88 l G x2 hq) gX1_become_J13_bitCount_95d88 dX1_become_16 hl.1 [] [0, 1, 2] [0, 1, 2] rfl ⟨rfl, rfl⟩ ⟨Nat.le_of_ble_eq_true rfl, Nat.le_of_ble_eq_true rfl⟩ ⟨by decide +kernel, by decide +kernel, by decide +kernel⟩ rfl (fun h => by cases h) (Nat.le_of_ble_eq_true rfl) rfl rfl rfl rfl (by decide) rfl rfl (fun H locs h => ?_)
  obtain ⟨hP, hD, hS⟩ := h
  rw [kr _ _ _ (Option.some.inj hm).symm]
  exact gk_iret C ⟨hP, hD, hS⟩ dX1_become_19
def m_X1_become (f_members : (Nat → Int64)) (f_kinds : (Nat → Int32)) (x1 : Int32) (x2 : Int64) (x4 : Int32) : Option (Int32 × (Nat → Int64) × (Nat → Int32)) := m_X1_become_0 f_members f_kinds x1 x2 x4
theorem c_X1_become (l : Launch) (G : gk_G) (a0 a1 a2 a3 a4 : Nat) (f_n : Int32) (f_members : (Nat → Int64)) (f_kinds : (Nat → Int32)) (x1 : Int32) (x2 : Int64) (x4 : Int32) {rv : Int32} {g_members : (Nat → Int64)} {g_kinds : (Nat → Int32)} (hm : m_X1_become f_members f_kinds x1 x2 x4 = some (rv, g_members, g_kinds)) : gk_M l yX1_become wsX1_become rm_X1_become false G [.ref a0, .int x1, .long x2, .int x4] [(a0, .inr (0, [.int f_n, .ref a1, .ref a2, .ref a3, .ref a4])), (a1, gk_J G 6 f_members), (a2, gk_I G 6 f_kinds)] (some (.int rv)) [(a0, .inr (0, [.int f_n, .ref a1, .ref a2, .ref a3, .ref a4])), (a1, gk_J G 6 g_members), (a2, gk_I G 6 g_kinds)] :=
  gk_of (by decide) rfl (Nat.le_of_ble_eq_true rfl) (fun p e s m below meth c A ls C h hl => w_X1_become_0 C hm (fun v0 v1 v2 ez => by cases ez; rfl) h (show lv_has ls 5 [(0, .ref a0), (1, .int x1), (2, .long x2), (4, .int x4)] from hl))

/-! ===== ExchangeFamilies.Ground.families()I ===== -/
abbrev rm_X1_families : Room := { frames := 3, cells := 0, slots := 0, locals := 149 }
def m_X1_families_B4 (f_kinds : (Nat → Int32)) (x1 : Int32) (x2 : Int32) : Option ((Int32 × Int32) ⊕ (Int32)) := (if (6 : Int32) ≤ x2 then some (.inr x1) else gk_bd1 (m_X1_isMissing f_kinds x2) (fun r4 => (if r4 = (0 : Int32) then some (.inl (x1 ||| ((1 : Int32) <<< (x2 &&& 31)), x2 + 1)) else some (.inl (x1, x2 + 1)))))
set_option maxRecDepth 100000 in
set_option maxHeartbeats 4000000 in
theorem w_X1_families_B4 {p : Program} {l : Launch} {e : Env} {s : State} {m : MethodId} {args : Array Value} {below : List Frame} {meth : Method} {c : Code} {G : gk_G} {A : Nat → Prop} {Q : State → Prop} {a0 a1 a2 a3 a4 : Nat} (C : gk_C p s m args meth c cX1_families 3 (some .int) yX1_families wsX1_families false G A) {f_kinds : (Nat → Int32)} {x1 : Int32} {x2 : Int32} {f_n : Int32} {yy : (Int32 × Int32) ⊕ (Int32)} (hm : m_X1_families_B4 f_kinds x1 x2 = some yy) (kl : ∀ (x1 : Int32) (x2 : Int32), yy = .inl (x1, x2) → ∀ (H : Heap) (locs : List Loc) (ls : Array Slot), gk_H G A s [(a0, .inr (0, [.int f_n, .ref a1, .ref a2, .ref a3, .ref a4])), (a2, gk_I G 6 f_kinds)] H locs → lv_has ls 3 [(0, .ref a0), (1, .int x1), (2, .int x2)] → W p l e rm_X1_families s m args below meth c H locs 0 0 Q (F0 m 4 ls [])) (kx : ∀ (x1 : Int32), yy = .inr x1 → ∀ (H : Heap) (locs : List Loc) (ls : Array Slot), gk_H G A s [(a0, .inr (0, [.int f_n, .ref a1, .ref a2, .ref a3, .ref a4])), (a2, gk_I G 6 f_kinds)] H locs → lv_has ls 3 [(1, .int x1)] → W p l e rm_X1_families s m args below meth c H locs 0 0 Q (F0 m 30 ls [])) {H : Heap} {locs : List Loc} {ls : Array Slot} (h : gk_H G A s [(a0, .inr (0, [.int f_n, .ref a1, .ref a2, .ref a3, .ref a4])), (a2, gk_I G 6 f_kinds)] H locs) (hl : lv_has ls 3 [(0, .ref a0), (1, .int x1), (2, .int x2)]) : W p l e rm_X1_families s m args below meth c H locs 0 0 Q (F0 m 4 ls []) := by
  obtain ⟨hx, hb, hml, hr, hown, hnm, hts, hlk, hK, hSt, hA⟩ := id C
  obtain ⟨hP, hD, hS⟩ := h
  unfold m_X1_families_B4 at hm
  refine lv_iload_n hx hb dX1_families_4 rfl (lv_at hl 2 rfl) ?_
  refine lv_bipush (v := 6) hx hb dX1_families_5 (by decide) ?_
  refine lv_icmp_ge (tgt := 30) hx hb dX1_families_7 (by decide) (fun c3 => ?_) (fun c3 => ?_)
  · have hm := gk_it c3 hm
    exact kx _ (Option.some.inj hm).symm _ _ _ ⟨hP, hD, hS⟩ (lv_sub hl [1] rfl)
  · have hm := gk_if c3 hm
    refine lv_aload_n hx hb dX1_families_10 rfl (lv_at hl 0 rfl) ?_
    refine lv_iload_n hx hb dX1_families_11 rfl (lv_at hl 2 rfl) ?_
    obtain ⟨r4, hq, hm⟩ := gk_bd1_some hm
    refine gk_callV (n := 1) (bytes := cX1_isMissing) (maxL := 2) (ret := (some .boolean)) (Cn := RX1) (T := TX1) (N := 5) [] [(a0, .inr (0, [.int f_n, .ref a1, .ref a2, .ref a3, .ref a4])), (a2, gk_I G 6 f_kinds)] [] C ⟨hP, hD, hS⟩ (c_X1_isMissing l G a0 a1 a2 a3 a4 f_n f_kinds x2 hq) gX1_families_X1_isMissing dX1_families_12 hl.1 [0, 1] [] [0, 1] rfl rfl ⟨rfl, rfl⟩ ⟨Nat.le_of_ble_eq_true rfl, Nat.le_of_ble_eq_true rfl⟩ ⟨rfl, by decide +kernel, by decide +kernel, by decide +kernel⟩ rfl (fun h => by cases h) (Nat.le_of_ble_eq_true rfl) rfl rfl rfl rfl (by decide) rfl rfl (fun H locs h => ?_)
    obtain ⟨hP, hD, hS⟩ := h
    refine lv_if_ne (tgt := 24) hx hb dX1_families_15 (by decide) (fun c5 => ?_) (fun c5 => ?_)
    · have hm := gk_if c5 hm
      refine lv_iinc (v := x2 + 1) (lv' := [(2, .int (x2 + 1)), (0, .ref a0), (1, .int x1)]) hx hb dX1_families_24 hl (k := 2) rfl rfl (by decide) rfl (fun ls hl => ?_)
      refine lv_goto (tgt := 4) hx hb dX1_families_27 (by decide) ?_
      exact kl _ _ (Option.some.inj hm).symm _ _ _ ⟨hP, hD, hS⟩ (lv_sub hl [1, 2, 0] rfl)
    · have hm := gk_it c5 hm
      refine lv_iload_n hx hb dX1_families_18 rfl (lv_at hl 1 rfl) ?_
      refine lv_iconst (v := 1) hx hb dX1_families_19 (by decide) ?_
      refine lv_iload_n hx hb dX1_families_20 rfl (lv_at hl 2 rfl) ?_
      refine lv_ishl hx hb dX1_families_21 ?_
      refine lv_ior hx hb dX1_families_22 ?_
      refine lv_istore_n (lv' := [(1, .int (x1 ||| ((1 : Int32) <<< (x2 &&& 31)))), (0, .ref a0), (2, .int x2)]) hx hb dX1_families_23 rfl hl (by decide) rfl (fun ls hl => ?_)
      refine lv_iinc (v := x2 + 1) (lv' := [(2, .int (x2 + 1)), (1, .int (x1 ||| ((1 : Int32) <<< (x2 &&& 31)))), (0, .ref a0)]) hx hb dX1_families_24 hl (k := 2) rfl rfl (by decide) rfl (fun ls hl => ?_)
      refine lv_goto (tgt := 4) hx hb dX1_families_27 (by decide) ?_
      exact kl _ _ (Option.some.inj hm).symm _ _ _ ⟨hP, hD, hS⟩ (lv_sub hl [2, 1, 0] rfl)
set_option maxRecDepth 100000 in
set_option maxHeartbeats 4000000 in
theorem w_X1_families_L4 {p : Program} {l : Launch} {e : Env} {s : State} {m : MethodId} {args : Array Value} {below : List Frame} {meth : Method} {c : Code} {G : gk_G} {A : Nat → Prop} {Q : State → Prop} {a0 a1 a2 a3 a4 : Nat} (C : gk_C p s m args meth c cX1_families 3 (some .int) yX1_families wsX1_families false G A) {f_kinds : (Nat → Int32)} {x1 : Int32} {x2 : Int32} {f_n : Int32} {k : Nat} {e_x1 : Int32} (hm : gk_lp (fun z => m_X1_families_B4 f_kinds z.1 z.2) k (x1, x2) = some e_x1) (kx : ∀ (H : Heap) (locs : List Loc) (ls : Array Slot), gk_H G A s [(a0, .inr (0, [.int f_n, .ref a1, .ref a2, .ref a3, .ref a4])), (a2, gk_I G 6 f_kinds)] H locs → lv_has ls 3 [(1, .int e_x1)] → W p l e rm_X1_families s m args below meth c H locs 0 0 Q (F0 m 30 ls [])) {H : Heap} {locs : List Loc} {ls : Array Slot} (h : gk_H G A s [(a0, .inr (0, [.int f_n, .ref a1, .ref a2, .ref a3, .ref a4])), (a2, gk_I G 6 f_kinds)] H locs) (hl : lv_has ls 3 [(0, .ref a0), (1, .int x1), (2, .int x2)]) : W p l e rm_X1_families s m args below meth c H locs 0 0 Q (F0 m 4 ls []) :=
  gk_lp_some (P := fun z => ∀ (H : Heap) (locs : List Loc) (ls : Array Slot), gk_H G A s [(a0, .inr (0, [.int f_n, .ref a1, .ref a2, .ref a3, .ref a4])), (a2, gk_I G 6 f_kinds)] H locs → lv_has ls 3 [(0, .ref a0), (1, .int z.1), (2, .int z.2)] → W p l e rm_X1_families s m args below meth c H locs 0 0 Q (F0 m 4 ls [])) (E := fun r => (∀ (x1 : Int32), r = x1 → ∀ (H : Heap) (locs : List Loc) (ls : Array Slot), gk_H G A s [(a0, .inr (0, [.int f_n, .ref a1, .ref a2, .ref a3, .ref a4])), (a2, gk_I G 6 f_kinds)] H locs → lv_has ls 3 [(1, .int x1)] → W p l e rm_X1_families s m args below meth c H locs 0 0 Q (F0 m 30 ls []))) (fun z x hf kl ke H locs ls h hl => w_X1_families_B4 C hf (fun v0 v1 ez => kl (v0, v1) ez) (fun v0 ez => ke _ ez v0 rfl) h hl) k (x1, x2) _ hm (fun v0 ez => (by cases ez; exact kx)) _ _ _ h hl
def m_X1_families_0 (f_kinds : (Nat → Int32)) : Option (Int32) := gk_bd1 (gk_lp (fun z => m_X1_families_B4 f_kinds z.1 z.2) gk_fu ((0 : Int32), (0 : Int32))) (fun e6 => some e6)
set_option maxRecDepth 100000 in
set_option maxHeartbeats 4000000 in
theorem w_X1_families_0 {p : Program} {l : Launch} {e : Env} {s : State} {m : MethodId} {args : Array Value} {below : List Frame} {meth : Method} {c : Code} {G : gk_G} {A : Nat → Prop} {Q : State → Prop} {a0 a1 a2 a3 a4 : Nat} (C : gk_C p s m args meth c cX1_families 3 (some .int) yX1_families wsX1_families false G A) {f_kinds : (Nat → Int32)} {f_n : Int32} {yy : Int32} (hm : m_X1_families_0 f_kinds = some yy) (kr : ∀ (rv : Int32), yy = rv → Q = MQ below (gk_Q G (some (.int rv)) [(a0, .inr (0, [.int f_n, .ref a1, .ref a2, .ref a3, .ref a4])), (a2, gk_I G 6 f_kinds)] A) args s 0 0 A) {H : Heap} {locs : List Loc} {ls : Array Slot} (h : gk_H G A s [(a0, .inr (0, [.int f_n, .ref a1, .ref a2, .ref a3, .ref a4])), (a2, gk_I G 6 f_kinds)] H locs) (hl : lv_has ls 3 [(0, .ref a0)]) : W p l e rm_X1_families s m args below meth c H locs 0 0 Q (F0 m 0 ls []) := by
  obtain ⟨hx, hb, hml, hr, hown, hnm, hts, hlk, hK, hSt, hA⟩ := id C
  obtain ⟨hP, hD, hS⟩ := h
  unfold m_X1_families_0 at hm
  refine lv_iconst (v := 0) hx hb dX1_families_0 (by decide) ?_
  refine lv_istore_n (lv' := [(1, .int (0 : Int32)), (0, .ref a0)]) hx hb dX1_families_1 rfl hl (by decide) rfl (fun ls hl => ?_)
  refine lv_iconst (v := 0) hx hb dX1_families_2 (by decide) ?_
  refine lv_istore_n (lv' := [(2, .int (0 : Int32)), (1, .int (0 : Int32)), (0, .ref a0)]) hx hb dX1_families_3 rfl hl (by decide) rfl (fun ls hl => ?_)
  obtain ⟨e6, hq, hm⟩ := gk_bd1_some hm
  refine w_X1_families_L4 C hq (fun H locs ls h hl => ?_) ⟨hP, hD, hS⟩ (lv_sub hl [2, 1, 0] rfl)
  obtain ⟨hP, hD, hS⟩ := h
  refine lv_iload_n hx hb dX1_families_30 rfl (lv_at hl 0 rfl) ?_
  rw [kr _ (Option.some.inj hm).symm]
  exact gk_iret C ⟨hP, hD, hS⟩ dX1_families_31
def m_X1_families (f_kinds : (Nat → Int32)) : Option (Int32) := m_X1_families_0 f_kinds
theorem c_X1_families (l : Launch) (G : gk_G) (a0 a1 a2 a3 a4 : Nat) (f_n : Int32) (f_kinds : (Nat → Int32)) {rv : Int32} (hm : m_X1_families f_kinds = some rv) : gk_M l yX1_families wsX1_families rm_X1_families false G [.ref a0] [(a0, .inr (0, [.int f_n, .ref a1, .ref a2, .ref a3, .ref a4])), (a2, gk_I G 6 f_kinds)] (some (.int rv)) [(a0, .inr (0, [.int f_n, .ref a1, .ref a2, .ref a3, .ref a4])), (a2, gk_I G 6 f_kinds)] :=
  gk_of (by decide) rfl (Nat.le_of_ble_eq_true rfl) (fun p e s m below meth c A ls C h hl => w_X1_families_0 C hm (fun v0 ez => by cases ez; rfl) h (show lv_has ls 3 [(0, .ref a0)] from hl))

/-! ===== ExchangeFamilies.Ground.weightOf(I)I ===== -/
abbrev rm_X1_weightOf : Room := { frames := 1, cells := 0, slots := 0, locals := 64 }
theorem k_X1_weightOf_0 : ∀ w ∈ u_ws RX1 TX1 5, w ∈ wsX1_weightOf := by decide +kernel
theorem k_X1_weightOf_1 : Cond.fieldLink RX1 9 "ExchangeFamilies$Ground" "n" "I" ∈ wsX1_weightOf := by decide +kernel
theorem k_X1_weightOf_2 : Cond.fieldLink RX1 23 "ExchangeFamilies$Ground" "weights" "[I" ∈ wsX1_weightOf := by decide +kernel
def m_X1_weightOf_B4 (f_n : Int32) (f_weights : (Nat → Int32)) (x1 : Int32) (x2 : Int32) (x3 : Int32) : Option ((Int32 × Int32) ⊕ (Int32)) := (if f_n ≤ x3 then some (.inr x2) else (if ((x1 >>> (x3 &&& 31)) &&& (1 : Int32)) = (0 : Int32) then some (.inl (x2, x3 + 1)) else gk_ix x3 6 (some (.inl (x2 + (f_weights x3.toNatClampNeg), x3 + 1)))))
set_option maxRecDepth 100000 in
set_option maxHeartbeats 4000000 in
theorem w_X1_weightOf_B4 {p : Program} {l : Launch} {e : Env} {s : State} {m : MethodId} {args : Array Value} {below : List Frame} {meth : Method} {c : Code} {G : gk_G} {A : Nat → Prop} {Q : State → Prop} {a0 a1 a2 a3 a4 : Nat} (C : gk_C p s m args meth c cX1_weightOf 4 (some .int) yX1_weightOf wsX1_weightOf false G A) {f_n : Int32} {f_weights : (Nat → Int32)} {x1 : Int32} {x2 : Int32} {x3 : Int32} {yy : (Int32 × Int32) ⊕ (Int32)} (hm : m_X1_weightOf_B4 f_n f_weights x1 x2 x3 = some yy) (kl : ∀ (x2 : Int32) (x3 : Int32), yy = .inl (x2, x3) → ∀ (H : Heap) (locs : List Loc) (ls : Array Slot), gk_H G A s [(a0, .inr (0, [.int f_n, .ref a1, .ref a2, .ref a3, .ref a4])), (a3, gk_I G 6 f_weights)] H locs → lv_has ls 4 [(0, .ref a0), (1, .int x1), (2, .int x2), (3, .int x3)] → W p l e rm_X1_weightOf s m args below meth c H locs 0 0 Q (F0 m 4 ls [])) (kx : ∀ (x2 : Int32), yy = .inr x2 → ∀ (H : Heap) (locs : List Loc) (ls : Array Slot), gk_H G A s [(a0, .inr (0, [.int f_n, .ref a1, .ref a2, .ref a3, .ref a4])), (a3, gk_I G 6 f_weights)] H locs → lv_has ls 4 [(2, .int x2)] → W p l e rm_X1_weightOf s m args below meth c H locs 0 0 Q (F0 m 35 ls [])) {H : Heap} {locs : List Loc} {ls : Array Slot} (h : gk_H G A s [(a0, .inr (0, [.int f_n, .ref a1, .ref a2, .ref a3, .ref a4])), (a3, gk_I G 6 f_weights)] H locs) (hl : lv_has ls 4 [(0, .ref a0), (1, .int x1), (2, .int x2), (3, .int x3)]) : W p l e rm_X1_weightOf s m args below meth c H locs 0 0 Q (F0 m 4 ls []) := by
  obtain ⟨hx, hb, hml, hr, hown, hnm, hts, hlk, hK, hSt, hA⟩ := id C
  obtain ⟨hP, hD, hS⟩ := h
  unfold m_X1_weightOf_B4 at hm
  refine lv_iload_n hx hb dX1_weightOf_4 rfl (lv_at hl 3 rfl) ?_
  refine lv_aload_n hx hb dX1_weightOf_5 rfl (lv_at hl 0 rfl) ?_
  refine va_get (D := G.1) (cl := vwCl) (own := RX1) (ref := "ExchangeFamilies$Ground") (ci := 0) (v := .int f_n) (C := RX1) (T := TX1) (N := 5) hx hb hts k_X1_weightOf_0 hown hK hP 0 rfl rfl 0 (by decide) (hts _ k_X1_weightOf_1) (fun _ h9 => h9) rfl dX1_weightOf_6 ?_
  refine lv_icmp_ge (tgt := 35) hx hb dX1_weightOf_9 (by decide) (fun c3 => ?_) (fun c3 => ?_)
  · have hm := gk_it c3 hm
    exact kx _ (Option.some.inj hm).symm _ _ _ ⟨hP, hD, hS⟩ (lv_sub hl [2] rfl)
  · have hm := gk_if c3 hm
    refine lv_iload_n hx hb dX1_weightOf_12 rfl (lv_at hl 1 rfl) ?_
    refine lv_iload_n hx hb dX1_weightOf_13 rfl (lv_at hl 3 rfl) ?_
    refine lv_ishr hx hb dX1_weightOf_14 ?_
    refine lv_iconst (v := 1) hx hb dX1_weightOf_15 (by decide) ?_
    refine lv_iand hx hb dX1_weightOf_16 ?_
    refine lv_if_eq (tgt := 29) hx hb dX1_weightOf_17 (by decide) (fun c4 => ?_) (fun c4 => ?_)
    · have hm := gk_it c4 hm
      refine lv_iinc (v := x3 + 1) (lv' := [(3, .int (x3 + 1)), (0, .ref a0), (1, .int x1), (2, .int x2)]) hx hb dX1_weightOf_29 hl (k := 3) rfl rfl (by decide) rfl (fun ls hl => ?_)
      refine lv_goto (tgt := 4) hx hb dX1_weightOf_32 (by decide) ?_
      exact kl _ _ (Option.some.inj hm).symm _ _ _ ⟨hP, hD, hS⟩ (lv_sub hl [1, 2, 3, 0] rfl)
    · have hm := gk_if c4 hm
      refine lv_iload_n hx hb dX1_weightOf_20 rfl (lv_at hl 2 rfl) ?_
      refine lv_aload_n hx hb dX1_weightOf_21 rfl (lv_at hl 0 rfl) ?_
      refine va_get (D := G.1) (cl := vwCl) (own := RX1) (ref := "ExchangeFamilies$Ground") (ci := 0) (v := .ref a3) (C := RX1) (T := TX1) (N := 5) hx hb hts k_X1_weightOf_0 hown hK hP 0 rfl rfl 3 (by decide) (hts _ k_X1_weightOf_2) (fun _ h9 => h9) rfl dX1_weightOf_22 ?_
      refine lv_iload_n hx hb dX1_weightOf_25 rfl (lv_at hl 3 rfl) ?_
      obtain ⟨hi, hm⟩ := gk_ix_some hm
      refine va_iald hx hb hK hP 1 0 rfl rfl hi dX1_weightOf_26 ?_
      refine lv_iadd hx hb dX1_weightOf_27 ?_
      refine lv_istore_n (lv' := [(2, .int (x2 + (f_weights x3.toNatClampNeg))), (0, .ref a0), (1, .int x1), (3, .int x3)]) hx hb dX1_weightOf_28 rfl hl (by decide) rfl (fun ls hl => ?_)
      refine lv_iinc (v := x3 + 1) (lv' := [(3, .int (x3 + 1)), (2, .int (x2 + (f_weights x3.toNatClampNeg))), (0, .ref a0), (1, .int x1)]) hx hb dX1_weightOf_29 hl (k := 3) rfl rfl (by decide) rfl (fun ls hl => ?_)
      refine lv_goto (tgt := 4) hx hb dX1_weightOf_32 (by decide) ?_
      exact kl _ _ (Option.some.inj hm).symm _ _ _ ⟨hP, hD, hS⟩ (lv_sub hl [2, 3, 1, 0] rfl)
set_option maxRecDepth 100000 in
set_option maxHeartbeats 4000000 in
theorem w_X1_weightOf_L4 {p : Program} {l : Launch} {e : Env} {s : State} {m : MethodId} {args : Array Value} {below : List Frame} {meth : Method} {c : Code} {G : gk_G} {A : Nat → Prop} {Q : State → Prop} {a0 a1 a2 a3 a4 : Nat} (C : gk_C p s m args meth c cX1_weightOf 4 (some .int) yX1_weightOf wsX1_weightOf false G A) {f_n : Int32} {f_weights : (Nat → Int32)} {x1 : Int32} {x2 : Int32} {x3 : Int32} {k : Nat} {e_x2 : Int32} (hm : gk_lp (fun z => m_X1_weightOf_B4 f_n f_weights x1 z.1 z.2) k (x2, x3) = some e_x2) (kx : ∀ (H : Heap) (locs : List Loc) (ls : Array Slot), gk_H G A s [(a0, .inr (0, [.int f_n, .ref a1, .ref a2, .ref a3, .ref a4])), (a3, gk_I G 6 f_weights)] H locs → lv_has ls 4 [(2, .int e_x2)] → W p l e rm_X1_weightOf s m args below meth c H locs 0 0 Q (F0 m 35 ls [])) {H : Heap} {locs : List Loc} {ls : Array Slot} (h : gk_H G A s [(a0, .inr (0, [.int f_n, .ref a1, .ref a2, .ref a3, .ref a4])), (a3, gk_I G 6 f_weights)] H locs) (hl : lv_has ls 4 [(0, .ref a0), (1, .int x1), (2, .int x2), (3, .int x3)]) : W p l e rm_X1_weightOf s m args below meth c H locs 0 0 Q (F0 m 4 ls []) :=
  gk_lp_some (P := fun z => ∀ (H : Heap) (locs : List Loc) (ls : Array Slot), gk_H G A s [(a0, .inr (0, [.int f_n, .ref a1, .ref a2, .ref a3, .ref a4])), (a3, gk_I G 6 f_weights)] H locs → lv_has ls 4 [(0, .ref a0), (1, .int x1), (2, .int z.1), (3, .int z.2)] → W p l e rm_X1_weightOf s m args below meth c H locs 0 0 Q (F0 m 4 ls [])) (E := fun r => (∀ (x2 : Int32), r = x2 → ∀ (H : Heap) (locs : List Loc) (ls : Array Slot), gk_H G A s [(a0, .inr (0, [.int f_n, .ref a1, .ref a2, .ref a3, .ref a4])), (a3, gk_I G 6 f_weights)] H locs → lv_has ls 4 [(2, .int x2)] → W p l e rm_X1_weightOf s m args below meth c H locs 0 0 Q (F0 m 35 ls []))) (fun z x hf kl ke H locs ls h hl => w_X1_weightOf_B4 C hf (fun v0 v1 ez => kl (v0, v1) ez) (fun v0 ez => ke _ ez v0 rfl) h hl) k (x2, x3) _ hm (fun v0 ez => (by cases ez; exact kx)) _ _ _ h hl
def m_X1_weightOf_0 (f_n : Int32) (f_weights : (Nat → Int32)) (x1 : Int32) : Option (Int32) := gk_bd1 (gk_lp (fun z => m_X1_weightOf_B4 f_n f_weights x1 z.1 z.2) gk_fu ((0 : Int32), (0 : Int32))) (fun e5 => some e5)
set_option maxRecDepth 100000 in
set_option maxHeartbeats 4000000 in
theorem w_X1_weightOf_0 {p : Program} {l : Launch} {e : Env} {s : State} {m : MethodId} {args : Array Value} {below : List Frame} {meth : Method} {c : Code} {G : gk_G} {A : Nat → Prop} {Q : State → Prop} {a0 a1 a2 a3 a4 : Nat} (C : gk_C p s m args meth c cX1_weightOf 4 (some .int) yX1_weightOf wsX1_weightOf false G A) {f_n : Int32} {f_weights : (Nat → Int32)} {x1 : Int32} {yy : Int32} (hm : m_X1_weightOf_0 f_n f_weights x1 = some yy) (kr : ∀ (rv : Int32), yy = rv → Q = MQ below (gk_Q G (some (.int rv)) [(a0, .inr (0, [.int f_n, .ref a1, .ref a2, .ref a3, .ref a4])), (a3, gk_I G 6 f_weights)] A) args s 0 0 A) {H : Heap} {locs : List Loc} {ls : Array Slot} (h : gk_H G A s [(a0, .inr (0, [.int f_n, .ref a1, .ref a2, .ref a3, .ref a4])), (a3, gk_I G 6 f_weights)] H locs) (hl : lv_has ls 4 [(0, .ref a0), (1, .int x1)]) : W p l e rm_X1_weightOf s m args below meth c H locs 0 0 Q (F0 m 0 ls []) := by
  obtain ⟨hx, hb, hml, hr, hown, hnm, hts, hlk, hK, hSt, hA⟩ := id C
  obtain ⟨hP, hD, hS⟩ := h
  unfold m_X1_weightOf_0 at hm
  refine lv_iconst (v := 0) hx hb dX1_weightOf_0 (by decide) ?_
  refine lv_istore_n (lv' := [(2, .int (0 : Int32)), (0, .ref a0), (1, .int x1)]) hx hb dX1_weightOf_1 rfl hl (by decide) rfl (fun ls hl => ?_)
  refine lv_iconst (v := 0) hx hb dX1_weightOf_2 (by decide) ?_
  refine lv_istore_n (lv' := [(3, .int (0 : Int32)), (2, .int (0 : Int32)), (0, .ref a0), (1, .int x1)]) hx hb dX1_weightOf_3 rfl hl (by decide) rfl (fun ls hl => ?_)
  obtain ⟨e5, hq, hm⟩ := gk_bd1_some hm
  refine w_X1_weightOf_L4 C hq (fun H locs ls h hl => ?_) ⟨hP, hD, hS⟩ (lv_sub hl [2, 3, 1, 0] rfl)
  obtain ⟨hP, hD, hS⟩ := h
  refine lv_iload_n hx hb dX1_weightOf_35 rfl (lv_at hl 0 rfl) ?_
  rw [kr _ (Option.some.inj hm).symm]
  exact gk_iret C ⟨hP, hD, hS⟩ dX1_weightOf_36
def m_X1_weightOf (f_n : Int32) (f_weights : (Nat → Int32)) (x1 : Int32) : Option (Int32) := m_X1_weightOf_0 f_n f_weights x1
theorem c_X1_weightOf (l : Launch) (G : gk_G) (a0 a1 a2 a3 a4 : Nat) (f_n : Int32) (f_weights : (Nat → Int32)) (x1 : Int32) {rv : Int32} (hm : m_X1_weightOf f_n f_weights x1 = some rv) : gk_M l yX1_weightOf wsX1_weightOf rm_X1_weightOf false G [.ref a0, .int x1] [(a0, .inr (0, [.int f_n, .ref a1, .ref a2, .ref a3, .ref a4])), (a3, gk_I G 6 f_weights)] (some (.int rv)) [(a0, .inr (0, [.int f_n, .ref a1, .ref a2, .ref a3, .ref a4])), (a3, gk_I G 6 f_weights)] :=
  gk_of (by decide) rfl (Nat.le_of_ble_eq_true rfl) (fun p e s m below meth c A ls C h hl => w_X1_weightOf_0 C hm (fun v0 ez => by cases ez; rfl) h (show lv_has ls 4 [(0, .ref a0), (1, .int x1)] from hl))

/-! ===== ExchangeFamilies.Ground.heaviestBut(I)I ===== -/
abbrev rm_X1_heaviestBut : Room := { frames := 1, cells := 0, slots := 0, locals := 64 }
theorem k_X1_heaviestBut_0 : ∀ w ∈ u_ws RX1 TX1 5, w ∈ wsX1_heaviestBut := by decide +kernel
theorem k_X1_heaviestBut_1 : Cond.fieldLink RX1 9 "ExchangeFamilies$Ground" "n" "I" ∈ wsX1_heaviestBut := by decide +kernel
theorem k_X1_heaviestBut_2 : Cond.fieldLink RX1 23 "ExchangeFamilies$Ground" "weights" "[I" ∈ wsX1_heaviestBut := by decide +kernel
theorem k_X1_heaviestBut_3 : Cond.methodLink RX1 74 Lib.Math.abs.name ∈ wsX1_heaviestBut := by decide +kernel
theorem k_X1_heaviestBut_4 : Cond.static Lib.Math.abs.name ∈ wsX1_heaviestBut := by decide +kernel
theorem k_X1_heaviestBut_5 : Cond.initialized "java/lang/Math" ∈ wsX1_heaviestBut := by decide +kernel
theorem k_X1_heaviestBut_6 : Cond.code Lib.Math.abs.name Lib.Math.abs.code 1 (some .int) ∈ wsX1_heaviestBut := by decide +kernel
def m_X1_heaviestBut_B7 (f_n : Int32) (f_weights : (Nat → Int32)) (x1 : Int32) (x2 : Int32) (x3 : Int32) (x4 : Int32) : Option ((Int32 × Int32 × Int32) ⊕ (Int32)) := (if f_n ≤ x4 then some (.inr x2) else gk_ix x4 6 ((if ((x1 >>> (x4 &&& 31)) &&& (1 : Int32)) = (0 : Int32) then (if (if 0 ≤ (f_weights x4.toNatClampNeg) then (f_weights x4.toNatClampNeg) else 0 - (f_weights x4.toNatClampNeg)) ≤ x3 then some (.inl (x2, x3, x4 + 1)) else some (.inl (x4, if 0 ≤ (f_weights x4.toNatClampNeg) then (f_weights x4.toNatClampNeg) else 0 - (f_weights x4.toNatClampNeg), x4 + 1))) else some (.inl (x2, x3, x4 + 1)))))
set_option maxRecDepth 100000 in
set_option maxHeartbeats 4000000 in
theorem w_X1_heaviestBut_B7 {p : Program} {l : Launch} {e : Env} {s : State} {m : MethodId} {args : Array Value} {below : List Frame} {meth : Method} {c : Code} {G : gk_G} {A : Nat → Prop} {Q : State → Prop} {a0 a1 a2 a3 a4 : Nat} (C : gk_C p s m args meth c cX1_heaviestBut 6 (some .int) yX1_heaviestBut wsX1_heaviestBut false G A) {f_n : Int32} {f_weights : (Nat → Int32)} {x1 : Int32} {x2 : Int32} {x3 : Int32} {x4 : Int32} {yy : (Int32 × Int32 × Int32) ⊕ (Int32)} (hm : m_X1_heaviestBut_B7 f_n f_weights x1 x2 x3 x4 = some yy) (kl : ∀ (x2 : Int32) (x3 : Int32) (x4 : Int32), yy = .inl (x2, x3, x4) → ∀ (H : Heap) (locs : List Loc) (ls : Array Slot), gk_H G A s [(a0, .inr (0, [.int f_n, .ref a1, .ref a2, .ref a3, .ref a4])), (a3, gk_I G 6 f_weights)] H locs → lv_has ls 6 [(0, .ref a0), (1, .int x1), (2, .int x2), (3, .int x3), (4, .int x4)] → W p l e rm_X1_heaviestBut s m args below meth c H locs 0 0 Q (F0 m 7 ls [])) (kx : ∀ (x2 : Int32), yy = .inr x2 → ∀ (H : Heap) (locs : List Loc) (ls : Array Slot), gk_H G A s [(a0, .inr (0, [.int f_n, .ref a1, .ref a2, .ref a3, .ref a4])), (a3, gk_I G 6 f_weights)] H locs → lv_has ls 6 [(2, .int x2)] → W p l e rm_X1_heaviestBut s m args below meth c H locs 0 0 Q (F0 m 55 ls [])) {H : Heap} {locs : List Loc} {ls : Array Slot} (h : gk_H G A s [(a0, .inr (0, [.int f_n, .ref a1, .ref a2, .ref a3, .ref a4])), (a3, gk_I G 6 f_weights)] H locs) (hl : lv_has ls 6 [(0, .ref a0), (1, .int x1), (2, .int x2), (3, .int x3), (4, .int x4)]) : W p l e rm_X1_heaviestBut s m args below meth c H locs 0 0 Q (F0 m 7 ls []) := by
  obtain ⟨hx, hb, hml, hr, hown, hnm, hts, hlk, hK, hSt, hA⟩ := id C
  obtain ⟨hP, hD, hS⟩ := h
  unfold m_X1_heaviestBut_B7 at hm
  refine lv_iload hx hb dX1_heaviestBut_7 (lv_at hl 4 rfl) ?_
  refine lv_aload_n hx hb dX1_heaviestBut_9 rfl (lv_at hl 0 rfl) ?_
  refine va_get (D := G.1) (cl := vwCl) (own := RX1) (ref := "ExchangeFamilies$Ground") (ci := 0) (v := .int f_n) (C := RX1) (T := TX1) (N := 5) hx hb hts k_X1_heaviestBut_0 hown hK hP 0 rfl rfl 0 (by decide) (hts _ k_X1_heaviestBut_1) (fun _ h9 => h9) rfl dX1_heaviestBut_10 ?_
  refine lv_icmp_ge (tgt := 55) hx hb dX1_heaviestBut_13 (by decide) (fun c4 => ?_) (fun c4 => ?_)
  · have hm := gk_it c4 hm
    exact kx _ (Option.some.inj hm).symm _ _ _ ⟨hP, hD, hS⟩ (lv_sub hl [2] rfl)
  · have hm := gk_if c4 hm
    refine lv_aload_n hx hb dX1_heaviestBut_16 rfl (lv_at hl 0 rfl) ?_
    refine va_get (D := G.1) (cl := vwCl) (own := RX1) (ref := "ExchangeFamilies$Ground") (ci := 0) (v := .ref a3) (C := RX1) (T := TX1) (N := 5) hx hb hts k_X1_heaviestBut_0 hown hK hP 0 rfl rfl 3 (by decide) (hts _ k_X1_heaviestBut_2) (fun _ h9 => h9) rfl dX1_heaviestBut_17 ?_
    refine lv_iload hx hb dX1_heaviestBut_20 (lv_at hl 4 rfl) ?_
    obtain ⟨hi, hm⟩ := gk_ix_some hm
    refine va_iald hx hb hK hP 1 0 rfl rfl hi dX1_heaviestBut_22 ?_
    refine va_mabs (own := RX1) hx hb (by rw [hml]; exact hl.1.symm) hown (hts _ k_X1_heaviestBut_3) (hts _ k_X1_heaviestBut_4) (hts _ k_X1_heaviestBut_5) (hts _ k_X1_heaviestBut_6) (Nat.le_of_ble_eq_true rfl) (Nat.le_of_ble_eq_true rfl) (Nat.zero_le _) (Nat.zero_le _) dX1_heaviestBut_23 ?_
    refine lv_istore (lv' := [(5, .int (if 0 ≤ (f_weights x4.toNatClampNeg) then (f_weights x4.toNatClampNeg) else 0 - (f_weights x4.toNatClampNeg))), (0, .ref a0), (1, .int x1), (2, .int x2), (3, .int x3), (4, .int x4)]) hx hb dX1_heaviestBut_26 hl (by decide) rfl (fun ls hl => ?_)
    refine lv_iload_n hx hb dX1_heaviestBut_28 rfl (lv_at hl 2 rfl) ?_
    refine lv_iload hx hb dX1_heaviestBut_29 (lv_at hl 5 rfl) ?_
    refine lv_ishr hx hb dX1_heaviestBut_31 ?_
    refine lv_iconst (v := 1) hx hb dX1_heaviestBut_32 (by decide) ?_
    refine lv_iand hx hb dX1_heaviestBut_33 ?_
    refine lv_if_ne (tgt := 49) hx hb dX1_heaviestBut_34 (by decide) (fun c5 => ?_) (fun c5 => ?_)
    · have hm := gk_if c5 hm
      refine lv_iinc (v := x4 + 1) (lv' := [(4, .int (x4 + 1)), (5, .int (if 0 ≤ (f_weights x4.toNatClampNeg) then (f_weights x4.toNatClampNeg) else 0 - (f_weights x4.toNatClampNeg))), (0, .ref a0), (1, .int x1), (2, .int x2), (3, .int x3)]) hx hb dX1_heaviestBut_49 hl (k := 5) rfl rfl (by decide) rfl (fun ls hl => ?_)
      refine lv_goto (tgt := 7) hx hb dX1_heaviestBut_52 (by decide) ?_
      exact kl _ _ _ (Option.some.inj hm).symm _ _ _ ⟨hP, hD, hS⟩ (lv_sub hl [2, 3, 4, 5, 0] rfl)
    · have hm := gk_it c5 hm
      refine lv_iload hx hb dX1_heaviestBut_37 (lv_at hl 0 rfl) ?_
      refine lv_iload_n hx hb dX1_heaviestBut_39 rfl (lv_at hl 4 rfl) ?_
      refine lv_icmp_le (tgt := 49) hx hb dX1_heaviestBut_40 (by decide) (fun c6 => ?_) (fun c6 => ?_)
      · have hm := gk_it c6 hm
        refine lv_iinc (v := x4 + 1) (lv' := [(4, .int (x4 + 1)), (5, .int (if 0 ≤ (f_weights x4.toNatClampNeg) then (f_weights x4.toNatClampNeg) else 0 - (f_weights x4.toNatClampNeg))), (0, .ref a0), (1, .int x1), (2, .int x2), (3, .int x3)]) hx hb dX1_heaviestBut_49 hl (k := 5) rfl rfl (by decide) rfl (fun ls hl => ?_)
        refine lv_goto (tgt := 7) hx hb dX1_heaviestBut_52 (by decide) ?_
        exact kl _ _ _ (Option.some.inj hm).symm _ _ _ ⟨hP, hD, hS⟩ (lv_sub hl [2, 3, 4, 5, 0] rfl)
      · have hm := gk_if c6 hm
        refine lv_iload hx hb dX1_heaviestBut_43 (lv_at hl 5 rfl) ?_
        refine lv_istore_n (lv' := [(2, .int x4), (5, .int (if 0 ≤ (f_weights x4.toNatClampNeg) then (f_weights x4.toNatClampNeg) else 0 - (f_weights x4.toNatClampNeg))), (0, .ref a0), (1, .int x1), (3, .int x3), (4, .int x4)]) hx hb dX1_heaviestBut_45 rfl hl (by decide) rfl (fun ls hl => ?_)
        refine lv_iload hx hb dX1_heaviestBut_46 (lv_at hl 1 rfl) ?_
        refine lv_istore_n (lv' := [(3, .int (if 0 ≤ (f_weights x4.toNatClampNeg) then (f_weights x4.toNatClampNeg) else 0 - (f_weights x4.toNatClampNeg))), (2, .int x4), (5, .int (if 0 ≤ (f_weights x4.toNatClampNeg) then (f_weights x4.toNatClampNeg) else 0 - (f_weights x4.toNatClampNeg))), (0, .ref a0), (1, .int x1), (4, .int x4)]) hx hb dX1_heaviestBut_48 rfl hl (by decide) rfl (fun ls hl => ?_)
        refine lv_iinc (v := x4 + 1) (lv' := [(4, .int (x4 + 1)), (3, .int (if 0 ≤ (f_weights x4.toNatClampNeg) then (f_weights x4.toNatClampNeg) else 0 - (f_weights x4.toNatClampNeg))), (2, .int x4), (5, .int (if 0 ≤ (f_weights x4.toNatClampNeg) then (f_weights x4.toNatClampNeg) else 0 - (f_weights x4.toNatClampNeg))), (0, .ref a0), (1, .int x1)]) hx hb dX1_heaviestBut_49 hl (k := 5) rfl rfl (by decide) rfl (fun ls hl => ?_)
        refine lv_goto (tgt := 7) hx hb dX1_heaviestBut_52 (by decide) ?_
        exact kl _ _ _ (Option.some.inj hm).symm _ _ _ ⟨hP, hD, hS⟩ (lv_sub hl [4, 5, 2, 1, 0] rfl)
set_option maxRecDepth 100000 in
set_option maxHeartbeats 4000000 in
theorem w_X1_heaviestBut_L7 {p : Program} {l : Launch} {e : Env} {s : State} {m : MethodId} {args : Array Value} {below : List Frame} {meth : Method} {c : Code} {G : gk_G} {A : Nat → Prop} {Q : State → Prop} {a0 a1 a2 a3 a4 : Nat} (C : gk_C p s m args meth c cX1_heaviestBut 6 (some .int) yX1_heaviestBut wsX1_heaviestBut false G A) {f_n : Int32} {f_weights : (Nat → Int32)} {x1 : Int32} {x2 : Int32} {x3 : Int32} {x4 : Int32} {k : Nat} {e_x2 : Int32} (hm : gk_lp (fun z => m_X1_heaviestBut_B7 f_n f_weights x1 z.1 z.2.1 z.2.2) k (x2, x3, x4) = some e_x2) (kx : ∀ (H : Heap) (locs : List Loc) (ls : Array Slot), gk_H G A s [(a0, .inr (0, [.int f_n, .ref a1, .ref a2, .ref a3, .ref a4])), (a3, gk_I G 6 f_weights)] H locs → lv_has ls 6 [(2, .int e_x2)] → W p l e rm_X1_heaviestBut s m args below meth c H locs 0 0 Q (F0 m 55 ls [])) {H : Heap} {locs : List Loc} {ls : Array Slot} (h : gk_H G A s [(a0, .inr (0, [.int f_n, .ref a1, .ref a2, .ref a3, .ref a4])), (a3, gk_I G 6 f_weights)] H locs) (hl : lv_has ls 6 [(0, .ref a0), (1, .int x1), (2, .int x2), (3, .int x3), (4, .int x4)]) : W p l e rm_X1_heaviestBut s m args below meth c H locs 0 0 Q (F0 m 7 ls []) :=
  gk_lp_some (P := fun z => ∀ (H : Heap) (locs : List Loc) (ls : Array Slot), gk_H G A s [(a0, .inr (0, [.int f_n, .ref a1, .ref a2, .ref a3, .ref a4])), (a3, gk_I G 6 f_weights)] H locs → lv_has ls 6 [(0, .ref a0), (1, .int x1), (2, .int z.1), (3, .int z.2.1), (4, .int z.2.2)] → W p l e rm_X1_heaviestBut s m args below meth c H locs 0 0 Q (F0 m 7 ls [])) (E := fun r => (∀ (x2 : Int32), r = x2 → ∀ (H : Heap) (locs : List Loc) (ls : Array Slot), gk_H G A s [(a0, .inr (0, [.int f_n, .ref a1, .ref a2, .ref a3, .ref a4])), (a3, gk_I G 6 f_weights)] H locs → lv_has ls 6 [(2, .int x2)] → W p l e rm_X1_heaviestBut s m args below meth c H locs 0 0 Q (F0 m 55 ls []))) (fun z x hf kl ke H locs ls h hl => w_X1_heaviestBut_B7 C hf (fun v0 v1 v2 ez => kl (v0, v1, v2) ez) (fun v0 ez => ke _ ez v0 rfl) h hl) k (x2, x3, x4) _ hm (fun v0 ez => (by cases ez; exact kx)) _ _ _ h hl
def m_X1_heaviestBut_0 (f_n : Int32) (f_weights : (Nat → Int32)) (x1 : Int32) : Option (Int32) := gk_bd1 (gk_lp (fun z => m_X1_heaviestBut_B7 f_n f_weights x1 z.1 z.2.1 z.2.2) gk_fu ((0 : Int32), (-1 : Int32), (0 : Int32))) (fun e7 => some e7)
set_option maxRecDepth 100000 in
set_option maxHeartbeats 4000000 in
theorem w_X1_heaviestBut_0 {p : Program} {l : Launch} {e : Env} {s : State} {m : MethodId} {args : Array Value} {below : List Frame} {meth : Method} {c : Code} {G : gk_G} {A : Nat → Prop} {Q : State → Prop} {a0 a1 a2 a3 a4 : Nat} (C : gk_C p s m args meth c cX1_heaviestBut 6 (some .int) yX1_heaviestBut wsX1_heaviestBut false G A) {f_n : Int32} {f_weights : (Nat → Int32)} {x1 : Int32} {yy : Int32} (hm : m_X1_heaviestBut_0 f_n f_weights x1 = some yy) (kr : ∀ (rv : Int32), yy = rv → Q = MQ below (gk_Q G (some (.int rv)) [(a0, .inr (0, [.int f_n, .ref a1, .ref a2, .ref a3, .ref a4])), (a3, gk_I G 6 f_weights)] A) args s 0 0 A) {H : Heap} {locs : List Loc} {ls : Array Slot} (h : gk_H G A s [(a0, .inr (0, [.int f_n, .ref a1, .ref a2, .ref a3, .ref a4])), (a3, gk_I G 6 f_weights)] H locs) (hl : lv_has ls 6 [(0, .ref a0), (1, .int x1)]) : W p l e rm_X1_heaviestBut s m args below meth c H locs 0 0 Q (F0 m 0 ls []) := by
  obtain ⟨hx, hb, hml, hr, hown, hnm, hts, hlk, hK, hSt, hA⟩ := id C
  obtain ⟨hP, hD, hS⟩ := h
  unfold m_X1_heaviestBut_0 at hm
  refine lv_iconst (v := 0) hx hb dX1_heaviestBut_0 (by decide) ?_
  refine lv_istore_n (lv' := [(2, .int (0 : Int32)), (0, .ref a0), (1, .int x1)]) hx hb dX1_heaviestBut_1 rfl hl (by decide) rfl (fun ls hl => ?_)
  refine lv_iconst (v := -1) hx hb dX1_heaviestBut_2 (by decide) ?_
  refine lv_istore_n (lv' := [(3, .int (-1 : Int32)), (2, .int (0 : Int32)), (0, .ref a0), (1, .int x1)]) hx hb dX1_heaviestBut_3 rfl hl (by decide) rfl (fun ls hl => ?_)
  refine lv_iconst (v := 0) hx hb dX1_heaviestBut_4 (by decide) ?_
  refine lv_istore (lv' := [(4, .int (0 : Int32)), (3, .int (-1 : Int32)), (2, .int (0 : Int32)), (0, .ref a0), (1, .int x1)]) hx hb dX1_heaviestBut_5 hl (by decide) rfl (fun ls hl => ?_)
  obtain ⟨e7, hq, hm⟩ := gk_bd1_some hm
  refine w_X1_heaviestBut_L7 C hq (fun H locs ls h hl => ?_) ⟨hP, hD, hS⟩ (lv_sub hl [3, 4, 2, 1, 0] rfl)
  obtain ⟨hP, hD, hS⟩ := h
  refine lv_iload_n hx hb dX1_heaviestBut_55 rfl (lv_at hl 0 rfl) ?_
  rw [kr _ (Option.some.inj hm).symm]
  exact gk_iret C ⟨hP, hD, hS⟩ dX1_heaviestBut_56
def m_X1_heaviestBut (f_n : Int32) (f_weights : (Nat → Int32)) (x1 : Int32) : Option (Int32) := m_X1_heaviestBut_0 f_n f_weights x1
theorem c_X1_heaviestBut (l : Launch) (G : gk_G) (a0 a1 a2 a3 a4 : Nat) (f_n : Int32) (f_weights : (Nat → Int32)) (x1 : Int32) {rv : Int32} (hm : m_X1_heaviestBut f_n f_weights x1 = some rv) : gk_M l yX1_heaviestBut wsX1_heaviestBut rm_X1_heaviestBut false G [.ref a0, .int x1] [(a0, .inr (0, [.int f_n, .ref a1, .ref a2, .ref a3, .ref a4])), (a3, gk_I G 6 f_weights)] (some (.int rv)) [(a0, .inr (0, [.int f_n, .ref a1, .ref a2, .ref a3, .ref a4])), (a3, gk_I G 6 f_weights)] :=
  gk_of (by decide) rfl (Nat.le_of_ble_eq_true rfl) (fun p e s m below meth c A ls C h hl => w_X1_heaviestBut_0 C hm (fun v0 ez => by cases ez; rfl) h (show lv_has ls 6 [(0, .ref a0), (1, .int x1)] from hl))

/-! ===== ExchangeFamilies.Ground.byGreed(J)I ===== -/
abbrev rm_X1_byGreed : Room := { frames := 3, cells := 0, slots := 0, locals := 153 }
theorem k_X1_byGreed_0 : Cond.constantLong RX1 72 (-1) ∈ wsX1_byGreed := by decide +kernel
theorem k_X1_byGreed_1 : ∀ w ∈ u_ws RX1 TX1 5, w ∈ wsX1_byGreed := by decide +kernel
theorem k_X1_byGreed_2 : Cond.fieldLink RX1 9 "ExchangeFamilies$Ground" "n" "I" ∈ wsX1_byGreed := by decide +kernel
theorem k_X1_byGreed_3 : Cond.fieldLink RX1 23 "ExchangeFamilies$Ground" "weights" "[I" ∈ wsX1_byGreed := by decide +kernel
def m_X1_byGreed_J120 (f_n : Int32) (f_weights : (Nat → Int32)) (x5 : Int32) (x6 : Int32) (x7 : Int32) (x8 : Int32) (x13 : Int32) (s0 : Int64) : Option ((Int64 × Int32 × Int32 × Int32) ⊕ (Int32)) := (if x13 = (0 : Int32) then some (.inl (s0, x5, x6 ||| (0 : Int32), x7 + 1)) else some (.inl (s0, x5, x6 ||| ((1 : Int32) <<< (x8 &&& 31)), x7 + 1)))
set_option maxRecDepth 100000 in
set_option maxHeartbeats 4000000 in
theorem w_X1_byGreed_J120 {p : Program} {l : Launch} {e : Env} {s : State} {m : MethodId} {args : Array Value} {below : List Frame} {meth : Method} {c : Code} {G : gk_G} {A : Nat → Prop} {Q : State → Prop} {a0 a1 a2 a3 a4 : Nat} (C : gk_C p s m args meth c cX1_byGreed 14 (some .int) yX1_byGreed wsX1_byGreed true G A) {f_n : Int32} {f_weights : (Nat → Int32)} {x5 : Int32} {x6 : Int32} {x7 : Int32} {x8 : Int32} {x13 : Int32} {s0 : Int64} {yy : (Int64 × Int32 × Int32 × Int32) ⊕ (Int32)} (hm : m_X1_byGreed_J120 f_n f_weights x5 x6 x7 x8 x13 s0 = some yy) (kl : ∀ (x3 : Int64) (x5 : Int32) (x6 : Int32) (x7 : Int32), yy = .inl (x3, x5, x6, x7) → ∀ (H : Heap) (locs : List Loc) (ls : Array Slot), gk_H G A s [(a0, .inr (0, [.int f_n, .ref a1, .ref a2, .ref a3, .ref a4])), (a3, gk_I G 6 f_weights)] H locs → lv_has ls 14 [(0, .ref a0), (3, .long x3), (5, .int x5), (6, .int x6), (7, .int x7)] → W p l e rm_X1_byGreed s m args below meth c H locs 0 0 Q (F0 m 19 ls [])) (kx : ∀ (x6 : Int32), yy = .inr x6 → ∀ (H : Heap) (locs : List Loc) (ls : Array Slot), gk_H G A s [(a0, .inr (0, [.int f_n, .ref a1, .ref a2, .ref a3, .ref a4])), (a3, gk_I G 6 f_weights)] H locs → lv_has ls 14 [(6, .int x6)] → W p l e rm_X1_byGreed s m args below meth c H locs 0 0 Q (F0 m 145 ls [])) {H : Heap} {locs : List Loc} {ls : Array Slot} (h : gk_H G A s [(a0, .inr (0, [.int f_n, .ref a1, .ref a2, .ref a3, .ref a4])), (a3, gk_I G 6 f_weights)] H locs) (hl : lv_has ls 14 [(0, .ref a0), (5, .int x5), (6, .int x6), (7, .int x7), (8, .int x8), (13, .int x13)]) : W p l e rm_X1_byGreed s m args below meth c H locs 0 0 Q (F0 m 120 ls [.long s0]) := by
  obtain ⟨hx, hb, hml, hr, hown, hnm, hts, hlk, hK, hSt, hA⟩ := id C
  obtain ⟨hP, hD, hS⟩ := h
  unfold m_X1_byGreed_J120 at hm
  refine lv_lstore_n (lv' := [(3, .long s0), (0, .ref a0), (5, .int x5), (6, .int x6), (7, .int x7), (8, .int x8), (13, .int x13)]) hx hb dX1_byGreed_120 rfl hl (by decide) rfl (fun ls hl => ?_)
  refine lv_iload hx hb dX1_byGreed_121 (lv_at hl 3 rfl) ?_
  refine lv_iload hx hb dX1_byGreed_123 (lv_at hl 6 rfl) ?_
  refine lv_if_eq (tgt := 135) hx hb dX1_byGreed_125 (by decide) (fun c14 => ?_) (fun c14 => ?_)
  · have hm := gk_it c14 hm
    refine lv_iconst (v := 0) hx hb dX1_byGreed_135 (by decide) ?_
    refine lv_ior hx hb dX1_byGreed_136 ?_
    refine lv_istore (lv' := [(6, .int (x6 ||| (0 : Int32))), (3, .long s0), (0, .ref a0), (5, .int x5), (7, .int x7), (8, .int x8), (13, .int x13)]) hx hb dX1_byGreed_137 hl (by decide) rfl (fun ls hl => ?_)
    refine lv_iinc (v := x7 + 1) (lv' := [(7, .int (x7 + 1)), (6, .int (x6 ||| (0 : Int32))), (3, .long s0), (0, .ref a0), (5, .int x5), (8, .int x8), (13, .int x13)]) hx hb dX1_byGreed_139 hl (k := 4) rfl rfl (by decide) rfl (fun ls hl => ?_)
    refine lv_goto (tgt := 19) hx hb dX1_byGreed_142 (by decide) ?_
    exact kl _ _ _ _ (Option.some.inj hm).symm _ _ _ ⟨hP, hD, hS⟩ (lv_sub hl [3, 2, 4, 1, 0] rfl)
  · have hm := gk_if c14 hm
    refine lv_iconst (v := 1) hx hb dX1_byGreed_128 (by decide) ?_
    refine lv_iload hx hb dX1_byGreed_129 (lv_at hl 5 rfl) ?_
    refine lv_ishl hx hb dX1_byGreed_131 ?_
    refine lv_goto (tgt := 136) hx hb dX1_byGreed_132 (by decide) ?_
    refine lv_ior hx hb dX1_byGreed_136 ?_
    refine lv_istore (lv' := [(6, .int (x6 ||| ((1 : Int32) <<< (x8 &&& 31)))), (3, .long s0), (0, .ref a0), (5, .int x5), (7, .int x7), (8, .int x8), (13, .int x13)]) hx hb dX1_byGreed_137 hl (by decide) rfl (fun ls hl => ?_)
    refine lv_iinc (v := x7 + 1) (lv' := [(7, .int (x7 + 1)), (6, .int (x6 ||| ((1 : Int32) <<< (x8 &&& 31)))), (3, .long s0), (0, .ref a0), (5, .int x5), (8, .int x8), (13, .int x13)]) hx hb dX1_byGreed_139 hl (k := 4) rfl rfl (by decide) rfl (fun ls hl => ?_)
    refine lv_goto (tgt := 19) hx hb dX1_byGreed_142 (by decide) ?_
    exact kl _ _ _ _ (Option.some.inj hm).symm _ _ _ ⟨hP, hD, hS⟩ (lv_sub hl [3, 2, 4, 1, 0] rfl)
def m_X1_byGreed_J106 (f_n : Int32) (f_weights : (Nat → Int32)) (x5 : Int32) (x6 : Int32) (x7 : Int32) (x8 : Int32) (x9 : Int64) (x11 : Int64) (s0 : Int32) : Option ((Int64 × Int32 × Int32 × Int32) ⊕ (Int32)) := (if s0 = (0 : Int32) then m_X1_byGreed_J120 f_n f_weights x5 x6 x7 x8 s0 x11 else m_X1_byGreed_J120 f_n f_weights x5 x6 x7 x8 s0 x9)
set_option maxRecDepth 100000 in
set_option maxHeartbeats 4000000 in
theorem w_X1_byGreed_J106 {p : Program} {l : Launch} {e : Env} {s : State} {m : MethodId} {args : Array Value} {below : List Frame} {meth : Method} {c : Code} {G : gk_G} {A : Nat → Prop} {Q : State → Prop} {a0 a1 a2 a3 a4 : Nat} (C : gk_C p s m args meth c cX1_byGreed 14 (some .int) yX1_byGreed wsX1_byGreed true G A) {f_n : Int32} {f_weights : (Nat → Int32)} {x5 : Int32} {x6 : Int32} {x7 : Int32} {x8 : Int32} {x9 : Int64} {x11 : Int64} {s0 : Int32} {yy : (Int64 × Int32 × Int32 × Int32) ⊕ (Int32)} (hm : m_X1_byGreed_J106 f_n f_weights x5 x6 x7 x8 x9 x11 s0 = some yy) (kl : ∀ (x3 : Int64) (x5 : Int32) (x6 : Int32) (x7 : Int32), yy = .inl (x3, x5, x6, x7) → ∀ (H : Heap) (locs : List Loc) (ls : Array Slot), gk_H G A s [(a0, .inr (0, [.int f_n, .ref a1, .ref a2, .ref a3, .ref a4])), (a3, gk_I G 6 f_weights)] H locs → lv_has ls 14 [(0, .ref a0), (3, .long x3), (5, .int x5), (6, .int x6), (7, .int x7)] → W p l e rm_X1_byGreed s m args below meth c H locs 0 0 Q (F0 m 19 ls [])) (kx : ∀ (x6 : Int32), yy = .inr x6 → ∀ (H : Heap) (locs : List Loc) (ls : Array Slot), gk_H G A s [(a0, .inr (0, [.int f_n, .ref a1, .ref a2, .ref a3, .ref a4])), (a3, gk_I G 6 f_weights)] H locs → lv_has ls 14 [(6, .int x6)] → W p l e rm_X1_byGreed s m args below meth c H locs 0 0 Q (F0 m 145 ls [])) {H : Heap} {locs : List Loc} {ls : Array Slot} (h : gk_H G A s [(a0, .inr (0, [.int f_n, .ref a1, .ref a2, .ref a3, .ref a4])), (a3, gk_I G 6 f_weights)] H locs) (hl : lv_has ls 14 [(0, .ref a0), (5, .int x5), (6, .int x6), (7, .int x7), (8, .int x8), (9, .long x9), (11, .long x11)]) : W p l e rm_X1_byGreed s m args below meth c H locs 0 0 Q (F0 m 106 ls [.int s0]) := by
  obtain ⟨hx, hb, hml, hr, hown, hnm, hts, hlk, hK, hSt, hA⟩ := id C
  obtain ⟨hP, hD, hS⟩ := h
  unfold m_X1_byGreed_J106 at hm
  refine lv_istore (lv' := [(13, .int s0), (0, .ref a0), (5, .int x5), (6, .int x6), (7, .int x7), (8, .int x8), (9, .long x9), (11, .long x11)]) hx hb dX1_byGreed_106 hl (by decide) rfl (fun ls hl => ?_)
  refine lv_iload hx hb dX1_byGreed_108 (lv_at hl 0 rfl) ?_
  refine lv_if_eq (tgt := 118) hx hb dX1_byGreed_110 (by decide) (fun c13 => ?_) (fun c13 => ?_)
  · have hm := gk_it c13 hm
    refine lv_lload hx hb dX1_byGreed_118 (lv_at hl 7 rfl) ?_
    exact w_X1_byGreed_J120 C hm kl kx ⟨hP, hD, hS⟩ (lv_sub hl [1, 2, 3, 4, 5, 0] rfl)
  · have hm := gk_if c13 hm
    refine lv_lload hx hb dX1_byGreed_113 (lv_at hl 6 rfl) ?_
    refine lv_goto (tgt := 120) hx hb dX1_byGreed_115 (by decide) ?_
    exact w_X1_byGreed_J120 C hm kl kx ⟨hP, hD, hS⟩ (lv_sub hl [1, 2, 3, 4, 5, 0] rfl)
def m_X1_byGreed_B19 (f_n : Int32) (f_weights : (Nat → Int32)) (x3 : Int64) (x5 : Int32) (x6 : Int32) (x7 : Int32) : Option ((Int64 × Int32 × Int32 × Int32) ⊕ (Int32)) := (if f_n ≤ x7 then some (.inr x6) else gk_bd1 (m_X1_heaviestBut f_n f_weights x5) (fun r10 => gk_ix r10 6 (gk_ix r10 6 (gk_ix r10 6 ((if (f_weights r10.toNatClampNeg) < (0 : Int32) then (if (lg_cmp (x3 &&& ((gk_hav r10.toNatClampNeg) ^^^ (-1 : Int64))) (0 : Int64)) = (0 : Int32) then m_X1_byGreed_J106 f_n f_weights (x5 ||| ((1 : Int32) <<< (r10 &&& 31))) x6 x7 r10 (x3 &&& (gk_hav r10.toNatClampNeg)) (x3 &&& ((gk_hav r10.toNatClampNeg) ^^^ (-1 : Int64))) (1 : Int32) else m_X1_byGreed_J106 f_n f_weights (x5 ||| ((1 : Int32) <<< (r10 &&& 31))) x6 x7 r10 (x3 &&& (gk_hav r10.toNatClampNeg)) (x3 &&& ((gk_hav r10.toNatClampNeg) ^^^ (-1 : Int64))) (0 : Int32)) else (if (lg_cmp (x3 &&& (gk_hav r10.toNatClampNeg)) (0 : Int64)) = (0 : Int32) then m_X1_byGreed_J106 f_n f_weights (x5 ||| ((1 : Int32) <<< (r10 &&& 31))) x6 x7 r10 (x3 &&& (gk_hav r10.toNatClampNeg)) (x3 &&& ((gk_hav r10.toNatClampNeg) ^^^ (-1 : Int64))) (0 : Int32) else m_X1_byGreed_J106 f_n f_weights (x5 ||| ((1 : Int32) <<< (r10 &&& 31))) x6 x7 r10 (x3 &&& (gk_hav r10.toNatClampNeg)) (x3 &&& ((gk_hav r10.toNatClampNeg) ^^^ (-1 : Int64))) (1 : Int32))))))))
set_option maxRecDepth 100000 in
set_option maxHeartbeats 4000000 in
theorem w_X1_byGreed_B19 {p : Program} {l : Launch} {e : Env} {s : State} {m : MethodId} {args : Array Value} {below : List Frame} {meth : Method} {c : Code} {G : gk_G} {A : Nat → Prop} {Q : State → Prop} {a0 a1 a2 a3 a4 : Nat} (C : gk_C p s m args meth c cX1_byGreed 14 (some .int) yX1_byGreed wsX1_byGreed true G A) {f_n : Int32} {f_weights : (Nat → Int32)} {x3 : Int64} {x5 : Int32} {x6 : Int32} {x7 : Int32} {yy : (Int64 × Int32 × Int32 × Int32) ⊕ (Int32)} (hm : m_X1_byGreed_B19 f_n f_weights x3 x5 x6 x7 = some yy) (kl : ∀ (x3 : Int64) (x5 : Int32) (x6 : Int32) (x7 : Int32), yy = .inl (x3, x5, x6, x7) → ∀ (H : Heap) (locs : List Loc) (ls : Array Slot), gk_H G A s [(a0, .inr (0, [.int f_n, .ref a1, .ref a2, .ref a3, .ref a4])), (a3, gk_I G 6 f_weights)] H locs → lv_has ls 14 [(0, .ref a0), (3, .long x3), (5, .int x5), (6, .int x6), (7, .int x7)] → W p l e rm_X1_byGreed s m args below meth c H locs 0 0 Q (F0 m 19 ls [])) (kx : ∀ (x6 : Int32), yy = .inr x6 → ∀ (H : Heap) (locs : List Loc) (ls : Array Slot), gk_H G A s [(a0, .inr (0, [.int f_n, .ref a1, .ref a2, .ref a3, .ref a4])), (a3, gk_I G 6 f_weights)] H locs → lv_has ls 14 [(6, .int x6)] → W p l e rm_X1_byGreed s m args below meth c H locs 0 0 Q (F0 m 145 ls [])) {H : Heap} {locs : List Loc} {ls : Array Slot} (h : gk_H G A s [(a0, .inr (0, [.int f_n, .ref a1, .ref a2, .ref a3, .ref a4])), (a3, gk_I G 6 f_weights)] H locs) (hl : lv_has ls 14 [(0, .ref a0), (3, .long x3), (5, .int x5), (6, .int x6), (7, .int x7)]) : W p l e rm_X1_byGreed s m args below meth c H locs 0 0 Q (F0 m 19 ls []) := by
  obtain ⟨hx, hb, hml, hr, hown, hnm, hts, hlk, hK, hSt, hA⟩ := id C
  obtain ⟨hP, hD, hS⟩ := h
  unfold m_X1_byGreed_B19 at hm
  refine lv_iload hx hb dX1_byGreed_19 (lv_at hl 4 rfl) ?_
  refine lv_aload_n hx hb dX1_byGreed_21 rfl (lv_at hl 0 rfl) ?_
  refine va_get (D := G.1) (cl := vwCl) (own := RX1) (ref := "ExchangeFamilies$Ground") (ci := 0) (v := .int f_n) (C := RX1) (T := TX1) (N := 5) hx hb hts k_X1_byGreed_1 hown hK hP 0 rfl rfl 0 (by decide) (hts _ k_X1_byGreed_2) (fun _ h9 => h9) rfl dX1_byGreed_22 ?_
  refine lv_icmp_ge (tgt := 145) hx hb dX1_byGreed_25 (by decide) (fun c9 => ?_) (fun c9 => ?_)
  · have hm := gk_it c9 hm
    exact kx _ (Option.some.inj hm).symm _ _ _ ⟨hP, hD, hS⟩ (lv_sub hl [3] rfl)
  · have hm := gk_if c9 hm
    refine lv_aload_n hx hb dX1_byGreed_28 rfl (lv_at hl 0 rfl) ?_
    refine lv_iload hx hb dX1_byGreed_29 (lv_at hl 2 rfl) ?_
    obtain ⟨r10, hq, hm⟩ := gk_bd1_some hm
    refine gk_callV (n := 1) (bytes := cX1_heaviestBut) (maxL := 6) (ret := (some .int)) (Cn := RX1) (T := TX1) (N := 5) [] [(a0, .inr (0, [.int f_n, .ref a1, .ref a2, .ref a3, .ref a4])), (a3, gk_I G 6 f_weights)] [] C ⟨hP, hD, hS⟩ (c_X1_heaviestBut l G a0 a1 a2 a3 a4 f_n f_weights x5 hq) gX1_byGreed_X1_heaviestBut dX1_byGreed_31 hl.1 [0, 1] [] [0, 1] rfl rfl ⟨rfl, rfl⟩ ⟨Nat.le_of_ble_eq_true rfl, Nat.le_of_ble_eq_true rfl⟩ ⟨rfl, by decide +kernel, by decide +kernel, by decide +kernel⟩ rfl (fun h => by cases h) (Nat.le_of_ble_eq_true rfl) rfl rfl rfl rfl (by decide) rfl rfl (fun H locs h => ?_)
    obtain ⟨hP, hD, hS⟩ := h
    refine lv_istore (lv' := [(8, .int r10), (0, .ref a0), (3, .long x3), (5, .int x5), (6, .int x6), (7, .int x7)]) hx hb dX1_byGreed_34 hl (by decide) rfl (fun ls hl => ?_)
    refine lv_iload hx hb dX1_byGreed_36 (lv_at hl 3 rfl) ?_
    refine lv_iconst (v := 1) hx hb dX1_byGreed_38 (by decide) ?_
    refine lv_iload hx hb dX1_byGreed_39 (lv_at hl 0 rfl) ?_
    refine lv_ishl hx hb dX1_byGreed_41 ?_
    refine lv_ior hx hb dX1_byGreed_42 ?_
    refine lv_istore (lv' := [(5, .int (x5 ||| ((1 : Int32) <<< (r10 &&& 31)))), (8, .int r10), (0, .ref a0), (3, .long x3), (6, .int x6), (7, .int x7)]) hx hb dX1_byGreed_43 hl (by decide) rfl (fun ls hl => ?_)
    refine lv_lload_n hx hb dX1_byGreed_45 rfl (lv_at hl 3 rfl) ?_
    refine va_getsN (own := RX1) (ref := "ExchangeFamilies") (host := "ExchangeFamilies") hx hb (hSt rfl).1.1 hS hown (va_Nw.use rfl (hSt rfl).2.2.2.2.1) (fun _ h9 => h9) dX1_byGreed_46 ?_
    refine lv_iload hx hb dX1_byGreed_49 (lv_at hl 1 rfl) ?_
    obtain ⟨hi, hm⟩ := gk_ix_some hm
    refine va_tl hx hb (hSt rfl).1.2 hS hi rfl dX1_byGreed_51 ?_
    refine lv_land hx hb dX1_byGreed_52 ?_
    refine lv_lstore (lv' := [(9, .long (x3 &&& (gk_hav r10.toNatClampNeg))), (5, .int (x5 ||| ((1 : Int32) <<< (r10 &&& 31)))), (8, .int r10), (0, .ref a0), (3, .long x3), (6, .int x6), (7, .int x7)]) hx hb dX1_byGreed_53 hl (by decide) rfl (fun ls hl => ?_)
    refine lv_lload_n hx hb dX1_byGreed_55 rfl (lv_at hl 4 rfl) ?_
    refine va_getsN (own := RX1) (ref := "ExchangeFamilies") (host := "ExchangeFamilies") hx hb (hSt rfl).1.1 hS hown (va_Nw.use rfl (hSt rfl).2.2.2.2.1) (fun _ h9 => h9) dX1_byGreed_56 ?_
    refine lv_iload hx hb dX1_byGreed_59 (lv_at hl 2 rfl) ?_
    obtain ⟨hi, hm⟩ := gk_ix_some hm
    refine va_tl hx hb (hSt rfl).1.2 hS hi rfl dX1_byGreed_61 ?_
    refine lv_ldc2 (own := RX1) (v := -1) hx hb hown (hts _ k_X1_byGreed_0) dX1_byGreed_62 ?_
    refine lv_lxor hx hb dX1_byGreed_65 ?_
    refine lv_land hx hb dX1_byGreed_66 ?_
    refine lv_lstore (lv' := [(11, .long (x3 &&& ((gk_hav r10.toNatClampNeg) ^^^ (-1 : Int64)))), (9, .long (x3 &&& (gk_hav r10.toNatClampNeg))), (5, .int (x5 ||| ((1 : Int32) <<< (r10 &&& 31)))), (8, .int r10), (0, .ref a0), (3, .long x3), (6, .int x6), (7, .int x7)]) hx hb dX1_byGreed_67 hl (by decide) rfl (fun ls hl => ?_)
    refine lv_aload_n hx hb dX1_byGreed_69 rfl (lv_at hl 4 rfl) ?_
    refine va_get (D := G.1) (cl := vwCl) (own := RX1) (ref := "ExchangeFamilies$Ground") (ci := 0) (v := .ref a3) (C := RX1) (T := TX1) (N := 5) hx hb hts k_X1_byGreed_1 hown hK hP 0 rfl rfl 3 (by decide) (hts _ k_X1_byGreed_3) (fun _ h9 => h9) rfl dX1_byGreed_70 ?_
    refine lv_iload hx hb dX1_byGreed_73 (lv_at hl 3 rfl) ?_
    obtain ⟨hi, hm⟩ := gk_ix_some hm
    refine va_iald hx hb hK hP 1 0 rfl rfl hi dX1_byGreed_75 ?_
    refine lv_if_lt (tgt := 94) hx hb dX1_byGreed_76 (by decide) (fun c11 => ?_) (fun c11 => ?_)
    · have hm := gk_it c11 hm
      refine lv_lload hx hb dX1_byGreed_94 (lv_at hl 0 rfl) ?_
      refine lv_lconst (v := 0) hx hb dX1_byGreed_96 (by decide) ?_
      refine W.lcmp hx hb dX1_byGreed_97 ?_
      refine lv_if_ne (tgt := 105) hx hb dX1_byGreed_98 (by decide) (fun c12 => ?_) (fun c12 => ?_)
      · have hm := gk_if c12 hm
        refine lv_iconst (v := 0) hx hb dX1_byGreed_105 (by decide) ?_
        exact w_X1_byGreed_J106 C hm kl kx ⟨hP, hD, hS⟩ (lv_sub hl [4, 2, 6, 7, 3, 1, 0] rfl)
      · have hm := gk_it c12 hm
        refine lv_iconst (v := 1) hx hb dX1_byGreed_101 (by decide) ?_
        refine lv_goto (tgt := 106) hx hb dX1_byGreed_102 (by decide) ?_
        exact w_X1_byGreed_J106 C hm kl kx ⟨hP, hD, hS⟩ (lv_sub hl [4, 2, 6, 7, 3, 1, 0] rfl)
    · have hm := gk_if c11 hm
      refine lv_lload hx hb dX1_byGreed_79 (lv_at hl 1 rfl) ?_
      refine lv_lconst (v := 0) hx hb dX1_byGreed_81 (by decide) ?_
      refine W.lcmp hx hb dX1_byGreed_82 ?_
      refine lv_if_eq (tgt := 90) hx hb dX1_byGreed_83 (by decide) (fun c15 => ?_) (fun c15 => ?_)
      · have hm := gk_it c15 hm
        refine lv_iconst (v := 0) hx hb dX1_byGreed_90 (by decide) ?_
        refine lv_goto (tgt := 106) hx hb dX1_byGreed_91 (by decide) ?_
        exact w_X1_byGreed_J106 C hm kl kx ⟨hP, hD, hS⟩ (lv_sub hl [4, 2, 6, 7, 3, 1, 0] rfl)
      · have hm := gk_if c15 hm
        refine lv_iconst (v := 1) hx hb dX1_byGreed_86 (by decide) ?_
        refine lv_goto (tgt := 106) hx hb dX1_byGreed_87 (by decide) ?_
        exact w_X1_byGreed_J106 C hm kl kx ⟨hP, hD, hS⟩ (lv_sub hl [4, 2, 6, 7, 3, 1, 0] rfl)
set_option maxRecDepth 100000 in
set_option maxHeartbeats 4000000 in
theorem w_X1_byGreed_L19 {p : Program} {l : Launch} {e : Env} {s : State} {m : MethodId} {args : Array Value} {below : List Frame} {meth : Method} {c : Code} {G : gk_G} {A : Nat → Prop} {Q : State → Prop} {a0 a1 a2 a3 a4 : Nat} (C : gk_C p s m args meth c cX1_byGreed 14 (some .int) yX1_byGreed wsX1_byGreed true G A) {f_n : Int32} {f_weights : (Nat → Int32)} {x3 : Int64} {x5 : Int32} {x6 : Int32} {x7 : Int32} {k : Nat} {e_x6 : Int32} (hm : gk_lp (fun z => m_X1_byGreed_B19 f_n f_weights z.1 z.2.1 z.2.2.1 z.2.2.2) k (x3, x5, x6, x7) = some e_x6) (kx : ∀ (H : Heap) (locs : List Loc) (ls : Array Slot), gk_H G A s [(a0, .inr (0, [.int f_n, .ref a1, .ref a2, .ref a3, .ref a4])), (a3, gk_I G 6 f_weights)] H locs → lv_has ls 14 [(6, .int e_x6)] → W p l e rm_X1_byGreed s m args below meth c H locs 0 0 Q (F0 m 145 ls [])) {H : Heap} {locs : List Loc} {ls : Array Slot} (h : gk_H G A s [(a0, .inr (0, [.int f_n, .ref a1, .ref a2, .ref a3, .ref a4])), (a3, gk_I G 6 f_weights)] H locs) (hl : lv_has ls 14 [(0, .ref a0), (3, .long x3), (5, .int x5), (6, .int x6), (7, .int x7)]) : W p l e rm_X1_byGreed s m args below meth c H locs 0 0 Q (F0 m 19 ls []) :=
  gk_lp_some (P := fun z => ∀ (H : Heap) (locs : List Loc) (ls : Array Slot), gk_H G A s [(a0, .inr (0, [.int f_n, .ref a1, .ref a2, .ref a3, .ref a4])), (a3, gk_I G 6 f_weights)] H locs → lv_has ls 14 [(0, .ref a0), (3, .long z.1), (5, .int z.2.1), (6, .int z.2.2.1), (7, .int z.2.2.2)] → W p l e rm_X1_byGreed s m args below meth c H locs 0 0 Q (F0 m 19 ls [])) (E := fun r => (∀ (x6 : Int32), r = x6 → ∀ (H : Heap) (locs : List Loc) (ls : Array Slot), gk_H G A s [(a0, .inr (0, [.int f_n, .ref a1, .ref a2, .ref a3, .ref a4])), (a3, gk_I G 6 f_weights)] H locs → lv_has ls 14 [(6, .int x6)] → W p l e rm_X1_byGreed s m args below meth c H locs 0 0 Q (F0 m 145 ls []))) (fun z x hf kl ke H locs ls h hl => w_X1_byGreed_B19 C hf (fun v0 v1 v2 v3 ez => kl (v0, v1, v2, v3) ez) (fun v0 ez => ke _ ez v0 rfl) h hl) k (x3, x5, x6, x7) _ hm (fun v0 ez => (by cases ez; exact kx)) _ _ _ h hl
def m_X1_byGreed_0 (f_n : Int32) (f_weights : (Nat → Int32)) (x1 : Int64) : Option (Int32) := (if (lg_cmp x1 (0 : Int64)) = (0 : Int32) then some (-1 : Int32) else gk_bd1 (gk_lp (fun z => m_X1_byGreed_B19 f_n f_weights z.1 z.2.1 z.2.2.1 z.2.2.2) gk_fu (x1, (0 : Int32), (0 : Int32), (0 : Int32))) (fun e16 => some e16))
set_option maxRecDepth 100000 in
set_option maxHeartbeats 4000000 in
theorem w_X1_byGreed_0 {p : Program} {l : Launch} {e : Env} {s : State} {m : MethodId} {args : Array Value} {below : List Frame} {meth : Method} {c : Code} {G : gk_G} {A : Nat → Prop} {Q : State → Prop} {a0 a1 a2 a3 a4 : Nat} (C : gk_C p s m args meth c cX1_byGreed 14 (some .int) yX1_byGreed wsX1_byGreed true G A) {f_n : Int32} {f_weights : (Nat → Int32)} {x1 : Int64} {yy : Int32} (hm : m_X1_byGreed_0 f_n f_weights x1 = some yy) (kr : ∀ (rv : Int32), yy = rv → Q = MQ below (gk_Q G (some (.int rv)) [(a0, .inr (0, [.int f_n, .ref a1, .ref a2, .ref a3, .ref a4])), (a3, gk_I G 6 f_weights)] A) args s 0 0 A) {H : Heap} {locs : List Loc} {ls : Array Slot} (h : gk_H G A s [(a0, .inr (0, [.int f_n, .ref a1, .ref a2, .ref a3, .ref a4])), (a3, gk_I G 6 f_weights)] H locs) (hl : lv_has ls 14 [(0, .ref a0), (1, .long x1)]) : W p l e rm_X1_byGreed s m args below meth c H locs 0 0 Q (F0 m 0 ls []) := by
  obtain ⟨hx, hb, hml, hr, hown, hnm, hts, hlk, hK, hSt, hA⟩ := id C
  obtain ⟨hP, hD, hS⟩ := h
  unfold m_X1_byGreed_0 at hm
  refine lv_lload_n hx hb dX1_byGreed_0 rfl (lv_at hl 1 rfl) ?_
  refine lv_lconst (v := 0) hx hb dX1_byGreed_1 (by decide) ?_
  refine W.lcmp hx hb dX1_byGreed_2 ?_
  refine lv_if_ne (tgt := 8) hx hb dX1_byGreed_3 (by decide) (fun c8 => ?_) (fun c8 => ?_)
  · have hm := gk_if c8 hm
    refine lv_lload_n hx hb dX1_byGreed_8 rfl (lv_at hl 1 rfl) ?_
    refine lv_lstore_n (lv' := [(3, .long x1), (0, .ref a0), (1, .long x1)]) hx hb dX1_byGreed_9 rfl hl (by decide) rfl (fun ls hl => ?_)
    refine lv_iconst (v := 0) hx hb dX1_byGreed_10 (by decide) ?_
    refine lv_istore (lv' := [(5, .int (0 : Int32)), (3, .long x1), (0, .ref a0), (1, .long x1)]) hx hb dX1_byGreed_11 hl (by decide) rfl (fun ls hl => ?_)
    refine lv_iconst (v := 0) hx hb dX1_byGreed_13 (by decide) ?_
    refine lv_istore (lv' := [(6, .int (0 : Int32)), (5, .int (0 : Int32)), (3, .long x1), (0, .ref a0), (1, .long x1)]) hx hb dX1_byGreed_14 hl (by decide) rfl (fun ls hl => ?_)
    refine lv_iconst (v := 0) hx hb dX1_byGreed_16 (by decide) ?_
    refine lv_istore (lv' := [(7, .int (0 : Int32)), (6, .int (0 : Int32)), (5, .int (0 : Int32)), (3, .long x1), (0, .ref a0), (1, .long x1)]) hx hb dX1_byGreed_17 hl (by decide) rfl (fun ls hl => ?_)
    obtain ⟨e16, hq, hm⟩ := gk_bd1_some hm
    refine w_X1_byGreed_L19 C hq (fun H locs ls h hl => ?_) ⟨hP, hD, hS⟩ (lv_sub hl [4, 3, 2, 1, 0] rfl)
    obtain ⟨hP, hD, hS⟩ := h
    refine lv_iload hx hb dX1_byGreed_145 (lv_at hl 0 rfl) ?_
    rw [kr _ (Option.some.inj hm).symm]
    exact gk_iret C ⟨hP, hD, hS⟩ dX1_byGreed_147
  · have hm := gk_it c8 hm
    refine lv_iconst (v := -1) hx hb dX1_byGreed_6 (by decide) ?_
    rw [kr _ (Option.some.inj hm).symm]
    exact gk_iret C ⟨hP, hD, hS⟩ dX1_byGreed_7
def m_X1_byGreed (f_n : Int32) (f_weights : (Nat → Int32)) (x1 : Int64) : Option (Int32) := m_X1_byGreed_0 f_n f_weights x1
theorem c_X1_byGreed (l : Launch) (G : gk_G) (a0 a1 a2 a3 a4 : Nat) (f_n : Int32) (f_weights : (Nat → Int32)) (x1 : Int64) {rv : Int32} (hm : m_X1_byGreed f_n f_weights x1 = some rv) : gk_M l yX1_byGreed wsX1_byGreed rm_X1_byGreed true G [.ref a0, .long x1] [(a0, .inr (0, [.int f_n, .ref a1, .ref a2, .ref a3, .ref a4])), (a3, gk_I G 6 f_weights)] (some (.int rv)) [(a0, .inr (0, [.int f_n, .ref a1, .ref a2, .ref a3, .ref a4])), (a3, gk_I G 6 f_weights)] :=
  gk_of (by decide) rfl (Nat.le_of_ble_eq_true rfl) (fun p e s m below meth c A ls C h hl => w_X1_byGreed_0 C hm (fun v0 ez => by cases ez; rfl) h (show lv_has ls 14 [(0, .ref a0), (1, .long x1)] from hl))

/-! ===== ExchangeFamilies.Ground.byLooking(J)I ===== -/
abbrev rm_X1_byLooking : Room := { frames := 3, cells := 0, slots := 0, locals := 151 }
theorem k_X1_byLooking_0 : ∀ w ∈ u_ws RX1 TX1 5, w ∈ wsX1_byLooking := by decide +kernel
theorem k_X1_byLooking_1 : Cond.fieldLink RX1 9 "ExchangeFamilies$Ground" "n" "I" ∈ wsX1_byLooking := by decide +kernel
def m_X1_byLooking_B8 (f_n : Int32) (f_weights : (Nat → Int32)) (x1 : Int64) (x3 : Int32) (x4 : Int32) (x5 : Int32) : Option ((Int32 × Int32 × Int32) ⊕ (Int32)) := (if ((1 : Int32) <<< (f_n &&& 31)) ≤ x5 then some (.inr x3) else gk_bd1 (m_X0_holds x1 x5) (fun r6 => (if r6 = (0 : Int32) then some (.inl (x3, x4, x5 + 1)) else gk_bd1 (m_X1_weightOf f_n f_weights x5) (fun r8 => (if x3 = (-1 : Int32) then some (.inl (x5, r8, x5 + 1)) else (if r8 ≤ x4 then some (.inl (x3, x4, x5 + 1)) else some (.inl (x5, r8, x5 + 1))))))))
set_option maxRecDepth 100000 in
set_option maxHeartbeats 4000000 in
theorem w_X1_byLooking_B8 {p : Program} {l : Launch} {e : Env} {s : State} {m : MethodId} {args : Array Value} {below : List Frame} {meth : Method} {c : Code} {G : gk_G} {A : Nat → Prop} {Q : State → Prop} {a0 a1 a2 a3 a4 : Nat} (C : gk_C p s m args meth c cX1_byLooking 7 (some .int) yX1_byLooking wsX1_byLooking false G A) {f_n : Int32} {f_weights : (Nat → Int32)} {x1 : Int64} {x3 : Int32} {x4 : Int32} {x5 : Int32} {yy : (Int32 × Int32 × Int32) ⊕ (Int32)} (hm : m_X1_byLooking_B8 f_n f_weights x1 x3 x4 x5 = some yy) (kl : ∀ (x3 : Int32) (x4 : Int32) (x5 : Int32), yy = .inl (x3, x4, x5) → ∀ (H : Heap) (locs : List Loc) (ls : Array Slot), gk_H G A s [(a0, .inr (0, [.int f_n, .ref a1, .ref a2, .ref a3, .ref a4])), (a3, gk_I G 6 f_weights)] H locs → lv_has ls 7 [(0, .ref a0), (1, .long x1), (3, .int x3), (4, .int x4), (5, .int x5)] → W p l e rm_X1_byLooking s m args below meth c H locs 0 0 Q (F0 m 8 ls [])) (kx : ∀ (x3 : Int32), yy = .inr x3 → ∀ (H : Heap) (locs : List Loc) (ls : Array Slot), gk_H G A s [(a0, .inr (0, [.int f_n, .ref a1, .ref a2, .ref a3, .ref a4])), (a3, gk_I G 6 f_weights)] H locs → lv_has ls 7 [(3, .int x3)] → W p l e rm_X1_byLooking s m args below meth c H locs 0 0 Q (F0 m 64 ls [])) {H : Heap} {locs : List Loc} {ls : Array Slot} (h : gk_H G A s [(a0, .inr (0, [.int f_n, .ref a1, .ref a2, .ref a3, .ref a4])), (a3, gk_I G 6 f_weights)] H locs) (hl : lv_has ls 7 [(0, .ref a0), (1, .long x1), (3, .int x3), (4, .int x4), (5, .int x5)]) : W p l e rm_X1_byLooking s m args below meth c H locs 0 0 Q (F0 m 8 ls []) := by
  obtain ⟨hx, hb, hml, hr, hown, hnm, hts, hlk, hK, hSt, hA⟩ := id C
  obtain ⟨hP, hD, hS⟩ := h
  unfold m_X1_byLooking_B8 at hm
  refine lv_iload hx hb dX1_byLooking_8 (lv_at hl 4 rfl) ?_
  refine lv_iconst (v := 1) hx hb dX1_byLooking_10 (by decide) ?_
  refine lv_aload_n hx hb dX1_byLooking_11 rfl (lv_at hl 0 rfl) ?_
  refine va_get (D := G.1) (cl := vwCl) (own := RX1) (ref := "ExchangeFamilies$Ground") (ci := 0) (v := .int f_n) (C := RX1) (T := TX1) (N := 5) hx hb hts k_X1_byLooking_0 hown hK hP 0 rfl rfl 0 (by decide) (hts _ k_X1_byLooking_1) (fun _ h9 => h9) rfl dX1_byLooking_12 ?_
  refine lv_ishl hx hb dX1_byLooking_15 ?_
  refine lv_icmp_ge (tgt := 64) hx hb dX1_byLooking_16 (by decide) (fun c5 => ?_) (fun c5 => ?_)
  · have hm := gk_it c5 hm
    exact kx _ (Option.some.inj hm).symm _ _ _ ⟨hP, hD, hS⟩ (lv_sub hl [2] rfl)
  · have hm := gk_if c5 hm
    refine lv_lload_n hx hb dX1_byLooking_19 rfl (lv_at hl 1 rfl) ?_
    refine lv_iload hx hb dX1_byLooking_20 (lv_at hl 4 rfl) ?_
    obtain ⟨r6, hq, hm⟩ := gk_bd1_some hm
    refine gk_callS (n := 2) (bytes := cX0_holds) (maxL := 3) (ret := (some .boolean)) [(a0, .inr (0, [.int f_n, .ref a1, .ref a2, .ref a3, .ref a4])), (a3, gk_I G 6 f_weights)] [(a0, .inr (0, [.int f_n, .ref a1, .ref a2, .ref a3, .ref a4])), (a3, gk_I G 6 f_weights)] [] C ⟨hP, hD, hS⟩ (c_X0_holds l G x1 x5 hq) gX1_byLooking_X0_holds dX1_byLooking_22 hl.1 [] [0, 1] [0, 1] rfl ⟨rfl, rfl⟩ ⟨Nat.le_of_ble_eq_true rfl, Nat.le_of_ble_eq_true rfl⟩ ⟨by decide +kernel, by decide +kernel, by decide +kernel⟩ rfl (fun h => by cases h) (Nat.le_of_ble_eq_true rfl) rfl rfl rfl rfl (by decide) rfl rfl (fun H locs h => ?_)
    obtain ⟨hP, hD, hS⟩ := h
    refine lv_if_ne (tgt := 31) hx hb dX1_byLooking_25 (by decide) (fun c7 => ?_) (fun c7 => ?_)
    · have hm := gk_if c7 hm
      refine lv_aload_n hx hb dX1_byLooking_31 rfl (lv_at hl 0 rfl) ?_
      refine lv_iload hx hb dX1_byLooking_32 (lv_at hl 4 rfl) ?_
      obtain ⟨r8, hq, hm⟩ := gk_bd1_some hm
      refine gk_callV (n := 1) (bytes := cX1_weightOf) (maxL := 4) (ret := (some .int)) (Cn := RX1) (T := TX1) (N := 5) [] [(a0, .inr (0, [.int f_n, .ref a1, .ref a2, .ref a3, .ref a4])), (a3, gk_I G 6 f_weights)] [] C ⟨hP, hD, hS⟩ (c_X1_weightOf l G a0 a1 a2 a3 a4 f_n f_weights x5 hq) gX1_byLooking_X1_weightOf dX1_byLooking_34 hl.1 [0, 1] [] [0, 1] rfl rfl ⟨rfl, rfl⟩ ⟨Nat.le_of_ble_eq_true rfl, Nat.le_of_ble_eq_true rfl⟩ ⟨rfl, by decide +kernel, by decide +kernel, by decide +kernel⟩ rfl (fun h => by cases h) (Nat.le_of_ble_eq_true rfl) rfl rfl rfl rfl (by decide) rfl rfl (fun H locs h => ?_)
      obtain ⟨hP, hD, hS⟩ := h
      refine lv_istore (lv' := [(6, .int r8), (0, .ref a0), (1, .long x1), (3, .int x3), (4, .int x4), (5, .int x5)]) hx hb dX1_byLooking_37 hl (by decide) rfl (fun ls hl => ?_)
      refine lv_iload_n hx hb dX1_byLooking_39 rfl (lv_at hl 3 rfl) ?_
      refine lv_iconst (v := -1) hx hb dX1_byLooking_40 (by decide) ?_
      refine lv_icmp_eq (tgt := 51) hx hb dX1_byLooking_41 (by decide) (fun c9 => ?_) (fun c9 => ?_)
      · have hm := gk_it c9 hm
        refine lv_iload hx hb dX1_byLooking_51 (lv_at hl 5 rfl) ?_
        refine lv_istore_n (lv' := [(3, .int x5), (6, .int r8), (0, .ref a0), (1, .long x1), (4, .int x4), (5, .int x5)]) hx hb dX1_byLooking_53 rfl hl (by decide) rfl (fun ls hl => ?_)
        refine lv_iload hx hb dX1_byLooking_54 (lv_at hl 1 rfl) ?_
        refine lv_istore (lv' := [(4, .int r8), (3, .int x5), (6, .int r8), (0, .ref a0), (1, .long x1), (5, .int x5)]) hx hb dX1_byLooking_56 hl (by decide) rfl (fun ls hl => ?_)
        refine lv_iinc (v := x5 + 1) (lv' := [(5, .int (x5 + 1)), (4, .int r8), (3, .int x5), (6, .int r8), (0, .ref a0), (1, .long x1)]) hx hb dX1_byLooking_58 hl (k := 5) rfl rfl (by decide) rfl (fun ls hl => ?_)
        refine lv_goto (tgt := 8) hx hb dX1_byLooking_61 (by decide) ?_
        exact kl _ _ _ (Option.some.inj hm).symm _ _ _ ⟨hP, hD, hS⟩ (lv_sub hl [4, 5, 2, 1, 0] rfl)
      · have hm := gk_if c9 hm
        refine lv_iload hx hb dX1_byLooking_44 (lv_at hl 0 rfl) ?_
        refine lv_iload hx hb dX1_byLooking_46 (lv_at hl 4 rfl) ?_
        refine lv_icmp_le (tgt := 58) hx hb dX1_byLooking_48 (by decide) (fun c10 => ?_) (fun c10 => ?_)
        · have hm := gk_it c10 hm
          refine lv_iinc (v := x5 + 1) (lv' := [(5, .int (x5 + 1)), (6, .int r8), (0, .ref a0), (1, .long x1), (3, .int x3), (4, .int x4)]) hx hb dX1_byLooking_58 hl (k := 5) rfl rfl (by decide) rfl (fun ls hl => ?_)
          refine lv_goto (tgt := 8) hx hb dX1_byLooking_61 (by decide) ?_
          exact kl _ _ _ (Option.some.inj hm).symm _ _ _ ⟨hP, hD, hS⟩ (lv_sub hl [2, 3, 4, 5, 0] rfl)
        · have hm := gk_if c10 hm
          refine lv_iload hx hb dX1_byLooking_51 (lv_at hl 5 rfl) ?_
          refine lv_istore_n (lv' := [(3, .int x5), (6, .int r8), (0, .ref a0), (1, .long x1), (4, .int x4), (5, .int x5)]) hx hb dX1_byLooking_53 rfl hl (by decide) rfl (fun ls hl => ?_)
          refine lv_iload hx hb dX1_byLooking_54 (lv_at hl 1 rfl) ?_
          refine lv_istore (lv' := [(4, .int r8), (3, .int x5), (6, .int r8), (0, .ref a0), (1, .long x1), (5, .int x5)]) hx hb dX1_byLooking_56 hl (by decide) rfl (fun ls hl => ?_)
          refine lv_iinc (v := x5 + 1) (lv' := [(5, .int (x5 + 1)), (4, .int r8), (3, .int x5), (6, .int r8), (0, .ref a0), (1, .long x1)]) hx hb dX1_byLooking_58 hl (k := 5) rfl rfl (by decide) rfl (fun ls hl => ?_)
          refine lv_goto (tgt := 8) hx hb dX1_byLooking_61 (by decide) ?_
          exact kl _ _ _ (Option.some.inj hm).symm _ _ _ ⟨hP, hD, hS⟩ (lv_sub hl [4, 5, 2, 1, 0] rfl)
    · have hm := gk_it c7 hm
      refine lv_goto (tgt := 58) hx hb dX1_byLooking_28 (by decide) ?_
      refine lv_iinc (v := x5 + 1) (lv' := [(5, .int (x5 + 1)), (0, .ref a0), (1, .long x1), (3, .int x3), (4, .int x4)]) hx hb dX1_byLooking_58 hl (k := 4) rfl rfl (by decide) rfl (fun ls hl => ?_)
      refine lv_goto (tgt := 8) hx hb dX1_byLooking_61 (by decide) ?_
      exact kl _ _ _ (Option.some.inj hm).symm _ _ _ ⟨hP, hD, hS⟩ (lv_sub hl [1, 2, 3, 4, 0] rfl)
set_option maxRecDepth 100000 in
set_option maxHeartbeats 4000000 in
theorem w_X1_byLooking_L8 {p : Program} {l : Launch} {e : Env} {s : State} {m : MethodId} {args : Array Value} {below : List Frame} {meth : Method} {c : Code} {G : gk_G} {A : Nat → Prop} {Q : State → Prop} {a0 a1 a2 a3 a4 : Nat} (C : gk_C p s m args meth c cX1_byLooking 7 (some .int) yX1_byLooking wsX1_byLooking false G A) {f_n : Int32} {f_weights : (Nat → Int32)} {x1 : Int64} {x3 : Int32} {x4 : Int32} {x5 : Int32} {k : Nat} {e_x3 : Int32} (hm : gk_lp (fun z => m_X1_byLooking_B8 f_n f_weights x1 z.1 z.2.1 z.2.2) k (x3, x4, x5) = some e_x3) (kx : ∀ (H : Heap) (locs : List Loc) (ls : Array Slot), gk_H G A s [(a0, .inr (0, [.int f_n, .ref a1, .ref a2, .ref a3, .ref a4])), (a3, gk_I G 6 f_weights)] H locs → lv_has ls 7 [(3, .int e_x3)] → W p l e rm_X1_byLooking s m args below meth c H locs 0 0 Q (F0 m 64 ls [])) {H : Heap} {locs : List Loc} {ls : Array Slot} (h : gk_H G A s [(a0, .inr (0, [.int f_n, .ref a1, .ref a2, .ref a3, .ref a4])), (a3, gk_I G 6 f_weights)] H locs) (hl : lv_has ls 7 [(0, .ref a0), (1, .long x1), (3, .int x3), (4, .int x4), (5, .int x5)]) : W p l e rm_X1_byLooking s m args below meth c H locs 0 0 Q (F0 m 8 ls []) :=
  gk_lp_some (P := fun z => ∀ (H : Heap) (locs : List Loc) (ls : Array Slot), gk_H G A s [(a0, .inr (0, [.int f_n, .ref a1, .ref a2, .ref a3, .ref a4])), (a3, gk_I G 6 f_weights)] H locs → lv_has ls 7 [(0, .ref a0), (1, .long x1), (3, .int z.1), (4, .int z.2.1), (5, .int z.2.2)] → W p l e rm_X1_byLooking s m args below meth c H locs 0 0 Q (F0 m 8 ls [])) (E := fun r => (∀ (x3 : Int32), r = x3 → ∀ (H : Heap) (locs : List Loc) (ls : Array Slot), gk_H G A s [(a0, .inr (0, [.int f_n, .ref a1, .ref a2, .ref a3, .ref a4])), (a3, gk_I G 6 f_weights)] H locs → lv_has ls 7 [(3, .int x3)] → W p l e rm_X1_byLooking s m args below meth c H locs 0 0 Q (F0 m 64 ls []))) (fun z x hf kl ke H locs ls h hl => w_X1_byLooking_B8 C hf (fun v0 v1 v2 ez => kl (v0, v1, v2) ez) (fun v0 ez => ke _ ez v0 rfl) h hl) k (x3, x4, x5) _ hm (fun v0 ez => (by cases ez; exact kx)) _ _ _ h hl
def m_X1_byLooking_0 (f_n : Int32) (f_weights : (Nat → Int32)) (x1 : Int64) : Option (Int32) := gk_bd1 (gk_lp (fun z => m_X1_byLooking_B8 f_n f_weights x1 z.1 z.2.1 z.2.2) gk_fu ((-1 : Int32), (0 : Int32), (0 : Int32))) (fun e11 => some e11)
set_option maxRecDepth 100000 in
set_option maxHeartbeats 4000000 in
theorem w_X1_byLooking_0 {p : Program} {l : Launch} {e : Env} {s : State} {m : MethodId} {args : Array Value} {below : List Frame} {meth : Method} {c : Code} {G : gk_G} {A : Nat → Prop} {Q : State → Prop} {a0 a1 a2 a3 a4 : Nat} (C : gk_C p s m args meth c cX1_byLooking 7 (some .int) yX1_byLooking wsX1_byLooking false G A) {f_n : Int32} {f_weights : (Nat → Int32)} {x1 : Int64} {yy : Int32} (hm : m_X1_byLooking_0 f_n f_weights x1 = some yy) (kr : ∀ (rv : Int32), yy = rv → Q = MQ below (gk_Q G (some (.int rv)) [(a0, .inr (0, [.int f_n, .ref a1, .ref a2, .ref a3, .ref a4])), (a3, gk_I G 6 f_weights)] A) args s 0 0 A) {H : Heap} {locs : List Loc} {ls : Array Slot} (h : gk_H G A s [(a0, .inr (0, [.int f_n, .ref a1, .ref a2, .ref a3, .ref a4])), (a3, gk_I G 6 f_weights)] H locs) (hl : lv_has ls 7 [(0, .ref a0), (1, .long x1)]) : W p l e rm_X1_byLooking s m args below meth c H locs 0 0 Q (F0 m 0 ls []) := by
  obtain ⟨hx, hb, hml, hr, hown, hnm, hts, hlk, hK, hSt, hA⟩ := id C
  obtain ⟨hP, hD, hS⟩ := h
  unfold m_X1_byLooking_0 at hm
  refine lv_iconst (v := -1) hx hb dX1_byLooking_0 (by decide) ?_
  refine lv_istore_n (lv' := [(3, .int (-1 : Int32)), (0, .ref a0), (1, .long x1)]) hx hb dX1_byLooking_1 rfl hl (by decide) rfl (fun ls hl => ?_)
  refine lv_iconst (v := 0) hx hb dX1_byLooking_2 (by decide) ?_
  refine lv_istore (lv' := [(4, .int (0 : Int32)), (3, .int (-1 : Int32)), (0, .ref a0), (1, .long x1)]) hx hb dX1_byLooking_3 hl (by decide) rfl (fun ls hl => ?_)
  refine lv_iconst (v := 0) hx hb dX1_byLooking_5 (by decide) ?_
  refine lv_istore (lv' := [(5, .int (0 : Int32)), (4, .int (0 : Int32)), (3, .int (-1 : Int32)), (0, .ref a0), (1, .long x1)]) hx hb dX1_byLooking_6 hl (by decide) rfl (fun ls hl => ?_)
  obtain ⟨e11, hq, hm⟩ := gk_bd1_some hm
  refine w_X1_byLooking_L8 C hq (fun H locs ls h hl => ?_) ⟨hP, hD, hS⟩ (lv_sub hl [3, 4, 2, 1, 0] rfl)
  obtain ⟨hP, hD, hS⟩ := h
  refine lv_iload_n hx hb dX1_byLooking_64 rfl (lv_at hl 0 rfl) ?_
  rw [kr _ (Option.some.inj hm).symm]
  exact gk_iret C ⟨hP, hD, hS⟩ dX1_byLooking_65
def m_X1_byLooking (f_n : Int32) (f_weights : (Nat → Int32)) (x1 : Int64) : Option (Int32) := m_X1_byLooking_0 f_n f_weights x1
theorem c_X1_byLooking (l : Launch) (G : gk_G) (a0 a1 a2 a3 a4 : Nat) (f_n : Int32) (f_weights : (Nat → Int32)) (x1 : Int64) {rv : Int32} (hm : m_X1_byLooking f_n f_weights x1 = some rv) : gk_M l yX1_byLooking wsX1_byLooking rm_X1_byLooking false G [.ref a0, .long x1] [(a0, .inr (0, [.int f_n, .ref a1, .ref a2, .ref a3, .ref a4])), (a3, gk_I G 6 f_weights)] (some (.int rv)) [(a0, .inr (0, [.int f_n, .ref a1, .ref a2, .ref a3, .ref a4])), (a3, gk_I G 6 f_weights)] :=
  gk_of (by decide) rfl (Nat.le_of_ble_eq_true rfl) (fun p e s m below meth c A ls C h hl => w_X1_byLooking_0 C hm (fun v0 ez => by cases ez; rfl) h (show lv_has ls 7 [(0, .ref a0), (1, .long x1)] from hl))

