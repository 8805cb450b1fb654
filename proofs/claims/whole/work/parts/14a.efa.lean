/-! ===== ExchangeFamilies.ground(I)I ===== -/
abbrev rm_X5_ground : Room := { frames := 7, cells := 0, slots := 0, locals := 320 }
theorem k_X5_ground_0 : ∀ w ∈ u_ws RX5 TX5 6, w ∈ wsX5_ground := by decide +kernel
theorem k_X5_ground_1 : Cond.fieldLink RX5 12 "ExchangeFamilies" "now" "LExchangeFamilies$Ground;" ∈ wsX5_ground := by decide +kernel
theorem k_X5_ground_2 : ∀ w ∈ u_ws RX1 TX1 5, w ∈ wsX5_ground := by decide +kernel
theorem k_X5_ground_3 : Cond.fieldLink RX5 46 "ExchangeFamilies$Ground" "n" "I" ∈ wsX5_ground := by decide +kernel
def m_X5_ground_0 (f_now_n : Int32) (f_now_members : (Nat → Int64)) (f_now_kinds : (Nat → Int32)) (f_now_weights : (Nat → Int32)) (f_now_table_entries : (Nat → Int32)) (x1 : Int32) : Option (Int32 × Int32 × (Nat → Int64) × (Nat → Int32) × (Nat → Int32) × (Nat → Int32)) := (if x1 < (1 : Int32) then some ((-2 : Int32), f_now_n, f_now_members, f_now_kinds, f_now_weights, f_now_table_entries) else (if x1 ≤ (6 : Int32) then gk_bd5 (m_X1_begin f_now_n f_now_members f_now_kinds f_now_weights f_now_table_entries x1) (fun r5 r6 r7 r8 r9 => some (f_now_n, r5, r6, r7, r8, r9)) else some ((-2 : Int32), f_now_n, f_now_members, f_now_kinds, f_now_weights, f_now_table_entries)))
set_option maxRecDepth 100000 in
set_option maxHeartbeats 4000000 in
theorem w_X5_ground_0 {p : Program} {l : Launch} {e : Env} {s : State} {m : MethodId} {args : Array Value} {below : List Frame} {meth : Method} {c : Code} {G : gk_G} {A : Nat → Prop} {Q : State → Prop} {a0 a1 a2 a3 a4 a5 a6 a7 a13 a15 a18 : Nat} (C : gk_C p s m args meth c cX5_ground 3 (some .int) yX5_ground wsX5_ground false G A) {f_now_n : Int32} {f_now_members : (Nat → Int64)} {f_now_kinds : (Nat → Int32)} {f_now_weights : (Nat → Int32)} {f_now_table_entries : (Nat → Int32)} {x1 : Int32} {f_isKept : Int32} {yy : Int32 × Int32 × (Nat → Int64) × (Nat → Int32) × (Nat → Int32) × (Nat → Int32)} (hm : m_X5_ground_0 f_now_n f_now_members f_now_kinds f_now_weights f_now_table_entries x1 = some yy) (kr : ∀ (rv : Int32) (g_now_n : Int32) (g_now_members : (Nat → Int64)) (g_now_kinds : (Nat → Int32)) (g_now_weights : (Nat → Int32)) (g_now_table_entries : (Nat → Int32)), yy = (rv, g_now_n, g_now_members, g_now_kinds, g_now_weights, g_now_table_entries) → Q = MQ below (gk_Q G (some (.int rv)) [(a0, .inr (4, [.ref a1, .ref a7, .int f_isKept, .ref a13, .ref a15, .ref a18])), (a1, .inr (0, [.int g_now_n, .ref a2, .ref a3, .ref a4, .ref a5])), (a2, gk_J G 6 g_now_members), (a3, gk_I G 6 g_now_kinds), (a4, gk_I G 6 g_now_weights), (a5, .inr (3, [.ref a6])), (a6, gk_I G 36 g_now_table_entries)] A) args s 0 0 A) {H : Heap} {locs : List Loc} {ls : Array Slot} (h : gk_H G A s [(a0, .inr (4, [.ref a1, .ref a7, .int f_isKept, .ref a13, .ref a15, .ref a18])), (a1, .inr (0, [.int f_now_n, .ref a2, .ref a3, .ref a4, .ref a5])), (a2, gk_J G 6 f_now_members), (a3, gk_I G 6 f_now_kinds), (a4, gk_I G 6 f_now_weights), (a5, .inr (3, [.ref a6])), (a6, gk_I G 36 f_now_table_entries)] H locs) (hl : lv_has ls 3 [(0, .ref a0), (1, .int x1)]) : W p l e rm_X5_ground s m args below meth c H locs 0 0 Q (F0 m 0 ls []) := by
  obtain ⟨hx, hb, hml, hr, hown, hnm, hts, hlk, hK, hSt, hA⟩ := id C
  obtain ⟨hP, hD, hS⟩ := h
  unfold m_X5_ground_0 at hm
  refine lv_iload_n hx hb dX5_ground_0 rfl (lv_at hl 1 rfl) ?_
  refine lv_iconst (v := 1) hx hb dX5_ground_1 (by decide) ?_
  refine lv_icmp_lt (tgt := 11) hx hb dX5_ground_2 (by decide) (fun c3 => ?_) (fun c3 => ?_)
  · have hm := gk_it c3 hm
    refine lv_bipush (v := -2) hx hb dX5_ground_11 (by decide) ?_
    rw [kr _ _ _ _ _ _ (Option.some.inj hm).symm]
    exact gk_iret C ⟨hP, hD, hS⟩ dX5_ground_13
  · have hm := gk_if c3 hm
    refine lv_iload_n hx hb dX5_ground_5 rfl (lv_at hl 1 rfl) ?_
    refine lv_bipush (v := 6) hx hb dX5_ground_6 (by decide) ?_
    refine lv_icmp_le (tgt := 14) hx hb dX5_ground_8 (by decide) (fun c4 => ?_) (fun c4 => ?_)
    · have hm := gk_it c4 hm
      refine lv_aload_n hx hb dX5_ground_14 rfl (lv_at hl 0 rfl) ?_
      refine va_get (D := G.1) (cl := vwCl) (own := RX5) (ref := "ExchangeFamilies") (ci := 4) (v := .ref a1) (C := RX5) (T := TX5) (N := 6) hx hb hts k_X5_ground_0 hown hK hP 0 rfl rfl 0 (by decide) (hts _ k_X5_ground_1) (fun _ h9 => h9) rfl dX5_ground_15 ?_
      refine va_get (D := G.1) (cl := vwCl) (own := RX5) (ref := "ExchangeFamilies$Ground") (ci := 0) (v := .int f_now_n) (C := RX1) (T := TX1) (N := 5) hx hb hts k_X5_ground_2 hown hK hP 1 rfl rfl 0 (by decide) (hts _ k_X5_ground_3) (fun _ h9 => h9) rfl dX5_ground_18 ?_
      refine lv_istore_n (lv' := [(2, .int f_now_n), (0, .ref a0), (1, .int x1)]) hx hb dX5_ground_21 rfl hl (by decide) rfl (fun ls hl => ?_)
      refine lv_aload_n hx hb dX5_ground_22 rfl (lv_at hl 1 rfl) ?_
      refine va_get (D := G.1) (cl := vwCl) (own := RX5) (ref := "ExchangeFamilies") (ci := 4) (v := .ref a1) (C := RX5) (T := TX5) (N := 6) hx hb hts k_X5_ground_0 hown hK hP 0 rfl rfl 0 (by decide) (hts _ k_X5_ground_1) (fun _ h9 => h9) rfl dX5_ground_23 ?_
      refine lv_iload_n hx hb dX5_ground_26 rfl (lv_at hl 2 rfl) ?_
      obtain ⟨r5, r6, r7, r8, r9, hq, hm⟩ := gk_bd5_some hm
      refine gk_callV (n := 1) (bytes := cX1_begin) (maxL := 2) (ret := none) (Cn := RX1) (T := TX1) (N := 5) [(a0, .inr (4, [.ref a1, .ref a7, .int f_isKept, .ref a13, .ref a15, .ref a18]))] [(a0, .inr (4, [.ref a1, .ref a7, .int f_isKept, .ref a13, .ref a15, .ref a18])), (a1, .inr (0, [.int r5, .ref a2, .ref a3, .ref a4, .ref a5])), (a2, gk_J G 6 r6), (a3, gk_I G 6 r7), (a4, gk_I G 6 r8), (a5, .inr (3, [.ref a6])), (a6, gk_I G 36 r9)] [] C ⟨hP, hD, hS⟩ (c_X1_begin l G a1 a2 a3 a4 a5 a6 f_now_n f_now_members f_now_kinds f_now_weights f_now_table_entries x1 hq) gX5_ground_X1_begin dX5_ground_27 hl.1 [1, 2, 3, 4, 5, 6] [0] [0, 1, 2, 3, 4, 5, 6] rfl rfl ⟨rfl, rfl⟩ ⟨Nat.le_of_ble_eq_true rfl, Nat.le_of_ble_eq_true rfl⟩ ⟨rfl, by decide +kernel, by decide +kernel, by decide +kernel⟩ rfl (fun h => by cases h) (Nat.le_of_ble_eq_true rfl) rfl rfl rfl rfl (by decide) rfl rfl (fun H locs h => ?_)
      obtain ⟨hP, hD, hS⟩ := h
      refine lv_iload_n hx hb dX5_ground_30 rfl (lv_at hl 0 rfl) ?_
      rw [kr _ _ _ _ _ _ (Option.some.inj hm).symm]
      exact gk_iret C ⟨hP, hD, hS⟩ dX5_ground_31
    · have hm := gk_if c4 hm
      refine lv_bipush (v := -2) hx hb dX5_ground_11 (by decide) ?_
      rw [kr _ _ _ _ _ _ (Option.some.inj hm).symm]
      exact gk_iret C ⟨hP, hD, hS⟩ dX5_ground_13
def m_X5_ground (f_now_n : Int32) (f_now_members : (Nat → Int64)) (f_now_kinds : (Nat → Int32)) (f_now_weights : (Nat → Int32)) (f_now_table_entries : (Nat → Int32)) (x1 : Int32) : Option (Int32 × Int32 × (Nat → Int64) × (Nat → Int32) × (Nat → Int32) × (Nat → Int32)) := m_X5_ground_0 f_now_n f_now_members f_now_kinds f_now_weights f_now_table_entries x1
theorem c_X5_ground (l : Launch) (G : gk_G) (a0 a1 a2 a3 a4 a5 a6 a7 a13 a15 a18 : Nat) (f_isKept : Int32) (f_now_n : Int32) (f_now_members : (Nat → Int64)) (f_now_kinds : (Nat → Int32)) (f_now_weights : (Nat → Int32)) (f_now_table_entries : (Nat → Int32)) (x1 : Int32) {rv : Int32} {g_now_n : Int32} {g_now_members : (Nat → Int64)} {g_now_kinds : (Nat → Int32)} {g_now_weights : (Nat → Int32)} {g_now_table_entries : (Nat → Int32)} (hm : m_X5_ground f_now_n f_now_members f_now_kinds f_now_weights f_now_table_entries x1 = some (rv, g_now_n, g_now_members, g_now_kinds, g_now_weights, g_now_table_entries)) : gk_M l yX5_ground wsX5_ground rm_X5_ground false G [.ref a0, .int x1] [(a0, .inr (4, [.ref a1, .ref a7, .int f_isKept, .ref a13, .ref a15, .ref a18])), (a1, .inr (0, [.int f_now_n, .ref a2, .ref a3, .ref a4, .ref a5])), (a2, gk_J G 6 f_now_members), (a3, gk_I G 6 f_now_kinds), (a4, gk_I G 6 f_now_weights), (a5, .inr (3, [.ref a6])), (a6, gk_I G 36 f_now_table_entries)] (some (.int rv)) [(a0, .inr (4, [.ref a1, .ref a7, .int f_isKept, .ref a13, .ref a15, .ref a18])), (a1, .inr (0, [.int g_now_n, .ref a2, .ref a3, .ref a4, .ref a5])), (a2, gk_J G 6 g_now_members), (a3, gk_I G 6 g_now_kinds), (a4, gk_I G 6 g_now_weights), (a5, .inr (3, [.ref a6])), (a6, gk_I G 36 g_now_table_entries)] :=
  gk_of (by decide) rfl (Nat.le_of_ble_eq_true rfl) (fun p e s m below meth c A ls C h hl => w_X5_ground_0 C hm (fun v0 v1 v2 v3 v4 v5 ez => by cases ez; rfl) h (show lv_has ls 3 [(0, .ref a0), (1, .int x1)] from hl))

/-! ===== ExchangeFamilies.noFamily(I)Z ===== -/
abbrev rm_X5_noFamily : Room := { frames := 1, cells := 0, slots := 0, locals := 64 }
def m_X5_noFamily_0 (x0 : Int32) : Option (Int32) := (if x0 < (0 : Int32) then some (1 : Int32) else (if x0 < (6 : Int32) then some (0 : Int32) else some (1 : Int32)))
set_option maxRecDepth 100000 in
set_option maxHeartbeats 4000000 in
theorem w_X5_noFamily_0 {p : Program} {l : Launch} {e : Env} {s : State} {m : MethodId} {args : Array Value} {below : List Frame} {meth : Method} {c : Code} {G : gk_G} {A : Nat → Prop} {Q : State → Prop} (C : gk_C p s m args meth c cX5_noFamily 1 (some .boolean) yX5_noFamily wsX5_noFamily false G A) {x0 : Int32} {yy : Int32} (hm : m_X5_noFamily_0 x0 = some yy) (kr : ∀ (rv : Int32), yy = rv → Q = MQ below (gk_Q G (some (.int rv)) [] A) args s 0 0 A) {H : Heap} {locs : List Loc} {ls : Array Slot} (h : gk_H G A s [] H locs) (hl : lv_has ls 1 [(0, .int x0)]) : W p l e rm_X5_noFamily s m args below meth c H locs 0 0 Q (F0 m 0 ls []) := by
  obtain ⟨hx, hb, hml, hr, hown, hnm, hts, hlk, hK, hSt, hA⟩ := id C
  obtain ⟨hP, hD, hS⟩ := h
  unfold m_X5_noFamily_0 at hm
  refine lv_iload_n hx hb dX5_noFamily_0 rfl (lv_at hl 0 rfl) ?_
  refine lv_if_lt (tgt := 10) hx hb dX5_noFamily_1 (by decide) (fun c3 => ?_) (fun c3 => ?_)
  · have hm := gk_it c3 hm
    refine lv_iconst (v := 1) hx hb dX5_noFamily_10 (by decide) ?_
    refine lv_goto (tgt := 15) hx hb dX5_noFamily_11 (by decide) ?_
    rw [kr _ (Option.some.inj hm).symm]
    exact gk_zret C ⟨hP, hD, hS⟩ rfl dX5_noFamily_15
  · have hm := gk_if c3 hm
    refine lv_iload_n hx hb dX5_noFamily_4 rfl (lv_at hl 0 rfl) ?_
    refine lv_bipush (v := 6) hx hb dX5_noFamily_5 (by decide) ?_
    refine lv_icmp_lt (tgt := 14) hx hb dX5_noFamily_7 (by decide) (fun c4 => ?_) (fun c4 => ?_)
    · have hm := gk_it c4 hm
      refine lv_iconst (v := 0) hx hb dX5_noFamily_14 (by decide) ?_
      rw [kr _ (Option.some.inj hm).symm]
      exact gk_zret C ⟨hP, hD, hS⟩ rfl dX5_noFamily_15
    · have hm := gk_if c4 hm
      refine lv_iconst (v := 1) hx hb dX5_noFamily_10 (by decide) ?_
      refine lv_goto (tgt := 15) hx hb dX5_noFamily_11 (by decide) ?_
      rw [kr _ (Option.some.inj hm).symm]
      exact gk_zret C ⟨hP, hD, hS⟩ rfl dX5_noFamily_15
def m_X5_noFamily (x0 : Int32) : Option (Int32) := m_X5_noFamily_0 x0
theorem c_X5_noFamily (l : Launch) (G : gk_G) (x0 : Int32) {rv : Int32} (hm : m_X5_noFamily x0 = some rv) : gk_M l yX5_noFamily wsX5_noFamily rm_X5_noFamily false G [.int x0] [] (some (.int rv)) [] :=
  gk_of (by decide) rfl (Nat.le_of_ble_eq_true rfl) (fun p e s m below meth c A ls C h hl => w_X5_noFamily_0 C hm (fun v0 ez => by cases ez; rfl) h (show lv_has ls 1 [(0, .int x0)] from hl))

/-! ===== ExchangeFamilies.noSet(I)Z ===== -/
abbrev rm_X5_noSet : Room := { frames := 1, cells := 0, slots := 0, locals := 64 }
theorem k_X5_noSet_0 : ∀ w ∈ u_ws RX5 TX5 6, w ∈ wsX5_noSet := by decide +kernel
theorem k_X5_noSet_1 : Cond.fieldLink RX5 12 "ExchangeFamilies" "now" "LExchangeFamilies$Ground;" ∈ wsX5_noSet := by decide +kernel
theorem k_X5_noSet_2 : ∀ w ∈ u_ws RX1 TX1 5, w ∈ wsX5_noSet := by decide +kernel
theorem k_X5_noSet_3 : Cond.fieldLink RX5 46 "ExchangeFamilies$Ground" "n" "I" ∈ wsX5_noSet := by decide +kernel
def m_X5_noSet_0 (f_now_n : Int32) (x1 : Int32) : Option (Int32) := (if x1 < (0 : Int32) then some (1 : Int32) else (if x1 < ((1 : Int32) <<< (f_now_n &&& 31)) then some (0 : Int32) else some (1 : Int32)))
set_option maxRecDepth 100000 in
set_option maxHeartbeats 4000000 in
theorem w_X5_noSet_0 {p : Program} {l : Launch} {e : Env} {s : State} {m : MethodId} {args : Array Value} {below : List Frame} {meth : Method} {c : Code} {G : gk_G} {A : Nat → Prop} {Q : State → Prop} {a0 a1 a2 a3 a4 a5 a7 a13 a15 a18 : Nat} (C : gk_C p s m args meth c cX5_noSet 2 (some .boolean) yX5_noSet wsX5_noSet false G A) {f_now_n : Int32} {x1 : Int32} {f_isKept : Int32} {yy : Int32} (hm : m_X5_noSet_0 f_now_n x1 = some yy) (kr : ∀ (rv : Int32), yy = rv → Q = MQ below (gk_Q G (some (.int rv)) [(a0, .inr (4, [.ref a1, .ref a7, .int f_isKept, .ref a13, .ref a15, .ref a18])), (a1, .inr (0, [.int f_now_n, .ref a2, .ref a3, .ref a4, .ref a5]))] A) args s 0 0 A) {H : Heap} {locs : List Loc} {ls : Array Slot} (h : gk_H G A s [(a0, .inr (4, [.ref a1, .ref a7, .int f_isKept, .ref a13, .ref a15, .ref a18])), (a1, .inr (0, [.int f_now_n, .ref a2, .ref a3, .ref a4, .ref a5]))] H locs) (hl : lv_has ls 2 [(0, .ref a0), (1, .int x1)]) : W p l e rm_X5_noSet s m args below meth c H locs 0 0 Q (F0 m 0 ls []) := by
  obtain ⟨hx, hb, hml, hr, hown, hnm, hts, hlk, hK, hSt, hA⟩ := id C
  obtain ⟨hP, hD, hS⟩ := h
  unfold m_X5_noSet_0 at hm
  refine lv_iload_n hx hb dX5_noSet_0 rfl (lv_at hl 1 rfl) ?_
  refine lv_if_lt (tgt := 17) hx hb dX5_noSet_1 (by decide) (fun c3 => ?_) (fun c3 => ?_)
  · have hm := gk_it c3 hm
    refine lv_iconst (v := 1) hx hb dX5_noSet_17 (by decide) ?_
    refine lv_goto (tgt := 22) hx hb dX5_noSet_18 (by decide) ?_
    rw [kr _ (Option.some.inj hm).symm]
    exact gk_zret C ⟨hP, hD, hS⟩ rfl dX5_noSet_22
  · have hm := gk_if c3 hm
    refine lv_iload_n hx hb dX5_noSet_4 rfl (lv_at hl 1 rfl) ?_
    refine lv_iconst (v := 1) hx hb dX5_noSet_5 (by decide) ?_
    refine lv_aload_n hx hb dX5_noSet_6 rfl (lv_at hl 0 rfl) ?_
    refine va_get (D := G.1) (cl := vwCl) (own := RX5) (ref := "ExchangeFamilies") (ci := 4) (v := .ref a1) (C := RX5) (T := TX5) (N := 6) hx hb hts k_X5_noSet_0 hown hK hP 0 rfl rfl 0 (by decide) (hts _ k_X5_noSet_1) (fun _ h9 => h9) rfl dX5_noSet_7 ?_
    refine va_get (D := G.1) (cl := vwCl) (own := RX5) (ref := "ExchangeFamilies$Ground") (ci := 0) (v := .int f_now_n) (C := RX1) (T := TX1) (N := 5) hx hb hts k_X5_noSet_2 hown hK hP 1 rfl rfl 0 (by decide) (hts _ k_X5_noSet_3) (fun _ h9 => h9) rfl dX5_noSet_10 ?_
    refine lv_ishl hx hb dX5_noSet_13 ?_
    refine lv_icmp_lt (tgt := 21) hx hb dX5_noSet_14 (by decide) (fun c4 => ?_) (fun c4 => ?_)
    · have hm := gk_it c4 hm
      refine lv_iconst (v := 0) hx hb dX5_noSet_21 (by decide) ?_
      rw [kr _ (Option.some.inj hm).symm]
      exact gk_zret C ⟨hP, hD, hS⟩ rfl dX5_noSet_22
    · have hm := gk_if c4 hm
      refine lv_iconst (v := 1) hx hb dX5_noSet_17 (by decide) ?_
      refine lv_goto (tgt := 22) hx hb dX5_noSet_18 (by decide) ?_
      rw [kr _ (Option.some.inj hm).symm]
      exact gk_zret C ⟨hP, hD, hS⟩ rfl dX5_noSet_22
def m_X5_noSet (f_now_n : Int32) (x1 : Int32) : Option (Int32) := m_X5_noSet_0 f_now_n x1
theorem c_X5_noSet (l : Launch) (G : gk_G) (a0 a1 a2 a3 a4 a5 a7 a13 a15 a18 : Nat) (f_isKept : Int32) (f_now_n : Int32) (x1 : Int32) {rv : Int32} (hm : m_X5_noSet f_now_n x1 = some rv) : gk_M l yX5_noSet wsX5_noSet rm_X5_noSet false G [.ref a0, .int x1] [(a0, .inr (4, [.ref a1, .ref a7, .int f_isKept, .ref a13, .ref a15, .ref a18])), (a1, .inr (0, [.int f_now_n, .ref a2, .ref a3, .ref a4, .ref a5]))] (some (.int rv)) [(a0, .inr (4, [.ref a1, .ref a7, .int f_isKept, .ref a13, .ref a15, .ref a18])), (a1, .inr (0, [.int f_now_n, .ref a2, .ref a3, .ref a4, .ref a5]))] :=
  gk_of (by decide) rfl (Nat.le_of_ble_eq_true rfl) (fun p e s m below meth c A ls C h hl => w_X5_noSet_0 C hm (fun v0 ez => by cases ez; rfl) h (show lv_has ls 2 [(0, .ref a0), (1, .int x1)] from hl))

/-! ===== ExchangeFamilies.tell(III)I ===== -/
abbrev rm_X5_tell : Room := { frames := 5, cells := 0, slots := 0, locals := 237 }
theorem k_X5_tell_0 : Cond.constantLong RX5 65 (-1) ∈ wsX5_tell := by decide +kernel
theorem k_X5_tell_1 : ∀ w ∈ u_ws RX5 TX5 6, w ∈ wsX5_tell := by decide +kernel
theorem k_X5_tell_2 : Cond.fieldLink RX5 12 "ExchangeFamilies" "now" "LExchangeFamilies$Ground;" ∈ wsX5_tell := by decide +kernel
theorem k_X5_tell_3 : ∀ w ∈ u_ws RX1 TX1 5, w ∈ wsX5_tell := by decide +kernel
theorem k_X5_tell_4 : Cond.fieldLink RX5 61 "ExchangeFamilies$Ground" "members" "[J" ∈ wsX5_tell := by decide +kernel
def m_X5_tell_J70 (f_now_n : Int32) (f_now_members : (Nat → Int64)) (f_now_kinds : (Nat → Int32)) (x2 : Int32) (x4 : Int64) (s1 : Int32) (s2 : Int64) : Option (Int32 × (Nat → Int64) × (Nat → Int32)) := gk_bd3 (m_X1_become f_now_members f_now_kinds s1 s2 (0 : Int32)) (fun r14 r15 r16 => gk_bd1 (m_X0_holds x4 x2) (fun r17 => (if r17 = (0 : Int32) then some ((0 : Int32), r15, r16) else some ((1 : Int32), r15, r16))))
set_option maxRecDepth 100000 in
set_option maxHeartbeats 4000000 in
theorem w_X5_tell_J70 {p : Program} {l : Launch} {e : Env} {s : State} {m : MethodId} {args : Array Value} {below : List Frame} {meth : Method} {c : Code} {G : gk_G} {A : Nat → Prop} {Q : State → Prop} {a0 a1 a2 a3 a4 a5 a7 a13 a15 a18 : Nat} (C : gk_C p s m args meth c cX5_tell 8 (some .int) yX5_tell wsX5_tell false G A) {f_now_n : Int32} {f_now_members : (Nat → Int64)} {f_now_kinds : (Nat → Int32)} {x2 : Int32} {x4 : Int64} {s1 : Int32} {s2 : Int64} {f_isKept : Int32} {yy : Int32 × (Nat → Int64) × (Nat → Int32)} (hm : m_X5_tell_J70 f_now_n f_now_members f_now_kinds x2 x4 s1 s2 = some yy) (kr : ∀ (rv : Int32) (g_now_members : (Nat → Int64)) (g_now_kinds : (Nat → Int32)), yy = (rv, g_now_members, g_now_kinds) → Q = MQ below (gk_Q G (some (.int rv)) [(a0, .inr (4, [.ref a1, .ref a7, .int f_isKept, .ref a13, .ref a15, .ref a18])), (a1, .inr (0, [.int f_now_n, .ref a2, .ref a3, .ref a4, .ref a5])), (a2, gk_J G 6 g_now_members), (a3, gk_I G 6 g_now_kinds)] A) args s 0 0 A) {H : Heap} {locs : List Loc} {ls : Array Slot} (h : gk_H G A s [(a0, .inr (4, [.ref a1, .ref a7, .int f_isKept, .ref a13, .ref a15, .ref a18])), (a1, .inr (0, [.int f_now_n, .ref a2, .ref a3, .ref a4, .ref a5])), (a2, gk_J G 6 f_now_members), (a3, gk_I G 6 f_now_kinds)] H locs) (hl : lv_has ls 8 [(2, .int x2), (4, .long x4)]) : W p l e rm_X5_tell s m args below meth c H locs 0 0 Q (F0 m 70 ls [.long s2, .int s1, .ref a1]) := by
  obtain ⟨hx, hb, hml, hr, hown, hnm, hts, hlk, hK, hSt, hA⟩ := id C
  obtain ⟨hP, hD, hS⟩ := h
  unfold m_X5_tell_J70 at hm
  refine lv_iconst (v := 0) hx hb dX5_tell_70 (by decide) ?_
  obtain ⟨r14, r15, r16, hq, hm⟩ := gk_bd3_some hm
  refine gk_callV (n := 3) (bytes := cX1_become) (maxL := 5) (ret := (some .int)) (Cn := RX1) (T := TX1) (N := 5) [(a0, .inr (4, [.ref a1, .ref a7, .int f_isKept, .ref a13, .ref a15, .ref a18]))] [(a0, .inr (4, [.ref a1, .ref a7, .int f_isKept, .ref a13, .ref a15, .ref a18])), (a1, .inr (0, [.int f_now_n, .ref a2, .ref a3, .ref a4, .ref a5])), (a2, gk_J G 6 r15), (a3, gk_I G 6 r16)] [] C ⟨hP, hD, hS⟩ (c_X1_become l G a1 a2 a3 a4 a5 f_now_n f_now_members f_now_kinds s1 s2 (0 : Int32) hq) gX5_tell_X1_become dX5_tell_71 hl.1 [1, 2, 3] [0] [0, 1, 2, 3] rfl rfl ⟨rfl, rfl⟩ ⟨Nat.le_of_ble_eq_true rfl, Nat.le_of_ble_eq_true rfl⟩ ⟨rfl, by decide +kernel, by decide +kernel, by decide +kernel⟩ rfl (fun h => by cases h) (Nat.le_of_ble_eq_true rfl) rfl rfl rfl rfl (by decide) rfl rfl (fun H locs h => ?_)
  obtain ⟨hP, hD, hS⟩ := h
  refine lv_pop hx hb dX5_tell_74 rfl ?_
  refine lv_lload hx hb dX5_tell_75 (lv_at hl 1 rfl) ?_
  refine lv_iload_n hx hb dX5_tell_77 rfl (lv_at hl 0 rfl) ?_
  obtain ⟨r17, hq, hm⟩ := gk_bd1_some hm
  refine gk_callS (n := 2) (bytes := cX0_holds) (maxL := 3) (ret := (some .boolean)) [(a0, .inr (4, [.ref a1, .ref a7, .int f_isKept, .ref a13, .ref a15, .ref a18])), (a1, .inr (0, [.int f_now_n, .ref a2, .ref a3, .ref a4, .ref a5])), (a2, gk_J G 6 r15), (a3, gk_I G 6 r16)] [(a0, .inr (4, [.ref a1, .ref a7, .int f_isKept, .ref a13, .ref a15, .ref a18])), (a1, .inr (0, [.int f_now_n, .ref a2, .ref a3, .ref a4, .ref a5])), (a2, gk_J G 6 r15), (a3, gk_I G 6 r16)] [] C ⟨hP, hD, hS⟩ (c_X0_holds l G x4 x2 hq) gX5_tell_X0_holds dX5_tell_78 hl.1 [] [0, 1, 2, 3] [0, 1, 2, 3] rfl ⟨rfl, rfl⟩ ⟨Nat.le_of_ble_eq_true rfl, Nat.le_of_ble_eq_true rfl⟩ ⟨by decide +kernel, by decide +kernel, by decide +kernel⟩ rfl (fun h => by cases h) (Nat.le_of_ble_eq_true rfl) rfl rfl rfl rfl (by decide) rfl rfl (fun H locs h => ?_)
  obtain ⟨hP, hD, hS⟩ := h
  refine lv_if_eq (tgt := 88) hx hb dX5_tell_81 (by decide) (fun c18 => ?_) (fun c18 => ?_)
  · have hm := gk_it c18 hm
    refine lv_iconst (v := 0) hx hb dX5_tell_88 (by decide) ?_
    rw [kr _ _ _ (Option.some.inj hm).symm]
    exact gk_iret C ⟨hP, hD, hS⟩ dX5_tell_89
  · have hm := gk_if c18 hm
    refine lv_iconst (v := 1) hx hb dX5_tell_84 (by decide) ?_
    refine lv_goto (tgt := 89) hx hb dX5_tell_85 (by decide) ?_
    rw [kr _ _ _ (Option.some.inj hm).symm]
    exact gk_iret C ⟨hP, hD, hS⟩ dX5_tell_89
def m_X5_tell_0 (f_now_n : Int32) (f_now_members : (Nat → Int64)) (f_now_kinds : (Nat → Int32)) (x1 : Int32) (x2 : Int32) (x3 : Int32) : Option (Int32 × (Nat → Int64) × (Nat → Int32)) := gk_bd1 (m_X5_noFamily x1) (fun r7 => (if r7 = (0 : Int32) then gk_bd1 (m_X5_noSet f_now_n x2) (fun r9 => (if r9 = (0 : Int32) then (if x3 < (0 : Int32) then some ((-2 : Int32), f_now_members, f_now_kinds) else (if x3 ≤ (1 : Int32) then gk_ix x1 6 ((if x3 = (1 : Int32) then m_X5_tell_J70 f_now_n f_now_members f_now_kinds x2 (f_now_members x1.toNatClampNeg) x1 ((f_now_members x1.toNatClampNeg) ||| ((1 : Int64) <<< (x2.toInt64 &&& 63))) else m_X5_tell_J70 f_now_n f_now_members f_now_kinds x2 (f_now_members x1.toNatClampNeg) x1 ((f_now_members x1.toNatClampNeg) &&& (((1 : Int64) <<< (x2.toInt64 &&& 63)) ^^^ (-1 : Int64))))) else some ((-2 : Int32), f_now_members, f_now_kinds))) else some ((-2 : Int32), f_now_members, f_now_kinds))) else some ((-2 : Int32), f_now_members, f_now_kinds)))
set_option maxRecDepth 100000 in
set_option maxHeartbeats 4000000 in
theorem w_X5_tell_0 {p : Program} {l : Launch} {e : Env} {s : State} {m : MethodId} {args : Array Value} {below : List Frame} {meth : Method} {c : Code} {G : gk_G} {A : Nat → Prop} {Q : State → Prop} {a0 a1 a2 a3 a4 a5 a7 a13 a15 a18 : Nat} (C : gk_C p s m args meth c cX5_tell 8 (some .int) yX5_tell wsX5_tell false G A) {f_now_n : Int32} {f_now_members : (Nat → Int64)} {f_now_kinds : (Nat → Int32)} {x1 : Int32} {x2 : Int32} {x3 : Int32} {f_isKept : Int32} {yy : Int32 × (Nat → Int64) × (Nat → Int32)} (hm : m_X5_tell_0 f_now_n f_now_members f_now_kinds x1 x2 x3 = some yy) (kr : ∀ (rv : Int32) (g_now_members : (Nat → Int64)) (g_now_kinds : (Nat → Int32)), yy = (rv, g_now_members, g_now_kinds) → Q = MQ below (gk_Q G (some (.int rv)) [(a0, .inr (4, [.ref a1, .ref a7, .int f_isKept, .ref a13, .ref a15, .ref a18])), (a1, .inr (0, [.int f_now_n, .ref a2, .ref a3, .ref a4, .ref a5])), (a2, gk_J G 6 g_now_members), (a3, gk_I G 6 g_now_kinds)] A) args s 0 0 A) {H : Heap} {locs : List Loc} {ls : Array Slot} (h : gk_H G A s [(a0, .inr (4, [.ref a1, .ref a7, .int f_isKept, .ref a13, .ref a15, .ref a18])), (a1, .inr (0, [.int f_now_n, .ref a2, .ref a3, .ref a4, .ref a5])), (a2, gk_J G 6 f_now_members), (a3, gk_I G 6 f_now_kinds)] H locs) (hl : lv_has ls 8 [(0, .ref a0), (1, .int x1), (2, .int x2), (3, .int x3)]) : W p l e rm_X5_tell s m args below meth c H locs 0 0 Q (F0 m 0 ls []) := by
  obtain ⟨hx, hb, hml, hr, hown, hnm, hts, hlk, hK, hSt, hA⟩ := id C
  obtain ⟨hP, hD, hS⟩ := h
  unfold m_X5_tell_0 at hm
  refine lv_iload_n hx hb dX5_tell_0 rfl (lv_at hl 1 rfl) ?_
  obtain ⟨r7, hq, hm⟩ := gk_bd1_some hm
  refine gk_callS (n := 1) (bytes := cX5_noFamily) (maxL := 1) (ret := (some .boolean)) [(a0, .inr (4, [.ref a1, .ref a7, .int f_isKept, .ref a13, .ref a15, .ref a18])), (a1, .inr (0, [.int f_now_n, .ref a2, .ref a3, .ref a4, .ref a5])), (a2, gk_J G 6 f_now_members), (a3, gk_I G 6 f_now_kinds)] [(a0, .inr (4, [.ref a1, .ref a7, .int f_isKept, .ref a13, .ref a15, .ref a18])), (a1, .inr (0, [.int f_now_n, .ref a2, .ref a3, .ref a4, .ref a5])), (a2, gk_J G 6 f_now_members), (a3, gk_I G 6 f_now_kinds)] [] C ⟨hP, hD, hS⟩ (c_X5_noFamily l G x1 hq) gX5_tell_X5_noFamily dX5_tell_1 hl.1 [] [0, 1, 2, 3] [0, 1, 2, 3] rfl ⟨rfl, rfl⟩ ⟨Nat.le_of_ble_eq_true rfl, Nat.le_of_ble_eq_true rfl⟩ ⟨by decide +kernel, by decide +kernel, by decide +kernel⟩ rfl (fun h => by cases h) (Nat.le_of_ble_eq_true rfl) rfl rfl rfl rfl (by decide) rfl rfl (fun H locs h => ?_)
  obtain ⟨hP, hD, hS⟩ := h
  refine lv_if_ne (tgt := 24) hx hb dX5_tell_4 (by decide) (fun c8 => ?_) (fun c8 => ?_)
  · have hm := gk_if c8 hm
    refine lv_bipush (v := -2) hx hb dX5_tell_24 (by decide) ?_
    rw [kr _ _ _ (Option.some.inj hm).symm]
    exact gk_iret C ⟨hP, hD, hS⟩ dX5_tell_26
  · have hm := gk_it c8 hm
    refine lv_aload_n hx hb dX5_tell_7 rfl (lv_at hl 0 rfl) ?_
    refine lv_iload_n hx hb dX5_tell_8 rfl (lv_at hl 2 rfl) ?_
    obtain ⟨r9, hq, hm⟩ := gk_bd1_some hm
    refine gk_callV (n := 1) (bytes := cX5_noSet) (maxL := 2) (ret := (some .boolean)) (Cn := RX5) (T := TX5) (N := 6) [(a2, gk_J G 6 f_now_members), (a3, gk_I G 6 f_now_kinds)] [(a0, .inr (4, [.ref a1, .ref a7, .int f_isKept, .ref a13, .ref a15, .ref a18])), (a1, .inr (0, [.int f_now_n, .ref a2, .ref a3, .ref a4, .ref a5])), (a2, gk_J G 6 f_now_members), (a3, gk_I G 6 f_now_kinds)] [] C ⟨hP, hD, hS⟩ (c_X5_noSet l G a0 a1 a2 a3 a4 a5 a7 a13 a15 a18 f_isKept f_now_n x2 hq) gX5_tell_X5_noSet dX5_tell_9 hl.1 [0, 1] [2, 3] [2, 3, 0, 1] rfl rfl ⟨rfl, rfl⟩ ⟨Nat.le_of_ble_eq_true rfl, Nat.le_of_ble_eq_true rfl⟩ ⟨rfl, by decide +kernel, by decide +kernel, by decide +kernel⟩ rfl (fun h => by cases h) (Nat.le_of_ble_eq_true rfl) rfl rfl rfl rfl (by decide) rfl rfl (fun H locs h => ?_)
    obtain ⟨hP, hD, hS⟩ := h
    refine lv_if_ne (tgt := 24) hx hb dX5_tell_12 (by decide) (fun c10 => ?_) (fun c10 => ?_)
    · have hm := gk_if c10 hm
      refine lv_bipush (v := -2) hx hb dX5_tell_24 (by decide) ?_
      rw [kr _ _ _ (Option.some.inj hm).symm]
      exact gk_iret C ⟨hP, hD, hS⟩ dX5_tell_26
    · have hm := gk_it c10 hm
      refine lv_iload_n hx hb dX5_tell_15 rfl (lv_at hl 3 rfl) ?_
      refine lv_if_lt (tgt := 24) hx hb dX5_tell_16 (by decide) (fun c11 => ?_) (fun c11 => ?_)
      · have hm := gk_it c11 hm
        refine lv_bipush (v := -2) hx hb dX5_tell_24 (by decide) ?_
        rw [kr _ _ _ (Option.some.inj hm).symm]
        exact gk_iret C ⟨hP, hD, hS⟩ dX5_tell_26
      · have hm := gk_if c11 hm
        refine lv_iload_n hx hb dX5_tell_19 rfl (lv_at hl 3 rfl) ?_
        refine lv_iconst (v := 1) hx hb dX5_tell_20 (by decide) ?_
        refine lv_icmp_le (tgt := 27) hx hb dX5_tell_21 (by decide) (fun c12 => ?_) (fun c12 => ?_)
        · have hm := gk_it c12 hm
          refine lv_aload_n hx hb dX5_tell_27 rfl (lv_at hl 0 rfl) ?_
          refine va_get (D := G.1) (cl := vwCl) (own := RX5) (ref := "ExchangeFamilies") (ci := 4) (v := .ref a1) (C := RX5) (T := TX5) (N := 6) hx hb hts k_X5_tell_1 hown hK hP 0 rfl rfl 0 (by decide) (hts _ k_X5_tell_2) (fun _ h9 => h9) rfl dX5_tell_28 ?_
          refine va_get (D := G.1) (cl := vwCl) (own := RX5) (ref := "ExchangeFamilies$Ground") (ci := 0) (v := .ref a2) (C := RX1) (T := TX1) (N := 5) hx hb hts k_X5_tell_3 hown hK hP 1 rfl rfl 1 (by decide) (hts _ k_X5_tell_4) (fun _ h9 => h9) rfl dX5_tell_31 ?_
          refine lv_iload_n hx hb dX5_tell_34 rfl (lv_at hl 1 rfl) ?_
          obtain ⟨hi, hm⟩ := gk_ix_some hm
          refine va_lald hx hb hK hP 2 1 rfl rfl hi dX5_tell_35 ?_
          refine lv_lstore (lv' := [(4, .long (f_now_members x1.toNatClampNeg)), (0, .ref a0), (1, .int x1), (2, .int x2), (3, .int x3)]) hx hb dX5_tell_36 hl (by decide) rfl (fun ls hl => ?_)
          refine lv_lconst (v := 1) hx hb dX5_tell_38 (by decide) ?_
          refine lv_iload_n hx hb dX5_tell_39 rfl (lv_at hl 3 rfl) ?_
          refine lv_lshl hx hb dX5_tell_40 rfl ?_
          refine lv_lstore (lv' := [(6, .long ((1 : Int64) <<< (x2.toInt64 &&& 63))), (4, .long (f_now_members x1.toNatClampNeg)), (0, .ref a0), (1, .int x1), (2, .int x2), (3, .int x3)]) hx hb dX5_tell_41 hl (by decide) rfl (fun ls hl => ?_)
          refine lv_aload_n hx hb dX5_tell_43 rfl (lv_at hl 2 rfl) ?_
          refine va_get (D := G.1) (cl := vwCl) (own := RX5) (ref := "ExchangeFamilies") (ci := 4) (v := .ref a1) (C := RX5) (T := TX5) (N := 6) hx hb hts k_X5_tell_1 hown hK hP 0 rfl rfl 0 (by decide) (hts _ k_X5_tell_2) (fun _ h9 => h9) rfl dX5_tell_44 ?_
          refine lv_iload_n hx hb dX5_tell_47 rfl (lv_at hl 3 rfl) ?_
          refine lv_iload_n hx hb dX5_tell_48 rfl (lv_at hl 5 rfl) ?_
          refine lv_iconst (v := 1) hx hb dX5_tell_49 (by decide) ?_
          refine lv_icmp_ne (tgt := 61) hx hb dX5_tell_50 (by decide) (fun c13 => ?_) (fun c13 => ?_)
          · have hm := gk_if c13 hm
            refine lv_lload hx hb dX5_tell_61 (lv_at hl 1 rfl) ?_
            refine lv_lload hx hb dX5_tell_63 (lv_at hl 0 rfl) ?_
            refine lv_ldc2 (own := RX5) (v := -1) hx hb hown (hts _ k_X5_tell_0) dX5_tell_65 ?_
            refine lv_lxor hx hb dX5_tell_68 ?_
            refine lv_land hx hb dX5_tell_69 ?_
            exact w_X5_tell_J70 C hm kr ⟨hP, hD, hS⟩ (lv_sub hl [4, 1] rfl)
          · have hm := gk_it c13 hm
            refine lv_lload hx hb dX5_tell_53 (lv_at hl 1 rfl) ?_
            refine lv_lload hx hb dX5_tell_55 (lv_at hl 0 rfl) ?_
            refine lv_lor hx hb dX5_tell_57 ?_
            refine lv_goto (tgt := 70) hx hb dX5_tell_58 (by decide) ?_
            exact w_X5_tell_J70 C hm kr ⟨hP, hD, hS⟩ (lv_sub hl [4, 1] rfl)
        · have hm := gk_if c12 hm
          refine lv_bipush (v := -2) hx hb dX5_tell_24 (by decide) ?_
          rw [kr _ _ _ (Option.some.inj hm).symm]
          exact gk_iret C ⟨hP, hD, hS⟩ dX5_tell_26
def m_X5_tell (f_now_n : Int32) (f_now_members : (Nat → Int64)) (f_now_kinds : (Nat → Int32)) (x1 : Int32) (x2 : Int32) (x3 : Int32) : Option (Int32 × (Nat → Int64) × (Nat → Int32)) := m_X5_tell_0 f_now_n f_now_members f_now_kinds x1 x2 x3
theorem c_X5_tell (l : Launch) (G : gk_G) (a0 a1 a2 a3 a4 a5 a7 a13 a15 a18 : Nat) (f_isKept : Int32) (f_now_n : Int32) (f_now_members : (Nat → Int64)) (f_now_kinds : (Nat → Int32)) (x1 : Int32) (x2 : Int32) (x3 : Int32) {rv : Int32} {g_now_members : (Nat → Int64)} {g_now_kinds : (Nat → Int32)} (hm : m_X5_tell f_now_n f_now_members f_now_kinds x1 x2 x3 = some (rv, g_now_members, g_now_kinds)) : gk_M l yX5_tell wsX5_tell rm_X5_tell false G [.ref a0, .int x1, .int x2, .int x3] [(a0, .inr (4, [.ref a1, .ref a7, .int f_isKept, .ref a13, .ref a15, .ref a18])), (a1, .inr (0, [.int f_now_n, .ref a2, .ref a3, .ref a4, .ref a5])), (a2, gk_J G 6 f_now_members), (a3, gk_I G 6 f_now_kinds)] (some (.int rv)) [(a0, .inr (4, [.ref a1, .ref a7, .int f_isKept, .ref a13, .ref a15, .ref a18])), (a1, .inr (0, [.int f_now_n, .ref a2, .ref a3, .ref a4, .ref a5])), (a2, gk_J G 6 g_now_members), (a3, gk_I G 6 g_now_kinds)] :=
  gk_of (by decide) rfl (Nat.le_of_ble_eq_true rfl) (fun p e s m below meth c A ls C h hl => w_X5_tell_0 C hm (fun v0 v1 v2 ez => by cases ez; rfl) h (show lv_has ls 8 [(0, .ref a0), (1, .int x1), (2, .int x2), (3, .int x3)] from hl))

/-! ===== ExchangeFamilies.sized(III)I ===== -/
abbrev rm_X5_sized : Room := { frames := 5, cells := 0, slots := 0, locals := 238 }
theorem k_X5_sized_0 : ∀ w ∈ u_ws RX5 TX5 6, w ∈ wsX5_sized := by decide +kernel
theorem k_X5_sized_1 : Cond.fieldLink RX5 12 "ExchangeFamilies" "now" "LExchangeFamilies$Ground;" ∈ wsX5_sized := by decide +kernel
theorem k_X5_sized_2 : ∀ w ∈ u_ws RX1 TX1 5, w ∈ wsX5_sized := by decide +kernel
theorem k_X5_sized_3 : Cond.fieldLink RX5 46 "ExchangeFamilies$Ground" "n" "I" ∈ wsX5_sized := by decide +kernel
def m_X5_sized_0 (f_now_n : Int32) (f_now_members : (Nat → Int64)) (f_now_kinds : (Nat → Int32)) (x1 : Int32) (x2 : Int32) (x3 : Int32) : Option (Int32 × (Nat → Int64) × (Nat → Int32)) := gk_bd1 (m_X5_noFamily x1) (fun r5 => (if r5 = (0 : Int32) then (if x2 < (0 : Int32) then some ((-2 : Int32), f_now_members, f_now_kinds) else (if f_now_n < x3 then some ((-2 : Int32), f_now_members, f_now_kinds) else (if x2 ≤ x3 then gk_bd1 (m_X0_ofSizes x2 x3 f_now_n) (fun r10 => gk_bd3 (m_X1_become f_now_members f_now_kinds x1 r10 (1 : Int32)) (fun r11 r12 r13 => some (r11, r12, r13))) else some ((-2 : Int32), f_now_members, f_now_kinds)))) else some ((-2 : Int32), f_now_members, f_now_kinds)))
set_option maxRecDepth 100000 in
set_option maxHeartbeats 4000000 in
theorem w_X5_sized_0 {p : Program} {l : Launch} {e : Env} {s : State} {m : MethodId} {args : Array Value} {below : List Frame} {meth : Method} {c : Code} {G : gk_G} {A : Nat → Prop} {Q : State → Prop} {a0 a1 a2 a3 a4 a5 a7 a13 a15 a18 : Nat} (C : gk_C p s m args meth c cX5_sized 4 (some .int) yX5_sized wsX5_sized false G A) {f_now_n : Int32} {f_now_members : (Nat → Int64)} {f_now_kinds : (Nat → Int32)} {x1 : Int32} {x2 : Int32} {x3 : Int32} {f_isKept : Int32} {yy : Int32 × (Nat → Int64) × (Nat → Int32)} (hm : m_X5_sized_0 f_now_n f_now_members f_now_kinds x1 x2 x3 = some yy) (kr : ∀ (rv : Int32) (g_now_members : (Nat → Int64)) (g_now_kinds : (Nat → Int32)), yy = (rv, g_now_members, g_now_kinds) → Q = MQ below (gk_Q G (some (.int rv)) [(a0, .inr (4, [.ref a1, .ref a7, .int f_isKept, .ref a13, .ref a15, .ref a18])), (a1, .inr (0, [.int f_now_n, .ref a2, .ref a3, .ref a4, .ref a5])), (a2, gk_J G 6 g_now_members), (a3, gk_I G 6 g_now_kinds)] A) args s 0 0 A) {H : Heap} {locs : List Loc} {ls : Array Slot} (h : gk_H G A s [(a0, .inr (4, [.ref a1, .ref a7, .int f_isKept, .ref a13, .ref a15, .ref a18])), (a1, .inr (0, [.int f_now_n, .ref a2, .ref a3, .ref a4, .ref a5])), (a2, gk_J G 6 f_now_members), (a3, gk_I G 6 f_now_kinds)] H locs) (hl : lv_has ls 4 [(0, .ref a0), (1, .int x1), (2, .int x2), (3, .int x3)]) : W p l e rm_X5_sized s m args below meth c H locs 0 0 Q (F0 m 0 ls []) := by
  obtain ⟨hx, hb, hml, hr, hown, hnm, hts, hlk, hK, hSt, hA⟩ := id C
  obtain ⟨hP, hD, hS⟩ := h
  unfold m_X5_sized_0 at hm
  refine lv_iload_n hx hb dX5_sized_0 rfl (lv_at hl 1 rfl) ?_
  obtain ⟨r5, hq, hm⟩ := gk_bd1_some hm
  refine gk_callS (n := 1) (bytes := cX5_noFamily) (maxL := 1) (ret := (some .boolean)) [(a0, .inr (4, [.ref a1, .ref a7, .int f_isKept, .ref a13, .ref a15, .ref a18])), (a1, .inr (0, [.int f_now_n, .ref a2, .ref a3, .ref a4, .ref a5])), (a2, gk_J G 6 f_now_members), (a3, gk_I G 6 f_now_kinds)] [(a0, .inr (4, [.ref a1, .ref a7, .int f_isKept, .ref a13, .ref a15, .ref a18])), (a1, .inr (0, [.int f_now_n, .ref a2, .ref a3, .ref a4, .ref a5])), (a2, gk_J G 6 f_now_members), (a3, gk_I G 6 f_now_kinds)] [] C ⟨hP, hD, hS⟩ (c_X5_noFamily l G x1 hq) gX5_sized_X5_noFamily dX5_sized_1 hl.1 [] [0, 1, 2, 3] [0, 1, 2, 3] rfl ⟨rfl, rfl⟩ ⟨Nat.le_of_ble_eq_true rfl, Nat.le_of_ble_eq_true rfl⟩ ⟨by decide +kernel, by decide +kernel, by decide +kernel⟩ rfl (fun h => by cases h) (Nat.le_of_ble_eq_true rfl) rfl rfl rfl rfl (by decide) rfl rfl (fun H locs h => ?_)
  obtain ⟨hP, hD, hS⟩ := h
  refine lv_if_ne (tgt := 27) hx hb dX5_sized_4 (by decide) (fun c6 => ?_) (fun c6 => ?_)
  · have hm := gk_if c6 hm
    refine lv_bipush (v := -2) hx hb dX5_sized_27 (by decide) ?_
    rw [kr _ _ _ (Option.some.inj hm).symm]
    exact gk_iret C ⟨hP, hD, hS⟩ dX5_sized_29
  · have hm := gk_it c6 hm
    refine lv_iload_n hx hb dX5_sized_7 rfl (lv_at hl 2 rfl) ?_
    refine lv_if_lt (tgt := 27) hx hb dX5_sized_8 (by decide) (fun c7 => ?_) (fun c7 => ?_)
    · have hm := gk_it c7 hm
      refine lv_bipush (v := -2) hx hb dX5_sized_27 (by decide) ?_
      rw [kr _ _ _ (Option.some.inj hm).symm]
      exact gk_iret C ⟨hP, hD, hS⟩ dX5_sized_29
    · have hm := gk_if c7 hm
      refine lv_iload_n hx hb dX5_sized_11 rfl (lv_at hl 3 rfl) ?_
      refine lv_aload_n hx hb dX5_sized_12 rfl (lv_at hl 0 rfl) ?_
      refine va_get (D := G.1) (cl := vwCl) (own := RX5) (ref := "ExchangeFamilies") (ci := 4) (v := .ref a1) (C := RX5) (T := TX5) (N := 6) hx hb hts k_X5_sized_0 hown hK hP 0 rfl rfl 0 (by decide) (hts _ k_X5_sized_1) (fun _ h9 => h9) rfl dX5_sized_13 ?_
      refine va_get (D := G.1) (cl := vwCl) (own := RX5) (ref := "ExchangeFamilies$Ground") (ci := 0) (v := .int f_now_n) (C := RX1) (T := TX1) (N := 5) hx hb hts k_X5_sized_2 hown hK hP 1 rfl rfl 0 (by decide) (hts _ k_X5_sized_3) (fun _ h9 => h9) rfl dX5_sized_16 ?_
      refine lv_icmp_gt (tgt := 27) hx hb dX5_sized_19 (by decide) (fun c8 => ?_) (fun c8 => ?_)
      · have hm := gk_it c8 hm
        refine lv_bipush (v := -2) hx hb dX5_sized_27 (by decide) ?_
        rw [kr _ _ _ (Option.some.inj hm).symm]
        exact gk_iret C ⟨hP, hD, hS⟩ dX5_sized_29
      · have hm := gk_if c8 hm
        refine lv_iload_n hx hb dX5_sized_22 rfl (lv_at hl 2 rfl) ?_
        refine lv_iload_n hx hb dX5_sized_23 rfl (lv_at hl 3 rfl) ?_
        refine lv_icmp_le (tgt := 30) hx hb dX5_sized_24 (by decide) (fun c9 => ?_) (fun c9 => ?_)
        · have hm := gk_it c9 hm
          refine lv_aload_n hx hb dX5_sized_30 rfl (lv_at hl 0 rfl) ?_
          refine va_get (D := G.1) (cl := vwCl) (own := RX5) (ref := "ExchangeFamilies") (ci := 4) (v := .ref a1) (C := RX5) (T := TX5) (N := 6) hx hb hts k_X5_sized_0 hown hK hP 0 rfl rfl 0 (by decide) (hts _ k_X5_sized_1) (fun _ h9 => h9) rfl dX5_sized_31 ?_
          refine lv_iload_n hx hb dX5_sized_34 rfl (lv_at hl 1 rfl) ?_
          refine lv_iload_n hx hb dX5_sized_35 rfl (lv_at hl 2 rfl) ?_
          refine lv_iload_n hx hb dX5_sized_36 rfl (lv_at hl 3 rfl) ?_
          refine lv_aload_n hx hb dX5_sized_37 rfl (lv_at hl 0 rfl) ?_
          refine va_get (D := G.1) (cl := vwCl) (own := RX5) (ref := "ExchangeFamilies") (ci := 4) (v := .ref a1) (C := RX5) (T := TX5) (N := 6) hx hb hts k_X5_sized_0 hown hK hP 0 rfl rfl 0 (by decide) (hts _ k_X5_sized_1) (fun _ h9 => h9) rfl dX5_sized_38 ?_
          refine va_get (D := G.1) (cl := vwCl) (own := RX5) (ref := "ExchangeFamilies$Ground") (ci := 0) (v := .int f_now_n) (C := RX1) (T := TX1) (N := 5) hx hb hts k_X5_sized_2 hown hK hP 1 rfl rfl 0 (by decide) (hts _ k_X5_sized_3) (fun _ h9 => h9) rfl dX5_sized_41 ?_
          obtain ⟨r10, hq, hm⟩ := gk_bd1_some hm
          refine gk_callS (n := 3) (bytes := cX0_ofSizes) (maxL := 7) (ret := (some .long)) [(a0, .inr (4, [.ref a1, .ref a7, .int f_isKept, .ref a13, .ref a15, .ref a18])), (a1, .inr (0, [.int f_now_n, .ref a2, .ref a3, .ref a4, .ref a5])), (a2, gk_J G 6 f_now_members), (a3, gk_I G 6 f_now_kinds)] [(a0, .inr (4, [.ref a1, .ref a7, .int f_isKept, .ref a13, .ref a15, .ref a18])), (a1, .inr (0, [.int f_now_n, .ref a2, .ref a3, .ref a4, .ref a5])), (a2, gk_J G 6 f_now_members), (a3, gk_I G 6 f_now_kinds)] [.int x1, .ref a1] C ⟨hP, hD, hS⟩ (c_X0_ofSizes l G x2 x3 f_now_n hq) gX5_sized_X0_ofSizes dX5_sized_44 hl.1 [] [0, 1, 2, 3] [0, 1, 2, 3] rfl ⟨rfl, rfl⟩ ⟨Nat.le_of_ble_eq_true rfl, Nat.le_of_ble_eq_true rfl⟩ ⟨by decide +kernel, by decide +kernel, by decide +kernel⟩ rfl (fun h => by cases h) (Nat.le_of_ble_eq_true rfl) rfl rfl rfl rfl (by decide) rfl rfl (fun H locs h => ?_)
          obtain ⟨hP, hD, hS⟩ := h
          refine lv_iconst (v := 1) hx hb dX5_sized_47 (by decide) ?_
          obtain ⟨r11, r12, r13, hq, hm⟩ := gk_bd3_some hm
          refine gk_callV (n := 3) (bytes := cX1_become) (maxL := 5) (ret := (some .int)) (Cn := RX1) (T := TX1) (N := 5) [(a0, .inr (4, [.ref a1, .ref a7, .int f_isKept, .ref a13, .ref a15, .ref a18]))] [(a0, .inr (4, [.ref a1, .ref a7, .int f_isKept, .ref a13, .ref a15, .ref a18])), (a1, .inr (0, [.int f_now_n, .ref a2, .ref a3, .ref a4, .ref a5])), (a2, gk_J G 6 r12), (a3, gk_I G 6 r13)] [] C ⟨hP, hD, hS⟩ (c_X1_become l G a1 a2 a3 a4 a5 f_now_n f_now_members f_now_kinds x1 r10 (1 : Int32) hq) gX5_sized_X1_become dX5_sized_48 hl.1 [1, 2, 3] [0] [0, 1, 2, 3] rfl rfl ⟨rfl, rfl⟩ ⟨Nat.le_of_ble_eq_true rfl, Nat.le_of_ble_eq_true rfl⟩ ⟨rfl, by decide +kernel, by decide +kernel, by decide +kernel⟩ rfl (fun h => by cases h) (Nat.le_of_ble_eq_true rfl) rfl rfl rfl rfl (by decide) rfl rfl (fun H locs h => ?_)
          obtain ⟨hP, hD, hS⟩ := h
          rw [kr _ _ _ (Option.some.inj hm).symm]
          exact gk_iret C ⟨hP, hD, hS⟩ dX5_sized_51
        · have hm := gk_if c9 hm
          refine lv_bipush (v := -2) hx hb dX5_sized_27 (by decide) ?_
          rw [kr _ _ _ (Option.some.inj hm).symm]
          exact gk_iret C ⟨hP, hD, hS⟩ dX5_sized_29
def m_X5_sized (f_now_n : Int32) (f_now_members : (Nat → Int64)) (f_now_kinds : (Nat → Int32)) (x1 : Int32) (x2 : Int32) (x3 : Int32) : Option (Int32 × (Nat → Int64) × (Nat → Int32)) := m_X5_sized_0 f_now_n f_now_members f_now_kinds x1 x2 x3
theorem c_X5_sized (l : Launch) (G : gk_G) (a0 a1 a2 a3 a4 a5 a7 a13 a15 a18 : Nat) (f_isKept : Int32) (f_now_n : Int32) (f_now_members : (Nat → Int64)) (f_now_kinds : (Nat → Int32)) (x1 : Int32) (x2 : Int32) (x3 : Int32) {rv : Int32} {g_now_members : (Nat → Int64)} {g_now_kinds : (Nat → Int32)} (hm : m_X5_sized f_now_n f_now_members f_now_kinds x1 x2 x3 = some (rv, g_now_members, g_now_kinds)) : gk_M l yX5_sized wsX5_sized rm_X5_sized false G [.ref a0, .int x1, .int x2, .int x3] [(a0, .inr (4, [.ref a1, .ref a7, .int f_isKept, .ref a13, .ref a15, .ref a18])), (a1, .inr (0, [.int f_now_n, .ref a2, .ref a3, .ref a4, .ref a5])), (a2, gk_J G 6 f_now_members), (a3, gk_I G 6 f_now_kinds)] (some (.int rv)) [(a0, .inr (4, [.ref a1, .ref a7, .int f_isKept, .ref a13, .ref a15, .ref a18])), (a1, .inr (0, [.int f_now_n, .ref a2, .ref a3, .ref a4, .ref a5])), (a2, gk_J G 6 g_now_members), (a3, gk_I G 6 g_now_kinds)] :=
  gk_of (by decide) rfl (Nat.le_of_ble_eq_true rfl) (fun p e s m below meth c A ls C h hl => w_X5_sized_0 C hm (fun v0 v1 v2 ez => by cases ez; rfl) h (show lv_has ls 4 [(0, .ref a0), (1, .int x1), (2, .int x2), (3, .int x3)] from hl))

/-! ===== ExchangeFamilies.determinant(I)I ===== -/
abbrev rm_X5_determinant : Room := { frames := 7, cells := 0, slots := 0, locals := 330 }
theorem k_X5_determinant_0 : ∀ w ∈ u_ws RX5 TX5 6, w ∈ wsX5_determinant := by decide +kernel
theorem k_X5_determinant_1 : Cond.fieldLink RX5 28 "ExchangeFamilies" "scratch" "LExchangeFamilies$Table;" ∈ wsX5_determinant := by decide +kernel
theorem k_X5_determinant_2 : Cond.fieldLink RX5 12 "ExchangeFamilies" "now" "LExchangeFamilies$Ground;" ∈ wsX5_determinant := by decide +kernel
theorem k_X5_determinant_3 : ∀ w ∈ u_ws RX1 TX1 5, w ∈ wsX5_determinant := by decide +kernel
theorem k_X5_determinant_4 : Cond.fieldLink RX5 171 "ExchangeFamilies$Ground" "table" "LExchangeFamilies$Table;" ∈ wsX5_determinant := by decide +kernel
def m_X5_determinant_0 (f_now_table_entries : (Nat → Int32)) (f_scratch_entries : (Nat → Int32)) (x1 : Int32) : Option (Int32 × (Nat → Int32)) := gk_bd1 (m_X4_takeOver f_scratch_entries f_now_table_entries) (fun r1 => gk_bd2 (m_X4_pivotOn r1 x1) (fun r2 r3 => some (r2, r3)))
set_option maxRecDepth 100000 in
set_option maxHeartbeats 4000000 in
theorem w_X5_determinant_0 {p : Program} {l : Launch} {e : Env} {s : State} {m : MethodId} {args : Array Value} {below : List Frame} {meth : Method} {c : Code} {G : gk_G} {A : Nat → Prop} {Q : State → Prop} {a0 a1 a2 a3 a4 a5 a6 a7 a13 a14 a15 a18 : Nat} (C : gk_C p s m args meth c cX5_determinant 2 (some .int) yX5_determinant wsX5_determinant true G A) {f_now_table_entries : (Nat → Int32)} {f_scratch_entries : (Nat → Int32)} {x1 : Int32} {f_isKept : Int32} {f_now_n : Int32} {yy : Int32 × (Nat → Int32)} (hm : m_X5_determinant_0 f_now_table_entries f_scratch_entries x1 = some yy) (kr : ∀ (rv : Int32) (g_scratch_entries : (Nat → Int32)), yy = (rv, g_scratch_entries) → Q = MQ below (gk_Q G (some (.int rv)) [(a0, .inr (4, [.ref a1, .ref a7, .int f_isKept, .ref a13, .ref a15, .ref a18])), (a1, .inr (0, [.int f_now_n, .ref a2, .ref a3, .ref a4, .ref a5])), (a5, .inr (3, [.ref a6])), (a6, gk_I G 36 f_now_table_entries), (a13, .inr (3, [.ref a14])), (a14, gk_I G 36 g_scratch_entries)] A) args s 0 0 A) {H : Heap} {locs : List Loc} {ls : Array Slot} (h : gk_H G A s [(a0, .inr (4, [.ref a1, .ref a7, .int f_isKept, .ref a13, .ref a15, .ref a18])), (a1, .inr (0, [.int f_now_n, .ref a2, .ref a3, .ref a4, .ref a5])), (a5, .inr (3, [.ref a6])), (a6, gk_I G 36 f_now_table_entries), (a13, .inr (3, [.ref a14])), (a14, gk_I G 36 f_scratch_entries)] H locs) (hl : lv_has ls 2 [(0, .ref a0), (1, .int x1)]) : W p l e rm_X5_determinant s m args below meth c H locs 0 0 Q (F0 m 0 ls []) := by
  obtain ⟨hx, hb, hml, hr, hown, hnm, hts, hlk, hK, hSt, hA⟩ := id C
  obtain ⟨hP, hD, hS⟩ := h
  unfold m_X5_determinant_0 at hm
  refine lv_aload_n hx hb dX5_determinant_0 rfl (lv_at hl 0 rfl) ?_
  refine va_get (D := G.1) (cl := vwCl) (own := RX5) (ref := "ExchangeFamilies") (ci := 4) (v := .ref a13) (C := RX5) (T := TX5) (N := 6) hx hb hts k_X5_determinant_0 hown hK hP 0 rfl rfl 3 (by decide) (hts _ k_X5_determinant_1) (fun _ h9 => h9) rfl dX5_determinant_1 ?_
  refine lv_aload_n hx hb dX5_determinant_4 rfl (lv_at hl 0 rfl) ?_
  refine va_get (D := G.1) (cl := vwCl) (own := RX5) (ref := "ExchangeFamilies") (ci := 4) (v := .ref a1) (C := RX5) (T := TX5) (N := 6) hx hb hts k_X5_determinant_0 hown hK hP 0 rfl rfl 0 (by decide) (hts _ k_X5_determinant_2) (fun _ h9 => h9) rfl dX5_determinant_5 ?_
  refine va_get (D := G.1) (cl := vwCl) (own := RX5) (ref := "ExchangeFamilies$Ground") (ci := 0) (v := .ref a5) (C := RX1) (T := TX1) (N := 5) hx hb hts k_X5_determinant_3 hown hK hP 1 rfl rfl 4 (by decide) (hts _ k_X5_determinant_4) (fun _ h9 => h9) rfl dX5_determinant_8 ?_
  obtain ⟨r1, hq, hm⟩ := gk_bd1_some hm
  refine gk_callV (n := 1) (bytes := cX4_takeOver) (maxL := 2) (ret := none) (Cn := RX4) (T := TX4) (N := 1) [(a0, .inr (4, [.ref a1, .ref a7, .int f_isKept, .ref a13, .ref a15, .ref a18])), (a1, .inr (0, [.int f_now_n, .ref a2, .ref a3, .ref a4, .ref a5]))] [(a0, .inr (4, [.ref a1, .ref a7, .int f_isKept, .ref a13, .ref a15, .ref a18])), (a1, .inr (0, [.int f_now_n, .ref a2, .ref a3, .ref a4, .ref a5])), (a5, .inr (3, [.ref a6])), (a6, gk_I G 36 f_now_table_entries), (a13, .inr (3, [.ref a14])), (a14, gk_I G 36 r1)] [] C ⟨hP, hD, hS⟩ (c_X4_takeOver l G a13 a14 a5 a6 f_scratch_entries f_now_table_entries hq) gX5_determinant_X4_takeOver dX5_determinant_11 hl.1 [4, 5, 2, 3] [0, 1] [0, 1, 4, 5, 2, 3] rfl rfl ⟨rfl, rfl⟩ ⟨Nat.le_of_ble_eq_true rfl, Nat.le_of_ble_eq_true rfl⟩ ⟨rfl, by decide +kernel, by decide +kernel, by decide +kernel⟩ rfl (fun h => by cases h) (Nat.le_of_ble_eq_true rfl) rfl rfl rfl rfl (by decide) rfl rfl (fun H locs h => ?_)
  obtain ⟨hP, hD, hS⟩ := h
  refine lv_aload_n hx hb dX5_determinant_14 rfl (lv_at hl 0 rfl) ?_
  refine va_get (D := G.1) (cl := vwCl) (own := RX5) (ref := "ExchangeFamilies") (ci := 4) (v := .ref a13) (C := RX5) (T := TX5) (N := 6) hx hb hts k_X5_determinant_0 hown hK hP 0 rfl rfl 3 (by decide) (hts _ k_X5_determinant_1) (fun _ h9 => h9) rfl dX5_determinant_15 ?_
  refine lv_iload_n hx hb dX5_determinant_18 rfl (lv_at hl 1 rfl) ?_
  obtain ⟨r2, r3, hq, hm⟩ := gk_bd2_some hm
  refine gk_callV (n := 1) (bytes := cX4_pivotOn) (maxL := 6) (ret := (some .int)) (Cn := RX4) (T := TX4) (N := 1) [(a0, .inr (4, [.ref a1, .ref a7, .int f_isKept, .ref a13, .ref a15, .ref a18])), (a1, .inr (0, [.int f_now_n, .ref a2, .ref a3, .ref a4, .ref a5])), (a5, .inr (3, [.ref a6])), (a6, gk_I G 36 f_now_table_entries)] [(a0, .inr (4, [.ref a1, .ref a7, .int f_isKept, .ref a13, .ref a15, .ref a18])), (a1, .inr (0, [.int f_now_n, .ref a2, .ref a3, .ref a4, .ref a5])), (a5, .inr (3, [.ref a6])), (a6, gk_I G 36 f_now_table_entries), (a13, .inr (3, [.ref a14])), (a14, gk_I G 36 r3)] [] C ⟨hP, hD, hS⟩ (c_X4_pivotOn l G a13 a14 r1 x1 hq) gX5_determinant_X4_pivotOn dX5_determinant_19 hl.1 [4, 5] [0, 1, 2, 3] [0, 1, 2, 3, 4, 5] rfl rfl ⟨rfl, rfl⟩ ⟨Nat.le_of_ble_eq_true rfl, Nat.le_of_ble_eq_true rfl⟩ ⟨rfl, by decide +kernel, by decide +kernel, by decide +kernel⟩ rfl (fun h => h) (Nat.le_of_ble_eq_true rfl) rfl rfl rfl rfl (by decide) rfl rfl (fun H locs h => ?_)
  obtain ⟨hP, hD, hS⟩ := h
  rw [kr _ _ (Option.some.inj hm).symm]
  exact gk_iret C ⟨hP, hD, hS⟩ dX5_determinant_22
def m_X5_determinant (f_now_table_entries : (Nat → Int32)) (f_scratch_entries : (Nat → Int32)) (x1 : Int32) : Option (Int32 × (Nat → Int32)) := m_X5_determinant_0 f_now_table_entries f_scratch_entries x1
theorem c_X5_determinant (l : Launch) (G : gk_G) (a0 a1 a2 a3 a4 a5 a6 a7 a13 a14 a15 a18 : Nat) (f_isKept : Int32) (f_now_n : Int32) (f_now_table_entries : (Nat → Int32)) (f_scratch_entries : (Nat → Int32)) (x1 : Int32) {rv : Int32} {g_scratch_entries : (Nat → Int32)} (hm : m_X5_determinant f_now_table_entries f_scratch_entries x1 = some (rv, g_scratch_entries)) : gk_M l yX5_determinant wsX5_determinant rm_X5_determinant true G [.ref a0, .int x1] [(a0, .inr (4, [.ref a1, .ref a7, .int f_isKept, .ref a13, .ref a15, .ref a18])), (a1, .inr (0, [.int f_now_n, .ref a2, .ref a3, .ref a4, .ref a5])), (a5, .inr (3, [.ref a6])), (a6, gk_I G 36 f_now_table_entries), (a13, .inr (3, [.ref a14])), (a14, gk_I G 36 f_scratch_entries)] (some (.int rv)) [(a0, .inr (4, [.ref a1, .ref a7, .int f_isKept, .ref a13, .ref a15, .ref a18])), (a1, .inr (0, [.int f_now_n, .ref a2, .ref a3, .ref a4, .ref a5])), (a5, .inr (3, [.ref a6])), (a6, gk_I G 36 f_now_table_entries), (a13, .inr (3, [.ref a14])), (a14, gk_I G 36 g_scratch_entries)] :=
  gk_of (by decide) rfl (Nat.le_of_ble_eq_true rfl) (fun p e s m below meth c A ls C h hl => w_X5_determinant_0 C hm (fun v0 v1 ez => by cases ez; rfl) h (show lv_has ls 2 [(0, .ref a0), (1, .int x1)] from hl))

/-! ===== ExchangeFamilies.tabled(I)I ===== -/
abbrev rm_X5_tabled : Room := { frames := 9, cells := 0, slots := 0, locals := 415 }
theorem k_X5_tabled_0 : ∀ w ∈ u_ws RX5 TX5 6, w ∈ wsX5_tabled := by decide +kernel
theorem k_X5_tabled_1 : Cond.fieldLink RX5 12 "ExchangeFamilies" "now" "LExchangeFamilies$Ground;" ∈ wsX5_tabled := by decide +kernel
theorem k_X5_tabled_2 : ∀ w ∈ u_ws RX1 TX1 5, w ∈ wsX5_tabled := by decide +kernel
theorem k_X5_tabled_3 : Cond.fieldLink RX5 46 "ExchangeFamilies$Ground" "n" "I" ∈ wsX5_tabled := by decide +kernel
def m_X5_tabled_B15 (f_now_n : Int32) (f_now_members : (Nat → Int64)) (f_now_kinds : (Nat → Int32)) (f_now_table_entries : (Nat → Int32)) (x1 : Int32) (x2 : Int64) (x4 : Int32) (f_scratch_entries : (Nat → Int32)) : Option ((Int64 × Int32 × (Nat → Int32)) ⊕ (Int64 × (Nat → Int32))) := (if ((1 : Int32) <<< (f_now_n &&& 31)) ≤ x4 then some (.inr (x2, f_scratch_entries)) else gk_bd2 (m_X5_determinant f_now_table_entries f_scratch_entries x4) (fun r7 r8 => (if r7 = (0 : Int32) then some (.inl (x2, x4 + 1, r8)) else some (.inl (x2 ||| ((1 : Int64) <<< (x4.toInt64 &&& 63)), x4 + 1, r8)))))
set_option maxRecDepth 100000 in
set_option maxHeartbeats 4000000 in
theorem w_X5_tabled_B15 {p : Program} {l : Launch} {e : Env} {s : State} {m : MethodId} {args : Array Value} {below : List Frame} {meth : Method} {c : Code} {G : gk_G} {A : Nat → Prop} {Q : State → Prop} {a0 a1 a2 a3 a4 a5 a6 a7 a13 a14 a15 a18 : Nat} (C : gk_C p s m args meth c cX5_tabled 5 (some .int) yX5_tabled wsX5_tabled true G A) {f_now_n : Int32} {f_now_members : (Nat → Int64)} {f_now_kinds : (Nat → Int32)} {f_now_table_entries : (Nat → Int32)} {x1 : Int32} {x2 : Int64} {x4 : Int32} {f_scratch_entries : (Nat → Int32)} {f_isKept : Int32} {yy : (Int64 × Int32 × (Nat → Int32)) ⊕ (Int64 × (Nat → Int32))} (hm : m_X5_tabled_B15 f_now_n f_now_members f_now_kinds f_now_table_entries x1 x2 x4 f_scratch_entries = some yy) (kl : ∀ (x2 : Int64) (x4 : Int32) (f_scratch_entries : (Nat → Int32)), yy = .inl (x2, x4, f_scratch_entries) → ∀ (H : Heap) (locs : List Loc) (ls : Array Slot), gk_H G A s [(a0, .inr (4, [.ref a1, .ref a7, .int f_isKept, .ref a13, .ref a15, .ref a18])), (a1, .inr (0, [.int f_now_n, .ref a2, .ref a3, .ref a4, .ref a5])), (a2, gk_J G 6 f_now_members), (a3, gk_I G 6 f_now_kinds), (a5, .inr (3, [.ref a6])), (a6, gk_I G 36 f_now_table_entries), (a13, .inr (3, [.ref a14])), (a14, gk_I G 36 f_scratch_entries)] H locs → lv_has ls 5 [(0, .ref a0), (1, .int x1), (2, .long x2), (4, .int x4)] → W p l e rm_X5_tabled s m args below meth c H locs 0 0 Q (F0 m 15 ls [])) (kx : ∀ (x2 : Int64) (f_scratch_entries : (Nat → Int32)), yy = .inr (x2, f_scratch_entries) → ∀ (H : Heap) (locs : List Loc) (ls : Array Slot), gk_H G A s [(a0, .inr (4, [.ref a1, .ref a7, .int f_isKept, .ref a13, .ref a15, .ref a18])), (a1, .inr (0, [.int f_now_n, .ref a2, .ref a3, .ref a4, .ref a5])), (a2, gk_J G 6 f_now_members), (a3, gk_I G 6 f_now_kinds), (a5, .inr (3, [.ref a6])), (a6, gk_I G 36 f_now_table_entries), (a13, .inr (3, [.ref a14])), (a14, gk_I G 36 f_scratch_entries)] H locs → lv_has ls 5 [(0, .ref a0), (1, .int x1), (2, .long x2)] → W p l e rm_X5_tabled s m args below meth c H locs 0 0 Q (F0 m 51 ls [])) {H : Heap} {locs : List Loc} {ls : Array Slot} (h : gk_H G A s [(a0, .inr (4, [.ref a1, .ref a7, .int f_isKept, .ref a13, .ref a15, .ref a18])), (a1, .inr (0, [.int f_now_n, .ref a2, .ref a3, .ref a4, .ref a5])), (a2, gk_J G 6 f_now_members), (a3, gk_I G 6 f_now_kinds), (a5, .inr (3, [.ref a6])), (a6, gk_I G 36 f_now_table_entries), (a13, .inr (3, [.ref a14])), (a14, gk_I G 36 f_scratch_entries)] H locs) (hl : lv_has ls 5 [(0, .ref a0), (1, .int x1), (2, .long x2), (4, .int x4)]) : W p l e rm_X5_tabled s m args below meth c H locs 0 0 Q (F0 m 15 ls []) := by
  obtain ⟨hx, hb, hml, hr, hown, hnm, hts, hlk, hK, hSt, hA⟩ := id C
  obtain ⟨hP, hD, hS⟩ := h
  unfold m_X5_tabled_B15 at hm
  refine lv_iload hx hb dX5_tabled_15 (lv_at hl 3 rfl) ?_
  refine lv_iconst (v := 1) hx hb dX5_tabled_17 (by decide) ?_
  refine lv_aload_n hx hb dX5_tabled_18 rfl (lv_at hl 0 rfl) ?_
  refine va_get (D := G.1) (cl := vwCl) (own := RX5) (ref := "ExchangeFamilies") (ci := 4) (v := .ref a1) (C := RX5) (T := TX5) (N := 6) hx hb hts k_X5_tabled_0 hown hK hP 0 rfl rfl 0 (by decide) (hts _ k_X5_tabled_1) (fun _ h9 => h9) rfl dX5_tabled_19 ?_
  refine va_get (D := G.1) (cl := vwCl) (own := RX5) (ref := "ExchangeFamilies$Ground") (ci := 0) (v := .int f_now_n) (C := RX1) (T := TX1) (N := 5) hx hb hts k_X5_tabled_2 hown hK hP 1 rfl rfl 0 (by decide) (hts _ k_X5_tabled_3) (fun _ h9 => h9) rfl dX5_tabled_22 ?_
  refine lv_ishl hx hb dX5_tabled_25 ?_
  refine lv_icmp_ge (tgt := 51) hx hb dX5_tabled_26 (by decide) (fun c6 => ?_) (fun c6 => ?_)
  · have hm := gk_it c6 hm
    exact kx _ _ (Option.some.inj hm).symm _ _ _ ⟨hP, hD, hS⟩ (lv_sub hl [0, 1, 2] rfl)
  · have hm := gk_if c6 hm
    refine lv_aload_n hx hb dX5_tabled_29 rfl (lv_at hl 0 rfl) ?_
    refine lv_iload hx hb dX5_tabled_30 (lv_at hl 3 rfl) ?_
    obtain ⟨r7, r8, hq, hm⟩ := gk_bd2_some hm
    refine gk_callV (n := 1) (bytes := cX5_determinant) (maxL := 2) (ret := (some .int)) (Cn := RX5) (T := TX5) (N := 6) [(a2, gk_J G 6 f_now_members), (a3, gk_I G 6 f_now_kinds)] [(a0, .inr (4, [.ref a1, .ref a7, .int f_isKept, .ref a13, .ref a15, .ref a18])), (a1, .inr (0, [.int f_now_n, .ref a2, .ref a3, .ref a4, .ref a5])), (a2, gk_J G 6 f_now_members), (a3, gk_I G 6 f_now_kinds), (a5, .inr (3, [.ref a6])), (a6, gk_I G 36 f_now_table_entries), (a13, .inr (3, [.ref a14])), (a14, gk_I G 36 r8)] [] C ⟨hP, hD, hS⟩ (c_X5_determinant l G a0 a1 a2 a3 a4 a5 a6 a7 a13 a14 a15 a18 f_isKept f_now_n f_now_table_entries f_scratch_entries x4 hq) gX5_tabled_X5_determinant dX5_tabled_32 hl.1 [0, 1, 4, 5, 6, 7] [2, 3] [2, 3, 0, 1, 4, 5, 6, 7] rfl rfl ⟨rfl, rfl⟩ ⟨Nat.le_of_ble_eq_true rfl, Nat.le_of_ble_eq_true rfl⟩ ⟨rfl, by decide +kernel, by decide +kernel, by decide +kernel⟩ rfl (fun h => h) (Nat.le_of_ble_eq_true rfl) rfl rfl rfl rfl (by decide) rfl rfl (fun H locs h => ?_)
    obtain ⟨hP, hD, hS⟩ := h
    refine lv_if_eq (tgt := 45) hx hb dX5_tabled_35 (by decide) (fun c9 => ?_) (fun c9 => ?_)
    · have hm := gk_it c9 hm
      refine lv_iinc (v := x4 + 1) (lv' := [(4, .int (x4 + 1)), (0, .ref a0), (1, .int x1), (2, .long x2)]) hx hb dX5_tabled_45 hl (k := 3) rfl rfl (by decide) rfl (fun ls hl => ?_)
      refine lv_goto (tgt := 15) hx hb dX5_tabled_48 (by decide) ?_
      exact kl _ _ _ (Option.some.inj hm).symm _ _ _ ⟨hP, hD, hS⟩ (lv_sub hl [1, 2, 3, 0] rfl)
    · have hm := gk_if c9 hm
      refine lv_lload_n hx hb dX5_tabled_38 rfl (lv_at hl 2 rfl) ?_
      refine lv_lconst (v := 1) hx hb dX5_tabled_39 (by decide) ?_
      refine lv_iload hx hb dX5_tabled_40 (lv_at hl 3 rfl) ?_
      refine lv_lshl hx hb dX5_tabled_42 rfl ?_
      refine lv_lor hx hb dX5_tabled_43 ?_
      refine lv_lstore_n (lv' := [(2, .long (x2 ||| ((1 : Int64) <<< (x4.toInt64 &&& 63)))), (0, .ref a0), (1, .int x1), (4, .int x4)]) hx hb dX5_tabled_44 rfl hl (by decide) rfl (fun ls hl => ?_)
      refine lv_iinc (v := x4 + 1) (lv' := [(4, .int (x4 + 1)), (2, .long (x2 ||| ((1 : Int64) <<< (x4.toInt64 &&& 63)))), (0, .ref a0), (1, .int x1)]) hx hb dX5_tabled_45 hl (k := 3) rfl rfl (by decide) rfl (fun ls hl => ?_)
      refine lv_goto (tgt := 15) hx hb dX5_tabled_48 (by decide) ?_
      exact kl _ _ _ (Option.some.inj hm).symm _ _ _ ⟨hP, hD, hS⟩ (lv_sub hl [2, 3, 1, 0] rfl)
set_option maxRecDepth 100000 in
set_option maxHeartbeats 4000000 in
theorem w_X5_tabled_L15 {p : Program} {l : Launch} {e : Env} {s : State} {m : MethodId} {args : Array Value} {below : List Frame} {meth : Method} {c : Code} {G : gk_G} {A : Nat → Prop} {Q : State → Prop} {a0 a1 a2 a3 a4 a5 a6 a7 a13 a14 a15 a18 : Nat} (C : gk_C p s m args meth c cX5_tabled 5 (some .int) yX5_tabled wsX5_tabled true G A) {f_now_n : Int32} {f_now_members : (Nat → Int64)} {f_now_kinds : (Nat → Int32)} {f_now_table_entries : (Nat → Int32)} {x1 : Int32} {x2 : Int64} {x4 : Int32} {f_scratch_entries : (Nat → Int32)} {f_isKept : Int32} {k : Nat} {e_x2 : Int64} {e_f_scratch_entries : (Nat → Int32)} (hm : gk_lp (fun z => m_X5_tabled_B15 f_now_n f_now_members f_now_kinds f_now_table_entries x1 z.1 z.2.1 z.2.2) k (x2, x4, f_scratch_entries) = some (e_x2, e_f_scratch_entries)) (kx : ∀ (H : Heap) (locs : List Loc) (ls : Array Slot), gk_H G A s [(a0, .inr (4, [.ref a1, .ref a7, .int f_isKept, .ref a13, .ref a15, .ref a18])), (a1, .inr (0, [.int f_now_n, .ref a2, .ref a3, .ref a4, .ref a5])), (a2, gk_J G 6 f_now_members), (a3, gk_I G 6 f_now_kinds), (a5, .inr (3, [.ref a6])), (a6, gk_I G 36 f_now_table_entries), (a13, .inr (3, [.ref a14])), (a14, gk_I G 36 e_f_scratch_entries)] H locs → lv_has ls 5 [(0, .ref a0), (1, .int x1), (2, .long e_x2)] → W p l e rm_X5_tabled s m args below meth c H locs 0 0 Q (F0 m 51 ls [])) {H : Heap} {locs : List Loc} {ls : Array Slot} (h : gk_H G A s [(a0, .inr (4, [.ref a1, .ref a7, .int f_isKept, .ref a13, .ref a15, .ref a18])), (a1, .inr (0, [.int f_now_n, .ref a2, .ref a3, .ref a4, .ref a5])), (a2, gk_J G 6 f_now_members), (a3, gk_I G 6 f_now_kinds), (a5, .inr (3, [.ref a6])), (a6, gk_I G 36 f_now_table_entries), (a13, .inr (3, [.ref a14])), (a14, gk_I G 36 f_scratch_entries)] H locs) (hl : lv_has ls 5 [(0, .ref a0), (1, .int x1), (2, .long x2), (4, .int x4)]) : W p l e rm_X5_tabled s m args below meth c H locs 0 0 Q (F0 m 15 ls []) :=
  gk_lp_some (P := fun z => ∀ (H : Heap) (locs : List Loc) (ls : Array Slot), gk_H G A s [(a0, .inr (4, [.ref a1, .ref a7, .int f_isKept, .ref a13, .ref a15, .ref a18])), (a1, .inr (0, [.int f_now_n, .ref a2, .ref a3, .ref a4, .ref a5])), (a2, gk_J G 6 f_now_members), (a3, gk_I G 6 f_now_kinds), (a5, .inr (3, [.ref a6])), (a6, gk_I G 36 f_now_table_entries), (a13, .inr (3, [.ref a14])), (a14, gk_I G 36 z.2.2)] H locs → lv_has ls 5 [(0, .ref a0), (1, .int x1), (2, .long z.1), (4, .int z.2.1)] → W p l e rm_X5_tabled s m args below meth c H locs 0 0 Q (F0 m 15 ls [])) (E := fun r => (∀ (x2 : Int64) (f_scratch_entries : (Nat → Int32)), r = (x2, f_scratch_entries) → ∀ (H : Heap) (locs : List Loc) (ls : Array Slot), gk_H G A s [(a0, .inr (4, [.ref a1, .ref a7, .int f_isKept, .ref a13, .ref a15, .ref a18])), (a1, .inr (0, [.int f_now_n, .ref a2, .ref a3, .ref a4, .ref a5])), (a2, gk_J G 6 f_now_members), (a3, gk_I G 6 f_now_kinds), (a5, .inr (3, [.ref a6])), (a6, gk_I G 36 f_now_table_entries), (a13, .inr (3, [.ref a14])), (a14, gk_I G 36 f_scratch_entries)] H locs → lv_has ls 5 [(0, .ref a0), (1, .int x1), (2, .long x2)] → W p l e rm_X5_tabled s m args below meth c H locs 0 0 Q (F0 m 51 ls []))) (fun z x hf kl ke H locs ls h hl => w_X5_tabled_B15 C hf (fun v0 v1 v2 ez => kl (v0, v1, v2) ez) (fun v0 v1 ez => ke _ ez v0 v1 rfl) h hl) k (x2, x4, f_scratch_entries) _ hm (fun v0 v1 ez => (by cases ez; exact kx)) _ _ _ h hl
def m_X5_tabled_0 (f_now_n : Int32) (f_now_members : (Nat → Int64)) (f_now_kinds : (Nat → Int32)) (f_now_table_entries : (Nat → Int32)) (f_scratch_entries : (Nat → Int32)) (x1 : Int32) : Option (Int32 × (Nat → Int64) × (Nat → Int32) × (Nat → Int32)) := gk_bd1 (m_X5_noFamily x1) (fun r4 => (if r4 = (0 : Int32) then gk_bd2 (gk_lp (fun z => m_X5_tabled_B15 f_now_n f_now_members f_now_kinds f_now_table_entries x1 z.1 z.2.1 z.2.2) gk_fu ((0 : Int64), (0 : Int32), f_scratch_entries)) (fun e10 e11 => gk_bd3 (m_X1_become f_now_members f_now_kinds x1 e10 (2 : Int32)) (fun r12 r13 r14 => some (r12, r13, r14, e11))) else some ((-2 : Int32), f_now_members, f_now_kinds, f_scratch_entries)))
set_option maxRecDepth 100000 in
set_option maxHeartbeats 4000000 in
theorem w_X5_tabled_0 {p : Program} {l : Launch} {e : Env} {s : State} {m : MethodId} {args : Array Value} {below : List Frame} {meth : Method} {c : Code} {G : gk_G} {A : Nat → Prop} {Q : State → Prop} {a0 a1 a2 a3 a4 a5 a6 a7 a13 a14 a15 a18 : Nat} (C : gk_C p s m args meth c cX5_tabled 5 (some .int) yX5_tabled wsX5_tabled true G A) {f_now_n : Int32} {f_now_members : (Nat → Int64)} {f_now_kinds : (Nat → Int32)} {f_now_table_entries : (Nat → Int32)} {f_scratch_entries : (Nat → Int32)} {x1 : Int32} {f_isKept : Int32} {yy : Int32 × (Nat → Int64) × (Nat → Int32) × (Nat → Int32)} (hm : m_X5_tabled_0 f_now_n f_now_members f_now_kinds f_now_table_entries f_scratch_entries x1 = some yy) (kr : ∀ (rv : Int32) (g_now_members : (Nat → Int64)) (g_now_kinds : (Nat → Int32)) (g_scratch_entries : (Nat → Int32)), yy = (rv, g_now_members, g_now_kinds, g_scratch_entries) → Q = MQ below (gk_Q G (some (.int rv)) [(a0, .inr (4, [.ref a1, .ref a7, .int f_isKept, .ref a13, .ref a15, .ref a18])), (a1, .inr (0, [.int f_now_n, .ref a2, .ref a3, .ref a4, .ref a5])), (a2, gk_J G 6 g_now_members), (a3, gk_I G 6 g_now_kinds), (a5, .inr (3, [.ref a6])), (a6, gk_I G 36 f_now_table_entries), (a13, .inr (3, [.ref a14])), (a14, gk_I G 36 g_scratch_entries)] A) args s 0 0 A) {H : Heap} {locs : List Loc} {ls : Array Slot} (h : gk_H G A s [(a0, .inr (4, [.ref a1, .ref a7, .int f_isKept, .ref a13, .ref a15, .ref a18])), (a1, .inr (0, [.int f_now_n, .ref a2, .ref a3, .ref a4, .ref a5])), (a2, gk_J G 6 f_now_members), (a3, gk_I G 6 f_now_kinds), (a5, .inr (3, [.ref a6])), (a6, gk_I G 36 f_now_table_entries), (a13, .inr (3, [.ref a14])), (a14, gk_I G 36 f_scratch_entries)] H locs) (hl : lv_has ls 5 [(0, .ref a0), (1, .int x1)]) : W p l e rm_X5_tabled s m args below meth c H locs 0 0 Q (F0 m 0 ls []) := by
  obtain ⟨hx, hb, hml, hr, hown, hnm, hts, hlk, hK, hSt, hA⟩ := id C
  obtain ⟨hP, hD, hS⟩ := h
  unfold m_X5_tabled_0 at hm
  refine lv_iload_n hx hb dX5_tabled_0 rfl (lv_at hl 1 rfl) ?_
  obtain ⟨r4, hq, hm⟩ := gk_bd1_some hm
  refine gk_callS (n := 1) (bytes := cX5_noFamily) (maxL := 1) (ret := (some .boolean)) [(a0, .inr (4, [.ref a1, .ref a7, .int f_isKept, .ref a13, .ref a15, .ref a18])), (a1, .inr (0, [.int f_now_n, .ref a2, .ref a3, .ref a4, .ref a5])), (a2, gk_J G 6 f_now_members), (a3, gk_I G 6 f_now_kinds), (a5, .inr (3, [.ref a6])), (a6, gk_I G 36 f_now_table_entries), (a13, .inr (3, [.ref a14])), (a14, gk_I G 36 f_scratch_entries)] [(a0, .inr (4, [.ref a1, .ref a7, .int f_isKept, .ref a13, .ref a15, .ref a18])), (a1, .inr (0, [.int f_now_n, .ref a2, .ref a3, .ref a4, .ref a5])), (a2, gk_J G 6 f_now_members), (a3, gk_I G 6 f_now_kinds), (a5, .inr (3, [.ref a6])), (a6, gk_I G 36 f_now_table_entries), (a13, .inr (3, [.ref a14])), (a14, gk_I G 36 f_scratch_entries)] [] C ⟨hP, hD, hS⟩ (c_X5_noFamily l G x1 hq) gX5_tabled_X5_noFamily dX5_tabled_1 hl.1 [] [0, 1, 2, 3, 4, 5, 6, 7] [0, 1, 2, 3, 4, 5, 6, 7] rfl ⟨rfl, rfl⟩ ⟨Nat.le_of_ble_eq_true rfl, Nat.le_of_ble_eq_true rfl⟩ ⟨by decide +kernel, by decide +kernel, by decide +kernel⟩ rfl (fun h => by cases h) (Nat.le_of_ble_eq_true rfl) rfl rfl rfl rfl (by decide) rfl rfl (fun H locs h => ?_)
  obtain ⟨hP, hD, hS⟩ := h
  refine lv_if_eq (tgt := 10) hx hb dX5_tabled_4 (by decide) (fun c5 => ?_) (fun c5 => ?_)
  · have hm := gk_it c5 hm
    refine lv_lconst (v := 0) hx hb dX5_tabled_10 (by decide) ?_
    refine lv_lstore_n (lv' := [(2, .long (0 : Int64)), (0, .ref a0), (1, .int x1)]) hx hb dX5_tabled_11 rfl hl (by decide) rfl (fun ls hl => ?_)
    refine lv_iconst (v := 0) hx hb dX5_tabled_12 (by decide) ?_
    refine lv_istore (lv' := [(4, .int (0 : Int32)), (2, .long (0 : Int64)), (0, .ref a0), (1, .int x1)]) hx hb dX5_tabled_13 hl (by decide) rfl (fun ls hl => ?_)
    obtain ⟨e10, e11, hq, hm⟩ := gk_bd2_some hm
    refine w_X5_tabled_L15 C hq (fun H locs ls h hl => ?_) ⟨hP, hD, hS⟩ (lv_sub hl [2, 3, 1, 0] rfl)
    obtain ⟨hP, hD, hS⟩ := h
    refine lv_aload_n hx hb dX5_tabled_51 rfl (lv_at hl 0 rfl) ?_
    refine va_get (D := G.1) (cl := vwCl) (own := RX5) (ref := "ExchangeFamilies") (ci := 4) (v := .ref a1) (C := RX5) (T := TX5) (N := 6) hx hb hts k_X5_tabled_0 hown hK hP 0 rfl rfl 0 (by decide) (hts _ k_X5_tabled_1) (fun _ h9 => h9) rfl dX5_tabled_52 ?_
    refine lv_iload_n hx hb dX5_tabled_55 rfl (lv_at hl 1 rfl) ?_
    refine lv_lload_n hx hb dX5_tabled_56 rfl (lv_at hl 2 rfl) ?_
    refine lv_iconst (v := 2) hx hb dX5_tabled_57 (by decide) ?_
    obtain ⟨r12, r13, r14, hq, hm⟩ := gk_bd3_some hm
    refine gk_callV (n := 3) (bytes := cX1_become) (maxL := 5) (ret := (some .int)) (Cn := RX1) (T := TX1) (N := 5) [(a0, .inr (4, [.ref a1, .ref a7, .int f_isKept, .ref a13, .ref a15, .ref a18])), (a5, .inr (3, [.ref a6])), (a6, gk_I G 36 f_now_table_entries), (a13, .inr (3, [.ref a14])), (a14, gk_I G 36 e11)] [(a0, .inr (4, [.ref a1, .ref a7, .int f_isKept, .ref a13, .ref a15, .ref a18])), (a1, .inr (0, [.int f_now_n, .ref a2, .ref a3, .ref a4, .ref a5])), (a2, gk_J G 6 r13), (a3, gk_I G 6 r14), (a5, .inr (3, [.ref a6])), (a6, gk_I G 36 f_now_table_entries), (a13, .inr (3, [.ref a14])), (a14, gk_I G 36 e11)] [] C ⟨hP, hD, hS⟩ (c_X1_become l G a1 a2 a3 a4 a5 f_now_n f_now_members f_now_kinds x1 e10 (2 : Int32) hq) gX5_tabled_X1_become dX5_tabled_58 hl.1 [1, 2, 3] [0, 4, 5, 6, 7] [0, 5, 6, 7, 1, 2, 3, 4] rfl rfl ⟨rfl, rfl⟩ ⟨Nat.le_of_ble_eq_true rfl, Nat.le_of_ble_eq_true rfl⟩ ⟨rfl, by decide +kernel, by decide +kernel, by decide +kernel⟩ rfl (fun h => by cases h) (Nat.le_of_ble_eq_true rfl) rfl rfl rfl rfl (by decide) rfl rfl (fun H locs h => ?_)
    obtain ⟨hP, hD, hS⟩ := h
    rw [kr _ _ _ _ (Option.some.inj hm).symm]
    exact gk_iret C ⟨hP, hD, hS⟩ dX5_tabled_61
  · have hm := gk_if c5 hm
    refine lv_bipush (v := -2) hx hb dX5_tabled_7 (by decide) ?_
    rw [kr _ _ _ _ (Option.some.inj hm).symm]
    exact gk_iret C ⟨hP, hD, hS⟩ dX5_tabled_9
def m_X5_tabled (f_now_n : Int32) (f_now_members : (Nat → Int64)) (f_now_kinds : (Nat → Int32)) (f_now_table_entries : (Nat → Int32)) (f_scratch_entries : (Nat → Int32)) (x1 : Int32) : Option (Int32 × (Nat → Int64) × (Nat → Int32) × (Nat → Int32)) := m_X5_tabled_0 f_now_n f_now_members f_now_kinds f_now_table_entries f_scratch_entries x1
theorem c_X5_tabled (l : Launch) (G : gk_G) (a0 a1 a2 a3 a4 a5 a6 a7 a13 a14 a15 a18 : Nat) (f_isKept : Int32) (f_now_n : Int32) (f_now_members : (Nat → Int64)) (f_now_kinds : (Nat → Int32)) (f_now_table_entries : (Nat → Int32)) (f_scratch_entries : (Nat → Int32)) (x1 : Int32) {rv : Int32} {g_now_members : (Nat → Int64)} {g_now_kinds : (Nat → Int32)} {g_scratch_entries : (Nat → Int32)} (hm : m_X5_tabled f_now_n f_now_members f_now_kinds f_now_table_entries f_scratch_entries x1 = some (rv, g_now_members, g_now_kinds, g_scratch_entries)) : gk_M l yX5_tabled wsX5_tabled rm_X5_tabled true G [.ref a0, .int x1] [(a0, .inr (4, [.ref a1, .ref a7, .int f_isKept, .ref a13, .ref a15, .ref a18])), (a1, .inr (0, [.int f_now_n, .ref a2, .ref a3, .ref a4, .ref a5])), (a2, gk_J G 6 f_now_members), (a3, gk_I G 6 f_now_kinds), (a5, .inr (3, [.ref a6])), (a6, gk_I G 36 f_now_table_entries), (a13, .inr (3, [.ref a14])), (a14, gk_I G 36 f_scratch_entries)] (some (.int rv)) [(a0, .inr (4, [.ref a1, .ref a7, .int f_isKept, .ref a13, .ref a15, .ref a18])), (a1, .inr (0, [.int f_now_n, .ref a2, .ref a3, .ref a4, .ref a5])), (a2, gk_J G 6 g_now_members), (a3, gk_I G 6 g_now_kinds), (a5, .inr (3, [.ref a6])), (a6, gk_I G 36 f_now_table_entries), (a13, .inr (3, [.ref a14])), (a14, gk_I G 36 g_scratch_entries)] :=
  gk_of (by decide) rfl (Nat.le_of_ble_eq_true rfl) (fun p e s m below meth c A ls C h hl => w_X5_tabled_0 C hm (fun v0 v1 v2 v3 ez => by cases ez; rfl) h (show lv_has ls 5 [(0, .ref a0), (1, .int x1)] from hl))

/-! ===== ExchangeFamilies.twist(III)I ===== -/
abbrev rm_X5_twist : Room := { frames := 5, cells := 0, slots := 0, locals := 243 }
theorem k_X5_twist_0 : ∀ w ∈ u_ws RX5 TX5 6, w ∈ wsX5_twist := by decide +kernel
theorem k_X5_twist_1 : Cond.fieldLink RX5 12 "ExchangeFamilies" "now" "LExchangeFamilies$Ground;" ∈ wsX5_twist := by decide +kernel
theorem k_X5_twist_2 : ∀ w ∈ u_ws RX1 TX1 5, w ∈ wsX5_twist := by decide +kernel
theorem k_X5_twist_3 : Cond.fieldLink RX5 61 "ExchangeFamilies$Ground" "members" "[J" ∈ wsX5_twist := by decide +kernel
def m_X5_twist_0 (f_now_n : Int32) (f_now_members : (Nat → Int64)) (f_now_kinds : (Nat → Int32)) (x1 : Int32) (x2 : Int32) (x3 : Int32) : Option (Int32 × (Nat → Int64) × (Nat → Int32)) := gk_bd1 (m_X5_noFamily x1) (fun r5 => (if r5 = (0 : Int32) then gk_bd1 (m_X5_noSet f_now_n x2) (fun r7 => (if r7 = (0 : Int32) then gk_bd1 (m_X5_noFamily x3) (fun r9 => (if r9 = (0 : Int32) then gk_bd1 (m_X1_isMissing f_now_kinds x1) (fun r11 => (if r11 = (0 : Int32) then gk_ix x1 6 (gk_bd1 (m_X0_twisted (f_now_members x1.toNatClampNeg) x2) (fun r13 => gk_bd3 (m_X1_become f_now_members f_now_kinds x3 r13 (3 : Int32)) (fun r14 r15 r16 => some (r14, r15, r16)))) else some ((-11 : Int32), f_now_members, f_now_kinds))) else some ((-2 : Int32), f_now_members, f_now_kinds))) else some ((-2 : Int32), f_now_members, f_now_kinds))) else some ((-2 : Int32), f_now_members, f_now_kinds)))
set_option maxRecDepth 100000 in
set_option maxHeartbeats 4000000 in
theorem w_X5_twist_0 {p : Program} {l : Launch} {e : Env} {s : State} {m : MethodId} {args : Array Value} {below : List Frame} {meth : Method} {c : Code} {G : gk_G} {A : Nat → Prop} {Q : State → Prop} {a0 a1 a2 a3 a4 a5 a7 a13 a15 a18 : Nat} (C : gk_C p s m args meth c cX5_twist 4 (some .int) yX5_twist wsX5_twist true G A) {f_now_n : Int32} {f_now_members : (Nat → Int64)} {f_now_kinds : (Nat → Int32)} {x1 : Int32} {x2 : Int32} {x3 : Int32} {f_isKept : Int32} {yy : Int32 × (Nat → Int64) × (Nat → Int32)} (hm : m_X5_twist_0 f_now_n f_now_members f_now_kinds x1 x2 x3 = some yy) (kr : ∀ (rv : Int32) (g_now_members : (Nat → Int64)) (g_now_kinds : (Nat → Int32)), yy = (rv, g_now_members, g_now_kinds) → Q = MQ below (gk_Q G (some (.int rv)) [(a0, .inr (4, [.ref a1, .ref a7, .int f_isKept, .ref a13, .ref a15, .ref a18])), (a1, .inr (0, [.int f_now_n, .ref a2, .ref a3, .ref a4, .ref a5])), (a2, gk_J G 6 g_now_members), (a3, gk_I G 6 g_now_kinds)] A) args s 0 0 A) {H : Heap} {locs : List Loc} {ls : Array Slot} (h : gk_H G A s [(a0, .inr (4, [.ref a1, .ref a7, .int f_isKept, .ref a13, .ref a15, .ref a18])), (a1, .inr (0, [.int f_now_n, .ref a2, .ref a3, .ref a4, .ref a5])), (a2, gk_J G 6 f_now_members), (a3, gk_I G 6 f_now_kinds)] H locs) (hl : lv_has ls 4 [(0, .ref a0), (1, .int x1), (2, .int x2), (3, .int x3)]) : W p l e rm_X5_twist s m args below meth c H locs 0 0 Q (F0 m 0 ls []) := by
  obtain ⟨hx, hb, hml, hr, hown, hnm, hts, hlk, hK, hSt, hA⟩ := id C
  obtain ⟨hP, hD, hS⟩ := h
  unfold m_X5_twist_0 at hm
  refine lv_iload_n hx hb dX5_twist_0 rfl (lv_at hl 1 rfl) ?_
  obtain ⟨r5, hq, hm⟩ := gk_bd1_some hm
  refine gk_callS (n := 1) (bytes := cX5_noFamily) (maxL := 1) (ret := (some .boolean)) [(a0, .inr (4, [.ref a1, .ref a7, .int f_isKept, .ref a13, .ref a15, .ref a18])), (a1, .inr (0, [.int f_now_n, .ref a2, .ref a3, .ref a4, .ref a5])), (a2, gk_J G 6 f_now_members), (a3, gk_I G 6 f_now_kinds)] [(a0, .inr (4, [.ref a1, .ref a7, .int f_isKept, .ref a13, .ref a15, .ref a18])), (a1, .inr (0, [.int f_now_n, .ref a2, .ref a3, .ref a4, .ref a5])), (a2, gk_J G 6 f_now_members), (a3, gk_I G 6 f_now_kinds)] [] C ⟨hP, hD, hS⟩ (c_X5_noFamily l G x1 hq) gX5_twist_X5_noFamily dX5_twist_1 hl.1 [] [0, 1, 2, 3] [0, 1, 2, 3] rfl ⟨rfl, rfl⟩ ⟨Nat.le_of_ble_eq_true rfl, Nat.le_of_ble_eq_true rfl⟩ ⟨by decide +kernel, by decide +kernel, by decide +kernel⟩ rfl (fun h => by cases h) (Nat.le_of_ble_eq_true rfl) rfl rfl rfl rfl (by decide) rfl rfl (fun H locs h => ?_)
  obtain ⟨hP, hD, hS⟩ := h
  refine lv_if_ne (tgt := 22) hx hb dX5_twist_4 (by decide) (fun c6 => ?_) (fun c6 => ?_)
  · have hm := gk_if c6 hm
    refine lv_bipush (v := -2) hx hb dX5_twist_22 (by decide) ?_
    rw [kr _ _ _ (Option.some.inj hm).symm]
    exact gk_iret C ⟨hP, hD, hS⟩ dX5_twist_24
  · have hm := gk_it c6 hm
    refine lv_aload_n hx hb dX5_twist_7 rfl (lv_at hl 0 rfl) ?_
    refine lv_iload_n hx hb dX5_twist_8 rfl (lv_at hl 2 rfl) ?_
    obtain ⟨r7, hq, hm⟩ := gk_bd1_some hm
    refine gk_callV (n := 1) (bytes := cX5_noSet) (maxL := 2) (ret := (some .boolean)) (Cn := RX5) (T := TX5) (N := 6) [(a2, gk_J G 6 f_now_members), (a3, gk_I G 6 f_now_kinds)] [(a0, .inr (4, [.ref a1, .ref a7, .int f_isKept, .ref a13, .ref a15, .ref a18])), (a1, .inr (0, [.int f_now_n, .ref a2, .ref a3, .ref a4, .ref a5])), (a2, gk_J G 6 f_now_members), (a3, gk_I G 6 f_now_kinds)] [] C ⟨hP, hD, hS⟩ (c_X5_noSet l G a0 a1 a2 a3 a4 a5 a7 a13 a15 a18 f_isKept f_now_n x2 hq) gX5_twist_X5_noSet dX5_twist_9 hl.1 [0, 1] [2, 3] [2, 3, 0, 1] rfl rfl ⟨rfl, rfl⟩ ⟨Nat.le_of_ble_eq_true rfl, Nat.le_of_ble_eq_true rfl⟩ ⟨rfl, by decide +kernel, by decide +kernel, by decide +kernel⟩ rfl (fun h => by cases h) (Nat.le_of_ble_eq_true rfl) rfl rfl rfl rfl (by decide) rfl rfl (fun H locs h => ?_)
    obtain ⟨hP, hD, hS⟩ := h
    refine lv_if_ne (tgt := 22) hx hb dX5_twist_12 (by decide) (fun c8 => ?_) (fun c8 => ?_)
    · have hm := gk_if c8 hm
      refine lv_bipush (v := -2) hx hb dX5_twist_22 (by decide) ?_
      rw [kr _ _ _ (Option.some.inj hm).symm]
      exact gk_iret C ⟨hP, hD, hS⟩ dX5_twist_24
    · have hm := gk_it c8 hm
      refine lv_iload_n hx hb dX5_twist_15 rfl (lv_at hl 3 rfl) ?_
      obtain ⟨r9, hq, hm⟩ := gk_bd1_some hm
      refine gk_callS (n := 1) (bytes := cX5_noFamily) (maxL := 1) (ret := (some .boolean)) [(a0, .inr (4, [.ref a1, .ref a7, .int f_isKept, .ref a13, .ref a15, .ref a18])), (a1, .inr (0, [.int f_now_n, .ref a2, .ref a3, .ref a4, .ref a5])), (a2, gk_J G 6 f_now_members), (a3, gk_I G 6 f_now_kinds)] [(a0, .inr (4, [.ref a1, .ref a7, .int f_isKept, .ref a13, .ref a15, .ref a18])), (a1, .inr (0, [.int f_now_n, .ref a2, .ref a3, .ref a4, .ref a5])), (a2, gk_J G 6 f_now_members), (a3, gk_I G 6 f_now_kinds)] [] C ⟨hP, hD, hS⟩ (c_X5_noFamily l G x3 hq) gX5_twist_X5_noFamily dX5_twist_16 hl.1 [] [0, 1, 2, 3] [0, 1, 2, 3] rfl ⟨rfl, rfl⟩ ⟨Nat.le_of_ble_eq_true rfl, Nat.le_of_ble_eq_true rfl⟩ ⟨by decide +kernel, by decide +kernel, by decide +kernel⟩ rfl (fun h => by cases h) (Nat.le_of_ble_eq_true rfl) rfl rfl rfl rfl (by decide) rfl rfl (fun H locs h => ?_)
      obtain ⟨hP, hD, hS⟩ := h
      refine lv_if_eq (tgt := 25) hx hb dX5_twist_19 (by decide) (fun c10 => ?_) (fun c10 => ?_)
      · have hm := gk_it c10 hm
        refine lv_aload_n hx hb dX5_twist_25 rfl (lv_at hl 0 rfl) ?_
        refine va_get (D := G.1) (cl := vwCl) (own := RX5) (ref := "ExchangeFamilies") (ci := 4) (v := .ref a1) (C := RX5) (T := TX5) (N := 6) hx hb hts k_X5_twist_0 hown hK hP 0 rfl rfl 0 (by decide) (hts _ k_X5_twist_1) (fun _ h9 => h9) rfl dX5_twist_26 ?_
        refine lv_iload_n hx hb dX5_twist_29 rfl (lv_at hl 1 rfl) ?_
        obtain ⟨r11, hq, hm⟩ := gk_bd1_some hm
        refine gk_callV (n := 1) (bytes := cX1_isMissing) (maxL := 2) (ret := (some .boolean)) (Cn := RX1) (T := TX1) (N := 5) [(a0, .inr (4, [.ref a1, .ref a7, .int f_isKept, .ref a13, .ref a15, .ref a18])), (a2, gk_J G 6 f_now_members)] [(a0, .inr (4, [.ref a1, .ref a7, .int f_isKept, .ref a13, .ref a15, .ref a18])), (a1, .inr (0, [.int f_now_n, .ref a2, .ref a3, .ref a4, .ref a5])), (a2, gk_J G 6 f_now_members), (a3, gk_I G 6 f_now_kinds)] [] C ⟨hP, hD, hS⟩ (c_X1_isMissing l G a1 a2 a3 a4 a5 f_now_n f_now_kinds x1 hq) gX5_twist_X1_isMissing dX5_twist_30 hl.1 [1, 3] [0, 2] [0, 2, 1, 3] rfl rfl ⟨rfl, rfl⟩ ⟨Nat.le_of_ble_eq_true rfl, Nat.le_of_ble_eq_true rfl⟩ ⟨rfl, by decide +kernel, by decide +kernel, by decide +kernel⟩ rfl (fun h => by cases h) (Nat.le_of_ble_eq_true rfl) rfl rfl rfl rfl (by decide) rfl rfl (fun H locs h => ?_)
        obtain ⟨hP, hD, hS⟩ := h
        refine lv_if_eq (tgt := 39) hx hb dX5_twist_33 (by decide) (fun c12 => ?_) (fun c12 => ?_)
        · have hm := gk_it c12 hm
          refine lv_aload_n hx hb dX5_twist_39 rfl (lv_at hl 0 rfl) ?_
          refine va_get (D := G.1) (cl := vwCl) (own := RX5) (ref := "ExchangeFamilies") (ci := 4) (v := .ref a1) (C := RX5) (T := TX5) (N := 6) hx hb hts k_X5_twist_0 hown hK hP 0 rfl rfl 0 (by decide) (hts _ k_X5_twist_1) (fun _ h9 => h9) rfl dX5_twist_40 ?_
          refine lv_iload_n hx hb dX5_twist_43 rfl (lv_at hl 3 rfl) ?_
          refine lv_aload_n hx hb dX5_twist_44 rfl (lv_at hl 0 rfl) ?_
          refine va_get (D := G.1) (cl := vwCl) (own := RX5) (ref := "ExchangeFamilies") (ci := 4) (v := .ref a1) (C := RX5) (T := TX5) (N := 6) hx hb hts k_X5_twist_0 hown hK hP 0 rfl rfl 0 (by decide) (hts _ k_X5_twist_1) (fun _ h9 => h9) rfl dX5_twist_45 ?_
          refine va_get (D := G.1) (cl := vwCl) (own := RX5) (ref := "ExchangeFamilies$Ground") (ci := 0) (v := .ref a2) (C := RX1) (T := TX1) (N := 5) hx hb hts k_X5_twist_2 hown hK hP 1 rfl rfl 1 (by decide) (hts _ k_X5_twist_3) (fun _ h9 => h9) rfl dX5_twist_48 ?_
          refine lv_iload_n hx hb dX5_twist_51 rfl (lv_at hl 1 rfl) ?_
          obtain ⟨hi, hm⟩ := gk_ix_some hm
          refine va_lald hx hb hK hP 2 1 rfl rfl hi dX5_twist_52 ?_
          refine lv_iload_n hx hb dX5_twist_53 rfl (lv_at hl 2 rfl) ?_
          obtain ⟨r13, hq, hm⟩ := gk_bd1_some hm
          refine gk_callS (n := 2) (bytes := cX0_twisted) (maxL := 6) (ret := (some .long)) [(a0, .inr (4, [.ref a1, .ref a7, .int f_isKept, .ref a13, .ref a15, .ref a18])), (a1, .inr (0, [.int f_now_n, .ref a2, .ref a3, .ref a4, .ref a5])), (a2, gk_J G 6 f_now_members), (a3, gk_I G 6 f_now_kinds)] [(a0, .inr (4, [.ref a1, .ref a7, .int f_isKept, .ref a13, .ref a15, .ref a18])), (a1, .inr (0, [.int f_now_n, .ref a2, .ref a3, .ref a4, .ref a5])), (a2, gk_J G 6 f_now_members), (a3, gk_I G 6 f_now_kinds)] [.int x3, .ref a1] C ⟨hP, hD, hS⟩ (c_X0_twisted l G (f_now_members x1.toNatClampNeg) x2 hq) gX5_twist_X0_twisted dX5_twist_54 hl.1 [] [0, 1, 2, 3] [0, 1, 2, 3] rfl ⟨rfl, rfl⟩ ⟨Nat.le_of_ble_eq_true rfl, Nat.le_of_ble_eq_true rfl⟩ ⟨by decide +kernel, by decide +kernel, by decide +kernel⟩ rfl (fun h => h) (Nat.le_of_ble_eq_true rfl) rfl rfl rfl rfl (by decide) rfl rfl (fun H locs h => ?_)
          obtain ⟨hP, hD, hS⟩ := h
          refine lv_iconst (v := 3) hx hb dX5_twist_57 (by decide) ?_
          obtain ⟨r14, r15, r16, hq, hm⟩ := gk_bd3_some hm
          refine gk_callV (n := 3) (bytes := cX1_become) (maxL := 5) (ret := (some .int)) (Cn := RX1) (T := TX1) (N := 5) [(a0, .inr (4, [.ref a1, .ref a7, .int f_isKept, .ref a13, .ref a15, .ref a18]))] [(a0, .inr (4, [.ref a1, .ref a7, .int f_isKept, .ref a13, .ref a15, .ref a18])), (a1, .inr (0, [.int f_now_n, .ref a2, .ref a3, .ref a4, .ref a5])), (a2, gk_J G 6 r15), (a3, gk_I G 6 r16)] [] C ⟨hP, hD, hS⟩ (c_X1_become l G a1 a2 a3 a4 a5 f_now_n f_now_members f_now_kinds x3 r13 (3 : Int32) hq) gX5_twist_X1_become dX5_twist_58 hl.1 [1, 2, 3] [0] [0, 1, 2, 3] rfl rfl ⟨rfl, rfl⟩ ⟨Nat.le_of_ble_eq_true rfl, Nat.le_of_ble_eq_true rfl⟩ ⟨rfl, by decide +kernel, by decide +kernel, by decide +kernel⟩ rfl (fun h => by cases h) (Nat.le_of_ble_eq_true rfl) rfl rfl rfl rfl (by decide) rfl rfl (fun H locs h => ?_)
          obtain ⟨hP, hD, hS⟩ := h
          rw [kr _ _ _ (Option.some.inj hm).symm]
          exact gk_iret C ⟨hP, hD, hS⟩ dX5_twist_61
        · have hm := gk_if c12 hm
          refine lv_bipush (v := -11) hx hb dX5_twist_36 (by decide) ?_
          rw [kr _ _ _ (Option.some.inj hm).symm]
          exact gk_iret C ⟨hP, hD, hS⟩ dX5_twist_38
      · have hm := gk_if c10 hm
        refine lv_bipush (v := -2) hx hb dX5_twist_22 (by decide) ?_
        rw [kr _ _ _ (Option.some.inj hm).symm]
        exact gk_iret C ⟨hP, hD, hS⟩ dX5_twist_24
def m_X5_twist (f_now_n : Int32) (f_now_members : (Nat → Int64)) (f_now_kinds : (Nat → Int32)) (x1 : Int32) (x2 : Int32) (x3 : Int32) : Option (Int32 × (Nat → Int64) × (Nat → Int32)) := m_X5_twist_0 f_now_n f_now_members f_now_kinds x1 x2 x3
theorem c_X5_twist (l : Launch) (G : gk_G) (a0 a1 a2 a3 a4 a5 a7 a13 a15 a18 : Nat) (f_isKept : Int32) (f_now_n : Int32) (f_now_members : (Nat → Int64)) (f_now_kinds : (Nat → Int32)) (x1 : Int32) (x2 : Int32) (x3 : Int32) {rv : Int32} {g_now_members : (Nat → Int64)} {g_now_kinds : (Nat → Int32)} (hm : m_X5_twist f_now_n f_now_members f_now_kinds x1 x2 x3 = some (rv, g_now_members, g_now_kinds)) : gk_M l yX5_twist wsX5_twist rm_X5_twist true G [.ref a0, .int x1, .int x2, .int x3] [(a0, .inr (4, [.ref a1, .ref a7, .int f_isKept, .ref a13, .ref a15, .ref a18])), (a1, .inr (0, [.int f_now_n, .ref a2, .ref a3, .ref a4, .ref a5])), (a2, gk_J G 6 f_now_members), (a3, gk_I G 6 f_now_kinds)] (some (.int rv)) [(a0, .inr (4, [.ref a1, .ref a7, .int f_isKept, .ref a13, .ref a15, .ref a18])), (a1, .inr (0, [.int f_now_n, .ref a2, .ref a3, .ref a4, .ref a5])), (a2, gk_J G 6 g_now_members), (a3, gk_I G 6 g_now_kinds)] :=
  gk_of (by decide) rfl (Nat.le_of_ble_eq_true rfl) (fun p e s m below meth c A ls C h hl => w_X5_twist_0 C hm (fun v0 v1 v2 ez => by cases ez; rfl) h (show lv_has ls 4 [(0, .ref a0), (1, .int x1), (2, .int x2), (3, .int x3)] from hl))

/-! ===== ExchangeFamilies.dual(II)I ===== -/
abbrev rm_X5_dual : Room := { frames := 5, cells := 0, slots := 0, locals := 243 }
theorem k_X5_dual_0 : ∀ w ∈ u_ws RX5 TX5 6, w ∈ wsX5_dual := by decide +kernel
theorem k_X5_dual_1 : Cond.fieldLink RX5 12 "ExchangeFamilies" "now" "LExchangeFamilies$Ground;" ∈ wsX5_dual := by decide +kernel
theorem k_X5_dual_2 : ∀ w ∈ u_ws RX1 TX1 5, w ∈ wsX5_dual := by decide +kernel
theorem k_X5_dual_3 : Cond.fieldLink RX5 46 "ExchangeFamilies$Ground" "n" "I" ∈ wsX5_dual := by decide +kernel
theorem k_X5_dual_4 : Cond.fieldLink RX5 61 "ExchangeFamilies$Ground" "members" "[J" ∈ wsX5_dual := by decide +kernel
def m_X5_dual_0 (f_now_n : Int32) (f_now_members : (Nat → Int64)) (f_now_kinds : (Nat → Int32)) (x1 : Int32) (x2 : Int32) : Option (Int32 × (Nat → Int64) × (Nat → Int32)) := gk_bd1 (m_X5_noFamily x1) (fun r4 => (if r4 = (0 : Int32) then gk_bd1 (m_X5_noFamily x2) (fun r6 => (if r6 = (0 : Int32) then gk_bd1 (m_X1_isMissing f_now_kinds x1) (fun r8 => (if r8 = (0 : Int32) then gk_ix x1 6 (gk_bd1 (m_X0_twisted (f_now_members x1.toNatClampNeg) (((1 : Int32) <<< (f_now_n &&& 31)) - (1 : Int32))) (fun r10 => gk_bd3 (m_X1_become f_now_members f_now_kinds x2 r10 (5 : Int32)) (fun r11 r12 r13 => some (r11, r12, r13)))) else some ((-11 : Int32), f_now_members, f_now_kinds))) else some ((-2 : Int32), f_now_members, f_now_kinds))) else some ((-2 : Int32), f_now_members, f_now_kinds)))
set_option maxRecDepth 100000 in
set_option maxHeartbeats 4000000 in
theorem w_X5_dual_0 {p : Program} {l : Launch} {e : Env} {s : State} {m : MethodId} {args : Array Value} {below : List Frame} {meth : Method} {c : Code} {G : gk_G} {A : Nat → Prop} {Q : State → Prop} {a0 a1 a2 a3 a4 a5 a7 a13 a15 a18 : Nat} (C : gk_C p s m args meth c cX5_dual 4 (some .int) yX5_dual wsX5_dual true G A) {f_now_n : Int32} {f_now_members : (Nat → Int64)} {f_now_kinds : (Nat → Int32)} {x1 : Int32} {x2 : Int32} {f_isKept : Int32} {yy : Int32 × (Nat → Int64) × (Nat → Int32)} (hm : m_X5_dual_0 f_now_n f_now_members f_now_kinds x1 x2 = some yy) (kr : ∀ (rv : Int32) (g_now_members : (Nat → Int64)) (g_now_kinds : (Nat → Int32)), yy = (rv, g_now_members, g_now_kinds) → Q = MQ below (gk_Q G (some (.int rv)) [(a0, .inr (4, [.ref a1, .ref a7, .int f_isKept, .ref a13, .ref a15, .ref a18])), (a1, .inr (0, [.int f_now_n, .ref a2, .ref a3, .ref a4, .ref a5])), (a2, gk_J G 6 g_now_members), (a3, gk_I G 6 g_now_kinds)] A) args s 0 0 A) {H : Heap} {locs : List Loc} {ls : Array Slot} (h : gk_H G A s [(a0, .inr (4, [.ref a1, .ref a7, .int f_isKept, .ref a13, .ref a15, .ref a18])), (a1, .inr (0, [.int f_now_n, .ref a2, .ref a3, .ref a4, .ref a5])), (a2, gk_J G 6 f_now_members), (a3, gk_I G 6 f_now_kinds)] H locs) (hl : lv_has ls 4 [(0, .ref a0), (1, .int x1), (2, .int x2)]) : W p l e rm_X5_dual s m args below meth c H locs 0 0 Q (F0 m 0 ls []) := by
  obtain ⟨hx, hb, hml, hr, hown, hnm, hts, hlk, hK, hSt, hA⟩ := id C
  obtain ⟨hP, hD, hS⟩ := h
  unfold m_X5_dual_0 at hm
  refine lv_iload_n hx hb dX5_dual_0 rfl (lv_at hl 1 rfl) ?_
  obtain ⟨r4, hq, hm⟩ := gk_bd1_some hm
  refine gk_callS (n := 1) (bytes := cX5_noFamily) (maxL := 1) (ret := (some .boolean)) [(a0, .inr (4, [.ref a1, .ref a7, .int f_isKept, .ref a13, .ref a15, .ref a18])), (a1, .inr (0, [.int f_now_n, .ref a2, .ref a3, .ref a4, .ref a5])), (a2, gk_J G 6 f_now_members), (a3, gk_I G 6 f_now_kinds)] [(a0, .inr (4, [.ref a1, .ref a7, .int f_isKept, .ref a13, .ref a15, .ref a18])), (a1, .inr (0, [.int f_now_n, .ref a2, .ref a3, .ref a4, .ref a5])), (a2, gk_J G 6 f_now_members), (a3, gk_I G 6 f_now_kinds)] [] C ⟨hP, hD, hS⟩ (c_X5_noFamily l G x1 hq) gX5_dual_X5_noFamily dX5_dual_1 hl.1 [] [0, 1, 2, 3] [0, 1, 2, 3] rfl ⟨rfl, rfl⟩ ⟨Nat.le_of_ble_eq_true rfl, Nat.le_of_ble_eq_true rfl⟩ ⟨by decide +kernel, by decide +kernel, by decide +kernel⟩ rfl (fun h => by cases h) (Nat.le_of_ble_eq_true rfl) rfl rfl rfl rfl (by decide) rfl rfl (fun H locs h => ?_)
  obtain ⟨hP, hD, hS⟩ := h
  refine lv_if_ne (tgt := 14) hx hb dX5_dual_4 (by decide) (fun c5 => ?_) (fun c5 => ?_)
  · have hm := gk_if c5 hm
    refine lv_bipush (v := -2) hx hb dX5_dual_14 (by decide) ?_
    rw [kr _ _ _ (Option.some.inj hm).symm]
    exact gk_iret C ⟨hP, hD, hS⟩ dX5_dual_16
  · have hm := gk_it c5 hm
    refine lv_iload_n hx hb dX5_dual_7 rfl (lv_at hl 2 rfl) ?_
    obtain ⟨r6, hq, hm⟩ := gk_bd1_some hm
    refine gk_callS (n := 1) (bytes := cX5_noFamily) (maxL := 1) (ret := (some .boolean)) [(a0, .inr (4, [.ref a1, .ref a7, .int f_isKept, .ref a13, .ref a15, .ref a18])), (a1, .inr (0, [.int f_now_n, .ref a2, .ref a3, .ref a4, .ref a5])), (a2, gk_J G 6 f_now_members), (a3, gk_I G 6 f_now_kinds)] [(a0, .inr (4, [.ref a1, .ref a7, .int f_isKept, .ref a13, .ref a15, .ref a18])), (a1, .inr (0, [.int f_now_n, .ref a2, .ref a3, .ref a4, .ref a5])), (a2, gk_J G 6 f_now_members), (a3, gk_I G 6 f_now_kinds)] [] C ⟨hP, hD, hS⟩ (c_X5_noFamily l G x2 hq) gX5_dual_X5_noFamily dX5_dual_8 hl.1 [] [0, 1, 2, 3] [0, 1, 2, 3] rfl ⟨rfl, rfl⟩ ⟨Nat.le_of_ble_eq_true rfl, Nat.le_of_ble_eq_true rfl⟩ ⟨by decide +kernel, by decide +kernel, by decide +kernel⟩ rfl (fun h => by cases h) (Nat.le_of_ble_eq_true rfl) rfl rfl rfl rfl (by decide) rfl rfl (fun H locs h => ?_)
    obtain ⟨hP, hD, hS⟩ := h
    refine lv_if_eq (tgt := 17) hx hb dX5_dual_11 (by decide) (fun c7 => ?_) (fun c7 => ?_)
    · have hm := gk_it c7 hm
      refine lv_aload_n hx hb dX5_dual_17 rfl (lv_at hl 0 rfl) ?_
      refine va_get (D := G.1) (cl := vwCl) (own := RX5) (ref := "ExchangeFamilies") (ci := 4) (v := .ref a1) (C := RX5) (T := TX5) (N := 6) hx hb hts k_X5_dual_0 hown hK hP 0 rfl rfl 0 (by decide) (hts _ k_X5_dual_1) (fun _ h9 => h9) rfl dX5_dual_18 ?_
      refine lv_iload_n hx hb dX5_dual_21 rfl (lv_at hl 1 rfl) ?_
      obtain ⟨r8, hq, hm⟩ := gk_bd1_some hm
      refine gk_callV (n := 1) (bytes := cX1_isMissing) (maxL := 2) (ret := (some .boolean)) (Cn := RX1) (T := TX1) (N := 5) [(a0, .inr (4, [.ref a1, .ref a7, .int f_isKept, .ref a13, .ref a15, .ref a18])), (a2, gk_J G 6 f_now_members)] [(a0, .inr (4, [.ref a1, .ref a7, .int f_isKept, .ref a13, .ref a15, .ref a18])), (a1, .inr (0, [.int f_now_n, .ref a2, .ref a3, .ref a4, .ref a5])), (a2, gk_J G 6 f_now_members), (a3, gk_I G 6 f_now_kinds)] [] C ⟨hP, hD, hS⟩ (c_X1_isMissing l G a1 a2 a3 a4 a5 f_now_n f_now_kinds x1 hq) gX5_dual_X1_isMissing dX5_dual_22 hl.1 [1, 3] [0, 2] [0, 2, 1, 3] rfl rfl ⟨rfl, rfl⟩ ⟨Nat.le_of_ble_eq_true rfl, Nat.le_of_ble_eq_true rfl⟩ ⟨rfl, by decide +kernel, by decide +kernel, by decide +kernel⟩ rfl (fun h => by cases h) (Nat.le_of_ble_eq_true rfl) rfl rfl rfl rfl (by decide) rfl rfl (fun H locs h => ?_)
      obtain ⟨hP, hD, hS⟩ := h
      refine lv_if_eq (tgt := 31) hx hb dX5_dual_25 (by decide) (fun c9 => ?_) (fun c9 => ?_)
      · have hm := gk_it c9 hm
        refine lv_iconst (v := 1) hx hb dX5_dual_31 (by decide) ?_
        refine lv_aload_n hx hb dX5_dual_32 rfl (lv_at hl 0 rfl) ?_
        refine va_get (D := G.1) (cl := vwCl) (own := RX5) (ref := "ExchangeFamilies") (ci := 4) (v := .ref a1) (C := RX5) (T := TX5) (N := 6) hx hb hts k_X5_dual_0 hown hK hP 0 rfl rfl 0 (by decide) (hts _ k_X5_dual_1) (fun _ h9 => h9) rfl dX5_dual_33 ?_
        refine va_get (D := G.1) (cl := vwCl) (own := RX5) (ref := "ExchangeFamilies$Ground") (ci := 0) (v := .int f_now_n) (C := RX1) (T := TX1) (N := 5) hx hb hts k_X5_dual_2 hown hK hP 1 rfl rfl 0 (by decide) (hts _ k_X5_dual_3) (fun _ h9 => h9) rfl dX5_dual_36 ?_
        refine lv_ishl hx hb dX5_dual_39 ?_
        refine lv_iconst (v := 1) hx hb dX5_dual_40 (by decide) ?_
        refine lv_isub hx hb dX5_dual_41 ?_
        refine lv_istore_n (lv' := [(3, .int (((1 : Int32) <<< (f_now_n &&& 31)) - (1 : Int32))), (0, .ref a0), (1, .int x1), (2, .int x2)]) hx hb dX5_dual_42 rfl hl (by decide) rfl (fun ls hl => ?_)
        refine lv_aload_n hx hb dX5_dual_43 rfl (lv_at hl 1 rfl) ?_
        refine va_get (D := G.1) (cl := vwCl) (own := RX5) (ref := "ExchangeFamilies") (ci := 4) (v := .ref a1) (C := RX5) (T := TX5) (N := 6) hx hb hts k_X5_dual_0 hown hK hP 0 rfl rfl 0 (by decide) (hts _ k_X5_dual_1) (fun _ h9 => h9) rfl dX5_dual_44 ?_
        refine lv_iload_n hx hb dX5_dual_47 rfl (lv_at hl 3 rfl) ?_
        refine lv_aload_n hx hb dX5_dual_48 rfl (lv_at hl 1 rfl) ?_
        refine va_get (D := G.1) (cl := vwCl) (own := RX5) (ref := "ExchangeFamilies") (ci := 4) (v := .ref a1) (C := RX5) (T := TX5) (N := 6) hx hb hts k_X5_dual_0 hown hK hP 0 rfl rfl 0 (by decide) (hts _ k_X5_dual_1) (fun _ h9 => h9) rfl dX5_dual_49 ?_
        refine va_get (D := G.1) (cl := vwCl) (own := RX5) (ref := "ExchangeFamilies$Ground") (ci := 0) (v := .ref a2) (C := RX1) (T := TX1) (N := 5) hx hb hts k_X5_dual_2 hown hK hP 1 rfl rfl 1 (by decide) (hts _ k_X5_dual_4) (fun _ h9 => h9) rfl dX5_dual_52 ?_
        refine lv_iload_n hx hb dX5_dual_55 rfl (lv_at hl 2 rfl) ?_
        obtain ⟨hi, hm⟩ := gk_ix_some hm
        refine va_lald hx hb hK hP 2 1 rfl rfl hi dX5_dual_56 ?_
        refine lv_iload_n hx hb dX5_dual_57 rfl (lv_at hl 0 rfl) ?_
        obtain ⟨r10, hq, hm⟩ := gk_bd1_some hm
        refine gk_callS (n := 2) (bytes := cX0_twisted) (maxL := 6) (ret := (some .long)) [(a0, .inr (4, [.ref a1, .ref a7, .int f_isKept, .ref a13, .ref a15, .ref a18])), (a1, .inr (0, [.int f_now_n, .ref a2, .ref a3, .ref a4, .ref a5])), (a2, gk_J G 6 f_now_members), (a3, gk_I G 6 f_now_kinds)] [(a0, .inr (4, [.ref a1, .ref a7, .int f_isKept, .ref a13, .ref a15, .ref a18])), (a1, .inr (0, [.int f_now_n, .ref a2, .ref a3, .ref a4, .ref a5])), (a2, gk_J G 6 f_now_members), (a3, gk_I G 6 f_now_kinds)] [.int x2, .ref a1] C ⟨hP, hD, hS⟩ (c_X0_twisted l G (f_now_members x1.toNatClampNeg) (((1 : Int32) <<< (f_now_n &&& 31)) - (1 : Int32)) hq) gX5_dual_X0_twisted dX5_dual_58 hl.1 [] [0, 1, 2, 3] [0, 1, 2, 3] rfl ⟨rfl, rfl⟩ ⟨Nat.le_of_ble_eq_true rfl, Nat.le_of_ble_eq_true rfl⟩ ⟨by decide +kernel, by decide +kernel, by decide +kernel⟩ rfl (fun h => h) (Nat.le_of_ble_eq_true rfl) rfl rfl rfl rfl (by decide) rfl rfl (fun H locs h => ?_)
        obtain ⟨hP, hD, hS⟩ := h
        refine lv_iconst (v := 5) hx hb dX5_dual_61 (by decide) ?_
        obtain ⟨r11, r12, r13, hq, hm⟩ := gk_bd3_some hm
        refine gk_callV (n := 3) (bytes := cX1_become) (maxL := 5) (ret := (some .int)) (Cn := RX1) (T := TX1) (N := 5) [(a0, .inr (4, [.ref a1, .ref a7, .int f_isKept, .ref a13, .ref a15, .ref a18]))] [(a0, .inr (4, [.ref a1, .ref a7, .int f_isKept, .ref a13, .ref a15, .ref a18])), (a1, .inr (0, [.int f_now_n, .ref a2, .ref a3, .ref a4, .ref a5])), (a2, gk_J G 6 r12), (a3, gk_I G 6 r13)] [] C ⟨hP, hD, hS⟩ (c_X1_become l G a1 a2 a3 a4 a5 f_now_n f_now_members f_now_kinds x2 r10 (5 : Int32) hq) gX5_dual_X1_become dX5_dual_62 hl.1 [1, 2, 3] [0] [0, 1, 2, 3] rfl rfl ⟨rfl, rfl⟩ ⟨Nat.le_of_ble_eq_true rfl, Nat.le_of_ble_eq_true rfl⟩ ⟨rfl, by decide +kernel, by decide +kernel, by decide +kernel⟩ rfl (fun h => by cases h) (Nat.le_of_ble_eq_true rfl) rfl rfl rfl rfl (by decide) rfl rfl (fun H locs h => ?_)
        obtain ⟨hP, hD, hS⟩ := h
        rw [kr _ _ _ (Option.some.inj hm).symm]
        exact gk_iret C ⟨hP, hD, hS⟩ dX5_dual_65
      · have hm := gk_if c9 hm
        refine lv_bipush (v := -11) hx hb dX5_dual_28 (by decide) ?_
        rw [kr _ _ _ (Option.some.inj hm).symm]
        exact gk_iret C ⟨hP, hD, hS⟩ dX5_dual_30
    · have hm := gk_if c7 hm
      refine lv_bipush (v := -2) hx hb dX5_dual_14 (by decide) ?_
      rw [kr _ _ _ (Option.some.inj hm).symm]
      exact gk_iret C ⟨hP, hD, hS⟩ dX5_dual_16
def m_X5_dual (f_now_n : Int32) (f_now_members : (Nat → Int64)) (f_now_kinds : (Nat → Int32)) (x1 : Int32) (x2 : Int32) : Option (Int32 × (Nat → Int64) × (Nat → Int32)) := m_X5_dual_0 f_now_n f_now_members f_now_kinds x1 x2
theorem c_X5_dual (l : Launch) (G : gk_G) (a0 a1 a2 a3 a4 a5 a7 a13 a15 a18 : Nat) (f_isKept : Int32) (f_now_n : Int32) (f_now_members : (Nat → Int64)) (f_now_kinds : (Nat → Int32)) (x1 : Int32) (x2 : Int32) {rv : Int32} {g_now_members : (Nat → Int64)} {g_now_kinds : (Nat → Int32)} (hm : m_X5_dual f_now_n f_now_members f_now_kinds x1 x2 = some (rv, g_now_members, g_now_kinds)) : gk_M l yX5_dual wsX5_dual rm_X5_dual true G [.ref a0, .int x1, .int x2] [(a0, .inr (4, [.ref a1, .ref a7, .int f_isKept, .ref a13, .ref a15, .ref a18])), (a1, .inr (0, [.int f_now_n, .ref a2, .ref a3, .ref a4, .ref a5])), (a2, gk_J G 6 f_now_members), (a3, gk_I G 6 f_now_kinds)] (some (.int rv)) [(a0, .inr (4, [.ref a1, .ref a7, .int f_isKept, .ref a13, .ref a15, .ref a18])), (a1, .inr (0, [.int f_now_n, .ref a2, .ref a3, .ref a4, .ref a5])), (a2, gk_J G 6 g_now_members), (a3, gk_I G 6 g_now_kinds)] :=
  gk_of (by decide) rfl (Nat.le_of_ble_eq_true rfl) (fun p e s m below meth c A ls C h hl => w_X5_dual_0 C hm (fun v0 v1 v2 ez => by cases ez; rfl) h (show lv_has ls 4 [(0, .ref a0), (1, .int x1), (2, .int x2)] from hl))

/-! ===== ExchangeFamilies.noPoint(I)Z ===== -/
abbrev rm_X5_noPoint : Room := { frames := 1, cells := 0, slots := 0, locals := 64 }
theorem k_X5_noPoint_0 : ∀ w ∈ u_ws RX5 TX5 6, w ∈ wsX5_noPoint := by decide +kernel
theorem k_X5_noPoint_1 : Cond.fieldLink RX5 12 "ExchangeFamilies" "now" "LExchangeFamilies$Ground;" ∈ wsX5_noPoint := by decide +kernel
theorem k_X5_noPoint_2 : ∀ w ∈ u_ws RX1 TX1 5, w ∈ wsX5_noPoint := by decide +kernel
theorem k_X5_noPoint_3 : Cond.fieldLink RX5 46 "ExchangeFamilies$Ground" "n" "I" ∈ wsX5_noPoint := by decide +kernel
def m_X5_noPoint_0 (f_now_n : Int32) (x1 : Int32) : Option (Int32) := (if x1 < (0 : Int32) then some (1 : Int32) else (if x1 < f_now_n then some (0 : Int32) else some (1 : Int32)))
set_option maxRecDepth 100000 in
set_option maxHeartbeats 4000000 in
theorem w_X5_noPoint_0 {p : Program} {l : Launch} {e : Env} {s : State} {m : MethodId} {args : Array Value} {below : List Frame} {meth : Method} {c : Code} {G : gk_G} {A : Nat → Prop} {Q : State → Prop} {a0 a1 a2 a3 a4 a5 a7 a13 a15 a18 : Nat} (C : gk_C p s m args meth c cX5_noPoint 2 (some .boolean) yX5_noPoint wsX5_noPoint false G A) {f_now_n : Int32} {x1 : Int32} {f_isKept : Int32} {yy : Int32} (hm : m_X5_noPoint_0 f_now_n x1 = some yy) (kr : ∀ (rv : Int32), yy = rv → Q = MQ below (gk_Q G (some (.int rv)) [(a0, .inr (4, [.ref a1, .ref a7, .int f_isKept, .ref a13, .ref a15, .ref a18])), (a1, .inr (0, [.int f_now_n, .ref a2, .ref a3, .ref a4, .ref a5]))] A) args s 0 0 A) {H : Heap} {locs : List Loc} {ls : Array Slot} (h : gk_H G A s [(a0, .inr (4, [.ref a1, .ref a7, .int f_isKept, .ref a13, .ref a15, .ref a18])), (a1, .inr (0, [.int f_now_n, .ref a2, .ref a3, .ref a4, .ref a5]))] H locs) (hl : lv_has ls 2 [(0, .ref a0), (1, .int x1)]) : W p l e rm_X5_noPoint s m args below meth c H locs 0 0 Q (F0 m 0 ls []) := by
  obtain ⟨hx, hb, hml, hr, hown, hnm, hts, hlk, hK, hSt, hA⟩ := id C
  obtain ⟨hP, hD, hS⟩ := h
  unfold m_X5_noPoint_0 at hm
  refine lv_iload_n hx hb dX5_noPoint_0 rfl (lv_at hl 1 rfl) ?_
  refine lv_if_lt (tgt := 15) hx hb dX5_noPoint_1 (by decide) (fun c3 => ?_) (fun c3 => ?_)
  · have hm := gk_it c3 hm
    refine lv_iconst (v := 1) hx hb dX5_noPoint_15 (by decide) ?_
    refine lv_goto (tgt := 20) hx hb dX5_noPoint_16 (by decide) ?_
    rw [kr _ (Option.some.inj hm).symm]
    exact gk_zret C ⟨hP, hD, hS⟩ rfl dX5_noPoint_20
  · have hm := gk_if c3 hm
    refine lv_iload_n hx hb dX5_noPoint_4 rfl (lv_at hl 1 rfl) ?_
    refine lv_aload_n hx hb dX5_noPoint_5 rfl (lv_at hl 0 rfl) ?_
    refine va_get (D := G.1) (cl := vwCl) (own := RX5) (ref := "ExchangeFamilies") (ci := 4) (v := .ref a1) (C := RX5) (T := TX5) (N := 6) hx hb hts k_X5_noPoint_0 hown hK hP 0 rfl rfl 0 (by decide) (hts _ k_X5_noPoint_1) (fun _ h9 => h9) rfl dX5_noPoint_6 ?_
    refine va_get (D := G.1) (cl := vwCl) (own := RX5) (ref := "ExchangeFamilies$Ground") (ci := 0) (v := .int f_now_n) (C := RX1) (T := TX1) (N := 5) hx hb hts k_X5_noPoint_2 hown hK hP 1 rfl rfl 0 (by decide) (hts _ k_X5_noPoint_3) (fun _ h9 => h9) rfl dX5_noPoint_9 ?_
    refine lv_icmp_lt (tgt := 19) hx hb dX5_noPoint_12 (by decide) (fun c4 => ?_) (fun c4 => ?_)
    · have hm := gk_it c4 hm
      refine lv_iconst (v := 0) hx hb dX5_noPoint_19 (by decide) ?_
      rw [kr _ (Option.some.inj hm).symm]
      exact gk_zret C ⟨hP, hD, hS⟩ rfl dX5_noPoint_20
    · have hm := gk_if c4 hm
      refine lv_iconst (v := 1) hx hb dX5_noPoint_15 (by decide) ?_
      refine lv_goto (tgt := 20) hx hb dX5_noPoint_16 (by decide) ?_
      rw [kr _ (Option.some.inj hm).symm]
      exact gk_zret C ⟨hP, hD, hS⟩ rfl dX5_noPoint_20
def m_X5_noPoint (f_now_n : Int32) (x1 : Int32) : Option (Int32) := m_X5_noPoint_0 f_now_n x1
theorem c_X5_noPoint (l : Launch) (G : gk_G) (a0 a1 a2 a3 a4 a5 a7 a13 a15 a18 : Nat) (f_isKept : Int32) (f_now_n : Int32) (x1 : Int32) {rv : Int32} (hm : m_X5_noPoint f_now_n x1 = some rv) : gk_M l yX5_noPoint wsX5_noPoint rm_X5_noPoint false G [.ref a0, .int x1] [(a0, .inr (4, [.ref a1, .ref a7, .int f_isKept, .ref a13, .ref a15, .ref a18])), (a1, .inr (0, [.int f_now_n, .ref a2, .ref a3, .ref a4, .ref a5]))] (some (.int rv)) [(a0, .inr (4, [.ref a1, .ref a7, .int f_isKept, .ref a13, .ref a15, .ref a18])), (a1, .inr (0, [.int f_now_n, .ref a2, .ref a3, .ref a4, .ref a5]))] :=
  gk_of (by decide) rfl (Nat.le_of_ble_eq_true rfl) (fun p e s m below meth c A ls C h hl => w_X5_noPoint_0 C hm (fun v0 ez => by cases ez; rfl) h (show lv_has ls 2 [(0, .ref a0), (1, .int x1)] from hl))

/-! ===== ExchangeFamilies.reduce(IIII)I ===== -/
abbrev rm_X5_reduce : Room := { frames := 5, cells := 0, slots := 0, locals := 237 }
theorem k_X5_reduce_0 : ∀ w ∈ u_ws RX5 TX5 6, w ∈ wsX5_reduce := by decide +kernel
theorem k_X5_reduce_1 : Cond.fieldLink RX5 12 "ExchangeFamilies" "now" "LExchangeFamilies$Ground;" ∈ wsX5_reduce := by decide +kernel
theorem k_X5_reduce_2 : ∀ w ∈ u_ws RX1 TX1 5, w ∈ wsX5_reduce := by decide +kernel
theorem k_X5_reduce_3 : Cond.fieldLink RX5 61 "ExchangeFamilies$Ground" "members" "[J" ∈ wsX5_reduce := by decide +kernel
def m_X5_reduce_0 (f_now_n : Int32) (f_now_members : (Nat → Int64)) (f_now_kinds : (Nat → Int32)) (x1 : Int32) (x2 : Int32) (x3 : Int32) (x4 : Int32) : Option (Int32 × (Nat → Int64) × (Nat → Int32)) := gk_bd1 (m_X5_noFamily x1) (fun r8 => (if r8 = (0 : Int32) then gk_bd1 (m_X5_noPoint f_now_n x2) (fun r10 => (if r10 = (0 : Int32) then (if x3 < (0 : Int32) then some ((-2 : Int32), f_now_members, f_now_kinds) else (if (1 : Int32) < x3 then some ((-2 : Int32), f_now_members, f_now_kinds) else gk_bd1 (m_X5_noFamily x4) (fun r14 => (if r14 = (0 : Int32) then gk_bd1 (m_X1_isMissing f_now_kinds x1) (fun r16 => (if r16 = (0 : Int32) then gk_ix x1 6 ((if x3 = (0 : Int32) then gk_bd1 (m_X0_leftOut (f_now_members x1.toNatClampNeg) x2) (fun r23 => gk_bd3 (m_X1_become f_now_members f_now_kinds x4 r23 (4 : Int32)) (fun r24 r25 r26 => some (r24, r25, r26))) else gk_bd1 (m_X0_drawnTogether (f_now_members x1.toNatClampNeg) x2) (fun r19 => gk_bd3 (m_X1_become f_now_members f_now_kinds x4 r19 (4 : Int32)) (fun r20 r21 r22 => some (r20, r21, r22))))) else some ((-11 : Int32), f_now_members, f_now_kinds))) else some ((-2 : Int32), f_now_members, f_now_kinds))))) else some ((-2 : Int32), f_now_members, f_now_kinds))) else some ((-2 : Int32), f_now_members, f_now_kinds)))
set_option maxRecDepth 100000 in
set_option maxHeartbeats 4000000 in
theorem w_X5_reduce_0 {p : Program} {l : Launch} {e : Env} {s : State} {m : MethodId} {args : Array Value} {below : List Frame} {meth : Method} {c : Code} {G : gk_G} {A : Nat → Prop} {Q : State → Prop} {a0 a1 a2 a3 a4 a5 a7 a13 a15 a18 : Nat} (C : gk_C p s m args meth c cX5_reduce 9 (some .int) yX5_reduce wsX5_reduce true G A) {f_now_n : Int32} {f_now_members : (Nat → Int64)} {f_now_kinds : (Nat → Int32)} {x1 : Int32} {x2 : Int32} {x3 : Int32} {x4 : Int32} {f_isKept : Int32} {yy : Int32 × (Nat → Int64) × (Nat → Int32)} (hm : m_X5_reduce_0 f_now_n f_now_members f_now_kinds x1 x2 x3 x4 = some yy) (kr : ∀ (rv : Int32) (g_now_members : (Nat → Int64)) (g_now_kinds : (Nat → Int32)), yy = (rv, g_now_members, g_now_kinds) → Q = MQ below (gk_Q G (some (.int rv)) [(a0, .inr (4, [.ref a1, .ref a7, .int f_isKept, .ref a13, .ref a15, .ref a18])), (a1, .inr (0, [.int f_now_n, .ref a2, .ref a3, .ref a4, .ref a5])), (a2, gk_J G 6 g_now_members), (a3, gk_I G 6 g_now_kinds)] A) args s 0 0 A) {H : Heap} {locs : List Loc} {ls : Array Slot} (h : gk_H G A s [(a0, .inr (4, [.ref a1, .ref a7, .int f_isKept, .ref a13, .ref a15, .ref a18])), (a1, .inr (0, [.int f_now_n, .ref a2, .ref a3, .ref a4, .ref a5])), (a2, gk_J G 6 f_now_members), (a3, gk_I G 6 f_now_kinds)] H locs) (hl : lv_has ls 9 [(0, .ref a0), (1, .int x1), (2, .int x2), (3, .int x3), (4, .int x4)]) : W p l e rm_X5_reduce s m args below meth c H locs 0 0 Q (F0 m 0 ls []) := by
  obtain ⟨hx, hb, hml, hr, hown, hnm, hts, hlk, hK, hSt, hA⟩ := id C
  obtain ⟨hP, hD, hS⟩ := h
  unfold m_X5_reduce_0 at hm
  refine lv_iload_n hx hb dX5_reduce_0 rfl (lv_at hl 1 rfl) ?_
  obtain ⟨r8, hq, hm⟩ := gk_bd1_some hm
  refine gk_callS (n := 1) (bytes := cX5_noFamily) (maxL := 1) (ret := (some .boolean)) [(a0, .inr (4, [.ref a1, .ref a7, .int f_isKept, .ref a13, .ref a15, .ref a18])), (a1, .inr (0, [.int f_now_n, .ref a2, .ref a3, .ref a4, .ref a5])), (a2, gk_J G 6 f_now_members), (a3, gk_I G 6 f_now_kinds)] [(a0, .inr (4, [.ref a1, .ref a7, .int f_isKept, .ref a13, .ref a15, .ref a18])), (a1, .inr (0, [.int f_now_n, .ref a2, .ref a3, .ref a4, .ref a5])), (a2, gk_J G 6 f_now_members), (a3, gk_I G 6 f_now_kinds)] [] C ⟨hP, hD, hS⟩ (c_X5_noFamily l G x1 hq) gX5_reduce_X5_noFamily dX5_reduce_1 hl.1 [] [0, 1, 2, 3] [0, 1, 2, 3] rfl ⟨rfl, rfl⟩ ⟨Nat.le_of_ble_eq_true rfl, Nat.le_of_ble_eq_true rfl⟩ ⟨by decide +kernel, by decide +kernel, by decide +kernel⟩ rfl (fun h => by cases h) (Nat.le_of_ble_eq_true rfl) rfl rfl rfl rfl (by decide) rfl rfl (fun H locs h => ?_)
  obtain ⟨hP, hD, hS⟩ := h
  refine lv_if_ne (tgt := 32) hx hb dX5_reduce_4 (by decide) (fun c9 => ?_) (fun c9 => ?_)
  · have hm := gk_if c9 hm
    refine lv_bipush (v := -2) hx hb dX5_reduce_32 (by decide) ?_
    rw [kr _ _ _ (Option.some.inj hm).symm]
    exact gk_iret C ⟨hP, hD, hS⟩ dX5_reduce_34
  · have hm := gk_it c9 hm
    refine lv_aload_n hx hb dX5_reduce_7 rfl (lv_at hl 0 rfl) ?_
    refine lv_iload_n hx hb dX5_reduce_8 rfl (lv_at hl 2 rfl) ?_
    obtain ⟨r10, hq, hm⟩ := gk_bd1_some hm
    refine gk_callV (n := 1) (bytes := cX5_noPoint) (maxL := 2) (ret := (some .boolean)) (Cn := RX5) (T := TX5) (N := 6) [(a2, gk_J G 6 f_now_members), (a3, gk_I G 6 f_now_kinds)] [(a0, .inr (4, [.ref a1, .ref a7, .int f_isKept, .ref a13, .ref a15, .ref a18])), (a1, .inr (0, [.int f_now_n, .ref a2, .ref a3, .ref a4, .ref a5])), (a2, gk_J G 6 f_now_members), (a3, gk_I G 6 f_now_kinds)] [] C ⟨hP, hD, hS⟩ (c_X5_noPoint l G a0 a1 a2 a3 a4 a5 a7 a13 a15 a18 f_isKept f_now_n x2 hq) gX5_reduce_X5_noPoint dX5_reduce_9 hl.1 [0, 1] [2, 3] [2, 3, 0, 1] rfl rfl ⟨rfl, rfl⟩ ⟨Nat.le_of_ble_eq_true rfl, Nat.le_of_ble_eq_true rfl⟩ ⟨rfl, by decide +kernel, by decide +kernel, by decide +kernel⟩ rfl (fun h => by cases h) (Nat.le_of_ble_eq_true rfl) rfl rfl rfl rfl (by decide) rfl rfl (fun H locs h => ?_)
    obtain ⟨hP, hD, hS⟩ := h
    refine lv_if_ne (tgt := 32) hx hb dX5_reduce_12 (by decide) (fun c11 => ?_) (fun c11 => ?_)
    · have hm := gk_if c11 hm
      refine lv_bipush (v := -2) hx hb dX5_reduce_32 (by decide) ?_
      rw [kr _ _ _ (Option.some.inj hm).symm]
      exact gk_iret C ⟨hP, hD, hS⟩ dX5_reduce_34
    · have hm := gk_it c11 hm
      refine lv_iload_n hx hb dX5_reduce_15 rfl (lv_at hl 3 rfl) ?_
      refine lv_if_lt (tgt := 32) hx hb dX5_reduce_16 (by decide) (fun c12 => ?_) (fun c12 => ?_)
      · have hm := gk_it c12 hm
        refine lv_bipush (v := -2) hx hb dX5_reduce_32 (by decide) ?_
        rw [kr _ _ _ (Option.some.inj hm).symm]
        exact gk_iret C ⟨hP, hD, hS⟩ dX5_reduce_34
      · have hm := gk_if c12 hm
        refine lv_iload_n hx hb dX5_reduce_19 rfl (lv_at hl 3 rfl) ?_
        refine lv_iconst (v := 1) hx hb dX5_reduce_20 (by decide) ?_
        refine lv_icmp_gt (tgt := 32) hx hb dX5_reduce_21 (by decide) (fun c13 => ?_) (fun c13 => ?_)
        · have hm := gk_it c13 hm
          refine lv_bipush (v := -2) hx hb dX5_reduce_32 (by decide) ?_
          rw [kr _ _ _ (Option.some.inj hm).symm]
          exact gk_iret C ⟨hP, hD, hS⟩ dX5_reduce_34
        · have hm := gk_if c13 hm
          refine lv_iload hx hb dX5_reduce_24 (lv_at hl 4 rfl) ?_
          obtain ⟨r14, hq, hm⟩ := gk_bd1_some hm
          refine gk_callS (n := 1) (bytes := cX5_noFamily) (maxL := 1) (ret := (some .boolean)) [(a0, .inr (4, [.ref a1, .ref a7, .int f_isKept, .ref a13, .ref a15, .ref a18])), (a1, .inr (0, [.int f_now_n, .ref a2, .ref a3, .ref a4, .ref a5])), (a2, gk_J G 6 f_now_members), (a3, gk_I G 6 f_now_kinds)] [(a0, .inr (4, [.ref a1, .ref a7, .int f_isKept, .ref a13, .ref a15, .ref a18])), (a1, .inr (0, [.int f_now_n, .ref a2, .ref a3, .ref a4, .ref a5])), (a2, gk_J G 6 f_now_members), (a3, gk_I G 6 f_now_kinds)] [] C ⟨hP, hD, hS⟩ (c_X5_noFamily l G x4 hq) gX5_reduce_X5_noFamily dX5_reduce_26 hl.1 [] [0, 1, 2, 3] [0, 1, 2, 3] rfl ⟨rfl, rfl⟩ ⟨Nat.le_of_ble_eq_true rfl, Nat.le_of_ble_eq_true rfl⟩ ⟨by decide +kernel, by decide +kernel, by decide +kernel⟩ rfl (fun h => by cases h) (Nat.le_of_ble_eq_true rfl) rfl rfl rfl rfl (by decide) rfl rfl (fun H locs h => ?_)
          obtain ⟨hP, hD, hS⟩ := h
          refine lv_if_eq (tgt := 35) hx hb dX5_reduce_29 (by decide) (fun c15 => ?_) (fun c15 => ?_)
          · have hm := gk_it c15 hm
            refine lv_aload_n hx hb dX5_reduce_35 rfl (lv_at hl 0 rfl) ?_
            refine va_get (D := G.1) (cl := vwCl) (own := RX5) (ref := "ExchangeFamilies") (ci := 4) (v := .ref a1) (C := RX5) (T := TX5) (N := 6) hx hb hts k_X5_reduce_0 hown hK hP 0 rfl rfl 0 (by decide) (hts _ k_X5_reduce_1) (fun _ h9 => h9) rfl dX5_reduce_36 ?_
            refine lv_iload_n hx hb dX5_reduce_39 rfl (lv_at hl 1 rfl) ?_
            obtain ⟨r16, hq, hm⟩ := gk_bd1_some hm
            refine gk_callV (n := 1) (bytes := cX1_isMissing) (maxL := 2) (ret := (some .boolean)) (Cn := RX1) (T := TX1) (N := 5) [(a0, .inr (4, [.ref a1, .ref a7, .int f_isKept, .ref a13, .ref a15, .ref a18])), (a2, gk_J G 6 f_now_members)] [(a0, .inr (4, [.ref a1, .ref a7, .int f_isKept, .ref a13, .ref a15, .ref a18])), (a1, .inr (0, [.int f_now_n, .ref a2, .ref a3, .ref a4, .ref a5])), (a2, gk_J G 6 f_now_members), (a3, gk_I G 6 f_now_kinds)] [] C ⟨hP, hD, hS⟩ (c_X1_isMissing l G a1 a2 a3 a4 a5 f_now_n f_now_kinds x1 hq) gX5_reduce_X1_isMissing dX5_reduce_40 hl.1 [1, 3] [0, 2] [0, 2, 1, 3] rfl rfl ⟨rfl, rfl⟩ ⟨Nat.le_of_ble_eq_true rfl, Nat.le_of_ble_eq_true rfl⟩ ⟨rfl, by decide +kernel, by decide +kernel, by decide +kernel⟩ rfl (fun h => by cases h) (Nat.le_of_ble_eq_true rfl) rfl rfl rfl rfl (by decide) rfl rfl (fun H locs h => ?_)
            obtain ⟨hP, hD, hS⟩ := h
            refine lv_if_eq (tgt := 49) hx hb dX5_reduce_43 (by decide) (fun c17 => ?_) (fun c17 => ?_)
            · have hm := gk_it c17 hm
              refine lv_aload_n hx hb dX5_reduce_49 rfl (lv_at hl 0 rfl) ?_
              refine va_get (D := G.1) (cl := vwCl) (own := RX5) (ref := "ExchangeFamilies") (ci := 4) (v := .ref a1) (C := RX5) (T := TX5) (N := 6) hx hb hts k_X5_reduce_0 hown hK hP 0 rfl rfl 0 (by decide) (hts _ k_X5_reduce_1) (fun _ h9 => h9) rfl dX5_reduce_50 ?_
              refine va_get (D := G.1) (cl := vwCl) (own := RX5) (ref := "ExchangeFamilies$Ground") (ci := 0) (v := .ref a2) (C := RX1) (T := TX1) (N := 5) hx hb hts k_X5_reduce_2 hown hK hP 1 rfl rfl 1 (by decide) (hts _ k_X5_reduce_3) (fun _ h9 => h9) rfl dX5_reduce_53 ?_
              refine lv_iload_n hx hb dX5_reduce_56 rfl (lv_at hl 1 rfl) ?_
              obtain ⟨hi, hm⟩ := gk_ix_some hm
              refine va_lald hx hb hK hP 2 1 rfl rfl hi dX5_reduce_57 ?_
              refine lv_lstore (lv' := [(5, .long (f_now_members x1.toNatClampNeg)), (0, .ref a0), (1, .int x1), (2, .int x2), (3, .int x3), (4, .int x4)]) hx hb dX5_reduce_58 hl (by decide) rfl (fun ls hl => ?_)
              refine lv_iload_n hx hb dX5_reduce_60 rfl (lv_at hl 4 rfl) ?_
              refine lv_if_ne (tgt := 73) hx hb dX5_reduce_61 (by decide) (fun c18 => ?_) (fun c18 => ?_)
              · have hm := gk_if c18 hm
                refine lv_lload hx hb dX5_reduce_73 (lv_at hl 0 rfl) ?_
                refine lv_iload_n hx hb dX5_reduce_75 rfl (lv_at hl 3 rfl) ?_
                obtain ⟨r19, hq, hm⟩ := gk_bd1_some hm
                refine gk_callS (n := 2) (bytes := cX0_drawnTogether) (maxL := 5) (ret := (some .long)) [(a0, .inr (4, [.ref a1, .ref a7, .int f_isKept, .ref a13, .ref a15, .ref a18])), (a1, .inr (0, [.int f_now_n, .ref a2, .ref a3, .ref a4, .ref a5])), (a2, gk_J G 6 f_now_members), (a3, gk_I G 6 f_now_kinds)] [(a0, .inr (4, [.ref a1, .ref a7, .int f_isKept, .ref a13, .ref a15, .ref a18])), (a1, .inr (0, [.int f_now_n, .ref a2, .ref a3, .ref a4, .ref a5])), (a2, gk_J G 6 f_now_members), (a3, gk_I G 6 f_now_kinds)] [] C ⟨hP, hD, hS⟩ (c_X0_drawnTogether l G (f_now_members x1.toNatClampNeg) x2 hq) gX5_reduce_X0_drawnTogether dX5_reduce_76 hl.1 [] [0, 1, 2, 3] [0, 1, 2, 3] rfl ⟨rfl, rfl⟩ ⟨Nat.le_of_ble_eq_true rfl, Nat.le_of_ble_eq_true rfl⟩ ⟨by decide +kernel, by decide +kernel, by decide +kernel⟩ rfl (fun h => h) (Nat.le_of_ble_eq_true rfl) rfl rfl rfl rfl (by decide) rfl rfl (fun H locs h => ?_)
                obtain ⟨hP, hD, hS⟩ := h
                refine lv_lstore (lv' := [(7, .long r19), (5, .long (f_now_members x1.toNatClampNeg)), (0, .ref a0), (1, .int x1), (2, .int x2), (3, .int x3), (4, .int x4)]) hx hb dX5_reduce_79 hl (by decide) rfl (fun ls hl => ?_)
                refine lv_aload_n hx hb dX5_reduce_81 rfl (lv_at hl 2 rfl) ?_
                refine va_get (D := G.1) (cl := vwCl) (own := RX5) (ref := "ExchangeFamilies") (ci := 4) (v := .ref a1) (C := RX5) (T := TX5) (N := 6) hx hb hts k_X5_reduce_0 hown hK hP 0 rfl rfl 0 (by decide) (hts _ k_X5_reduce_1) (fun _ h9 => h9) rfl dX5_reduce_82 ?_
                refine lv_iload hx hb dX5_reduce_85 (lv_at hl 6 rfl) ?_
                refine lv_lload hx hb dX5_reduce_87 (lv_at hl 0 rfl) ?_
                refine lv_iconst (v := 4) hx hb dX5_reduce_89 (by decide) ?_
                obtain ⟨r20, r21, r22, hq, hm⟩ := gk_bd3_some hm
                refine gk_callV (n := 3) (bytes := cX1_become) (maxL := 5) (ret := (some .int)) (Cn := RX1) (T := TX1) (N := 5) [(a0, .inr (4, [.ref a1, .ref a7, .int f_isKept, .ref a13, .ref a15, .ref a18]))] [(a0, .inr (4, [.ref a1, .ref a7, .int f_isKept, .ref a13, .ref a15, .ref a18])), (a1, .inr (0, [.int f_now_n, .ref a2, .ref a3, .ref a4, .ref a5])), (a2, gk_J G 6 r21), (a3, gk_I G 6 r22)] [] C ⟨hP, hD, hS⟩ (c_X1_become l G a1 a2 a3 a4 a5 f_now_n f_now_members f_now_kinds x4 r19 (4 : Int32) hq) gX5_reduce_X1_become dX5_reduce_90 hl.1 [1, 2, 3] [0] [0, 1, 2, 3] rfl rfl ⟨rfl, rfl⟩ ⟨Nat.le_of_ble_eq_true rfl, Nat.le_of_ble_eq_true rfl⟩ ⟨rfl, by decide +kernel, by decide +kernel, by decide +kernel⟩ rfl (fun h => by cases h) (Nat.le_of_ble_eq_true rfl) rfl rfl rfl rfl (by decide) rfl rfl (fun H locs h => ?_)
                obtain ⟨hP, hD, hS⟩ := h
                rw [kr _ _ _ (Option.some.inj hm).symm]
                exact gk_iret C ⟨hP, hD, hS⟩ dX5_reduce_93
              · have hm := gk_it c18 hm
                refine lv_lload hx hb dX5_reduce_64 (lv_at hl 0 rfl) ?_
                refine lv_iload_n hx hb dX5_reduce_66 rfl (lv_at hl 3 rfl) ?_
                obtain ⟨r23, hq, hm⟩ := gk_bd1_some hm
                refine gk_callS (n := 2) (bytes := cX0_leftOut) (maxL := 5) (ret := (some .long)) [(a0, .inr (4, [.ref a1, .ref a7, .int f_isKept, .ref a13, .ref a15, .ref a18])), (a1, .inr (0, [.int f_now_n, .ref a2, .ref a3, .ref a4, .ref a5])), (a2, gk_J G 6 f_now_members), (a3, gk_I G 6 f_now_kinds)] [(a0, .inr (4, [.ref a1, .ref a7, .int f_isKept, .ref a13, .ref a15, .ref a18])), (a1, .inr (0, [.int f_now_n, .ref a2, .ref a3, .ref a4, .ref a5])), (a2, gk_J G 6 f_now_members), (a3, gk_I G 6 f_now_kinds)] [] C ⟨hP, hD, hS⟩ (c_X0_leftOut l G (f_now_members x1.toNatClampNeg) x2 hq) gX5_reduce_X0_leftOut dX5_reduce_67 hl.1 [] [0, 1, 2, 3] [0, 1, 2, 3] rfl ⟨rfl, rfl⟩ ⟨Nat.le_of_ble_eq_true rfl, Nat.le_of_ble_eq_true rfl⟩ ⟨by decide +kernel, by decide +kernel, by decide +kernel⟩ rfl (fun h => h) (Nat.le_of_ble_eq_true rfl) rfl rfl rfl rfl (by decide) rfl rfl (fun H locs h => ?_)
                obtain ⟨hP, hD, hS⟩ := h
                refine lv_goto (tgt := 79) hx hb dX5_reduce_70 (by decide) ?_
                refine lv_lstore (lv' := [(7, .long r23), (5, .long (f_now_members x1.toNatClampNeg)), (0, .ref a0), (1, .int x1), (2, .int x2), (3, .int x3), (4, .int x4)]) hx hb dX5_reduce_79 hl (by decide) rfl (fun ls hl => ?_)
                refine lv_aload_n hx hb dX5_reduce_81 rfl (lv_at hl 2 rfl) ?_
                refine va_get (D := G.1) (cl := vwCl) (own := RX5) (ref := "ExchangeFamilies") (ci := 4) (v := .ref a1) (C := RX5) (T := TX5) (N := 6) hx hb hts k_X5_reduce_0 hown hK hP 0 rfl rfl 0 (by decide) (hts _ k_X5_reduce_1) (fun _ h9 => h9) rfl dX5_reduce_82 ?_
                refine lv_iload hx hb dX5_reduce_85 (lv_at hl 6 rfl) ?_
                refine lv_lload hx hb dX5_reduce_87 (lv_at hl 0 rfl) ?_
                refine lv_iconst (v := 4) hx hb dX5_reduce_89 (by decide) ?_
                obtain ⟨r24, r25, r26, hq, hm⟩ := gk_bd3_some hm
                refine gk_callV (n := 3) (bytes := cX1_become) (maxL := 5) (ret := (some .int)) (Cn := RX1) (T := TX1) (N := 5) [(a0, .inr (4, [.ref a1, .ref a7, .int f_isKept, .ref a13, .ref a15, .ref a18]))] [(a0, .inr (4, [.ref a1, .ref a7, .int f_isKept, .ref a13, .ref a15, .ref a18])), (a1, .inr (0, [.int f_now_n, .ref a2, .ref a3, .ref a4, .ref a5])), (a2, gk_J G 6 r25), (a3, gk_I G 6 r26)] [] C ⟨hP, hD, hS⟩ (c_X1_become l G a1 a2 a3 a4 a5 f_now_n f_now_members f_now_kinds x4 r23 (4 : Int32) hq) gX5_reduce_X1_become dX5_reduce_90 hl.1 [1, 2, 3] [0] [0, 1, 2, 3] rfl rfl ⟨rfl, rfl⟩ ⟨Nat.le_of_ble_eq_true rfl, Nat.le_of_ble_eq_true rfl⟩ ⟨rfl, by decide +kernel, by decide +kernel, by decide +kernel⟩ rfl (fun h => by cases h) (Nat.le_of_ble_eq_true rfl) rfl rfl rfl rfl (by decide) rfl rfl (fun H locs h => ?_)
                obtain ⟨hP, hD, hS⟩ := h
                rw [kr _ _ _ (Option.some.inj hm).symm]
                exact gk_iret C ⟨hP, hD, hS⟩ dX5_reduce_93
            · have hm := gk_if c17 hm
              refine lv_bipush (v := -11) hx hb dX5_reduce_46 (by decide) ?_
              rw [kr _ _ _ (Option.some.inj hm).symm]
              exact gk_iret C ⟨hP, hD, hS⟩ dX5_reduce_48
          · have hm := gk_if c15 hm
            refine lv_bipush (v := -2) hx hb dX5_reduce_32 (by decide) ?_
            rw [kr _ _ _ (Option.some.inj hm).symm]
            exact gk_iret C ⟨hP, hD, hS⟩ dX5_reduce_34
def m_X5_reduce (f_now_n : Int32) (f_now_members : (Nat → Int64)) (f_now_kinds : (Nat → Int32)) (x1 : Int32) (x2 : Int32) (x3 : Int32) (x4 : Int32) : Option (Int32 × (Nat → Int64) × (Nat → Int32)) := m_X5_reduce_0 f_now_n f_now_members f_now_kinds x1 x2 x3 x4
theorem c_X5_reduce (l : Launch) (G : gk_G) (a0 a1 a2 a3 a4 a5 a7 a13 a15 a18 : Nat) (f_isKept : Int32) (f_now_n : Int32) (f_now_members : (Nat → Int64)) (f_now_kinds : (Nat → Int32)) (x1 : Int32) (x2 : Int32) (x3 : Int32) (x4 : Int32) {rv : Int32} {g_now_members : (Nat → Int64)} {g_now_kinds : (Nat → Int32)} (hm : m_X5_reduce f_now_n f_now_members f_now_kinds x1 x2 x3 x4 = some (rv, g_now_members, g_now_kinds)) : gk_M l yX5_reduce wsX5_reduce rm_X5_reduce true G [.ref a0, .int x1, .int x2, .int x3, .int x4] [(a0, .inr (4, [.ref a1, .ref a7, .int f_isKept, .ref a13, .ref a15, .ref a18])), (a1, .inr (0, [.int f_now_n, .ref a2, .ref a3, .ref a4, .ref a5])), (a2, gk_J G 6 f_now_members), (a3, gk_I G 6 f_now_kinds)] (some (.int rv)) [(a0, .inr (4, [.ref a1, .ref a7, .int f_isKept, .ref a13, .ref a15, .ref a18])), (a1, .inr (0, [.int f_now_n, .ref a2, .ref a3, .ref a4, .ref a5])), (a2, gk_J G 6 g_now_members), (a3, gk_I G 6 g_now_kinds)] :=
  gk_of (by decide) rfl (Nat.le_of_ble_eq_true rfl) (fun p e s m below meth c A ls C h hl => w_X5_reduce_0 C hm (fun v0 v1 v2 ez => by cases ez; rfl) h (show lv_has ls 9 [(0, .ref a0), (1, .int x1), (2, .int x2), (3, .int x3), (4, .int x4)] from hl))

/-! ===== ExchangeFamilies.clear(I)I ===== -/
abbrev rm_X5_clear : Room := { frames := 5, cells := 0, slots := 0, locals := 237 }
theorem k_X5_clear_0 : ∀ w ∈ u_ws RX5 TX5 6, w ∈ wsX5_clear := by decide +kernel
theorem k_X5_clear_1 : Cond.fieldLink RX5 12 "ExchangeFamilies" "now" "LExchangeFamilies$Ground;" ∈ wsX5_clear := by decide +kernel
theorem k_X5_clear_2 : ∀ w ∈ u_ws RX1 TX1 5, w ∈ wsX5_clear := by decide +kernel
theorem k_X5_clear_3 : Cond.fieldLink RX5 61 "ExchangeFamilies$Ground" "members" "[J" ∈ wsX5_clear := by decide +kernel
def m_X5_clear_0 (f_now_members : (Nat → Int64)) (f_now_kinds : (Nat → Int32)) (x1 : Int32) : Option (Int32 × (Nat → Int64) × (Nat → Int32)) := gk_bd1 (m_X5_noFamily x1) (fun r3 => (if r3 = (0 : Int32) then gk_bd1 (m_X1_isMissing f_now_kinds x1) (fun r5 => (if r5 = (0 : Int32) then gk_ix x1 6 (gk_bd1 (m_J13_bitCount_95d88 (f_now_members x1.toNatClampNeg)) (fun r7 => gk_bd3 (m_X1_become f_now_members f_now_kinds x1 (0 : Int64) (-1 : Int32)) (fun r8 r9 r10 => some (r7, r9, r10)))) else some ((-11 : Int32), f_now_members, f_now_kinds))) else some ((-2 : Int32), f_now_members, f_now_kinds)))
set_option maxRecDepth 100000 in
set_option maxHeartbeats 4000000 in
theorem w_X5_clear_0 {p : Program} {l : Launch} {e : Env} {s : State} {m : MethodId} {args : Array Value} {below : List Frame} {meth : Method} {c : Code} {G : gk_G} {A : Nat → Prop} {Q : State → Prop} {a0 a1 a2 a3 a4 a5 a7 a13 a15 a18 : Nat} (C : gk_C p s m args meth c cX5_clear 3 (some .int) yX5_clear wsX5_clear false G A) {f_now_members : (Nat → Int64)} {f_now_kinds : (Nat → Int32)} {x1 : Int32} {f_isKept : Int32} {f_now_n : Int32} {yy : Int32 × (Nat → Int64) × (Nat → Int32)} (hm : m_X5_clear_0 f_now_members f_now_kinds x1 = some yy) (kr : ∀ (rv : Int32) (g_now_members : (Nat → Int64)) (g_now_kinds : (Nat → Int32)), yy = (rv, g_now_members, g_now_kinds) → Q = MQ below (gk_Q G (some (.int rv)) [(a0, .inr (4, [.ref a1, .ref a7, .int f_isKept, .ref a13, .ref a15, .ref a18])), (a1, .inr (0, [.int f_now_n, .ref a2, .ref a3, .ref a4, .ref a5])), (a2, gk_J G 6 g_now_members), (a3, gk_I G 6 g_now_kinds)] A) args s 0 0 A) {H : Heap} {locs : List Loc} {ls : Array Slot} (h : gk_H G A s [(a0, .inr (4, [.ref a1, .ref a7, .int f_isKept, .ref a13, .ref a15, .ref a18])), (a1, .inr (0, [.int f_now_n, .ref a2, .ref a3, .ref a4, .ref a5])), (a2, gk_J G 6 f_now_members), (a3, gk_I G 6 f_now_kinds)] H locs) (hl : lv_has ls 3 [(0, .ref a0), (1, .int x1)]) : W p l e rm_X5_clear s m args below meth c H locs 0 0 Q (F0 m 0 ls []) := by
  obtain ⟨hx, hb, hml, hr, hown, hnm, hts, hlk, hK, hSt, hA⟩ := id C
  obtain ⟨hP, hD, hS⟩ := h
  unfold m_X5_clear_0 at hm
  refine lv_iload_n hx hb dX5_clear_0 rfl (lv_at hl 1 rfl) ?_
  obtain ⟨r3, hq, hm⟩ := gk_bd1_some hm
  refine gk_callS (n := 1) (bytes := cX5_noFamily) (maxL := 1) (ret := (some .boolean)) [(a0, .inr (4, [.ref a1, .ref a7, .int f_isKept, .ref a13, .ref a15, .ref a18])), (a1, .inr (0, [.int f_now_n, .ref a2, .ref a3, .ref a4, .ref a5])), (a2, gk_J G 6 f_now_members), (a3, gk_I G 6 f_now_kinds)] [(a0, .inr (4, [.ref a1, .ref a7, .int f_isKept, .ref a13, .ref a15, .ref a18])), (a1, .inr (0, [.int f_now_n, .ref a2, .ref a3, .ref a4, .ref a5])), (a2, gk_J G 6 f_now_members), (a3, gk_I G 6 f_now_kinds)] [] C ⟨hP, hD, hS⟩ (c_X5_noFamily l G x1 hq) gX5_clear_X5_noFamily dX5_clear_1 hl.1 [] [0, 1, 2, 3] [0, 1, 2, 3] rfl ⟨rfl, rfl⟩ ⟨Nat.le_of_ble_eq_true rfl, Nat.le_of_ble_eq_true rfl⟩ ⟨by decide +kernel, by decide +kernel, by decide +kernel⟩ rfl (fun h => by cases h) (Nat.le_of_ble_eq_true rfl) rfl rfl rfl rfl (by decide) rfl rfl (fun H locs h => ?_)
  obtain ⟨hP, hD, hS⟩ := h
  refine lv_if_eq (tgt := 10) hx hb dX5_clear_4 (by decide) (fun c4 => ?_) (fun c4 => ?_)
  · have hm := gk_it c4 hm
    refine lv_aload_n hx hb dX5_clear_10 rfl (lv_at hl 0 rfl) ?_
    refine va_get (D := G.1) (cl := vwCl) (own := RX5) (ref := "ExchangeFamilies") (ci := 4) (v := .ref a1) (C := RX5) (T := TX5) (N := 6) hx hb hts k_X5_clear_0 hown hK hP 0 rfl rfl 0 (by decide) (hts _ k_X5_clear_1) (fun _ h9 => h9) rfl dX5_clear_11 ?_
    refine lv_iload_n hx hb dX5_clear_14 rfl (lv_at hl 1 rfl) ?_
    obtain ⟨r5, hq, hm⟩ := gk_bd1_some hm
    refine gk_callV (n := 1) (bytes := cX1_isMissing) (maxL := 2) (ret := (some .boolean)) (Cn := RX1) (T := TX1) (N := 5) [(a0, .inr (4, [.ref a1, .ref a7, .int f_isKept, .ref a13, .ref a15, .ref a18])), (a2, gk_J G 6 f_now_members)] [(a0, .inr (4, [.ref a1, .ref a7, .int f_isKept, .ref a13, .ref a15, .ref a18])), (a1, .inr (0, [.int f_now_n, .ref a2, .ref a3, .ref a4, .ref a5])), (a2, gk_J G 6 f_now_members), (a3, gk_I G 6 f_now_kinds)] [] C ⟨hP, hD, hS⟩ (c_X1_isMissing l G a1 a2 a3 a4 a5 f_now_n f_now_kinds x1 hq) gX5_clear_X1_isMissing dX5_clear_15 hl.1 [1, 3] [0, 2] [0, 2, 1, 3] rfl rfl ⟨rfl, rfl⟩ ⟨Nat.le_of_ble_eq_true rfl, Nat.le_of_ble_eq_true rfl⟩ ⟨rfl, by decide +kernel, by decide +kernel, by decide +kernel⟩ rfl (fun h => by cases h) (Nat.le_of_ble_eq_true rfl) rfl rfl rfl rfl (by decide) rfl rfl (fun H locs h => ?_)
    obtain ⟨hP, hD, hS⟩ := h
    refine lv_if_eq (tgt := 24) hx hb dX5_clear_18 (by decide) (fun c6 => ?_) (fun c6 => ?_)
    · have hm := gk_it c6 hm
      refine lv_aload_n hx hb dX5_clear_24 rfl (lv_at hl 0 rfl) ?_
      refine va_get (D := G.1) (cl := vwCl) (own := RX5) (ref := "ExchangeFamilies") (ci := 4) (v := .ref a1) (C := RX5) (T := TX5) (N := 6) hx hb hts k_X5_clear_0 hown hK hP 0 rfl rfl 0 (by decide) (hts _ k_X5_clear_1) (fun _ h9 => h9) rfl dX5_clear_25 ?_
      refine va_get (D := G.1) (cl := vwCl) (own := RX5) (ref := "ExchangeFamilies$Ground") (ci := 0) (v := .ref a2) (C := RX1) (T := TX1) (N := 5) hx hb hts k_X5_clear_2 hown hK hP 1 rfl rfl 1 (by decide) (hts _ k_X5_clear_3) (fun _ h9 => h9) rfl dX5_clear_28 ?_
      refine lv_iload_n hx hb dX5_clear_31 rfl (lv_at hl 1 rfl) ?_
      obtain ⟨hi, hm⟩ := gk_ix_some hm
      refine va_lald hx hb hK hP 2 1 rfl rfl hi dX5_clear_32 ?_
      obtain ⟨r7, hq, hm⟩ := gk_bd1_some hm
      refine gk_callS (n := 1) (bytes := cJ13_bitCount_95d88) (maxL := 2) (ret := (some .int)) [(a0, .inr (4, [.ref a1, .ref a7, .int f_isKept, .ref a13, .ref a15, .ref a18])), (a1, .inr (0, [.int f_now_n, .ref a2, .ref a3, .ref a4, .ref a5])), (a2, gk_J G 6 f_now_members), (a3, gk_I G 6 f_now_kinds)] [(a0, .inr (4, [.ref a1, .ref a7, .int f_isKept, .ref a13, .ref a15, .ref a18])), (a1, .inr (0, [.int f_now_n, .ref a2, .ref a3, .ref a4, .ref a5])), (a2, gk_J G 6 f_now_members), (a3, gk_I G 6 f_now_kinds)] [] C ⟨hP, hD, hS⟩ (c_J13_bitCount_95d88 l G (f_now_members x1.toNatClampNeg) hq) gX5_clear_J13_bitCount_95d88 dX5_clear_33 hl.1 [] [0, 1, 2, 3] [0, 1, 2, 3] rfl ⟨rfl, rfl⟩ ⟨Nat.le_of_ble_eq_true rfl, Nat.le_of_ble_eq_true rfl⟩ ⟨by decide +kernel, by decide +kernel, by decide +kernel⟩ rfl (fun h => by cases h) (Nat.le_of_ble_eq_true rfl) rfl rfl rfl rfl (by decide) rfl rfl (fun H locs h => ?_)
      obtain ⟨hP, hD, hS⟩ := h
      refine lv_istore_n (lv' := [(2, .int r7), (0, .ref a0), (1, .int x1)]) hx hb dX5_clear_36 rfl hl (by decide) rfl (fun ls hl => ?_)
      refine lv_aload_n hx hb dX5_clear_37 rfl (lv_at hl 1 rfl) ?_
      refine va_get (D := G.1) (cl := vwCl) (own := RX5) (ref := "ExchangeFamilies") (ci := 4) (v := .ref a1) (C := RX5) (T := TX5) (N := 6) hx hb hts k_X5_clear_0 hown hK hP 0 rfl rfl 0 (by decide) (hts _ k_X5_clear_1) (fun _ h9 => h9) rfl dX5_clear_38 ?_
      refine lv_iload_n hx hb dX5_clear_41 rfl (lv_at hl 2 rfl) ?_
      refine lv_lconst (v := 0) hx hb dX5_clear_42 (by decide) ?_
      refine lv_iconst (v := -1) hx hb dX5_clear_43 (by decide) ?_
      obtain ⟨r8, r9, r10, hq, hm⟩ := gk_bd3_some hm
      refine gk_callV (n := 3) (bytes := cX1_become) (maxL := 5) (ret := (some .int)) (Cn := RX1) (T := TX1) (N := 5) [(a0, .inr (4, [.ref a1, .ref a7, .int f_isKept, .ref a13, .ref a15, .ref a18]))] [(a0, .inr (4, [.ref a1, .ref a7, .int f_isKept, .ref a13, .ref a15, .ref a18])), (a1, .inr (0, [.int f_now_n, .ref a2, .ref a3, .ref a4, .ref a5])), (a2, gk_J G 6 r9), (a3, gk_I G 6 r10)] [] C ⟨hP, hD, hS⟩ (c_X1_become l G a1 a2 a3 a4 a5 f_now_n f_now_members f_now_kinds x1 (0 : Int64) (-1 : Int32) hq) gX5_clear_X1_become dX5_clear_44 hl.1 [1, 2, 3] [0] [0, 1, 2, 3] rfl rfl ⟨rfl, rfl⟩ ⟨Nat.le_of_ble_eq_true rfl, Nat.le_of_ble_eq_true rfl⟩ ⟨rfl, by decide +kernel, by decide +kernel, by decide +kernel⟩ rfl (fun h => by cases h) (Nat.le_of_ble_eq_true rfl) rfl rfl rfl rfl (by decide) rfl rfl (fun H locs h => ?_)
      obtain ⟨hP, hD, hS⟩ := h
      refine lv_pop hx hb dX5_clear_47 rfl ?_
      refine lv_iload_n hx hb dX5_clear_48 rfl (lv_at hl 0 rfl) ?_
      rw [kr _ _ _ (Option.some.inj hm).symm]
      exact gk_iret C ⟨hP, hD, hS⟩ dX5_clear_49
    · have hm := gk_if c6 hm
      refine lv_bipush (v := -11) hx hb dX5_clear_21 (by decide) ?_
      rw [kr _ _ _ (Option.some.inj hm).symm]
      exact gk_iret C ⟨hP, hD, hS⟩ dX5_clear_23
  · have hm := gk_if c4 hm
    refine lv_bipush (v := -2) hx hb dX5_clear_7 (by decide) ?_
    rw [kr _ _ _ (Option.some.inj hm).symm]
    exact gk_iret C ⟨hP, hD, hS⟩ dX5_clear_9
def m_X5_clear (f_now_members : (Nat → Int64)) (f_now_kinds : (Nat → Int32)) (x1 : Int32) : Option (Int32 × (Nat → Int64) × (Nat → Int32)) := m_X5_clear_0 f_now_members f_now_kinds x1
theorem c_X5_clear (l : Launch) (G : gk_G) (a0 a1 a2 a3 a4 a5 a7 a13 a15 a18 : Nat) (f_isKept : Int32) (f_now_n : Int32) (f_now_members : (Nat → Int64)) (f_now_kinds : (Nat → Int32)) (x1 : Int32) {rv : Int32} {g_now_members : (Nat → Int64)} {g_now_kinds : (Nat → Int32)} (hm : m_X5_clear f_now_members f_now_kinds x1 = some (rv, g_now_members, g_now_kinds)) : gk_M l yX5_clear wsX5_clear rm_X5_clear false G [.ref a0, .int x1] [(a0, .inr (4, [.ref a1, .ref a7, .int f_isKept, .ref a13, .ref a15, .ref a18])), (a1, .inr (0, [.int f_now_n, .ref a2, .ref a3, .ref a4, .ref a5])), (a2, gk_J G 6 f_now_members), (a3, gk_I G 6 f_now_kinds)] (some (.int rv)) [(a0, .inr (4, [.ref a1, .ref a7, .int f_isKept, .ref a13, .ref a15, .ref a18])), (a1, .inr (0, [.int f_now_n, .ref a2, .ref a3, .ref a4, .ref a5])), (a2, gk_J G 6 g_now_members), (a3, gk_I G 6 g_now_kinds)] :=
  gk_of (by decide) rfl (Nat.le_of_ble_eq_true rfl) (fun p e s m below meth c A ls C h hl => w_X5_clear_0 C hm (fun v0 v1 v2 ez => by cases ez; rfl) h (show lv_has ls 3 [(0, .ref a0), (1, .int x1)] from hl))

/-! ===== ExchangeFamilies.has(II)I ===== -/
abbrev rm_X5_has : Room := { frames := 3, cells := 0, slots := 0, locals := 150 }
theorem k_X5_has_0 : ∀ w ∈ u_ws RX5 TX5 6, w ∈ wsX5_has := by decide +kernel
theorem k_X5_has_1 : Cond.fieldLink RX5 12 "ExchangeFamilies" "now" "LExchangeFamilies$Ground;" ∈ wsX5_has := by decide +kernel
theorem k_X5_has_2 : ∀ w ∈ u_ws RX1 TX1 5, w ∈ wsX5_has := by decide +kernel
theorem k_X5_has_3 : Cond.fieldLink RX5 61 "ExchangeFamilies$Ground" "members" "[J" ∈ wsX5_has := by decide +kernel
def m_X5_has_0 (f_now_n : Int32) (f_now_members : (Nat → Int64)) (f_now_kinds : (Nat → Int32)) (x1 : Int32) (x2 : Int32) : Option (Int32) := gk_bd1 (m_X5_noFamily x1) (fun r5 => (if r5 = (0 : Int32) then gk_bd1 (m_X5_noSet f_now_n x2) (fun r7 => (if r7 = (0 : Int32) then gk_bd1 (m_X1_isMissing f_now_kinds x1) (fun r9 => (if r9 = (0 : Int32) then gk_ix x1 6 (gk_bd1 (m_X0_holds (f_now_members x1.toNatClampNeg) x2) (fun r11 => (if r11 = (0 : Int32) then some (0 : Int32) else some (1 : Int32)))) else some (-11 : Int32))) else some (-2 : Int32))) else some (-2 : Int32)))
set_option maxRecDepth 100000 in
set_option maxHeartbeats 4000000 in
theorem w_X5_has_0 {p : Program} {l : Launch} {e : Env} {s : State} {m : MethodId} {args : Array Value} {below : List Frame} {meth : Method} {c : Code} {G : gk_G} {A : Nat → Prop} {Q : State → Prop} {a0 a1 a2 a3 a4 a5 a7 a13 a15 a18 : Nat} (C : gk_C p s m args meth c cX5_has 3 (some .int) yX5_has wsX5_has false G A) {f_now_n : Int32} {f_now_members : (Nat → Int64)} {f_now_kinds : (Nat → Int32)} {x1 : Int32} {x2 : Int32} {f_isKept : Int32} {yy : Int32} (hm : m_X5_has_0 f_now_n f_now_members f_now_kinds x1 x2 = some yy) (kr : ∀ (rv : Int32), yy = rv → Q = MQ below (gk_Q G (some (.int rv)) [(a0, .inr (4, [.ref a1, .ref a7, .int f_isKept, .ref a13, .ref a15, .ref a18])), (a1, .inr (0, [.int f_now_n, .ref a2, .ref a3, .ref a4, .ref a5])), (a2, gk_J G 6 f_now_members), (a3, gk_I G 6 f_now_kinds)] A) args s 0 0 A) {H : Heap} {locs : List Loc} {ls : Array Slot} (h : gk_H G A s [(a0, .inr (4, [.ref a1, .ref a7, .int f_isKept, .ref a13, .ref a15, .ref a18])), (a1, .inr (0, [.int f_now_n, .ref a2, .ref a3, .ref a4, .ref a5])), (a2, gk_J G 6 f_now_members), (a3, gk_I G 6 f_now_kinds)] H locs) (hl : lv_has ls 3 [(0, .ref a0), (1, .int x1), (2, .int x2)]) : W p l e rm_X5_has s m args below meth c H locs 0 0 Q (F0 m 0 ls []) := by
  obtain ⟨hx, hb, hml, hr, hown, hnm, hts, hlk, hK, hSt, hA⟩ := id C
  obtain ⟨hP, hD, hS⟩ := h
  unfold m_X5_has_0 at hm
  refine lv_iload_n hx hb dX5_has_0 rfl (lv_at hl 1 rfl) ?_
  obtain ⟨r5, hq, hm⟩ := gk_bd1_some hm
  refine gk_callS (n := 1) (bytes := cX5_noFamily) (maxL := 1) (ret := (some .boolean)) [(a0, .inr (4, [.ref a1, .ref a7, .int f_isKept, .ref a13, .ref a15, .ref a18])), (a1, .inr (0, [.int f_now_n, .ref a2, .ref a3, .ref a4, .ref a5])), (a2, gk_J G 6 f_now_members), (a3, gk_I G 6 f_now_kinds)] [(a0, .inr (4, [.ref a1, .ref a7, .int f_isKept, .ref a13, .ref a15, .ref a18])), (a1, .inr (0, [.int f_now_n, .ref a2, .ref a3, .ref a4, .ref a5])), (a2, gk_J G 6 f_now_members), (a3, gk_I G 6 f_now_kinds)] [] C ⟨hP, hD, hS⟩ (c_X5_noFamily l G x1 hq) gX5_has_X5_noFamily dX5_has_1 hl.1 [] [0, 1, 2, 3] [0, 1, 2, 3] rfl ⟨rfl, rfl⟩ ⟨Nat.le_of_ble_eq_true rfl, Nat.le_of_ble_eq_true rfl⟩ ⟨by decide +kernel, by decide +kernel, by decide +kernel⟩ rfl (fun h => by cases h) (Nat.le_of_ble_eq_true rfl) rfl rfl rfl rfl (by decide) rfl rfl (fun H locs h => ?_)
  obtain ⟨hP, hD, hS⟩ := h
  refine lv_if_ne (tgt := 15) hx hb dX5_has_4 (by decide) (fun c6 => ?_) (fun c6 => ?_)
  · have hm := gk_if c6 hm
    refine lv_bipush (v := -2) hx hb dX5_has_15 (by decide) ?_
    rw [kr _ (Option.some.inj hm).symm]
    exact gk_iret C ⟨hP, hD, hS⟩ dX5_has_17
  · have hm := gk_it c6 hm
    refine lv_aload_n hx hb dX5_has_7 rfl (lv_at hl 0 rfl) ?_
    refine lv_iload_n hx hb dX5_has_8 rfl (lv_at hl 2 rfl) ?_
    obtain ⟨r7, hq, hm⟩ := gk_bd1_some hm
    refine gk_callV (n := 1) (bytes := cX5_noSet) (maxL := 2) (ret := (some .boolean)) (Cn := RX5) (T := TX5) (N := 6) [(a2, gk_J G 6 f_now_members), (a3, gk_I G 6 f_now_kinds)] [(a0, .inr (4, [.ref a1, .ref a7, .int f_isKept, .ref a13, .ref a15, .ref a18])), (a1, .inr (0, [.int f_now_n, .ref a2, .ref a3, .ref a4, .ref a5])), (a2, gk_J G 6 f_now_members), (a3, gk_I G 6 f_now_kinds)] [] C ⟨hP, hD, hS⟩ (c_X5_noSet l G a0 a1 a2 a3 a4 a5 a7 a13 a15 a18 f_isKept f_now_n x2 hq) gX5_has_X5_noSet dX5_has_9 hl.1 [0, 1] [2, 3] [2, 3, 0, 1] rfl rfl ⟨rfl, rfl⟩ ⟨Nat.le_of_ble_eq_true rfl, Nat.le_of_ble_eq_true rfl⟩ ⟨rfl, by decide +kernel, by decide +kernel, by decide +kernel⟩ rfl (fun h => by cases h) (Nat.le_of_ble_eq_true rfl) rfl rfl rfl rfl (by decide) rfl rfl (fun H locs h => ?_)
    obtain ⟨hP, hD, hS⟩ := h
    refine lv_if_eq (tgt := 18) hx hb dX5_has_12 (by decide) (fun c8 => ?_) (fun c8 => ?_)
    · have hm := gk_it c8 hm
      refine lv_aload_n hx hb dX5_has_18 rfl (lv_at hl 0 rfl) ?_
      refine va_get (D := G.1) (cl := vwCl) (own := RX5) (ref := "ExchangeFamilies") (ci := 4) (v := .ref a1) (C := RX5) (T := TX5) (N := 6) hx hb hts k_X5_has_0 hown hK hP 0 rfl rfl 0 (by decide) (hts _ k_X5_has_1) (fun _ h9 => h9) rfl dX5_has_19 ?_
      refine lv_iload_n hx hb dX5_has_22 rfl (lv_at hl 1 rfl) ?_
      obtain ⟨r9, hq, hm⟩ := gk_bd1_some hm
      refine gk_callV (n := 1) (bytes := cX1_isMissing) (maxL := 2) (ret := (some .boolean)) (Cn := RX1) (T := TX1) (N := 5) [(a0, .inr (4, [.ref a1, .ref a7, .int f_isKept, .ref a13, .ref a15, .ref a18])), (a2, gk_J G 6 f_now_members)] [(a0, .inr (4, [.ref a1, .ref a7, .int f_isKept, .ref a13, .ref a15, .ref a18])), (a1, .inr (0, [.int f_now_n, .ref a2, .ref a3, .ref a4, .ref a5])), (a2, gk_J G 6 f_now_members), (a3, gk_I G 6 f_now_kinds)] [] C ⟨hP, hD, hS⟩ (c_X1_isMissing l G a1 a2 a3 a4 a5 f_now_n f_now_kinds x1 hq) gX5_has_X1_isMissing dX5_has_23 hl.1 [1, 3] [0, 2] [0, 2, 1, 3] rfl rfl ⟨rfl, rfl⟩ ⟨Nat.le_of_ble_eq_true rfl, Nat.le_of_ble_eq_true rfl⟩ ⟨rfl, by decide +kernel, by decide +kernel, by decide +kernel⟩ rfl (fun h => by cases h) (Nat.le_of_ble_eq_true rfl) rfl rfl rfl rfl (by decide) rfl rfl (fun H locs h => ?_)
      obtain ⟨hP, hD, hS⟩ := h
      refine lv_if_eq (tgt := 32) hx hb dX5_has_26 (by decide) (fun c10 => ?_) (fun c10 => ?_)
      · have hm := gk_it c10 hm
        refine lv_aload_n hx hb dX5_has_32 rfl (lv_at hl 0 rfl) ?_
        refine va_get (D := G.1) (cl := vwCl) (own := RX5) (ref := "ExchangeFamilies") (ci := 4) (v := .ref a1) (C := RX5) (T := TX5) (N := 6) hx hb hts k_X5_has_0 hown hK hP 0 rfl rfl 0 (by decide) (hts _ k_X5_has_1) (fun _ h9 => h9) rfl dX5_has_33 ?_
        refine va_get (D := G.1) (cl := vwCl) (own := RX5) (ref := "ExchangeFamilies$Ground") (ci := 0) (v := .ref a2) (C := RX1) (T := TX1) (N := 5) hx hb hts k_X5_has_2 hown hK hP 1 rfl rfl 1 (by decide) (hts _ k_X5_has_3) (fun _ h9 => h9) rfl dX5_has_36 ?_
        refine lv_iload_n hx hb dX5_has_39 rfl (lv_at hl 1 rfl) ?_
        obtain ⟨hi, hm⟩ := gk_ix_some hm
        refine va_lald hx hb hK hP 2 1 rfl rfl hi dX5_has_40 ?_
        refine lv_iload_n hx hb dX5_has_41 rfl (lv_at hl 2 rfl) ?_
        obtain ⟨r11, hq, hm⟩ := gk_bd1_some hm
        refine gk_callS (n := 2) (bytes := cX0_holds) (maxL := 3) (ret := (some .boolean)) [(a0, .inr (4, [.ref a1, .ref a7, .int f_isKept, .ref a13, .ref a15, .ref a18])), (a1, .inr (0, [.int f_now_n, .ref a2, .ref a3, .ref a4, .ref a5])), (a2, gk_J G 6 f_now_members), (a3, gk_I G 6 f_now_kinds)] [(a0, .inr (4, [.ref a1, .ref a7, .int f_isKept, .ref a13, .ref a15, .ref a18])), (a1, .inr (0, [.int f_now_n, .ref a2, .ref a3, .ref a4, .ref a5])), (a2, gk_J G 6 f_now_members), (a3, gk_I G 6 f_now_kinds)] [] C ⟨hP, hD, hS⟩ (c_X0_holds l G (f_now_members x1.toNatClampNeg) x2 hq) gX5_has_X0_holds dX5_has_42 hl.1 [] [0, 1, 2, 3] [0, 1, 2, 3] rfl ⟨rfl, rfl⟩ ⟨Nat.le_of_ble_eq_true rfl, Nat.le_of_ble_eq_true rfl⟩ ⟨by decide +kernel, by decide +kernel, by decide +kernel⟩ rfl (fun h => by cases h) (Nat.le_of_ble_eq_true rfl) rfl rfl rfl rfl (by decide) rfl rfl (fun H locs h => ?_)
        obtain ⟨hP, hD, hS⟩ := h
        refine lv_if_eq (tgt := 52) hx hb dX5_has_45 (by decide) (fun c12 => ?_) (fun c12 => ?_)
        · have hm := gk_it c12 hm
          refine lv_iconst (v := 0) hx hb dX5_has_52 (by decide) ?_
          rw [kr _ (Option.some.inj hm).symm]
          exact gk_iret C ⟨hP, hD, hS⟩ dX5_has_53
        · have hm := gk_if c12 hm
          refine lv_iconst (v := 1) hx hb dX5_has_48 (by decide) ?_
          refine lv_goto (tgt := 53) hx hb dX5_has_49 (by decide) ?_
          rw [kr _ (Option.some.inj hm).symm]
          exact gk_iret C ⟨hP, hD, hS⟩ dX5_has_53
      · have hm := gk_if c10 hm
        refine lv_bipush (v := -11) hx hb dX5_has_29 (by decide) ?_
        rw [kr _ (Option.some.inj hm).symm]
        exact gk_iret C ⟨hP, hD, hS⟩ dX5_has_31
    · have hm := gk_if c8 hm
      refine lv_bipush (v := -2) hx hb dX5_has_15 (by decide) ?_
      rw [kr _ (Option.some.inj hm).symm]
      exact gk_iret C ⟨hP, hD, hS⟩ dX5_has_17
def m_X5_has (f_now_n : Int32) (f_now_members : (Nat → Int64)) (f_now_kinds : (Nat → Int32)) (x1 : Int32) (x2 : Int32) : Option (Int32) := m_X5_has_0 f_now_n f_now_members f_now_kinds x1 x2
theorem c_X5_has (l : Launch) (G : gk_G) (a0 a1 a2 a3 a4 a5 a7 a13 a15 a18 : Nat) (f_isKept : Int32) (f_now_n : Int32) (f_now_members : (Nat → Int64)) (f_now_kinds : (Nat → Int32)) (x1 : Int32) (x2 : Int32) {rv : Int32} (hm : m_X5_has f_now_n f_now_members f_now_kinds x1 x2 = some rv) : gk_M l yX5_has wsX5_has rm_X5_has false G [.ref a0, .int x1, .int x2] [(a0, .inr (4, [.ref a1, .ref a7, .int f_isKept, .ref a13, .ref a15, .ref a18])), (a1, .inr (0, [.int f_now_n, .ref a2, .ref a3, .ref a4, .ref a5])), (a2, gk_J G 6 f_now_members), (a3, gk_I G 6 f_now_kinds)] (some (.int rv)) [(a0, .inr (4, [.ref a1, .ref a7, .int f_isKept, .ref a13, .ref a15, .ref a18])), (a1, .inr (0, [.int f_now_n, .ref a2, .ref a3, .ref a4, .ref a5])), (a2, gk_J G 6 f_now_members), (a3, gk_I G 6 f_now_kinds)] :=
  gk_of (by decide) rfl (Nat.le_of_ble_eq_true rfl) (fun p e s m below meth c A ls C h hl => w_X5_has_0 C hm (fun v0 ez => by cases ez; rfl) h (show lv_has ls 3 [(0, .ref a0), (1, .int x1), (2, .int x2)] from hl))

/-! ===== ExchangeFamilies.member(II)I ===== -/
abbrev rm_X5_member : Room := { frames := 7, cells := 0, slots := 0, locals := 323 }
theorem k_X5_member_0 : ∀ w ∈ u_ws RX5 TX5 6, w ∈ wsX5_member := by decide +kernel
theorem k_X5_member_1 : Cond.fieldLink RX5 12 "ExchangeFamilies" "now" "LExchangeFamilies$Ground;" ∈ wsX5_member := by decide +kernel
theorem k_X5_member_2 : ∀ w ∈ u_ws RX1 TX1 5, w ∈ wsX5_member := by decide +kernel
theorem k_X5_member_3 : Cond.fieldLink RX5 61 "ExchangeFamilies$Ground" "members" "[J" ∈ wsX5_member := by decide +kernel
def m_X5_member_0 (f_now_members : (Nat → Int64)) (f_now_kinds : (Nat → Int32)) (x1 : Int32) (x2 : Int32) : Option (Int32) := gk_bd1 (m_X5_noFamily x1) (fun r6 => (if r6 = (0 : Int32) then (if (-1 : Int32) ≤ x2 then gk_bd1 (m_X1_isMissing f_now_kinds x1) (fun r9 => (if r9 = (0 : Int32) then gk_ix x1 6 ((if x2 = (-1 : Int32) then gk_bd1 (m_J13_bitCount_95d88 (f_now_members x1.toNatClampNeg)) (fun r15 => some r15) else gk_bd1 (m_J13_bitCount_95d88 (f_now_members x1.toNatClampNeg)) (fun r12 => (if x2 < r12 then gk_bd1 (m_X0_atPlace (f_now_members x1.toNatClampNeg) x2) (fun r14 => some r14) else some (-12 : Int32))))) else some (-11 : Int32))) else some (-2 : Int32)) else some (-2 : Int32)))
set_option maxRecDepth 100000 in
set_option maxHeartbeats 4000000 in
theorem w_X5_member_0 {p : Program} {l : Launch} {e : Env} {s : State} {m : MethodId} {args : Array Value} {below : List Frame} {meth : Method} {c : Code} {G : gk_G} {A : Nat → Prop} {Q : State → Prop} {a0 a1 a2 a3 a4 a5 a7 a13 a15 a18 : Nat} (C : gk_C p s m args meth c cX5_member 5 (some .int) yX5_member wsX5_member false G A) {f_now_members : (Nat → Int64)} {f_now_kinds : (Nat → Int32)} {x1 : Int32} {x2 : Int32} {f_isKept : Int32} {f_now_n : Int32} {yy : Int32} (hm : m_X5_member_0 f_now_members f_now_kinds x1 x2 = some yy) (kr : ∀ (rv : Int32), yy = rv → Q = MQ below (gk_Q G (some (.int rv)) [(a0, .inr (4, [.ref a1, .ref a7, .int f_isKept, .ref a13, .ref a15, .ref a18])), (a1, .inr (0, [.int f_now_n, .ref a2, .ref a3, .ref a4, .ref a5])), (a2, gk_J G 6 f_now_members), (a3, gk_I G 6 f_now_kinds)] A) args s 0 0 A) {H : Heap} {locs : List Loc} {ls : Array Slot} (h : gk_H G A s [(a0, .inr (4, [.ref a1, .ref a7, .int f_isKept, .ref a13, .ref a15, .ref a18])), (a1, .inr (0, [.int f_now_n, .ref a2, .ref a3, .ref a4, .ref a5])), (a2, gk_J G 6 f_now_members), (a3, gk_I G 6 f_now_kinds)] H locs) (hl : lv_has ls 5 [(0, .ref a0), (1, .int x1), (2, .int x2)]) : W p l e rm_X5_member s m args below meth c H locs 0 0 Q (F0 m 0 ls []) := by
  obtain ⟨hx, hb, hml, hr, hown, hnm, hts, hlk, hK, hSt, hA⟩ := id C
  obtain ⟨hP, hD, hS⟩ := h
  unfold m_X5_member_0 at hm
  refine lv_iload_n hx hb dX5_member_0 rfl (lv_at hl 1 rfl) ?_
  obtain ⟨r6, hq, hm⟩ := gk_bd1_some hm
  refine gk_callS (n := 1) (bytes := cX5_noFamily) (maxL := 1) (ret := (some .boolean)) [(a0, .inr (4, [.ref a1, .ref a7, .int f_isKept, .ref a13, .ref a15, .ref a18])), (a1, .inr (0, [.int f_now_n, .ref a2, .ref a3, .ref a4, .ref a5])), (a2, gk_J G 6 f_now_members), (a3, gk_I G 6 f_now_kinds)] [(a0, .inr (4, [.ref a1, .ref a7, .int f_isKept, .ref a13, .ref a15, .ref a18])), (a1, .inr (0, [.int f_now_n, .ref a2, .ref a3, .ref a4, .ref a5])), (a2, gk_J G 6 f_now_members), (a3, gk_I G 6 f_now_kinds)] [] C ⟨hP, hD, hS⟩ (c_X5_noFamily l G x1 hq) gX5_member_X5_noFamily dX5_member_1 hl.1 [] [0, 1, 2, 3] [0, 1, 2, 3] rfl ⟨rfl, rfl⟩ ⟨Nat.le_of_ble_eq_true rfl, Nat.le_of_ble_eq_true rfl⟩ ⟨by decide +kernel, by decide +kernel, by decide +kernel⟩ rfl (fun h => by cases h) (Nat.le_of_ble_eq_true rfl) rfl rfl rfl rfl (by decide) rfl rfl (fun H locs h => ?_)
  obtain ⟨hP, hD, hS⟩ := h
  refine lv_if_ne (tgt := 12) hx hb dX5_member_4 (by decide) (fun c7 => ?_) (fun c7 => ?_)
  · have hm := gk_if c7 hm
    refine lv_bipush (v := -2) hx hb dX5_member_12 (by decide) ?_
    rw [kr _ (Option.some.inj hm).symm]
    exact gk_iret C ⟨hP, hD, hS⟩ dX5_member_14
  · have hm := gk_it c7 hm
    refine lv_iload_n hx hb dX5_member_7 rfl (lv_at hl 2 rfl) ?_
    refine lv_iconst (v := -1) hx hb dX5_member_8 (by decide) ?_
    refine lv_icmp_ge (tgt := 15) hx hb dX5_member_9 (by decide) (fun c8 => ?_) (fun c8 => ?_)
    · have hm := gk_it c8 hm
      refine lv_aload_n hx hb dX5_member_15 rfl (lv_at hl 0 rfl) ?_
      refine va_get (D := G.1) (cl := vwCl) (own := RX5) (ref := "ExchangeFamilies") (ci := 4) (v := .ref a1) (C := RX5) (T := TX5) (N := 6) hx hb hts k_X5_member_0 hown hK hP 0 rfl rfl 0 (by decide) (hts _ k_X5_member_1) (fun _ h9 => h9) rfl dX5_member_16 ?_
      refine lv_iload_n hx hb dX5_member_19 rfl (lv_at hl 1 rfl) ?_
      obtain ⟨r9, hq, hm⟩ := gk_bd1_some hm
      refine gk_callV (n := 1) (bytes := cX1_isMissing) (maxL := 2) (ret := (some .boolean)) (Cn := RX1) (T := TX1) (N := 5) [(a0, .inr (4, [.ref a1, .ref a7, .int f_isKept, .ref a13, .ref a15, .ref a18])), (a2, gk_J G 6 f_now_members)] [(a0, .inr (4, [.ref a1, .ref a7, .int f_isKept, .ref a13, .ref a15, .ref a18])), (a1, .inr (0, [.int f_now_n, .ref a2, .ref a3, .ref a4, .ref a5])), (a2, gk_J G 6 f_now_members), (a3, gk_I G 6 f_now_kinds)] [] C ⟨hP, hD, hS⟩ (c_X1_isMissing l G a1 a2 a3 a4 a5 f_now_n f_now_kinds x1 hq) gX5_member_X1_isMissing dX5_member_20 hl.1 [1, 3] [0, 2] [0, 2, 1, 3] rfl rfl ⟨rfl, rfl⟩ ⟨Nat.le_of_ble_eq_true rfl, Nat.le_of_ble_eq_true rfl⟩ ⟨rfl, by decide +kernel, by decide +kernel, by decide +kernel⟩ rfl (fun h => by cases h) (Nat.le_of_ble_eq_true rfl) rfl rfl rfl rfl (by decide) rfl rfl (fun H locs h => ?_)
      obtain ⟨hP, hD, hS⟩ := h
      refine lv_if_eq (tgt := 29) hx hb dX5_member_23 (by decide) (fun c10 => ?_) (fun c10 => ?_)
      · have hm := gk_it c10 hm
        refine lv_aload_n hx hb dX5_member_29 rfl (lv_at hl 0 rfl) ?_
        refine va_get (D := G.1) (cl := vwCl) (own := RX5) (ref := "ExchangeFamilies") (ci := 4) (v := .ref a1) (C := RX5) (T := TX5) (N := 6) hx hb hts k_X5_member_0 hown hK hP 0 rfl rfl 0 (by decide) (hts _ k_X5_member_1) (fun _ h9 => h9) rfl dX5_member_30 ?_
        refine va_get (D := G.1) (cl := vwCl) (own := RX5) (ref := "ExchangeFamilies$Ground") (ci := 0) (v := .ref a2) (C := RX1) (T := TX1) (N := 5) hx hb hts k_X5_member_2 hown hK hP 1 rfl rfl 1 (by decide) (hts _ k_X5_member_3) (fun _ h9 => h9) rfl dX5_member_33 ?_
        refine lv_iload_n hx hb dX5_member_36 rfl (lv_at hl 1 rfl) ?_
        obtain ⟨hi, hm⟩ := gk_ix_some hm
        refine va_lald hx hb hK hP 2 1 rfl rfl hi dX5_member_37 ?_
        refine lv_lstore_n (lv' := [(3, .long (f_now_members x1.toNatClampNeg)), (0, .ref a0), (1, .int x1), (2, .int x2)]) hx hb dX5_member_38 rfl hl (by decide) rfl (fun ls hl => ?_)
        refine lv_iload_n hx hb dX5_member_39 rfl (lv_at hl 3 rfl) ?_
        refine lv_iconst (v := -1) hx hb dX5_member_40 (by decide) ?_
        refine lv_icmp_ne (tgt := 49) hx hb dX5_member_41 (by decide) (fun c11 => ?_) (fun c11 => ?_)
        · have hm := gk_if c11 hm
          refine lv_iload_n hx hb dX5_member_49 rfl (lv_at hl 3 rfl) ?_
          refine lv_lload_n hx hb dX5_member_50 rfl (lv_at hl 0 rfl) ?_
          obtain ⟨r12, hq, hm⟩ := gk_bd1_some hm
          refine gk_callS (n := 1) (bytes := cJ13_bitCount_95d88) (maxL := 2) (ret := (some .int)) [(a0, .inr (4, [.ref a1, .ref a7, .int f_isKept, .ref a13, .ref a15, .ref a18])), (a1, .inr (0, [.int f_now_n, .ref a2, .ref a3, .ref a4, .ref a5])), (a2, gk_J G 6 f_now_members), (a3, gk_I G 6 f_now_kinds)] [(a0, .inr (4, [.ref a1, .ref a7, .int f_isKept, .ref a13, .ref a15, .ref a18])), (a1, .inr (0, [.int f_now_n, .ref a2, .ref a3, .ref a4, .ref a5])), (a2, gk_J G 6 f_now_members), (a3, gk_I G 6 f_now_kinds)] [.int x2] C ⟨hP, hD, hS⟩ (c_J13_bitCount_95d88 l G (f_now_members x1.toNatClampNeg) hq) gX5_member_J13_bitCount_95d88 dX5_member_51 hl.1 [] [0, 1, 2, 3] [0, 1, 2, 3] rfl ⟨rfl, rfl⟩ ⟨Nat.le_of_ble_eq_true rfl, Nat.le_of_ble_eq_true rfl⟩ ⟨by decide +kernel, by decide +kernel, by decide +kernel⟩ rfl (fun h => by cases h) (Nat.le_of_ble_eq_true rfl) rfl rfl rfl rfl (by decide) rfl rfl (fun H locs h => ?_)
          obtain ⟨hP, hD, hS⟩ := h
          refine lv_icmp_lt (tgt := 60) hx hb dX5_member_54 (by decide) (fun c13 => ?_) (fun c13 => ?_)
          · have hm := gk_it c13 hm
            refine lv_lload_n hx hb dX5_member_60 rfl (lv_at hl 0 rfl) ?_
            refine lv_iload_n hx hb dX5_member_61 rfl (lv_at hl 3 rfl) ?_
            obtain ⟨r14, hq, hm⟩ := gk_bd1_some hm
            refine gk_callS (n := 2) (bytes := cX0_atPlace) (maxL := 6) (ret := (some .int)) [(a0, .inr (4, [.ref a1, .ref a7, .int f_isKept, .ref a13, .ref a15, .ref a18])), (a1, .inr (0, [.int f_now_n, .ref a2, .ref a3, .ref a4, .ref a5])), (a2, gk_J G 6 f_now_members), (a3, gk_I G 6 f_now_kinds)] [(a0, .inr (4, [.ref a1, .ref a7, .int f_isKept, .ref a13, .ref a15, .ref a18])), (a1, .inr (0, [.int f_now_n, .ref a2, .ref a3, .ref a4, .ref a5])), (a2, gk_J G 6 f_now_members), (a3, gk_I G 6 f_now_kinds)] [] C ⟨hP, hD, hS⟩ (c_X0_atPlace l G (f_now_members x1.toNatClampNeg) x2 hq) gX5_member_X0_atPlace dX5_member_62 hl.1 [] [0, 1, 2, 3] [0, 1, 2, 3] rfl ⟨rfl, rfl⟩ ⟨Nat.le_of_ble_eq_true rfl, Nat.le_of_ble_eq_true rfl⟩ ⟨by decide +kernel, by decide +kernel, by decide +kernel⟩ rfl (fun h => by cases h) (Nat.le_of_ble_eq_true rfl) rfl rfl rfl rfl (by decide) rfl rfl (fun H locs h => ?_)
            obtain ⟨hP, hD, hS⟩ := h
            rw [kr _ (Option.some.inj hm).symm]
            exact gk_iret C ⟨hP, hD, hS⟩ dX5_member_65
          · have hm := gk_if c13 hm
            refine lv_bipush (v := -12) hx hb dX5_member_57 (by decide) ?_
            rw [kr _ (Option.some.inj hm).symm]
            exact gk_iret C ⟨hP, hD, hS⟩ dX5_member_59
        · have hm := gk_it c11 hm
          refine lv_lload_n hx hb dX5_member_44 rfl (lv_at hl 0 rfl) ?_
          obtain ⟨r15, hq, hm⟩ := gk_bd1_some hm
          refine gk_callS (n := 1) (bytes := cJ13_bitCount_95d88) (maxL := 2) (ret := (some .int)) [(a0, .inr (4, [.ref a1, .ref a7, .int f_isKept, .ref a13, .ref a15, .ref a18])), (a1, .inr (0, [.int f_now_n, .ref a2, .ref a3, .ref a4, .ref a5])), (a2, gk_J G 6 f_now_members), (a3, gk_I G 6 f_now_kinds)] [(a0, .inr (4, [.ref a1, .ref a7, .int f_isKept, .ref a13, .ref a15, .ref a18])), (a1, .inr (0, [.int f_now_n, .ref a2, .ref a3, .ref a4, .ref a5])), (a2, gk_J G 6 f_now_members), (a3, gk_I G 6 f_now_kinds)] [] C ⟨hP, hD, hS⟩ (c_J13_bitCount_95d88 l G (f_now_members x1.toNatClampNeg) hq) gX5_member_J13_bitCount_95d88 dX5_member_45 hl.1 [] [0, 1, 2, 3] [0, 1, 2, 3] rfl ⟨rfl, rfl⟩ ⟨Nat.le_of_ble_eq_true rfl, Nat.le_of_ble_eq_true rfl⟩ ⟨by decide +kernel, by decide +kernel, by decide +kernel⟩ rfl (fun h => by cases h) (Nat.le_of_ble_eq_true rfl) rfl rfl rfl rfl (by decide) rfl rfl (fun H locs h => ?_)
          obtain ⟨hP, hD, hS⟩ := h
          rw [kr _ (Option.some.inj hm).symm]
          exact gk_iret C ⟨hP, hD, hS⟩ dX5_member_48
      · have hm := gk_if c10 hm
        refine lv_bipush (v := -11) hx hb dX5_member_26 (by decide) ?_
        rw [kr _ (Option.some.inj hm).symm]
        exact gk_iret C ⟨hP, hD, hS⟩ dX5_member_28
    · have hm := gk_if c8 hm
      refine lv_bipush (v := -2) hx hb dX5_member_12 (by decide) ?_
      rw [kr _ (Option.some.inj hm).symm]
      exact gk_iret C ⟨hP, hD, hS⟩ dX5_member_14
def m_X5_member (f_now_members : (Nat → Int64)) (f_now_kinds : (Nat → Int32)) (x1 : Int32) (x2 : Int32) : Option (Int32) := m_X5_member_0 f_now_members f_now_kinds x1 x2
theorem c_X5_member (l : Launch) (G : gk_G) (a0 a1 a2 a3 a4 a5 a7 a13 a15 a18 : Nat) (f_isKept : Int32) (f_now_n : Int32) (f_now_members : (Nat → Int64)) (f_now_kinds : (Nat → Int32)) (x1 : Int32) (x2 : Int32) {rv : Int32} (hm : m_X5_member f_now_members f_now_kinds x1 x2 = some rv) : gk_M l yX5_member wsX5_member rm_X5_member false G [.ref a0, .int x1, .int x2] [(a0, .inr (4, [.ref a1, .ref a7, .int f_isKept, .ref a13, .ref a15, .ref a18])), (a1, .inr (0, [.int f_now_n, .ref a2, .ref a3, .ref a4, .ref a5])), (a2, gk_J G 6 f_now_members), (a3, gk_I G 6 f_now_kinds)] (some (.int rv)) [(a0, .inr (4, [.ref a1, .ref a7, .int f_isKept, .ref a13, .ref a15, .ref a18])), (a1, .inr (0, [.int f_now_n, .ref a2, .ref a3, .ref a4, .ref a5])), (a2, gk_J G 6 f_now_members), (a3, gk_I G 6 f_now_kinds)] :=
  gk_of (by decide) rfl (Nat.le_of_ble_eq_true rfl) (fun p e s m below meth c A ls C h hl => w_X5_member_0 C hm (fun v0 ez => by cases ez; rfl) h (show lv_has ls 5 [(0, .ref a0), (1, .int x1), (2, .int x2)] from hl))

/-! ===== ExchangeFamilies.greatestBit(I)I ===== -/
abbrev rm_X5_greatestBit : Room := { frames := 1, cells := 0, slots := 0, locals := 64 }
def m_X5_greatestBit_B3 (x0 : Int32) (x1 : Int32) : Option ((Int32) ⊕ ((Int32) ⊕ (Unit))) := (if x1 < (0 : Int32) then some (.inr (.inr ())) else (if ((x0 >>> (x1 &&& 31)) &&& (1 : Int32)) = (0 : Int32) then some (.inl (x1 + (-1))) else some (.inr (.inl x1))))
set_option maxRecDepth 100000 in
set_option maxHeartbeats 4000000 in
theorem w_X5_greatestBit_B3 {p : Program} {l : Launch} {e : Env} {s : State} {m : MethodId} {args : Array Value} {below : List Frame} {meth : Method} {c : Code} {G : gk_G} {A : Nat → Prop} {Q : State → Prop} (C : gk_C p s m args meth c cX5_greatestBit 2 (some .int) yX5_greatestBit wsX5_greatestBit false G A) {x0 : Int32} {x1 : Int32} {yy : (Int32) ⊕ ((Int32) ⊕ (Unit))} (hm : m_X5_greatestBit_B3 x0 x1 = some yy) (kl : ∀ (x1 : Int32), yy = .inl x1 → ∀ (H : Heap) (locs : List Loc) (ls : Array Slot), gk_H G A s [] H locs → lv_has ls 2 [(0, .int x0), (1, .int x1)] → W p l e rm_X5_greatestBit s m args below meth c H locs 0 0 Q (F0 m 3 ls [])) (kx : yy = .inr (.inr ()) → ∀ (H : Heap) (locs : List Loc) (ls : Array Slot), gk_H G A s [] H locs → lv_has ls 2 [] → W p l e rm_X5_greatestBit s m args below meth c H locs 0 0 Q (F0 m 23 ls [])) (kr : ∀ (rv : Int32), yy = .inr (.inl rv) → Q = MQ below (gk_Q G (some (.int rv)) [] A) args s 0 0 A) {H : Heap} {locs : List Loc} {ls : Array Slot} (h : gk_H G A s [] H locs) (hl : lv_has ls 2 [(0, .int x0), (1, .int x1)]) : W p l e rm_X5_greatestBit s m args below meth c H locs 0 0 Q (F0 m 3 ls []) := by
  obtain ⟨hx, hb, hml, hr, hown, hnm, hts, hlk, hK, hSt, hA⟩ := id C
  obtain ⟨hP, hD, hS⟩ := h
  unfold m_X5_greatestBit_B3 at hm
  refine lv_iload_n hx hb dX5_greatestBit_3 rfl (lv_at hl 1 rfl) ?_
  refine lv_if_lt (tgt := 23) hx hb dX5_greatestBit_4 (by decide) (fun c3 => ?_) (fun c3 => ?_)
  · have hm := gk_it c3 hm
    exact kx (Option.some.inj hm).symm _ _ _ ⟨hP, hD, hS⟩ (lv_sub hl [] rfl)
  · have hm := gk_if c3 hm
    refine lv_iload_n hx hb dX5_greatestBit_7 rfl (lv_at hl 0 rfl) ?_
    refine lv_iload_n hx hb dX5_greatestBit_8 rfl (lv_at hl 1 rfl) ?_
    refine lv_ishr hx hb dX5_greatestBit_9 ?_
    refine lv_iconst (v := 1) hx hb dX5_greatestBit_10 (by decide) ?_
    refine lv_iand hx hb dX5_greatestBit_11 ?_
    refine lv_if_eq (tgt := 17) hx hb dX5_greatestBit_12 (by decide) (fun c4 => ?_) (fun c4 => ?_)
    · have hm := gk_it c4 hm
      refine lv_iinc (v := x1 + (-1)) (lv' := [(1, .int (x1 + (-1))), (0, .int x0)]) hx hb dX5_greatestBit_17 hl (k := 1) rfl rfl (by decide) rfl (fun ls hl => ?_)
      refine lv_goto (tgt := 3) hx hb dX5_greatestBit_20 (by decide) ?_
      exact kl _ (Option.some.inj hm).symm _ _ _ ⟨hP, hD, hS⟩ (lv_sub hl [1, 0] rfl)
    · have hm := gk_if c4 hm
      refine lv_iload_n hx hb dX5_greatestBit_15 rfl (lv_at hl 1 rfl) ?_
      rw [kr _ (Option.some.inj hm).symm]
      exact gk_iret C ⟨hP, hD, hS⟩ dX5_greatestBit_16
set_option maxRecDepth 100000 in
set_option maxHeartbeats 4000000 in
theorem w_X5_greatestBit_L3 {p : Program} {l : Launch} {e : Env} {s : State} {m : MethodId} {args : Array Value} {below : List Frame} {meth : Method} {c : Code} {G : gk_G} {A : Nat → Prop} {Q : State → Prop} (C : gk_C p s m args meth c cX5_greatestBit 2 (some .int) yX5_greatestBit wsX5_greatestBit false G A) {x0 : Int32} {x1 : Int32} {k : Nat} (hm : gk_lp (fun z => m_X5_greatestBit_B3 x0 z) k x1 = some (.inr ())) (kx : ∀ (H : Heap) (locs : List Loc) (ls : Array Slot), gk_H G A s [] H locs → lv_has ls 2 [] → W p l e rm_X5_greatestBit s m args below meth c H locs 0 0 Q (F0 m 23 ls [])) {H : Heap} {locs : List Loc} {ls : Array Slot} (h : gk_H G A s [] H locs) (hl : lv_has ls 2 [(0, .int x0), (1, .int x1)]) : W p l e rm_X5_greatestBit s m args below meth c H locs 0 0 Q (F0 m 3 ls []) :=
  gk_lp_some (P := fun z => ∀ (H : Heap) (locs : List Loc) (ls : Array Slot), gk_H G A s [] H locs → lv_has ls 2 [(0, .int x0), (1, .int z)] → W p l e rm_X5_greatestBit s m args below meth c H locs 0 0 Q (F0 m 3 ls [])) (E := fun r => (r = .inr () → ∀ (H : Heap) (locs : List Loc) (ls : Array Slot), gk_H G A s [] H locs → lv_has ls 2 [] → W p l e rm_X5_greatestBit s m args below meth c H locs 0 0 Q (F0 m 23 ls [])) ∧ (∀ (rv : Int32), r = .inl rv → Q = MQ below (gk_Q G (some (.int rv)) [] A) args s 0 0 A)) (fun z x hf kl ke H locs ls h hl => w_X5_greatestBit_B3 C hf (fun v0 ez => kl v0 ez) (fun ez => (ke _ ez).1 rfl) (fun v0 ez => (ke _ ez).2 v0 rfl) h hl) k x1 _ hm (⟨fun ez => (by cases ez; exact kx), fun v0 ez => (by cases ez)⟩) _ _ _ h hl
set_option maxRecDepth 100000 in
set_option maxHeartbeats 4000000 in
theorem w_X5_greatestBit_L3r {p : Program} {l : Launch} {e : Env} {s : State} {m : MethodId} {args : Array Value} {below : List Frame} {meth : Method} {c : Code} {G : gk_G} {A : Nat → Prop} {Q : State → Prop} (C : gk_C p s m args meth c cX5_greatestBit 2 (some .int) yX5_greatestBit wsX5_greatestBit false G A) {x0 : Int32} {x1 : Int32} {k : Nat} {rv : Int32} (hm : gk_lp (fun z => m_X5_greatestBit_B3 x0 z) k x1 = some (.inl rv)) (kr : Q = MQ below (gk_Q G (some (.int rv)) [] A) args s 0 0 A) {H : Heap} {locs : List Loc} {ls : Array Slot} (h : gk_H G A s [] H locs) (hl : lv_has ls 2 [(0, .int x0), (1, .int x1)]) : W p l e rm_X5_greatestBit s m args below meth c H locs 0 0 Q (F0 m 3 ls []) :=
  gk_lp_some (P := fun z => ∀ (H : Heap) (locs : List Loc) (ls : Array Slot), gk_H G A s [] H locs → lv_has ls 2 [(0, .int x0), (1, .int z)] → W p l e rm_X5_greatestBit s m args below meth c H locs 0 0 Q (F0 m 3 ls [])) (E := fun r => (r = .inr () → ∀ (H : Heap) (locs : List Loc) (ls : Array Slot), gk_H G A s [] H locs → lv_has ls 2 [] → W p l e rm_X5_greatestBit s m args below meth c H locs 0 0 Q (F0 m 23 ls [])) ∧ (∀ (rv : Int32), r = .inl rv → Q = MQ below (gk_Q G (some (.int rv)) [] A) args s 0 0 A)) (fun z x hf kl ke H locs ls h hl => w_X5_greatestBit_B3 C hf (fun v0 ez => kl v0 ez) (fun ez => (ke _ ez).1 rfl) (fun v0 ez => (ke _ ez).2 v0 rfl) h hl) k x1 _ hm (⟨fun ez => (by cases ez), fun v0 ez => (by cases ez; exact kr)⟩) _ _ _ h hl
def m_X5_greatestBit_0 (x0 : Int32) : Option (Int32) := gk_bs0 (gk_lp (fun z => m_X5_greatestBit_B3 x0 z) gk_fu (6 : Int32)) (fun r => some r) (some (-1 : Int32))
set_option maxRecDepth 100000 in
set_option maxHeartbeats 4000000 in
theorem w_X5_greatestBit_0 {p : Program} {l : Launch} {e : Env} {s : State} {m : MethodId} {args : Array Value} {below : List Frame} {meth : Method} {c : Code} {G : gk_G} {A : Nat → Prop} {Q : State → Prop} (C : gk_C p s m args meth c cX5_greatestBit 2 (some .int) yX5_greatestBit wsX5_greatestBit false G A) {x0 : Int32} {yy : Int32} (hm : m_X5_greatestBit_0 x0 = some yy) (kr : ∀ (rv : Int32), yy = rv → Q = MQ below (gk_Q G (some (.int rv)) [] A) args s 0 0 A) {H : Heap} {locs : List Loc} {ls : Array Slot} (h : gk_H G A s [] H locs) (hl : lv_has ls 2 [(0, .int x0)]) : W p l e rm_X5_greatestBit s m args below meth c H locs 0 0 Q (F0 m 0 ls []) := by
  obtain ⟨hx, hb, hml, hr, hown, hnm, hts, hlk, hK, hSt, hA⟩ := id C
  obtain ⟨hP, hD, hS⟩ := h
  unfold m_X5_greatestBit_0 at hm
  refine lv_bipush (v := 6) hx hb dX5_greatestBit_0 (by decide) ?_
  refine lv_istore_n (lv' := [(1, .int (6 : Int32)), (0, .int x0)]) hx hb dX5_greatestBit_2 rfl hl (by decide) rfl (fun ls hl => ?_)
  rcases gk_bs0_some hm with ⟨r5, hq, hm⟩ | ⟨hq, hm⟩
  · exact w_X5_greatestBit_L3r C hq (kr _ (Option.some.inj hm).symm) ⟨hP, hD, hS⟩ (lv_sub hl [1, 0] rfl)
  refine w_X5_greatestBit_L3 C hq (fun H locs ls h hl => ?_) ⟨hP, hD, hS⟩ (lv_sub hl [1, 0] rfl)
  obtain ⟨hP, hD, hS⟩ := h
  refine lv_iconst (v := -1) hx hb dX5_greatestBit_23 (by decide) ?_
  rw [kr _ (Option.some.inj hm).symm]
  exact gk_iret C ⟨hP, hD, hS⟩ dX5_greatestBit_24
def m_X5_greatestBit (x0 : Int32) : Option (Int32) := m_X5_greatestBit_0 x0
theorem c_X5_greatestBit (l : Launch) (G : gk_G) (x0 : Int32) {rv : Int32} (hm : m_X5_greatestBit x0 = some rv) : gk_M l yX5_greatestBit wsX5_greatestBit rm_X5_greatestBit false G [.int x0] [] (some (.int rv)) [] :=
  gk_of (by decide) rfl (Nat.le_of_ble_eq_true rfl) (fun p e s m below meth c A ls C h hl => w_X5_greatestBit_0 C hm (fun v0 ez => by cases ez; rfl) h (show lv_has ls 2 [(0, .int x0)] from hl))

/-! ===== ExchangeFamilies.leastBit(I)I ===== -/
abbrev rm_X5_leastBit : Room := { frames := 3, cells := 0, slots := 0, locals := 148 }
def m_X5_leastBit_0 (x0 : Int32) : Option (Int32) := (if x0 = (0 : Int32) then some (-1 : Int32) else gk_bd1 (m_J6_bitCount_0f7a4 ((x0 &&& (-x0)) - (1 : Int32))) (fun r3 => some r3))
set_option maxRecDepth 100000 in
set_option maxHeartbeats 4000000 in
theorem w_X5_leastBit_0 {p : Program} {l : Launch} {e : Env} {s : State} {m : MethodId} {args : Array Value} {below : List Frame} {meth : Method} {c : Code} {G : gk_G} {A : Nat → Prop} {Q : State → Prop} (C : gk_C p s m args meth c cX5_leastBit 1 (some .int) yX5_leastBit wsX5_leastBit false G A) {x0 : Int32} {yy : Int32} (hm : m_X5_leastBit_0 x0 = some yy) (kr : ∀ (rv : Int32), yy = rv → Q = MQ below (gk_Q G (some (.int rv)) [] A) args s 0 0 A) {H : Heap} {locs : List Loc} {ls : Array Slot} (h : gk_H G A s [] H locs) (hl : lv_has ls 1 [(0, .int x0)]) : W p l e rm_X5_leastBit s m args below meth c H locs 0 0 Q (F0 m 0 ls []) := by
  obtain ⟨hx, hb, hml, hr, hown, hnm, hts, hlk, hK, hSt, hA⟩ := id C
  obtain ⟨hP, hD, hS⟩ := h
  unfold m_X5_leastBit_0 at hm
  refine lv_iload_n hx hb dX5_leastBit_0 rfl (lv_at hl 0 rfl) ?_
  refine lv_if_ne (tgt := 8) hx hb dX5_leastBit_1 (by decide) (fun c2 => ?_) (fun c2 => ?_)
  · have hm := gk_if c2 hm
    refine lv_iload_n hx hb dX5_leastBit_8 rfl (lv_at hl 0 rfl) ?_
    refine lv_iload_n hx hb dX5_leastBit_9 rfl (lv_at hl 0 rfl) ?_
    refine lv_ineg hx hb dX5_leastBit_10 ?_
    refine lv_iand hx hb dX5_leastBit_11 ?_
    refine lv_iconst (v := 1) hx hb dX5_leastBit_12 (by decide) ?_
    refine lv_isub hx hb dX5_leastBit_13 ?_
    obtain ⟨r3, hq, hm⟩ := gk_bd1_some hm
    refine gk_callS (n := 1) (bytes := cJ6_bitCount_0f7a4) (maxL := 1) (ret := (some .int)) [] [] [] C ⟨hP, hD, hS⟩ (c_J6_bitCount_0f7a4 l G ((x0 &&& (-x0)) - (1 : Int32)) hq) gX5_leastBit_J6_bitCount_0f7a4 dX5_leastBit_14 hl.1 [] [] [] rfl ⟨rfl, rfl⟩ ⟨Nat.le_of_ble_eq_true rfl, Nat.le_of_ble_eq_true rfl⟩ ⟨by decide +kernel, by decide +kernel, by decide +kernel⟩ rfl (fun h => by cases h) (Nat.le_of_ble_eq_true rfl) rfl rfl rfl rfl (by decide) rfl rfl (fun H locs h => ?_)
    obtain ⟨hP, hD, hS⟩ := h
    rw [kr _ (Option.some.inj hm).symm]
    exact gk_iret C ⟨hP, hD, hS⟩ dX5_leastBit_17
  · have hm := gk_it c2 hm
    refine lv_iconst (v := -1) hx hb dX5_leastBit_4 (by decide) ?_
    refine lv_goto (tgt := 17) hx hb dX5_leastBit_5 (by decide) ?_
    rw [kr _ (Option.some.inj hm).symm]
    exact gk_iret C ⟨hP, hD, hS⟩ dX5_leastBit_17
def m_X5_leastBit (x0 : Int32) : Option (Int32) := m_X5_leastBit_0 x0
theorem c_X5_leastBit (l : Launch) (G : gk_G) (x0 : Int32) {rv : Int32} (hm : m_X5_leastBit x0 = some rv) : gk_M l yX5_leastBit wsX5_leastBit rm_X5_leastBit false G [.int x0] [] (some (.int rv)) [] :=
  gk_of (by decide) rfl (Nat.le_of_ble_eq_true rfl) (fun p e s m below meth c A ls C h hl => w_X5_leastBit_0 C hm (fun v0 ez => by cases ez; rfl) h (show lv_has ls 1 [(0, .int x0)] from hl))

/-! ===== ExchangeFamilies.of(II)I ===== -/
abbrev rm_X5_of : Room := { frames := 13, cells := 0, slots := 0, locals := 592 }
theorem k_X5_of_0 : ∀ w ∈ u_ws RX5 TX5 6, w ∈ wsX5_of := by decide +kernel
theorem k_X5_of_1 : Cond.fieldLink RX5 12 "ExchangeFamilies" "now" "LExchangeFamilies$Ground;" ∈ wsX5_of := by decide +kernel
theorem k_X5_of_2 : ∀ w ∈ u_ws RX1 TX1 5, w ∈ wsX5_of := by decide +kernel
theorem k_X5_of_3 : Cond.fieldLink RX5 61 "ExchangeFamilies$Ground" "members" "[J" ∈ wsX5_of := by decide +kernel
theorem k_X5_of_4 : Cond.fieldLink RX5 112 "ExchangeFamilies$Ground" "kinds" "[I" ∈ wsX5_of := by decide +kernel
theorem k_X5_of_5 : Cond.fieldLink RX5 46 "ExchangeFamilies$Ground" "n" "I" ∈ wsX5_of := by decide +kernel
def m_X5_of_0 (f_now_n : Int32) (f_now_members : (Nat → Int64)) (f_now_kinds : (Nat → Int32)) (x1 : Int32) (x2 : Int32) : Option (Int32) := gk_bd1 (m_X5_noFamily x1) (fun r15 => (if r15 = (0 : Int32) then (if x2 < (0 : Int32) then some (-2 : Int32) else (if x2 ≤ (7 : Int32) then gk_bd1 (m_X1_isMissing f_now_kinds x1) (fun r19 => (if r19 = (0 : Int32) then gk_ix x1 6 (gk_bd1 (m_X0_sizes (f_now_members x1.toNatClampNeg)) (fun r21 => (if x2 = 0 then gk_ix x1 6 (some (f_now_kinds x1.toNatClampNeg)) else (if x2 = 1 then gk_bd1 (m_X0_isExchanging (f_now_members x1.toNatClampNeg) f_now_n) (fun r24 => (if r24 = (0 : Int32) then some (0 : Int32) else some (1 : Int32))) else (if x2 = 2 then gk_bd1 (m_X0_isEven r21) (fun r27 => (if r27 = (0 : Int32) then some (0 : Int32) else some (1 : Int32))) else (if x2 = 3 then gk_bd1 (m_J6_bitCount_0f7a4 r21) (fun r30 => (if (1 : Int32) < r30 then some (0 : Int32) else some (1 : Int32))) else (if x2 = 4 then gk_bd1 (m_X0_loops (f_now_members x1.toNatClampNeg) f_now_n) (fun r33 => some r33) else (if x2 = 5 then gk_bd1 (m_X0_coloops (f_now_members x1.toNatClampNeg) f_now_n) (fun r35 => some r35) else (if x2 = 6 then gk_bd1 (m_X5_leastBit r21) (fun r37 => some r37) else gk_bd1 (m_X5_greatestBit r21) (fun r38 => some r38)))))))))) else some (-11 : Int32))) else some (-2 : Int32))) else some (-2 : Int32)))
set_option maxRecDepth 100000 in
set_option maxHeartbeats 4000000 in
theorem w_X5_of_0 {p : Program} {l : Launch} {e : Env} {s : State} {m : MethodId} {args : Array Value} {below : List Frame} {meth : Method} {c : Code} {G : gk_G} {A : Nat → Prop} {Q : State → Prop} {a0 a1 a2 a3 a4 a5 a7 a13 a15 a18 : Nat} (C : gk_C p s m args meth c cX5_of 6 (some .int) yX5_of wsX5_of true G A) {f_now_n : Int32} {f_now_members : (Nat → Int64)} {f_now_kinds : (Nat → Int32)} {x1 : Int32} {x2 : Int32} {f_isKept : Int32} {yy : Int32} (hm : m_X5_of_0 f_now_n f_now_members f_now_kinds x1 x2 = some yy) (kr : ∀ (rv : Int32), yy = rv → Q = MQ below (gk_Q G (some (.int rv)) [(a0, .inr (4, [.ref a1, .ref a7, .int f_isKept, .ref a13, .ref a15, .ref a18])), (a1, .inr (0, [.int f_now_n, .ref a2, .ref a3, .ref a4, .ref a5])), (a2, gk_J G 6 f_now_members), (a3, gk_I G 6 f_now_kinds)] A) args s 0 0 A) {H : Heap} {locs : List Loc} {ls : Array Slot} (h : gk_H G A s [(a0, .inr (4, [.ref a1, .ref a7, .int f_isKept, .ref a13, .ref a15, .ref a18])), (a1, .inr (0, [.int f_now_n, .ref a2, .ref a3, .ref a4, .ref a5])), (a2, gk_J G 6 f_now_members), (a3, gk_I G 6 f_now_kinds)] H locs) (hl : lv_has ls 6 [(0, .ref a0), (1, .int x1), (2, .int x2)]) : W p l e rm_X5_of s m args below meth c H locs 0 0 Q (F0 m 0 ls []) := by
  obtain ⟨hx, hb, hml, hr, hown, hnm, hts, hlk, hK, hSt, hA⟩ := id C
  obtain ⟨hP, hD, hS⟩ := h
  unfold m_X5_of_0 at hm
  refine lv_iload_n hx hb dX5_of_0 rfl (lv_at hl 1 rfl) ?_
  obtain ⟨r15, hq, hm⟩ := gk_bd1_some hm
  refine gk_callS (n := 1) (bytes := cX5_noFamily) (maxL := 1) (ret := (some .boolean)) [(a0, .inr (4, [.ref a1, .ref a7, .int f_isKept, .ref a13, .ref a15, .ref a18])), (a1, .inr (0, [.int f_now_n, .ref a2, .ref a3, .ref a4, .ref a5])), (a2, gk_J G 6 f_now_members), (a3, gk_I G 6 f_now_kinds)] [(a0, .inr (4, [.ref a1, .ref a7, .int f_isKept, .ref a13, .ref a15, .ref a18])), (a1, .inr (0, [.int f_now_n, .ref a2, .ref a3, .ref a4, .ref a5])), (a2, gk_J G 6 f_now_members), (a3, gk_I G 6 f_now_kinds)] [] C ⟨hP, hD, hS⟩ (c_X5_noFamily l G x1 hq) gX5_of_X5_noFamily dX5_of_1 hl.1 [] [0, 1, 2, 3] [0, 1, 2, 3] rfl ⟨rfl, rfl⟩ ⟨Nat.le_of_ble_eq_true rfl, Nat.le_of_ble_eq_true rfl⟩ ⟨by decide +kernel, by decide +kernel, by decide +kernel⟩ rfl (fun h => by cases h) (Nat.le_of_ble_eq_true rfl) rfl rfl rfl rfl (by decide) rfl rfl (fun H locs h => ?_)
  obtain ⟨hP, hD, hS⟩ := h
  refine lv_if_ne (tgt := 17) hx hb dX5_of_4 (by decide) (fun c16 => ?_) (fun c16 => ?_)
  · have hm := gk_if c16 hm
    refine lv_bipush (v := -2) hx hb dX5_of_17 (by decide) ?_
    rw [kr _ (Option.some.inj hm).symm]
    exact gk_iret C ⟨hP, hD, hS⟩ dX5_of_19
  · have hm := gk_it c16 hm
    refine lv_iload_n hx hb dX5_of_7 rfl (lv_at hl 2 rfl) ?_
    refine lv_if_lt (tgt := 17) hx hb dX5_of_8 (by decide) (fun c17 => ?_) (fun c17 => ?_)
    · have hm := gk_it c17 hm
      refine lv_bipush (v := -2) hx hb dX5_of_17 (by decide) ?_
      rw [kr _ (Option.some.inj hm).symm]
      exact gk_iret C ⟨hP, hD, hS⟩ dX5_of_19
    · have hm := gk_if c17 hm
      refine lv_iload_n hx hb dX5_of_11 rfl (lv_at hl 2 rfl) ?_
      refine lv_bipush (v := 7) hx hb dX5_of_12 (by decide) ?_
      refine lv_icmp_le (tgt := 20) hx hb dX5_of_14 (by decide) (fun c18 => ?_) (fun c18 => ?_)
      · have hm := gk_it c18 hm
        refine lv_aload_n hx hb dX5_of_20 rfl (lv_at hl 0 rfl) ?_
        refine va_get (D := G.1) (cl := vwCl) (own := RX5) (ref := "ExchangeFamilies") (ci := 4) (v := .ref a1) (C := RX5) (T := TX5) (N := 6) hx hb hts k_X5_of_0 hown hK hP 0 rfl rfl 0 (by decide) (hts _ k_X5_of_1) (fun _ h9 => h9) rfl dX5_of_21 ?_
        refine lv_iload_n hx hb dX5_of_24 rfl (lv_at hl 1 rfl) ?_
        obtain ⟨r19, hq, hm⟩ := gk_bd1_some hm
        refine gk_callV (n := 1) (bytes := cX1_isMissing) (maxL := 2) (ret := (some .boolean)) (Cn := RX1) (T := TX1) (N := 5) [(a0, .inr (4, [.ref a1, .ref a7, .int f_isKept, .ref a13, .ref a15, .ref a18])), (a2, gk_J G 6 f_now_members)] [(a0, .inr (4, [.ref a1, .ref a7, .int f_isKept, .ref a13, .ref a15, .ref a18])), (a1, .inr (0, [.int f_now_n, .ref a2, .ref a3, .ref a4, .ref a5])), (a2, gk_J G 6 f_now_members), (a3, gk_I G 6 f_now_kinds)] [] C ⟨hP, hD, hS⟩ (c_X1_isMissing l G a1 a2 a3 a4 a5 f_now_n f_now_kinds x1 hq) gX5_of_X1_isMissing dX5_of_25 hl.1 [1, 3] [0, 2] [0, 2, 1, 3] rfl rfl ⟨rfl, rfl⟩ ⟨Nat.le_of_ble_eq_true rfl, Nat.le_of_ble_eq_true rfl⟩ ⟨rfl, by decide +kernel, by decide +kernel, by decide +kernel⟩ rfl (fun h => by cases h) (Nat.le_of_ble_eq_true rfl) rfl rfl rfl rfl (by decide) rfl rfl (fun H locs h => ?_)
        obtain ⟨hP, hD, hS⟩ := h
        refine lv_if_eq (tgt := 34) hx hb dX5_of_28 (by decide) (fun c20 => ?_) (fun c20 => ?_)
        · have hm := gk_it c20 hm
          refine lv_aload_n hx hb dX5_of_34 rfl (lv_at hl 0 rfl) ?_
          refine va_get (D := G.1) (cl := vwCl) (own := RX5) (ref := "ExchangeFamilies") (ci := 4) (v := .ref a1) (C := RX5) (T := TX5) (N := 6) hx hb hts k_X5_of_0 hown hK hP 0 rfl rfl 0 (by decide) (hts _ k_X5_of_1) (fun _ h9 => h9) rfl dX5_of_35 ?_
          refine va_get (D := G.1) (cl := vwCl) (own := RX5) (ref := "ExchangeFamilies$Ground") (ci := 0) (v := .ref a2) (C := RX1) (T := TX1) (N := 5) hx hb hts k_X5_of_2 hown hK hP 1 rfl rfl 1 (by decide) (hts _ k_X5_of_3) (fun _ h9 => h9) rfl dX5_of_38 ?_
          refine lv_iload_n hx hb dX5_of_41 rfl (lv_at hl 1 rfl) ?_
          obtain ⟨hi, hm⟩ := gk_ix_some hm
          refine va_lald hx hb hK hP 2 1 rfl rfl hi dX5_of_42 ?_
          refine lv_lstore_n (lv' := [(3, .long (f_now_members x1.toNatClampNeg)), (0, .ref a0), (1, .int x1), (2, .int x2)]) hx hb dX5_of_43 rfl hl (by decide) rfl (fun ls hl => ?_)
          refine lv_lload_n hx hb dX5_of_44 rfl (lv_at hl 0 rfl) ?_
          obtain ⟨r21, hq, hm⟩ := gk_bd1_some hm
          refine gk_callS (n := 1) (bytes := cX0_sizes) (maxL := 4) (ret := (some .int)) [(a0, .inr (4, [.ref a1, .ref a7, .int f_isKept, .ref a13, .ref a15, .ref a18])), (a1, .inr (0, [.int f_now_n, .ref a2, .ref a3, .ref a4, .ref a5])), (a2, gk_J G 6 f_now_members), (a3, gk_I G 6 f_now_kinds)] [(a0, .inr (4, [.ref a1, .ref a7, .int f_isKept, .ref a13, .ref a15, .ref a18])), (a1, .inr (0, [.int f_now_n, .ref a2, .ref a3, .ref a4, .ref a5])), (a2, gk_J G 6 f_now_members), (a3, gk_I G 6 f_now_kinds)] [] C ⟨hP, hD, hS⟩ (c_X0_sizes l G (f_now_members x1.toNatClampNeg) hq) gX5_of_X0_sizes dX5_of_45 hl.1 [] [0, 1, 2, 3] [0, 1, 2, 3] rfl ⟨rfl, rfl⟩ ⟨Nat.le_of_ble_eq_true rfl, Nat.le_of_ble_eq_true rfl⟩ ⟨by decide +kernel, by decide +kernel, by decide +kernel⟩ rfl (fun h => by cases h) (Nat.le_of_ble_eq_true rfl) rfl rfl rfl rfl (by decide) rfl rfl (fun H locs h => ?_)
          obtain ⟨hP, hD, hS⟩ := h
          refine lv_istore (lv' := [(5, .int r21), (3, .long (f_now_members x1.toNatClampNeg)), (0, .ref a0), (1, .int x1), (2, .int x2)]) hx hb dX5_of_48 hl (by decide) rfl (fun ls hl => ?_)
          refine lv_iload_n hx hb dX5_of_50 rfl (lv_at hl 4 rfl) ?_
          by_cases c22 : x2 = 0
          · have hm := gk_it c22 hm
            refine lv_tableIn (tgt := 92) (off := 41) hx hb dX5_of_51 (by rw [c22]; decide) (by rw [c22]; decide) (by rw [c22]; rfl) (by decide) ?_
            refine lv_aload_n hx hb dX5_of_92 rfl (lv_at hl 2 rfl) ?_
            refine va_get (D := G.1) (cl := vwCl) (own := RX5) (ref := "ExchangeFamilies") (ci := 4) (v := .ref a1) (C := RX5) (T := TX5) (N := 6) hx hb hts k_X5_of_0 hown hK hP 0 rfl rfl 0 (by decide) (hts _ k_X5_of_1) (fun _ h9 => h9) rfl dX5_of_93 ?_
            refine va_get (D := G.1) (cl := vwCl) (own := RX5) (ref := "ExchangeFamilies$Ground") (ci := 0) (v := .ref a3) (C := RX1) (T := TX1) (N := 5) hx hb hts k_X5_of_2 hown hK hP 1 rfl rfl 2 (by decide) (hts _ k_X5_of_4) (fun _ h9 => h9) rfl dX5_of_96 ?_
            refine lv_iload_n hx hb dX5_of_99 rfl (lv_at hl 3 rfl) ?_
            obtain ⟨hi, hm⟩ := gk_ix_some hm
            refine va_iald hx hb hK hP 3 0 rfl rfl hi dX5_of_100 ?_
            rw [kr _ (Option.some.inj hm).symm]
            exact gk_iret C ⟨hP, hD, hS⟩ dX5_of_101
          have hm := gk_if c22 hm
          by_cases c23 : x2 = 1
          · have hm := gk_it c23 hm
            refine lv_tableIn (tgt := 102) (off := 51) hx hb dX5_of_51 (by rw [c23]; decide) (by rw [c23]; decide) (by rw [c23]; rfl) (by decide) ?_
            refine lv_lload_n hx hb dX5_of_102 rfl (lv_at hl 1 rfl) ?_
            refine lv_aload_n hx hb dX5_of_103 rfl (lv_at hl 2 rfl) ?_
            refine va_get (D := G.1) (cl := vwCl) (own := RX5) (ref := "ExchangeFamilies") (ci := 4) (v := .ref a1) (C := RX5) (T := TX5) (N := 6) hx hb hts k_X5_of_0 hown hK hP 0 rfl rfl 0 (by decide) (hts _ k_X5_of_1) (fun _ h9 => h9) rfl dX5_of_104 ?_
            refine va_get (D := G.1) (cl := vwCl) (own := RX5) (ref := "ExchangeFamilies$Ground") (ci := 0) (v := .int f_now_n) (C := RX1) (T := TX1) (N := 5) hx hb hts k_X5_of_2 hown hK hP 1 rfl rfl 0 (by decide) (hts _ k_X5_of_5) (fun _ h9 => h9) rfl dX5_of_107 ?_
            obtain ⟨r24, hq, hm⟩ := gk_bd1_some hm
            refine gk_callS (n := 2) (bytes := cX0_isExchanging) (maxL := 3) (ret := (some .boolean)) [(a0, .inr (4, [.ref a1, .ref a7, .int f_isKept, .ref a13, .ref a15, .ref a18])), (a1, .inr (0, [.int f_now_n, .ref a2, .ref a3, .ref a4, .ref a5])), (a2, gk_J G 6 f_now_members), (a3, gk_I G 6 f_now_kinds)] [(a0, .inr (4, [.ref a1, .ref a7, .int f_isKept, .ref a13, .ref a15, .ref a18])), (a1, .inr (0, [.int f_now_n, .ref a2, .ref a3, .ref a4, .ref a5])), (a2, gk_J G 6 f_now_members), (a3, gk_I G 6 f_now_kinds)] [] C ⟨hP, hD, hS⟩ (c_X0_isExchanging l G (f_now_members x1.toNatClampNeg) f_now_n hq) gX5_of_X0_isExchanging dX5_of_110 hl.1 [] [0, 1, 2, 3] [0, 1, 2, 3] rfl ⟨rfl, rfl⟩ ⟨Nat.le_of_ble_eq_true rfl, Nat.le_of_ble_eq_true rfl⟩ ⟨by decide +kernel, by decide +kernel, by decide +kernel⟩ rfl (fun h => h) (Nat.le_of_ble_eq_true rfl) rfl rfl rfl rfl (by decide) rfl rfl (fun H locs h => ?_)
            obtain ⟨hP, hD, hS⟩ := h
            refine lv_if_eq (tgt := 120) hx hb dX5_of_113 (by decide) (fun c25 => ?_) (fun c25 => ?_)
            · have hm := gk_it c25 hm
              refine lv_iconst (v := 0) hx hb dX5_of_120 (by decide) ?_
              rw [kr _ (Option.some.inj hm).symm]
              exact gk_iret C ⟨hP, hD, hS⟩ dX5_of_121
            · have hm := gk_if c25 hm
              refine lv_iconst (v := 1) hx hb dX5_of_116 (by decide) ?_
              refine lv_goto (tgt := 121) hx hb dX5_of_117 (by decide) ?_
              rw [kr _ (Option.some.inj hm).symm]
              exact gk_iret C ⟨hP, hD, hS⟩ dX5_of_121
          have hm := gk_if c23 hm
          by_cases c26 : x2 = 2
          · have hm := gk_it c26 hm
            refine lv_tableIn (tgt := 122) (off := 71) hx hb dX5_of_51 (by rw [c26]; decide) (by rw [c26]; decide) (by rw [c26]; rfl) (by decide) ?_
            refine lv_iload hx hb dX5_of_122 (lv_at hl 0 rfl) ?_
            obtain ⟨r27, hq, hm⟩ := gk_bd1_some hm
            refine gk_callS (n := 1) (bytes := cX0_isEven) (maxL := 2) (ret := (some .boolean)) [(a0, .inr (4, [.ref a1, .ref a7, .int f_isKept, .ref a13, .ref a15, .ref a18])), (a1, .inr (0, [.int f_now_n, .ref a2, .ref a3, .ref a4, .ref a5])), (a2, gk_J G 6 f_now_members), (a3, gk_I G 6 f_now_kinds)] [(a0, .inr (4, [.ref a1, .ref a7, .int f_isKept, .ref a13, .ref a15, .ref a18])), (a1, .inr (0, [.int f_now_n, .ref a2, .ref a3, .ref a4, .ref a5])), (a2, gk_J G 6 f_now_members), (a3, gk_I G 6 f_now_kinds)] [] C ⟨hP, hD, hS⟩ (c_X0_isEven l G r21 hq) gX5_of_X0_isEven dX5_of_124 hl.1 [] [0, 1, 2, 3] [0, 1, 2, 3] rfl ⟨rfl, rfl⟩ ⟨Nat.le_of_ble_eq_true rfl, Nat.le_of_ble_eq_true rfl⟩ ⟨by decide +kernel, by decide +kernel, by decide +kernel⟩ rfl (fun h => by cases h) (Nat.le_of_ble_eq_true rfl) rfl rfl rfl rfl (by decide) rfl rfl (fun H locs h => ?_)
            obtain ⟨hP, hD, hS⟩ := h
            refine lv_if_eq (tgt := 134) hx hb dX5_of_127 (by decide) (fun c28 => ?_) (fun c28 => ?_)
            · have hm := gk_it c28 hm
              refine lv_iconst (v := 0) hx hb dX5_of_134 (by decide) ?_
              rw [kr _ (Option.some.inj hm).symm]
              exact gk_iret C ⟨hP, hD, hS⟩ dX5_of_135
            · have hm := gk_if c28 hm
              refine lv_iconst (v := 1) hx hb dX5_of_130 (by decide) ?_
              refine lv_goto (tgt := 135) hx hb dX5_of_131 (by decide) ?_
              rw [kr _ (Option.some.inj hm).symm]
              exact gk_iret C ⟨hP, hD, hS⟩ dX5_of_135
          have hm := gk_if c26 hm
          by_cases c29 : x2 = 3
          · have hm := gk_it c29 hm
            refine lv_tableIn (tgt := 136) (off := 85) hx hb dX5_of_51 (by rw [c29]; decide) (by rw [c29]; decide) (by rw [c29]; rfl) (by decide) ?_
            refine lv_iload hx hb dX5_of_136 (lv_at hl 0 rfl) ?_
            obtain ⟨r30, hq, hm⟩ := gk_bd1_some hm
            refine gk_callS (n := 1) (bytes := cJ6_bitCount_0f7a4) (maxL := 1) (ret := (some .int)) [(a0, .inr (4, [.ref a1, .ref a7, .int f_isKept, .ref a13, .ref a15, .ref a18])), (a1, .inr (0, [.int f_now_n, .ref a2, .ref a3, .ref a4, .ref a5])), (a2, gk_J G 6 f_now_members), (a3, gk_I G 6 f_now_kinds)] [(a0, .inr (4, [.ref a1, .ref a7, .int f_isKept, .ref a13, .ref a15, .ref a18])), (a1, .inr (0, [.int f_now_n, .ref a2, .ref a3, .ref a4, .ref a5])), (a2, gk_J G 6 f_now_members), (a3, gk_I G 6 f_now_kinds)] [] C ⟨hP, hD, hS⟩ (c_J6_bitCount_0f7a4 l G r21 hq) gX5_of_J6_bitCount_0f7a4 dX5_of_138 hl.1 [] [0, 1, 2, 3] [0, 1, 2, 3] rfl ⟨rfl, rfl⟩ ⟨Nat.le_of_ble_eq_true rfl, Nat.le_of_ble_eq_true rfl⟩ ⟨by decide +kernel, by decide +kernel, by decide +kernel⟩ rfl (fun h => by cases h) (Nat.le_of_ble_eq_true rfl) rfl rfl rfl rfl (by decide) rfl rfl (fun H locs h => ?_)
            obtain ⟨hP, hD, hS⟩ := h
            refine lv_iconst (v := 1) hx hb dX5_of_141 (by decide) ?_
            refine lv_icmp_gt (tgt := 149) hx hb dX5_of_142 (by decide) (fun c31 => ?_) (fun c31 => ?_)
            · have hm := gk_it c31 hm
              refine lv_iconst (v := 0) hx hb dX5_of_149 (by decide) ?_
              rw [kr _ (Option.some.inj hm).symm]
              exact gk_iret C ⟨hP, hD, hS⟩ dX5_of_150
            · have hm := gk_if c31 hm
              refine lv_iconst (v := 1) hx hb dX5_of_145 (by decide) ?_
              refine lv_goto (tgt := 150) hx hb dX5_of_146 (by decide) ?_
              rw [kr _ (Option.some.inj hm).symm]
              exact gk_iret C ⟨hP, hD, hS⟩ dX5_of_150
          have hm := gk_if c29 hm
          by_cases c32 : x2 = 4
          · have hm := gk_it c32 hm
            refine lv_tableIn (tgt := 151) (off := 100) hx hb dX5_of_51 (by rw [c32]; decide) (by rw [c32]; decide) (by rw [c32]; rfl) (by decide) ?_
            refine lv_lload_n hx hb dX5_of_151 rfl (lv_at hl 1 rfl) ?_
            refine lv_aload_n hx hb dX5_of_152 rfl (lv_at hl 2 rfl) ?_
            refine va_get (D := G.1) (cl := vwCl) (own := RX5) (ref := "ExchangeFamilies") (ci := 4) (v := .ref a1) (C := RX5) (T := TX5) (N := 6) hx hb hts k_X5_of_0 hown hK hP 0 rfl rfl 0 (by decide) (hts _ k_X5_of_1) (fun _ h9 => h9) rfl dX5_of_153 ?_
            refine va_get (D := G.1) (cl := vwCl) (own := RX5) (ref := "ExchangeFamilies$Ground") (ci := 0) (v := .int f_now_n) (C := RX1) (T := TX1) (N := 5) hx hb hts k_X5_of_2 hown hK hP 1 rfl rfl 0 (by decide) (hts _ k_X5_of_5) (fun _ h9 => h9) rfl dX5_of_156 ?_
            obtain ⟨r33, hq, hm⟩ := gk_bd1_some hm
            refine gk_callS (n := 2) (bytes := cX0_loops) (maxL := 5) (ret := (some .int)) [(a0, .inr (4, [.ref a1, .ref a7, .int f_isKept, .ref a13, .ref a15, .ref a18])), (a1, .inr (0, [.int f_now_n, .ref a2, .ref a3, .ref a4, .ref a5])), (a2, gk_J G 6 f_now_members), (a3, gk_I G 6 f_now_kinds)] [(a0, .inr (4, [.ref a1, .ref a7, .int f_isKept, .ref a13, .ref a15, .ref a18])), (a1, .inr (0, [.int f_now_n, .ref a2, .ref a3, .ref a4, .ref a5])), (a2, gk_J G 6 f_now_members), (a3, gk_I G 6 f_now_kinds)] [] C ⟨hP, hD, hS⟩ (c_X0_loops l G (f_now_members x1.toNatClampNeg) f_now_n hq) gX5_of_X0_loops dX5_of_159 hl.1 [] [0, 1, 2, 3] [0, 1, 2, 3] rfl ⟨rfl, rfl⟩ ⟨Nat.le_of_ble_eq_true rfl, Nat.le_of_ble_eq_true rfl⟩ ⟨by decide +kernel, by decide +kernel, by decide +kernel⟩ rfl (fun h => h) (Nat.le_of_ble_eq_true rfl) rfl rfl rfl rfl (by decide) rfl rfl (fun H locs h => ?_)
            obtain ⟨hP, hD, hS⟩ := h
            rw [kr _ (Option.some.inj hm).symm]
            exact gk_iret C ⟨hP, hD, hS⟩ dX5_of_162
          have hm := gk_if c32 hm
          by_cases c34 : x2 = 5
          · have hm := gk_it c34 hm
            refine lv_tableIn (tgt := 163) (off := 112) hx hb dX5_of_51 (by rw [c34]; decide) (by rw [c34]; decide) (by rw [c34]; rfl) (by decide) ?_
            refine lv_lload_n hx hb dX5_of_163 rfl (lv_at hl 1 rfl) ?_
            refine lv_aload_n hx hb dX5_of_164 rfl (lv_at hl 2 rfl) ?_
            refine va_get (D := G.1) (cl := vwCl) (own := RX5) (ref := "ExchangeFamilies") (ci := 4) (v := .ref a1) (C := RX5) (T := TX5) (N := 6) hx hb hts k_X5_of_0 hown hK hP 0 rfl rfl 0 (by decide) (hts _ k_X5_of_1) (fun _ h9 => h9) rfl dX5_of_165 ?_
            refine va_get (D := G.1) (cl := vwCl) (own := RX5) (ref := "ExchangeFamilies$Ground") (ci := 0) (v := .int f_now_n) (C := RX1) (T := TX1) (N := 5) hx hb hts k_X5_of_2 hown hK hP 1 rfl rfl 0 (by decide) (hts _ k_X5_of_5) (fun _ h9 => h9) rfl dX5_of_168 ?_
            obtain ⟨r35, hq, hm⟩ := gk_bd1_some hm
            refine gk_callS (n := 2) (bytes := cX0_coloops) (maxL := 5) (ret := (some .int)) [(a0, .inr (4, [.ref a1, .ref a7, .int f_isKept, .ref a13, .ref a15, .ref a18])), (a1, .inr (0, [.int f_now_n, .ref a2, .ref a3, .ref a4, .ref a5])), (a2, gk_J G 6 f_now_members), (a3, gk_I G 6 f_now_kinds)] [(a0, .inr (4, [.ref a1, .ref a7, .int f_isKept, .ref a13, .ref a15, .ref a18])), (a1, .inr (0, [.int f_now_n, .ref a2, .ref a3, .ref a4, .ref a5])), (a2, gk_J G 6 f_now_members), (a3, gk_I G 6 f_now_kinds)] [] C ⟨hP, hD, hS⟩ (c_X0_coloops l G (f_now_members x1.toNatClampNeg) f_now_n hq) gX5_of_X0_coloops dX5_of_171 hl.1 [] [0, 1, 2, 3] [0, 1, 2, 3] rfl ⟨rfl, rfl⟩ ⟨Nat.le_of_ble_eq_true rfl, Nat.le_of_ble_eq_true rfl⟩ ⟨by decide +kernel, by decide +kernel, by decide +kernel⟩ rfl (fun h => h) (Nat.le_of_ble_eq_true rfl) rfl rfl rfl rfl (by decide) rfl rfl (fun H locs h => ?_)
            obtain ⟨hP, hD, hS⟩ := h
            rw [kr _ (Option.some.inj hm).symm]
            exact gk_iret C ⟨hP, hD, hS⟩ dX5_of_174
          have hm := gk_if c34 hm
          by_cases c36 : x2 = 6
          · have hm := gk_it c36 hm
            refine lv_tableIn (tgt := 175) (off := 124) hx hb dX5_of_51 (by rw [c36]; decide) (by rw [c36]; decide) (by rw [c36]; rfl) (by decide) ?_
            refine lv_iload hx hb dX5_of_175 (lv_at hl 0 rfl) ?_
            obtain ⟨r37, hq, hm⟩ := gk_bd1_some hm
            refine gk_callS (n := 1) (bytes := cX5_leastBit) (maxL := 1) (ret := (some .int)) [(a0, .inr (4, [.ref a1, .ref a7, .int f_isKept, .ref a13, .ref a15, .ref a18])), (a1, .inr (0, [.int f_now_n, .ref a2, .ref a3, .ref a4, .ref a5])), (a2, gk_J G 6 f_now_members), (a3, gk_I G 6 f_now_kinds)] [(a0, .inr (4, [.ref a1, .ref a7, .int f_isKept, .ref a13, .ref a15, .ref a18])), (a1, .inr (0, [.int f_now_n, .ref a2, .ref a3, .ref a4, .ref a5])), (a2, gk_J G 6 f_now_members), (a3, gk_I G 6 f_now_kinds)] [] C ⟨hP, hD, hS⟩ (c_X5_leastBit l G r21 hq) gX5_of_X5_leastBit dX5_of_177 hl.1 [] [0, 1, 2, 3] [0, 1, 2, 3] rfl ⟨rfl, rfl⟩ ⟨Nat.le_of_ble_eq_true rfl, Nat.le_of_ble_eq_true rfl⟩ ⟨by decide +kernel, by decide +kernel, by decide +kernel⟩ rfl (fun h => by cases h) (Nat.le_of_ble_eq_true rfl) rfl rfl rfl rfl (by decide) rfl rfl (fun H locs h => ?_)
            obtain ⟨hP, hD, hS⟩ := h
            rw [kr _ (Option.some.inj hm).symm]
            exact gk_iret C ⟨hP, hD, hS⟩ dX5_of_180
          have hm := gk_if c36 hm
          have ho := gk_out (x := x2) 7 (by decide) (fun k hk => by match k, hk with | 0, _ => exact c22 | 1, _ => exact c23 | 2, _ => exact c26 | 3, _ => exact c29 | 4, _ => exact c32 | 5, _ => exact c34 | 6, _ => exact c36 | k + 7, h => exact absurd h (by omega))
          refine lv_tableOut (tgt := 181) hx hb dX5_of_51 (by rcases ho with q | q; exact Or.inl q; exact Or.inr (by simpa using q)) (by decide) ?_
          refine lv_iload hx hb dX5_of_181 (lv_at hl 0 rfl) ?_
          obtain ⟨r38, hq, hm⟩ := gk_bd1_some hm
          refine gk_callS (n := 1) (bytes := cX5_greatestBit) (maxL := 2) (ret := (some .int)) [(a0, .inr (4, [.ref a1, .ref a7, .int f_isKept, .ref a13, .ref a15, .ref a18])), (a1, .inr (0, [.int f_now_n, .ref a2, .ref a3, .ref a4, .ref a5])), (a2, gk_J G 6 f_now_members), (a3, gk_I G 6 f_now_kinds)] [(a0, .inr (4, [.ref a1, .ref a7, .int f_isKept, .ref a13, .ref a15, .ref a18])), (a1, .inr (0, [.int f_now_n, .ref a2, .ref a3, .ref a4, .ref a5])), (a2, gk_J G 6 f_now_members), (a3, gk_I G 6 f_now_kinds)] [] C ⟨hP, hD, hS⟩ (c_X5_greatestBit l G r21 hq) gX5_of_X5_greatestBit dX5_of_183 hl.1 [] [0, 1, 2, 3] [0, 1, 2, 3] rfl ⟨rfl, rfl⟩ ⟨Nat.le_of_ble_eq_true rfl, Nat.le_of_ble_eq_true rfl⟩ ⟨by decide +kernel, by decide +kernel, by decide +kernel⟩ rfl (fun h => by cases h) (Nat.le_of_ble_eq_true rfl) rfl rfl rfl rfl (by decide) rfl rfl (fun H locs h => ?_)
          obtain ⟨hP, hD, hS⟩ := h
          rw [kr _ (Option.some.inj hm).symm]
          exact gk_iret C ⟨hP, hD, hS⟩ dX5_of_186
        · have hm := gk_if c20 hm
          refine lv_bipush (v := -11) hx hb dX5_of_31 (by decide) ?_
          rw [kr _ (Option.some.inj hm).symm]
          exact gk_iret C ⟨hP, hD, hS⟩ dX5_of_33
      · have hm := gk_if c18 hm
        refine lv_bipush (v := -2) hx hb dX5_of_17 (by decide) ?_
        rw [kr _ (Option.some.inj hm).symm]
        exact gk_iret C ⟨hP, hD, hS⟩ dX5_of_19
def m_X5_of (f_now_n : Int32) (f_now_members : (Nat → Int64)) (f_now_kinds : (Nat → Int32)) (x1 : Int32) (x2 : Int32) : Option (Int32) := m_X5_of_0 f_now_n f_now_members f_now_kinds x1 x2
theorem c_X5_of (l : Launch) (G : gk_G) (a0 a1 a2 a3 a4 a5 a7 a13 a15 a18 : Nat) (f_isKept : Int32) (f_now_n : Int32) (f_now_members : (Nat → Int64)) (f_now_kinds : (Nat → Int32)) (x1 : Int32) (x2 : Int32) {rv : Int32} (hm : m_X5_of f_now_n f_now_members f_now_kinds x1 x2 = some rv) : gk_M l yX5_of wsX5_of rm_X5_of true G [.ref a0, .int x1, .int x2] [(a0, .inr (4, [.ref a1, .ref a7, .int f_isKept, .ref a13, .ref a15, .ref a18])), (a1, .inr (0, [.int f_now_n, .ref a2, .ref a3, .ref a4, .ref a5])), (a2, gk_J G 6 f_now_members), (a3, gk_I G 6 f_now_kinds)] (some (.int rv)) [(a0, .inr (4, [.ref a1, .ref a7, .int f_isKept, .ref a13, .ref a15, .ref a18])), (a1, .inr (0, [.int f_now_n, .ref a2, .ref a3, .ref a4, .ref a5])), (a2, gk_J G 6 f_now_members), (a3, gk_I G 6 f_now_kinds)] :=
  gk_of (by decide) rfl (Nat.le_of_ble_eq_true rfl) (fun p e s m below meth c A ls C h hl => w_X5_of_0 C hm (fun v0 ez => by cases ez; rfl) h (show lv_has ls 6 [(0, .ref a0), (1, .int x1), (2, .int x2)] from hl))

/-! ===== ExchangeFamilies.isUnder(II)Z ===== -/
abbrev rm_X5_isUnder : Room := { frames := 1, cells := 0, slots := 0, locals := 64 }
theorem k_X5_isUnder_0 : Cond.fieldLink RX5 272 "ExchangeFamilies" "ABOVE" "[I" ∈ wsX5_isUnder := by decide +kernel
def m_X5_isUnder_B4 (x1 : Int32) (x2 : Int32) (x3 : Int32) : Option ((Int32 × Int32) ⊕ ((Int32) ⊕ (Unit))) := (if (6 : Int32) ≤ x3 then some (.inr (.inr ())) else (if x2 < (0 : Int32) then some (.inr (.inr ())) else (if (6 : Int32) ≤ x2 then some (.inr (.inr ())) else (if x2 = x1 then some (.inr (.inl (1 : Int32))) else gk_ix x2 6 (some (.inl ((gk_abv x2.toNatClampNeg), x3 + 1)))))))
set_option maxRecDepth 100000 in
set_option maxHeartbeats 4000000 in
theorem w_X5_isUnder_B4 {p : Program} {l : Launch} {e : Env} {s : State} {m : MethodId} {args : Array Value} {below : List Frame} {meth : Method} {c : Code} {G : gk_G} {A : Nat → Prop} {Q : State → Prop} (C : gk_C p s m args meth c cX5_isUnder 4 (some .boolean) yX5_isUnder wsX5_isUnder true G A) {x1 : Int32} {x2 : Int32} {x3 : Int32} {yy : (Int32 × Int32) ⊕ ((Int32) ⊕ (Unit))} (hm : m_X5_isUnder_B4 x1 x2 x3 = some yy) (kl : ∀ (x2 : Int32) (x3 : Int32), yy = .inl (x2, x3) → ∀ (H : Heap) (locs : List Loc) (ls : Array Slot), gk_H G A s [] H locs → lv_has ls 4 [(1, .int x1), (2, .int x2), (3, .int x3)] → W p l e rm_X5_isUnder s m args below meth c H locs 0 0 Q (F0 m 4 ls [])) (kx : yy = .inr (.inr ()) → ∀ (H : Heap) (locs : List Loc) (ls : Array Slot), gk_H G A s [] H locs → lv_has ls 4 [] → W p l e rm_X5_isUnder s m args below meth c H locs 0 0 Q (F0 m 39 ls [])) (kr : ∀ (rv : Int32), yy = .inr (.inl rv) → Q = MQ below (gk_Q G (some (.int rv)) [] A) args s 0 0 A) {H : Heap} {locs : List Loc} {ls : Array Slot} (h : gk_H G A s [] H locs) (hl : lv_has ls 4 [(1, .int x1), (2, .int x2), (3, .int x3)]) : W p l e rm_X5_isUnder s m args below meth c H locs 0 0 Q (F0 m 4 ls []) := by
  obtain ⟨hx, hb, hml, hr, hown, hnm, hts, hlk, hK, hSt, hA⟩ := id C
  obtain ⟨hP, hD, hS⟩ := h
  unfold m_X5_isUnder_B4 at hm
  refine lv_iload_n hx hb dX5_isUnder_4 rfl (lv_at hl 2 rfl) ?_
  refine lv_bipush (v := 6) hx hb dX5_isUnder_5 (by decide) ?_
  refine lv_icmp_ge (tgt := 39) hx hb dX5_isUnder_7 (by decide) (fun c5 => ?_) (fun c5 => ?_)
  · have hm := gk_it c5 hm
    exact kx (Option.some.inj hm).symm _ _ _ ⟨hP, hD, hS⟩ (lv_sub hl [] rfl)
  · have hm := gk_if c5 hm
    refine lv_iload_n hx hb dX5_isUnder_10 rfl (lv_at hl 1 rfl) ?_
    refine lv_if_lt (tgt := 39) hx hb dX5_isUnder_11 (by decide) (fun c6 => ?_) (fun c6 => ?_)
    · have hm := gk_it c6 hm
      exact kx (Option.some.inj hm).symm _ _ _ ⟨hP, hD, hS⟩ (lv_sub hl [] rfl)
    · have hm := gk_if c6 hm
      refine lv_iload_n hx hb dX5_isUnder_14 rfl (lv_at hl 1 rfl) ?_
      refine lv_bipush (v := 6) hx hb dX5_isUnder_15 (by decide) ?_
      refine lv_icmp_ge (tgt := 39) hx hb dX5_isUnder_17 (by decide) (fun c7 => ?_) (fun c7 => ?_)
      · have hm := gk_it c7 hm
        exact kx (Option.some.inj hm).symm _ _ _ ⟨hP, hD, hS⟩ (lv_sub hl [] rfl)
      · have hm := gk_if c7 hm
        refine lv_iload_n hx hb dX5_isUnder_20 rfl (lv_at hl 1 rfl) ?_
        refine lv_iload_n hx hb dX5_isUnder_21 rfl (lv_at hl 0 rfl) ?_
        refine lv_icmp_ne (tgt := 27) hx hb dX5_isUnder_22 (by decide) (fun c8 => ?_) (fun c8 => ?_)
        · have hm := gk_if c8 hm
          refine va_gets (own := RX5) (ref := "ExchangeFamilies") hx hb (hSt rfl).2.2.1.1 hS hown (hts _ k_X5_isUnder_0) (fun _ h9 => h9) dX5_isUnder_27 ?_
          refine lv_iload_n hx hb dX5_isUnder_30 rfl (lv_at hl 1 rfl) ?_
          obtain ⟨hi, hm⟩ := gk_ix_some hm
          refine va_ti hx hb (hSt rfl).2.2.1.2 hS hi rfl dX5_isUnder_31 ?_
          refine lv_istore_n (lv' := [(2, .int (gk_abv x2.toNatClampNeg)), (1, .int x1), (3, .int x3)]) hx hb dX5_isUnder_32 rfl hl (by decide) rfl (fun ls hl => ?_)
          refine lv_iinc (v := x3 + 1) (lv' := [(3, .int (x3 + 1)), (2, .int (gk_abv x2.toNatClampNeg)), (1, .int x1)]) hx hb dX5_isUnder_33 hl (k := 2) rfl rfl (by decide) rfl (fun ls hl => ?_)
          refine lv_goto (tgt := 4) hx hb dX5_isUnder_36 (by decide) ?_
          exact kl _ _ (Option.some.inj hm).symm _ _ _ ⟨hP, hD, hS⟩ (lv_sub hl [2, 1, 0] rfl)
        · have hm := gk_it c8 hm
          refine lv_iconst (v := 1) hx hb dX5_isUnder_25 (by decide) ?_
          rw [kr _ (Option.some.inj hm).symm]
          exact gk_zret C ⟨hP, hD, hS⟩ rfl dX5_isUnder_26
set_option maxRecDepth 100000 in
set_option maxHeartbeats 4000000 in
theorem w_X5_isUnder_L4 {p : Program} {l : Launch} {e : Env} {s : State} {m : MethodId} {args : Array Value} {below : List Frame} {meth : Method} {c : Code} {G : gk_G} {A : Nat → Prop} {Q : State → Prop} (C : gk_C p s m args meth c cX5_isUnder 4 (some .boolean) yX5_isUnder wsX5_isUnder true G A) {x1 : Int32} {x2 : Int32} {x3 : Int32} {k : Nat} (hm : gk_lp (fun z => m_X5_isUnder_B4 x1 z.1 z.2) k (x2, x3) = some (.inr ())) (kx : ∀ (H : Heap) (locs : List Loc) (ls : Array Slot), gk_H G A s [] H locs → lv_has ls 4 [] → W p l e rm_X5_isUnder s m args below meth c H locs 0 0 Q (F0 m 39 ls [])) {H : Heap} {locs : List Loc} {ls : Array Slot} (h : gk_H G A s [] H locs) (hl : lv_has ls 4 [(1, .int x1), (2, .int x2), (3, .int x3)]) : W p l e rm_X5_isUnder s m args below meth c H locs 0 0 Q (F0 m 4 ls []) :=
  gk_lp_some (P := fun z => ∀ (H : Heap) (locs : List Loc) (ls : Array Slot), gk_H G A s [] H locs → lv_has ls 4 [(1, .int x1), (2, .int z.1), (3, .int z.2)] → W p l e rm_X5_isUnder s m args below meth c H locs 0 0 Q (F0 m 4 ls [])) (E := fun r => (r = .inr () → ∀ (H : Heap) (locs : List Loc) (ls : Array Slot), gk_H G A s [] H locs → lv_has ls 4 [] → W p l e rm_X5_isUnder s m args below meth c H locs 0 0 Q (F0 m 39 ls [])) ∧ (∀ (rv : Int32), r = .inl rv → Q = MQ below (gk_Q G (some (.int rv)) [] A) args s 0 0 A)) (fun z x hf kl ke H locs ls h hl => w_X5_isUnder_B4 C hf (fun v0 v1 ez => kl (v0, v1) ez) (fun ez => (ke _ ez).1 rfl) (fun v0 ez => (ke _ ez).2 v0 rfl) h hl) k (x2, x3) _ hm (⟨fun ez => (by cases ez; exact kx), fun v0 ez => (by cases ez)⟩) _ _ _ h hl
set_option maxRecDepth 100000 in
set_option maxHeartbeats 4000000 in
theorem w_X5_isUnder_L4r {p : Program} {l : Launch} {e : Env} {s : State} {m : MethodId} {args : Array Value} {below : List Frame} {meth : Method} {c : Code} {G : gk_G} {A : Nat → Prop} {Q : State → Prop} (C : gk_C p s m args meth c cX5_isUnder 4 (some .boolean) yX5_isUnder wsX5_isUnder true G A) {x1 : Int32} {x2 : Int32} {x3 : Int32} {k : Nat} {rv : Int32} (hm : gk_lp (fun z => m_X5_isUnder_B4 x1 z.1 z.2) k (x2, x3) = some (.inl rv)) (kr : Q = MQ below (gk_Q G (some (.int rv)) [] A) args s 0 0 A) {H : Heap} {locs : List Loc} {ls : Array Slot} (h : gk_H G A s [] H locs) (hl : lv_has ls 4 [(1, .int x1), (2, .int x2), (3, .int x3)]) : W p l e rm_X5_isUnder s m args below meth c H locs 0 0 Q (F0 m 4 ls []) :=
  gk_lp_some (P := fun z => ∀ (H : Heap) (locs : List Loc) (ls : Array Slot), gk_H G A s [] H locs → lv_has ls 4 [(1, .int x1), (2, .int z.1), (3, .int z.2)] → W p l e rm_X5_isUnder s m args below meth c H locs 0 0 Q (F0 m 4 ls [])) (E := fun r => (r = .inr () → ∀ (H : Heap) (locs : List Loc) (ls : Array Slot), gk_H G A s [] H locs → lv_has ls 4 [] → W p l e rm_X5_isUnder s m args below meth c H locs 0 0 Q (F0 m 39 ls [])) ∧ (∀ (rv : Int32), r = .inl rv → Q = MQ below (gk_Q G (some (.int rv)) [] A) args s 0 0 A)) (fun z x hf kl ke H locs ls h hl => w_X5_isUnder_B4 C hf (fun v0 v1 ez => kl (v0, v1) ez) (fun ez => (ke _ ez).1 rfl) (fun v0 ez => (ke _ ez).2 v0 rfl) h hl) k (x2, x3) _ hm (⟨fun ez => (by cases ez), fun v0 ez => (by cases ez; exact kr)⟩) _ _ _ h hl
def m_X5_isUnder_0 (x0 : Int32) (x1 : Int32) : Option (Int32) := gk_bs0 (gk_lp (fun z => m_X5_isUnder_B4 x1 z.1 z.2) gk_fu (x0, (0 : Int32))) (fun r => some r) (some (0 : Int32))
set_option maxRecDepth 100000 in
set_option maxHeartbeats 4000000 in
theorem w_X5_isUnder_0 {p : Program} {l : Launch} {e : Env} {s : State} {m : MethodId} {args : Array Value} {below : List Frame} {meth : Method} {c : Code} {G : gk_G} {A : Nat → Prop} {Q : State → Prop} (C : gk_C p s m args meth c cX5_isUnder 4 (some .boolean) yX5_isUnder wsX5_isUnder true G A) {x0 : Int32} {x1 : Int32} {yy : Int32} (hm : m_X5_isUnder_0 x0 x1 = some yy) (kr : ∀ (rv : Int32), yy = rv → Q = MQ below (gk_Q G (some (.int rv)) [] A) args s 0 0 A) {H : Heap} {locs : List Loc} {ls : Array Slot} (h : gk_H G A s [] H locs) (hl : lv_has ls 4 [(0, .int x0), (1, .int x1)]) : W p l e rm_X5_isUnder s m args below meth c H locs 0 0 Q (F0 m 0 ls []) := by
  obtain ⟨hx, hb, hml, hr, hown, hnm, hts, hlk, hK, hSt, hA⟩ := id C
  obtain ⟨hP, hD, hS⟩ := h
  unfold m_X5_isUnder_0 at hm
  refine lv_iload_n hx hb dX5_isUnder_0 rfl (lv_at hl 0 rfl) ?_
  refine lv_istore_n (lv' := [(2, .int x0), (0, .int x0), (1, .int x1)]) hx hb dX5_isUnder_1 rfl hl (by decide) rfl (fun ls hl => ?_)
  refine lv_iconst (v := 0) hx hb dX5_isUnder_2 (by decide) ?_
  refine lv_istore_n (lv' := [(3, .int (0 : Int32)), (2, .int x0), (0, .int x0), (1, .int x1)]) hx hb dX5_isUnder_3 rfl hl (by decide) rfl (fun ls hl => ?_)
  rcases gk_bs0_some hm with ⟨r9, hq, hm⟩ | ⟨hq, hm⟩
  · exact w_X5_isUnder_L4r C hq (kr _ (Option.some.inj hm).symm) ⟨hP, hD, hS⟩ (lv_sub hl [3, 1, 0] rfl)
  refine w_X5_isUnder_L4 C hq (fun H locs ls h hl => ?_) ⟨hP, hD, hS⟩ (lv_sub hl [3, 1, 0] rfl)
  obtain ⟨hP, hD, hS⟩ := h
  refine lv_iconst (v := 0) hx hb dX5_isUnder_39 (by decide) ?_
  rw [kr _ (Option.some.inj hm).symm]
  exact gk_zret C ⟨hP, hD, hS⟩ rfl dX5_isUnder_40
def m_X5_isUnder (x0 : Int32) (x1 : Int32) : Option (Int32) := m_X5_isUnder_0 x0 x1
theorem c_X5_isUnder (l : Launch) (G : gk_G) (x0 : Int32) (x1 : Int32) {rv : Int32} (hm : m_X5_isUnder x0 x1 = some rv) : gk_M l yX5_isUnder wsX5_isUnder rm_X5_isUnder true G [.int x0, .int x1] [] (some (.int rv)) [] :=
  gk_of (by decide) rfl (Nat.le_of_ble_eq_true rfl) (fun p e s m below meth c A ls C h hl => w_X5_isUnder_0 C hm (fun v0 ez => by cases ez; rfl) h (show lv_has ls 4 [(0, .int x0), (1, .int x1)] from hl))

/-! ===== ExchangeFamilies.taken(II)I ===== -/
abbrev rm_X5_taken : Room := { frames := 3, cells := 0, slots := 0, locals := 151 }
theorem k_X5_taken_0 : ∀ w ∈ u_ws RX5 TX5 6, w ∈ wsX5_taken := by decide +kernel
theorem k_X5_taken_1 : Cond.fieldLink RX5 12 "ExchangeFamilies" "now" "LExchangeFamilies$Ground;" ∈ wsX5_taken := by decide +kernel
theorem k_X5_taken_2 : ∀ w ∈ u_ws RX1 TX1 5, w ∈ wsX5_taken := by decide +kernel
theorem k_X5_taken_3 : Cond.fieldLink RX5 112 "ExchangeFamilies$Ground" "kinds" "[I" ∈ wsX5_taken := by decide +kernel
theorem k_X5_taken_4 : Cond.fieldLink RX5 61 "ExchangeFamilies$Ground" "members" "[J" ∈ wsX5_taken := by decide +kernel
def m_X5_taken_0 (f_now_members : (Nat → Int64)) (f_now_kinds : (Nat → Int32)) (x1 : Int32) (x2 : Int32) : Option (Int32) := gk_bd1 (m_X5_noFamily x1) (fun r6 => (if r6 = (0 : Int32) then (if x2 < (0 : Int32) then some (-2 : Int32) else (if x2 < (6 : Int32) then gk_bd1 (m_X1_isMissing f_now_kinds x1) (fun r10 => (if r10 = (0 : Int32) then gk_ix x1 6 (gk_bd1 (m_X5_isUnder (f_now_kinds x1.toNatClampNeg) x2) (fun r12 => (if r12 = (0 : Int32) then some (-13 : Int32) else gk_ix x1 6 (gk_bd1 (m_J13_bitCount_95d88 (f_now_members x1.toNatClampNeg)) (fun r14 => some r14))))) else some (-11 : Int32))) else some (-2 : Int32))) else some (-2 : Int32)))
set_option maxRecDepth 100000 in
set_option maxHeartbeats 4000000 in
theorem w_X5_taken_0 {p : Program} {l : Launch} {e : Env} {s : State} {m : MethodId} {args : Array Value} {below : List Frame} {meth : Method} {c : Code} {G : gk_G} {A : Nat → Prop} {Q : State → Prop} {a0 a1 a2 a3 a4 a5 a7 a13 a15 a18 : Nat} (C : gk_C p s m args meth c cX5_taken 3 (some .int) yX5_taken wsX5_taken true G A) {f_now_members : (Nat → Int64)} {f_now_kinds : (Nat → Int32)} {x1 : Int32} {x2 : Int32} {f_isKept : Int32} {f_now_n : Int32} {yy : Int32} (hm : m_X5_taken_0 f_now_members f_now_kinds x1 x2 = some yy) (kr : ∀ (rv : Int32), yy = rv → Q = MQ below (gk_Q G (some (.int rv)) [(a0, .inr (4, [.ref a1, .ref a7, .int f_isKept, .ref a13, .ref a15, .ref a18])), (a1, .inr (0, [.int f_now_n, .ref a2, .ref a3, .ref a4, .ref a5])), (a2, gk_J G 6 f_now_members), (a3, gk_I G 6 f_now_kinds)] A) args s 0 0 A) {H : Heap} {locs : List Loc} {ls : Array Slot} (h : gk_H G A s [(a0, .inr (4, [.ref a1, .ref a7, .int f_isKept, .ref a13, .ref a15, .ref a18])), (a1, .inr (0, [.int f_now_n, .ref a2, .ref a3, .ref a4, .ref a5])), (a2, gk_J G 6 f_now_members), (a3, gk_I G 6 f_now_kinds)] H locs) (hl : lv_has ls 3 [(0, .ref a0), (1, .int x1), (2, .int x2)]) : W p l e rm_X5_taken s m args below meth c H locs 0 0 Q (F0 m 0 ls []) := by
  obtain ⟨hx, hb, hml, hr, hown, hnm, hts, hlk, hK, hSt, hA⟩ := id C
  obtain ⟨hP, hD, hS⟩ := h
  unfold m_X5_taken_0 at hm
  refine lv_iload_n hx hb dX5_taken_0 rfl (lv_at hl 1 rfl) ?_
  obtain ⟨r6, hq, hm⟩ := gk_bd1_some hm
  refine gk_callS (n := 1) (bytes := cX5_noFamily) (maxL := 1) (ret := (some .boolean)) [(a0, .inr (4, [.ref a1, .ref a7, .int f_isKept, .ref a13, .ref a15, .ref a18])), (a1, .inr (0, [.int f_now_n, .ref a2, .ref a3, .ref a4, .ref a5])), (a2, gk_J G 6 f_now_members), (a3, gk_I G 6 f_now_kinds)] [(a0, .inr (4, [.ref a1, .ref a7, .int f_isKept, .ref a13, .ref a15, .ref a18])), (a1, .inr (0, [.int f_now_n, .ref a2, .ref a3, .ref a4, .ref a5])), (a2, gk_J G 6 f_now_members), (a3, gk_I G 6 f_now_kinds)] [] C ⟨hP, hD, hS⟩ (c_X5_noFamily l G x1 hq) gX5_taken_X5_noFamily dX5_taken_1 hl.1 [] [0, 1, 2, 3] [0, 1, 2, 3] rfl ⟨rfl, rfl⟩ ⟨Nat.le_of_ble_eq_true rfl, Nat.le_of_ble_eq_true rfl⟩ ⟨by decide +kernel, by decide +kernel, by decide +kernel⟩ rfl (fun h => by cases h) (Nat.le_of_ble_eq_true rfl) rfl rfl rfl rfl (by decide) rfl rfl (fun H locs h => ?_)
  obtain ⟨hP, hD, hS⟩ := h
  refine lv_if_ne (tgt := 17) hx hb dX5_taken_4 (by decide) (fun c7 => ?_) (fun c7 => ?_)
  · have hm := gk_if c7 hm
    refine lv_bipush (v := -2) hx hb dX5_taken_17 (by decide) ?_
    rw [kr _ (Option.some.inj hm).symm]
    exact gk_iret C ⟨hP, hD, hS⟩ dX5_taken_19
  · have hm := gk_it c7 hm
    refine lv_iload_n hx hb dX5_taken_7 rfl (lv_at hl 2 rfl) ?_
    refine lv_if_lt (tgt := 17) hx hb dX5_taken_8 (by decide) (fun c8 => ?_) (fun c8 => ?_)
    · have hm := gk_it c8 hm
      refine lv_bipush (v := -2) hx hb dX5_taken_17 (by decide) ?_
      rw [kr _ (Option.some.inj hm).symm]
      exact gk_iret C ⟨hP, hD, hS⟩ dX5_taken_19
    · have hm := gk_if c8 hm
      refine lv_iload_n hx hb dX5_taken_11 rfl (lv_at hl 2 rfl) ?_
      refine lv_bipush (v := 6) hx hb dX5_taken_12 (by decide) ?_
      refine lv_icmp_lt (tgt := 20) hx hb dX5_taken_14 (by decide) (fun c9 => ?_) (fun c9 => ?_)
      · have hm := gk_it c9 hm
        refine lv_aload_n hx hb dX5_taken_20 rfl (lv_at hl 0 rfl) ?_
        refine va_get (D := G.1) (cl := vwCl) (own := RX5) (ref := "ExchangeFamilies") (ci := 4) (v := .ref a1) (C := RX5) (T := TX5) (N := 6) hx hb hts k_X5_taken_0 hown hK hP 0 rfl rfl 0 (by decide) (hts _ k_X5_taken_1) (fun _ h9 => h9) rfl dX5_taken_21 ?_
        refine lv_iload_n hx hb dX5_taken_24 rfl (lv_at hl 1 rfl) ?_
        obtain ⟨r10, hq, hm⟩ := gk_bd1_some hm
        refine gk_callV (n := 1) (bytes := cX1_isMissing) (maxL := 2) (ret := (some .boolean)) (Cn := RX1) (T := TX1) (N := 5) [(a0, .inr (4, [.ref a1, .ref a7, .int f_isKept, .ref a13, .ref a15, .ref a18])), (a2, gk_J G 6 f_now_members)] [(a0, .inr (4, [.ref a1, .ref a7, .int f_isKept, .ref a13, .ref a15, .ref a18])), (a1, .inr (0, [.int f_now_n, .ref a2, .ref a3, .ref a4, .ref a5])), (a2, gk_J G 6 f_now_members), (a3, gk_I G 6 f_now_kinds)] [] C ⟨hP, hD, hS⟩ (c_X1_isMissing l G a1 a2 a3 a4 a5 f_now_n f_now_kinds x1 hq) gX5_taken_X1_isMissing dX5_taken_25 hl.1 [1, 3] [0, 2] [0, 2, 1, 3] rfl rfl ⟨rfl, rfl⟩ ⟨Nat.le_of_ble_eq_true rfl, Nat.le_of_ble_eq_true rfl⟩ ⟨rfl, by decide +kernel, by decide +kernel, by decide +kernel⟩ rfl (fun h => by cases h) (Nat.le_of_ble_eq_true rfl) rfl rfl rfl rfl (by decide) rfl rfl (fun H locs h => ?_)
        obtain ⟨hP, hD, hS⟩ := h
        refine lv_if_eq (tgt := 34) hx hb dX5_taken_28 (by decide) (fun c11 => ?_) (fun c11 => ?_)
        · have hm := gk_it c11 hm
          refine lv_aload_n hx hb dX5_taken_34 rfl (lv_at hl 0 rfl) ?_
          refine va_get (D := G.1) (cl := vwCl) (own := RX5) (ref := "ExchangeFamilies") (ci := 4) (v := .ref a1) (C := RX5) (T := TX5) (N := 6) hx hb hts k_X5_taken_0 hown hK hP 0 rfl rfl 0 (by decide) (hts _ k_X5_taken_1) (fun _ h9 => h9) rfl dX5_taken_35 ?_
          refine va_get (D := G.1) (cl := vwCl) (own := RX5) (ref := "ExchangeFamilies$Ground") (ci := 0) (v := .ref a3) (C := RX1) (T := TX1) (N := 5) hx hb hts k_X5_taken_2 hown hK hP 1 rfl rfl 2 (by decide) (hts _ k_X5_taken_3) (fun _ h9 => h9) rfl dX5_taken_38 ?_
          refine lv_iload_n hx hb dX5_taken_41 rfl (lv_at hl 1 rfl) ?_
          obtain ⟨hi, hm⟩ := gk_ix_some hm
          refine va_iald hx hb hK hP 3 0 rfl rfl hi dX5_taken_42 ?_
          refine lv_iload_n hx hb dX5_taken_43 rfl (lv_at hl 2 rfl) ?_
          obtain ⟨r12, hq, hm⟩ := gk_bd1_some hm
          refine gk_callS (n := 2) (bytes := cX5_isUnder) (maxL := 4) (ret := (some .boolean)) [(a0, .inr (4, [.ref a1, .ref a7, .int f_isKept, .ref a13, .ref a15, .ref a18])), (a1, .inr (0, [.int f_now_n, .ref a2, .ref a3, .ref a4, .ref a5])), (a2, gk_J G 6 f_now_members), (a3, gk_I G 6 f_now_kinds)] [(a0, .inr (4, [.ref a1, .ref a7, .int f_isKept, .ref a13, .ref a15, .ref a18])), (a1, .inr (0, [.int f_now_n, .ref a2, .ref a3, .ref a4, .ref a5])), (a2, gk_J G 6 f_now_members), (a3, gk_I G 6 f_now_kinds)] [] C ⟨hP, hD, hS⟩ (c_X5_isUnder l G (f_now_kinds x1.toNatClampNeg) x2 hq) gX5_taken_X5_isUnder dX5_taken_44 hl.1 [] [0, 1, 2, 3] [0, 1, 2, 3] rfl ⟨rfl, rfl⟩ ⟨Nat.le_of_ble_eq_true rfl, Nat.le_of_ble_eq_true rfl⟩ ⟨by decide +kernel, by decide +kernel, by decide +kernel⟩ rfl (fun h => h) (Nat.le_of_ble_eq_true rfl) rfl rfl rfl rfl (by decide) rfl rfl (fun H locs h => ?_)
          obtain ⟨hP, hD, hS⟩ := h
          refine lv_if_eq (tgt := 65) hx hb dX5_taken_47 (by decide) (fun c13 => ?_) (fun c13 => ?_)
          · have hm := gk_it c13 hm
            refine lv_bipush (v := -13) hx hb dX5_taken_65 (by decide) ?_
            rw [kr _ (Option.some.inj hm).symm]
            exact gk_iret C ⟨hP, hD, hS⟩ dX5_taken_67
          · have hm := gk_if c13 hm
            refine lv_aload_n hx hb dX5_taken_50 rfl (lv_at hl 0 rfl) ?_
            refine va_get (D := G.1) (cl := vwCl) (own := RX5) (ref := "ExchangeFamilies") (ci := 4) (v := .ref a1) (C := RX5) (T := TX5) (N := 6) hx hb hts k_X5_taken_0 hown hK hP 0 rfl rfl 0 (by decide) (hts _ k_X5_taken_1) (fun _ h9 => h9) rfl dX5_taken_51 ?_
            refine va_get (D := G.1) (cl := vwCl) (own := RX5) (ref := "ExchangeFamilies$Ground") (ci := 0) (v := .ref a2) (C := RX1) (T := TX1) (N := 5) hx hb hts k_X5_taken_2 hown hK hP 1 rfl rfl 1 (by decide) (hts _ k_X5_taken_4) (fun _ h9 => h9) rfl dX5_taken_54 ?_
            refine lv_iload_n hx hb dX5_taken_57 rfl (lv_at hl 1 rfl) ?_
            obtain ⟨hi, hm⟩ := gk_ix_some hm
            refine va_lald hx hb hK hP 2 1 rfl rfl hi dX5_taken_58 ?_
            obtain ⟨r14, hq, hm⟩ := gk_bd1_some hm
            refine gk_callS (n := 1) (bytes := cJ13_bitCount_95d88) (maxL := 2) (ret := (some .int)) [(a0, .inr (4, [.ref a1, .ref a7, .int f_isKept, .ref a13, .ref a15, .ref a18])), (a1, .inr (0, [.int f_now_n, .ref a2, .ref a3, .ref a4, .ref a5])), (a2, gk_J G 6 f_now_members), (a3, gk_I G 6 f_now_kinds)] [(a0, .inr (4, [.ref a1, .ref a7, .int f_isKept, .ref a13, .ref a15, .ref a18])), (a1, .inr (0, [.int f_now_n, .ref a2, .ref a3, .ref a4, .ref a5])), (a2, gk_J G 6 f_now_members), (a3, gk_I G 6 f_now_kinds)] [] C ⟨hP, hD, hS⟩ (c_J13_bitCount_95d88 l G (f_now_members x1.toNatClampNeg) hq) gX5_taken_J13_bitCount_95d88 dX5_taken_59 hl.1 [] [0, 1, 2, 3] [0, 1, 2, 3] rfl ⟨rfl, rfl⟩ ⟨Nat.le_of_ble_eq_true rfl, Nat.le_of_ble_eq_true rfl⟩ ⟨by decide +kernel, by decide +kernel, by decide +kernel⟩ rfl (fun h => by cases h) (Nat.le_of_ble_eq_true rfl) rfl rfl rfl rfl (by decide) rfl rfl (fun H locs h => ?_)
            obtain ⟨hP, hD, hS⟩ := h
            refine lv_goto (tgt := 67) hx hb dX5_taken_62 (by decide) ?_
            rw [kr _ (Option.some.inj hm).symm]
            exact gk_iret C ⟨hP, hD, hS⟩ dX5_taken_67
        · have hm := gk_if c11 hm
          refine lv_bipush (v := -11) hx hb dX5_taken_31 (by decide) ?_
          rw [kr _ (Option.some.inj hm).symm]
          exact gk_iret C ⟨hP, hD, hS⟩ dX5_taken_33
      · have hm := gk_if c9 hm
        refine lv_bipush (v := -2) hx hb dX5_taken_17 (by decide) ?_
        rw [kr _ (Option.some.inj hm).symm]
        exact gk_iret C ⟨hP, hD, hS⟩ dX5_taken_19
def m_X5_taken (f_now_members : (Nat → Int64)) (f_now_kinds : (Nat → Int32)) (x1 : Int32) (x2 : Int32) : Option (Int32) := m_X5_taken_0 f_now_members f_now_kinds x1 x2
theorem c_X5_taken (l : Launch) (G : gk_G) (a0 a1 a2 a3 a4 a5 a7 a13 a15 a18 : Nat) (f_isKept : Int32) (f_now_n : Int32) (f_now_members : (Nat → Int64)) (f_now_kinds : (Nat → Int32)) (x1 : Int32) (x2 : Int32) {rv : Int32} (hm : m_X5_taken f_now_members f_now_kinds x1 x2 = some rv) : gk_M l yX5_taken wsX5_taken rm_X5_taken true G [.ref a0, .int x1, .int x2] [(a0, .inr (4, [.ref a1, .ref a7, .int f_isKept, .ref a13, .ref a15, .ref a18])), (a1, .inr (0, [.int f_now_n, .ref a2, .ref a3, .ref a4, .ref a5])), (a2, gk_J G 6 f_now_members), (a3, gk_I G 6 f_now_kinds)] (some (.int rv)) [(a0, .inr (4, [.ref a1, .ref a7, .int f_isKept, .ref a13, .ref a15, .ref a18])), (a1, .inr (0, [.int f_now_n, .ref a2, .ref a3, .ref a4, .ref a5])), (a2, gk_J G 6 f_now_members), (a3, gk_I G 6 f_now_kinds)] :=
  gk_of (by decide) rfl (Nat.le_of_ble_eq_true rfl) (fun p e s m below meth c A ls C h hl => w_X5_taken_0 C hm (fun v0 ez => by cases ez; rfl) h (show lv_has ls 3 [(0, .ref a0), (1, .int x1), (2, .int x2)] from hl))

/-! ===== ExchangeFamilies.fails(II)I ===== -/
abbrev rm_X5_fails : Room := { frames := 11, cells := 0, slots := 0, locals := 506 }
theorem k_X5_fails_0 : ∀ w ∈ u_ws RX5 TX5 6, w ∈ wsX5_fails := by decide +kernel
theorem k_X5_fails_1 : Cond.fieldLink RX5 12 "ExchangeFamilies" "now" "LExchangeFamilies$Ground;" ∈ wsX5_fails := by decide +kernel
theorem k_X5_fails_2 : ∀ w ∈ u_ws RX1 TX1 5, w ∈ wsX5_fails := by decide +kernel
theorem k_X5_fails_3 : Cond.fieldLink RX5 61 "ExchangeFamilies$Ground" "members" "[J" ∈ wsX5_fails := by decide +kernel
theorem k_X5_fails_4 : Cond.fieldLink RX5 46 "ExchangeFamilies$Ground" "n" "I" ∈ wsX5_fails := by decide +kernel
def m_X5_fails_0 (f_now_n : Int32) (f_now_members : (Nat → Int64)) (f_now_kinds : (Nat → Int32)) (x1 : Int32) (x2 : Int32) : Option (Int32) := gk_bd1 (m_X5_noFamily x1) (fun r8 => (if r8 = (0 : Int32) then (if x2 < (0 : Int32) then some (-2 : Int32) else (if x2 ≤ (2 : Int32) then gk_bd1 (m_X1_isMissing f_now_kinds x1) (fun r12 => (if r12 = (0 : Int32) then gk_ix x1 6 (gk_bd1 (m_X0_firstStuck (f_now_members x1.toNatClampNeg) f_now_n) (fun r14 => (if r14 = (-1 : Int32) then some r14 else (if x2 = (0 : Int32) then some r14 else gk_bd1 (m_X0_firstUnmet (f_now_members x1.toNatClampNeg) r14 f_now_n) (fun r17 => (if x2 = (1 : Int32) then some r17 else gk_bd1 (m_X0_firstLonePoint (f_now_members x1.toNatClampNeg) r14 r17 f_now_n) (fun r19 => some r19))))))) else some (-11 : Int32))) else some (-2 : Int32))) else some (-2 : Int32)))
set_option maxRecDepth 100000 in
set_option maxHeartbeats 4000000 in
theorem w_X5_fails_0 {p : Program} {l : Launch} {e : Env} {s : State} {m : MethodId} {args : Array Value} {below : List Frame} {meth : Method} {c : Code} {G : gk_G} {A : Nat → Prop} {Q : State → Prop} {a0 a1 a2 a3 a4 a5 a7 a13 a15 a18 : Nat} (C : gk_C p s m args meth c cX5_fails 7 (some .int) yX5_fails wsX5_fails true G A) {f_now_n : Int32} {f_now_members : (Nat → Int64)} {f_now_kinds : (Nat → Int32)} {x1 : Int32} {x2 : Int32} {f_isKept : Int32} {yy : Int32} (hm : m_X5_fails_0 f_now_n f_now_members f_now_kinds x1 x2 = some yy) (kr : ∀ (rv : Int32), yy = rv → Q = MQ below (gk_Q G (some (.int rv)) [(a0, .inr (4, [.ref a1, .ref a7, .int f_isKept, .ref a13, .ref a15, .ref a18])), (a1, .inr (0, [.int f_now_n, .ref a2, .ref a3, .ref a4, .ref a5])), (a2, gk_J G 6 f_now_members), (a3, gk_I G 6 f_now_kinds)] A) args s 0 0 A) {H : Heap} {locs : List Loc} {ls : Array Slot} (h : gk_H G A s [(a0, .inr (4, [.ref a1, .ref a7, .int f_isKept, .ref a13, .ref a15, .ref a18])), (a1, .inr (0, [.int f_now_n, .ref a2, .ref a3, .ref a4, .ref a5])), (a2, gk_J G 6 f_now_members), (a3, gk_I G 6 f_now_kinds)] H locs) (hl : lv_has ls 7 [(0, .ref a0), (1, .int x1), (2, .int x2)]) : W p l e rm_X5_fails s m args below meth c H locs 0 0 Q (F0 m 0 ls []) := by
  obtain ⟨hx, hb, hml, hr, hown, hnm, hts, hlk, hK, hSt, hA⟩ := id C
  obtain ⟨hP, hD, hS⟩ := h
  unfold m_X5_fails_0 at hm
  refine lv_iload_n hx hb dX5_fails_0 rfl (lv_at hl 1 rfl) ?_
  obtain ⟨r8, hq, hm⟩ := gk_bd1_some hm
  refine gk_callS (n := 1) (bytes := cX5_noFamily) (maxL := 1) (ret := (some .boolean)) [(a0, .inr (4, [.ref a1, .ref a7, .int f_isKept, .ref a13, .ref a15, .ref a18])), (a1, .inr (0, [.int f_now_n, .ref a2, .ref a3, .ref a4, .ref a5])), (a2, gk_J G 6 f_now_members), (a3, gk_I G 6 f_now_kinds)] [(a0, .inr (4, [.ref a1, .ref a7, .int f_isKept, .ref a13, .ref a15, .ref a18])), (a1, .inr (0, [.int f_now_n, .ref a2, .ref a3, .ref a4, .ref a5])), (a2, gk_J G 6 f_now_members), (a3, gk_I G 6 f_now_kinds)] [] C ⟨hP, hD, hS⟩ (c_X5_noFamily l G x1 hq) gX5_fails_X5_noFamily dX5_fails_1 hl.1 [] [0, 1, 2, 3] [0, 1, 2, 3] rfl ⟨rfl, rfl⟩ ⟨Nat.le_of_ble_eq_true rfl, Nat.le_of_ble_eq_true rfl⟩ ⟨by decide +kernel, by decide +kernel, by decide +kernel⟩ rfl (fun h => by cases h) (Nat.le_of_ble_eq_true rfl) rfl rfl rfl rfl (by decide) rfl rfl (fun H locs h => ?_)
  obtain ⟨hP, hD, hS⟩ := h
  refine lv_if_ne (tgt := 16) hx hb dX5_fails_4 (by decide) (fun c9 => ?_) (fun c9 => ?_)
  · have hm := gk_if c9 hm
    refine lv_bipush (v := -2) hx hb dX5_fails_16 (by decide) ?_
    rw [kr _ (Option.some.inj hm).symm]
    exact gk_iret C ⟨hP, hD, hS⟩ dX5_fails_18
  · have hm := gk_it c9 hm
    refine lv_iload_n hx hb dX5_fails_7 rfl (lv_at hl 2 rfl) ?_
    refine lv_if_lt (tgt := 16) hx hb dX5_fails_8 (by decide) (fun c10 => ?_) (fun c10 => ?_)
    · have hm := gk_it c10 hm
      refine lv_bipush (v := -2) hx hb dX5_fails_16 (by decide) ?_
      rw [kr _ (Option.some.inj hm).symm]
      exact gk_iret C ⟨hP, hD, hS⟩ dX5_fails_18
    · have hm := gk_if c10 hm
      refine lv_iload_n hx hb dX5_fails_11 rfl (lv_at hl 2 rfl) ?_
      refine lv_iconst (v := 2) hx hb dX5_fails_12 (by decide) ?_
      refine lv_icmp_le (tgt := 19) hx hb dX5_fails_13 (by decide) (fun c11 => ?_) (fun c11 => ?_)
      · have hm := gk_it c11 hm
        refine lv_aload_n hx hb dX5_fails_19 rfl (lv_at hl 0 rfl) ?_
        refine va_get (D := G.1) (cl := vwCl) (own := RX5) (ref := "ExchangeFamilies") (ci := 4) (v := .ref a1) (C := RX5) (T := TX5) (N := 6) hx hb hts k_X5_fails_0 hown hK hP 0 rfl rfl 0 (by decide) (hts _ k_X5_fails_1) (fun _ h9 => h9) rfl dX5_fails_20 ?_
        refine lv_iload_n hx hb dX5_fails_23 rfl (lv_at hl 1 rfl) ?_
        obtain ⟨r12, hq, hm⟩ := gk_bd1_some hm
        refine gk_callV (n := 1) (bytes := cX1_isMissing) (maxL := 2) (ret := (some .boolean)) (Cn := RX1) (T := TX1) (N := 5) [(a0, .inr (4, [.ref a1, .ref a7, .int f_isKept, .ref a13, .ref a15, .ref a18])), (a2, gk_J G 6 f_now_members)] [(a0, .inr (4, [.ref a1, .ref a7, .int f_isKept, .ref a13, .ref a15, .ref a18])), (a1, .inr (0, [.int f_now_n, .ref a2, .ref a3, .ref a4, .ref a5])), (a2, gk_J G 6 f_now_members), (a3, gk_I G 6 f_now_kinds)] [] C ⟨hP, hD, hS⟩ (c_X1_isMissing l G a1 a2 a3 a4 a5 f_now_n f_now_kinds x1 hq) gX5_fails_X1_isMissing dX5_fails_24 hl.1 [1, 3] [0, 2] [0, 2, 1, 3] rfl rfl ⟨rfl, rfl⟩ ⟨Nat.le_of_ble_eq_true rfl, Nat.le_of_ble_eq_true rfl⟩ ⟨rfl, by decide +kernel, by decide +kernel, by decide +kernel⟩ rfl (fun h => by cases h) (Nat.le_of_ble_eq_true rfl) rfl rfl rfl rfl (by decide) rfl rfl (fun H locs h => ?_)
        obtain ⟨hP, hD, hS⟩ := h
        refine lv_if_eq (tgt := 33) hx hb dX5_fails_27 (by decide) (fun c13 => ?_) (fun c13 => ?_)
        · have hm := gk_it c13 hm
          refine lv_aload_n hx hb dX5_fails_33 rfl (lv_at hl 0 rfl) ?_
          refine va_get (D := G.1) (cl := vwCl) (own := RX5) (ref := "ExchangeFamilies") (ci := 4) (v := .ref a1) (C := RX5) (T := TX5) (N := 6) hx hb hts k_X5_fails_0 hown hK hP 0 rfl rfl 0 (by decide) (hts _ k_X5_fails_1) (fun _ h9 => h9) rfl dX5_fails_34 ?_
          refine va_get (D := G.1) (cl := vwCl) (own := RX5) (ref := "ExchangeFamilies$Ground") (ci := 0) (v := .ref a2) (C := RX1) (T := TX1) (N := 5) hx hb hts k_X5_fails_2 hown hK hP 1 rfl rfl 1 (by decide) (hts _ k_X5_fails_3) (fun _ h9 => h9) rfl dX5_fails_37 ?_
          refine lv_iload_n hx hb dX5_fails_40 rfl (lv_at hl 1 rfl) ?_
          obtain ⟨hi, hm⟩ := gk_ix_some hm
          refine va_lald hx hb hK hP 2 1 rfl rfl hi dX5_fails_41 ?_
          refine lv_lstore_n (lv' := [(3, .long (f_now_members x1.toNatClampNeg)), (0, .ref a0), (1, .int x1), (2, .int x2)]) hx hb dX5_fails_42 rfl hl (by decide) rfl (fun ls hl => ?_)
          refine lv_lload_n hx hb dX5_fails_43 rfl (lv_at hl 0 rfl) ?_
          refine lv_aload_n hx hb dX5_fails_44 rfl (lv_at hl 1 rfl) ?_
          refine va_get (D := G.1) (cl := vwCl) (own := RX5) (ref := "ExchangeFamilies") (ci := 4) (v := .ref a1) (C := RX5) (T := TX5) (N := 6) hx hb hts k_X5_fails_0 hown hK hP 0 rfl rfl 0 (by decide) (hts _ k_X5_fails_1) (fun _ h9 => h9) rfl dX5_fails_45 ?_
          refine va_get (D := G.1) (cl := vwCl) (own := RX5) (ref := "ExchangeFamilies$Ground") (ci := 0) (v := .int f_now_n) (C := RX1) (T := TX1) (N := 5) hx hb hts k_X5_fails_2 hown hK hP 1 rfl rfl 0 (by decide) (hts _ k_X5_fails_4) (fun _ h9 => h9) rfl dX5_fails_48 ?_
          obtain ⟨r14, hq, hm⟩ := gk_bd1_some hm
          refine gk_callS (n := 2) (bytes := cX0_firstStuck) (maxL := 4) (ret := (some .int)) [(a0, .inr (4, [.ref a1, .ref a7, .int f_isKept, .ref a13, .ref a15, .ref a18])), (a1, .inr (0, [.int f_now_n, .ref a2, .ref a3, .ref a4, .ref a5])), (a2, gk_J G 6 f_now_members), (a3, gk_I G 6 f_now_kinds)] [(a0, .inr (4, [.ref a1, .ref a7, .int f_isKept, .ref a13, .ref a15, .ref a18])), (a1, .inr (0, [.int f_now_n, .ref a2, .ref a3, .ref a4, .ref a5])), (a2, gk_J G 6 f_now_members), (a3, gk_I G 6 f_now_kinds)] [] C ⟨hP, hD, hS⟩ (c_X0_firstStuck l G (f_now_members x1.toNatClampNeg) f_now_n hq) gX5_fails_X0_firstStuck dX5_fails_51 hl.1 [] [0, 1, 2, 3] [0, 1, 2, 3] rfl ⟨rfl, rfl⟩ ⟨Nat.le_of_ble_eq_true rfl, Nat.le_of_ble_eq_true rfl⟩ ⟨by decide +kernel, by decide +kernel, by decide +kernel⟩ rfl (fun h => h) (Nat.le_of_ble_eq_true rfl) rfl rfl rfl rfl (by decide) rfl rfl (fun H locs h => ?_)
          obtain ⟨hP, hD, hS⟩ := h
          refine lv_istore (lv' := [(5, .int r14), (3, .long (f_now_members x1.toNatClampNeg)), (0, .ref a0), (1, .int x1), (2, .int x2)]) hx hb dX5_fails_54 hl (by decide) rfl (fun ls hl => ?_)
          refine lv_iload hx hb dX5_fails_56 (lv_at hl 0 rfl) ?_
          refine lv_iconst (v := -1) hx hb dX5_fails_58 (by decide) ?_
          refine lv_icmp_eq (tgt := 66) hx hb dX5_fails_59 (by decide) (fun c15 => ?_) (fun c15 => ?_)
          · have hm := gk_it c15 hm
            refine lv_iload hx hb dX5_fails_66 (lv_at hl 0 rfl) ?_
            rw [kr _ (Option.some.inj hm).symm]
            exact gk_iret C ⟨hP, hD, hS⟩ dX5_fails_68
          · have hm := gk_if c15 hm
            refine lv_iload_n hx hb dX5_fails_62 rfl (lv_at hl 4 rfl) ?_
            refine lv_if_ne (tgt := 69) hx hb dX5_fails_63 (by decide) (fun c16 => ?_) (fun c16 => ?_)
            · have hm := gk_if c16 hm
              refine lv_lload_n hx hb dX5_fails_69 rfl (lv_at hl 1 rfl) ?_
              refine lv_iload hx hb dX5_fails_70 (lv_at hl 0 rfl) ?_
              refine lv_aload_n hx hb dX5_fails_72 rfl (lv_at hl 2 rfl) ?_
              refine va_get (D := G.1) (cl := vwCl) (own := RX5) (ref := "ExchangeFamilies") (ci := 4) (v := .ref a1) (C := RX5) (T := TX5) (N := 6) hx hb hts k_X5_fails_0 hown hK hP 0 rfl rfl 0 (by decide) (hts _ k_X5_fails_1) (fun _ h9 => h9) rfl dX5_fails_73 ?_
              refine va_get (D := G.1) (cl := vwCl) (own := RX5) (ref := "ExchangeFamilies$Ground") (ci := 0) (v := .int f_now_n) (C := RX1) (T := TX1) (N := 5) hx hb hts k_X5_fails_2 hown hK hP 1 rfl rfl 0 (by decide) (hts _ k_X5_fails_4) (fun _ h9 => h9) rfl dX5_fails_76 ?_
              obtain ⟨r17, hq, hm⟩ := gk_bd1_some hm
              refine gk_callS (n := 3) (bytes := cX0_firstUnmet) (maxL := 4) (ret := (some .int)) [(a0, .inr (4, [.ref a1, .ref a7, .int f_isKept, .ref a13, .ref a15, .ref a18])), (a1, .inr (0, [.int f_now_n, .ref a2, .ref a3, .ref a4, .ref a5])), (a2, gk_J G 6 f_now_members), (a3, gk_I G 6 f_now_kinds)] [(a0, .inr (4, [.ref a1, .ref a7, .int f_isKept, .ref a13, .ref a15, .ref a18])), (a1, .inr (0, [.int f_now_n, .ref a2, .ref a3, .ref a4, .ref a5])), (a2, gk_J G 6 f_now_members), (a3, gk_I G 6 f_now_kinds)] [] C ⟨hP, hD, hS⟩ (c_X0_firstUnmet l G (f_now_members x1.toNatClampNeg) r14 f_now_n hq) gX5_fails_X0_firstUnmet dX5_fails_79 hl.1 [] [0, 1, 2, 3] [0, 1, 2, 3] rfl ⟨rfl, rfl⟩ ⟨Nat.le_of_ble_eq_true rfl, Nat.le_of_ble_eq_true rfl⟩ ⟨by decide +kernel, by decide +kernel, by decide +kernel⟩ rfl (fun h => h) (Nat.le_of_ble_eq_true rfl) rfl rfl rfl rfl (by decide) rfl rfl (fun H locs h => ?_)
              obtain ⟨hP, hD, hS⟩ := h
              refine lv_istore (lv' := [(6, .int r17), (5, .int r14), (3, .long (f_now_members x1.toNatClampNeg)), (0, .ref a0), (1, .int x1), (2, .int x2)]) hx hb dX5_fails_82 hl (by decide) rfl (fun ls hl => ?_)
              refine lv_iload_n hx hb dX5_fails_84 rfl (lv_at hl 5 rfl) ?_
              refine lv_iconst (v := 1) hx hb dX5_fails_85 (by decide) ?_
              refine lv_icmp_ne (tgt := 94) hx hb dX5_fails_86 (by decide) (fun c18 => ?_) (fun c18 => ?_)
              · have hm := gk_if c18 hm
                refine lv_lload_n hx hb dX5_fails_94 rfl (lv_at hl 2 rfl) ?_
                refine lv_iload hx hb dX5_fails_95 (lv_at hl 1 rfl) ?_
                refine lv_iload hx hb dX5_fails_97 (lv_at hl 0 rfl) ?_
                refine lv_aload_n hx hb dX5_fails_99 rfl (lv_at hl 3 rfl) ?_
                refine va_get (D := G.1) (cl := vwCl) (own := RX5) (ref := "ExchangeFamilies") (ci := 4) (v := .ref a1) (C := RX5) (T := TX5) (N := 6) hx hb hts k_X5_fails_0 hown hK hP 0 rfl rfl 0 (by decide) (hts _ k_X5_fails_1) (fun _ h9 => h9) rfl dX5_fails_100 ?_
                refine va_get (D := G.1) (cl := vwCl) (own := RX5) (ref := "ExchangeFamilies$Ground") (ci := 0) (v := .int f_now_n) (C := RX1) (T := TX1) (N := 5) hx hb hts k_X5_fails_2 hown hK hP 1 rfl rfl 0 (by decide) (hts _ k_X5_fails_4) (fun _ h9 => h9) rfl dX5_fails_103 ?_
                obtain ⟨r19, hq, hm⟩ := gk_bd1_some hm
                refine gk_callS (n := 4) (bytes := cX0_firstLonePoint) (maxL := 6) (ret := (some .int)) [(a0, .inr (4, [.ref a1, .ref a7, .int f_isKept, .ref a13, .ref a15, .ref a18])), (a1, .inr (0, [.int f_now_n, .ref a2, .ref a3, .ref a4, .ref a5])), (a2, gk_J G 6 f_now_members), (a3, gk_I G 6 f_now_kinds)] [(a0, .inr (4, [.ref a1, .ref a7, .int f_isKept, .ref a13, .ref a15, .ref a18])), (a1, .inr (0, [.int f_now_n, .ref a2, .ref a3, .ref a4, .ref a5])), (a2, gk_J G 6 f_now_members), (a3, gk_I G 6 f_now_kinds)] [] C ⟨hP, hD, hS⟩ (c_X0_firstLonePoint l G (f_now_members x1.toNatClampNeg) r14 r17 f_now_n hq) gX5_fails_X0_firstLonePoint dX5_fails_106 hl.1 [] [0, 1, 2, 3] [0, 1, 2, 3] rfl ⟨rfl, rfl⟩ ⟨Nat.le_of_ble_eq_true rfl, Nat.le_of_ble_eq_true rfl⟩ ⟨by decide +kernel, by decide +kernel, by decide +kernel⟩ rfl (fun h => h) (Nat.le_of_ble_eq_true rfl) rfl rfl rfl rfl (by decide) rfl rfl (fun H locs h => ?_)
                obtain ⟨hP, hD, hS⟩ := h
                rw [kr _ (Option.some.inj hm).symm]
                exact gk_iret C ⟨hP, hD, hS⟩ dX5_fails_109
              · have hm := gk_it c18 hm
                refine lv_iload hx hb dX5_fails_89 (lv_at hl 0 rfl) ?_
                refine lv_goto (tgt := 109) hx hb dX5_fails_91 (by decide) ?_
                rw [kr _ (Option.some.inj hm).symm]
                exact gk_iret C ⟨hP, hD, hS⟩ dX5_fails_109
            · have hm := gk_it c16 hm
              refine lv_iload hx hb dX5_fails_66 (lv_at hl 0 rfl) ?_
              rw [kr _ (Option.some.inj hm).symm]
              exact gk_iret C ⟨hP, hD, hS⟩ dX5_fails_68
        · have hm := gk_if c13 hm
          refine lv_bipush (v := -11) hx hb dX5_fails_30 (by decide) ?_
          rw [kr _ (Option.some.inj hm).symm]
          exact gk_iret C ⟨hP, hD, hS⟩ dX5_fails_32
      · have hm := gk_if c11 hm
        refine lv_bipush (v := -2) hx hb dX5_fails_16 (by decide) ?_
        rw [kr _ (Option.some.inj hm).symm]
        exact gk_iret C ⟨hP, hD, hS⟩ dX5_fails_18
def m_X5_fails (f_now_n : Int32) (f_now_members : (Nat → Int64)) (f_now_kinds : (Nat → Int32)) (x1 : Int32) (x2 : Int32) : Option (Int32) := m_X5_fails_0 f_now_n f_now_members f_now_kinds x1 x2
theorem c_X5_fails (l : Launch) (G : gk_G) (a0 a1 a2 a3 a4 a5 a7 a13 a15 a18 : Nat) (f_isKept : Int32) (f_now_n : Int32) (f_now_members : (Nat → Int64)) (f_now_kinds : (Nat → Int32)) (x1 : Int32) (x2 : Int32) {rv : Int32} (hm : m_X5_fails f_now_n f_now_members f_now_kinds x1 x2 = some rv) : gk_M l yX5_fails wsX5_fails rm_X5_fails true G [.ref a0, .int x1, .int x2] [(a0, .inr (4, [.ref a1, .ref a7, .int f_isKept, .ref a13, .ref a15, .ref a18])), (a1, .inr (0, [.int f_now_n, .ref a2, .ref a3, .ref a4, .ref a5])), (a2, gk_J G 6 f_now_members), (a3, gk_I G 6 f_now_kinds)] (some (.int rv)) [(a0, .inr (4, [.ref a1, .ref a7, .int f_isKept, .ref a13, .ref a15, .ref a18])), (a1, .inr (0, [.int f_now_n, .ref a2, .ref a3, .ref a4, .ref a5])), (a2, gk_J G 6 f_now_members), (a3, gk_I G 6 f_now_kinds)] :=
  gk_of (by decide) rfl (Nat.le_of_ble_eq_true rfl) (fun p e s m below meth c A ls C h hl => w_X5_fails_0 C hm (fun v0 ez => by cases ez; rfl) h (show lv_has ls 7 [(0, .ref a0), (1, .int x1), (2, .int x2)] from hl))

/-! ===== ExchangeFamilies.partner(IIII)I ===== -/
abbrev rm_X5_partner : Room := { frames := 5, cells := 0, slots := 0, locals := 240 }
theorem k_X5_partner_0 : ∀ w ∈ u_ws RX5 TX5 6, w ∈ wsX5_partner := by decide +kernel
theorem k_X5_partner_1 : Cond.fieldLink RX5 12 "ExchangeFamilies" "now" "LExchangeFamilies$Ground;" ∈ wsX5_partner := by decide +kernel
theorem k_X5_partner_2 : ∀ w ∈ u_ws RX1 TX1 5, w ∈ wsX5_partner := by decide +kernel
theorem k_X5_partner_3 : Cond.fieldLink RX5 61 "ExchangeFamilies$Ground" "members" "[J" ∈ wsX5_partner := by decide +kernel
theorem k_X5_partner_4 : Cond.fieldLink RX5 46 "ExchangeFamilies$Ground" "n" "I" ∈ wsX5_partner := by decide +kernel
def m_X5_partner_0 (f_now_n : Int32) (f_now_members : (Nat → Int64)) (f_now_kinds : (Nat → Int32)) (x1 : Int32) (x2 : Int32) (x3 : Int32) (x4 : Int32) : Option (Int32) := gk_bd1 (m_X5_noFamily x1) (fun r9 => (if r9 = (0 : Int32) then gk_bd1 (m_X5_noSet f_now_n x2) (fun r11 => (if r11 = (0 : Int32) then gk_bd1 (m_X5_noSet f_now_n x3) (fun r13 => (if r13 = (0 : Int32) then gk_bd1 (m_X5_noPoint f_now_n x4) (fun r15 => (if r15 = (0 : Int32) then gk_bd1 (m_X1_isMissing f_now_kinds x1) (fun r17 => (if r17 = (0 : Int32) then gk_ix x1 6 (gk_bd1 (m_X0_holds (f_now_members x1.toNatClampNeg) x2) (fun r19 => (if r19 = (0 : Int32) then some (-3 : Int32) else gk_bd1 (m_X0_holds (f_now_members x1.toNatClampNeg) x3) (fun r21 => (if r21 = (0 : Int32) then some (-3 : Int32) else (if (((x2 ^^^ x3) >>> (x4 &&& 31)) &&& (1 : Int32)) = (0 : Int32) then some (-3 : Int32) else gk_bd1 (m_X0_partners (f_now_members x1.toNatClampNeg) x2 x4 f_now_n) (fun r24 => gk_bd1 (m_X5_leastBit (r24 &&& (x2 ^^^ x3))) (fun r25 => some r25)))))))) else some (-11 : Int32))) else some (-2 : Int32))) else some (-2 : Int32))) else some (-2 : Int32))) else some (-2 : Int32)))
set_option maxRecDepth 100000 in
set_option maxHeartbeats 4000000 in
theorem w_X5_partner_0 {p : Program} {l : Launch} {e : Env} {s : State} {m : MethodId} {args : Array Value} {below : List Frame} {meth : Method} {c : Code} {G : gk_G} {A : Nat → Prop} {Q : State → Prop} {a0 a1 a2 a3 a4 a5 a7 a13 a15 a18 : Nat} (C : gk_C p s m args meth c cX5_partner 8 (some .int) yX5_partner wsX5_partner false G A) {f_now_n : Int32} {f_now_members : (Nat → Int64)} {f_now_kinds : (Nat → Int32)} {x1 : Int32} {x2 : Int32} {x3 : Int32} {x4 : Int32} {f_isKept : Int32} {yy : Int32} (hm : m_X5_partner_0 f_now_n f_now_members f_now_kinds x1 x2 x3 x4 = some yy) (kr : ∀ (rv : Int32), yy = rv → Q = MQ below (gk_Q G (some (.int rv)) [(a0, .inr (4, [.ref a1, .ref a7, .int f_isKept, .ref a13, .ref a15, .ref a18])), (a1, .inr (0, [.int f_now_n, .ref a2, .ref a3, .ref a4, .ref a5])), (a2, gk_J G 6 f_now_members), (a3, gk_I G 6 f_now_kinds)] A) args s 0 0 A) {H : Heap} {locs : List Loc} {ls : Array Slot} (h : gk_H G A s [(a0, .inr (4, [.ref a1, .ref a7, .int f_isKept, .ref a13, .ref a15, .ref a18])), (a1, .inr (0, [.int f_now_n, .ref a2, .ref a3, .ref a4, .ref a5])), (a2, gk_J G 6 f_now_members), (a3, gk_I G 6 f_now_kinds)] H locs) (hl : lv_has ls 8 [(0, .ref a0), (1, .int x1), (2, .int x2), (3, .int x3), (4, .int x4)]) : W p l e rm_X5_partner s m args below meth c H locs 0 0 Q (F0 m 0 ls []) := by
  obtain ⟨hx, hb, hml, hr, hown, hnm, hts, hlk, hK, hSt, hA⟩ := id C
  obtain ⟨hP, hD, hS⟩ := h
  unfold m_X5_partner_0 at hm
  refine lv_iload_n hx hb dX5_partner_0 rfl (lv_at hl 1 rfl) ?_
  obtain ⟨r9, hq, hm⟩ := gk_bd1_some hm
  refine gk_callS (n := 1) (bytes := cX5_noFamily) (maxL := 1) (ret := (some .boolean)) [(a0, .inr (4, [.ref a1, .ref a7, .int f_isKept, .ref a13, .ref a15, .ref a18])), (a1, .inr (0, [.int f_now_n, .ref a2, .ref a3, .ref a4, .ref a5])), (a2, gk_J G 6 f_now_members), (a3, gk_I G 6 f_now_kinds)] [(a0, .inr (4, [.ref a1, .ref a7, .int f_isKept, .ref a13, .ref a15, .ref a18])), (a1, .inr (0, [.int f_now_n, .ref a2, .ref a3, .ref a4, .ref a5])), (a2, gk_J G 6 f_now_members), (a3, gk_I G 6 f_now_kinds)] [] C ⟨hP, hD, hS⟩ (c_X5_noFamily l G x1 hq) gX5_partner_X5_noFamily dX5_partner_1 hl.1 [] [0, 1, 2, 3] [0, 1, 2, 3] rfl ⟨rfl, rfl⟩ ⟨Nat.le_of_ble_eq_true rfl, Nat.le_of_ble_eq_true rfl⟩ ⟨by decide +kernel, by decide +kernel, by decide +kernel⟩ rfl (fun h => by cases h) (Nat.le_of_ble_eq_true rfl) rfl rfl rfl rfl (by decide) rfl rfl (fun H locs h => ?_)
  obtain ⟨hP, hD, hS⟩ := h
  refine lv_if_ne (tgt := 32) hx hb dX5_partner_4 (by decide) (fun c10 => ?_) (fun c10 => ?_)
  · have hm := gk_if c10 hm
    refine lv_bipush (v := -2) hx hb dX5_partner_32 (by decide) ?_
    rw [kr _ (Option.some.inj hm).symm]
    exact gk_iret C ⟨hP, hD, hS⟩ dX5_partner_34
  · have hm := gk_it c10 hm
    refine lv_aload_n hx hb dX5_partner_7 rfl (lv_at hl 0 rfl) ?_
    refine lv_iload_n hx hb dX5_partner_8 rfl (lv_at hl 2 rfl) ?_
    obtain ⟨r11, hq, hm⟩ := gk_bd1_some hm
    refine gk_callV (n := 1) (bytes := cX5_noSet) (maxL := 2) (ret := (some .boolean)) (Cn := RX5) (T := TX5) (N := 6) [(a2, gk_J G 6 f_now_members), (a3, gk_I G 6 f_now_kinds)] [(a0, .inr (4, [.ref a1, .ref a7, .int f_isKept, .ref a13, .ref a15, .ref a18])), (a1, .inr (0, [.int f_now_n, .ref a2, .ref a3, .ref a4, .ref a5])), (a2, gk_J G 6 f_now_members), (a3, gk_I G 6 f_now_kinds)] [] C ⟨hP, hD, hS⟩ (c_X5_noSet l G a0 a1 a2 a3 a4 a5 a7 a13 a15 a18 f_isKept f_now_n x2 hq) gX5_partner_X5_noSet dX5_partner_9 hl.1 [0, 1] [2, 3] [2, 3, 0, 1] rfl rfl ⟨rfl, rfl⟩ ⟨Nat.le_of_ble_eq_true rfl, Nat.le_of_ble_eq_true rfl⟩ ⟨rfl, by decide +kernel, by decide +kernel, by decide +kernel⟩ rfl (fun h => by cases h) (Nat.le_of_ble_eq_true rfl) rfl rfl rfl rfl (by decide) rfl rfl (fun H locs h => ?_)
    obtain ⟨hP, hD, hS⟩ := h
    refine lv_if_ne (tgt := 32) hx hb dX5_partner_12 (by decide) (fun c12 => ?_) (fun c12 => ?_)
    · have hm := gk_if c12 hm
      refine lv_bipush (v := -2) hx hb dX5_partner_32 (by decide) ?_
      rw [kr _ (Option.some.inj hm).symm]
      exact gk_iret C ⟨hP, hD, hS⟩ dX5_partner_34
    · have hm := gk_it c12 hm
      refine lv_aload_n hx hb dX5_partner_15 rfl (lv_at hl 0 rfl) ?_
      refine lv_iload_n hx hb dX5_partner_16 rfl (lv_at hl 3 rfl) ?_
      obtain ⟨r13, hq, hm⟩ := gk_bd1_some hm
      refine gk_callV (n := 1) (bytes := cX5_noSet) (maxL := 2) (ret := (some .boolean)) (Cn := RX5) (T := TX5) (N := 6) [(a2, gk_J G 6 f_now_members), (a3, gk_I G 6 f_now_kinds)] [(a0, .inr (4, [.ref a1, .ref a7, .int f_isKept, .ref a13, .ref a15, .ref a18])), (a1, .inr (0, [.int f_now_n, .ref a2, .ref a3, .ref a4, .ref a5])), (a2, gk_J G 6 f_now_members), (a3, gk_I G 6 f_now_kinds)] [] C ⟨hP, hD, hS⟩ (c_X5_noSet l G a0 a1 a2 a3 a4 a5 a7 a13 a15 a18 f_isKept f_now_n x3 hq) gX5_partner_X5_noSet dX5_partner_17 hl.1 [0, 1] [2, 3] [2, 3, 0, 1] rfl rfl ⟨rfl, rfl⟩ ⟨Nat.le_of_ble_eq_true rfl, Nat.le_of_ble_eq_true rfl⟩ ⟨rfl, by decide +kernel, by decide +kernel, by decide +kernel⟩ rfl (fun h => by cases h) (Nat.le_of_ble_eq_true rfl) rfl rfl rfl rfl (by decide) rfl rfl (fun H locs h => ?_)
      obtain ⟨hP, hD, hS⟩ := h
      refine lv_if_ne (tgt := 32) hx hb dX5_partner_20 (by decide) (fun c14 => ?_) (fun c14 => ?_)
      · have hm := gk_if c14 hm
        refine lv_bipush (v := -2) hx hb dX5_partner_32 (by decide) ?_
        rw [kr _ (Option.some.inj hm).symm]
        exact gk_iret C ⟨hP, hD, hS⟩ dX5_partner_34
      · have hm := gk_it c14 hm
        refine lv_aload_n hx hb dX5_partner_23 rfl (lv_at hl 0 rfl) ?_
        refine lv_iload hx hb dX5_partner_24 (lv_at hl 4 rfl) ?_
        obtain ⟨r15, hq, hm⟩ := gk_bd1_some hm
        refine gk_callV (n := 1) (bytes := cX5_noPoint) (maxL := 2) (ret := (some .boolean)) (Cn := RX5) (T := TX5) (N := 6) [(a2, gk_J G 6 f_now_members), (a3, gk_I G 6 f_now_kinds)] [(a0, .inr (4, [.ref a1, .ref a7, .int f_isKept, .ref a13, .ref a15, .ref a18])), (a1, .inr (0, [.int f_now_n, .ref a2, .ref a3, .ref a4, .ref a5])), (a2, gk_J G 6 f_now_members), (a3, gk_I G 6 f_now_kinds)] [] C ⟨hP, hD, hS⟩ (c_X5_noPoint l G a0 a1 a2 a3 a4 a5 a7 a13 a15 a18 f_isKept f_now_n x4 hq) gX5_partner_X5_noPoint dX5_partner_26 hl.1 [0, 1] [2, 3] [2, 3, 0, 1] rfl rfl ⟨rfl, rfl⟩ ⟨Nat.le_of_ble_eq_true rfl, Nat.le_of_ble_eq_true rfl⟩ ⟨rfl, by decide +kernel, by decide +kernel, by decide +kernel⟩ rfl (fun h => by cases h) (Nat.le_of_ble_eq_true rfl) rfl rfl rfl rfl (by decide) rfl rfl (fun H locs h => ?_)
        obtain ⟨hP, hD, hS⟩ := h
        refine lv_if_eq (tgt := 35) hx hb dX5_partner_29 (by decide) (fun c16 => ?_) (fun c16 => ?_)
        · have hm := gk_it c16 hm
          refine lv_aload_n hx hb dX5_partner_35 rfl (lv_at hl 0 rfl) ?_
          refine va_get (D := G.1) (cl := vwCl) (own := RX5) (ref := "ExchangeFamilies") (ci := 4) (v := .ref a1) (C := RX5) (T := TX5) (N := 6) hx hb hts k_X5_partner_0 hown hK hP 0 rfl rfl 0 (by decide) (hts _ k_X5_partner_1) (fun _ h9 => h9) rfl dX5_partner_36 ?_
          refine lv_iload_n hx hb dX5_partner_39 rfl (lv_at hl 1 rfl) ?_
          obtain ⟨r17, hq, hm⟩ := gk_bd1_some hm
          refine gk_callV (n := 1) (bytes := cX1_isMissing) (maxL := 2) (ret := (some .boolean)) (Cn := RX1) (T := TX1) (N := 5) [(a0, .inr (4, [.ref a1, .ref a7, .int f_isKept, .ref a13, .ref a15, .ref a18])), (a2, gk_J G 6 f_now_members)] [(a0, .inr (4, [.ref a1, .ref a7, .int f_isKept, .ref a13, .ref a15, .ref a18])), (a1, .inr (0, [.int f_now_n, .ref a2, .ref a3, .ref a4, .ref a5])), (a2, gk_J G 6 f_now_members), (a3, gk_I G 6 f_now_kinds)] [] C ⟨hP, hD, hS⟩ (c_X1_isMissing l G a1 a2 a3 a4 a5 f_now_n f_now_kinds x1 hq) gX5_partner_X1_isMissing dX5_partner_40 hl.1 [1, 3] [0, 2] [0, 2, 1, 3] rfl rfl ⟨rfl, rfl⟩ ⟨Nat.le_of_ble_eq_true rfl, Nat.le_of_ble_eq_true rfl⟩ ⟨rfl, by decide +kernel, by decide +kernel, by decide +kernel⟩ rfl (fun h => by cases h) (Nat.le_of_ble_eq_true rfl) rfl rfl rfl rfl (by decide) rfl rfl (fun H locs h => ?_)
          obtain ⟨hP, hD, hS⟩ := h
          refine lv_if_eq (tgt := 49) hx hb dX5_partner_43 (by decide) (fun c18 => ?_) (fun c18 => ?_)
          · have hm := gk_it c18 hm
            refine lv_aload_n hx hb dX5_partner_49 rfl (lv_at hl 0 rfl) ?_
            refine va_get (D := G.1) (cl := vwCl) (own := RX5) (ref := "ExchangeFamilies") (ci := 4) (v := .ref a1) (C := RX5) (T := TX5) (N := 6) hx hb hts k_X5_partner_0 hown hK hP 0 rfl rfl 0 (by decide) (hts _ k_X5_partner_1) (fun _ h9 => h9) rfl dX5_partner_50 ?_
            refine va_get (D := G.1) (cl := vwCl) (own := RX5) (ref := "ExchangeFamilies$Ground") (ci := 0) (v := .ref a2) (C := RX1) (T := TX1) (N := 5) hx hb hts k_X5_partner_2 hown hK hP 1 rfl rfl 1 (by decide) (hts _ k_X5_partner_3) (fun _ h9 => h9) rfl dX5_partner_53 ?_
            refine lv_iload_n hx hb dX5_partner_56 rfl (lv_at hl 1 rfl) ?_
            obtain ⟨hi, hm⟩ := gk_ix_some hm
            refine va_lald hx hb hK hP 2 1 rfl rfl hi dX5_partner_57 ?_
            refine lv_lstore (lv' := [(5, .long (f_now_members x1.toNatClampNeg)), (0, .ref a0), (1, .int x1), (2, .int x2), (3, .int x3), (4, .int x4)]) hx hb dX5_partner_58 hl (by decide) rfl (fun ls hl => ?_)
            refine lv_iload_n hx hb dX5_partner_60 rfl (lv_at hl 3 rfl) ?_
            refine lv_iload_n hx hb dX5_partner_61 rfl (lv_at hl 4 rfl) ?_
            refine lv_ixor hx hb dX5_partner_62 ?_
            refine lv_istore (lv' := [(7, .int (x2 ^^^ x3)), (5, .long (f_now_members x1.toNatClampNeg)), (0, .ref a0), (1, .int x1), (2, .int x2), (3, .int x3), (4, .int x4)]) hx hb dX5_partner_63 hl (by decide) rfl (fun ls hl => ?_)
            refine lv_lload hx hb dX5_partner_65 (lv_at hl 1 rfl) ?_
            refine lv_iload_n hx hb dX5_partner_67 rfl (lv_at hl 4 rfl) ?_
            obtain ⟨r19, hq, hm⟩ := gk_bd1_some hm
            refine gk_callS (n := 2) (bytes := cX0_holds) (maxL := 3) (ret := (some .boolean)) [(a0, .inr (4, [.ref a1, .ref a7, .int f_isKept, .ref a13, .ref a15, .ref a18])), (a1, .inr (0, [.int f_now_n, .ref a2, .ref a3, .ref a4, .ref a5])), (a2, gk_J G 6 f_now_members), (a3, gk_I G 6 f_now_kinds)] [(a0, .inr (4, [.ref a1, .ref a7, .int f_isKept, .ref a13, .ref a15, .ref a18])), (a1, .inr (0, [.int f_now_n, .ref a2, .ref a3, .ref a4, .ref a5])), (a2, gk_J G 6 f_now_members), (a3, gk_I G 6 f_now_kinds)] [] C ⟨hP, hD, hS⟩ (c_X0_holds l G (f_now_members x1.toNatClampNeg) x2 hq) gX5_partner_X0_holds dX5_partner_68 hl.1 [] [0, 1, 2, 3] [0, 1, 2, 3] rfl ⟨rfl, rfl⟩ ⟨Nat.le_of_ble_eq_true rfl, Nat.le_of_ble_eq_true rfl⟩ ⟨by decide +kernel, by decide +kernel, by decide +kernel⟩ rfl (fun h => by cases h) (Nat.le_of_ble_eq_true rfl) rfl rfl rfl rfl (by decide) rfl rfl (fun H locs h => ?_)
            obtain ⟨hP, hD, hS⟩ := h
            refine lv_if_eq (tgt := 93) hx hb dX5_partner_71 (by decide) (fun c20 => ?_) (fun c20 => ?_)
            · have hm := gk_it c20 hm
              refine lv_bipush (v := -3) hx hb dX5_partner_93 (by decide) ?_
              rw [kr _ (Option.some.inj hm).symm]
              exact gk_iret C ⟨hP, hD, hS⟩ dX5_partner_95
            · have hm := gk_if c20 hm
              refine lv_lload hx hb dX5_partner_74 (lv_at hl 1 rfl) ?_
              refine lv_iload_n hx hb dX5_partner_76 rfl (lv_at hl 5 rfl) ?_
              obtain ⟨r21, hq, hm⟩ := gk_bd1_some hm
              refine gk_callS (n := 2) (bytes := cX0_holds) (maxL := 3) (ret := (some .boolean)) [(a0, .inr (4, [.ref a1, .ref a7, .int f_isKept, .ref a13, .ref a15, .ref a18])), (a1, .inr (0, [.int f_now_n, .ref a2, .ref a3, .ref a4, .ref a5])), (a2, gk_J G 6 f_now_members), (a3, gk_I G 6 f_now_kinds)] [(a0, .inr (4, [.ref a1, .ref a7, .int f_isKept, .ref a13, .ref a15, .ref a18])), (a1, .inr (0, [.int f_now_n, .ref a2, .ref a3, .ref a4, .ref a5])), (a2, gk_J G 6 f_now_members), (a3, gk_I G 6 f_now_kinds)] [] C ⟨hP, hD, hS⟩ (c_X0_holds l G (f_now_members x1.toNatClampNeg) x3 hq) gX5_partner_X0_holds dX5_partner_77 hl.1 [] [0, 1, 2, 3] [0, 1, 2, 3] rfl ⟨rfl, rfl⟩ ⟨Nat.le_of_ble_eq_true rfl, Nat.le_of_ble_eq_true rfl⟩ ⟨by decide +kernel, by decide +kernel, by decide +kernel⟩ rfl (fun h => by cases h) (Nat.le_of_ble_eq_true rfl) rfl rfl rfl rfl (by decide) rfl rfl (fun H locs h => ?_)
              obtain ⟨hP, hD, hS⟩ := h
              refine lv_if_eq (tgt := 93) hx hb dX5_partner_80 (by decide) (fun c22 => ?_) (fun c22 => ?_)
              · have hm := gk_it c22 hm
                refine lv_bipush (v := -3) hx hb dX5_partner_93 (by decide) ?_
                rw [kr _ (Option.some.inj hm).symm]
                exact gk_iret C ⟨hP, hD, hS⟩ dX5_partner_95
              · have hm := gk_if c22 hm
                refine lv_iload hx hb dX5_partner_83 (lv_at hl 0 rfl) ?_
                refine lv_iload hx hb dX5_partner_85 (lv_at hl 6 rfl) ?_
                refine lv_ishr hx hb dX5_partner_87 ?_
                refine lv_iconst (v := 1) hx hb dX5_partner_88 (by decide) ?_
                refine lv_iand hx hb dX5_partner_89 ?_
                refine lv_if_ne (tgt := 96) hx hb dX5_partner_90 (by decide) (fun c23 => ?_) (fun c23 => ?_)
                · have hm := gk_if c23 hm
                  refine lv_lload hx hb dX5_partner_96 (lv_at hl 1 rfl) ?_
                  refine lv_iload_n hx hb dX5_partner_98 rfl (lv_at hl 4 rfl) ?_
                  refine lv_iload hx hb dX5_partner_99 (lv_at hl 6 rfl) ?_
                  refine lv_aload_n hx hb dX5_partner_101 rfl (lv_at hl 2 rfl) ?_
                  refine va_get (D := G.1) (cl := vwCl) (own := RX5) (ref := "ExchangeFamilies") (ci := 4) (v := .ref a1) (C := RX5) (T := TX5) (N := 6) hx hb hts k_X5_partner_0 hown hK hP 0 rfl rfl 0 (by decide) (hts _ k_X5_partner_1) (fun _ h9 => h9) rfl dX5_partner_102 ?_
                  refine va_get (D := G.1) (cl := vwCl) (own := RX5) (ref := "ExchangeFamilies$Ground") (ci := 0) (v := .int f_now_n) (C := RX1) (T := TX1) (N := 5) hx hb hts k_X5_partner_2 hown hK hP 1 rfl rfl 0 (by decide) (hts _ k_X5_partner_4) (fun _ h9 => h9) rfl dX5_partner_105 ?_
                  obtain ⟨r24, hq, hm⟩ := gk_bd1_some hm
                  refine gk_callS (n := 4) (bytes := cX0_partners) (maxL := 7) (ret := (some .int)) [(a0, .inr (4, [.ref a1, .ref a7, .int f_isKept, .ref a13, .ref a15, .ref a18])), (a1, .inr (0, [.int f_now_n, .ref a2, .ref a3, .ref a4, .ref a5])), (a2, gk_J G 6 f_now_members), (a3, gk_I G 6 f_now_kinds)] [(a0, .inr (4, [.ref a1, .ref a7, .int f_isKept, .ref a13, .ref a15, .ref a18])), (a1, .inr (0, [.int f_now_n, .ref a2, .ref a3, .ref a4, .ref a5])), (a2, gk_J G 6 f_now_members), (a3, gk_I G 6 f_now_kinds)] [] C ⟨hP, hD, hS⟩ (c_X0_partners l G (f_now_members x1.toNatClampNeg) x2 x4 f_now_n hq) gX5_partner_X0_partners dX5_partner_108 hl.1 [] [0, 1, 2, 3] [0, 1, 2, 3] rfl ⟨rfl, rfl⟩ ⟨Nat.le_of_ble_eq_true rfl, Nat.le_of_ble_eq_true rfl⟩ ⟨by decide +kernel, by decide +kernel, by decide +kernel⟩ rfl (fun h => by cases h) (Nat.le_of_ble_eq_true rfl) rfl rfl rfl rfl (by decide) rfl rfl (fun H locs h => ?_)
                  obtain ⟨hP, hD, hS⟩ := h
                  refine lv_iload hx hb dX5_partner_111 (lv_at hl 0 rfl) ?_
                  refine lv_iand hx hb dX5_partner_113 ?_
                  obtain ⟨r25, hq, hm⟩ := gk_bd1_some hm
                  refine gk_callS (n := 1) (bytes := cX5_leastBit) (maxL := 1) (ret := (some .int)) [(a0, .inr (4, [.ref a1, .ref a7, .int f_isKept, .ref a13, .ref a15, .ref a18])), (a1, .inr (0, [.int f_now_n, .ref a2, .ref a3, .ref a4, .ref a5])), (a2, gk_J G 6 f_now_members), (a3, gk_I G 6 f_now_kinds)] [(a0, .inr (4, [.ref a1, .ref a7, .int f_isKept, .ref a13, .ref a15, .ref a18])), (a1, .inr (0, [.int f_now_n, .ref a2, .ref a3, .ref a4, .ref a5])), (a2, gk_J G 6 f_now_members), (a3, gk_I G 6 f_now_kinds)] [] C ⟨hP, hD, hS⟩ (c_X5_leastBit l G (r24 &&& (x2 ^^^ x3)) hq) gX5_partner_X5_leastBit dX5_partner_114 hl.1 [] [0, 1, 2, 3] [0, 1, 2, 3] rfl ⟨rfl, rfl⟩ ⟨Nat.le_of_ble_eq_true rfl, Nat.le_of_ble_eq_true rfl⟩ ⟨by decide +kernel, by decide +kernel, by decide +kernel⟩ rfl (fun h => by cases h) (Nat.le_of_ble_eq_true rfl) rfl rfl rfl rfl (by decide) rfl rfl (fun H locs h => ?_)
                  obtain ⟨hP, hD, hS⟩ := h
                  rw [kr _ (Option.some.inj hm).symm]
                  exact gk_iret C ⟨hP, hD, hS⟩ dX5_partner_117
                · have hm := gk_it c23 hm
                  refine lv_bipush (v := -3) hx hb dX5_partner_93 (by decide) ?_
                  rw [kr _ (Option.some.inj hm).symm]
                  exact gk_iret C ⟨hP, hD, hS⟩ dX5_partner_95
          · have hm := gk_if c18 hm
            refine lv_bipush (v := -11) hx hb dX5_partner_46 (by decide) ?_
            rw [kr _ (Option.some.inj hm).symm]
            exact gk_iret C ⟨hP, hD, hS⟩ dX5_partner_48
        · have hm := gk_if c16 hm
          refine lv_bipush (v := -2) hx hb dX5_partner_32 (by decide) ?_
          rw [kr _ (Option.some.inj hm).symm]
          exact gk_iret C ⟨hP, hD, hS⟩ dX5_partner_34
def m_X5_partner (f_now_n : Int32) (f_now_members : (Nat → Int64)) (f_now_kinds : (Nat → Int32)) (x1 : Int32) (x2 : Int32) (x3 : Int32) (x4 : Int32) : Option (Int32) := m_X5_partner_0 f_now_n f_now_members f_now_kinds x1 x2 x3 x4
theorem c_X5_partner (l : Launch) (G : gk_G) (a0 a1 a2 a3 a4 a5 a7 a13 a15 a18 : Nat) (f_isKept : Int32) (f_now_n : Int32) (f_now_members : (Nat → Int64)) (f_now_kinds : (Nat → Int32)) (x1 : Int32) (x2 : Int32) (x3 : Int32) (x4 : Int32) {rv : Int32} (hm : m_X5_partner f_now_n f_now_members f_now_kinds x1 x2 x3 x4 = some rv) : gk_M l yX5_partner wsX5_partner rm_X5_partner false G [.ref a0, .int x1, .int x2, .int x3, .int x4] [(a0, .inr (4, [.ref a1, .ref a7, .int f_isKept, .ref a13, .ref a15, .ref a18])), (a1, .inr (0, [.int f_now_n, .ref a2, .ref a3, .ref a4, .ref a5])), (a2, gk_J G 6 f_now_members), (a3, gk_I G 6 f_now_kinds)] (some (.int rv)) [(a0, .inr (4, [.ref a1, .ref a7, .int f_isKept, .ref a13, .ref a15, .ref a18])), (a1, .inr (0, [.int f_now_n, .ref a2, .ref a3, .ref a4, .ref a5])), (a2, gk_J G 6 f_now_members), (a3, gk_I G 6 f_now_kinds)] :=
  gk_of (by decide) rfl (Nat.le_of_ble_eq_true rfl) (fun p e s m below meth c A ls C h hl => w_X5_partner_0 C hm (fun v0 ez => by cases ez; rfl) h (show lv_has ls 8 [(0, .ref a0), (1, .int x1), (2, .int x2), (3, .int x3), (4, .int x4)] from hl))

/-! ===== ExchangeFamilies.near(II)I ===== -/
abbrev rm_X5_near : Room := { frames := 5, cells := 0, slots := 0, locals := 243 }
theorem k_X5_near_0 : ∀ w ∈ u_ws RX5 TX5 6, w ∈ wsX5_near := by decide +kernel
theorem k_X5_near_1 : Cond.fieldLink RX5 12 "ExchangeFamilies" "now" "LExchangeFamilies$Ground;" ∈ wsX5_near := by decide +kernel
theorem k_X5_near_2 : ∀ w ∈ u_ws RX1 TX1 5, w ∈ wsX5_near := by decide +kernel
theorem k_X5_near_3 : Cond.fieldLink RX5 61 "ExchangeFamilies$Ground" "members" "[J" ∈ wsX5_near := by decide +kernel
def m_X5_near_0 (f_now_n : Int32) (f_now_members : (Nat → Int64)) (f_now_kinds : (Nat → Int32)) (x1 : Int32) (x2 : Int32) : Option (Int32) := gk_bd1 (m_X5_noFamily x1) (fun r4 => (if r4 = (0 : Int32) then gk_bd1 (m_X5_noSet f_now_n x2) (fun r6 => (if r6 = (0 : Int32) then gk_bd1 (m_X1_isMissing f_now_kinds x1) (fun r8 => (if r8 = (0 : Int32) then gk_ix x1 6 (gk_bd1 (m_X0_twisted (f_now_members x1.toNatClampNeg) x2) (fun r10 => gk_bd1 (m_X0_sizes r10) (fun r11 => gk_bd1 (m_X5_leastBit r11) (fun r12 => some r12)))) else some (-11 : Int32))) else some (-2 : Int32))) else some (-2 : Int32)))
set_option maxRecDepth 100000 in
set_option maxHeartbeats 4000000 in
theorem w_X5_near_0 {p : Program} {l : Launch} {e : Env} {s : State} {m : MethodId} {args : Array Value} {below : List Frame} {meth : Method} {c : Code} {G : gk_G} {A : Nat → Prop} {Q : State → Prop} {a0 a1 a2 a3 a4 a5 a7 a13 a15 a18 : Nat} (C : gk_C p s m args meth c cX5_near 3 (some .int) yX5_near wsX5_near true G A) {f_now_n : Int32} {f_now_members : (Nat → Int64)} {f_now_kinds : (Nat → Int32)} {x1 : Int32} {x2 : Int32} {f_isKept : Int32} {yy : Int32} (hm : m_X5_near_0 f_now_n f_now_members f_now_kinds x1 x2 = some yy) (kr : ∀ (rv : Int32), yy = rv → Q = MQ below (gk_Q G (some (.int rv)) [(a0, .inr (4, [.ref a1, .ref a7, .int f_isKept, .ref a13, .ref a15, .ref a18])), (a1, .inr (0, [.int f_now_n, .ref a2, .ref a3, .ref a4, .ref a5])), (a2, gk_J G 6 f_now_members), (a3, gk_I G 6 f_now_kinds)] A) args s 0 0 A) {H : Heap} {locs : List Loc} {ls : Array Slot} (h : gk_H G A s [(a0, .inr (4, [.ref a1, .ref a7, .int f_isKept, .ref a13, .ref a15, .ref a18])), (a1, .inr (0, [.int f_now_n, .ref a2, .ref a3, .ref a4, .ref a5])), (a2, gk_J G 6 f_now_members), (a3, gk_I G 6 f_now_kinds)] H locs) (hl : lv_has ls 3 [(0, .ref a0), (1, .int x1), (2, .int x2)]) : W p l e rm_X5_near s m args below meth c H locs 0 0 Q (F0 m 0 ls []) := by
  obtain ⟨hx, hb, hml, hr, hown, hnm, hts, hlk, hK, hSt, hA⟩ := id C
  obtain ⟨hP, hD, hS⟩ := h
  unfold m_X5_near_0 at hm
  refine lv_iload_n hx hb dX5_near_0 rfl (lv_at hl 1 rfl) ?_
  obtain ⟨r4, hq, hm⟩ := gk_bd1_some hm
  refine gk_callS (n := 1) (bytes := cX5_noFamily) (maxL := 1) (ret := (some .boolean)) [(a0, .inr (4, [.ref a1, .ref a7, .int f_isKept, .ref a13, .ref a15, .ref a18])), (a1, .inr (0, [.int f_now_n, .ref a2, .ref a3, .ref a4, .ref a5])), (a2, gk_J G 6 f_now_members), (a3, gk_I G 6 f_now_kinds)] [(a0, .inr (4, [.ref a1, .ref a7, .int f_isKept, .ref a13, .ref a15, .ref a18])), (a1, .inr (0, [.int f_now_n, .ref a2, .ref a3, .ref a4, .ref a5])), (a2, gk_J G 6 f_now_members), (a3, gk_I G 6 f_now_kinds)] [] C ⟨hP, hD, hS⟩ (c_X5_noFamily l G x1 hq) gX5_near_X5_noFamily dX5_near_1 hl.1 [] [0, 1, 2, 3] [0, 1, 2, 3] rfl ⟨rfl, rfl⟩ ⟨Nat.le_of_ble_eq_true rfl, Nat.le_of_ble_eq_true rfl⟩ ⟨by decide +kernel, by decide +kernel, by decide +kernel⟩ rfl (fun h => by cases h) (Nat.le_of_ble_eq_true rfl) rfl rfl rfl rfl (by decide) rfl rfl (fun H locs h => ?_)
  obtain ⟨hP, hD, hS⟩ := h
  refine lv_if_ne (tgt := 15) hx hb dX5_near_4 (by decide) (fun c5 => ?_) (fun c5 => ?_)
  · have hm := gk_if c5 hm
    refine lv_bipush (v := -2) hx hb dX5_near_15 (by decide) ?_
    rw [kr _ (Option.some.inj hm).symm]
    exact gk_iret C ⟨hP, hD, hS⟩ dX5_near_17
  · have hm := gk_it c5 hm
    refine lv_aload_n hx hb dX5_near_7 rfl (lv_at hl 0 rfl) ?_
    refine lv_iload_n hx hb dX5_near_8 rfl (lv_at hl 2 rfl) ?_
    obtain ⟨r6, hq, hm⟩ := gk_bd1_some hm
    refine gk_callV (n := 1) (bytes := cX5_noSet) (maxL := 2) (ret := (some .boolean)) (Cn := RX5) (T := TX5) (N := 6) [(a2, gk_J G 6 f_now_members), (a3, gk_I G 6 f_now_kinds)] [(a0, .inr (4, [.ref a1, .ref a7, .int f_isKept, .ref a13, .ref a15, .ref a18])), (a1, .inr (0, [.int f_now_n, .ref a2, .ref a3, .ref a4, .ref a5])), (a2, gk_J G 6 f_now_members), (a3, gk_I G 6 f_now_kinds)] [] C ⟨hP, hD, hS⟩ (c_X5_noSet l G a0 a1 a2 a3 a4 a5 a7 a13 a15 a18 f_isKept f_now_n x2 hq) gX5_near_X5_noSet dX5_near_9 hl.1 [0, 1] [2, 3] [2, 3, 0, 1] rfl rfl ⟨rfl, rfl⟩ ⟨Nat.le_of_ble_eq_true rfl, Nat.le_of_ble_eq_true rfl⟩ ⟨rfl, by decide +kernel, by decide +kernel, by decide +kernel⟩ rfl (fun h => by cases h) (Nat.le_of_ble_eq_true rfl) rfl rfl rfl rfl (by decide) rfl rfl (fun H locs h => ?_)
    obtain ⟨hP, hD, hS⟩ := h
    refine lv_if_eq (tgt := 18) hx hb dX5_near_12 (by decide) (fun c7 => ?_) (fun c7 => ?_)
    · have hm := gk_it c7 hm
      refine lv_aload_n hx hb dX5_near_18 rfl (lv_at hl 0 rfl) ?_
      refine va_get (D := G.1) (cl := vwCl) (own := RX5) (ref := "ExchangeFamilies") (ci := 4) (v := .ref a1) (C := RX5) (T := TX5) (N := 6) hx hb hts k_X5_near_0 hown hK hP 0 rfl rfl 0 (by decide) (hts _ k_X5_near_1) (fun _ h9 => h9) rfl dX5_near_19 ?_
      refine lv_iload_n hx hb dX5_near_22 rfl (lv_at hl 1 rfl) ?_
      obtain ⟨r8, hq, hm⟩ := gk_bd1_some hm
      refine gk_callV (n := 1) (bytes := cX1_isMissing) (maxL := 2) (ret := (some .boolean)) (Cn := RX1) (T := TX1) (N := 5) [(a0, .inr (4, [.ref a1, .ref a7, .int f_isKept, .ref a13, .ref a15, .ref a18])), (a2, gk_J G 6 f_now_members)] [(a0, .inr (4, [.ref a1, .ref a7, .int f_isKept, .ref a13, .ref a15, .ref a18])), (a1, .inr (0, [.int f_now_n, .ref a2, .ref a3, .ref a4, .ref a5])), (a2, gk_J G 6 f_now_members), (a3, gk_I G 6 f_now_kinds)] [] C ⟨hP, hD, hS⟩ (c_X1_isMissing l G a1 a2 a3 a4 a5 f_now_n f_now_kinds x1 hq) gX5_near_X1_isMissing dX5_near_23 hl.1 [1, 3] [0, 2] [0, 2, 1, 3] rfl rfl ⟨rfl, rfl⟩ ⟨Nat.le_of_ble_eq_true rfl, Nat.le_of_ble_eq_true rfl⟩ ⟨rfl, by decide +kernel, by decide +kernel, by decide +kernel⟩ rfl (fun h => by cases h) (Nat.le_of_ble_eq_true rfl) rfl rfl rfl rfl (by decide) rfl rfl (fun H locs h => ?_)
      obtain ⟨hP, hD, hS⟩ := h
      refine lv_if_eq (tgt := 32) hx hb dX5_near_26 (by decide) (fun c9 => ?_) (fun c9 => ?_)
      · have hm := gk_it c9 hm
        refine lv_aload_n hx hb dX5_near_32 rfl (lv_at hl 0 rfl) ?_
        refine va_get (D := G.1) (cl := vwCl) (own := RX5) (ref := "ExchangeFamilies") (ci := 4) (v := .ref a1) (C := RX5) (T := TX5) (N := 6) hx hb hts k_X5_near_0 hown hK hP 0 rfl rfl 0 (by decide) (hts _ k_X5_near_1) (fun _ h9 => h9) rfl dX5_near_33 ?_
        refine va_get (D := G.1) (cl := vwCl) (own := RX5) (ref := "ExchangeFamilies$Ground") (ci := 0) (v := .ref a2) (C := RX1) (T := TX1) (N := 5) hx hb hts k_X5_near_2 hown hK hP 1 rfl rfl 1 (by decide) (hts _ k_X5_near_3) (fun _ h9 => h9) rfl dX5_near_36 ?_
        refine lv_iload_n hx hb dX5_near_39 rfl (lv_at hl 1 rfl) ?_
        obtain ⟨hi, hm⟩ := gk_ix_some hm
        refine va_lald hx hb hK hP 2 1 rfl rfl hi dX5_near_40 ?_
        refine lv_iload_n hx hb dX5_near_41 rfl (lv_at hl 2 rfl) ?_
        obtain ⟨r10, hq, hm⟩ := gk_bd1_some hm
        refine gk_callS (n := 2) (bytes := cX0_twisted) (maxL := 6) (ret := (some .long)) [(a0, .inr (4, [.ref a1, .ref a7, .int f_isKept, .ref a13, .ref a15, .ref a18])), (a1, .inr (0, [.int f_now_n, .ref a2, .ref a3, .ref a4, .ref a5])), (a2, gk_J G 6 f_now_members), (a3, gk_I G 6 f_now_kinds)] [(a0, .inr (4, [.ref a1, .ref a7, .int f_isKept, .ref a13, .ref a15, .ref a18])), (a1, .inr (0, [.int f_now_n, .ref a2, .ref a3, .ref a4, .ref a5])), (a2, gk_J G 6 f_now_members), (a3, gk_I G 6 f_now_kinds)] [] C ⟨hP, hD, hS⟩ (c_X0_twisted l G (f_now_members x1.toNatClampNeg) x2 hq) gX5_near_X0_twisted dX5_near_42 hl.1 [] [0, 1, 2, 3] [0, 1, 2, 3] rfl ⟨rfl, rfl⟩ ⟨Nat.le_of_ble_eq_true rfl, Nat.le_of_ble_eq_true rfl⟩ ⟨by decide +kernel, by decide +kernel, by decide +kernel⟩ rfl (fun h => h) (Nat.le_of_ble_eq_true rfl) rfl rfl rfl rfl (by decide) rfl rfl (fun H locs h => ?_)
        obtain ⟨hP, hD, hS⟩ := h
        obtain ⟨r11, hq, hm⟩ := gk_bd1_some hm
        refine gk_callS (n := 1) (bytes := cX0_sizes) (maxL := 4) (ret := (some .int)) [(a0, .inr (4, [.ref a1, .ref a7, .int f_isKept, .ref a13, .ref a15, .ref a18])), (a1, .inr (0, [.int f_now_n, .ref a2, .ref a3, .ref a4, .ref a5])), (a2, gk_J G 6 f_now_members), (a3, gk_I G 6 f_now_kinds)] [(a0, .inr (4, [.ref a1, .ref a7, .int f_isKept, .ref a13, .ref a15, .ref a18])), (a1, .inr (0, [.int f_now_n, .ref a2, .ref a3, .ref a4, .ref a5])), (a2, gk_J G 6 f_now_members), (a3, gk_I G 6 f_now_kinds)] [] C ⟨hP, hD, hS⟩ (c_X0_sizes l G r10 hq) gX5_near_X0_sizes dX5_near_45 hl.1 [] [0, 1, 2, 3] [0, 1, 2, 3] rfl ⟨rfl, rfl⟩ ⟨Nat.le_of_ble_eq_true rfl, Nat.le_of_ble_eq_true rfl⟩ ⟨by decide +kernel, by decide +kernel, by decide +kernel⟩ rfl (fun h => by cases h) (Nat.le_of_ble_eq_true rfl) rfl rfl rfl rfl (by decide) rfl rfl (fun H locs h => ?_)
        obtain ⟨hP, hD, hS⟩ := h
        obtain ⟨r12, hq, hm⟩ := gk_bd1_some hm
        refine gk_callS (n := 1) (bytes := cX5_leastBit) (maxL := 1) (ret := (some .int)) [(a0, .inr (4, [.ref a1, .ref a7, .int f_isKept, .ref a13, .ref a15, .ref a18])), (a1, .inr (0, [.int f_now_n, .ref a2, .ref a3, .ref a4, .ref a5])), (a2, gk_J G 6 f_now_members), (a3, gk_I G 6 f_now_kinds)] [(a0, .inr (4, [.ref a1, .ref a7, .int f_isKept, .ref a13, .ref a15, .ref a18])), (a1, .inr (0, [.int f_now_n, .ref a2, .ref a3, .ref a4, .ref a5])), (a2, gk_J G 6 f_now_members), (a3, gk_I G 6 f_now_kinds)] [] C ⟨hP, hD, hS⟩ (c_X5_leastBit l G r11 hq) gX5_near_X5_leastBit dX5_near_48 hl.1 [] [0, 1, 2, 3] [0, 1, 2, 3] rfl ⟨rfl, rfl⟩ ⟨Nat.le_of_ble_eq_true rfl, Nat.le_of_ble_eq_true rfl⟩ ⟨by decide +kernel, by decide +kernel, by decide +kernel⟩ rfl (fun h => by cases h) (Nat.le_of_ble_eq_true rfl) rfl rfl rfl rfl (by decide) rfl rfl (fun H locs h => ?_)
        obtain ⟨hP, hD, hS⟩ := h
        rw [kr _ (Option.some.inj hm).symm]
        exact gk_iret C ⟨hP, hD, hS⟩ dX5_near_51
      · have hm := gk_if c9 hm
        refine lv_bipush (v := -11) hx hb dX5_near_29 (by decide) ?_
        rw [kr _ (Option.some.inj hm).symm]
        exact gk_iret C ⟨hP, hD, hS⟩ dX5_near_31
    · have hm := gk_if c7 hm
      refine lv_bipush (v := -2) hx hb dX5_near_15 (by decide) ?_
      rw [kr _ (Option.some.inj hm).symm]
      exact gk_iret C ⟨hP, hD, hS⟩ dX5_near_17
def m_X5_near (f_now_n : Int32) (f_now_members : (Nat → Int64)) (f_now_kinds : (Nat → Int32)) (x1 : Int32) (x2 : Int32) : Option (Int32) := m_X5_near_0 f_now_n f_now_members f_now_kinds x1 x2
theorem c_X5_near (l : Launch) (G : gk_G) (a0 a1 a2 a3 a4 a5 a7 a13 a15 a18 : Nat) (f_isKept : Int32) (f_now_n : Int32) (f_now_members : (Nat → Int64)) (f_now_kinds : (Nat → Int32)) (x1 : Int32) (x2 : Int32) {rv : Int32} (hm : m_X5_near f_now_n f_now_members f_now_kinds x1 x2 = some rv) : gk_M l yX5_near wsX5_near rm_X5_near true G [.ref a0, .int x1, .int x2] [(a0, .inr (4, [.ref a1, .ref a7, .int f_isKept, .ref a13, .ref a15, .ref a18])), (a1, .inr (0, [.int f_now_n, .ref a2, .ref a3, .ref a4, .ref a5])), (a2, gk_J G 6 f_now_members), (a3, gk_I G 6 f_now_kinds)] (some (.int rv)) [(a0, .inr (4, [.ref a1, .ref a7, .int f_isKept, .ref a13, .ref a15, .ref a18])), (a1, .inr (0, [.int f_now_n, .ref a2, .ref a3, .ref a4, .ref a5])), (a2, gk_J G 6 f_now_members), (a3, gk_I G 6 f_now_kinds)] :=
  gk_of (by decide) rfl (Nat.le_of_ble_eq_true rfl) (fun p e s m below meth c A ls C h hl => w_X5_near_0 C hm (fun v0 ez => by cases ez; rfl) h (show lv_has ls 3 [(0, .ref a0), (1, .int x1), (2, .int x2)] from hl))

/-! ===== ExchangeFamilies.apart(III)I ===== -/
abbrev rm_X5_apart : Room := { frames := 9, cells := 0, slots := 0, locals := 422 }
theorem k_X5_apart_0 : ∀ w ∈ u_ws RX5 TX5 6, w ∈ wsX5_apart := by decide +kernel
theorem k_X5_apart_1 : Cond.fieldLink RX5 12 "ExchangeFamilies" "now" "LExchangeFamilies$Ground;" ∈ wsX5_apart := by decide +kernel
theorem k_X5_apart_2 : ∀ w ∈ u_ws RX1 TX1 5, w ∈ wsX5_apart := by decide +kernel
theorem k_X5_apart_3 : Cond.fieldLink RX5 61 "ExchangeFamilies$Ground" "members" "[J" ∈ wsX5_apart := by decide +kernel
theorem k_X5_apart_4 : Cond.fieldLink RX5 46 "ExchangeFamilies$Ground" "n" "I" ∈ wsX5_apart := by decide +kernel
def m_X5_apart_0 (f_now_n : Int32) (f_now_members : (Nat → Int64)) (f_now_kinds : (Nat → Int32)) (x1 : Int32) (x2 : Int32) (x3 : Int32) : Option (Int32) := gk_bd1 (m_X5_noFamily x1) (fun r7 => (if r7 = (0 : Int32) then gk_bd1 (m_X5_noSet f_now_n x2) (fun r9 => (if r9 = (0 : Int32) then gk_bd1 (m_X5_noSet f_now_n x3) (fun r11 => (if r11 = (0 : Int32) then gk_bd1 (m_X1_isMissing f_now_kinds x1) (fun r13 => (if r13 = (0 : Int32) then gk_ix x1 6 (gk_bd1 (m_X0_holds (f_now_members x1.toNatClampNeg) x2) (fun r15 => (if r15 = (0 : Int32) then some (-3 : Int32) else gk_bd1 (m_X0_holds (f_now_members x1.toNatClampNeg) x3) (fun r17 => (if r17 = (0 : Int32) then some (-3 : Int32) else gk_bd1 (m_X0_exchangesBetween (f_now_members x1.toNatClampNeg) x2 x3 f_now_n) (fun r19 => some r19)))))) else some (-11 : Int32))) else some (-2 : Int32))) else some (-2 : Int32))) else some (-2 : Int32)))
set_option maxRecDepth 100000 in
set_option maxHeartbeats 4000000 in
theorem w_X5_apart_0 {p : Program} {l : Launch} {e : Env} {s : State} {m : MethodId} {args : Array Value} {below : List Frame} {meth : Method} {c : Code} {G : gk_G} {A : Nat → Prop} {Q : State → Prop} {a0 a1 a2 a3 a4 a5 a7 a13 a15 a18 : Nat} (C : gk_C p s m args meth c cX5_apart 6 (some .int) yX5_apart wsX5_apart true G A) {f_now_n : Int32} {f_now_members : (Nat → Int64)} {f_now_kinds : (Nat → Int32)} {x1 : Int32} {x2 : Int32} {x3 : Int32} {f_isKept : Int32} {yy : Int32} (hm : m_X5_apart_0 f_now_n f_now_members f_now_kinds x1 x2 x3 = some yy) (kr : ∀ (rv : Int32), yy = rv → Q = MQ below (gk_Q G (some (.int rv)) [(a0, .inr (4, [.ref a1, .ref a7, .int f_isKept, .ref a13, .ref a15, .ref a18])), (a1, .inr (0, [.int f_now_n, .ref a2, .ref a3, .ref a4, .ref a5])), (a2, gk_J G 6 f_now_members), (a3, gk_I G 6 f_now_kinds)] A) args s 0 0 A) {H : Heap} {locs : List Loc} {ls : Array Slot} (h : gk_H G A s [(a0, .inr (4, [.ref a1, .ref a7, .int f_isKept, .ref a13, .ref a15, .ref a18])), (a1, .inr (0, [.int f_now_n, .ref a2, .ref a3, .ref a4, .ref a5])), (a2, gk_J G 6 f_now_members), (a3, gk_I G 6 f_now_kinds)] H locs) (hl : lv_has ls 6 [(0, .ref a0), (1, .int x1), (2, .int x2), (3, .int x3)]) : W p l e rm_X5_apart s m args below meth c H locs 0 0 Q (F0 m 0 ls []) := by
  obtain ⟨hx, hb, hml, hr, hown, hnm, hts, hlk, hK, hSt, hA⟩ := id C
  obtain ⟨hP, hD, hS⟩ := h
  unfold m_X5_apart_0 at hm
  refine lv_iload_n hx hb dX5_apart_0 rfl (lv_at hl 1 rfl) ?_
  obtain ⟨r7, hq, hm⟩ := gk_bd1_some hm
  refine gk_callS (n := 1) (bytes := cX5_noFamily) (maxL := 1) (ret := (some .boolean)) [(a0, .inr (4, [.ref a1, .ref a7, .int f_isKept, .ref a13, .ref a15, .ref a18])), (a1, .inr (0, [.int f_now_n, .ref a2, .ref a3, .ref a4, .ref a5])), (a2, gk_J G 6 f_now_members), (a3, gk_I G 6 f_now_kinds)] [(a0, .inr (4, [.ref a1, .ref a7, .int f_isKept, .ref a13, .ref a15, .ref a18])), (a1, .inr (0, [.int f_now_n, .ref a2, .ref a3, .ref a4, .ref a5])), (a2, gk_J G 6 f_now_members), (a3, gk_I G 6 f_now_kinds)] [] C ⟨hP, hD, hS⟩ (c_X5_noFamily l G x1 hq) gX5_apart_X5_noFamily dX5_apart_1 hl.1 [] [0, 1, 2, 3] [0, 1, 2, 3] rfl ⟨rfl, rfl⟩ ⟨Nat.le_of_ble_eq_true rfl, Nat.le_of_ble_eq_true rfl⟩ ⟨by decide +kernel, by decide +kernel, by decide +kernel⟩ rfl (fun h => by cases h) (Nat.le_of_ble_eq_true rfl) rfl rfl rfl rfl (by decide) rfl rfl (fun H locs h => ?_)
  obtain ⟨hP, hD, hS⟩ := h
  refine lv_if_ne (tgt := 23) hx hb dX5_apart_4 (by decide) (fun c8 => ?_) (fun c8 => ?_)
  · have hm := gk_if c8 hm
    refine lv_bipush (v := -2) hx hb dX5_apart_23 (by decide) ?_
    rw [kr _ (Option.some.inj hm).symm]
    exact gk_iret C ⟨hP, hD, hS⟩ dX5_apart_25
  · have hm := gk_it c8 hm
    refine lv_aload_n hx hb dX5_apart_7 rfl (lv_at hl 0 rfl) ?_
    refine lv_iload_n hx hb dX5_apart_8 rfl (lv_at hl 2 rfl) ?_
    obtain ⟨r9, hq, hm⟩ := gk_bd1_some hm
    refine gk_callV (n := 1) (bytes := cX5_noSet) (maxL := 2) (ret := (some .boolean)) (Cn := RX5) (T := TX5) (N := 6) [(a2, gk_J G 6 f_now_members), (a3, gk_I G 6 f_now_kinds)] [(a0, .inr (4, [.ref a1, .ref a7, .int f_isKept, .ref a13, .ref a15, .ref a18])), (a1, .inr (0, [.int f_now_n, .ref a2, .ref a3, .ref a4, .ref a5])), (a2, gk_J G 6 f_now_members), (a3, gk_I G 6 f_now_kinds)] [] C ⟨hP, hD, hS⟩ (c_X5_noSet l G a0 a1 a2 a3 a4 a5 a7 a13 a15 a18 f_isKept f_now_n x2 hq) gX5_apart_X5_noSet dX5_apart_9 hl.1 [0, 1] [2, 3] [2, 3, 0, 1] rfl rfl ⟨rfl, rfl⟩ ⟨Nat.le_of_ble_eq_true rfl, Nat.le_of_ble_eq_true rfl⟩ ⟨rfl, by decide +kernel, by decide +kernel, by decide +kernel⟩ rfl (fun h => by cases h) (Nat.le_of_ble_eq_true rfl) rfl rfl rfl rfl (by decide) rfl rfl (fun H locs h => ?_)
    obtain ⟨hP, hD, hS⟩ := h
    refine lv_if_ne (tgt := 23) hx hb dX5_apart_12 (by decide) (fun c10 => ?_) (fun c10 => ?_)
    · have hm := gk_if c10 hm
      refine lv_bipush (v := -2) hx hb dX5_apart_23 (by decide) ?_
      rw [kr _ (Option.some.inj hm).symm]
      exact gk_iret C ⟨hP, hD, hS⟩ dX5_apart_25
    · have hm := gk_it c10 hm
      refine lv_aload_n hx hb dX5_apart_15 rfl (lv_at hl 0 rfl) ?_
      refine lv_iload_n hx hb dX5_apart_16 rfl (lv_at hl 3 rfl) ?_
      obtain ⟨r11, hq, hm⟩ := gk_bd1_some hm
      refine gk_callV (n := 1) (bytes := cX5_noSet) (maxL := 2) (ret := (some .boolean)) (Cn := RX5) (T := TX5) (N := 6) [(a2, gk_J G 6 f_now_members), (a3, gk_I G 6 f_now_kinds)] [(a0, .inr (4, [.ref a1, .ref a7, .int f_isKept, .ref a13, .ref a15, .ref a18])), (a1, .inr (0, [.int f_now_n, .ref a2, .ref a3, .ref a4, .ref a5])), (a2, gk_J G 6 f_now_members), (a3, gk_I G 6 f_now_kinds)] [] C ⟨hP, hD, hS⟩ (c_X5_noSet l G a0 a1 a2 a3 a4 a5 a7 a13 a15 a18 f_isKept f_now_n x3 hq) gX5_apart_X5_noSet dX5_apart_17 hl.1 [0, 1] [2, 3] [2, 3, 0, 1] rfl rfl ⟨rfl, rfl⟩ ⟨Nat.le_of_ble_eq_true rfl, Nat.le_of_ble_eq_true rfl⟩ ⟨rfl, by decide +kernel, by decide +kernel, by decide +kernel⟩ rfl (fun h => by cases h) (Nat.le_of_ble_eq_true rfl) rfl rfl rfl rfl (by decide) rfl rfl (fun H locs h => ?_)
      obtain ⟨hP, hD, hS⟩ := h
      refine lv_if_eq (tgt := 26) hx hb dX5_apart_20 (by decide) (fun c12 => ?_) (fun c12 => ?_)
      · have hm := gk_it c12 hm
        refine lv_aload_n hx hb dX5_apart_26 rfl (lv_at hl 0 rfl) ?_
        refine va_get (D := G.1) (cl := vwCl) (own := RX5) (ref := "ExchangeFamilies") (ci := 4) (v := .ref a1) (C := RX5) (T := TX5) (N := 6) hx hb hts k_X5_apart_0 hown hK hP 0 rfl rfl 0 (by decide) (hts _ k_X5_apart_1) (fun _ h9 => h9) rfl dX5_apart_27 ?_
        refine lv_iload_n hx hb dX5_apart_30 rfl (lv_at hl 1 rfl) ?_
        obtain ⟨r13, hq, hm⟩ := gk_bd1_some hm
        refine gk_callV (n := 1) (bytes := cX1_isMissing) (maxL := 2) (ret := (some .boolean)) (Cn := RX1) (T := TX1) (N := 5) [(a0, .inr (4, [.ref a1, .ref a7, .int f_isKept, .ref a13, .ref a15, .ref a18])), (a2, gk_J G 6 f_now_members)] [(a0, .inr (4, [.ref a1, .ref a7, .int f_isKept, .ref a13, .ref a15, .ref a18])), (a1, .inr (0, [.int f_now_n, .ref a2, .ref a3, .ref a4, .ref a5])), (a2, gk_J G 6 f_now_members), (a3, gk_I G 6 f_now_kinds)] [] C ⟨hP, hD, hS⟩ (c_X1_isMissing l G a1 a2 a3 a4 a5 f_now_n f_now_kinds x1 hq) gX5_apart_X1_isMissing dX5_apart_31 hl.1 [1, 3] [0, 2] [0, 2, 1, 3] rfl rfl ⟨rfl, rfl⟩ ⟨Nat.le_of_ble_eq_true rfl, Nat.le_of_ble_eq_true rfl⟩ ⟨rfl, by decide +kernel, by decide +kernel, by decide +kernel⟩ rfl (fun h => by cases h) (Nat.le_of_ble_eq_true rfl) rfl rfl rfl rfl (by decide) rfl rfl (fun H locs h => ?_)
        obtain ⟨hP, hD, hS⟩ := h
        refine lv_if_eq (tgt := 40) hx hb dX5_apart_34 (by decide) (fun c14 => ?_) (fun c14 => ?_)
        · have hm := gk_it c14 hm
          refine lv_aload_n hx hb dX5_apart_40 rfl (lv_at hl 0 rfl) ?_
          refine va_get (D := G.1) (cl := vwCl) (own := RX5) (ref := "ExchangeFamilies") (ci := 4) (v := .ref a1) (C := RX5) (T := TX5) (N := 6) hx hb hts k_X5_apart_0 hown hK hP 0 rfl rfl 0 (by decide) (hts _ k_X5_apart_1) (fun _ h9 => h9) rfl dX5_apart_41 ?_
          refine va_get (D := G.1) (cl := vwCl) (own := RX5) (ref := "ExchangeFamilies$Ground") (ci := 0) (v := .ref a2) (C := RX1) (T := TX1) (N := 5) hx hb hts k_X5_apart_2 hown hK hP 1 rfl rfl 1 (by decide) (hts _ k_X5_apart_3) (fun _ h9 => h9) rfl dX5_apart_44 ?_
          refine lv_iload_n hx hb dX5_apart_47 rfl (lv_at hl 1 rfl) ?_
          obtain ⟨hi, hm⟩ := gk_ix_some hm
          refine va_lald hx hb hK hP 2 1 rfl rfl hi dX5_apart_48 ?_
          refine lv_lstore (lv' := [(4, .long (f_now_members x1.toNatClampNeg)), (0, .ref a0), (1, .int x1), (2, .int x2), (3, .int x3)]) hx hb dX5_apart_49 hl (by decide) rfl (fun ls hl => ?_)
          refine lv_lload hx hb dX5_apart_51 (lv_at hl 0 rfl) ?_
          refine lv_iload_n hx hb dX5_apart_53 rfl (lv_at hl 3 rfl) ?_
          obtain ⟨r15, hq, hm⟩ := gk_bd1_some hm
          refine gk_callS (n := 2) (bytes := cX0_holds) (maxL := 3) (ret := (some .boolean)) [(a0, .inr (4, [.ref a1, .ref a7, .int f_isKept, .ref a13, .ref a15, .ref a18])), (a1, .inr (0, [.int f_now_n, .ref a2, .ref a3, .ref a4, .ref a5])), (a2, gk_J G 6 f_now_members), (a3, gk_I G 6 f_now_kinds)] [(a0, .inr (4, [.ref a1, .ref a7, .int f_isKept, .ref a13, .ref a15, .ref a18])), (a1, .inr (0, [.int f_now_n, .ref a2, .ref a3, .ref a4, .ref a5])), (a2, gk_J G 6 f_now_members), (a3, gk_I G 6 f_now_kinds)] [] C ⟨hP, hD, hS⟩ (c_X0_holds l G (f_now_members x1.toNatClampNeg) x2 hq) gX5_apart_X0_holds dX5_apart_54 hl.1 [] [0, 1, 2, 3] [0, 1, 2, 3] rfl ⟨rfl, rfl⟩ ⟨Nat.le_of_ble_eq_true rfl, Nat.le_of_ble_eq_true rfl⟩ ⟨by decide +kernel, by decide +kernel, by decide +kernel⟩ rfl (fun h => by cases h) (Nat.le_of_ble_eq_true rfl) rfl rfl rfl rfl (by decide) rfl rfl (fun H locs h => ?_)
          obtain ⟨hP, hD, hS⟩ := h
          refine lv_if_eq (tgt := 69) hx hb dX5_apart_57 (by decide) (fun c16 => ?_) (fun c16 => ?_)
          · have hm := gk_it c16 hm
            refine lv_bipush (v := -3) hx hb dX5_apart_69 (by decide) ?_
            rw [kr _ (Option.some.inj hm).symm]
            exact gk_iret C ⟨hP, hD, hS⟩ dX5_apart_71
          · have hm := gk_if c16 hm
            refine lv_lload hx hb dX5_apart_60 (lv_at hl 0 rfl) ?_
            refine lv_iload_n hx hb dX5_apart_62 rfl (lv_at hl 4 rfl) ?_
            obtain ⟨r17, hq, hm⟩ := gk_bd1_some hm
            refine gk_callS (n := 2) (bytes := cX0_holds) (maxL := 3) (ret := (some .boolean)) [(a0, .inr (4, [.ref a1, .ref a7, .int f_isKept, .ref a13, .ref a15, .ref a18])), (a1, .inr (0, [.int f_now_n, .ref a2, .ref a3, .ref a4, .ref a5])), (a2, gk_J G 6 f_now_members), (a3, gk_I G 6 f_now_kinds)] [(a0, .inr (4, [.ref a1, .ref a7, .int f_isKept, .ref a13, .ref a15, .ref a18])), (a1, .inr (0, [.int f_now_n, .ref a2, .ref a3, .ref a4, .ref a5])), (a2, gk_J G 6 f_now_members), (a3, gk_I G 6 f_now_kinds)] [] C ⟨hP, hD, hS⟩ (c_X0_holds l G (f_now_members x1.toNatClampNeg) x3 hq) gX5_apart_X0_holds dX5_apart_63 hl.1 [] [0, 1, 2, 3] [0, 1, 2, 3] rfl ⟨rfl, rfl⟩ ⟨Nat.le_of_ble_eq_true rfl, Nat.le_of_ble_eq_true rfl⟩ ⟨by decide +kernel, by decide +kernel, by decide +kernel⟩ rfl (fun h => by cases h) (Nat.le_of_ble_eq_true rfl) rfl rfl rfl rfl (by decide) rfl rfl (fun H locs h => ?_)
            obtain ⟨hP, hD, hS⟩ := h
            refine lv_if_ne (tgt := 72) hx hb dX5_apart_66 (by decide) (fun c18 => ?_) (fun c18 => ?_)
            · have hm := gk_if c18 hm
              refine lv_lload hx hb dX5_apart_72 (lv_at hl 0 rfl) ?_
              refine lv_iload_n hx hb dX5_apart_74 rfl (lv_at hl 3 rfl) ?_
              refine lv_iload_n hx hb dX5_apart_75 rfl (lv_at hl 4 rfl) ?_
              refine lv_aload_n hx hb dX5_apart_76 rfl (lv_at hl 1 rfl) ?_
              refine va_get (D := G.1) (cl := vwCl) (own := RX5) (ref := "ExchangeFamilies") (ci := 4) (v := .ref a1) (C := RX5) (T := TX5) (N := 6) hx hb hts k_X5_apart_0 hown hK hP 0 rfl rfl 0 (by decide) (hts _ k_X5_apart_1) (fun _ h9 => h9) rfl dX5_apart_77 ?_
              refine va_get (D := G.1) (cl := vwCl) (own := RX5) (ref := "ExchangeFamilies$Ground") (ci := 0) (v := .int f_now_n) (C := RX1) (T := TX1) (N := 5) hx hb hts k_X5_apart_2 hown hK hP 1 rfl rfl 0 (by decide) (hts _ k_X5_apart_4) (fun _ h9 => h9) rfl dX5_apart_80 ?_
              obtain ⟨r19, hq, hm⟩ := gk_bd1_some hm
              refine gk_callS (n := 4) (bytes := cX0_exchangesBetween) (maxL := 8) (ret := (some .int)) [(a0, .inr (4, [.ref a1, .ref a7, .int f_isKept, .ref a13, .ref a15, .ref a18])), (a1, .inr (0, [.int f_now_n, .ref a2, .ref a3, .ref a4, .ref a5])), (a2, gk_J G 6 f_now_members), (a3, gk_I G 6 f_now_kinds)] [(a0, .inr (4, [.ref a1, .ref a7, .int f_isKept, .ref a13, .ref a15, .ref a18])), (a1, .inr (0, [.int f_now_n, .ref a2, .ref a3, .ref a4, .ref a5])), (a2, gk_J G 6 f_now_members), (a3, gk_I G 6 f_now_kinds)] [] C ⟨hP, hD, hS⟩ (c_X0_exchangesBetween l G (f_now_members x1.toNatClampNeg) x2 x3 f_now_n hq) gX5_apart_X0_exchangesBetween dX5_apart_83 hl.1 [] [0, 1, 2, 3] [0, 1, 2, 3] rfl ⟨rfl, rfl⟩ ⟨Nat.le_of_ble_eq_true rfl, Nat.le_of_ble_eq_true rfl⟩ ⟨by decide +kernel, by decide +kernel, by decide +kernel⟩ rfl (fun h => h) (Nat.le_of_ble_eq_true rfl) rfl rfl rfl rfl (by decide) rfl rfl (fun H locs h => ?_)
              obtain ⟨hP, hD, hS⟩ := h
              rw [kr _ (Option.some.inj hm).symm]
              exact gk_iret C ⟨hP, hD, hS⟩ dX5_apart_86
            · have hm := gk_it c18 hm
              refine lv_bipush (v := -3) hx hb dX5_apart_69 (by decide) ?_
              rw [kr _ (Option.some.inj hm).symm]
              exact gk_iret C ⟨hP, hD, hS⟩ dX5_apart_71
        · have hm := gk_if c14 hm
          refine lv_bipush (v := -11) hx hb dX5_apart_37 (by decide) ?_
          rw [kr _ (Option.some.inj hm).symm]
          exact gk_iret C ⟨hP, hD, hS⟩ dX5_apart_39
      · have hm := gk_if c12 hm
        refine lv_bipush (v := -2) hx hb dX5_apart_23 (by decide) ?_
        rw [kr _ (Option.some.inj hm).symm]
        exact gk_iret C ⟨hP, hD, hS⟩ dX5_apart_25
def m_X5_apart (f_now_n : Int32) (f_now_members : (Nat → Int64)) (f_now_kinds : (Nat → Int32)) (x1 : Int32) (x2 : Int32) (x3 : Int32) : Option (Int32) := m_X5_apart_0 f_now_n f_now_members f_now_kinds x1 x2 x3
theorem c_X5_apart (l : Launch) (G : gk_G) (a0 a1 a2 a3 a4 a5 a7 a13 a15 a18 : Nat) (f_isKept : Int32) (f_now_n : Int32) (f_now_members : (Nat → Int64)) (f_now_kinds : (Nat → Int32)) (x1 : Int32) (x2 : Int32) (x3 : Int32) {rv : Int32} (hm : m_X5_apart f_now_n f_now_members f_now_kinds x1 x2 x3 = some rv) : gk_M l yX5_apart wsX5_apart rm_X5_apart true G [.ref a0, .int x1, .int x2, .int x3] [(a0, .inr (4, [.ref a1, .ref a7, .int f_isKept, .ref a13, .ref a15, .ref a18])), (a1, .inr (0, [.int f_now_n, .ref a2, .ref a3, .ref a4, .ref a5])), (a2, gk_J G 6 f_now_members), (a3, gk_I G 6 f_now_kinds)] (some (.int rv)) [(a0, .inr (4, [.ref a1, .ref a7, .int f_isKept, .ref a13, .ref a15, .ref a18])), (a1, .inr (0, [.int f_now_n, .ref a2, .ref a3, .ref a4, .ref a5])), (a2, gk_J G 6 f_now_members), (a3, gk_I G 6 f_now_kinds)] :=
  gk_of (by decide) rfl (Nat.le_of_ble_eq_true rfl) (fun p e s m below meth c A ls C h hl => w_X5_apart_0 C hm (fun v0 ez => by cases ez; rfl) h (show lv_has ls 6 [(0, .ref a0), (1, .int x1), (2, .int x2), (3, .int x3)] from hl))

