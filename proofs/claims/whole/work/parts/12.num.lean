/-! ===== ExchangeFamilies.Numbers.begin(II)V ===== -/
abbrev rm_X2_begin : Room := { frames := 3, cells := 0, slots := 0, locals := 152 }
theorem k_X2_begin_0 : ∀ w ∈ u_ws RX2 TX2 3, w ∈ wsX2_begin := by decide +kernel
theorem k_X2_begin_1 : Cond.fieldLink RX2 9 "ExchangeFamilies$Numbers" "sort" "I" ∈ wsX2_begin := by decide +kernel
theorem k_X2_begin_2 : Cond.fieldLink RX2 15 "ExchangeFamilies$Numbers" "size" "I" ∈ wsX2_begin := by decide +kernel
theorem k_X2_begin_3 : Cond.fieldLink RX2 18 "ExchangeFamilies$Numbers" "values" "[J" ∈ wsX2_begin := by decide +kernel
def m_X2_begin_0 (f_sort : Int32) (f_size : Int32) (f_values : (Nat → Int64)) (x1 : Int32) (x2 : Int32) : Option (Int32 × Int32 × (Nat → Int64)) := gk_bd1 (m_J7_fill_d0a16 80 f_values (0 : Int64)) (fun r1 => some (x1, x2, r1))
set_option maxRecDepth 100000 in
set_option maxHeartbeats 4000000 in
theorem w_X2_begin_0 {p : Program} {l : Launch} {e : Env} {s : State} {m : MethodId} {args : Array Value} {below : List Frame} {meth : Method} {c : Code} {G : gk_G} {A : Nat → Prop} {Q : State → Prop} {a0 a1 : Nat} (C : gk_C p s m args meth c cX2_begin 3 none yX2_begin wsX2_begin false G A) {f_sort : Int32} {f_size : Int32} {f_values : (Nat → Int64)} {x1 : Int32} {x2 : Int32} {yy : Int32 × Int32 × (Nat → Int64)} (hm : m_X2_begin_0 f_sort f_size f_values x1 x2 = some yy) (kr : ∀ (g_sort : Int32) (g_size : Int32) (g_values : (Nat → Int64)), yy = (g_sort, g_size, g_values) → Q = MQ below (gk_Q G none [(a0, .inr (1, [.int g_sort, .int g_size, .ref a1])), (a1, gk_J G 80 g_values)] A) args s 0 0 A) {H : Heap} {locs : List Loc} {ls : Array Slot} (h : gk_H G A s [(a0, .inr (1, [.int f_sort, .int f_size, .ref a1])), (a1, gk_J G 80 f_values)] H locs) (hl : lv_has ls 3 [(0, .ref a0), (1, .int x1), (2, .int x2)]) : W p l e rm_X2_begin s m args below meth c H locs 0 0 Q (F0 m 0 ls []) := by
  obtain ⟨hx, hb, hml, hr, hown, hnm, hts, hlk, hK, hSt, hA⟩ := id C
  obtain ⟨hP, hD, hS⟩ := h
  unfold m_X2_begin_0 at hm
  refine lv_aload_n hx hb dX2_begin_0 rfl (lv_at hl 0 rfl) ?_
  refine lv_iload_n hx hb dX2_begin_1 rfl (lv_at hl 1 rfl) ?_
  refine va_put (D := G.1) (cl := vwCl) (own := RX2) (ref := "ExchangeFamilies$Numbers") (ci := 1) (v := .int x1) (ty := .int) (C := RX2) (T := TX2) (N := 3) hx hb hts k_X2_begin_0 tyX2 tyX2_ok nmX2 hown hK hP hD hS 0 rfl rfl 0 (by decide) (hts _ k_X2_begin_1) (fun _ h9 => h9) rfl (by decide +kernel) rfl rfl (Nat.le_of_ble_eq_true rfl) dX2_begin_2 (fun H locs hP hD hS => ?_)
  have hP : va_P G.1 vwCl [(a0, .inr (1, [.int x1, .int f_size, .ref a1])), (a1, gk_J G 80 f_values)] H := hP
  have hD : va_D A [(a0, .inr (1, [.int x1, .int f_size, .ref a1])), (a1, gk_J G 80 f_values)] := hD
  refine lv_aload_n hx hb dX2_begin_5 rfl (lv_at hl 0 rfl) ?_
  refine lv_iload_n hx hb dX2_begin_6 rfl (lv_at hl 2 rfl) ?_
  refine va_put (D := G.1) (cl := vwCl) (own := RX2) (ref := "ExchangeFamilies$Numbers") (ci := 1) (v := .int x2) (ty := .int) (C := RX2) (T := TX2) (N := 3) hx hb hts k_X2_begin_0 tyX2 tyX2_ok nmX2 hown hK hP hD hS 0 rfl rfl 1 (by decide) (hts _ k_X2_begin_2) (fun _ h9 => h9) rfl (by decide +kernel) rfl rfl (Nat.le_of_ble_eq_true rfl) dX2_begin_7 (fun H locs hP hD hS => ?_)
  have hP : va_P G.1 vwCl [(a0, .inr (1, [.int x1, .int x2, .ref a1])), (a1, gk_J G 80 f_values)] H := hP
  have hD : va_D A [(a0, .inr (1, [.int x1, .int x2, .ref a1])), (a1, gk_J G 80 f_values)] := hD
  refine lv_aload_n hx hb dX2_begin_10 rfl (lv_at hl 0 rfl) ?_
  refine va_get (D := G.1) (cl := vwCl) (own := RX2) (ref := "ExchangeFamilies$Numbers") (ci := 1) (v := .ref a1) (C := RX2) (T := TX2) (N := 3) hx hb hts k_X2_begin_0 hown hK hP 0 rfl rfl 2 (by decide) (hts _ k_X2_begin_3) (fun _ h9 => h9) rfl dX2_begin_11 ?_
  refine lv_lconst (v := 0) hx hb dX2_begin_14 (by decide) ?_
  obtain ⟨r1, hq, hm⟩ := gk_bd1_some hm
  refine gk_callS (n := 2) (bytes := cJ7_fill_d0a16) (maxL := 5) (ret := none) [(a0, .inr (1, [.int x1, .int x2, .ref a1]))] [(a0, .inr (1, [.int x1, .int x2, .ref a1])), (a1, gk_J G 80 r1)] [] C ⟨hP, hD, hS⟩ (c_J7_fill_d0a16 l G a1 80 f_values (0 : Int64) hq) gX2_begin_J7_fill_d0a16 dX2_begin_15 hl.1 [1] [0] [0, 1] rfl ⟨rfl, rfl⟩ ⟨Nat.le_of_ble_eq_true rfl, Nat.le_of_ble_eq_true rfl⟩ ⟨by decide +kernel, by decide +kernel, by decide +kernel⟩ rfl (fun h => by cases h) (Nat.le_of_ble_eq_true rfl) rfl rfl rfl rfl (by decide) rfl rfl (fun H locs h => ?_)
  obtain ⟨hP, hD, hS⟩ := h
  rw [kr _ _ _ (Option.some.inj hm).symm]
  exact gk_vret C ⟨hP, hD, hS⟩ dX2_begin_18
def m_X2_begin (f_sort : Int32) (f_size : Int32) (f_values : (Nat → Int64)) (x1 : Int32) (x2 : Int32) : Option (Int32 × Int32 × (Nat → Int64)) := m_X2_begin_0 f_sort f_size f_values x1 x2
theorem c_X2_begin (l : Launch) (G : gk_G) (a0 a1 : Nat) (f_sort : Int32) (f_size : Int32) (f_values : (Nat → Int64)) (x1 : Int32) (x2 : Int32) {g_sort : Int32} {g_size : Int32} {g_values : (Nat → Int64)} (hm : m_X2_begin f_sort f_size f_values x1 x2 = some (g_sort, g_size, g_values)) : gk_M l yX2_begin wsX2_begin rm_X2_begin false G [.ref a0, .int x1, .int x2] [(a0, .inr (1, [.int f_sort, .int f_size, .ref a1])), (a1, gk_J G 80 f_values)] none [(a0, .inr (1, [.int g_sort, .int g_size, .ref a1])), (a1, gk_J G 80 g_values)] :=
  gk_of (by decide) rfl (Nat.le_of_ble_eq_true rfl) (fun p e s m below meth c A ls C h hl => w_X2_begin_0 C hm (fun v0 v1 v2 ez => by cases ez; rfl) h (show lv_has ls 3 [(0, .ref a0), (1, .int x1), (2, .int x2)] from hl))

/-! ===== ExchangeFamilies.Numbers.isMissing()Z ===== -/
abbrev rm_X2_isMissing : Room := { frames := 1, cells := 0, slots := 0, locals := 64 }
theorem k_X2_isMissing_0 : ∀ w ∈ u_ws RX2 TX2 3, w ∈ wsX2_isMissing := by decide +kernel
theorem k_X2_isMissing_1 : Cond.fieldLink RX2 9 "ExchangeFamilies$Numbers" "sort" "I" ∈ wsX2_isMissing := by decide +kernel
def m_X2_isMissing_0 (f_sort : Int32) : Option (Int32) := (if f_sort = (-1 : Int32) then some (1 : Int32) else some (0 : Int32))
set_option maxRecDepth 100000 in
set_option maxHeartbeats 4000000 in
theorem w_X2_isMissing_0 {p : Program} {l : Launch} {e : Env} {s : State} {m : MethodId} {args : Array Value} {below : List Frame} {meth : Method} {c : Code} {G : gk_G} {A : Nat → Prop} {Q : State → Prop} {a0 a1 : Nat} (C : gk_C p s m args meth c cX2_isMissing 1 (some .boolean) yX2_isMissing wsX2_isMissing false G A) {f_sort : Int32} {f_size : Int32} {yy : Int32} (hm : m_X2_isMissing_0 f_sort = some yy) (kr : ∀ (rv : Int32), yy = rv → Q = MQ below (gk_Q G (some (.int rv)) [(a0, .inr (1, [.int f_sort, .int f_size, .ref a1]))] A) args s 0 0 A) {H : Heap} {locs : List Loc} {ls : Array Slot} (h : gk_H G A s [(a0, .inr (1, [.int f_sort, .int f_size, .ref a1]))] H locs) (hl : lv_has ls 1 [(0, .ref a0)]) : W p l e rm_X2_isMissing s m args below meth c H locs 0 0 Q (F0 m 0 ls []) := by
  obtain ⟨hx, hb, hml, hr, hown, hnm, hts, hlk, hK, hSt, hA⟩ := id C
  obtain ⟨hP, hD, hS⟩ := h
  unfold m_X2_isMissing_0 at hm
  refine lv_aload_n hx hb dX2_isMissing_0 rfl (lv_at hl 0 rfl) ?_
  refine va_get (D := G.1) (cl := vwCl) (own := RX2) (ref := "ExchangeFamilies$Numbers") (ci := 1) (v := .int f_sort) (C := RX2) (T := TX2) (N := 3) hx hb hts k_X2_isMissing_0 hown hK hP 0 rfl rfl 0 (by decide) (hts _ k_X2_isMissing_1) (fun _ h9 => h9) rfl dX2_isMissing_1 ?_
  refine lv_iconst (v := -1) hx hb dX2_isMissing_4 (by decide) ?_
  refine lv_icmp_ne (tgt := 12) hx hb dX2_isMissing_5 (by decide) (fun c2 => ?_) (fun c2 => ?_)
  · have hm := gk_if c2 hm
    refine lv_iconst (v := 0) hx hb dX2_isMissing_12 (by decide) ?_
    rw [kr _ (Option.some.inj hm).symm]
    exact gk_zret C ⟨hP, hD, hS⟩ rfl dX2_isMissing_13
  · have hm := gk_it c2 hm
    refine lv_iconst (v := 1) hx hb dX2_isMissing_8 (by decide) ?_
    refine lv_goto (tgt := 13) hx hb dX2_isMissing_9 (by decide) ?_
    rw [kr _ (Option.some.inj hm).symm]
    exact gk_zret C ⟨hP, hD, hS⟩ rfl dX2_isMissing_13
def m_X2_isMissing (f_sort : Int32) : Option (Int32) := m_X2_isMissing_0 f_sort
theorem c_X2_isMissing (l : Launch) (G : gk_G) (a0 a1 : Nat) (f_sort : Int32) (f_size : Int32) {rv : Int32} (hm : m_X2_isMissing f_sort = some rv) : gk_M l yX2_isMissing wsX2_isMissing rm_X2_isMissing false G [.ref a0] [(a0, .inr (1, [.int f_sort, .int f_size, .ref a1]))] (some (.int rv)) [(a0, .inr (1, [.int f_sort, .int f_size, .ref a1]))] :=
  gk_of (by decide) rfl (Nat.le_of_ble_eq_true rfl) (fun p e s m below meth c A ls C h hl => w_X2_isMissing_0 C hm (fun v0 ez => by cases ez; rfl) h (show lv_has ls 1 [(0, .ref a0)] from hl))

/-! ===== ExchangeFamilies.Numbers.hasPlace(I)Z ===== -/
abbrev rm_X2_hasPlace : Room := { frames := 1, cells := 0, slots := 0, locals := 64 }
theorem k_X2_hasPlace_0 : ∀ w ∈ u_ws RX2 TX2 3, w ∈ wsX2_hasPlace := by decide +kernel
theorem k_X2_hasPlace_1 : Cond.fieldLink RX2 15 "ExchangeFamilies$Numbers" "size" "I" ∈ wsX2_hasPlace := by decide +kernel
def m_X2_hasPlace_0 (f_size : Int32) (x1 : Int32) : Option (Int32) := (if x1 < (0 : Int32) then some (0 : Int32) else (if f_size ≤ x1 then some (0 : Int32) else some (1 : Int32)))
set_option maxRecDepth 100000 in
set_option maxHeartbeats 4000000 in
theorem w_X2_hasPlace_0 {p : Program} {l : Launch} {e : Env} {s : State} {m : MethodId} {args : Array Value} {below : List Frame} {meth : Method} {c : Code} {G : gk_G} {A : Nat → Prop} {Q : State → Prop} {a0 a1 : Nat} (C : gk_C p s m args meth c cX2_hasPlace 2 (some .boolean) yX2_hasPlace wsX2_hasPlace false G A) {f_size : Int32} {x1 : Int32} {f_sort : Int32} {yy : Int32} (hm : m_X2_hasPlace_0 f_size x1 = some yy) (kr : ∀ (rv : Int32), yy = rv → Q = MQ below (gk_Q G (some (.int rv)) [(a0, .inr (1, [.int f_sort, .int f_size, .ref a1]))] A) args s 0 0 A) {H : Heap} {locs : List Loc} {ls : Array Slot} (h : gk_H G A s [(a0, .inr (1, [.int f_sort, .int f_size, .ref a1]))] H locs) (hl : lv_has ls 2 [(0, .ref a0), (1, .int x1)]) : W p l e rm_X2_hasPlace s m args below meth c H locs 0 0 Q (F0 m 0 ls []) := by
  obtain ⟨hx, hb, hml, hr, hown, hnm, hts, hlk, hK, hSt, hA⟩ := id C
  obtain ⟨hP, hD, hS⟩ := h
  unfold m_X2_hasPlace_0 at hm
  refine lv_iload_n hx hb dX2_hasPlace_0 rfl (lv_at hl 1 rfl) ?_
  refine lv_if_lt (tgt := 16) hx hb dX2_hasPlace_1 (by decide) (fun c3 => ?_) (fun c3 => ?_)
  · have hm := gk_it c3 hm
    refine lv_iconst (v := 0) hx hb dX2_hasPlace_16 (by decide) ?_
    rw [kr _ (Option.some.inj hm).symm]
    exact gk_zret C ⟨hP, hD, hS⟩ rfl dX2_hasPlace_17
  · have hm := gk_if c3 hm
    refine lv_iload_n hx hb dX2_hasPlace_4 rfl (lv_at hl 1 rfl) ?_
    refine lv_aload_n hx hb dX2_hasPlace_5 rfl (lv_at hl 0 rfl) ?_
    refine va_get (D := G.1) (cl := vwCl) (own := RX2) (ref := "ExchangeFamilies$Numbers") (ci := 1) (v := .int f_size) (C := RX2) (T := TX2) (N := 3) hx hb hts k_X2_hasPlace_0 hown hK hP 0 rfl rfl 1 (by decide) (hts _ k_X2_hasPlace_1) (fun _ h9 => h9) rfl dX2_hasPlace_6 ?_
    refine lv_icmp_ge (tgt := 16) hx hb dX2_hasPlace_9 (by decide) (fun c4 => ?_) (fun c4 => ?_)
    · have hm := gk_it c4 hm
      refine lv_iconst (v := 0) hx hb dX2_hasPlace_16 (by decide) ?_
      rw [kr _ (Option.some.inj hm).symm]
      exact gk_zret C ⟨hP, hD, hS⟩ rfl dX2_hasPlace_17
    · have hm := gk_if c4 hm
      refine lv_iconst (v := 1) hx hb dX2_hasPlace_12 (by decide) ?_
      refine lv_goto (tgt := 17) hx hb dX2_hasPlace_13 (by decide) ?_
      rw [kr _ (Option.some.inj hm).symm]
      exact gk_zret C ⟨hP, hD, hS⟩ rfl dX2_hasPlace_17
def m_X2_hasPlace (f_size : Int32) (x1 : Int32) : Option (Int32) := m_X2_hasPlace_0 f_size x1
theorem c_X2_hasPlace (l : Launch) (G : gk_G) (a0 a1 : Nat) (f_sort : Int32) (f_size : Int32) (x1 : Int32) {rv : Int32} (hm : m_X2_hasPlace f_size x1 = some rv) : gk_M l yX2_hasPlace wsX2_hasPlace rm_X2_hasPlace false G [.ref a0, .int x1] [(a0, .inr (1, [.int f_sort, .int f_size, .ref a1]))] (some (.int rv)) [(a0, .inr (1, [.int f_sort, .int f_size, .ref a1]))] :=
  gk_of (by decide) rfl (Nat.le_of_ble_eq_true rfl) (fun p e s m below meth c A ls C h hl => w_X2_hasPlace_0 C hm (fun v0 ez => by cases ez; rfl) h (show lv_has ls 2 [(0, .ref a0), (1, .int x1)] from hl))

/-! ===== ExchangeFamilies.Numbers.hasStretch(II)Z ===== -/
abbrev rm_X2_hasStretch : Room := { frames := 1, cells := 0, slots := 0, locals := 64 }
theorem k_X2_hasStretch_0 : ∀ w ∈ u_ws RX2 TX2 3, w ∈ wsX2_hasStretch := by decide +kernel
theorem k_X2_hasStretch_1 : Cond.fieldLink RX2 15 "ExchangeFamilies$Numbers" "size" "I" ∈ wsX2_hasStretch := by decide +kernel
def m_X2_hasStretch_0 (f_size : Int32) (x1 : Int32) (x2 : Int32) : Option (Int32) := (if x1 < (0 : Int32) then some (0 : Int32) else (if f_size < x1 then some (0 : Int32) else (if x2 < (0 : Int32) then some (0 : Int32) else (if (f_size - x1) < x2 then some (0 : Int32) else some (1 : Int32)))))
set_option maxRecDepth 100000 in
set_option maxHeartbeats 4000000 in
theorem w_X2_hasStretch_0 {p : Program} {l : Launch} {e : Env} {s : State} {m : MethodId} {args : Array Value} {below : List Frame} {meth : Method} {c : Code} {G : gk_G} {A : Nat → Prop} {Q : State → Prop} {a0 a1 : Nat} (C : gk_C p s m args meth c cX2_hasStretch 3 (some .boolean) yX2_hasStretch wsX2_hasStretch false G A) {f_size : Int32} {x1 : Int32} {x2 : Int32} {f_sort : Int32} {yy : Int32} (hm : m_X2_hasStretch_0 f_size x1 x2 = some yy) (kr : ∀ (rv : Int32), yy = rv → Q = MQ below (gk_Q G (some (.int rv)) [(a0, .inr (1, [.int f_sort, .int f_size, .ref a1]))] A) args s 0 0 A) {H : Heap} {locs : List Loc} {ls : Array Slot} (h : gk_H G A s [(a0, .inr (1, [.int f_sort, .int f_size, .ref a1]))] H locs) (hl : lv_has ls 3 [(0, .ref a0), (1, .int x1), (2, .int x2)]) : W p l e rm_X2_hasStretch s m args below meth c H locs 0 0 Q (F0 m 0 ls []) := by
  obtain ⟨hx, hb, hml, hr, hown, hnm, hts, hlk, hK, hSt, hA⟩ := id C
  obtain ⟨hP, hD, hS⟩ := h
  unfold m_X2_hasStretch_0 at hm
  refine lv_iload_n hx hb dX2_hasStretch_0 rfl (lv_at hl 1 rfl) ?_
  refine lv_if_lt (tgt := 30) hx hb dX2_hasStretch_1 (by decide) (fun c5 => ?_) (fun c5 => ?_)
  · have hm := gk_it c5 hm
    refine lv_iconst (v := 0) hx hb dX2_hasStretch_30 (by decide) ?_
    rw [kr _ (Option.some.inj hm).symm]
    exact gk_zret C ⟨hP, hD, hS⟩ rfl dX2_hasStretch_31
  · have hm := gk_if c5 hm
    refine lv_iload_n hx hb dX2_hasStretch_4 rfl (lv_at hl 1 rfl) ?_
    refine lv_aload_n hx hb dX2_hasStretch_5 rfl (lv_at hl 0 rfl) ?_
    refine va_get (D := G.1) (cl := vwCl) (own := RX2) (ref := "ExchangeFamilies$Numbers") (ci := 1) (v := .int f_size) (C := RX2) (T := TX2) (N := 3) hx hb hts k_X2_hasStretch_0 hown hK hP 0 rfl rfl 1 (by decide) (hts _ k_X2_hasStretch_1) (fun _ h9 => h9) rfl dX2_hasStretch_6 ?_
    refine lv_icmp_gt (tgt := 30) hx hb dX2_hasStretch_9 (by decide) (fun c6 => ?_) (fun c6 => ?_)
    · have hm := gk_it c6 hm
      refine lv_iconst (v := 0) hx hb dX2_hasStretch_30 (by decide) ?_
      rw [kr _ (Option.some.inj hm).symm]
      exact gk_zret C ⟨hP, hD, hS⟩ rfl dX2_hasStretch_31
    · have hm := gk_if c6 hm
      refine lv_iload_n hx hb dX2_hasStretch_12 rfl (lv_at hl 2 rfl) ?_
      refine lv_if_lt (tgt := 30) hx hb dX2_hasStretch_13 (by decide) (fun c7 => ?_) (fun c7 => ?_)
      · have hm := gk_it c7 hm
        refine lv_iconst (v := 0) hx hb dX2_hasStretch_30 (by decide) ?_
        rw [kr _ (Option.some.inj hm).symm]
        exact gk_zret C ⟨hP, hD, hS⟩ rfl dX2_hasStretch_31
      · have hm := gk_if c7 hm
        refine lv_iload_n hx hb dX2_hasStretch_16 rfl (lv_at hl 2 rfl) ?_
        refine lv_aload_n hx hb dX2_hasStretch_17 rfl (lv_at hl 0 rfl) ?_
        refine va_get (D := G.1) (cl := vwCl) (own := RX2) (ref := "ExchangeFamilies$Numbers") (ci := 1) (v := .int f_size) (C := RX2) (T := TX2) (N := 3) hx hb hts k_X2_hasStretch_0 hown hK hP 0 rfl rfl 1 (by decide) (hts _ k_X2_hasStretch_1) (fun _ h9 => h9) rfl dX2_hasStretch_18 ?_
        refine lv_iload_n hx hb dX2_hasStretch_21 rfl (lv_at hl 1 rfl) ?_
        refine lv_isub hx hb dX2_hasStretch_22 ?_
        refine lv_icmp_gt (tgt := 30) hx hb dX2_hasStretch_23 (by decide) (fun c8 => ?_) (fun c8 => ?_)
        · have hm := gk_it c8 hm
          refine lv_iconst (v := 0) hx hb dX2_hasStretch_30 (by decide) ?_
          rw [kr _ (Option.some.inj hm).symm]
          exact gk_zret C ⟨hP, hD, hS⟩ rfl dX2_hasStretch_31
        · have hm := gk_if c8 hm
          refine lv_iconst (v := 1) hx hb dX2_hasStretch_26 (by decide) ?_
          refine lv_goto (tgt := 31) hx hb dX2_hasStretch_27 (by decide) ?_
          rw [kr _ (Option.some.inj hm).symm]
          exact gk_zret C ⟨hP, hD, hS⟩ rfl dX2_hasStretch_31
def m_X2_hasStretch (f_size : Int32) (x1 : Int32) (x2 : Int32) : Option (Int32) := m_X2_hasStretch_0 f_size x1 x2
theorem c_X2_hasStretch (l : Launch) (G : gk_G) (a0 a1 : Nat) (f_sort : Int32) (f_size : Int32) (x1 : Int32) (x2 : Int32) {rv : Int32} (hm : m_X2_hasStretch f_size x1 x2 = some rv) : gk_M l yX2_hasStretch wsX2_hasStretch rm_X2_hasStretch false G [.ref a0, .int x1, .int x2] [(a0, .inr (1, [.int f_sort, .int f_size, .ref a1]))] (some (.int rv)) [(a0, .inr (1, [.int f_sort, .int f_size, .ref a1]))] :=
  gk_of (by decide) rfl (Nat.le_of_ble_eq_true rfl) (fun p e s m below meth c A ls C h hl => w_X2_hasStretch_0 C hm (fun v0 ez => by cases ez; rfl) h (show lv_has ls 3 [(0, .ref a0), (1, .int x1), (2, .int x2)] from hl))

/-! ===== ExchangeFamilies.Numbers.lowestBits(J)J ===== -/
abbrev rm_X2_lowestBits : Room := { frames := 1, cells := 0, slots := 0, locals := 64 }
theorem k_X2_lowestBits_0 : ∀ w ∈ u_ws RX2 TX2 3, w ∈ wsX2_lowestBits := by decide +kernel
theorem k_X2_lowestBits_1 : Cond.fieldLink RX2 9 "ExchangeFamilies$Numbers" "sort" "I" ∈ wsX2_lowestBits := by decide +kernel
def m_X2_lowestBits_0 (f_sort : Int32) (x1 : Int64) : Option (Int64) := (if f_sort = 0 then some x1.toInt32.toInt8.toInt32.toInt64 else (if f_sort = 1 then some x1.toInt32.toInt16.toInt32.toInt64 else (if f_sort = 2 then some x1.toInt32.toInt64 else some x1)))
set_option maxRecDepth 100000 in
set_option maxHeartbeats 4000000 in
theorem w_X2_lowestBits_0 {p : Program} {l : Launch} {e : Env} {s : State} {m : MethodId} {args : Array Value} {below : List Frame} {meth : Method} {c : Code} {G : gk_G} {A : Nat → Prop} {Q : State → Prop} {a0 a1 : Nat} (C : gk_C p s m args meth c cX2_lowestBits 3 (some .long) yX2_lowestBits wsX2_lowestBits false G A) {f_sort : Int32} {x1 : Int64} {f_size : Int32} {yy : Int64} (hm : m_X2_lowestBits_0 f_sort x1 = some yy) (kr : ∀ (rv : Int64), yy = rv → Q = MQ below (gk_Q G (some (.long rv)) [(a0, .inr (1, [.int f_sort, .int f_size, .ref a1]))] A) args s 0 0 A) {H : Heap} {locs : List Loc} {ls : Array Slot} (h : gk_H G A s [(a0, .inr (1, [.int f_sort, .int f_size, .ref a1]))] H locs) (hl : lv_has ls 3 [(0, .ref a0), (1, .long x1)]) : W p l e rm_X2_lowestBits s m args below meth c H locs 0 0 Q (F0 m 0 ls []) := by
  obtain ⟨hx, hb, hml, hr, hown, hnm, hts, hlk, hK, hSt, hA⟩ := id C
  obtain ⟨hP, hD, hS⟩ := h
  unfold m_X2_lowestBits_0 at hm
  refine lv_aload_n hx hb dX2_lowestBits_0 rfl (lv_at hl 0 rfl) ?_
  refine va_get (D := G.1) (cl := vwCl) (own := RX2) (ref := "ExchangeFamilies$Numbers") (ci := 1) (v := .int f_sort) (C := RX2) (T := TX2) (N := 3) hx hb hts k_X2_lowestBits_0 hown hK hP 0 rfl rfl 0 (by decide) (hts _ k_X2_lowestBits_1) (fun _ h9 => h9) rfl dX2_lowestBits_1 ?_
  by_cases c4 : f_sort = 0
  · have hm := gk_it c4 hm
    refine lv_tableIn (tgt := 32) (off := 28) hx hb dX2_lowestBits_4 (by rw [c4]; decide) (by rw [c4]; decide) (by rw [c4]; rfl) (by decide) ?_
    refine lv_lload_n hx hb dX2_lowestBits_32 rfl (lv_at hl 1 rfl) ?_
    refine lv_l2i hx hb dX2_lowestBits_33 rfl ?_
    refine lv_i2b hx hb dX2_lowestBits_34 rfl ?_
    refine lv_i2l hx hb dX2_lowestBits_35 rfl ?_
    rw [kr _ (Option.some.inj hm).symm]
    exact gk_lret C ⟨hP, hD, hS⟩ dX2_lowestBits_36
  have hm := gk_if c4 hm
  by_cases c5 : f_sort = 1
  · have hm := gk_it c5 hm
    refine lv_tableIn (tgt := 37) (off := 33) hx hb dX2_lowestBits_4 (by rw [c5]; decide) (by rw [c5]; decide) (by rw [c5]; rfl) (by decide) ?_
    refine lv_lload_n hx hb dX2_lowestBits_37 rfl (lv_at hl 1 rfl) ?_
    refine lv_l2i hx hb dX2_lowestBits_38 rfl ?_
    refine lv_i2s hx hb dX2_lowestBits_39 rfl ?_
    refine lv_i2l hx hb dX2_lowestBits_40 rfl ?_
    rw [kr _ (Option.some.inj hm).symm]
    exact gk_lret C ⟨hP, hD, hS⟩ dX2_lowestBits_41
  have hm := gk_if c5 hm
  by_cases c6 : f_sort = 2
  · have hm := gk_it c6 hm
    refine lv_tableIn (tgt := 42) (off := 38) hx hb dX2_lowestBits_4 (by rw [c6]; decide) (by rw [c6]; decide) (by rw [c6]; rfl) (by decide) ?_
    refine lv_lload_n hx hb dX2_lowestBits_42 rfl (lv_at hl 1 rfl) ?_
    refine lv_l2i hx hb dX2_lowestBits_43 rfl ?_
    refine lv_i2l hx hb dX2_lowestBits_44 rfl ?_
    rw [kr _ (Option.some.inj hm).symm]
    exact gk_lret C ⟨hP, hD, hS⟩ dX2_lowestBits_45
  have hm := gk_if c6 hm
  have ho := gk_out (x := f_sort) 3 (by decide) (fun k hk => by match k, hk with | 0, _ => exact c4 | 1, _ => exact c5 | 2, _ => exact c6 | k + 3, h => exact absurd h (by omega))
  refine lv_tableOut (tgt := 46) hx hb dX2_lowestBits_4 (by rcases ho with q | q; exact Or.inl q; exact Or.inr (by simpa using q)) (by decide) ?_
  refine lv_lload_n hx hb dX2_lowestBits_46 rfl (lv_at hl 1 rfl) ?_
  rw [kr _ (Option.some.inj hm).symm]
  exact gk_lret C ⟨hP, hD, hS⟩ dX2_lowestBits_47
def m_X2_lowestBits (f_sort : Int32) (x1 : Int64) : Option (Int64) := m_X2_lowestBits_0 f_sort x1
theorem c_X2_lowestBits (l : Launch) (G : gk_G) (a0 a1 : Nat) (f_sort : Int32) (f_size : Int32) (x1 : Int64) {rv : Int64} (hm : m_X2_lowestBits f_sort x1 = some rv) : gk_M l yX2_lowestBits wsX2_lowestBits rm_X2_lowestBits false G [.ref a0, .long x1] [(a0, .inr (1, [.int f_sort, .int f_size, .ref a1]))] (some (.long rv)) [(a0, .inr (1, [.int f_sort, .int f_size, .ref a1]))] :=
  gk_of (by decide) rfl (Nat.le_of_ble_eq_true rfl) (fun p e s m below meth c A ls C h hl => w_X2_lowestBits_0 C hm (fun v0 ez => by cases ez; rfl) h (show lv_has ls 3 [(0, .ref a0), (1, .long x1)] from hl))

/-! ===== ExchangeFamilies.Numbers.write(IJ)V ===== -/
abbrev rm_X2_write : Room := { frames := 3, cells := 0, slots := 0, locals := 150 }
theorem k_X2_write_0 : ∀ w ∈ u_ws RX2 TX2 3, w ∈ wsX2_write := by decide +kernel
theorem k_X2_write_1 : Cond.fieldLink RX2 18 "ExchangeFamilies$Numbers" "values" "[J" ∈ wsX2_write := by decide +kernel
def m_X2_write_0 (f_sort : Int32) (f_values : (Nat → Int64)) (x1 : Int32) (x2 : Int64) : Option ((Nat → Int64)) := gk_bd1 (m_X2_lowestBits f_sort x2) (fun r1 => gk_ix x1 80 (some (vp_updL f_values x1.toNatClampNeg r1)))
set_option maxRecDepth 100000 in
set_option maxHeartbeats 4000000 in
theorem w_X2_write_0 {p : Program} {l : Launch} {e : Env} {s : State} {m : MethodId} {args : Array Value} {below : List Frame} {meth : Method} {c : Code} {G : gk_G} {A : Nat → Prop} {Q : State → Prop} {a0 a1 : Nat} (C : gk_C p s m args meth c cX2_write 4 none yX2_write wsX2_write false G A) {f_sort : Int32} {f_values : (Nat → Int64)} {x1 : Int32} {x2 : Int64} {f_size : Int32} {yy : (Nat → Int64)} (hm : m_X2_write_0 f_sort f_values x1 x2 = some yy) (kr : ∀ (g_values : (Nat → Int64)), yy = g_values → Q = MQ below (gk_Q G none [(a0, .inr (1, [.int f_sort, .int f_size, .ref a1])), (a1, gk_J G 80 g_values)] A) args s 0 0 A) {H : Heap} {locs : List Loc} {ls : Array Slot} (h : gk_H G A s [(a0, .inr (1, [.int f_sort, .int f_size, .ref a1])), (a1, gk_J G 80 f_values)] H locs) (hl : lv_has ls 4 [(0, .ref a0), (1, .int x1), (2, .long x2)]) : W p l e rm_X2_write s m args below meth c H locs 0 0 Q (F0 m 0 ls []) := by
  obtain ⟨hx, hb, hml, hr, hown, hnm, hts, hlk, hK, hSt, hA⟩ := id C
  obtain ⟨hP, hD, hS⟩ := h
  unfold m_X2_write_0 at hm
  refine lv_aload_n hx hb dX2_write_0 rfl (lv_at hl 0 rfl) ?_
  refine va_get (D := G.1) (cl := vwCl) (own := RX2) (ref := "ExchangeFamilies$Numbers") (ci := 1) (v := .ref a1) (C := RX2) (T := TX2) (N := 3) hx hb hts k_X2_write_0 hown hK hP 0 rfl rfl 2 (by decide) (hts _ k_X2_write_1) (fun _ h9 => h9) rfl dX2_write_1 ?_
  refine lv_iload_n hx hb dX2_write_4 rfl (lv_at hl 1 rfl) ?_
  refine lv_aload_n hx hb dX2_write_5 rfl (lv_at hl 0 rfl) ?_
  refine lv_lload_n hx hb dX2_write_6 rfl (lv_at hl 2 rfl) ?_
  obtain ⟨r1, hq, hm⟩ := gk_bd1_some hm
  refine gk_callV (n := 1) (bytes := cX2_lowestBits) (maxL := 3) (ret := (some .long)) (Cn := RX2) (T := TX2) (N := 3) [(a1, gk_J G 80 f_values)] [(a0, .inr (1, [.int f_sort, .int f_size, .ref a1])), (a1, gk_J G 80 f_values)] [.int x1, .ref a1] C ⟨hP, hD, hS⟩ (c_X2_lowestBits l G a0 a1 f_sort f_size x2 hq) gX2_write_X2_lowestBits dX2_write_7 hl.1 [0] [1] [1, 0] rfl rfl ⟨rfl, rfl⟩ ⟨Nat.le_of_ble_eq_true rfl, Nat.le_of_ble_eq_true rfl⟩ ⟨rfl, by decide +kernel, by decide +kernel, by decide +kernel⟩ rfl (fun h => by cases h) (Nat.le_of_ble_eq_true rfl) rfl rfl rfl rfl (by decide) rfl rfl (fun H locs h => ?_)
  obtain ⟨hP, hD, hS⟩ := h
  obtain ⟨hi, hm⟩ := gk_ix_some hm
  refine va_last hx hb hK hP hD hS 1 1 rfl rfl hi dX2_write_10 (fun H locs hP hD hS => ?_)
  have hP : va_P G.1 vwCl [(a0, .inr (1, [.int f_sort, .int f_size, .ref a1])), (a1, gk_J G 80 (vp_updL f_values x1.toNatClampNeg r1))] H := hP
  have hD : va_D A [(a0, .inr (1, [.int f_sort, .int f_size, .ref a1])), (a1, gk_J G 80 (vp_updL f_values x1.toNatClampNeg r1))] := hD
  rw [kr _ (Option.some.inj hm).symm]
  exact gk_vret C ⟨hP, hD, hS⟩ dX2_write_11
def m_X2_write (f_sort : Int32) (f_values : (Nat → Int64)) (x1 : Int32) (x2 : Int64) : Option ((Nat → Int64)) := m_X2_write_0 f_sort f_values x1 x2
theorem c_X2_write (l : Launch) (G : gk_G) (a0 a1 : Nat) (f_sort : Int32) (f_size : Int32) (f_values : (Nat → Int64)) (x1 : Int32) (x2 : Int64) {g_values : (Nat → Int64)} (hm : m_X2_write f_sort f_values x1 x2 = some g_values) : gk_M l yX2_write wsX2_write rm_X2_write false G [.ref a0, .int x1, .long x2] [(a0, .inr (1, [.int f_sort, .int f_size, .ref a1])), (a1, gk_J G 80 f_values)] none [(a0, .inr (1, [.int f_sort, .int f_size, .ref a1])), (a1, gk_J G 80 g_values)] :=
  gk_of (by decide) rfl (Nat.le_of_ble_eq_true rfl) (fun p e s m below meth c A ls C h hl => w_X2_write_0 C hm (fun v0 ez => by cases ez; rfl) h (show lv_has ls 4 [(0, .ref a0), (1, .int x1), (2, .long x2)] from hl))

/-! ===== ExchangeFamilies.Numbers.asSets(I)J ===== -/
abbrev rm_X2_asSets : Room := { frames := 1, cells := 0, slots := 0, locals := 64 }
theorem k_X2_asSets_0 : ∀ w ∈ u_ws RX2 TX2 3, w ∈ wsX2_asSets := by decide +kernel
theorem k_X2_asSets_1 : Cond.fieldLink RX2 15 "ExchangeFamilies$Numbers" "size" "I" ∈ wsX2_asSets := by decide +kernel
theorem k_X2_asSets_2 : Cond.fieldLink RX2 18 "ExchangeFamilies$Numbers" "values" "[J" ∈ wsX2_asSets := by decide +kernel
def m_X2_asSets_B5 (f_size : Int32) (f_values : (Nat → Int64)) (x1 : Int32) (x2 : Int64) (x4 : Int32) : Option ((Int64 × Int32) ⊕ (Int64)) := (if f_size ≤ x4 then some (.inr x2) else gk_ix x4 80 ((if (lg_cmp (f_values x4.toNatClampNeg) (0 : Int64)) < (0 : Int32) then some (.inl (x2, x4 + 1)) else gk_ix x4 80 ((if (0 : Int32) ≤ (lg_cmp (f_values x4.toNatClampNeg) ((1 : Int64) <<< (x1.toInt64 &&& 63))) then some (.inl (x2, x4 + 1)) else gk_ix x4 80 (some (.inl (x2 ||| ((1 : Int64) <<< (((f_values x4.toNatClampNeg).toInt32).toInt64 &&& 63)), x4 + 1))))))))
set_option maxRecDepth 100000 in
set_option maxHeartbeats 4000000 in
theorem w_X2_asSets_B5 {p : Program} {l : Launch} {e : Env} {s : State} {m : MethodId} {args : Array Value} {below : List Frame} {meth : Method} {c : Code} {G : gk_G} {A : Nat → Prop} {Q : State → Prop} {a0 a1 : Nat} (C : gk_C p s m args meth c cX2_asSets 5 (some .long) yX2_asSets wsX2_asSets false G A) {f_size : Int32} {f_values : (Nat → Int64)} {x1 : Int32} {x2 : Int64} {x4 : Int32} {f_sort : Int32} {yy : (Int64 × Int32) ⊕ (Int64)} (hm : m_X2_asSets_B5 f_size f_values x1 x2 x4 = some yy) (kl : ∀ (x2 : Int64) (x4 : Int32), yy = .inl (x2, x4) → ∀ (H : Heap) (locs : List Loc) (ls : Array Slot), gk_H G A s [(a0, .inr (1, [.int f_sort, .int f_size, .ref a1])), (a1, gk_J G 80 f_values)] H locs → lv_has ls 5 [(0, .ref a0), (1, .int x1), (2, .long x2), (4, .int x4)] → W p l e rm_X2_asSets s m args below meth c H locs 0 0 Q (F0 m 5 ls [])) (kx : ∀ (x2 : Int64), yy = .inr x2 → ∀ (H : Heap) (locs : List Loc) (ls : Array Slot), gk_H G A s [(a0, .inr (1, [.int f_sort, .int f_size, .ref a1])), (a1, gk_J G 80 f_values)] H locs → lv_has ls 5 [(2, .long x2)] → W p l e rm_X2_asSets s m args below meth c H locs 0 0 Q (F0 m 59 ls [])) {H : Heap} {locs : List Loc} {ls : Array Slot} (h : gk_H G A s [(a0, .inr (1, [.int f_sort, .int f_size, .ref a1])), (a1, gk_J G 80 f_values)] H locs) (hl : lv_has ls 5 [(0, .ref a0), (1, .int x1), (2, .long x2), (4, .int x4)]) : W p l e rm_X2_asSets s m args below meth c H locs 0 0 Q (F0 m 5 ls []) := by
  obtain ⟨hx, hb, hml, hr, hown, hnm, hts, hlk, hK, hSt, hA⟩ := id C
  obtain ⟨hP, hD, hS⟩ := h
  unfold m_X2_asSets_B5 at hm
  refine lv_iload hx hb dX2_asSets_5 (lv_at hl 3 rfl) ?_
  refine lv_aload_n hx hb dX2_asSets_7 rfl (lv_at hl 0 rfl) ?_
  refine va_get (D := G.1) (cl := vwCl) (own := RX2) (ref := "ExchangeFamilies$Numbers") (ci := 1) (v := .int f_size) (C := RX2) (T := TX2) (N := 3) hx hb hts k_X2_asSets_0 hown hK hP 0 rfl rfl 1 (by decide) (hts _ k_X2_asSets_1) (fun _ h9 => h9) rfl dX2_asSets_8 ?_
  refine lv_icmp_ge (tgt := 59) hx hb dX2_asSets_11 (by decide) (fun c4 => ?_) (fun c4 => ?_)
  · have hm := gk_it c4 hm
    exact kx _ (Option.some.inj hm).symm _ _ _ ⟨hP, hD, hS⟩ (lv_sub hl [2] rfl)
  · have hm := gk_if c4 hm
    refine lv_aload_n hx hb dX2_asSets_14 rfl (lv_at hl 0 rfl) ?_
    refine va_get (D := G.1) (cl := vwCl) (own := RX2) (ref := "ExchangeFamilies$Numbers") (ci := 1) (v := .ref a1) (C := RX2) (T := TX2) (N := 3) hx hb hts k_X2_asSets_0 hown hK hP 0 rfl rfl 2 (by decide) (hts _ k_X2_asSets_2) (fun _ h9 => h9) rfl dX2_asSets_15 ?_
    refine lv_iload hx hb dX2_asSets_18 (lv_at hl 3 rfl) ?_
    obtain ⟨hi, hm⟩ := gk_ix_some hm
    refine va_lald hx hb hK hP 1 1 rfl rfl hi dX2_asSets_20 ?_
    refine lv_lconst (v := 0) hx hb dX2_asSets_21 (by decide) ?_
    refine W.lcmp hx hb dX2_asSets_22 ?_
    refine lv_if_lt (tgt := 53) hx hb dX2_asSets_23 (by decide) (fun c5 => ?_) (fun c5 => ?_)
    · have hm := gk_it c5 hm
      refine lv_iinc (v := x4 + 1) (lv' := [(4, .int (x4 + 1)), (0, .ref a0), (1, .int x1), (2, .long x2)]) hx hb dX2_asSets_53 hl (k := 3) rfl rfl (by decide) rfl (fun ls hl => ?_)
      refine lv_goto (tgt := 5) hx hb dX2_asSets_56 (by decide) ?_
      exact kl _ _ (Option.some.inj hm).symm _ _ _ ⟨hP, hD, hS⟩ (lv_sub hl [1, 2, 3, 0] rfl)
    · have hm := gk_if c5 hm
      refine lv_aload_n hx hb dX2_asSets_26 rfl (lv_at hl 0 rfl) ?_
      refine va_get (D := G.1) (cl := vwCl) (own := RX2) (ref := "ExchangeFamilies$Numbers") (ci := 1) (v := .ref a1) (C := RX2) (T := TX2) (N := 3) hx hb hts k_X2_asSets_0 hown hK hP 0 rfl rfl 2 (by decide) (hts _ k_X2_asSets_2) (fun _ h9 => h9) rfl dX2_asSets_27 ?_
      refine lv_iload hx hb dX2_asSets_30 (lv_at hl 3 rfl) ?_
      obtain ⟨hi, hm⟩ := gk_ix_some hm
      refine va_lald hx hb hK hP 1 1 rfl rfl hi dX2_asSets_32 ?_
      refine lv_lconst (v := 1) hx hb dX2_asSets_33 (by decide) ?_
      refine lv_iload_n hx hb dX2_asSets_34 rfl (lv_at hl 1 rfl) ?_
      refine lv_lshl hx hb dX2_asSets_35 rfl ?_
      refine W.lcmp hx hb dX2_asSets_36 ?_
      refine lv_if_ge (tgt := 53) hx hb dX2_asSets_37 (by decide) (fun c6 => ?_) (fun c6 => ?_)
      · have hm := gk_it c6 hm
        refine lv_iinc (v := x4 + 1) (lv' := [(4, .int (x4 + 1)), (0, .ref a0), (1, .int x1), (2, .long x2)]) hx hb dX2_asSets_53 hl (k := 3) rfl rfl (by decide) rfl (fun ls hl => ?_)
        refine lv_goto (tgt := 5) hx hb dX2_asSets_56 (by decide) ?_
        exact kl _ _ (Option.some.inj hm).symm _ _ _ ⟨hP, hD, hS⟩ (lv_sub hl [1, 2, 3, 0] rfl)
      · have hm := gk_if c6 hm
        refine lv_lload_n hx hb dX2_asSets_40 rfl (lv_at hl 2 rfl) ?_
        refine lv_lconst (v := 1) hx hb dX2_asSets_41 (by decide) ?_
        refine lv_aload_n hx hb dX2_asSets_42 rfl (lv_at hl 0 rfl) ?_
        refine va_get (D := G.1) (cl := vwCl) (own := RX2) (ref := "ExchangeFamilies$Numbers") (ci := 1) (v := .ref a1) (C := RX2) (T := TX2) (N := 3) hx hb hts k_X2_asSets_0 hown hK hP 0 rfl rfl 2 (by decide) (hts _ k_X2_asSets_2) (fun _ h9 => h9) rfl dX2_asSets_43 ?_
        refine lv_iload hx hb dX2_asSets_46 (lv_at hl 3 rfl) ?_
        obtain ⟨hi, hm⟩ := gk_ix_some hm
        refine va_lald hx hb hK hP 1 1 rfl rfl hi dX2_asSets_48 ?_
        refine lv_l2i hx hb dX2_asSets_49 rfl ?_
        refine lv_lshl hx hb dX2_asSets_50 rfl ?_
        refine lv_lor hx hb dX2_asSets_51 ?_
        refine lv_lstore_n (lv' := [(2, .long (x2 ||| ((1 : Int64) <<< (((f_values x4.toNatClampNeg).toInt32).toInt64 &&& 63)))), (0, .ref a0), (1, .int x1), (4, .int x4)]) hx hb dX2_asSets_52 rfl hl (by decide) rfl (fun ls hl => ?_)
        refine lv_iinc (v := x4 + 1) (lv' := [(4, .int (x4 + 1)), (2, .long (x2 ||| ((1 : Int64) <<< (((f_values x4.toNatClampNeg).toInt32).toInt64 &&& 63)))), (0, .ref a0), (1, .int x1)]) hx hb dX2_asSets_53 hl (k := 3) rfl rfl (by decide) rfl (fun ls hl => ?_)
        refine lv_goto (tgt := 5) hx hb dX2_asSets_56 (by decide) ?_
        exact kl _ _ (Option.some.inj hm).symm _ _ _ ⟨hP, hD, hS⟩ (lv_sub hl [2, 3, 1, 0] rfl)
set_option maxRecDepth 100000 in
set_option maxHeartbeats 4000000 in
theorem w_X2_asSets_L5 {p : Program} {l : Launch} {e : Env} {s : State} {m : MethodId} {args : Array Value} {below : List Frame} {meth : Method} {c : Code} {G : gk_G} {A : Nat → Prop} {Q : State → Prop} {a0 a1 : Nat} (C : gk_C p s m args meth c cX2_asSets 5 (some .long) yX2_asSets wsX2_asSets false G A) {f_size : Int32} {f_values : (Nat → Int64)} {x1 : Int32} {x2 : Int64} {x4 : Int32} {f_sort : Int32} {k : Nat} {e_x2 : Int64} (hm : gk_lp (fun z => m_X2_asSets_B5 f_size f_values x1 z.1 z.2) k (x2, x4) = some e_x2) (kx : ∀ (H : Heap) (locs : List Loc) (ls : Array Slot), gk_H G A s [(a0, .inr (1, [.int f_sort, .int f_size, .ref a1])), (a1, gk_J G 80 f_values)] H locs → lv_has ls 5 [(2, .long e_x2)] → W p l e rm_X2_asSets s m args below meth c H locs 0 0 Q (F0 m 59 ls [])) {H : Heap} {locs : List Loc} {ls : Array Slot} (h : gk_H G A s [(a0, .inr (1, [.int f_sort, .int f_size, .ref a1])), (a1, gk_J G 80 f_values)] H locs) (hl : lv_has ls 5 [(0, .ref a0), (1, .int x1), (2, .long x2), (4, .int x4)]) : W p l e rm_X2_asSets s m args below meth c H locs 0 0 Q (F0 m 5 ls []) :=
  gk_lp_some (P := fun z => ∀ (H : Heap) (locs : List Loc) (ls : Array Slot), gk_H G A s [(a0, .inr (1, [.int f_sort, .int f_size, .ref a1])), (a1, gk_J G 80 f_values)] H locs → lv_has ls 5 [(0, .ref a0), (1, .int x1), (2, .long z.1), (4, .int z.2)] → W p l e rm_X2_asSets s m args below meth c H locs 0 0 Q (F0 m 5 ls [])) (E := fun r => (∀ (x2 : Int64), r = x2 → ∀ (H : Heap) (locs : List Loc) (ls : Array Slot), gk_H G A s [(a0, .inr (1, [.int f_sort, .int f_size, .ref a1])), (a1, gk_J G 80 f_values)] H locs → lv_has ls 5 [(2, .long x2)] → W p l e rm_X2_asSets s m args below meth c H locs 0 0 Q (F0 m 59 ls []))) (fun z x hf kl ke H locs ls h hl => w_X2_asSets_B5 C hf (fun v0 v1 ez => kl (v0, v1) ez) (fun v0 ez => ke _ ez v0 rfl) h hl) k (x2, x4) _ hm (fun v0 ez => (by cases ez; exact kx)) _ _ _ h hl
def m_X2_asSets_0 (f_size : Int32) (f_values : (Nat → Int64)) (x1 : Int32) : Option (Int64) := gk_bd1 (gk_lp (fun z => m_X2_asSets_B5 f_size f_values x1 z.1 z.2) gk_fu ((0 : Int64), (0 : Int32))) (fun e7 => some e7)
set_option maxRecDepth 100000 in
set_option maxHeartbeats 4000000 in
theorem w_X2_asSets_0 {p : Program} {l : Launch} {e : Env} {s : State} {m : MethodId} {args : Array Value} {below : List Frame} {meth : Method} {c : Code} {G : gk_G} {A : Nat → Prop} {Q : State → Prop} {a0 a1 : Nat} (C : gk_C p s m args meth c cX2_asSets 5 (some .long) yX2_asSets wsX2_asSets false G A) {f_size : Int32} {f_values : (Nat → Int64)} {x1 : Int32} {f_sort : Int32} {yy : Int64} (hm : m_X2_asSets_0 f_size f_values x1 = some yy) (kr : ∀ (rv : Int64), yy = rv → Q = MQ below (gk_Q G (some (.long rv)) [(a0, .inr (1, [.int f_sort, .int f_size, .ref a1])), (a1, gk_J G 80 f_values)] A) args s 0 0 A) {H : Heap} {locs : List Loc} {ls : Array Slot} (h : gk_H G A s [(a0, .inr (1, [.int f_sort, .int f_size, .ref a1])), (a1, gk_J G 80 f_values)] H locs) (hl : lv_has ls 5 [(0, .ref a0), (1, .int x1)]) : W p l e rm_X2_asSets s m args below meth c H locs 0 0 Q (F0 m 0 ls []) := by
  obtain ⟨hx, hb, hml, hr, hown, hnm, hts, hlk, hK, hSt, hA⟩ := id C
  obtain ⟨hP, hD, hS⟩ := h
  unfold m_X2_asSets_0 at hm
  refine lv_lconst (v := 0) hx hb dX2_asSets_0 (by decide) ?_
  refine lv_lstore_n (lv' := [(2, .long (0 : Int64)), (0, .ref a0), (1, .int x1)]) hx hb dX2_asSets_1 rfl hl (by decide) rfl (fun ls hl => ?_)
  refine lv_iconst (v := 0) hx hb dX2_asSets_2 (by decide) ?_
  refine lv_istore (lv' := [(4, .int (0 : Int32)), (2, .long (0 : Int64)), (0, .ref a0), (1, .int x1)]) hx hb dX2_asSets_3 hl (by decide) rfl (fun ls hl => ?_)
  obtain ⟨e7, hq, hm⟩ := gk_bd1_some hm
  refine w_X2_asSets_L5 C hq (fun H locs ls h hl => ?_) ⟨hP, hD, hS⟩ (lv_sub hl [2, 3, 1, 0] rfl)
  obtain ⟨hP, hD, hS⟩ := h
  refine lv_lload_n hx hb dX2_asSets_59 rfl (lv_at hl 0 rfl) ?_
  rw [kr _ (Option.some.inj hm).symm]
  exact gk_lret C ⟨hP, hD, hS⟩ dX2_asSets_60
def m_X2_asSets (f_size : Int32) (f_values : (Nat → Int64)) (x1 : Int32) : Option (Int64) := m_X2_asSets_0 f_size f_values x1
theorem c_X2_asSets (l : Launch) (G : gk_G) (a0 a1 : Nat) (f_sort : Int32) (f_size : Int32) (f_values : (Nat → Int64)) (x1 : Int32) {rv : Int64} (hm : m_X2_asSets f_size f_values x1 = some rv) : gk_M l yX2_asSets wsX2_asSets rm_X2_asSets false G [.ref a0, .int x1] [(a0, .inr (1, [.int f_sort, .int f_size, .ref a1])), (a1, gk_J G 80 f_values)] (some (.long rv)) [(a0, .inr (1, [.int f_sort, .int f_size, .ref a1])), (a1, gk_J G 80 f_values)] :=
  gk_of (by decide) rfl (Nat.le_of_ble_eq_true rfl) (fun p e s m below meth c A ls C h hl => w_X2_asSets_0 C hm (fun v0 ez => by cases ez; rfl) h (show lv_has ls 5 [(0, .ref a0), (1, .int x1)] from hl))

/-! ===== ExchangeFamilies.Numbers.becomeMembers(JI)V ===== -/
abbrev rm_X2_becomeMembers : Room := { frames := 5, cells := 0, slots := 0, locals := 238 }
theorem k_X2_becomeMembers_0 : ∀ w ∈ u_ws RX2 TX2 3, w ∈ wsX2_becomeMembers := by decide +kernel
theorem k_X2_becomeMembers_1 : Cond.fieldLink RX2 15 "ExchangeFamilies$Numbers" "size" "I" ∈ wsX2_becomeMembers := by decide +kernel
def m_X2_becomeMembers_B15 (f_sort : Int32) (f_size : Int32) (x1 : Int64) (x4 : Int32) (x5 : Int32) (f_values : (Nat → Int64)) : Option ((Int32 × Int32 × (Nat → Int64)) ⊕ ((Nat → Int64))) := (if (64 : Int32) ≤ x5 then some (.inr f_values) else (if f_size ≤ x4 then some (.inr f_values) else gk_bd1 (m_X0_holds x1 x5) (fun r10 => (if r10 = (0 : Int32) then some (.inl (x4, x5 + 1, f_values)) else gk_bd1 (m_X2_write f_sort f_values x4 x5.toInt64) (fun r12 => some (.inl (x4 + 1, x5 + 1, r12)))))))
set_option maxRecDepth 100000 in
set_option maxHeartbeats 4000000 in
theorem w_X2_becomeMembers_B15 {p : Program} {l : Launch} {e : Env} {s : State} {m : MethodId} {args : Array Value} {below : List Frame} {meth : Method} {c : Code} {G : gk_G} {A : Nat → Prop} {Q : State → Prop} {a0 a1 : Nat} (C : gk_C p s m args meth c cX2_becomeMembers 6 none yX2_becomeMembers wsX2_becomeMembers false G A) {f_sort : Int32} {f_size : Int32} {x1 : Int64} {x4 : Int32} {x5 : Int32} {f_values : (Nat → Int64)} {yy : (Int32 × Int32 × (Nat → Int64)) ⊕ ((Nat → Int64))} (hm : m_X2_becomeMembers_B15 f_sort f_size x1 x4 x5 f_values = some yy) (kl : ∀ (x4 : Int32) (x5 : Int32) (f_values : (Nat → Int64)), yy = .inl (x4, x5, f_values) → ∀ (H : Heap) (locs : List Loc) (ls : Array Slot), gk_H G A s [(a0, .inr (1, [.int f_sort, .int f_size, .ref a1])), (a1, gk_J G 80 f_values)] H locs → lv_has ls 6 [(0, .ref a0), (1, .long x1), (4, .int x4), (5, .int x5)] → W p l e rm_X2_becomeMembers s m args below meth c H locs 0 0 Q (F0 m 15 ls [])) (kx : ∀ (f_values : (Nat → Int64)), yy = .inr f_values → ∀ (H : Heap) (locs : List Loc) (ls : Array Slot), gk_H G A s [(a0, .inr (1, [.int f_sort, .int f_size, .ref a1])), (a1, gk_J G 80 f_values)] H locs → lv_has ls 6 [] → W p l e rm_X2_becomeMembers s m args below meth c H locs 0 0 Q (F0 m 58 ls [])) {H : Heap} {locs : List Loc} {ls : Array Slot} (h : gk_H G A s [(a0, .inr (1, [.int f_sort, .int f_size, .ref a1])), (a1, gk_J G 80 f_values)] H locs) (hl : lv_has ls 6 [(0, .ref a0), (1, .long x1), (4, .int x4), (5, .int x5)]) : W p l e rm_X2_becomeMembers s m args below meth c H locs 0 0 Q (F0 m 15 ls []) := by
  obtain ⟨hx, hb, hml, hr, hown, hnm, hts, hlk, hK, hSt, hA⟩ := id C
  obtain ⟨hP, hD, hS⟩ := h
  unfold m_X2_becomeMembers_B15 at hm
  refine lv_iload hx hb dX2_becomeMembers_15 (lv_at hl 3 rfl) ?_
  refine lv_bipush (v := 64) hx hb dX2_becomeMembers_17 (by decide) ?_
  refine lv_icmp_ge (tgt := 58) hx hb dX2_becomeMembers_19 (by decide) (fun c8 => ?_) (fun c8 => ?_)
  · have hm := gk_it c8 hm
    exact kx _ (Option.some.inj hm).symm _ _ _ ⟨hP, hD, hS⟩ (lv_sub hl [] rfl)
  · have hm := gk_if c8 hm
    refine lv_iload hx hb dX2_becomeMembers_22 (lv_at hl 2 rfl) ?_
    refine lv_aload_n hx hb dX2_becomeMembers_24 rfl (lv_at hl 0 rfl) ?_
    refine va_get (D := G.1) (cl := vwCl) (own := RX2) (ref := "ExchangeFamilies$Numbers") (ci := 1) (v := .int f_size) (C := RX2) (T := TX2) (N := 3) hx hb hts k_X2_becomeMembers_0 hown hK hP 0 rfl rfl 1 (by decide) (hts _ k_X2_becomeMembers_1) (fun _ h9 => h9) rfl dX2_becomeMembers_25 ?_
    refine lv_icmp_ge (tgt := 58) hx hb dX2_becomeMembers_28 (by decide) (fun c9 => ?_) (fun c9 => ?_)
    · have hm := gk_it c9 hm
      exact kx _ (Option.some.inj hm).symm _ _ _ ⟨hP, hD, hS⟩ (lv_sub hl [] rfl)
    · have hm := gk_if c9 hm
      refine lv_lload_n hx hb dX2_becomeMembers_31 rfl (lv_at hl 1 rfl) ?_
      refine lv_iload hx hb dX2_becomeMembers_32 (lv_at hl 3 rfl) ?_
      obtain ⟨r10, hq, hm⟩ := gk_bd1_some hm
      refine gk_callS (n := 2) (bytes := cX0_holds) (maxL := 3) (ret := (some .boolean)) [(a0, .inr (1, [.int f_sort, .int f_size, .ref a1])), (a1, gk_J G 80 f_values)] [(a0, .inr (1, [.int f_sort, .int f_size, .ref a1])), (a1, gk_J G 80 f_values)] [] C ⟨hP, hD, hS⟩ (c_X0_holds l G x1 x5 hq) gX2_becomeMembers_X0_holds dX2_becomeMembers_34 hl.1 [] [0, 1] [0, 1] rfl ⟨rfl, rfl⟩ ⟨Nat.le_of_ble_eq_true rfl, Nat.le_of_ble_eq_true rfl⟩ ⟨by decide +kernel, by decide +kernel, by decide +kernel⟩ rfl (fun h => by cases h) (Nat.le_of_ble_eq_true rfl) rfl rfl rfl rfl (by decide) rfl rfl (fun H locs h => ?_)
      obtain ⟨hP, hD, hS⟩ := h
      refine lv_if_eq (tgt := 52) hx hb dX2_becomeMembers_37 (by decide) (fun c11 => ?_) (fun c11 => ?_)
      · have hm := gk_it c11 hm
        refine lv_iinc (v := x5 + 1) (lv' := [(5, .int (x5 + 1)), (0, .ref a0), (1, .long x1), (4, .int x4)]) hx hb dX2_becomeMembers_52 hl (k := 3) rfl rfl (by decide) rfl (fun ls hl => ?_)
        refine lv_goto (tgt := 15) hx hb dX2_becomeMembers_55 (by decide) ?_
        exact kl _ _ _ (Option.some.inj hm).symm _ _ _ ⟨hP, hD, hS⟩ (lv_sub hl [1, 2, 3, 0] rfl)
      · have hm := gk_if c11 hm
        refine lv_aload_n hx hb dX2_becomeMembers_40 rfl (lv_at hl 0 rfl) ?_
        refine lv_iload hx hb dX2_becomeMembers_41 (lv_at hl 2 rfl) ?_
        refine lv_iload hx hb dX2_becomeMembers_43 (lv_at hl 3 rfl) ?_
        refine lv_i2l hx hb dX2_becomeMembers_45 rfl ?_
        obtain ⟨r12, hq, hm⟩ := gk_bd1_some hm
        refine gk_callV (n := 2) (bytes := cX2_write) (maxL := 4) (ret := none) (Cn := RX2) (T := TX2) (N := 3) [] [(a0, .inr (1, [.int f_sort, .int f_size, .ref a1])), (a1, gk_J G 80 r12)] [] C ⟨hP, hD, hS⟩ (c_X2_write l G a0 a1 f_sort f_size f_values x4 x5.toInt64 hq) gX2_becomeMembers_X2_write dX2_becomeMembers_46 hl.1 [0, 1] [] [0, 1] rfl rfl ⟨rfl, rfl⟩ ⟨Nat.le_of_ble_eq_true rfl, Nat.le_of_ble_eq_true rfl⟩ ⟨rfl, by decide +kernel, by decide +kernel, by decide +kernel⟩ rfl (fun h => by cases h) (Nat.le_of_ble_eq_true rfl) rfl rfl rfl rfl (by decide) rfl rfl (fun H locs h => ?_)
        obtain ⟨hP, hD, hS⟩ := h
        refine lv_iinc (v := x4 + 1) (lv' := [(4, .int (x4 + 1)), (0, .ref a0), (1, .long x1), (5, .int x5)]) hx hb dX2_becomeMembers_49 hl (k := 2) rfl rfl (by decide) rfl (fun ls hl => ?_)
        refine lv_iinc (v := x5 + 1) (lv' := [(5, .int (x5 + 1)), (4, .int (x4 + 1)), (0, .ref a0), (1, .long x1)]) hx hb dX2_becomeMembers_52 hl (k := 3) rfl rfl (by decide) rfl (fun ls hl => ?_)
        refine lv_goto (tgt := 15) hx hb dX2_becomeMembers_55 (by decide) ?_
        exact kl _ _ _ (Option.some.inj hm).symm _ _ _ ⟨hP, hD, hS⟩ (lv_sub hl [2, 3, 1, 0] rfl)
set_option maxRecDepth 100000 in
set_option maxHeartbeats 4000000 in
theorem w_X2_becomeMembers_L15 {p : Program} {l : Launch} {e : Env} {s : State} {m : MethodId} {args : Array Value} {below : List Frame} {meth : Method} {c : Code} {G : gk_G} {A : Nat → Prop} {Q : State → Prop} {a0 a1 : Nat} (C : gk_C p s m args meth c cX2_becomeMembers 6 none yX2_becomeMembers wsX2_becomeMembers false G A) {f_sort : Int32} {f_size : Int32} {x1 : Int64} {x4 : Int32} {x5 : Int32} {f_values : (Nat → Int64)} {k : Nat} {e_f_values : (Nat → Int64)} (hm : gk_lp (fun z => m_X2_becomeMembers_B15 f_sort f_size x1 z.1 z.2.1 z.2.2) k (x4, x5, f_values) = some e_f_values) (kx : ∀ (H : Heap) (locs : List Loc) (ls : Array Slot), gk_H G A s [(a0, .inr (1, [.int f_sort, .int f_size, .ref a1])), (a1, gk_J G 80 e_f_values)] H locs → lv_has ls 6 [] → W p l e rm_X2_becomeMembers s m args below meth c H locs 0 0 Q (F0 m 58 ls [])) {H : Heap} {locs : List Loc} {ls : Array Slot} (h : gk_H G A s [(a0, .inr (1, [.int f_sort, .int f_size, .ref a1])), (a1, gk_J G 80 f_values)] H locs) (hl : lv_has ls 6 [(0, .ref a0), (1, .long x1), (4, .int x4), (5, .int x5)]) : W p l e rm_X2_becomeMembers s m args below meth c H locs 0 0 Q (F0 m 15 ls []) :=
  gk_lp_some (P := fun z => ∀ (H : Heap) (locs : List Loc) (ls : Array Slot), gk_H G A s [(a0, .inr (1, [.int f_sort, .int f_size, .ref a1])), (a1, gk_J G 80 z.2.2)] H locs → lv_has ls 6 [(0, .ref a0), (1, .long x1), (4, .int z.1), (5, .int z.2.1)] → W p l e rm_X2_becomeMembers s m args below meth c H locs 0 0 Q (F0 m 15 ls [])) (E := fun r => (∀ (f_values : (Nat → Int64)), r = f_values → ∀ (H : Heap) (locs : List Loc) (ls : Array Slot), gk_H G A s [(a0, .inr (1, [.int f_sort, .int f_size, .ref a1])), (a1, gk_J G 80 f_values)] H locs → lv_has ls 6 [] → W p l e rm_X2_becomeMembers s m args below meth c H locs 0 0 Q (F0 m 58 ls []))) (fun z x hf kl ke H locs ls h hl => w_X2_becomeMembers_B15 C hf (fun v0 v1 v2 ez => kl (v0, v1, v2) ez) (fun v0 ez => ke _ ez v0 rfl) h hl) k (x4, x5, f_values) _ hm (fun v0 ez => (by cases ez; exact kx)) _ _ _ h hl
def m_X2_becomeMembers_0 (f_sort : Int32) (f_size : Int32) (f_values : (Nat → Int64)) (x1 : Int64) (x3 : Int32) : Option (Int32 × Int32 × (Nat → Int64)) := gk_bd1 (m_J13_bitCount_95d88 x1) (fun r4 => gk_bd3 (m_X2_begin f_sort f_size f_values x3 r4) (fun r5 r6 r7 => gk_bd1 (gk_lp (fun z => m_X2_becomeMembers_B15 r5 r6 x1 z.1 z.2.1 z.2.2) gk_fu ((0 : Int32), (0 : Int32), r7)) (fun e13 => some (r5, r6, e13))))
set_option maxRecDepth 100000 in
set_option maxHeartbeats 4000000 in
theorem w_X2_becomeMembers_0 {p : Program} {l : Launch} {e : Env} {s : State} {m : MethodId} {args : Array Value} {below : List Frame} {meth : Method} {c : Code} {G : gk_G} {A : Nat → Prop} {Q : State → Prop} {a0 a1 : Nat} (C : gk_C p s m args meth c cX2_becomeMembers 6 none yX2_becomeMembers wsX2_becomeMembers false G A) {f_sort : Int32} {f_size : Int32} {f_values : (Nat → Int64)} {x1 : Int64} {x3 : Int32} {yy : Int32 × Int32 × (Nat → Int64)} (hm : m_X2_becomeMembers_0 f_sort f_size f_values x1 x3 = some yy) (kr : ∀ (g_sort : Int32) (g_size : Int32) (g_values : (Nat → Int64)), yy = (g_sort, g_size, g_values) → Q = MQ below (gk_Q G none [(a0, .inr (1, [.int g_sort, .int g_size, .ref a1])), (a1, gk_J G 80 g_values)] A) args s 0 0 A) {H : Heap} {locs : List Loc} {ls : Array Slot} (h : gk_H G A s [(a0, .inr (1, [.int f_sort, .int f_size, .ref a1])), (a1, gk_J G 80 f_values)] H locs) (hl : lv_has ls 6 [(0, .ref a0), (1, .long x1), (3, .int x3)]) : W p l e rm_X2_becomeMembers s m args below meth c H locs 0 0 Q (F0 m 0 ls []) := by
  obtain ⟨hx, hb, hml, hr, hown, hnm, hts, hlk, hK, hSt, hA⟩ := id C
  obtain ⟨hP, hD, hS⟩ := h
  unfold m_X2_becomeMembers_0 at hm
  refine lv_aload_n hx hb dX2_becomeMembers_0 rfl (lv_at hl 0 rfl) ?_
  refine lv_iload_n hx hb dX2_becomeMembers_1 rfl (lv_at hl 2 rfl) ?_
  refine lv_lload_n hx hb dX2_becomeMembers_2 rfl (lv_at hl 1 rfl) ?_
  obtain ⟨r4, hq, hm⟩ := gk_bd1_some hm
  refine gk_callS (n := 1) (bytes := cJ13_bitCount_95d88) (maxL := 2) (ret := (some .int)) [(a0, .inr (1, [.int f_sort, .int f_size, .ref a1])), (a1, gk_J G 80 f_values)] [(a0, .inr (1, [.int f_sort, .int f_size, .ref a1])), (a1, gk_J G 80 f_values)] [.int x3, .ref a0] C ⟨hP, hD, hS⟩ (c_J13_bitCount_95d88 l G x1 hq) gX2_becomeMembers_J13_bitCount_95d88 dX2_becomeMembers_3 hl.1 [] [0, 1] [0, 1] rfl ⟨rfl, rfl⟩ ⟨Nat.le_of_ble_eq_true rfl, Nat.le_of_ble_eq_true rfl⟩ ⟨by decide +kernel, by decide +kernel, by decide +kernel⟩ rfl (fun h => by cases h) (Nat.le_of_ble_eq_true rfl) rfl rfl rfl rfl (by decide) rfl rfl (fun H locs h => ?_)
  obtain ⟨hP, hD, hS⟩ := h
  obtain ⟨r5, r6, r7, hq, hm⟩ := gk_bd3_some hm
  refine gk_callV (n := 2) (bytes := cX2_begin) (maxL := 3) (ret := none) (Cn := RX2) (T := TX2) (N := 3) [] [(a0, .inr (1, [.int r5, .int r6, .ref a1])), (a1, gk_J G 80 r7)] [] C ⟨hP, hD, hS⟩ (c_X2_begin l G a0 a1 f_sort f_size f_values x3 r4 hq) gX2_becomeMembers_X2_begin dX2_becomeMembers_6 hl.1 [0, 1] [] [0, 1] rfl rfl ⟨rfl, rfl⟩ ⟨Nat.le_of_ble_eq_true rfl, Nat.le_of_ble_eq_true rfl⟩ ⟨rfl, by decide +kernel, by decide +kernel, by decide +kernel⟩ rfl (fun h => by cases h) (Nat.le_of_ble_eq_true rfl) rfl rfl rfl rfl (by decide) rfl rfl (fun H locs h => ?_)
  obtain ⟨hP, hD, hS⟩ := h
  refine lv_iconst (v := 0) hx hb dX2_becomeMembers_9 (by decide) ?_
  refine lv_istore (lv' := [(4, .int (0 : Int32)), (0, .ref a0), (1, .long x1), (3, .int x3)]) hx hb dX2_becomeMembers_10 hl (by decide) rfl (fun ls hl => ?_)
  refine lv_iconst (v := 0) hx hb dX2_becomeMembers_12 (by decide) ?_
  refine lv_istore (lv' := [(5, .int (0 : Int32)), (4, .int (0 : Int32)), (0, .ref a0), (1, .long x1), (3, .int x3)]) hx hb dX2_becomeMembers_13 hl (by decide) rfl (fun ls hl => ?_)
  obtain ⟨e13, hq, hm⟩ := gk_bd1_some hm
  refine w_X2_becomeMembers_L15 C hq (fun H locs ls h hl => ?_) ⟨hP, hD, hS⟩ (lv_sub hl [2, 3, 1, 0] rfl)
  obtain ⟨hP, hD, hS⟩ := h
  rw [kr _ _ _ (Option.some.inj hm).symm]
  exact gk_vret C ⟨hP, hD, hS⟩ dX2_becomeMembers_58
def m_X2_becomeMembers (f_sort : Int32) (f_size : Int32) (f_values : (Nat → Int64)) (x1 : Int64) (x3 : Int32) : Option (Int32 × Int32 × (Nat → Int64)) := m_X2_becomeMembers_0 f_sort f_size f_values x1 x3
theorem c_X2_becomeMembers (l : Launch) (G : gk_G) (a0 a1 : Nat) (f_sort : Int32) (f_size : Int32) (f_values : (Nat → Int64)) (x1 : Int64) (x3 : Int32) {g_sort : Int32} {g_size : Int32} {g_values : (Nat → Int64)} (hm : m_X2_becomeMembers f_sort f_size f_values x1 x3 = some (g_sort, g_size, g_values)) : gk_M l yX2_becomeMembers wsX2_becomeMembers rm_X2_becomeMembers false G [.ref a0, .long x1, .int x3] [(a0, .inr (1, [.int f_sort, .int f_size, .ref a1])), (a1, gk_J G 80 f_values)] none [(a0, .inr (1, [.int g_sort, .int g_size, .ref a1])), (a1, gk_J G 80 g_values)] :=
  gk_of (by decide) rfl (Nat.le_of_ble_eq_true rfl) (fun p e s m below meth c A ls C h hl => w_X2_becomeMembers_0 C hm (fun v0 v1 v2 ez => by cases ez; rfl) h (show lv_has ls 6 [(0, .ref a0), (1, .long x1), (3, .int x3)] from hl))

