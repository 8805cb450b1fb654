/-! ===== ExchangeFamilies.weight(II)I ===== -/
abbrev rm_X5_weight : Room := { frames := 3, cells := 0, slots := 0, locals := 149 }
theorem k_X5_weight_0 : ∀ w ∈ u_ws RX5 TX5 6, w ∈ wsX5_weight := by decide +kernel
theorem k_X5_weight_1 : Cond.fieldLink RX5 12 "ExchangeFamilies" "now" "LExchangeFamilies$Ground;" ∈ wsX5_weight := by decide +kernel
theorem k_X5_weight_2 : ∀ w ∈ u_ws RX1 TX1 5, w ∈ wsX5_weight := by decide +kernel
theorem k_X5_weight_3 : Cond.fieldLink RX5 159 "ExchangeFamilies$Ground" "weights" "[I" ∈ wsX5_weight := by decide +kernel
def m_X5_weight_0 (f_now_n : Int32) (f_now_weights : (Nat → Int32)) (x1 : Int32) (x2 : Int32) : Option (Int32 × (Nat → Int32)) := gk_bd1 (m_X5_noPoint f_now_n x1) (fun r4 => (if r4 = (0 : Int32) then (if x2 < (-99 : Int32) then some ((-1000 : Int32), f_now_weights) else (if x2 ≤ (99 : Int32) then gk_ix x1 6 (gk_ix x1 6 (some (f_now_weights x1.toNatClampNeg, upd f_now_weights x1.toNatClampNeg x2))) else some ((-1000 : Int32), f_now_weights))) else some ((-1000 : Int32), f_now_weights)))
set_option maxRecDepth 100000 in
set_option maxHeartbeats 4000000 in
theorem w_X5_weight_0 {p : Program} {l : Launch} {e : Env} {s : State} {m : MethodId} {args : Array Value} {below : List Frame} {meth : Method} {c : Code} {G : gk_G} {A : Nat → Prop} {Q : State → Prop} {a0 a1 a2 a3 a4 a5 a7 a13 a15 a18 : Nat} (C : gk_C p s m args meth c cX5_weight 4 (some .int) yX5_weight wsX5_weight false G A) {f_now_n : Int32} {f_now_weights : (Nat → Int32)} {x1 : Int32} {x2 : Int32} {f_isKept : Int32} {yy : Int32 × (Nat → Int32)} (hm : m_X5_weight_0 f_now_n f_now_weights x1 x2 = some yy) (kr : ∀ (rv : Int32) (g_now_weights : (Nat → Int32)), yy = (rv, g_now_weights) → Q = MQ below (gk_Q G (some (.int rv)) [(a0, .inr (4, [.ref a1, .ref a7, .int f_isKept, .ref a13, .ref a15, .ref a18])), (a1, .inr (0, [.int f_now_n, .ref a2, .ref a3, .ref a4, .ref a5])), (a4, gk_I G 6 g_now_weights)] A) args s 0 0 A) {H : Heap} {locs : List Loc} {ls : Array Slot} (h : gk_H G A s [(a0, .inr (4, [.ref a1, .ref a7, .int f_isKept, .ref a13, .ref a15, .ref a18])), (a1, .inr (0, [.int f_now_n, .ref a2, .ref a3, .ref a4, .ref a5])), (a4, gk_I G 6 f_now_weights)] H locs) (hl : lv_has ls 4 [(0, .ref a0), (1, .int x1), (2, .int x2)]) : W p l e rm_X5_weight s m args below meth c H locs 0 0 Q (F0 m 0 ls []) := by
  obtain ⟨hx, hb, hml, hr, hown, hnm, hts, hlk, hK, hSt, hA⟩ := id C
  obtain ⟨hP, hD, hS⟩ := h
  unfold m_X5_weight_0 at hm
  refine lv_aload_n hx hb dX5_weight_0 rfl (lv_at hl 0 rfl) ?_
  refine lv_iload_n hx hb dX5_weight_1 rfl (lv_at hl 1 rfl) ?_
  obtain ⟨r4, hq, hm⟩ := gk_bd1_some hm
  refine gk_callV (n := 1) (bytes := cX5_noPoint) (maxL := 2) (ret := (some .boolean)) (Cn := RX5) (T := TX5) (N := 6) [(a4, gk_I G 6 f_now_weights)] [(a0, .inr (4, [.ref a1, .ref a7, .int f_isKept, .ref a13, .ref a15, .ref a18])), (a1, .inr (0, [.int f_now_n, .ref a2, .ref a3, .ref a4, .ref a5])), (a4, gk_I G 6 f_now_weights)] [] C ⟨hP, hD, hS⟩ (c_X5_noPoint l G a0 a1 a2 a3 a4 a5 a7 a13 a15 a18 f_isKept f_now_n x1 hq) gX5_weight_X5_noPoint dX5_weight_2 hl.1 [0, 1] [2] [1, 2, 0] rfl rfl ⟨rfl, rfl⟩ ⟨Nat.le_of_ble_eq_true rfl, Nat.le_of_ble_eq_true rfl⟩ ⟨rfl, by decide +kernel, by decide +kernel, by decide +kernel⟩ rfl (fun h => by cases h) (Nat.le_of_ble_eq_true rfl) rfl rfl rfl rfl (by decide) rfl rfl (fun H locs h => ?_)
  obtain ⟨hP, hD, hS⟩ := h
  refine lv_if_ne (tgt := 20) hx hb dX5_weight_5 (by decide) (fun c5 => ?_) (fun c5 => ?_)
  · have hm := gk_if c5 hm
    refine lv_sipush (v := -1000) hx hb dX5_weight_20 (by decide) ?_
    rw [kr _ _ (Option.some.inj hm).symm]
    exact gk_iret C ⟨hP, hD, hS⟩ dX5_weight_23
  · have hm := gk_it c5 hm
    refine lv_iload_n hx hb dX5_weight_8 rfl (lv_at hl 2 rfl) ?_
    refine lv_bipush (v := -99) hx hb dX5_weight_9 (by decide) ?_
    refine lv_icmp_lt (tgt := 20) hx hb dX5_weight_11 (by decide) (fun c6 => ?_) (fun c6 => ?_)
    · have hm := gk_it c6 hm
      refine lv_sipush (v := -1000) hx hb dX5_weight_20 (by decide) ?_
      rw [kr _ _ (Option.some.inj hm).symm]
      exact gk_iret C ⟨hP, hD, hS⟩ dX5_weight_23
    · have hm := gk_if c6 hm
      refine lv_iload_n hx hb dX5_weight_14 rfl (lv_at hl 2 rfl) ?_
      refine lv_bipush (v := 99) hx hb dX5_weight_15 (by decide) ?_
      refine lv_icmp_le (tgt := 24) hx hb dX5_weight_17 (by decide) (fun c7 => ?_) (fun c7 => ?_)
      · have hm := gk_it c7 hm
        refine lv_aload_n hx hb dX5_weight_24 rfl (lv_at hl 0 rfl) ?_
        refine va_get (D := G.1) (cl := vwCl) (own := RX5) (ref := "ExchangeFamilies") (ci := 4) (v := .ref a1) (C := RX5) (T := TX5) (N := 6) hx hb hts k_X5_weight_0 hown hK hP 0 rfl rfl 0 (by decide) (hts _ k_X5_weight_1) (fun _ h9 => h9) rfl dX5_weight_25 ?_
        refine va_get (D := G.1) (cl := vwCl) (own := RX5) (ref := "ExchangeFamilies$Ground") (ci := 0) (v := .ref a4) (C := RX1) (T := TX1) (N := 5) hx hb hts k_X5_weight_2 hown hK hP 1 rfl rfl 3 (by decide) (hts _ k_X5_weight_3) (fun _ h9 => h9) rfl dX5_weight_28 ?_
        refine lv_iload_n hx hb dX5_weight_31 rfl (lv_at hl 1 rfl) ?_
        obtain ⟨hi, hm⟩ := gk_ix_some hm
        refine va_iald hx hb hK hP 2 0 rfl rfl hi dX5_weight_32 ?_
        refine lv_istore_n (lv' := [(3, .int (f_now_weights x1.toNatClampNeg)), (0, .ref a0), (1, .int x1), (2, .int x2)]) hx hb dX5_weight_33 rfl hl (by decide) rfl (fun ls hl => ?_)
        refine lv_aload_n hx hb dX5_weight_34 rfl (lv_at hl 1 rfl) ?_
        refine va_get (D := G.1) (cl := vwCl) (own := RX5) (ref := "ExchangeFamilies") (ci := 4) (v := .ref a1) (C := RX5) (T := TX5) (N := 6) hx hb hts k_X5_weight_0 hown hK hP 0 rfl rfl 0 (by decide) (hts _ k_X5_weight_1) (fun _ h9 => h9) rfl dX5_weight_35 ?_
        refine va_get (D := G.1) (cl := vwCl) (own := RX5) (ref := "ExchangeFamilies$Ground") (ci := 0) (v := .ref a4) (C := RX1) (T := TX1) (N := 5) hx hb hts k_X5_weight_2 hown hK hP 1 rfl rfl 3 (by decide) (hts _ k_X5_weight_3) (fun _ h9 => h9) rfl dX5_weight_38 ?_
        refine lv_iload_n hx hb dX5_weight_41 rfl (lv_at hl 2 rfl) ?_
        refine lv_iload_n hx hb dX5_weight_42 rfl (lv_at hl 3 rfl) ?_
        obtain ⟨hi, hm⟩ := gk_ix_some hm
        refine va_iast hx hb hK hP hD hS 2 0 rfl rfl hi dX5_weight_43 (fun H locs hP hD hS => ?_)
        have hP : va_P G.1 vwCl [(a0, .inr (4, [.ref a1, .ref a7, .int f_isKept, .ref a13, .ref a15, .ref a18])), (a1, .inr (0, [.int f_now_n, .ref a2, .ref a3, .ref a4, .ref a5])), (a4, gk_I G 6 (upd f_now_weights x1.toNatClampNeg x2))] H := hP
        have hD : va_D A [(a0, .inr (4, [.ref a1, .ref a7, .int f_isKept, .ref a13, .ref a15, .ref a18])), (a1, .inr (0, [.int f_now_n, .ref a2, .ref a3, .ref a4, .ref a5])), (a4, gk_I G 6 (upd f_now_weights x1.toNatClampNeg x2))] := hD
        refine lv_iload_n hx hb dX5_weight_44 rfl (lv_at hl 0 rfl) ?_
        rw [kr _ _ (Option.some.inj hm).symm]
        exact gk_iret C ⟨hP, hD, hS⟩ dX5_weight_45
      · have hm := gk_if c7 hm
        refine lv_sipush (v := -1000) hx hb dX5_weight_20 (by decide) ?_
        rw [kr _ _ (Option.some.inj hm).symm]
        exact gk_iret C ⟨hP, hD, hS⟩ dX5_weight_23
def m_X5_weight (f_now_n : Int32) (f_now_weights : (Nat → Int32)) (x1 : Int32) (x2 : Int32) : Option (Int32 × (Nat → Int32)) := m_X5_weight_0 f_now_n f_now_weights x1 x2
theorem c_X5_weight (l : Launch) (G : gk_G) (a0 a1 a2 a3 a4 a5 a7 a13 a15 a18 : Nat) (f_isKept : Int32) (f_now_n : Int32) (f_now_weights : (Nat → Int32)) (x1 : Int32) (x2 : Int32) {rv : Int32} {g_now_weights : (Nat → Int32)} (hm : m_X5_weight f_now_n f_now_weights x1 x2 = some (rv, g_now_weights)) : gk_M l yX5_weight wsX5_weight rm_X5_weight false G [.ref a0, .int x1, .int x2] [(a0, .inr (4, [.ref a1, .ref a7, .int f_isKept, .ref a13, .ref a15, .ref a18])), (a1, .inr (0, [.int f_now_n, .ref a2, .ref a3, .ref a4, .ref a5])), (a4, gk_I G 6 f_now_weights)] (some (.int rv)) [(a0, .inr (4, [.ref a1, .ref a7, .int f_isKept, .ref a13, .ref a15, .ref a18])), (a1, .inr (0, [.int f_now_n, .ref a2, .ref a3, .ref a4, .ref a5])), (a4, gk_I G 6 g_now_weights)] :=
  gk_of (by decide) rfl (Nat.le_of_ble_eq_true rfl) (fun p e s m below meth c A ls C h hl => w_X5_weight_0 C hm (fun v0 v1 ez => by cases ez; rfl) h (show lv_has ls 4 [(0, .ref a0), (1, .int x1), (2, .int x2)] from hl))

/-! ===== ExchangeFamilies.weighs(I)I ===== -/
abbrev rm_X5_weighs : Room := { frames := 3, cells := 0, slots := 0, locals := 151 }
theorem k_X5_weighs_0 : ∀ w ∈ u_ws RX5 TX5 6, w ∈ wsX5_weighs := by decide +kernel
theorem k_X5_weighs_1 : Cond.fieldLink RX5 12 "ExchangeFamilies" "now" "LExchangeFamilies$Ground;" ∈ wsX5_weighs := by decide +kernel
def m_X5_weighs_0 (f_now_n : Int32) (f_now_weights : (Nat → Int32)) (x1 : Int32) : Option (Int32) := gk_bd1 (m_X5_noSet f_now_n x1) (fun r2 => (if r2 = (0 : Int32) then gk_bd1 (m_X1_weightOf f_now_n f_now_weights x1) (fun r4 => some r4) else some (-1000 : Int32)))
set_option maxRecDepth 100000 in
set_option maxHeartbeats 4000000 in
theorem w_X5_weighs_0 {p : Program} {l : Launch} {e : Env} {s : State} {m : MethodId} {args : Array Value} {below : List Frame} {meth : Method} {c : Code} {G : gk_G} {A : Nat → Prop} {Q : State → Prop} {a0 a1 a2 a3 a4 a5 a7 a13 a15 a18 : Nat} (C : gk_C p s m args meth c cX5_weighs 2 (some .int) yX5_weighs wsX5_weighs false G A) {f_now_n : Int32} {f_now_weights : (Nat → Int32)} {x1 : Int32} {f_isKept : Int32} {yy : Int32} (hm : m_X5_weighs_0 f_now_n f_now_weights x1 = some yy) (kr : ∀ (rv : Int32), yy = rv → Q = MQ below (gk_Q G (some (.int rv)) [(a0, .inr (4, [.ref a1, .ref a7, .int f_isKept, .ref a13, .ref a15, .ref a18])), (a1, .inr (0, [.int f_now_n, .ref a2, .ref a3, .ref a4, .ref a5])), (a4, gk_I G 6 f_now_weights)] A) args s 0 0 A) {H : Heap} {locs : List Loc} {ls : Array Slot} (h : gk_H G A s [(a0, .inr (4, [.ref a1, .ref a7, .int f_isKept, .ref a13, .ref a15, .ref a18])), (a1, .inr (0, [.int f_now_n, .ref a2, .ref a3, .ref a4, .ref a5])), (a4, gk_I G 6 f_now_weights)] H locs) (hl : lv_has ls 2 [(0, .ref a0), (1, .int x1)]) : W p l e rm_X5_weighs s m args below meth c H locs 0 0 Q (F0 m 0 ls []) := by
  obtain ⟨hx, hb, hml, hr, hown, hnm, hts, hlk, hK, hSt, hA⟩ := id C
  obtain ⟨hP, hD, hS⟩ := h
  unfold m_X5_weighs_0 at hm
  refine lv_aload_n hx hb dX5_weighs_0 rfl (lv_at hl 0 rfl) ?_
  refine lv_iload_n hx hb dX5_weighs_1 rfl (lv_at hl 1 rfl) ?_
  obtain ⟨r2, hq, hm⟩ := gk_bd1_some hm
  refine gk_callV (n := 1) (bytes := cX5_noSet) (maxL := 2) (ret := (some .boolean)) (Cn := RX5) (T := TX5) (N := 6) [(a4, gk_I G 6 f_now_weights)] [(a0, .inr (4, [.ref a1, .ref a7, .int f_isKept, .ref a13, .ref a15, .ref a18])), (a1, .inr (0, [.int f_now_n, .ref a2, .ref a3, .ref a4, .ref a5])), (a4, gk_I G 6 f_now_weights)] [] C ⟨hP, hD, hS⟩ (c_X5_noSet l G a0 a1 a2 a3 a4 a5 a7 a13 a15 a18 f_isKept f_now_n x1 hq) gX5_weighs_X5_noSet dX5_weighs_2 hl.1 [0, 1] [2] [1, 2, 0] rfl rfl ⟨rfl, rfl⟩ ⟨Nat.le_of_ble_eq_true rfl, Nat.le_of_ble_eq_true rfl⟩ ⟨rfl, by decide +kernel, by decide +kernel, by decide +kernel⟩ rfl (fun h => by cases h) (Nat.le_of_ble_eq_true rfl) rfl rfl rfl rfl (by decide) rfl rfl (fun H locs h => ?_)
  obtain ⟨hP, hD, hS⟩ := h
  refine lv_if_eq (tgt := 14) hx hb dX5_weighs_5 (by decide) (fun c3 => ?_) (fun c3 => ?_)
  · have hm := gk_it c3 hm
    refine lv_aload_n hx hb dX5_weighs_14 rfl (lv_at hl 0 rfl) ?_
    refine va_get (D := G.1) (cl := vwCl) (own := RX5) (ref := "ExchangeFamilies") (ci := 4) (v := .ref a1) (C := RX5) (T := TX5) (N := 6) hx hb hts k_X5_weighs_0 hown hK hP 0 rfl rfl 0 (by decide) (hts _ k_X5_weighs_1) (fun _ h9 => h9) rfl dX5_weighs_15 ?_
    refine lv_iload_n hx hb dX5_weighs_18 rfl (lv_at hl 1 rfl) ?_
    obtain ⟨r4, hq, hm⟩ := gk_bd1_some hm
    refine gk_callV (n := 1) (bytes := cX1_weightOf) (maxL := 4) (ret := (some .int)) (Cn := RX1) (T := TX1) (N := 5) [(a0, .inr (4, [.ref a1, .ref a7, .int f_isKept, .ref a13, .ref a15, .ref a18]))] [(a0, .inr (4, [.ref a1, .ref a7, .int f_isKept, .ref a13, .ref a15, .ref a18])), (a1, .inr (0, [.int f_now_n, .ref a2, .ref a3, .ref a4, .ref a5])), (a4, gk_I G 6 f_now_weights)] [] C ⟨hP, hD, hS⟩ (c_X1_weightOf l G a1 a2 a3 a4 a5 f_now_n f_now_weights x1 hq) gX5_weighs_X1_weightOf dX5_weighs_19 hl.1 [1, 2] [0] [0, 1, 2] rfl rfl ⟨rfl, rfl⟩ ⟨Nat.le_of_ble_eq_true rfl, Nat.le_of_ble_eq_true rfl⟩ ⟨rfl, by decide +kernel, by decide +kernel, by decide +kernel⟩ rfl (fun h => by cases h) (Nat.le_of_ble_eq_true rfl) rfl rfl rfl rfl (by decide) rfl rfl (fun H locs h => ?_)
    obtain ⟨hP, hD, hS⟩ := h
    rw [kr _ (Option.some.inj hm).symm]
    exact gk_iret C ⟨hP, hD, hS⟩ dX5_weighs_22
  · have hm := gk_if c3 hm
    refine lv_sipush (v := -1000) hx hb dX5_weighs_8 (by decide) ?_
    refine lv_goto (tgt := 22) hx hb dX5_weighs_11 (by decide) ?_
    rw [kr _ (Option.some.inj hm).symm]
    exact gk_iret C ⟨hP, hD, hS⟩ dX5_weighs_22
def m_X5_weighs (f_now_n : Int32) (f_now_weights : (Nat → Int32)) (x1 : Int32) : Option (Int32) := m_X5_weighs_0 f_now_n f_now_weights x1
theorem c_X5_weighs (l : Launch) (G : gk_G) (a0 a1 a2 a3 a4 a5 a7 a13 a15 a18 : Nat) (f_isKept : Int32) (f_now_n : Int32) (f_now_weights : (Nat → Int32)) (x1 : Int32) {rv : Int32} (hm : m_X5_weighs f_now_n f_now_weights x1 = some rv) : gk_M l yX5_weighs wsX5_weighs rm_X5_weighs false G [.ref a0, .int x1] [(a0, .inr (4, [.ref a1, .ref a7, .int f_isKept, .ref a13, .ref a15, .ref a18])), (a1, .inr (0, [.int f_now_n, .ref a2, .ref a3, .ref a4, .ref a5])), (a4, gk_I G 6 f_now_weights)] (some (.int rv)) [(a0, .inr (4, [.ref a1, .ref a7, .int f_isKept, .ref a13, .ref a15, .ref a18])), (a1, .inr (0, [.int f_now_n, .ref a2, .ref a3, .ref a4, .ref a5])), (a4, gk_I G 6 f_now_weights)] :=
  gk_of (by decide) rfl (Nat.le_of_ble_eq_true rfl) (fun p e s m below meth c A ls C h hl => w_X5_weighs_0 C hm (fun v0 ez => by cases ez; rfl) h (show lv_has ls 2 [(0, .ref a0), (1, .int x1)] from hl))

/-! ===== ExchangeFamilies.greed(I)I ===== -/
abbrev rm_X5_greed : Room := { frames := 5, cells := 0, slots := 0, locals := 250 }
theorem k_X5_greed_0 : ∀ w ∈ u_ws RX5 TX5 6, w ∈ wsX5_greed := by decide +kernel
theorem k_X5_greed_1 : Cond.fieldLink RX5 12 "ExchangeFamilies" "now" "LExchangeFamilies$Ground;" ∈ wsX5_greed := by decide +kernel
theorem k_X5_greed_2 : ∀ w ∈ u_ws RX1 TX1 5, w ∈ wsX5_greed := by decide +kernel
theorem k_X5_greed_3 : Cond.fieldLink RX5 61 "ExchangeFamilies$Ground" "members" "[J" ∈ wsX5_greed := by decide +kernel
def m_X5_greed_0 (f_now_n : Int32) (f_now_members : (Nat → Int64)) (f_now_kinds : (Nat → Int32)) (f_now_weights : (Nat → Int32)) (x1 : Int32) : Option (Int32) := gk_bd1 (m_X5_noFamily x1) (fun r3 => (if r3 = (0 : Int32) then gk_bd1 (m_X1_isMissing f_now_kinds x1) (fun r5 => (if r5 = (0 : Int32) then gk_ix x1 6 (gk_bd1 (m_X1_byGreed f_now_n f_now_weights (f_now_members x1.toNatClampNeg)) (fun r7 => some r7)) else some (-11 : Int32))) else some (-2 : Int32)))
set_option maxRecDepth 100000 in
set_option maxHeartbeats 4000000 in
theorem w_X5_greed_0 {p : Program} {l : Launch} {e : Env} {s : State} {m : MethodId} {args : Array Value} {below : List Frame} {meth : Method} {c : Code} {G : gk_G} {A : Nat → Prop} {Q : State → Prop} {a0 a1 a2 a3 a4 a5 a7 a13 a15 a18 : Nat} (C : gk_C p s m args meth c cX5_greed 2 (some .int) yX5_greed wsX5_greed true G A) {f_now_n : Int32} {f_now_members : (Nat → Int64)} {f_now_kinds : (Nat → Int32)} {f_now_weights : (Nat → Int32)} {x1 : Int32} {f_isKept : Int32} {yy : Int32} (hm : m_X5_greed_0 f_now_n f_now_members f_now_kinds f_now_weights x1 = some yy) (kr : ∀ (rv : Int32), yy = rv → Q = MQ below (gk_Q G (some (.int rv)) [(a0, .inr (4, [.ref a1, .ref a7, .int f_isKept, .ref a13, .ref a15, .ref a18])), (a1, .inr (0, [.int f_now_n, .ref a2, .ref a3, .ref a4, .ref a5])), (a2, gk_J G 6 f_now_members), (a3, gk_I G 6 f_now_kinds), (a4, gk_I G 6 f_now_weights)] A) args s 0 0 A) {H : Heap} {locs : List Loc} {ls : Array Slot} (h : gk_H G A s [(a0, .inr (4, [.ref a1, .ref a7, .int f_isKept, .ref a13, .ref a15, .ref a18])), (a1, .inr (0, [.int f_now_n, .ref a2, .ref a3, .ref a4, .ref a5])), (a2, gk_J G 6 f_now_members), (a3, gk_I G 6 f_now_kinds), (a4, gk_I G 6 f_now_weights)] H locs) (hl : lv_has ls 2 [(0, .ref a0), (1, .int x1)]) : W p l e rm_X5_greed s m args below meth c H locs 0 0 Q (F0 m 0 ls []) := by
  obtain ⟨hx, hb, hml, hr, hown, hnm, hts, hlk, hK, hSt, hA⟩ := id C
  obtain ⟨hP, hD, hS⟩ := h
  unfold m_X5_greed_0 at hm
  refine lv_iload_n hx hb dX5_greed_0 rfl (lv_at hl 1 rfl) ?_
  obtain ⟨r3, hq, hm⟩ := gk_bd1_some hm
  refine gk_callS (n := 1) (bytes := cX5_noFamily) (maxL := 1) (ret := (some .boolean)) [(a0, .inr (4, [.ref a1, .ref a7, .int f_isKept, .ref a13, .ref a15, .ref a18])), (a1, .inr (0, [.int f_now_n, .ref a2, .ref a3, .ref a4, .ref a5])), (a2, gk_J G 6 f_now_members), (a3, gk_I G 6 f_now_kinds), (a4, gk_I G 6 f_now_weights)] [(a0, .inr (4, [.ref a1, .ref a7, .int f_isKept, .ref a13, .ref a15, .ref a18])), (a1, .inr (0, [.int f_now_n, .ref a2, .ref a3, .ref a4, .ref a5])), (a2, gk_J G 6 f_now_members), (a3, gk_I G 6 f_now_kinds), (a4, gk_I G 6 f_now_weights)] [] C ⟨hP, hD, hS⟩ (c_X5_noFamily l G x1 hq) gX5_greed_X5_noFamily dX5_greed_1 hl.1 [] [0, 1, 2, 3, 4] [0, 1, 2, 3, 4] rfl ⟨rfl, rfl⟩ ⟨Nat.le_of_ble_eq_true rfl, Nat.le_of_ble_eq_true rfl⟩ ⟨by decide +kernel, by decide +kernel, by decide +kernel⟩ rfl (fun h => by cases h) (Nat.le_of_ble_eq_true rfl) rfl rfl rfl rfl (by decide) rfl rfl (fun H locs h => ?_)
  obtain ⟨hP, hD, hS⟩ := h
  refine lv_if_eq (tgt := 10) hx hb dX5_greed_4 (by decide) (fun c4 => ?_) (fun c4 => ?_)
  · have hm := gk_it c4 hm
    refine lv_aload_n hx hb dX5_greed_10 rfl (lv_at hl 0 rfl) ?_
    refine va_get (D := G.1) (cl := vwCl) (own := RX5) (ref := "ExchangeFamilies") (ci := 4) (v := .ref a1) (C := RX5) (T := TX5) (N := 6) hx hb hts k_X5_greed_0 hown hK hP 0 rfl rfl 0 (by decide) (hts _ k_X5_greed_1) (fun _ h9 => h9) rfl dX5_greed_11 ?_
    refine lv_iload_n hx hb dX5_greed_14 rfl (lv_at hl 1 rfl) ?_
    obtain ⟨r5, hq, hm⟩ := gk_bd1_some hm
    refine gk_callV (n := 1) (bytes := cX1_isMissing) (maxL := 2) (ret := (some .boolean)) (Cn := RX1) (T := TX1) (N := 5) [(a0, .inr (4, [.ref a1, .ref a7, .int f_isKept, .ref a13, .ref a15, .ref a18])), (a2, gk_J G 6 f_now_members), (a4, gk_I G 6 f_now_weights)] [(a0, .inr (4, [.ref a1, .ref a7, .int f_isKept, .ref a13, .ref a15, .ref a18])), (a1, .inr (0, [.int f_now_n, .ref a2, .ref a3, .ref a4, .ref a5])), (a2, gk_J G 6 f_now_members), (a3, gk_I G 6 f_now_kinds), (a4, gk_I G 6 f_now_weights)] [] C ⟨hP, hD, hS⟩ (c_X1_isMissing l G a1 a2 a3 a4 a5 f_now_n f_now_kinds x1 hq) gX5_greed_X1_isMissing dX5_greed_15 hl.1 [1, 3] [0, 2, 4] [0, 3, 1, 4, 2] rfl rfl ⟨rfl, rfl⟩ ⟨Nat.le_of_ble_eq_true rfl, Nat.le_of_ble_eq_true rfl⟩ ⟨rfl, by decide +kernel, by decide +kernel, by decide +kernel⟩ rfl (fun h => by cases h) (Nat.le_of_ble_eq_true rfl) rfl rfl rfl rfl (by decide) rfl rfl (fun H locs h => ?_)
    obtain ⟨hP, hD, hS⟩ := h
    refine lv_if_eq (tgt := 26) hx hb dX5_greed_18 (by decide) (fun c6 => ?_) (fun c6 => ?_)
    · have hm := gk_it c6 hm
      refine lv_aload_n hx hb dX5_greed_26 rfl (lv_at hl 0 rfl) ?_
      refine va_get (D := G.1) (cl := vwCl) (own := RX5) (ref := "ExchangeFamilies") (ci := 4) (v := .ref a1) (C := RX5) (T := TX5) (N := 6) hx hb hts k_X5_greed_0 hown hK hP 0 rfl rfl 0 (by decide) (hts _ k_X5_greed_1) (fun _ h9 => h9) rfl dX5_greed_27 ?_
      refine lv_aload_n hx hb dX5_greed_30 rfl (lv_at hl 0 rfl) ?_
      refine va_get (D := G.1) (cl := vwCl) (own := RX5) (ref := "ExchangeFamilies") (ci := 4) (v := .ref a1) (C := RX5) (T := TX5) (N := 6) hx hb hts k_X5_greed_0 hown hK hP 0 rfl rfl 0 (by decide) (hts _ k_X5_greed_1) (fun _ h9 => h9) rfl dX5_greed_31 ?_
      refine va_get (D := G.1) (cl := vwCl) (own := RX5) (ref := "ExchangeFamilies$Ground") (ci := 0) (v := .ref a2) (C := RX1) (T := TX1) (N := 5) hx hb hts k_X5_greed_2 hown hK hP 1 rfl rfl 1 (by decide) (hts _ k_X5_greed_3) (fun _ h9 => h9) rfl dX5_greed_34 ?_
      refine lv_iload_n hx hb dX5_greed_37 rfl (lv_at hl 1 rfl) ?_
      obtain ⟨hi, hm⟩ := gk_ix_some hm
      refine va_lald hx hb hK hP 2 1 rfl rfl hi dX5_greed_38 ?_
      obtain ⟨r7, hq, hm⟩ := gk_bd1_some hm
      refine gk_callV (n := 1) (bytes := cX1_byGreed) (maxL := 14) (ret := (some .int)) (Cn := RX1) (T := TX1) (N := 5) [(a0, .inr (4, [.ref a1, .ref a7, .int f_isKept, .ref a13, .ref a15, .ref a18])), (a2, gk_J G 6 f_now_members), (a3, gk_I G 6 f_now_kinds)] [(a0, .inr (4, [.ref a1, .ref a7, .int f_isKept, .ref a13, .ref a15, .ref a18])), (a1, .inr (0, [.int f_now_n, .ref a2, .ref a3, .ref a4, .ref a5])), (a2, gk_J G 6 f_now_members), (a3, gk_I G 6 f_now_kinds), (a4, gk_I G 6 f_now_weights)] [] C ⟨hP, hD, hS⟩ (c_X1_byGreed l G a1 a2 a3 a4 a5 f_now_n f_now_weights (f_now_members x1.toNatClampNeg) hq) gX5_greed_X1_byGreed dX5_greed_39 hl.1 [1, 4] [0, 2, 3] [0, 3, 1, 2, 4] rfl rfl ⟨rfl, rfl⟩ ⟨Nat.le_of_ble_eq_true rfl, Nat.le_of_ble_eq_true rfl⟩ ⟨rfl, by decide +kernel, by decide +kernel, by decide +kernel⟩ rfl (fun h => h) (Nat.le_of_ble_eq_true rfl) rfl rfl rfl rfl (by decide) rfl rfl (fun H locs h => ?_)
      obtain ⟨hP, hD, hS⟩ := h
      rw [kr _ (Option.some.inj hm).symm]
      exact gk_iret C ⟨hP, hD, hS⟩ dX5_greed_42
    · have hm := gk_if c6 hm
      refine lv_bipush (v := -11) hx hb dX5_greed_21 (by decide) ?_
      refine lv_goto (tgt := 42) hx hb dX5_greed_23 (by decide) ?_
      rw [kr _ (Option.some.inj hm).symm]
      exact gk_iret C ⟨hP, hD, hS⟩ dX5_greed_42
  · have hm := gk_if c4 hm
    refine lv_bipush (v := -2) hx hb dX5_greed_7 (by decide) ?_
    rw [kr _ (Option.some.inj hm).symm]
    exact gk_iret C ⟨hP, hD, hS⟩ dX5_greed_9
def m_X5_greed (f_now_n : Int32) (f_now_members : (Nat → Int64)) (f_now_kinds : (Nat → Int32)) (f_now_weights : (Nat → Int32)) (x1 : Int32) : Option (Int32) := m_X5_greed_0 f_now_n f_now_members f_now_kinds f_now_weights x1
theorem c_X5_greed (l : Launch) (G : gk_G) (a0 a1 a2 a3 a4 a5 a7 a13 a15 a18 : Nat) (f_isKept : Int32) (f_now_n : Int32) (f_now_members : (Nat → Int64)) (f_now_kinds : (Nat → Int32)) (f_now_weights : (Nat → Int32)) (x1 : Int32) {rv : Int32} (hm : m_X5_greed f_now_n f_now_members f_now_kinds f_now_weights x1 = some rv) : gk_M l yX5_greed wsX5_greed rm_X5_greed true G [.ref a0, .int x1] [(a0, .inr (4, [.ref a1, .ref a7, .int f_isKept, .ref a13, .ref a15, .ref a18])), (a1, .inr (0, [.int f_now_n, .ref a2, .ref a3, .ref a4, .ref a5])), (a2, gk_J G 6 f_now_members), (a3, gk_I G 6 f_now_kinds), (a4, gk_I G 6 f_now_weights)] (some (.int rv)) [(a0, .inr (4, [.ref a1, .ref a7, .int f_isKept, .ref a13, .ref a15, .ref a18])), (a1, .inr (0, [.int f_now_n, .ref a2, .ref a3, .ref a4, .ref a5])), (a2, gk_J G 6 f_now_members), (a3, gk_I G 6 f_now_kinds), (a4, gk_I G 6 f_now_weights)] :=
  gk_of (by decide) rfl (Nat.le_of_ble_eq_true rfl) (fun p e s m below meth c A ls C h hl => w_X5_greed_0 C hm (fun v0 ez => by cases ez; rfl) h (show lv_has ls 2 [(0, .ref a0), (1, .int x1)] from hl))

/-! ===== ExchangeFamilies.best(I)I ===== -/
abbrev rm_X5_best : Room := { frames := 5, cells := 0, slots := 0, locals := 241 }
theorem k_X5_best_0 : ∀ w ∈ u_ws RX5 TX5 6, w ∈ wsX5_best := by decide +kernel
theorem k_X5_best_1 : Cond.fieldLink RX5 12 "ExchangeFamilies" "now" "LExchangeFamilies$Ground;" ∈ wsX5_best := by decide +kernel
theorem k_X5_best_2 : ∀ w ∈ u_ws RX1 TX1 5, w ∈ wsX5_best := by decide +kernel
theorem k_X5_best_3 : Cond.fieldLink RX5 61 "ExchangeFamilies$Ground" "members" "[J" ∈ wsX5_best := by decide +kernel
def m_X5_best_0 (f_now_n : Int32) (f_now_members : (Nat → Int64)) (f_now_kinds : (Nat → Int32)) (f_now_weights : (Nat → Int32)) (x1 : Int32) : Option (Int32) := gk_bd1 (m_X5_noFamily x1) (fun r3 => (if r3 = (0 : Int32) then gk_bd1 (m_X1_isMissing f_now_kinds x1) (fun r5 => (if r5 = (0 : Int32) then gk_ix x1 6 (gk_bd1 (m_X1_byLooking f_now_n f_now_weights (f_now_members x1.toNatClampNeg)) (fun r7 => some r7)) else some (-11 : Int32))) else some (-2 : Int32)))
set_option maxRecDepth 100000 in
set_option maxHeartbeats 4000000 in
theorem w_X5_best_0 {p : Program} {l : Launch} {e : Env} {s : State} {m : MethodId} {args : Array Value} {below : List Frame} {meth : Method} {c : Code} {G : gk_G} {A : Nat → Prop} {Q : State → Prop} {a0 a1 a2 a3 a4 a5 a7 a13 a15 a18 : Nat} (C : gk_C p s m args meth c cX5_best 2 (some .int) yX5_best wsX5_best false G A) {f_now_n : Int32} {f_now_members : (Nat → Int64)} {f_now_kinds : (Nat → Int32)} {f_now_weights : (Nat → Int32)} {x1 : Int32} {f_isKept : Int32} {yy : Int32} (hm : m_X5_best_0 f_now_n f_now_members f_now_kinds f_now_weights x1 = some yy) (kr : ∀ (rv : Int32), yy = rv → Q = MQ below (gk_Q G (some (.int rv)) [(a0, .inr (4, [.ref a1, .ref a7, .int f_isKept, .ref a13, .ref a15, .ref a18])), (a1, .inr (0, [.int f_now_n, .ref a2, .ref a3, .ref a4, .ref a5])), (a2, gk_J G 6 f_now_members), (a3, gk_I G 6 f_now_kinds), (a4, gk_I G 6 f_now_weights)] A) args s 0 0 A) {H : Heap} {locs : List Loc} {ls : Array Slot} (h : gk_H G A s [(a0, .inr (4, [.ref a1, .ref a7, .int f_isKept, .ref a13, .ref a15, .ref a18])), (a1, .inr (0, [.int f_now_n, .ref a2, .ref a3, .ref a4, .ref a5])), (a2, gk_J G 6 f_now_members), (a3, gk_I G 6 f_now_kinds), (a4, gk_I G 6 f_now_weights)] H locs) (hl : lv_has ls 2 [(0, .ref a0), (1, .int x1)]) : W p l e rm_X5_best s m args below meth c H locs 0 0 Q (F0 m 0 ls []) := by
  obtain ⟨hx, hb, hml, hr, hown, hnm, hts, hlk, hK, hSt, hA⟩ := id C
  obtain ⟨hP, hD, hS⟩ := h
  unfold m_X5_best_0 at hm
  refine lv_iload_n hx hb dX5_best_0 rfl (lv_at hl 1 rfl) ?_
  obtain ⟨r3, hq, hm⟩ := gk_bd1_some hm
  refine gk_callS (n := 1) (bytes := cX5_noFamily) (maxL := 1) (ret := (some .boolean)) [(a0, .inr (4, [.ref a1, .ref a7, .int f_isKept, .ref a13, .ref a15, .ref a18])), (a1, .inr (0, [.int f_now_n, .ref a2, .ref a3, .ref a4, .ref a5])), (a2, gk_J G 6 f_now_members), (a3, gk_I G 6 f_now_kinds), (a4, gk_I G 6 f_now_weights)] [(a0, .inr (4, [.ref a1, .ref a7, .int f_isKept, .ref a13, .ref a15, .ref a18])), (a1, .inr (0, [.int f_now_n, .ref a2, .ref a3, .ref a4, .ref a5])), (a2, gk_J G 6 f_now_members), (a3, gk_I G 6 f_now_kinds), (a4, gk_I G 6 f_now_weights)] [] C ⟨hP, hD, hS⟩ (c_X5_noFamily l G x1 hq) gX5_best_X5_noFamily dX5_best_1 hl.1 [] [0, 1, 2, 3, 4] [0, 1, 2, 3, 4] rfl ⟨rfl, rfl⟩ ⟨Nat.le_of_ble_eq_true rfl, Nat.le_of_ble_eq_true rfl⟩ ⟨by decide +kernel, by decide +kernel, by decide +kernel⟩ rfl (fun h => by cases h) (Nat.le_of_ble_eq_true rfl) rfl rfl rfl rfl (by decide) rfl rfl (fun H locs h => ?_)
  obtain ⟨hP, hD, hS⟩ := h
  refine lv_if_eq (tgt := 10) hx hb dX5_best_4 (by decide) (fun c4 => ?_) (fun c4 => ?_)
  · have hm := gk_it c4 hm
    refine lv_aload_n hx hb dX5_best_10 rfl (lv_at hl 0 rfl) ?_
    refine va_get (D := G.1) (cl := vwCl) (own := RX5) (ref := "ExchangeFamilies") (ci := 4) (v := .ref a1) (C := RX5) (T := TX5) (N := 6) hx hb hts k_X5_best_0 hown hK hP 0 rfl rfl 0 (by decide) (hts _ k_X5_best_1) (fun _ h9 => h9) rfl dX5_best_11 ?_
    refine lv_iload_n hx hb dX5_best_14 rfl (lv_at hl 1 rfl) ?_
    obtain ⟨r5, hq, hm⟩ := gk_bd1_some hm
    refine gk_callV (n := 1) (bytes := cX1_isMissing) (maxL := 2) (ret := (some .boolean)) (Cn := RX1) (T := TX1) (N := 5) [(a0, .inr (4, [.ref a1, .ref a7, .int f_isKept, .ref a13, .ref a15, .ref a18])), (a2, gk_J G 6 f_now_members), (a4, gk_I G 6 f_now_weights)] [(a0, .inr (4, [.ref a1, .ref a7, .int f_isKept, .ref a13, .ref a15, .ref a18])), (a1, .inr (0, [.int f_now_n, .ref a2, .ref a3, .ref a4, .ref a5])), (a2, gk_J G 6 f_now_members), (a3, gk_I G 6 f_now_kinds), (a4, gk_I G 6 f_now_weights)] [] C ⟨hP, hD, hS⟩ (c_X1_isMissing l G a1 a2 a3 a4 a5 f_now_n f_now_kinds x1 hq) gX5_best_X1_isMissing dX5_best_15 hl.1 [1, 3] [0, 2, 4] [0, 3, 1, 4, 2] rfl rfl ⟨rfl, rfl⟩ ⟨Nat.le_of_ble_eq_true rfl, Nat.le_of_ble_eq_true rfl⟩ ⟨rfl, by decide +kernel, by decide +kernel, by decide +kernel⟩ rfl (fun h => by cases h) (Nat.le_of_ble_eq_true rfl) rfl rfl rfl rfl (by decide) rfl rfl (fun H locs h => ?_)
    obtain ⟨hP, hD, hS⟩ := h
    refine lv_if_eq (tgt := 26) hx hb dX5_best_18 (by decide) (fun c6 => ?_) (fun c6 => ?_)
    · have hm := gk_it c6 hm
      refine lv_aload_n hx hb dX5_best_26 rfl (lv_at hl 0 rfl) ?_
      refine va_get (D := G.1) (cl := vwCl) (own := RX5) (ref := "ExchangeFamilies") (ci := 4) (v := .ref a1) (C := RX5) (T := TX5) (N := 6) hx hb hts k_X5_best_0 hown hK hP 0 rfl rfl 0 (by decide) (hts _ k_X5_best_1) (fun _ h9 => h9) rfl dX5_best_27 ?_
      refine lv_aload_n hx hb dX5_best_30 rfl (lv_at hl 0 rfl) ?_
      refine va_get (D := G.1) (cl := vwCl) (own := RX5) (ref := "ExchangeFamilies") (ci := 4) (v := .ref a1) (C := RX5) (T := TX5) (N := 6) hx hb hts k_X5_best_0 hown hK hP 0 rfl rfl 0 (by decide) (hts _ k_X5_best_1) (fun _ h9 => h9) rfl dX5_best_31 ?_
      refine va_get (D := G.1) (cl := vwCl) (own := RX5) (ref := "ExchangeFamilies$Ground") (ci := 0) (v := .ref a2) (C := RX1) (T := TX1) (N := 5) hx hb hts k_X5_best_2 hown hK hP 1 rfl rfl 1 (by decide) (hts _ k_X5_best_3) (fun _ h9 => h9) rfl dX5_best_34 ?_
      refine lv_iload_n hx hb dX5_best_37 rfl (lv_at hl 1 rfl) ?_
      obtain ⟨hi, hm⟩ := gk_ix_some hm
      refine va_lald hx hb hK hP 2 1 rfl rfl hi dX5_best_38 ?_
      obtain ⟨r7, hq, hm⟩ := gk_bd1_some hm
      refine gk_callV (n := 1) (bytes := cX1_byLooking) (maxL := 7) (ret := (some .int)) (Cn := RX1) (T := TX1) (N := 5) [(a0, .inr (4, [.ref a1, .ref a7, .int f_isKept, .ref a13, .ref a15, .ref a18])), (a2, gk_J G 6 f_now_members), (a3, gk_I G 6 f_now_kinds)] [(a0, .inr (4, [.ref a1, .ref a7, .int f_isKept, .ref a13, .ref a15, .ref a18])), (a1, .inr (0, [.int f_now_n, .ref a2, .ref a3, .ref a4, .ref a5])), (a2, gk_J G 6 f_now_members), (a3, gk_I G 6 f_now_kinds), (a4, gk_I G 6 f_now_weights)] [] C ⟨hP, hD, hS⟩ (c_X1_byLooking l G a1 a2 a3 a4 a5 f_now_n f_now_weights (f_now_members x1.toNatClampNeg) hq) gX5_best_X1_byLooking dX5_best_39 hl.1 [1, 4] [0, 2, 3] [0, 3, 1, 2, 4] rfl rfl ⟨rfl, rfl⟩ ⟨Nat.le_of_ble_eq_true rfl, Nat.le_of_ble_eq_true rfl⟩ ⟨rfl, by decide +kernel, by decide +kernel, by decide +kernel⟩ rfl (fun h => by cases h) (Nat.le_of_ble_eq_true rfl) rfl rfl rfl rfl (by decide) rfl rfl (fun H locs h => ?_)
      obtain ⟨hP, hD, hS⟩ := h
      rw [kr _ (Option.some.inj hm).symm]
      exact gk_iret C ⟨hP, hD, hS⟩ dX5_best_42
    · have hm := gk_if c6 hm
      refine lv_bipush (v := -11) hx hb dX5_best_21 (by decide) ?_
      refine lv_goto (tgt := 42) hx hb dX5_best_23 (by decide) ?_
      rw [kr _ (Option.some.inj hm).symm]
      exact gk_iret C ⟨hP, hD, hS⟩ dX5_best_42
  · have hm := gk_if c4 hm
    refine lv_bipush (v := -2) hx hb dX5_best_7 (by decide) ?_
    rw [kr _ (Option.some.inj hm).symm]
    exact gk_iret C ⟨hP, hD, hS⟩ dX5_best_9
def m_X5_best (f_now_n : Int32) (f_now_members : (Nat → Int64)) (f_now_kinds : (Nat → Int32)) (f_now_weights : (Nat → Int32)) (x1 : Int32) : Option (Int32) := m_X5_best_0 f_now_n f_now_members f_now_kinds f_now_weights x1
theorem c_X5_best (l : Launch) (G : gk_G) (a0 a1 a2 a3 a4 a5 a7 a13 a15 a18 : Nat) (f_isKept : Int32) (f_now_n : Int32) (f_now_members : (Nat → Int64)) (f_now_kinds : (Nat → Int32)) (f_now_weights : (Nat → Int32)) (x1 : Int32) {rv : Int32} (hm : m_X5_best f_now_n f_now_members f_now_kinds f_now_weights x1 = some rv) : gk_M l yX5_best wsX5_best rm_X5_best false G [.ref a0, .int x1] [(a0, .inr (4, [.ref a1, .ref a7, .int f_isKept, .ref a13, .ref a15, .ref a18])), (a1, .inr (0, [.int f_now_n, .ref a2, .ref a3, .ref a4, .ref a5])), (a2, gk_J G 6 f_now_members), (a3, gk_I G 6 f_now_kinds), (a4, gk_I G 6 f_now_weights)] (some (.int rv)) [(a0, .inr (4, [.ref a1, .ref a7, .int f_isKept, .ref a13, .ref a15, .ref a18])), (a1, .inr (0, [.int f_now_n, .ref a2, .ref a3, .ref a4, .ref a5])), (a2, gk_J G 6 f_now_members), (a3, gk_I G 6 f_now_kinds), (a4, gk_I G 6 f_now_weights)] :=
  gk_of (by decide) rfl (Nat.le_of_ble_eq_true rfl) (fun p e s m below meth c A ls C h hl => w_X5_best_0 C hm (fun v0 ez => by cases ez; rfl) h (show lv_has ls 2 [(0, .ref a0), (1, .int x1)] from hl))

/-! ===== ExchangeFamilies.entry(III)I ===== -/
abbrev rm_X5_entry : Room := { frames := 3, cells := 0, slots := 0, locals := 151 }
theorem k_X5_entry_0 : ∀ w ∈ u_ws RX5 TX5 6, w ∈ wsX5_entry := by decide +kernel
theorem k_X5_entry_1 : Cond.fieldLink RX5 12 "ExchangeFamilies" "now" "LExchangeFamilies$Ground;" ∈ wsX5_entry := by decide +kernel
theorem k_X5_entry_2 : ∀ w ∈ u_ws RX1 TX1 5, w ∈ wsX5_entry := by decide +kernel
theorem k_X5_entry_3 : Cond.fieldLink RX5 171 "ExchangeFamilies$Ground" "table" "LExchangeFamilies$Table;" ∈ wsX5_entry := by decide +kernel
def m_X5_entry_0 (f_now_n : Int32) (f_now_table_entries : (Nat → Int32)) (x1 : Int32) (x2 : Int32) (x3 : Int32) : Option (Int32 × (Nat → Int32)) := gk_bd1 (m_X5_noPoint f_now_n x1) (fun r6 => (if r6 = (0 : Int32) then gk_bd1 (m_X5_noPoint f_now_n x2) (fun r8 => (if r8 = (0 : Int32) then (if x1 = x2 then some ((-2 : Int32), f_now_table_entries) else (if x3 < (0 : Int32) then some ((-2 : Int32), f_now_table_entries) else (if x3 < (7 : Int32) then gk_bd1 (m_X4_at f_now_table_entries x1 x2) (fun r13 => gk_bd1 (m_X4_write f_now_table_entries x1 x2 x3) (fun r14 => some (r13, r14))) else some ((-2 : Int32), f_now_table_entries)))) else some ((-2 : Int32), f_now_table_entries))) else some ((-2 : Int32), f_now_table_entries)))
set_option maxRecDepth 100000 in
set_option maxHeartbeats 4000000 in
theorem w_X5_entry_0 {p : Program} {l : Launch} {e : Env} {s : State} {m : MethodId} {args : Array Value} {below : List Frame} {meth : Method} {c : Code} {G : gk_G} {A : Nat → Prop} {Q : State → Prop} {a0 a1 a2 a3 a4 a5 a6 a7 a13 a15 a18 : Nat} (C : gk_C p s m args meth c cX5_entry 5 (some .int) yX5_entry wsX5_entry false G A) {f_now_n : Int32} {f_now_table_entries : (Nat → Int32)} {x1 : Int32} {x2 : Int32} {x3 : Int32} {f_isKept : Int32} {yy : Int32 × (Nat → Int32)} (hm : m_X5_entry_0 f_now_n f_now_table_entries x1 x2 x3 = some yy) (kr : ∀ (rv : Int32) (g_now_table_entries : (Nat → Int32)), yy = (rv, g_now_table_entries) → Q = MQ below (gk_Q G (some (.int rv)) [(a0, .inr (4, [.ref a1, .ref a7, .int f_isKept, .ref a13, .ref a15, .ref a18])), (a1, .inr (0, [.int f_now_n, .ref a2, .ref a3, .ref a4, .ref a5])), (a5, .inr (3, [.ref a6])), (a6, gk_I G 36 g_now_table_entries)] A) args s 0 0 A) {H : Heap} {locs : List Loc} {ls : Array Slot} (h : gk_H G A s [(a0, .inr (4, [.ref a1, .ref a7, .int f_isKept, .ref a13, .ref a15, .ref a18])), (a1, .inr (0, [.int f_now_n, .ref a2, .ref a3, .ref a4, .ref a5])), (a5, .inr (3, [.ref a6])), (a6, gk_I G 36 f_now_table_entries)] H locs) (hl : lv_has ls 5 [(0, .ref a0), (1, .int x1), (2, .int x2), (3, .int x3)]) : W p l e rm_X5_entry s m args below meth c H locs 0 0 Q (F0 m 0 ls []) := by
  obtain ⟨hx, hb, hml, hr, hown, hnm, hts, hlk, hK, hSt, hA⟩ := id C
  obtain ⟨hP, hD, hS⟩ := h
  unfold m_X5_entry_0 at hm
  refine lv_aload_n hx hb dX5_entry_0 rfl (lv_at hl 0 rfl) ?_
  refine lv_iload_n hx hb dX5_entry_1 rfl (lv_at hl 1 rfl) ?_
  obtain ⟨r6, hq, hm⟩ := gk_bd1_some hm
  refine gk_callV (n := 1) (bytes := cX5_noPoint) (maxL := 2) (ret := (some .boolean)) (Cn := RX5) (T := TX5) (N := 6) [(a5, .inr (3, [.ref a6])), (a6, gk_I G 36 f_now_table_entries)] [(a0, .inr (4, [.ref a1, .ref a7, .int f_isKept, .ref a13, .ref a15, .ref a18])), (a1, .inr (0, [.int f_now_n, .ref a2, .ref a3, .ref a4, .ref a5])), (a5, .inr (3, [.ref a6])), (a6, gk_I G 36 f_now_table_entries)] [] C ⟨hP, hD, hS⟩ (c_X5_noPoint l G a0 a1 a2 a3 a4 a5 a7 a13 a15 a18 f_isKept f_now_n x1 hq) gX5_entry_X5_noPoint dX5_entry_2 hl.1 [0, 1] [2, 3] [2, 3, 0, 1] rfl rfl ⟨rfl, rfl⟩ ⟨Nat.le_of_ble_eq_true rfl, Nat.le_of_ble_eq_true rfl⟩ ⟨rfl, by decide +kernel, by decide +kernel, by decide +kernel⟩ rfl (fun h => by cases h) (Nat.le_of_ble_eq_true rfl) rfl rfl rfl rfl (by decide) rfl rfl (fun H locs h => ?_)
  obtain ⟨hP, hD, hS⟩ := h
  refine lv_if_ne (tgt := 31) hx hb dX5_entry_5 (by decide) (fun c7 => ?_) (fun c7 => ?_)
  · have hm := gk_if c7 hm
    refine lv_bipush (v := -2) hx hb dX5_entry_31 (by decide) ?_
    rw [kr _ _ (Option.some.inj hm).symm]
    exact gk_iret C ⟨hP, hD, hS⟩ dX5_entry_33
  · have hm := gk_it c7 hm
    refine lv_aload_n hx hb dX5_entry_8 rfl (lv_at hl 0 rfl) ?_
    refine lv_iload_n hx hb dX5_entry_9 rfl (lv_at hl 2 rfl) ?_
    obtain ⟨r8, hq, hm⟩ := gk_bd1_some hm
    refine gk_callV (n := 1) (bytes := cX5_noPoint) (maxL := 2) (ret := (some .boolean)) (Cn := RX5) (T := TX5) (N := 6) [(a5, .inr (3, [.ref a6])), (a6, gk_I G 36 f_now_table_entries)] [(a0, .inr (4, [.ref a1, .ref a7, .int f_isKept, .ref a13, .ref a15, .ref a18])), (a1, .inr (0, [.int f_now_n, .ref a2, .ref a3, .ref a4, .ref a5])), (a5, .inr (3, [.ref a6])), (a6, gk_I G 36 f_now_table_entries)] [] C ⟨hP, hD, hS⟩ (c_X5_noPoint l G a0 a1 a2 a3 a4 a5 a7 a13 a15 a18 f_isKept f_now_n x2 hq) gX5_entry_X5_noPoint dX5_entry_10 hl.1 [0, 1] [2, 3] [2, 3, 0, 1] rfl rfl ⟨rfl, rfl⟩ ⟨Nat.le_of_ble_eq_true rfl, Nat.le_of_ble_eq_true rfl⟩ ⟨rfl, by decide +kernel, by decide +kernel, by decide +kernel⟩ rfl (fun h => by cases h) (Nat.le_of_ble_eq_true rfl) rfl rfl rfl rfl (by decide) rfl rfl (fun H locs h => ?_)
    obtain ⟨hP, hD, hS⟩ := h
    refine lv_if_ne (tgt := 31) hx hb dX5_entry_13 (by decide) (fun c9 => ?_) (fun c9 => ?_)
    · have hm := gk_if c9 hm
      refine lv_bipush (v := -2) hx hb dX5_entry_31 (by decide) ?_
      rw [kr _ _ (Option.some.inj hm).symm]
      exact gk_iret C ⟨hP, hD, hS⟩ dX5_entry_33
    · have hm := gk_it c9 hm
      refine lv_iload_n hx hb dX5_entry_16 rfl (lv_at hl 1 rfl) ?_
      refine lv_iload_n hx hb dX5_entry_17 rfl (lv_at hl 2 rfl) ?_
      refine lv_icmp_eq (tgt := 31) hx hb dX5_entry_18 (by decide) (fun c10 => ?_) (fun c10 => ?_)
      · have hm := gk_it c10 hm
        refine lv_bipush (v := -2) hx hb dX5_entry_31 (by decide) ?_
        rw [kr _ _ (Option.some.inj hm).symm]
        exact gk_iret C ⟨hP, hD, hS⟩ dX5_entry_33
      · have hm := gk_if c10 hm
        refine lv_iload_n hx hb dX5_entry_21 rfl (lv_at hl 3 rfl) ?_
        refine lv_if_lt (tgt := 31) hx hb dX5_entry_22 (by decide) (fun c11 => ?_) (fun c11 => ?_)
        · have hm := gk_it c11 hm
          refine lv_bipush (v := -2) hx hb dX5_entry_31 (by decide) ?_
          rw [kr _ _ (Option.some.inj hm).symm]
          exact gk_iret C ⟨hP, hD, hS⟩ dX5_entry_33
        · have hm := gk_if c11 hm
          refine lv_iload_n hx hb dX5_entry_25 rfl (lv_at hl 3 rfl) ?_
          refine lv_bipush (v := 7) hx hb dX5_entry_26 (by decide) ?_
          refine lv_icmp_lt (tgt := 34) hx hb dX5_entry_28 (by decide) (fun c12 => ?_) (fun c12 => ?_)
          · have hm := gk_it c12 hm
            refine lv_aload_n hx hb dX5_entry_34 rfl (lv_at hl 0 rfl) ?_
            refine va_get (D := G.1) (cl := vwCl) (own := RX5) (ref := "ExchangeFamilies") (ci := 4) (v := .ref a1) (C := RX5) (T := TX5) (N := 6) hx hb hts k_X5_entry_0 hown hK hP 0 rfl rfl 0 (by decide) (hts _ k_X5_entry_1) (fun _ h9 => h9) rfl dX5_entry_35 ?_
            refine va_get (D := G.1) (cl := vwCl) (own := RX5) (ref := "ExchangeFamilies$Ground") (ci := 0) (v := .ref a5) (C := RX1) (T := TX1) (N := 5) hx hb hts k_X5_entry_2 hown hK hP 1 rfl rfl 4 (by decide) (hts _ k_X5_entry_3) (fun _ h9 => h9) rfl dX5_entry_38 ?_
            refine lv_iload_n hx hb dX5_entry_41 rfl (lv_at hl 1 rfl) ?_
            refine lv_iload_n hx hb dX5_entry_42 rfl (lv_at hl 2 rfl) ?_
            obtain ⟨r13, hq, hm⟩ := gk_bd1_some hm
            refine gk_callV (n := 2) (bytes := cX4_at) (maxL := 3) (ret := (some .int)) (Cn := RX4) (T := TX4) (N := 1) [(a0, .inr (4, [.ref a1, .ref a7, .int f_isKept, .ref a13, .ref a15, .ref a18])), (a1, .inr (0, [.int f_now_n, .ref a2, .ref a3, .ref a4, .ref a5]))] [(a0, .inr (4, [.ref a1, .ref a7, .int f_isKept, .ref a13, .ref a15, .ref a18])), (a1, .inr (0, [.int f_now_n, .ref a2, .ref a3, .ref a4, .ref a5])), (a5, .inr (3, [.ref a6])), (a6, gk_I G 36 f_now_table_entries)] [] C ⟨hP, hD, hS⟩ (c_X4_at l G a5 a6 f_now_table_entries x1 x2 hq) gX5_entry_X4_at dX5_entry_43 hl.1 [2, 3] [0, 1] [0, 1, 2, 3] rfl rfl ⟨rfl, rfl⟩ ⟨Nat.le_of_ble_eq_true rfl, Nat.le_of_ble_eq_true rfl⟩ ⟨rfl, by decide +kernel, by decide +kernel, by decide +kernel⟩ rfl (fun h => by cases h) (Nat.le_of_ble_eq_true rfl) rfl rfl rfl rfl (by decide) rfl rfl (fun H locs h => ?_)
            obtain ⟨hP, hD, hS⟩ := h
            refine lv_istore (lv' := [(4, .int r13), (0, .ref a0), (1, .int x1), (2, .int x2), (3, .int x3)]) hx hb dX5_entry_46 hl (by decide) rfl (fun ls hl => ?_)
            refine lv_aload_n hx hb dX5_entry_48 rfl (lv_at hl 1 rfl) ?_
            refine va_get (D := G.1) (cl := vwCl) (own := RX5) (ref := "ExchangeFamilies") (ci := 4) (v := .ref a1) (C := RX5) (T := TX5) (N := 6) hx hb hts k_X5_entry_0 hown hK hP 0 rfl rfl 0 (by decide) (hts _ k_X5_entry_1) (fun _ h9 => h9) rfl dX5_entry_49 ?_
            refine va_get (D := G.1) (cl := vwCl) (own := RX5) (ref := "ExchangeFamilies$Ground") (ci := 0) (v := .ref a5) (C := RX1) (T := TX1) (N := 5) hx hb hts k_X5_entry_2 hown hK hP 1 rfl rfl 4 (by decide) (hts _ k_X5_entry_3) (fun _ h9 => h9) rfl dX5_entry_52 ?_
            refine lv_iload_n hx hb dX5_entry_55 rfl (lv_at hl 2 rfl) ?_
            refine lv_iload_n hx hb dX5_entry_56 rfl (lv_at hl 3 rfl) ?_
            refine lv_iload_n hx hb dX5_entry_57 rfl (lv_at hl 4 rfl) ?_
            obtain ⟨r14, hq, hm⟩ := gk_bd1_some hm
            refine gk_callV (n := 3) (bytes := cX4_write) (maxL := 4) (ret := none) (Cn := RX4) (T := TX4) (N := 1) [(a0, .inr (4, [.ref a1, .ref a7, .int f_isKept, .ref a13, .ref a15, .ref a18])), (a1, .inr (0, [.int f_now_n, .ref a2, .ref a3, .ref a4, .ref a5]))] [(a0, .inr (4, [.ref a1, .ref a7, .int f_isKept, .ref a13, .ref a15, .ref a18])), (a1, .inr (0, [.int f_now_n, .ref a2, .ref a3, .ref a4, .ref a5])), (a5, .inr (3, [.ref a6])), (a6, gk_I G 36 r14)] [] C ⟨hP, hD, hS⟩ (c_X4_write l G a5 a6 f_now_table_entries x1 x2 x3 hq) gX5_entry_X4_write dX5_entry_58 hl.1 [2, 3] [0, 1] [0, 1, 2, 3] rfl rfl ⟨rfl, rfl⟩ ⟨Nat.le_of_ble_eq_true rfl, Nat.le_of_ble_eq_true rfl⟩ ⟨rfl, by decide +kernel, by decide +kernel, by decide +kernel⟩ rfl (fun h => by cases h) (Nat.le_of_ble_eq_true rfl) rfl rfl rfl rfl (by decide) rfl rfl (fun H locs h => ?_)
            obtain ⟨hP, hD, hS⟩ := h
            refine lv_iload hx hb dX5_entry_61 (lv_at hl 0 rfl) ?_
            rw [kr _ _ (Option.some.inj hm).symm]
            exact gk_iret C ⟨hP, hD, hS⟩ dX5_entry_63
          · have hm := gk_if c12 hm
            refine lv_bipush (v := -2) hx hb dX5_entry_31 (by decide) ?_
            rw [kr _ _ (Option.some.inj hm).symm]
            exact gk_iret C ⟨hP, hD, hS⟩ dX5_entry_33
def m_X5_entry (f_now_n : Int32) (f_now_table_entries : (Nat → Int32)) (x1 : Int32) (x2 : Int32) (x3 : Int32) : Option (Int32 × (Nat → Int32)) := m_X5_entry_0 f_now_n f_now_table_entries x1 x2 x3
theorem c_X5_entry (l : Launch) (G : gk_G) (a0 a1 a2 a3 a4 a5 a6 a7 a13 a15 a18 : Nat) (f_isKept : Int32) (f_now_n : Int32) (f_now_table_entries : (Nat → Int32)) (x1 : Int32) (x2 : Int32) (x3 : Int32) {rv : Int32} {g_now_table_entries : (Nat → Int32)} (hm : m_X5_entry f_now_n f_now_table_entries x1 x2 x3 = some (rv, g_now_table_entries)) : gk_M l yX5_entry wsX5_entry rm_X5_entry false G [.ref a0, .int x1, .int x2, .int x3] [(a0, .inr (4, [.ref a1, .ref a7, .int f_isKept, .ref a13, .ref a15, .ref a18])), (a1, .inr (0, [.int f_now_n, .ref a2, .ref a3, .ref a4, .ref a5])), (a5, .inr (3, [.ref a6])), (a6, gk_I G 36 f_now_table_entries)] (some (.int rv)) [(a0, .inr (4, [.ref a1, .ref a7, .int f_isKept, .ref a13, .ref a15, .ref a18])), (a1, .inr (0, [.int f_now_n, .ref a2, .ref a3, .ref a4, .ref a5])), (a5, .inr (3, [.ref a6])), (a6, gk_I G 36 g_now_table_entries)] :=
  gk_of (by decide) rfl (Nat.le_of_ble_eq_true rfl) (fun p e s m below meth c A ls C h hl => w_X5_entry_0 C hm (fun v0 v1 ez => by cases ez; rfl) h (show lv_has ls 5 [(0, .ref a0), (1, .int x1), (2, .int x2), (3, .int x3)] from hl))

/-! ===== ExchangeFamilies.entryOf(II)I ===== -/
abbrev rm_X5_entryOf : Room := { frames := 3, cells := 0, slots := 0, locals := 150 }
theorem k_X5_entryOf_0 : ∀ w ∈ u_ws RX5 TX5 6, w ∈ wsX5_entryOf := by decide +kernel
theorem k_X5_entryOf_1 : Cond.fieldLink RX5 12 "ExchangeFamilies" "now" "LExchangeFamilies$Ground;" ∈ wsX5_entryOf := by decide +kernel
theorem k_X5_entryOf_2 : ∀ w ∈ u_ws RX1 TX1 5, w ∈ wsX5_entryOf := by decide +kernel
theorem k_X5_entryOf_3 : Cond.fieldLink RX5 171 "ExchangeFamilies$Ground" "table" "LExchangeFamilies$Table;" ∈ wsX5_entryOf := by decide +kernel
def m_X5_entryOf_0 (f_now_n : Int32) (f_now_table_entries : (Nat → Int32)) (x1 : Int32) (x2 : Int32) : Option (Int32) := gk_bd1 (m_X5_noPoint f_now_n x1) (fun r3 => (if r3 = (0 : Int32) then gk_bd1 (m_X5_noPoint f_now_n x2) (fun r5 => (if r5 = (0 : Int32) then gk_bd1 (m_X4_at f_now_table_entries x1 x2) (fun r7 => some r7) else some (-2 : Int32))) else some (-2 : Int32)))
set_option maxRecDepth 100000 in
set_option maxHeartbeats 4000000 in
theorem w_X5_entryOf_0 {p : Program} {l : Launch} {e : Env} {s : State} {m : MethodId} {args : Array Value} {below : List Frame} {meth : Method} {c : Code} {G : gk_G} {A : Nat → Prop} {Q : State → Prop} {a0 a1 a2 a3 a4 a5 a6 a7 a13 a15 a18 : Nat} (C : gk_C p s m args meth c cX5_entryOf 3 (some .int) yX5_entryOf wsX5_entryOf false G A) {f_now_n : Int32} {f_now_table_entries : (Nat → Int32)} {x1 : Int32} {x2 : Int32} {f_isKept : Int32} {yy : Int32} (hm : m_X5_entryOf_0 f_now_n f_now_table_entries x1 x2 = some yy) (kr : ∀ (rv : Int32), yy = rv → Q = MQ below (gk_Q G (some (.int rv)) [(a0, .inr (4, [.ref a1, .ref a7, .int f_isKept, .ref a13, .ref a15, .ref a18])), (a1, .inr (0, [.int f_now_n, .ref a2, .ref a3, .ref a4, .ref a5])), (a5, .inr (3, [.ref a6])), (a6, gk_I G 36 f_now_table_entries)] A) args s 0 0 A) {H : Heap} {locs : List Loc} {ls : Array Slot} (h : gk_H G A s [(a0, .inr (4, [.ref a1, .ref a7, .int f_isKept, .ref a13, .ref a15, .ref a18])), (a1, .inr (0, [.int f_now_n, .ref a2, .ref a3, .ref a4, .ref a5])), (a5, .inr (3, [.ref a6])), (a6, gk_I G 36 f_now_table_entries)] H locs) (hl : lv_has ls 3 [(0, .ref a0), (1, .int x1), (2, .int x2)]) : W p l e rm_X5_entryOf s m args below meth c H locs 0 0 Q (F0 m 0 ls []) := by
  obtain ⟨hx, hb, hml, hr, hown, hnm, hts, hlk, hK, hSt, hA⟩ := id C
  obtain ⟨hP, hD, hS⟩ := h
  unfold m_X5_entryOf_0 at hm
  refine lv_aload_n hx hb dX5_entryOf_0 rfl (lv_at hl 0 rfl) ?_
  refine lv_iload_n hx hb dX5_entryOf_1 rfl (lv_at hl 1 rfl) ?_
  obtain ⟨r3, hq, hm⟩ := gk_bd1_some hm
  refine gk_callV (n := 1) (bytes := cX5_noPoint) (maxL := 2) (ret := (some .boolean)) (Cn := RX5) (T := TX5) (N := 6) [(a5, .inr (3, [.ref a6])), (a6, gk_I G 36 f_now_table_entries)] [(a0, .inr (4, [.ref a1, .ref a7, .int f_isKept, .ref a13, .ref a15, .ref a18])), (a1, .inr (0, [.int f_now_n, .ref a2, .ref a3, .ref a4, .ref a5])), (a5, .inr (3, [.ref a6])), (a6, gk_I G 36 f_now_table_entries)] [] C ⟨hP, hD, hS⟩ (c_X5_noPoint l G a0 a1 a2 a3 a4 a5 a7 a13 a15 a18 f_isKept f_now_n x1 hq) gX5_entryOf_X5_noPoint dX5_entryOf_2 hl.1 [0, 1] [2, 3] [2, 3, 0, 1] rfl rfl ⟨rfl, rfl⟩ ⟨Nat.le_of_ble_eq_true rfl, Nat.le_of_ble_eq_true rfl⟩ ⟨rfl, by decide +kernel, by decide +kernel, by decide +kernel⟩ rfl (fun h => by cases h) (Nat.le_of_ble_eq_true rfl) rfl rfl rfl rfl (by decide) rfl rfl (fun H locs h => ?_)
  obtain ⟨hP, hD, hS⟩ := h
  refine lv_if_ne (tgt := 16) hx hb dX5_entryOf_5 (by decide) (fun c4 => ?_) (fun c4 => ?_)
  · have hm := gk_if c4 hm
    refine lv_bipush (v := -2) hx hb dX5_entryOf_16 (by decide) ?_
    refine lv_goto (tgt := 33) hx hb dX5_entryOf_18 (by decide) ?_
    rw [kr _ (Option.some.inj hm).symm]
    exact gk_iret C ⟨hP, hD, hS⟩ dX5_entryOf_33
  · have hm := gk_it c4 hm
    refine lv_aload_n hx hb dX5_entryOf_8 rfl (lv_at hl 0 rfl) ?_
    refine lv_iload_n hx hb dX5_entryOf_9 rfl (lv_at hl 2 rfl) ?_
    obtain ⟨r5, hq, hm⟩ := gk_bd1_some hm
    refine gk_callV (n := 1) (bytes := cX5_noPoint) (maxL := 2) (ret := (some .boolean)) (Cn := RX5) (T := TX5) (N := 6) [(a5, .inr (3, [.ref a6])), (a6, gk_I G 36 f_now_table_entries)] [(a0, .inr (4, [.ref a1, .ref a7, .int f_isKept, .ref a13, .ref a15, .ref a18])), (a1, .inr (0, [.int f_now_n, .ref a2, .ref a3, .ref a4, .ref a5])), (a5, .inr (3, [.ref a6])), (a6, gk_I G 36 f_now_table_entries)] [] C ⟨hP, hD, hS⟩ (c_X5_noPoint l G a0 a1 a2 a3 a4 a5 a7 a13 a15 a18 f_isKept f_now_n x2 hq) gX5_entryOf_X5_noPoint dX5_entryOf_10 hl.1 [0, 1] [2, 3] [2, 3, 0, 1] rfl rfl ⟨rfl, rfl⟩ ⟨Nat.le_of_ble_eq_true rfl, Nat.le_of_ble_eq_true rfl⟩ ⟨rfl, by decide +kernel, by decide +kernel, by decide +kernel⟩ rfl (fun h => by cases h) (Nat.le_of_ble_eq_true rfl) rfl rfl rfl rfl (by decide) rfl rfl (fun H locs h => ?_)
    obtain ⟨hP, hD, hS⟩ := h
    refine lv_if_eq (tgt := 21) hx hb dX5_entryOf_13 (by decide) (fun c6 => ?_) (fun c6 => ?_)
    · have hm := gk_it c6 hm
      refine lv_aload_n hx hb dX5_entryOf_21 rfl (lv_at hl 0 rfl) ?_
      refine va_get (D := G.1) (cl := vwCl) (own := RX5) (ref := "ExchangeFamilies") (ci := 4) (v := .ref a1) (C := RX5) (T := TX5) (N := 6) hx hb hts k_X5_entryOf_0 hown hK hP 0 rfl rfl 0 (by decide) (hts _ k_X5_entryOf_1) (fun _ h9 => h9) rfl dX5_entryOf_22 ?_
      refine va_get (D := G.1) (cl := vwCl) (own := RX5) (ref := "ExchangeFamilies$Ground") (ci := 0) (v := .ref a5) (C := RX1) (T := TX1) (N := 5) hx hb hts k_X5_entryOf_2 hown hK hP 1 rfl rfl 4 (by decide) (hts _ k_X5_entryOf_3) (fun _ h9 => h9) rfl dX5_entryOf_25 ?_
      refine lv_iload_n hx hb dX5_entryOf_28 rfl (lv_at hl 1 rfl) ?_
      refine lv_iload_n hx hb dX5_entryOf_29 rfl (lv_at hl 2 rfl) ?_
      obtain ⟨r7, hq, hm⟩ := gk_bd1_some hm
      refine gk_callV (n := 2) (bytes := cX4_at) (maxL := 3) (ret := (some .int)) (Cn := RX4) (T := TX4) (N := 1) [(a0, .inr (4, [.ref a1, .ref a7, .int f_isKept, .ref a13, .ref a15, .ref a18])), (a1, .inr (0, [.int f_now_n, .ref a2, .ref a3, .ref a4, .ref a5]))] [(a0, .inr (4, [.ref a1, .ref a7, .int f_isKept, .ref a13, .ref a15, .ref a18])), (a1, .inr (0, [.int f_now_n, .ref a2, .ref a3, .ref a4, .ref a5])), (a5, .inr (3, [.ref a6])), (a6, gk_I G 36 f_now_table_entries)] [] C ⟨hP, hD, hS⟩ (c_X4_at l G a5 a6 f_now_table_entries x1 x2 hq) gX5_entryOf_X4_at dX5_entryOf_30 hl.1 [2, 3] [0, 1] [0, 1, 2, 3] rfl rfl ⟨rfl, rfl⟩ ⟨Nat.le_of_ble_eq_true rfl, Nat.le_of_ble_eq_true rfl⟩ ⟨rfl, by decide +kernel, by decide +kernel, by decide +kernel⟩ rfl (fun h => by cases h) (Nat.le_of_ble_eq_true rfl) rfl rfl rfl rfl (by decide) rfl rfl (fun H locs h => ?_)
      obtain ⟨hP, hD, hS⟩ := h
      rw [kr _ (Option.some.inj hm).symm]
      exact gk_iret C ⟨hP, hD, hS⟩ dX5_entryOf_33
    · have hm := gk_if c6 hm
      refine lv_bipush (v := -2) hx hb dX5_entryOf_16 (by decide) ?_
      refine lv_goto (tgt := 33) hx hb dX5_entryOf_18 (by decide) ?_
      rw [kr _ (Option.some.inj hm).symm]
      exact gk_iret C ⟨hP, hD, hS⟩ dX5_entryOf_33
def m_X5_entryOf (f_now_n : Int32) (f_now_table_entries : (Nat → Int32)) (x1 : Int32) (x2 : Int32) : Option (Int32) := m_X5_entryOf_0 f_now_n f_now_table_entries x1 x2
theorem c_X5_entryOf (l : Launch) (G : gk_G) (a0 a1 a2 a3 a4 a5 a6 a7 a13 a15 a18 : Nat) (f_isKept : Int32) (f_now_n : Int32) (f_now_table_entries : (Nat → Int32)) (x1 : Int32) (x2 : Int32) {rv : Int32} (hm : m_X5_entryOf f_now_n f_now_table_entries x1 x2 = some rv) : gk_M l yX5_entryOf wsX5_entryOf rm_X5_entryOf false G [.ref a0, .int x1, .int x2] [(a0, .inr (4, [.ref a1, .ref a7, .int f_isKept, .ref a13, .ref a15, .ref a18])), (a1, .inr (0, [.int f_now_n, .ref a2, .ref a3, .ref a4, .ref a5])), (a5, .inr (3, [.ref a6])), (a6, gk_I G 36 f_now_table_entries)] (some (.int rv)) [(a0, .inr (4, [.ref a1, .ref a7, .int f_isKept, .ref a13, .ref a15, .ref a18])), (a1, .inr (0, [.int f_now_n, .ref a2, .ref a3, .ref a4, .ref a5])), (a5, .inr (3, [.ref a6])), (a6, gk_I G 36 f_now_table_entries)] :=
  gk_of (by decide) rfl (Nat.le_of_ble_eq_true rfl) (fun p e s m below meth c A ls C h hl => w_X5_entryOf_0 C hm (fun v0 ez => by cases ez; rfl) h (show lv_has ls 3 [(0, .ref a0), (1, .int x1), (2, .int x2)] from hl))

/-! ===== ExchangeFamilies.whole(I)I ===== -/
abbrev rm_X5_whole : Room := { frames := 9, cells := 0, slots := 0, locals := 415 }
def m_X5_whole_0 (f_now_n : Int32) (f_now_table_entries : (Nat → Int32)) (f_scratch_entries : (Nat → Int32)) (x1 : Int32) : Option (Int32 × (Nat → Int32)) := gk_bd1 (m_X5_noSet f_now_n x1) (fun r2 => (if r2 = (0 : Int32) then gk_bd2 (m_X5_determinant f_now_table_entries f_scratch_entries x1) (fun r4 r5 => some (r4, r5)) else some ((-2 : Int32), f_scratch_entries)))
set_option maxRecDepth 100000 in
set_option maxHeartbeats 4000000 in
theorem w_X5_whole_0 {p : Program} {l : Launch} {e : Env} {s : State} {m : MethodId} {args : Array Value} {below : List Frame} {meth : Method} {c : Code} {G : gk_G} {A : Nat → Prop} {Q : State → Prop} {a0 a1 a2 a3 a4 a5 a6 a7 a13 a14 a15 a18 : Nat} (C : gk_C p s m args meth c cX5_whole 2 (some .int) yX5_whole wsX5_whole true G A) {f_now_n : Int32} {f_now_table_entries : (Nat → Int32)} {f_scratch_entries : (Nat → Int32)} {x1 : Int32} {f_isKept : Int32} {yy : Int32 × (Nat → Int32)} (hm : m_X5_whole_0 f_now_n f_now_table_entries f_scratch_entries x1 = some yy) (kr : ∀ (rv : Int32) (g_scratch_entries : (Nat → Int32)), yy = (rv, g_scratch_entries) → Q = MQ below (gk_Q G (some (.int rv)) [(a0, .inr (4, [.ref a1, .ref a7, .int f_isKept, .ref a13, .ref a15, .ref a18])), (a1, .inr (0, [.int f_now_n, .ref a2, .ref a3, .ref a4, .ref a5])), (a5, .inr (3, [.ref a6])), (a6, gk_I G 36 f_now_table_entries), (a13, .inr (3, [.ref a14])), (a14, gk_I G 36 g_scratch_entries)] A) args s 0 0 A) {H : Heap} {locs : List Loc} {ls : Array Slot} (h : gk_H G A s [(a0, .inr (4, [.ref a1, .ref a7, .int f_isKept, .ref a13, .ref a15, .ref a18])), (a1, .inr (0, [.int f_now_n, .ref a2, .ref a3, .ref a4, .ref a5])), (a5, .inr (3, [.ref a6])), (a6, gk_I G 36 f_now_table_entries), (a13, .inr (3, [.ref a14])), (a14, gk_I G 36 f_scratch_entries)] H locs) (hl : lv_has ls 2 [(0, .ref a0), (1, .int x1)]) : W p l e rm_X5_whole s m args below meth c H locs 0 0 Q (F0 m 0 ls []) := by
  obtain ⟨hx, hb, hml, hr, hown, hnm, hts, hlk, hK, hSt, hA⟩ := id C
  obtain ⟨hP, hD, hS⟩ := h
  unfold m_X5_whole_0 at hm
  refine lv_aload_n hx hb dX5_whole_0 rfl (lv_at hl 0 rfl) ?_
  refine lv_iload_n hx hb dX5_whole_1 rfl (lv_at hl 1 rfl) ?_
  obtain ⟨r2, hq, hm⟩ := gk_bd1_some hm
  refine gk_callV (n := 1) (bytes := cX5_noSet) (maxL := 2) (ret := (some .boolean)) (Cn := RX5) (T := TX5) (N := 6) [(a5, .inr (3, [.ref a6])), (a6, gk_I G 36 f_now_table_entries), (a13, .inr (3, [.ref a14])), (a14, gk_I G 36 f_scratch_entries)] [(a0, .inr (4, [.ref a1, .ref a7, .int f_isKept, .ref a13, .ref a15, .ref a18])), (a1, .inr (0, [.int f_now_n, .ref a2, .ref a3, .ref a4, .ref a5])), (a5, .inr (3, [.ref a6])), (a6, gk_I G 36 f_now_table_entries), (a13, .inr (3, [.ref a14])), (a14, gk_I G 36 f_scratch_entries)] [] C ⟨hP, hD, hS⟩ (c_X5_noSet l G a0 a1 a2 a3 a4 a5 a7 a13 a15 a18 f_isKept f_now_n x1 hq) gX5_whole_X5_noSet dX5_whole_2 hl.1 [0, 1] [2, 3, 4, 5] [4, 5, 0, 1, 2, 3] rfl rfl ⟨rfl, rfl⟩ ⟨Nat.le_of_ble_eq_true rfl, Nat.le_of_ble_eq_true rfl⟩ ⟨rfl, by decide +kernel, by decide +kernel, by decide +kernel⟩ rfl (fun h => by cases h) (Nat.le_of_ble_eq_true rfl) rfl rfl rfl rfl (by decide) rfl rfl (fun H locs h => ?_)
  obtain ⟨hP, hD, hS⟩ := h
  refine lv_if_eq (tgt := 13) hx hb dX5_whole_5 (by decide) (fun c3 => ?_) (fun c3 => ?_)
  · have hm := gk_it c3 hm
    refine lv_aload_n hx hb dX5_whole_13 rfl (lv_at hl 0 rfl) ?_
    refine lv_iload_n hx hb dX5_whole_14 rfl (lv_at hl 1 rfl) ?_
    obtain ⟨r4, r5, hq, hm⟩ := gk_bd2_some hm
    refine gk_callV (n := 1) (bytes := cX5_determinant) (maxL := 2) (ret := (some .int)) (Cn := RX5) (T := TX5) (N := 6) [] [(a0, .inr (4, [.ref a1, .ref a7, .int f_isKept, .ref a13, .ref a15, .ref a18])), (a1, .inr (0, [.int f_now_n, .ref a2, .ref a3, .ref a4, .ref a5])), (a5, .inr (3, [.ref a6])), (a6, gk_I G 36 f_now_table_entries), (a13, .inr (3, [.ref a14])), (a14, gk_I G 36 r5)] [] C ⟨hP, hD, hS⟩ (c_X5_determinant l G a0 a1 a2 a3 a4 a5 a6 a7 a13 a14 a15 a18 f_isKept f_now_n f_now_table_entries f_scratch_entries x1 hq) gX5_whole_X5_determinant dX5_whole_15 hl.1 [0, 1, 2, 3, 4, 5] [] [0, 1, 2, 3, 4, 5] rfl rfl ⟨rfl, rfl⟩ ⟨Nat.le_of_ble_eq_true rfl, Nat.le_of_ble_eq_true rfl⟩ ⟨rfl, by decide +kernel, by decide +kernel, by decide +kernel⟩ rfl (fun h => h) (Nat.le_of_ble_eq_true rfl) rfl rfl rfl rfl (by decide) rfl rfl (fun H locs h => ?_)
    obtain ⟨hP, hD, hS⟩ := h
    rw [kr _ _ (Option.some.inj hm).symm]
    exact gk_iret C ⟨hP, hD, hS⟩ dX5_whole_18
  · have hm := gk_if c3 hm
    refine lv_bipush (v := -2) hx hb dX5_whole_8 (by decide) ?_
    refine lv_goto (tgt := 18) hx hb dX5_whole_10 (by decide) ?_
    rw [kr _ _ (Option.some.inj hm).symm]
    exact gk_iret C ⟨hP, hD, hS⟩ dX5_whole_18
def m_X5_whole (f_now_n : Int32) (f_now_table_entries : (Nat → Int32)) (f_scratch_entries : (Nat → Int32)) (x1 : Int32) : Option (Int32 × (Nat → Int32)) := m_X5_whole_0 f_now_n f_now_table_entries f_scratch_entries x1
theorem c_X5_whole (l : Launch) (G : gk_G) (a0 a1 a2 a3 a4 a5 a6 a7 a13 a14 a15 a18 : Nat) (f_isKept : Int32) (f_now_n : Int32) (f_now_table_entries : (Nat → Int32)) (f_scratch_entries : (Nat → Int32)) (x1 : Int32) {rv : Int32} {g_scratch_entries : (Nat → Int32)} (hm : m_X5_whole f_now_n f_now_table_entries f_scratch_entries x1 = some (rv, g_scratch_entries)) : gk_M l yX5_whole wsX5_whole rm_X5_whole true G [.ref a0, .int x1] [(a0, .inr (4, [.ref a1, .ref a7, .int f_isKept, .ref a13, .ref a15, .ref a18])), (a1, .inr (0, [.int f_now_n, .ref a2, .ref a3, .ref a4, .ref a5])), (a5, .inr (3, [.ref a6])), (a6, gk_I G 36 f_now_table_entries), (a13, .inr (3, [.ref a14])), (a14, gk_I G 36 f_scratch_entries)] (some (.int rv)) [(a0, .inr (4, [.ref a1, .ref a7, .int f_isKept, .ref a13, .ref a15, .ref a18])), (a1, .inr (0, [.int f_now_n, .ref a2, .ref a3, .ref a4, .ref a5])), (a5, .inr (3, [.ref a6])), (a6, gk_I G 36 f_now_table_entries), (a13, .inr (3, [.ref a14])), (a14, gk_I G 36 g_scratch_entries)] :=
  gk_of (by decide) rfl (Nat.le_of_ble_eq_true rfl) (fun p e s m below meth c A ls C h hl => w_X5_whole_0 C hm (fun v0 v1 ez => by cases ez; rfl) h (show lv_has ls 2 [(0, .ref a0), (1, .int x1)] from hl))

/-! ===== ExchangeFamilies.pivot(I)I ===== -/
abbrev rm_X5_pivot : Room := { frames := 9, cells := 0, slots := 0, locals := 415 }
theorem k_X5_pivot_0 : ∀ w ∈ u_ws RX5 TX5 6, w ∈ wsX5_pivot := by decide +kernel
theorem k_X5_pivot_1 : Cond.fieldLink RX5 12 "ExchangeFamilies" "now" "LExchangeFamilies$Ground;" ∈ wsX5_pivot := by decide +kernel
theorem k_X5_pivot_2 : ∀ w ∈ u_ws RX1 TX1 5, w ∈ wsX5_pivot := by decide +kernel
theorem k_X5_pivot_3 : Cond.fieldLink RX5 171 "ExchangeFamilies$Ground" "table" "LExchangeFamilies$Table;" ∈ wsX5_pivot := by decide +kernel
def m_X5_pivot_0 (f_now_n : Int32) (f_now_table_entries : (Nat → Int32)) (f_scratch_entries : (Nat → Int32)) (x1 : Int32) : Option (Int32 × (Nat → Int32) × (Nat → Int32)) := gk_bd1 (m_X5_noSet f_now_n x1) (fun r3 => (if r3 = (0 : Int32) then gk_bd2 (m_X5_determinant f_now_table_entries f_scratch_entries x1) (fun r5 r6 => (if r5 = (0 : Int32) then some ((-3 : Int32), f_now_table_entries, r6) else gk_bd2 (m_X4_pivotOn f_now_table_entries x1) (fun r8 r9 => gk_bd1 (m_X4_notZero r9) (fun r10 => some (r10, r9, r6))))) else some ((-2 : Int32), f_now_table_entries, f_scratch_entries)))
set_option maxRecDepth 100000 in
set_option maxHeartbeats 4000000 in
theorem w_X5_pivot_0 {p : Program} {l : Launch} {e : Env} {s : State} {m : MethodId} {args : Array Value} {below : List Frame} {meth : Method} {c : Code} {G : gk_G} {A : Nat → Prop} {Q : State → Prop} {a0 a1 a2 a3 a4 a5 a6 a7 a13 a14 a15 a18 : Nat} (C : gk_C p s m args meth c cX5_pivot 2 (some .int) yX5_pivot wsX5_pivot true G A) {f_now_n : Int32} {f_now_table_entries : (Nat → Int32)} {f_scratch_entries : (Nat → Int32)} {x1 : Int32} {f_isKept : Int32} {yy : Int32 × (Nat → Int32) × (Nat → Int32)} (hm : m_X5_pivot_0 f_now_n f_now_table_entries f_scratch_entries x1 = some yy) (kr : ∀ (rv : Int32) (g_now_table_entries : (Nat → Int32)) (g_scratch_entries : (Nat → Int32)), yy = (rv, g_now_table_entries, g_scratch_entries) → Q = MQ below (gk_Q G (some (.int rv)) [(a0, .inr (4, [.ref a1, .ref a7, .int f_isKept, .ref a13, .ref a15, .ref a18])), (a1, .inr (0, [.int f_now_n, .ref a2, .ref a3, .ref a4, .ref a5])), (a5, .inr (3, [.ref a6])), (a6, gk_I G 36 g_now_table_entries), (a13, .inr (3, [.ref a14])), (a14, gk_I G 36 g_scratch_entries)] A) args s 0 0 A) {H : Heap} {locs : List Loc} {ls : Array Slot} (h : gk_H G A s [(a0, .inr (4, [.ref a1, .ref a7, .int f_isKept, .ref a13, .ref a15, .ref a18])), (a1, .inr (0, [.int f_now_n, .ref a2, .ref a3, .ref a4, .ref a5])), (a5, .inr (3, [.ref a6])), (a6, gk_I G 36 f_now_table_entries), (a13, .inr (3, [.ref a14])), (a14, gk_I G 36 f_scratch_entries)] H locs) (hl : lv_has ls 2 [(0, .ref a0), (1, .int x1)]) : W p l e rm_X5_pivot s m args below meth c H locs 0 0 Q (F0 m 0 ls []) := by
  obtain ⟨hx, hb, hml, hr, hown, hnm, hts, hlk, hK, hSt, hA⟩ := id C
  obtain ⟨hP, hD, hS⟩ := h
  unfold m_X5_pivot_0 at hm
  refine lv_aload_n hx hb dX5_pivot_0 rfl (lv_at hl 0 rfl) ?_
  refine lv_iload_n hx hb dX5_pivot_1 rfl (lv_at hl 1 rfl) ?_
  obtain ⟨r3, hq, hm⟩ := gk_bd1_some hm
  refine gk_callV (n := 1) (bytes := cX5_noSet) (maxL := 2) (ret := (some .boolean)) (Cn := RX5) (T := TX5) (N := 6) [(a5, .inr (3, [.ref a6])), (a6, gk_I G 36 f_now_table_entries), (a13, .inr (3, [.ref a14])), (a14, gk_I G 36 f_scratch_entries)] [(a0, .inr (4, [.ref a1, .ref a7, .int f_isKept, .ref a13, .ref a15, .ref a18])), (a1, .inr (0, [.int f_now_n, .ref a2, .ref a3, .ref a4, .ref a5])), (a5, .inr (3, [.ref a6])), (a6, gk_I G 36 f_now_table_entries), (a13, .inr (3, [.ref a14])), (a14, gk_I G 36 f_scratch_entries)] [] C ⟨hP, hD, hS⟩ (c_X5_noSet l G a0 a1 a2 a3 a4 a5 a7 a13 a15 a18 f_isKept f_now_n x1 hq) gX5_pivot_X5_noSet dX5_pivot_2 hl.1 [0, 1] [2, 3, 4, 5] [4, 5, 0, 1, 2, 3] rfl rfl ⟨rfl, rfl⟩ ⟨Nat.le_of_ble_eq_true rfl, Nat.le_of_ble_eq_true rfl⟩ ⟨rfl, by decide +kernel, by decide +kernel, by decide +kernel⟩ rfl (fun h => by cases h) (Nat.le_of_ble_eq_true rfl) rfl rfl rfl rfl (by decide) rfl rfl (fun H locs h => ?_)
  obtain ⟨hP, hD, hS⟩ := h
  refine lv_if_eq (tgt := 11) hx hb dX5_pivot_5 (by decide) (fun c4 => ?_) (fun c4 => ?_)
  · have hm := gk_it c4 hm
    refine lv_aload_n hx hb dX5_pivot_11 rfl (lv_at hl 0 rfl) ?_
    refine lv_iload_n hx hb dX5_pivot_12 rfl (lv_at hl 1 rfl) ?_
    obtain ⟨r5, r6, hq, hm⟩ := gk_bd2_some hm
    refine gk_callV (n := 1) (bytes := cX5_determinant) (maxL := 2) (ret := (some .int)) (Cn := RX5) (T := TX5) (N := 6) [] [(a0, .inr (4, [.ref a1, .ref a7, .int f_isKept, .ref a13, .ref a15, .ref a18])), (a1, .inr (0, [.int f_now_n, .ref a2, .ref a3, .ref a4, .ref a5])), (a5, .inr (3, [.ref a6])), (a6, gk_I G 36 f_now_table_entries), (a13, .inr (3, [.ref a14])), (a14, gk_I G 36 r6)] [] C ⟨hP, hD, hS⟩ (c_X5_determinant l G a0 a1 a2 a3 a4 a5 a6 a7 a13 a14 a15 a18 f_isKept f_now_n f_now_table_entries f_scratch_entries x1 hq) gX5_pivot_X5_determinant dX5_pivot_13 hl.1 [0, 1, 2, 3, 4, 5] [] [0, 1, 2, 3, 4, 5] rfl rfl ⟨rfl, rfl⟩ ⟨Nat.le_of_ble_eq_true rfl, Nat.le_of_ble_eq_true rfl⟩ ⟨rfl, by decide +kernel, by decide +kernel, by decide +kernel⟩ rfl (fun h => h) (Nat.le_of_ble_eq_true rfl) rfl rfl rfl rfl (by decide) rfl rfl (fun H locs h => ?_)
    obtain ⟨hP, hD, hS⟩ := h
    refine lv_if_ne (tgt := 22) hx hb dX5_pivot_16 (by decide) (fun c7 => ?_) (fun c7 => ?_)
    · have hm := gk_if c7 hm
      refine lv_aload_n hx hb dX5_pivot_22 rfl (lv_at hl 0 rfl) ?_
      refine va_get (D := G.1) (cl := vwCl) (own := RX5) (ref := "ExchangeFamilies") (ci := 4) (v := .ref a1) (C := RX5) (T := TX5) (N := 6) hx hb hts k_X5_pivot_0 hown hK hP 0 rfl rfl 0 (by decide) (hts _ k_X5_pivot_1) (fun _ h9 => h9) rfl dX5_pivot_23 ?_
      refine va_get (D := G.1) (cl := vwCl) (own := RX5) (ref := "ExchangeFamilies$Ground") (ci := 0) (v := .ref a5) (C := RX1) (T := TX1) (N := 5) hx hb hts k_X5_pivot_2 hown hK hP 1 rfl rfl 4 (by decide) (hts _ k_X5_pivot_3) (fun _ h9 => h9) rfl dX5_pivot_26 ?_
      refine lv_iload_n hx hb dX5_pivot_29 rfl (lv_at hl 1 rfl) ?_
      obtain ⟨r8, r9, hq, hm⟩ := gk_bd2_some hm
      refine gk_callV (n := 1) (bytes := cX4_pivotOn) (maxL := 6) (ret := (some .int)) (Cn := RX4) (T := TX4) (N := 1) [(a0, .inr (4, [.ref a1, .ref a7, .int f_isKept, .ref a13, .ref a15, .ref a18])), (a1, .inr (0, [.int f_now_n, .ref a2, .ref a3, .ref a4, .ref a5])), (a13, .inr (3, [.ref a14])), (a14, gk_I G 36 r6)] [(a0, .inr (4, [.ref a1, .ref a7, .int f_isKept, .ref a13, .ref a15, .ref a18])), (a1, .inr (0, [.int f_now_n, .ref a2, .ref a3, .ref a4, .ref a5])), (a5, .inr (3, [.ref a6])), (a6, gk_I G 36 r9), (a13, .inr (3, [.ref a14])), (a14, gk_I G 36 r6)] [] C ⟨hP, hD, hS⟩ (c_X4_pivotOn l G a5 a6 f_now_table_entries x1 hq) gX5_pivot_X4_pivotOn dX5_pivot_30 hl.1 [2, 3] [0, 1, 4, 5] [0, 1, 4, 5, 2, 3] rfl rfl ⟨rfl, rfl⟩ ⟨Nat.le_of_ble_eq_true rfl, Nat.le_of_ble_eq_true rfl⟩ ⟨rfl, by decide +kernel, by decide +kernel, by decide +kernel⟩ rfl (fun h => h) (Nat.le_of_ble_eq_true rfl) rfl rfl rfl rfl (by decide) rfl rfl (fun H locs h => ?_)
      obtain ⟨hP, hD, hS⟩ := h
      refine lv_pop hx hb dX5_pivot_33 rfl ?_
      refine lv_aload_n hx hb dX5_pivot_34 rfl (lv_at hl 0 rfl) ?_
      refine va_get (D := G.1) (cl := vwCl) (own := RX5) (ref := "ExchangeFamilies") (ci := 4) (v := .ref a1) (C := RX5) (T := TX5) (N := 6) hx hb hts k_X5_pivot_0 hown hK hP 0 rfl rfl 0 (by decide) (hts _ k_X5_pivot_1) (fun _ h9 => h9) rfl dX5_pivot_35 ?_
      refine va_get (D := G.1) (cl := vwCl) (own := RX5) (ref := "ExchangeFamilies$Ground") (ci := 0) (v := .ref a5) (C := RX1) (T := TX1) (N := 5) hx hb hts k_X5_pivot_2 hown hK hP 1 rfl rfl 4 (by decide) (hts _ k_X5_pivot_3) (fun _ h9 => h9) rfl dX5_pivot_38 ?_
      obtain ⟨r10, hq, hm⟩ := gk_bd1_some hm
      refine gk_callV (n := 0) (bytes := cX4_notZero) (maxL := 6) (ret := (some .int)) (Cn := RX4) (T := TX4) (N := 1) [(a0, .inr (4, [.ref a1, .ref a7, .int f_isKept, .ref a13, .ref a15, .ref a18])), (a1, .inr (0, [.int f_now_n, .ref a2, .ref a3, .ref a4, .ref a5])), (a13, .inr (3, [.ref a14])), (a14, gk_I G 36 r6)] [(a0, .inr (4, [.ref a1, .ref a7, .int f_isKept, .ref a13, .ref a15, .ref a18])), (a1, .inr (0, [.int f_now_n, .ref a2, .ref a3, .ref a4, .ref a5])), (a5, .inr (3, [.ref a6])), (a6, gk_I G 36 r9), (a13, .inr (3, [.ref a14])), (a14, gk_I G 36 r6)] [] C ⟨hP, hD, hS⟩ (c_X4_notZero l G a5 a6 r9 hq) gX5_pivot_X4_notZero dX5_pivot_41 hl.1 [2, 3] [0, 1, 4, 5] [0, 1, 4, 5, 2, 3] rfl rfl ⟨rfl, rfl⟩ ⟨Nat.le_of_ble_eq_true rfl, Nat.le_of_ble_eq_true rfl⟩ ⟨rfl, by decide +kernel, by decide +kernel, by decide +kernel⟩ rfl (fun h => by cases h) (Nat.le_of_ble_eq_true rfl) rfl rfl rfl rfl (by decide) rfl rfl (fun H locs h => ?_)
      obtain ⟨hP, hD, hS⟩ := h
      rw [kr _ _ _ (Option.some.inj hm).symm]
      exact gk_iret C ⟨hP, hD, hS⟩ dX5_pivot_44
    · have hm := gk_it c7 hm
      refine lv_bipush (v := -3) hx hb dX5_pivot_19 (by decide) ?_
      rw [kr _ _ _ (Option.some.inj hm).symm]
      exact gk_iret C ⟨hP, hD, hS⟩ dX5_pivot_21
  · have hm := gk_if c4 hm
    refine lv_bipush (v := -2) hx hb dX5_pivot_8 (by decide) ?_
    rw [kr _ _ _ (Option.some.inj hm).symm]
    exact gk_iret C ⟨hP, hD, hS⟩ dX5_pivot_10
def m_X5_pivot (f_now_n : Int32) (f_now_table_entries : (Nat → Int32)) (f_scratch_entries : (Nat → Int32)) (x1 : Int32) : Option (Int32 × (Nat → Int32) × (Nat → Int32)) := m_X5_pivot_0 f_now_n f_now_table_entries f_scratch_entries x1
theorem c_X5_pivot (l : Launch) (G : gk_G) (a0 a1 a2 a3 a4 a5 a6 a7 a13 a14 a15 a18 : Nat) (f_isKept : Int32) (f_now_n : Int32) (f_now_table_entries : (Nat → Int32)) (f_scratch_entries : (Nat → Int32)) (x1 : Int32) {rv : Int32} {g_now_table_entries : (Nat → Int32)} {g_scratch_entries : (Nat → Int32)} (hm : m_X5_pivot f_now_n f_now_table_entries f_scratch_entries x1 = some (rv, g_now_table_entries, g_scratch_entries)) : gk_M l yX5_pivot wsX5_pivot rm_X5_pivot true G [.ref a0, .int x1] [(a0, .inr (4, [.ref a1, .ref a7, .int f_isKept, .ref a13, .ref a15, .ref a18])), (a1, .inr (0, [.int f_now_n, .ref a2, .ref a3, .ref a4, .ref a5])), (a5, .inr (3, [.ref a6])), (a6, gk_I G 36 f_now_table_entries), (a13, .inr (3, [.ref a14])), (a14, gk_I G 36 f_scratch_entries)] (some (.int rv)) [(a0, .inr (4, [.ref a1, .ref a7, .int f_isKept, .ref a13, .ref a15, .ref a18])), (a1, .inr (0, [.int f_now_n, .ref a2, .ref a3, .ref a4, .ref a5])), (a5, .inr (3, [.ref a6])), (a6, gk_I G 36 g_now_table_entries), (a13, .inr (3, [.ref a14])), (a14, gk_I G 36 g_scratch_entries)] :=
  gk_of (by decide) rfl (Nat.le_of_ble_eq_true rfl) (fun p e s m below meth c A ls C h hl => w_X5_pivot_0 C hm (fun v0 v1 v2 ez => by cases ez; rfl) h (show lv_has ls 2 [(0, .ref a0), (1, .int x1)] from hl))

/-! ===== ExchangeFamilies.jumps(III)I ===== -/
abbrev rm_X5_jumps : Room := { frames := 11, cells := 0, slots := 0, locals := 500 }
theorem k_X5_jumps_0 : ∀ w ∈ u_ws RX5 TX5 6, w ∈ wsX5_jumps := by decide +kernel
theorem k_X5_jumps_1 : Cond.fieldLink RX5 12 "ExchangeFamilies" "now" "LExchangeFamilies$Ground;" ∈ wsX5_jumps := by decide +kernel
theorem k_X5_jumps_2 : Cond.fieldLink RX5 35 "ExchangeFamilies" "sums" "LExchangeFamilies$Sums;" ∈ wsX5_jumps := by decide +kernel
theorem k_X5_jumps_3 : ∀ w ∈ u_ws RX1 TX1 5, w ∈ wsX5_jumps := by decide +kernel
theorem k_X5_jumps_4 : Cond.fieldLink RX5 61 "ExchangeFamilies$Ground" "members" "[J" ∈ wsX5_jumps := by decide +kernel
theorem k_X5_jumps_5 : Cond.fieldLink RX5 46 "ExchangeFamilies$Ground" "n" "I" ∈ wsX5_jumps := by decide +kernel
def m_X5_jumps_0 (f_now_n : Int32) (f_now_members : (Nat → Int64)) (f_now_kinds : (Nat → Int32)) (f_sums_n : Int32) (f_sums_boths : (Nat → Int64)) (f_sums_ternary : (Nat → Int32)) (x1 : Int32) (x2 : Int32) (x3 : Int32) : Option (Int32 × Int32 × (Nat → Int64)) := gk_bd1 (m_X5_noFamily x1) (fun r11 => (if r11 = (0 : Int32) then gk_bd1 (m_X5_noFamily x2) (fun r13 => (if r13 = (0 : Int32) then (if x3 < (0 : Int32) then some ((-2 : Int32), f_sums_n, f_sums_boths) else (if x3 ≤ (3 : Int32) then gk_bd1 (m_X1_isMissing f_now_kinds x1) (fun r17 => (if r17 = (0 : Int32) then gk_bd1 (m_X1_isMissing f_now_kinds x2) (fun r19 => (if r19 = (0 : Int32) then gk_ix x1 6 (gk_ix x2 6 (gk_bd2 (m_X3_fill f_sums_n f_sums_boths (f_now_members x1.toNatClampNeg) (f_now_members x2.toNatClampNeg) f_now_n) (fun r21 r22 => (if x3 = 0 then gk_bd1 (m_X3_howMany r22) (fun r24 => some (r24, r21, r22)) else (if x3 = 1 then gk_bd1 (m_X3_areSprung r21 r22) (fun r26 => (if r26 = (0 : Int32) then some ((0 : Int32), r21, r22) else some ((1 : Int32), r21, r22))) else (if x3 = 2 then gk_bd1 (m_X3_least r21 r22 f_sums_ternary) (fun r29 => some (r29, r21, r22)) else gk_bd1 (m_X3_greatest r21 r22 f_sums_ternary) (fun r30 => some (r30, r21, r22)))))))) else some ((-11 : Int32), f_sums_n, f_sums_boths))) else some ((-11 : Int32), f_sums_n, f_sums_boths))) else some ((-2 : Int32), f_sums_n, f_sums_boths))) else some ((-2 : Int32), f_sums_n, f_sums_boths))) else some ((-2 : Int32), f_sums_n, f_sums_boths)))
set_option maxRecDepth 100000 in
set_option maxHeartbeats 4000000 in
theorem w_X5_jumps_0 {p : Program} {l : Launch} {e : Env} {s : State} {m : MethodId} {args : Array Value} {below : List Frame} {meth : Method} {c : Code} {G : gk_G} {A : Nat → Prop} {Q : State → Prop} {a0 a1 a2 a3 a4 a5 a7 a13 a15 a16 a17 a18 : Nat} (C : gk_C p s m args meth c cX5_jumps 4 (some .int) yX5_jumps wsX5_jumps true G A) {f_now_n : Int32} {f_now_members : (Nat → Int64)} {f_now_kinds : (Nat → Int32)} {f_sums_n : Int32} {f_sums_boths : (Nat → Int64)} {f_sums_ternary : (Nat → Int32)} {x1 : Int32} {x2 : Int32} {x3 : Int32} {f_isKept : Int32} {yy : Int32 × Int32 × (Nat → Int64)} (hm : m_X5_jumps_0 f_now_n f_now_members f_now_kinds f_sums_n f_sums_boths f_sums_ternary x1 x2 x3 = some yy) (kr : ∀ (rv : Int32) (g_sums_n : Int32) (g_sums_boths : (Nat → Int64)), yy = (rv, g_sums_n, g_sums_boths) → Q = MQ below (gk_Q G (some (.int rv)) [(a0, .inr (4, [.ref a1, .ref a7, .int f_isKept, .ref a13, .ref a15, .ref a18])), (a1, .inr (0, [.int f_now_n, .ref a2, .ref a3, .ref a4, .ref a5])), (a2, gk_J G 6 f_now_members), (a3, gk_I G 6 f_now_kinds), (a15, .inr (2, [.int g_sums_n, .ref a16, .ref a17])), (a16, gk_J G 64 g_sums_boths), (a17, gk_I G 64 f_sums_ternary)] A) args s 0 0 A) {H : Heap} {locs : List Loc} {ls : Array Slot} (h : gk_H G A s [(a0, .inr (4, [.ref a1, .ref a7, .int f_isKept, .ref a13, .ref a15, .ref a18])), (a1, .inr (0, [.int f_now_n, .ref a2, .ref a3, .ref a4, .ref a5])), (a2, gk_J G 6 f_now_members), (a3, gk_I G 6 f_now_kinds), (a15, .inr (2, [.int f_sums_n, .ref a16, .ref a17])), (a16, gk_J G 64 f_sums_boths), (a17, gk_I G 64 f_sums_ternary)] H locs) (hl : lv_has ls 4 [(0, .ref a0), (1, .int x1), (2, .int x2), (3, .int x3)]) : W p l e rm_X5_jumps s m args below meth c H locs 0 0 Q (F0 m 0 ls []) := by
  obtain ⟨hx, hb, hml, hr, hown, hnm, hts, hlk, hK, hSt, hA⟩ := id C
  obtain ⟨hP, hD, hS⟩ := h
  unfold m_X5_jumps_0 at hm
  refine lv_iload_n hx hb dX5_jumps_0 rfl (lv_at hl 1 rfl) ?_
  obtain ⟨r11, hq, hm⟩ := gk_bd1_some hm
  refine gk_callS (n := 1) (bytes := cX5_noFamily) (maxL := 1) (ret := (some .boolean)) [(a0, .inr (4, [.ref a1, .ref a7, .int f_isKept, .ref a13, .ref a15, .ref a18])), (a1, .inr (0, [.int f_now_n, .ref a2, .ref a3, .ref a4, .ref a5])), (a2, gk_J G 6 f_now_members), (a3, gk_I G 6 f_now_kinds), (a15, .inr (2, [.int f_sums_n, .ref a16, .ref a17])), (a16, gk_J G 64 f_sums_boths), (a17, gk_I G 64 f_sums_ternary)] [(a0, .inr (4, [.ref a1, .ref a7, .int f_isKept, .ref a13, .ref a15, .ref a18])), (a1, .inr (0, [.int f_now_n, .ref a2, .ref a3, .ref a4, .ref a5])), (a2, gk_J G 6 f_now_members), (a3, gk_I G 6 f_now_kinds), (a15, .inr (2, [.int f_sums_n, .ref a16, .ref a17])), (a16, gk_J G 64 f_sums_boths), (a17, gk_I G 64 f_sums_ternary)] [] C ⟨hP, hD, hS⟩ (c_X5_noFamily l G x1 hq) gX5_jumps_X5_noFamily dX5_jumps_1 hl.1 [] [0, 1, 2, 3, 4, 5, 6] [0, 1, 2, 3, 4, 5, 6] rfl ⟨rfl, rfl⟩ ⟨Nat.le_of_ble_eq_true rfl, Nat.le_of_ble_eq_true rfl⟩ ⟨by decide +kernel, by decide +kernel, by decide +kernel⟩ rfl (fun h => by cases h) (Nat.le_of_ble_eq_true rfl) rfl rfl rfl rfl (by decide) rfl rfl (fun H locs h => ?_)
  obtain ⟨hP, hD, hS⟩ := h
  refine lv_if_ne (tgt := 23) hx hb dX5_jumps_4 (by decide) (fun c12 => ?_) (fun c12 => ?_)
  · have hm := gk_if c12 hm
    refine lv_bipush (v := -2) hx hb dX5_jumps_23 (by decide) ?_
    rw [kr _ _ _ (Option.some.inj hm).symm]
    exact gk_iret C ⟨hP, hD, hS⟩ dX5_jumps_25
  · have hm := gk_it c12 hm
    refine lv_iload_n hx hb dX5_jumps_7 rfl (lv_at hl 2 rfl) ?_
    obtain ⟨r13, hq, hm⟩ := gk_bd1_some hm
    refine gk_callS (n := 1) (bytes := cX5_noFamily) (maxL := 1) (ret := (some .boolean)) [(a0, .inr (4, [.ref a1, .ref a7, .int f_isKept, .ref a13, .ref a15, .ref a18])), (a1, .inr (0, [.int f_now_n, .ref a2, .ref a3, .ref a4, .ref a5])), (a2, gk_J G 6 f_now_members), (a3, gk_I G 6 f_now_kinds), (a15, .inr (2, [.int f_sums_n, .ref a16, .ref a17])), (a16, gk_J G 64 f_sums_boths), (a17, gk_I G 64 f_sums_ternary)] [(a0, .inr (4, [.ref a1, .ref a7, .int f_isKept, .ref a13, .ref a15, .ref a18])), (a1, .inr (0, [.int f_now_n, .ref a2, .ref a3, .ref a4, .ref a5])), (a2, gk_J G 6 f_now_members), (a3, gk_I G 6 f_now_kinds), (a15, .inr (2, [.int f_sums_n, .ref a16, .ref a17])), (a16, gk_J G 64 f_sums_boths), (a17, gk_I G 64 f_sums_ternary)] [] C ⟨hP, hD, hS⟩ (c_X5_noFamily l G x2 hq) gX5_jumps_X5_noFamily dX5_jumps_8 hl.1 [] [0, 1, 2, 3, 4, 5, 6] [0, 1, 2, 3, 4, 5, 6] rfl ⟨rfl, rfl⟩ ⟨Nat.le_of_ble_eq_true rfl, Nat.le_of_ble_eq_true rfl⟩ ⟨by decide +kernel, by decide +kernel, by decide +kernel⟩ rfl (fun h => by cases h) (Nat.le_of_ble_eq_true rfl) rfl rfl rfl rfl (by decide) rfl rfl (fun H locs h => ?_)
    obtain ⟨hP, hD, hS⟩ := h
    refine lv_if_ne (tgt := 23) hx hb dX5_jumps_11 (by decide) (fun c14 => ?_) (fun c14 => ?_)
    · have hm := gk_if c14 hm
      refine lv_bipush (v := -2) hx hb dX5_jumps_23 (by decide) ?_
      rw [kr _ _ _ (Option.some.inj hm).symm]
      exact gk_iret C ⟨hP, hD, hS⟩ dX5_jumps_25
    · have hm := gk_it c14 hm
      refine lv_iload_n hx hb dX5_jumps_14 rfl (lv_at hl 3 rfl) ?_
      refine lv_if_lt (tgt := 23) hx hb dX5_jumps_15 (by decide) (fun c15 => ?_) (fun c15 => ?_)
      · have hm := gk_it c15 hm
        refine lv_bipush (v := -2) hx hb dX5_jumps_23 (by decide) ?_
        rw [kr _ _ _ (Option.some.inj hm).symm]
        exact gk_iret C ⟨hP, hD, hS⟩ dX5_jumps_25
      · have hm := gk_if c15 hm
        refine lv_iload_n hx hb dX5_jumps_18 rfl (lv_at hl 3 rfl) ?_
        refine lv_iconst (v := 3) hx hb dX5_jumps_19 (by decide) ?_
        refine lv_icmp_le (tgt := 26) hx hb dX5_jumps_20 (by decide) (fun c16 => ?_) (fun c16 => ?_)
        · have hm := gk_it c16 hm
          refine lv_aload_n hx hb dX5_jumps_26 rfl (lv_at hl 0 rfl) ?_
          refine va_get (D := G.1) (cl := vwCl) (own := RX5) (ref := "ExchangeFamilies") (ci := 4) (v := .ref a1) (C := RX5) (T := TX5) (N := 6) hx hb hts k_X5_jumps_0 hown hK hP 0 rfl rfl 0 (by decide) (hts _ k_X5_jumps_1) (fun _ h9 => h9) rfl dX5_jumps_27 ?_
          refine lv_iload_n hx hb dX5_jumps_30 rfl (lv_at hl 1 rfl) ?_
          obtain ⟨r17, hq, hm⟩ := gk_bd1_some hm
          refine gk_callV (n := 1) (bytes := cX1_isMissing) (maxL := 2) (ret := (some .boolean)) (Cn := RX1) (T := TX1) (N := 5) [(a0, .inr (4, [.ref a1, .ref a7, .int f_isKept, .ref a13, .ref a15, .ref a18])), (a2, gk_J G 6 f_now_members), (a15, .inr (2, [.int f_sums_n, .ref a16, .ref a17])), (a16, gk_J G 64 f_sums_boths), (a17, gk_I G 64 f_sums_ternary)] [(a0, .inr (4, [.ref a1, .ref a7, .int f_isKept, .ref a13, .ref a15, .ref a18])), (a1, .inr (0, [.int f_now_n, .ref a2, .ref a3, .ref a4, .ref a5])), (a2, gk_J G 6 f_now_members), (a3, gk_I G 6 f_now_kinds), (a15, .inr (2, [.int f_sums_n, .ref a16, .ref a17])), (a16, gk_J G 64 f_sums_boths), (a17, gk_I G 64 f_sums_ternary)] [] C ⟨hP, hD, hS⟩ (c_X1_isMissing l G a1 a2 a3 a4 a5 f_now_n f_now_kinds x1 hq) gX5_jumps_X1_isMissing dX5_jumps_31 hl.1 [1, 3] [0, 2, 4, 5, 6] [0, 5, 1, 6, 2, 3, 4] rfl rfl ⟨rfl, rfl⟩ ⟨Nat.le_of_ble_eq_true rfl, Nat.le_of_ble_eq_true rfl⟩ ⟨rfl, by decide +kernel, by decide +kernel, by decide +kernel⟩ rfl (fun h => by cases h) (Nat.le_of_ble_eq_true rfl) rfl rfl rfl rfl (by decide) rfl rfl (fun H locs h => ?_)
          obtain ⟨hP, hD, hS⟩ := h
          refine lv_if_ne (tgt := 48) hx hb dX5_jumps_34 (by decide) (fun c18 => ?_) (fun c18 => ?_)
          · have hm := gk_if c18 hm
            refine lv_bipush (v := -11) hx hb dX5_jumps_48 (by decide) ?_
            rw [kr _ _ _ (Option.some.inj hm).symm]
            exact gk_iret C ⟨hP, hD, hS⟩ dX5_jumps_50
          · have hm := gk_it c18 hm
            refine lv_aload_n hx hb dX5_jumps_37 rfl (lv_at hl 0 rfl) ?_
            refine va_get (D := G.1) (cl := vwCl) (own := RX5) (ref := "ExchangeFamilies") (ci := 4) (v := .ref a1) (C := RX5) (T := TX5) (N := 6) hx hb hts k_X5_jumps_0 hown hK hP 0 rfl rfl 0 (by decide) (hts _ k_X5_jumps_1) (fun _ h9 => h9) rfl dX5_jumps_38 ?_
            refine lv_iload_n hx hb dX5_jumps_41 rfl (lv_at hl 2 rfl) ?_
            obtain ⟨r19, hq, hm⟩ := gk_bd1_some hm
            refine gk_callV (n := 1) (bytes := cX1_isMissing) (maxL := 2) (ret := (some .boolean)) (Cn := RX1) (T := TX1) (N := 5) [(a0, .inr (4, [.ref a1, .ref a7, .int f_isKept, .ref a13, .ref a15, .ref a18])), (a2, gk_J G 6 f_now_members), (a15, .inr (2, [.int f_sums_n, .ref a16, .ref a17])), (a16, gk_J G 64 f_sums_boths), (a17, gk_I G 64 f_sums_ternary)] [(a0, .inr (4, [.ref a1, .ref a7, .int f_isKept, .ref a13, .ref a15, .ref a18])), (a1, .inr (0, [.int f_now_n, .ref a2, .ref a3, .ref a4, .ref a5])), (a2, gk_J G 6 f_now_members), (a3, gk_I G 6 f_now_kinds), (a15, .inr (2, [.int f_sums_n, .ref a16, .ref a17])), (a16, gk_J G 64 f_sums_boths), (a17, gk_I G 64 f_sums_ternary)] [] C ⟨hP, hD, hS⟩ (c_X1_isMissing l G a1 a2 a3 a4 a5 f_now_n f_now_kinds x2 hq) gX5_jumps_X1_isMissing dX5_jumps_42 hl.1 [1, 3] [0, 2, 4, 5, 6] [0, 5, 1, 6, 2, 3, 4] rfl rfl ⟨rfl, rfl⟩ ⟨Nat.le_of_ble_eq_true rfl, Nat.le_of_ble_eq_true rfl⟩ ⟨rfl, by decide +kernel, by decide +kernel, by decide +kernel⟩ rfl (fun h => by cases h) (Nat.le_of_ble_eq_true rfl) rfl rfl rfl rfl (by decide) rfl rfl (fun H locs h => ?_)
            obtain ⟨hP, hD, hS⟩ := h
            refine lv_if_eq (tgt := 51) hx hb dX5_jumps_45 (by decide) (fun c20 => ?_) (fun c20 => ?_)
            · have hm := gk_it c20 hm
              refine lv_aload_n hx hb dX5_jumps_51 rfl (lv_at hl 0 rfl) ?_
              refine va_get (D := G.1) (cl := vwCl) (own := RX5) (ref := "ExchangeFamilies") (ci := 4) (v := .ref a15) (C := RX5) (T := TX5) (N := 6) hx hb hts k_X5_jumps_0 hown hK hP 0 rfl rfl 4 (by decide) (hts _ k_X5_jumps_2) (fun _ h9 => h9) rfl dX5_jumps_52 ?_
              refine lv_aload_n hx hb dX5_jumps_55 rfl (lv_at hl 0 rfl) ?_
              refine va_get (D := G.1) (cl := vwCl) (own := RX5) (ref := "ExchangeFamilies") (ci := 4) (v := .ref a1) (C := RX5) (T := TX5) (N := 6) hx hb hts k_X5_jumps_0 hown hK hP 0 rfl rfl 0 (by decide) (hts _ k_X5_jumps_1) (fun _ h9 => h9) rfl dX5_jumps_56 ?_
              refine va_get (D := G.1) (cl := vwCl) (own := RX5) (ref := "ExchangeFamilies$Ground") (ci := 0) (v := .ref a2) (C := RX1) (T := TX1) (N := 5) hx hb hts k_X5_jumps_3 hown hK hP 1 rfl rfl 1 (by decide) (hts _ k_X5_jumps_4) (fun _ h9 => h9) rfl dX5_jumps_59 ?_
              refine lv_iload_n hx hb dX5_jumps_62 rfl (lv_at hl 1 rfl) ?_
              obtain ⟨hi, hm⟩ := gk_ix_some hm
              refine va_lald hx hb hK hP 2 1 rfl rfl hi dX5_jumps_63 ?_
              refine lv_aload_n hx hb dX5_jumps_64 rfl (lv_at hl 0 rfl) ?_
              refine va_get (D := G.1) (cl := vwCl) (own := RX5) (ref := "ExchangeFamilies") (ci := 4) (v := .ref a1) (C := RX5) (T := TX5) (N := 6) hx hb hts k_X5_jumps_0 hown hK hP 0 rfl rfl 0 (by decide) (hts _ k_X5_jumps_1) (fun _ h9 => h9) rfl dX5_jumps_65 ?_
              refine va_get (D := G.1) (cl := vwCl) (own := RX5) (ref := "ExchangeFamilies$Ground") (ci := 0) (v := .ref a2) (C := RX1) (T := TX1) (N := 5) hx hb hts k_X5_jumps_3 hown hK hP 1 rfl rfl 1 (by decide) (hts _ k_X5_jumps_4) (fun _ h9 => h9) rfl dX5_jumps_68 ?_
              refine lv_iload_n hx hb dX5_jumps_71 rfl (lv_at hl 2 rfl) ?_
              obtain ⟨hi, hm⟩ := gk_ix_some hm
              refine va_lald hx hb hK hP 2 1 rfl rfl hi dX5_jumps_72 ?_
              refine lv_aload_n hx hb dX5_jumps_73 rfl (lv_at hl 0 rfl) ?_
              refine va_get (D := G.1) (cl := vwCl) (own := RX5) (ref := "ExchangeFamilies") (ci := 4) (v := .ref a1) (C := RX5) (T := TX5) (N := 6) hx hb hts k_X5_jumps_0 hown hK hP 0 rfl rfl 0 (by decide) (hts _ k_X5_jumps_1) (fun _ h9 => h9) rfl dX5_jumps_74 ?_
              refine va_get (D := G.1) (cl := vwCl) (own := RX5) (ref := "ExchangeFamilies$Ground") (ci := 0) (v := .int f_now_n) (C := RX1) (T := TX1) (N := 5) hx hb hts k_X5_jumps_3 hown hK hP 1 rfl rfl 0 (by decide) (hts _ k_X5_jumps_5) (fun _ h9 => h9) rfl dX5_jumps_77 ?_
              obtain ⟨r21, r22, hq, hm⟩ := gk_bd2_some hm
              refine gk_callV (n := 3) (bytes := cX3_fill) (maxL := 7) (ret := none) (Cn := RX3) (T := TX3) (N := 3) [(a0, .inr (4, [.ref a1, .ref a7, .int f_isKept, .ref a13, .ref a15, .ref a18])), (a1, .inr (0, [.int f_now_n, .ref a2, .ref a3, .ref a4, .ref a5])), (a2, gk_J G 6 f_now_members), (a3, gk_I G 6 f_now_kinds), (a17, gk_I G 64 f_sums_ternary)] [(a0, .inr (4, [.ref a1, .ref a7, .int f_isKept, .ref a13, .ref a15, .ref a18])), (a1, .inr (0, [.int f_now_n, .ref a2, .ref a3, .ref a4, .ref a5])), (a2, gk_J G 6 f_now_members), (a3, gk_I G 6 f_now_kinds), (a15, .inr (2, [.int r21, .ref a16, .ref a17])), (a16, gk_J G 64 r22), (a17, gk_I G 64 f_sums_ternary)] [] C ⟨hP, hD, hS⟩ (c_X3_fill l G a15 a16 a17 f_sums_n f_sums_boths (f_now_members x1.toNatClampNeg) (f_now_members x2.toNatClampNeg) f_now_n hq) gX5_jumps_X3_fill dX5_jumps_80 hl.1 [4, 5] [0, 1, 2, 3, 6] [0, 1, 2, 3, 5, 6, 4] rfl rfl ⟨rfl, rfl⟩ ⟨Nat.le_of_ble_eq_true rfl, Nat.le_of_ble_eq_true rfl⟩ ⟨rfl, by decide +kernel, by decide +kernel, by decide +kernel⟩ rfl (fun h => by cases h) (Nat.le_of_ble_eq_true rfl) rfl rfl rfl rfl (by decide) rfl rfl (fun H locs h => ?_)
              obtain ⟨hP, hD, hS⟩ := h
              refine lv_iload_n hx hb dX5_jumps_83 rfl (lv_at hl 3 rfl) ?_
              by_cases c23 : x3 = 0
              · have hm := gk_it c23 hm
                refine lv_tableIn (tgt := 112) (off := 28) hx hb dX5_jumps_84 (by rw [c23]; decide) (by rw [c23]; decide) (by rw [c23]; rfl) (by decide) ?_
                refine lv_aload_n hx hb dX5_jumps_112 rfl (lv_at hl 0 rfl) ?_
                refine va_get (D := G.1) (cl := vwCl) (own := RX5) (ref := "ExchangeFamilies") (ci := 4) (v := .ref a15) (C := RX5) (T := TX5) (N := 6) hx hb hts k_X5_jumps_0 hown hK hP 0 rfl rfl 4 (by decide) (hts _ k_X5_jumps_2) (fun _ h9 => h9) rfl dX5_jumps_113 ?_
                obtain ⟨r24, hq, hm⟩ := gk_bd1_some hm
                refine gk_callV (n := 0) (bytes := cX3_howMany) (maxL := 7) (ret := (some .int)) (Cn := RX3) (T := TX3) (N := 3) [(a0, .inr (4, [.ref a1, .ref a7, .int f_isKept, .ref a13, .ref a15, .ref a18])), (a1, .inr (0, [.int f_now_n, .ref a2, .ref a3, .ref a4, .ref a5])), (a2, gk_J G 6 f_now_members), (a3, gk_I G 6 f_now_kinds), (a17, gk_I G 64 f_sums_ternary)] [(a0, .inr (4, [.ref a1, .ref a7, .int f_isKept, .ref a13, .ref a15, .ref a18])), (a1, .inr (0, [.int f_now_n, .ref a2, .ref a3, .ref a4, .ref a5])), (a2, gk_J G 6 f_now_members), (a3, gk_I G 6 f_now_kinds), (a15, .inr (2, [.int r21, .ref a16, .ref a17])), (a16, gk_J G 64 r22), (a17, gk_I G 64 f_sums_ternary)] [] C ⟨hP, hD, hS⟩ (c_X3_howMany l G a15 a16 a17 r21 r22 hq) gX5_jumps_X3_howMany dX5_jumps_116 hl.1 [4, 5] [0, 1, 2, 3, 6] [0, 1, 2, 3, 5, 6, 4] rfl rfl ⟨rfl, rfl⟩ ⟨Nat.le_of_ble_eq_true rfl, Nat.le_of_ble_eq_true rfl⟩ ⟨rfl, by decide +kernel, by decide +kernel, by decide +kernel⟩ rfl (fun h => by cases h) (Nat.le_of_ble_eq_true rfl) rfl rfl rfl rfl (by decide) rfl rfl (fun H locs h => ?_)
                obtain ⟨hP, hD, hS⟩ := h
                rw [kr _ _ _ (Option.some.inj hm).symm]
                exact gk_iret C ⟨hP, hD, hS⟩ dX5_jumps_119
              have hm := gk_if c23 hm
              by_cases c25 : x3 = 1
              · have hm := gk_it c25 hm
                refine lv_tableIn (tgt := 120) (off := 36) hx hb dX5_jumps_84 (by rw [c25]; decide) (by rw [c25]; decide) (by rw [c25]; rfl) (by decide) ?_
                refine lv_aload_n hx hb dX5_jumps_120 rfl (lv_at hl 0 rfl) ?_
                refine va_get (D := G.1) (cl := vwCl) (own := RX5) (ref := "ExchangeFamilies") (ci := 4) (v := .ref a15) (C := RX5) (T := TX5) (N := 6) hx hb hts k_X5_jumps_0 hown hK hP 0 rfl rfl 4 (by decide) (hts _ k_X5_jumps_2) (fun _ h9 => h9) rfl dX5_jumps_121 ?_
                obtain ⟨r26, hq, hm⟩ := gk_bd1_some hm
                refine gk_callV (n := 0) (bytes := cX3_areSprung) (maxL := 4) (ret := (some .boolean)) (Cn := RX3) (T := TX3) (N := 3) [(a0, .inr (4, [.ref a1, .ref a7, .int f_isKept, .ref a13, .ref a15, .ref a18])), (a1, .inr (0, [.int f_now_n, .ref a2, .ref a3, .ref a4, .ref a5])), (a2, gk_J G 6 f_now_members), (a3, gk_I G 6 f_now_kinds), (a17, gk_I G 64 f_sums_ternary)] [(a0, .inr (4, [.ref a1, .ref a7, .int f_isKept, .ref a13, .ref a15, .ref a18])), (a1, .inr (0, [.int f_now_n, .ref a2, .ref a3, .ref a4, .ref a5])), (a2, gk_J G 6 f_now_members), (a3, gk_I G 6 f_now_kinds), (a15, .inr (2, [.int r21, .ref a16, .ref a17])), (a16, gk_J G 64 r22), (a17, gk_I G 64 f_sums_ternary)] [] C ⟨hP, hD, hS⟩ (c_X3_areSprung l G a15 a16 a17 r21 r22 hq) gX5_jumps_X3_areSprung dX5_jumps_124 hl.1 [4, 5] [0, 1, 2, 3, 6] [0, 1, 2, 3, 5, 6, 4] rfl rfl ⟨rfl, rfl⟩ ⟨Nat.le_of_ble_eq_true rfl, Nat.le_of_ble_eq_true rfl⟩ ⟨rfl, by decide +kernel, by decide +kernel, by decide +kernel⟩ rfl (fun h => h) (Nat.le_of_ble_eq_true rfl) rfl rfl rfl rfl (by decide) rfl rfl (fun H locs h => ?_)
                obtain ⟨hP, hD, hS⟩ := h
                refine lv_if_eq (tgt := 134) hx hb dX5_jumps_127 (by decide) (fun c27 => ?_) (fun c27 => ?_)
                · have hm := gk_it c27 hm
                  refine lv_iconst (v := 0) hx hb dX5_jumps_134 (by decide) ?_
                  rw [kr _ _ _ (Option.some.inj hm).symm]
                  exact gk_iret C ⟨hP, hD, hS⟩ dX5_jumps_135
                · have hm := gk_if c27 hm
                  refine lv_iconst (v := 1) hx hb dX5_jumps_130 (by decide) ?_
                  refine lv_goto (tgt := 135) hx hb dX5_jumps_131 (by decide) ?_
                  rw [kr _ _ _ (Option.some.inj hm).symm]
                  exact gk_iret C ⟨hP, hD, hS⟩ dX5_jumps_135
              have hm := gk_if c25 hm
              by_cases c28 : x3 = 2
              · have hm := gk_it c28 hm
                refine lv_tableIn (tgt := 136) (off := 52) hx hb dX5_jumps_84 (by rw [c28]; decide) (by rw [c28]; decide) (by rw [c28]; rfl) (by decide) ?_
                refine lv_aload_n hx hb dX5_jumps_136 rfl (lv_at hl 0 rfl) ?_
                refine va_get (D := G.1) (cl := vwCl) (own := RX5) (ref := "ExchangeFamilies") (ci := 4) (v := .ref a15) (C := RX5) (T := TX5) (N := 6) hx hb hts k_X5_jumps_0 hown hK hP 0 rfl rfl 4 (by decide) (hts _ k_X5_jumps_2) (fun _ h9 => h9) rfl dX5_jumps_137 ?_
                obtain ⟨r29, hq, hm⟩ := gk_bd1_some hm
                refine gk_callV (n := 0) (bytes := cX3_least) (maxL := 5) (ret := (some .int)) (Cn := RX3) (T := TX3) (N := 3) [(a0, .inr (4, [.ref a1, .ref a7, .int f_isKept, .ref a13, .ref a15, .ref a18])), (a1, .inr (0, [.int f_now_n, .ref a2, .ref a3, .ref a4, .ref a5])), (a2, gk_J G 6 f_now_members), (a3, gk_I G 6 f_now_kinds)] [(a0, .inr (4, [.ref a1, .ref a7, .int f_isKept, .ref a13, .ref a15, .ref a18])), (a1, .inr (0, [.int f_now_n, .ref a2, .ref a3, .ref a4, .ref a5])), (a2, gk_J G 6 f_now_members), (a3, gk_I G 6 f_now_kinds), (a15, .inr (2, [.int r21, .ref a16, .ref a17])), (a16, gk_J G 64 r22), (a17, gk_I G 64 f_sums_ternary)] [] C ⟨hP, hD, hS⟩ (c_X3_least l G a15 a16 a17 r21 r22 f_sums_ternary hq) gX5_jumps_X3_least dX5_jumps_140 hl.1 [4, 5, 6] [0, 1, 2, 3] [0, 1, 2, 3, 4, 5, 6] rfl rfl ⟨rfl, rfl⟩ ⟨Nat.le_of_ble_eq_true rfl, Nat.le_of_ble_eq_true rfl⟩ ⟨rfl, by decide +kernel, by decide +kernel, by decide +kernel⟩ rfl (fun h => by cases h) (Nat.le_of_ble_eq_true rfl) rfl rfl rfl rfl (by decide) rfl rfl (fun H locs h => ?_)
                obtain ⟨hP, hD, hS⟩ := h
                rw [kr _ _ _ (Option.some.inj hm).symm]
                exact gk_iret C ⟨hP, hD, hS⟩ dX5_jumps_143
              have hm := gk_if c28 hm
              have ho := gk_out (x := x3) 3 (by decide) (fun k hk => by match k, hk with | 0, _ => exact c23 | 1, _ => exact c25 | 2, _ => exact c28 | k + 3, h => exact absurd h (by omega))
              refine lv_tableOut (tgt := 144) hx hb dX5_jumps_84 (by rcases ho with q | q; exact Or.inl q; exact Or.inr (by simpa using q)) (by decide) ?_
              refine lv_aload_n hx hb dX5_jumps_144 rfl (lv_at hl 0 rfl) ?_
              refine va_get (D := G.1) (cl := vwCl) (own := RX5) (ref := "ExchangeFamilies") (ci := 4) (v := .ref a15) (C := RX5) (T := TX5) (N := 6) hx hb hts k_X5_jumps_0 hown hK hP 0 rfl rfl 4 (by decide) (hts _ k_X5_jumps_2) (fun _ h9 => h9) rfl dX5_jumps_145 ?_
              obtain ⟨r30, hq, hm⟩ := gk_bd1_some hm
              refine gk_callV (n := 0) (bytes := cX3_greatest) (maxL := 4) (ret := (some .int)) (Cn := RX3) (T := TX3) (N := 3) [(a0, .inr (4, [.ref a1, .ref a7, .int f_isKept, .ref a13, .ref a15, .ref a18])), (a1, .inr (0, [.int f_now_n, .ref a2, .ref a3, .ref a4, .ref a5])), (a2, gk_J G 6 f_now_members), (a3, gk_I G 6 f_now_kinds)] [(a0, .inr (4, [.ref a1, .ref a7, .int f_isKept, .ref a13, .ref a15, .ref a18])), (a1, .inr (0, [.int f_now_n, .ref a2, .ref a3, .ref a4, .ref a5])), (a2, gk_J G 6 f_now_members), (a3, gk_I G 6 f_now_kinds), (a15, .inr (2, [.int r21, .ref a16, .ref a17])), (a16, gk_J G 64 r22), (a17, gk_I G 64 f_sums_ternary)] [] C ⟨hP, hD, hS⟩ (c_X3_greatest l G a15 a16 a17 r21 r22 f_sums_ternary hq) gX5_jumps_X3_greatest dX5_jumps_148 hl.1 [4, 5, 6] [0, 1, 2, 3] [0, 1, 2, 3, 4, 5, 6] rfl rfl ⟨rfl, rfl⟩ ⟨Nat.le_of_ble_eq_true rfl, Nat.le_of_ble_eq_true rfl⟩ ⟨rfl, by decide +kernel, by decide +kernel, by decide +kernel⟩ rfl (fun h => by cases h) (Nat.le_of_ble_eq_true rfl) rfl rfl rfl rfl (by decide) rfl rfl (fun H locs h => ?_)
              obtain ⟨hP, hD, hS⟩ := h
              rw [kr _ _ _ (Option.some.inj hm).symm]
              exact gk_iret C ⟨hP, hD, hS⟩ dX5_jumps_151
            · have hm := gk_if c20 hm
              refine lv_bipush (v := -11) hx hb dX5_jumps_48 (by decide) ?_
              rw [kr _ _ _ (Option.some.inj hm).symm]
              exact gk_iret C ⟨hP, hD, hS⟩ dX5_jumps_50
        · have hm := gk_if c16 hm
          refine lv_bipush (v := -2) hx hb dX5_jumps_23 (by decide) ?_
          rw [kr _ _ _ (Option.some.inj hm).symm]
          exact gk_iret C ⟨hP, hD, hS⟩ dX5_jumps_25
def m_X5_jumps (f_now_n : Int32) (f_now_members : (Nat → Int64)) (f_now_kinds : (Nat → Int32)) (f_sums_n : Int32) (f_sums_boths : (Nat → Int64)) (f_sums_ternary : (Nat → Int32)) (x1 : Int32) (x2 : Int32) (x3 : Int32) : Option (Int32 × Int32 × (Nat → Int64)) := m_X5_jumps_0 f_now_n f_now_members f_now_kinds f_sums_n f_sums_boths f_sums_ternary x1 x2 x3
theorem c_X5_jumps (l : Launch) (G : gk_G) (a0 a1 a2 a3 a4 a5 a7 a13 a15 a16 a17 a18 : Nat) (f_isKept : Int32) (f_now_n : Int32) (f_now_members : (Nat → Int64)) (f_now_kinds : (Nat → Int32)) (f_sums_n : Int32) (f_sums_boths : (Nat → Int64)) (f_sums_ternary : (Nat → Int32)) (x1 : Int32) (x2 : Int32) (x3 : Int32) {rv : Int32} {g_sums_n : Int32} {g_sums_boths : (Nat → Int64)} (hm : m_X5_jumps f_now_n f_now_members f_now_kinds f_sums_n f_sums_boths f_sums_ternary x1 x2 x3 = some (rv, g_sums_n, g_sums_boths)) : gk_M l yX5_jumps wsX5_jumps rm_X5_jumps true G [.ref a0, .int x1, .int x2, .int x3] [(a0, .inr (4, [.ref a1, .ref a7, .int f_isKept, .ref a13, .ref a15, .ref a18])), (a1, .inr (0, [.int f_now_n, .ref a2, .ref a3, .ref a4, .ref a5])), (a2, gk_J G 6 f_now_members), (a3, gk_I G 6 f_now_kinds), (a15, .inr (2, [.int f_sums_n, .ref a16, .ref a17])), (a16, gk_J G 64 f_sums_boths), (a17, gk_I G 64 f_sums_ternary)] (some (.int rv)) [(a0, .inr (4, [.ref a1, .ref a7, .int f_isKept, .ref a13, .ref a15, .ref a18])), (a1, .inr (0, [.int f_now_n, .ref a2, .ref a3, .ref a4, .ref a5])), (a2, gk_J G 6 f_now_members), (a3, gk_I G 6 f_now_kinds), (a15, .inr (2, [.int g_sums_n, .ref a16, .ref a17])), (a16, gk_J G 64 g_sums_boths), (a17, gk_I G 64 f_sums_ternary)] :=
  gk_of (by decide) rfl (Nat.le_of_ble_eq_true rfl) (fun p e s m below meth c A ls C h hl => w_X5_jumps_0 C hm (fun v0 v1 v2 ez => by cases ez; rfl) h (show lv_has ls 4 [(0, .ref a0), (1, .int x1), (2, .int x2), (3, .int x3)] from hl))

/-! ===== ExchangeFamilies.jump(III)I ===== -/
abbrev rm_X5_jump : Room := { frames := 7, cells := 0, slots := 0, locals := 328 }
theorem k_X5_jump_0 : ∀ w ∈ u_ws RX5 TX5 6, w ∈ wsX5_jump := by decide +kernel
theorem k_X5_jump_1 : Cond.fieldLink RX5 12 "ExchangeFamilies" "now" "LExchangeFamilies$Ground;" ∈ wsX5_jump := by decide +kernel
theorem k_X5_jump_2 : ∀ w ∈ u_ws RX1 TX1 5, w ∈ wsX5_jump := by decide +kernel
theorem k_X5_jump_3 : Cond.fieldLink RX5 46 "ExchangeFamilies$Ground" "n" "I" ∈ wsX5_jump := by decide +kernel
theorem k_X5_jump_4 : Cond.fieldLink RX5 35 "ExchangeFamilies" "sums" "LExchangeFamilies$Sums;" ∈ wsX5_jump := by decide +kernel
theorem k_X5_jump_5 : Cond.fieldLink RX5 61 "ExchangeFamilies$Ground" "members" "[J" ∈ wsX5_jump := by decide +kernel
def m_X5_jump_0 (f_now_n : Int32) (f_now_members : (Nat → Int64)) (f_now_kinds : (Nat → Int32)) (f_sums_n : Int32) (f_sums_boths : (Nat → Int64)) (x1 : Int32) (x2 : Int32) (x3 : Int32) : Option (Int32 × Int32 × (Nat → Int64)) := gk_bd1 (m_X5_noFamily x1) (fun r8 => (if r8 = (0 : Int32) then gk_bd1 (m_X5_noFamily x2) (fun r10 => (if r10 = (0 : Int32) then (if x3 < (0 : Int32) then some ((-2 : Int32), f_sums_n, f_sums_boths) else gk_bd1 (m_X3_rowsOver f_now_n) (fun r13 => (if x3 < r13 then gk_bd1 (m_X1_isMissing f_now_kinds x1) (fun r15 => (if r15 = (0 : Int32) then gk_bd1 (m_X1_isMissing f_now_kinds x2) (fun r17 => (if r17 = (0 : Int32) then gk_ix x1 6 (gk_ix x2 6 (gk_bd2 (m_X3_fill f_sums_n f_sums_boths (f_now_members x1.toNatClampNeg) (f_now_members x2.toNatClampNeg) f_now_n) (fun r19 r20 => gk_bd1 (m_X3_holdsNumber r19 r20 x3) (fun r21 => (if r21 = (0 : Int32) then some ((0 : Int32), r19, r20) else some ((1 : Int32), r19, r20)))))) else some ((-11 : Int32), f_sums_n, f_sums_boths))) else some ((-11 : Int32), f_sums_n, f_sums_boths))) else some ((-2 : Int32), f_sums_n, f_sums_boths)))) else some ((-2 : Int32), f_sums_n, f_sums_boths))) else some ((-2 : Int32), f_sums_n, f_sums_boths)))
set_option maxRecDepth 100000 in
set_option maxHeartbeats 4000000 in
theorem w_X5_jump_0 {p : Program} {l : Launch} {e : Env} {s : State} {m : MethodId} {args : Array Value} {below : List Frame} {meth : Method} {c : Code} {G : gk_G} {A : Nat → Prop} {Q : State → Prop} {a0 a1 a2 a3 a4 a5 a7 a13 a15 a16 a17 a18 : Nat} (C : gk_C p s m args meth c cX5_jump 4 (some .int) yX5_jump wsX5_jump false G A) {f_now_n : Int32} {f_now_members : (Nat → Int64)} {f_now_kinds : (Nat → Int32)} {f_sums_n : Int32} {f_sums_boths : (Nat → Int64)} {x1 : Int32} {x2 : Int32} {x3 : Int32} {f_isKept : Int32} {yy : Int32 × Int32 × (Nat → Int64)} (hm : m_X5_jump_0 f_now_n f_now_members f_now_kinds f_sums_n f_sums_boths x1 x2 x3 = some yy) (kr : ∀ (rv : Int32) (g_sums_n : Int32) (g_sums_boths : (Nat → Int64)), yy = (rv, g_sums_n, g_sums_boths) → Q = MQ below (gk_Q G (some (.int rv)) [(a0, .inr (4, [.ref a1, .ref a7, .int f_isKept, .ref a13, .ref a15, .ref a18])), (a1, .inr (0, [.int f_now_n, .ref a2, .ref a3, .ref a4, .ref a5])), (a2, gk_J G 6 f_now_members), (a3, gk_I G 6 f_now_kinds), (a15, .inr (2, [.int g_sums_n, .ref a16, .ref a17])), (a16, gk_J G 64 g_sums_boths)] A) args s 0 0 A) {H : Heap} {locs : List Loc} {ls : Array Slot} (h : gk_H G A s [(a0, .inr (4, [.ref a1, .ref a7, .int f_isKept, .ref a13, .ref a15, .ref a18])), (a1, .inr (0, [.int f_now_n, .ref a2, .ref a3, .ref a4, .ref a5])), (a2, gk_J G 6 f_now_members), (a3, gk_I G 6 f_now_kinds), (a15, .inr (2, [.int f_sums_n, .ref a16, .ref a17])), (a16, gk_J G 64 f_sums_boths)] H locs) (hl : lv_has ls 4 [(0, .ref a0), (1, .int x1), (2, .int x2), (3, .int x3)]) : W p l e rm_X5_jump s m args below meth c H locs 0 0 Q (F0 m 0 ls []) := by
  obtain ⟨hx, hb, hml, hr, hown, hnm, hts, hlk, hK, hSt, hA⟩ := id C
  obtain ⟨hP, hD, hS⟩ := h
  unfold m_X5_jump_0 at hm
  refine lv_iload_n hx hb dX5_jump_0 rfl (lv_at hl 1 rfl) ?_
  obtain ⟨r8, hq, hm⟩ := gk_bd1_some hm
  refine gk_callS (n := 1) (bytes := cX5_noFamily) (maxL := 1) (ret := (some .boolean)) [(a0, .inr (4, [.ref a1, .ref a7, .int f_isKept, .ref a13, .ref a15, .ref a18])), (a1, .inr (0, [.int f_now_n, .ref a2, .ref a3, .ref a4, .ref a5])), (a2, gk_J G 6 f_now_members), (a3, gk_I G 6 f_now_kinds), (a15, .inr (2, [.int f_sums_n, .ref a16, .ref a17])), (a16, gk_J G 64 f_sums_boths)] [(a0, .inr (4, [.ref a1, .ref a7, .int f_isKept, .ref a13, .ref a15, .ref a18])), (a1, .inr (0, [.int f_now_n, .ref a2, .ref a3, .ref a4, .ref a5])), (a2, gk_J G 6 f_now_members), (a3, gk_I G 6 f_now_kinds), (a15, .inr (2, [.int f_sums_n, .ref a16, .ref a17])), (a16, gk_J G 64 f_sums_boths)] [] C ⟨hP, hD, hS⟩ (c_X5_noFamily l G x1 hq) gX5_jump_X5_noFamily dX5_jump_1 hl.1 [] [0, 1, 2, 3, 4, 5] [0, 1, 2, 3, 4, 5] rfl ⟨rfl, rfl⟩ ⟨Nat.le_of_ble_eq_true rfl, Nat.le_of_ble_eq_true rfl⟩ ⟨by decide +kernel, by decide +kernel, by decide +kernel⟩ rfl (fun h => by cases h) (Nat.le_of_ble_eq_true rfl) rfl rfl rfl rfl (by decide) rfl rfl (fun H locs h => ?_)
  obtain ⟨hP, hD, hS⟩ := h
  refine lv_if_ne (tgt := 32) hx hb dX5_jump_4 (by decide) (fun c9 => ?_) (fun c9 => ?_)
  · have hm := gk_if c9 hm
    refine lv_bipush (v := -2) hx hb dX5_jump_32 (by decide) ?_
    rw [kr _ _ _ (Option.some.inj hm).symm]
    exact gk_iret C ⟨hP, hD, hS⟩ dX5_jump_34
  · have hm := gk_it c9 hm
    refine lv_iload_n hx hb dX5_jump_7 rfl (lv_at hl 2 rfl) ?_
    obtain ⟨r10, hq, hm⟩ := gk_bd1_some hm
    refine gk_callS (n := 1) (bytes := cX5_noFamily) (maxL := 1) (ret := (some .boolean)) [(a0, .inr (4, [.ref a1, .ref a7, .int f_isKept, .ref a13, .ref a15, .ref a18])), (a1, .inr (0, [.int f_now_n, .ref a2, .ref a3, .ref a4, .ref a5])), (a2, gk_J G 6 f_now_members), (a3, gk_I G 6 f_now_kinds), (a15, .inr (2, [.int f_sums_n, .ref a16, .ref a17])), (a16, gk_J G 64 f_sums_boths)] [(a0, .inr (4, [.ref a1, .ref a7, .int f_isKept, .ref a13, .ref a15, .ref a18])), (a1, .inr (0, [.int f_now_n, .ref a2, .ref a3, .ref a4, .ref a5])), (a2, gk_J G 6 f_now_members), (a3, gk_I G 6 f_now_kinds), (a15, .inr (2, [.int f_sums_n, .ref a16, .ref a17])), (a16, gk_J G 64 f_sums_boths)] [] C ⟨hP, hD, hS⟩ (c_X5_noFamily l G x2 hq) gX5_jump_X5_noFamily dX5_jump_8 hl.1 [] [0, 1, 2, 3, 4, 5] [0, 1, 2, 3, 4, 5] rfl ⟨rfl, rfl⟩ ⟨Nat.le_of_ble_eq_true rfl, Nat.le_of_ble_eq_true rfl⟩ ⟨by decide +kernel, by decide +kernel, by decide +kernel⟩ rfl (fun h => by cases h) (Nat.le_of_ble_eq_true rfl) rfl rfl rfl rfl (by decide) rfl rfl (fun H locs h => ?_)
    obtain ⟨hP, hD, hS⟩ := h
    refine lv_if_ne (tgt := 32) hx hb dX5_jump_11 (by decide) (fun c11 => ?_) (fun c11 => ?_)
    · have hm := gk_if c11 hm
      refine lv_bipush (v := -2) hx hb dX5_jump_32 (by decide) ?_
      rw [kr _ _ _ (Option.some.inj hm).symm]
      exact gk_iret C ⟨hP, hD, hS⟩ dX5_jump_34
    · have hm := gk_it c11 hm
      refine lv_iload_n hx hb dX5_jump_14 rfl (lv_at hl 3 rfl) ?_
      refine lv_if_lt (tgt := 32) hx hb dX5_jump_15 (by decide) (fun c12 => ?_) (fun c12 => ?_)
      · have hm := gk_it c12 hm
        refine lv_bipush (v := -2) hx hb dX5_jump_32 (by decide) ?_
        rw [kr _ _ _ (Option.some.inj hm).symm]
        exact gk_iret C ⟨hP, hD, hS⟩ dX5_jump_34
      · have hm := gk_if c12 hm
        refine lv_iload_n hx hb dX5_jump_18 rfl (lv_at hl 3 rfl) ?_
        refine lv_aload_n hx hb dX5_jump_19 rfl (lv_at hl 0 rfl) ?_
        refine va_get (D := G.1) (cl := vwCl) (own := RX5) (ref := "ExchangeFamilies") (ci := 4) (v := .ref a1) (C := RX5) (T := TX5) (N := 6) hx hb hts k_X5_jump_0 hown hK hP 0 rfl rfl 0 (by decide) (hts _ k_X5_jump_1) (fun _ h9 => h9) rfl dX5_jump_20 ?_
        refine va_get (D := G.1) (cl := vwCl) (own := RX5) (ref := "ExchangeFamilies$Ground") (ci := 0) (v := .int f_now_n) (C := RX1) (T := TX1) (N := 5) hx hb hts k_X5_jump_2 hown hK hP 1 rfl rfl 0 (by decide) (hts _ k_X5_jump_3) (fun _ h9 => h9) rfl dX5_jump_23 ?_
        obtain ⟨r13, hq, hm⟩ := gk_bd1_some hm
        refine gk_callS (n := 1) (bytes := cX3_rowsOver) (maxL := 3) (ret := (some .int)) [(a0, .inr (4, [.ref a1, .ref a7, .int f_isKept, .ref a13, .ref a15, .ref a18])), (a1, .inr (0, [.int f_now_n, .ref a2, .ref a3, .ref a4, .ref a5])), (a2, gk_J G 6 f_now_members), (a3, gk_I G 6 f_now_kinds), (a15, .inr (2, [.int f_sums_n, .ref a16, .ref a17])), (a16, gk_J G 64 f_sums_boths)] [(a0, .inr (4, [.ref a1, .ref a7, .int f_isKept, .ref a13, .ref a15, .ref a18])), (a1, .inr (0, [.int f_now_n, .ref a2, .ref a3, .ref a4, .ref a5])), (a2, gk_J G 6 f_now_members), (a3, gk_I G 6 f_now_kinds), (a15, .inr (2, [.int f_sums_n, .ref a16, .ref a17])), (a16, gk_J G 64 f_sums_boths)] [.int x3] C ⟨hP, hD, hS⟩ (c_X3_rowsOver l G f_now_n hq) gX5_jump_X3_rowsOver dX5_jump_26 hl.1 [] [0, 1, 2, 3, 4, 5] [0, 1, 2, 3, 4, 5] rfl ⟨rfl, rfl⟩ ⟨Nat.le_of_ble_eq_true rfl, Nat.le_of_ble_eq_true rfl⟩ ⟨by decide +kernel, by decide +kernel, by decide +kernel⟩ rfl (fun h => by cases h) (Nat.le_of_ble_eq_true rfl) rfl rfl rfl rfl (by decide) rfl rfl (fun H locs h => ?_)
        obtain ⟨hP, hD, hS⟩ := h
        refine lv_icmp_lt (tgt := 35) hx hb dX5_jump_29 (by decide) (fun c14 => ?_) (fun c14 => ?_)
        · have hm := gk_it c14 hm
          refine lv_aload_n hx hb dX5_jump_35 rfl (lv_at hl 0 rfl) ?_
          refine va_get (D := G.1) (cl := vwCl) (own := RX5) (ref := "ExchangeFamilies") (ci := 4) (v := .ref a1) (C := RX5) (T := TX5) (N := 6) hx hb hts k_X5_jump_0 hown hK hP 0 rfl rfl 0 (by decide) (hts _ k_X5_jump_1) (fun _ h9 => h9) rfl dX5_jump_36 ?_
          refine lv_iload_n hx hb dX5_jump_39 rfl (lv_at hl 1 rfl) ?_
          obtain ⟨r15, hq, hm⟩ := gk_bd1_some hm
          refine gk_callV (n := 1) (bytes := cX1_isMissing) (maxL := 2) (ret := (some .boolean)) (Cn := RX1) (T := TX1) (N := 5) [(a0, .inr (4, [.ref a1, .ref a7, .int f_isKept, .ref a13, .ref a15, .ref a18])), (a2, gk_J G 6 f_now_members), (a15, .inr (2, [.int f_sums_n, .ref a16, .ref a17])), (a16, gk_J G 64 f_sums_boths)] [(a0, .inr (4, [.ref a1, .ref a7, .int f_isKept, .ref a13, .ref a15, .ref a18])), (a1, .inr (0, [.int f_now_n, .ref a2, .ref a3, .ref a4, .ref a5])), (a2, gk_J G 6 f_now_members), (a3, gk_I G 6 f_now_kinds), (a15, .inr (2, [.int f_sums_n, .ref a16, .ref a17])), (a16, gk_J G 64 f_sums_boths)] [] C ⟨hP, hD, hS⟩ (c_X1_isMissing l G a1 a2 a3 a4 a5 f_now_n f_now_kinds x1 hq) gX5_jump_X1_isMissing dX5_jump_40 hl.1 [1, 3] [0, 2, 4, 5] [0, 4, 1, 5, 2, 3] rfl rfl ⟨rfl, rfl⟩ ⟨Nat.le_of_ble_eq_true rfl, Nat.le_of_ble_eq_true rfl⟩ ⟨rfl, by decide +kernel, by decide +kernel, by decide +kernel⟩ rfl (fun h => by cases h) (Nat.le_of_ble_eq_true rfl) rfl rfl rfl rfl (by decide) rfl rfl (fun H locs h => ?_)
          obtain ⟨hP, hD, hS⟩ := h
          refine lv_if_ne (tgt := 57) hx hb dX5_jump_43 (by decide) (fun c16 => ?_) (fun c16 => ?_)
          · have hm := gk_if c16 hm
            refine lv_bipush (v := -11) hx hb dX5_jump_57 (by decide) ?_
            rw [kr _ _ _ (Option.some.inj hm).symm]
            exact gk_iret C ⟨hP, hD, hS⟩ dX5_jump_59
          · have hm := gk_it c16 hm
            refine lv_aload_n hx hb dX5_jump_46 rfl (lv_at hl 0 rfl) ?_
            refine va_get (D := G.1) (cl := vwCl) (own := RX5) (ref := "ExchangeFamilies") (ci := 4) (v := .ref a1) (C := RX5) (T := TX5) (N := 6) hx hb hts k_X5_jump_0 hown hK hP 0 rfl rfl 0 (by decide) (hts _ k_X5_jump_1) (fun _ h9 => h9) rfl dX5_jump_47 ?_
            refine lv_iload_n hx hb dX5_jump_50 rfl (lv_at hl 2 rfl) ?_
            obtain ⟨r17, hq, hm⟩ := gk_bd1_some hm
            refine gk_callV (n := 1) (bytes := cX1_isMissing) (maxL := 2) (ret := (some .boolean)) (Cn := RX1) (T := TX1) (N := 5) [(a0, .inr (4, [.ref a1, .ref a7, .int f_isKept, .ref a13, .ref a15, .ref a18])), (a2, gk_J G 6 f_now_members), (a15, .inr (2, [.int f_sums_n, .ref a16, .ref a17])), (a16, gk_J G 64 f_sums_boths)] [(a0, .inr (4, [.ref a1, .ref a7, .int f_isKept, .ref a13, .ref a15, .ref a18])), (a1, .inr (0, [.int f_now_n, .ref a2, .ref a3, .ref a4, .ref a5])), (a2, gk_J G 6 f_now_members), (a3, gk_I G 6 f_now_kinds), (a15, .inr (2, [.int f_sums_n, .ref a16, .ref a17])), (a16, gk_J G 64 f_sums_boths)] [] C ⟨hP, hD, hS⟩ (c_X1_isMissing l G a1 a2 a3 a4 a5 f_now_n f_now_kinds x2 hq) gX5_jump_X1_isMissing dX5_jump_51 hl.1 [1, 3] [0, 2, 4, 5] [0, 4, 1, 5, 2, 3] rfl rfl ⟨rfl, rfl⟩ ⟨Nat.le_of_ble_eq_true rfl, Nat.le_of_ble_eq_true rfl⟩ ⟨rfl, by decide +kernel, by decide +kernel, by decide +kernel⟩ rfl (fun h => by cases h) (Nat.le_of_ble_eq_true rfl) rfl rfl rfl rfl (by decide) rfl rfl (fun H locs h => ?_)
            obtain ⟨hP, hD, hS⟩ := h
            refine lv_if_eq (tgt := 60) hx hb dX5_jump_54 (by decide) (fun c18 => ?_) (fun c18 => ?_)
            · have hm := gk_it c18 hm
              refine lv_aload_n hx hb dX5_jump_60 rfl (lv_at hl 0 rfl) ?_
              refine va_get (D := G.1) (cl := vwCl) (own := RX5) (ref := "ExchangeFamilies") (ci := 4) (v := .ref a15) (C := RX5) (T := TX5) (N := 6) hx hb hts k_X5_jump_0 hown hK hP 0 rfl rfl 4 (by decide) (hts _ k_X5_jump_4) (fun _ h9 => h9) rfl dX5_jump_61 ?_
              refine lv_aload_n hx hb dX5_jump_64 rfl (lv_at hl 0 rfl) ?_
              refine va_get (D := G.1) (cl := vwCl) (own := RX5) (ref := "ExchangeFamilies") (ci := 4) (v := .ref a1) (C := RX5) (T := TX5) (N := 6) hx hb hts k_X5_jump_0 hown hK hP 0 rfl rfl 0 (by decide) (hts _ k_X5_jump_1) (fun _ h9 => h9) rfl dX5_jump_65 ?_
              refine va_get (D := G.1) (cl := vwCl) (own := RX5) (ref := "ExchangeFamilies$Ground") (ci := 0) (v := .ref a2) (C := RX1) (T := TX1) (N := 5) hx hb hts k_X5_jump_2 hown hK hP 1 rfl rfl 1 (by decide) (hts _ k_X5_jump_5) (fun _ h9 => h9) rfl dX5_jump_68 ?_
              refine lv_iload_n hx hb dX5_jump_71 rfl (lv_at hl 1 rfl) ?_
              obtain ⟨hi, hm⟩ := gk_ix_some hm
              refine va_lald hx hb hK hP 2 1 rfl rfl hi dX5_jump_72 ?_
              refine lv_aload_n hx hb dX5_jump_73 rfl (lv_at hl 0 rfl) ?_
              refine va_get (D := G.1) (cl := vwCl) (own := RX5) (ref := "ExchangeFamilies") (ci := 4) (v := .ref a1) (C := RX5) (T := TX5) (N := 6) hx hb hts k_X5_jump_0 hown hK hP 0 rfl rfl 0 (by decide) (hts _ k_X5_jump_1) (fun _ h9 => h9) rfl dX5_jump_74 ?_
              refine va_get (D := G.1) (cl := vwCl) (own := RX5) (ref := "ExchangeFamilies$Ground") (ci := 0) (v := .ref a2) (C := RX1) (T := TX1) (N := 5) hx hb hts k_X5_jump_2 hown hK hP 1 rfl rfl 1 (by decide) (hts _ k_X5_jump_5) (fun _ h9 => h9) rfl dX5_jump_77 ?_
              refine lv_iload_n hx hb dX5_jump_80 rfl (lv_at hl 2 rfl) ?_
              obtain ⟨hi, hm⟩ := gk_ix_some hm
              refine va_lald hx hb hK hP 2 1 rfl rfl hi dX5_jump_81 ?_
              refine lv_aload_n hx hb dX5_jump_82 rfl (lv_at hl 0 rfl) ?_
              refine va_get (D := G.1) (cl := vwCl) (own := RX5) (ref := "ExchangeFamilies") (ci := 4) (v := .ref a1) (C := RX5) (T := TX5) (N := 6) hx hb hts k_X5_jump_0 hown hK hP 0 rfl rfl 0 (by decide) (hts _ k_X5_jump_1) (fun _ h9 => h9) rfl dX5_jump_83 ?_
              refine va_get (D := G.1) (cl := vwCl) (own := RX5) (ref := "ExchangeFamilies$Ground") (ci := 0) (v := .int f_now_n) (C := RX1) (T := TX1) (N := 5) hx hb hts k_X5_jump_2 hown hK hP 1 rfl rfl 0 (by decide) (hts _ k_X5_jump_3) (fun _ h9 => h9) rfl dX5_jump_86 ?_
              obtain ⟨r19, r20, hq, hm⟩ := gk_bd2_some hm
              refine gk_callV (n := 3) (bytes := cX3_fill) (maxL := 7) (ret := none) (Cn := RX3) (T := TX3) (N := 3) [(a0, .inr (4, [.ref a1, .ref a7, .int f_isKept, .ref a13, .ref a15, .ref a18])), (a1, .inr (0, [.int f_now_n, .ref a2, .ref a3, .ref a4, .ref a5])), (a2, gk_J G 6 f_now_members), (a3, gk_I G 6 f_now_kinds)] [(a0, .inr (4, [.ref a1, .ref a7, .int f_isKept, .ref a13, .ref a15, .ref a18])), (a1, .inr (0, [.int f_now_n, .ref a2, .ref a3, .ref a4, .ref a5])), (a2, gk_J G 6 f_now_members), (a3, gk_I G 6 f_now_kinds), (a15, .inr (2, [.int r19, .ref a16, .ref a17])), (a16, gk_J G 64 r20)] [] C ⟨hP, hD, hS⟩ (c_X3_fill l G a15 a16 a17 f_sums_n f_sums_boths (f_now_members x1.toNatClampNeg) (f_now_members x2.toNatClampNeg) f_now_n hq) gX5_jump_X3_fill dX5_jump_89 hl.1 [4, 5] [0, 1, 2, 3] [0, 1, 2, 3, 4, 5] rfl rfl ⟨rfl, rfl⟩ ⟨Nat.le_of_ble_eq_true rfl, Nat.le_of_ble_eq_true rfl⟩ ⟨rfl, by decide +kernel, by decide +kernel, by decide +kernel⟩ rfl (fun h => by cases h) (Nat.le_of_ble_eq_true rfl) rfl rfl rfl rfl (by decide) rfl rfl (fun H locs h => ?_)
              obtain ⟨hP, hD, hS⟩ := h
              refine lv_aload_n hx hb dX5_jump_92 rfl (lv_at hl 0 rfl) ?_
              refine va_get (D := G.1) (cl := vwCl) (own := RX5) (ref := "ExchangeFamilies") (ci := 4) (v := .ref a15) (C := RX5) (T := TX5) (N := 6) hx hb hts k_X5_jump_0 hown hK hP 0 rfl rfl 4 (by decide) (hts _ k_X5_jump_4) (fun _ h9 => h9) rfl dX5_jump_93 ?_
              refine lv_iload_n hx hb dX5_jump_96 rfl (lv_at hl 3 rfl) ?_
              obtain ⟨r21, hq, hm⟩ := gk_bd1_some hm
              refine gk_callV (n := 1) (bytes := cX3_holdsNumber) (maxL := 7) (ret := (some .boolean)) (Cn := RX3) (T := TX3) (N := 3) [(a0, .inr (4, [.ref a1, .ref a7, .int f_isKept, .ref a13, .ref a15, .ref a18])), (a1, .inr (0, [.int f_now_n, .ref a2, .ref a3, .ref a4, .ref a5])), (a2, gk_J G 6 f_now_members), (a3, gk_I G 6 f_now_kinds)] [(a0, .inr (4, [.ref a1, .ref a7, .int f_isKept, .ref a13, .ref a15, .ref a18])), (a1, .inr (0, [.int f_now_n, .ref a2, .ref a3, .ref a4, .ref a5])), (a2, gk_J G 6 f_now_members), (a3, gk_I G 6 f_now_kinds), (a15, .inr (2, [.int r19, .ref a16, .ref a17])), (a16, gk_J G 64 r20)] [] C ⟨hP, hD, hS⟩ (c_X3_holdsNumber l G a15 a16 a17 r19 r20 x3 hq) gX5_jump_X3_holdsNumber dX5_jump_97 hl.1 [4, 5] [0, 1, 2, 3] [0, 1, 2, 3, 4, 5] rfl rfl ⟨rfl, rfl⟩ ⟨Nat.le_of_ble_eq_true rfl, Nat.le_of_ble_eq_true rfl⟩ ⟨rfl, by decide +kernel, by decide +kernel, by decide +kernel⟩ rfl (fun h => by cases h) (Nat.le_of_ble_eq_true rfl) rfl rfl rfl rfl (by decide) rfl rfl (fun H locs h => ?_)
              obtain ⟨hP, hD, hS⟩ := h
              refine lv_if_eq (tgt := 107) hx hb dX5_jump_100 (by decide) (fun c22 => ?_) (fun c22 => ?_)
              · have hm := gk_it c22 hm
                refine lv_iconst (v := 0) hx hb dX5_jump_107 (by decide) ?_
                rw [kr _ _ _ (Option.some.inj hm).symm]
                exact gk_iret C ⟨hP, hD, hS⟩ dX5_jump_108
              · have hm := gk_if c22 hm
                refine lv_iconst (v := 1) hx hb dX5_jump_103 (by decide) ?_
                refine lv_goto (tgt := 108) hx hb dX5_jump_104 (by decide) ?_
                rw [kr _ _ _ (Option.some.inj hm).symm]
                exact gk_iret C ⟨hP, hD, hS⟩ dX5_jump_108
            · have hm := gk_if c18 hm
              refine lv_bipush (v := -11) hx hb dX5_jump_57 (by decide) ?_
              rw [kr _ _ _ (Option.some.inj hm).symm]
              exact gk_iret C ⟨hP, hD, hS⟩ dX5_jump_59
        · have hm := gk_if c14 hm
          refine lv_bipush (v := -2) hx hb dX5_jump_32 (by decide) ?_
          rw [kr _ _ _ (Option.some.inj hm).symm]
          exact gk_iret C ⟨hP, hD, hS⟩ dX5_jump_34
def m_X5_jump (f_now_n : Int32) (f_now_members : (Nat → Int64)) (f_now_kinds : (Nat → Int32)) (f_sums_n : Int32) (f_sums_boths : (Nat → Int64)) (x1 : Int32) (x2 : Int32) (x3 : Int32) : Option (Int32 × Int32 × (Nat → Int64)) := m_X5_jump_0 f_now_n f_now_members f_now_kinds f_sums_n f_sums_boths x1 x2 x3
theorem c_X5_jump (l : Launch) (G : gk_G) (a0 a1 a2 a3 a4 a5 a7 a13 a15 a16 a17 a18 : Nat) (f_isKept : Int32) (f_now_n : Int32) (f_now_members : (Nat → Int64)) (f_now_kinds : (Nat → Int32)) (f_sums_n : Int32) (f_sums_boths : (Nat → Int64)) (x1 : Int32) (x2 : Int32) (x3 : Int32) {rv : Int32} {g_sums_n : Int32} {g_sums_boths : (Nat → Int64)} (hm : m_X5_jump f_now_n f_now_members f_now_kinds f_sums_n f_sums_boths x1 x2 x3 = some (rv, g_sums_n, g_sums_boths)) : gk_M l yX5_jump wsX5_jump rm_X5_jump false G [.ref a0, .int x1, .int x2, .int x3] [(a0, .inr (4, [.ref a1, .ref a7, .int f_isKept, .ref a13, .ref a15, .ref a18])), (a1, .inr (0, [.int f_now_n, .ref a2, .ref a3, .ref a4, .ref a5])), (a2, gk_J G 6 f_now_members), (a3, gk_I G 6 f_now_kinds), (a15, .inr (2, [.int f_sums_n, .ref a16, .ref a17])), (a16, gk_J G 64 f_sums_boths)] (some (.int rv)) [(a0, .inr (4, [.ref a1, .ref a7, .int f_isKept, .ref a13, .ref a15, .ref a18])), (a1, .inr (0, [.int f_now_n, .ref a2, .ref a3, .ref a4, .ref a5])), (a2, gk_J G 6 f_now_members), (a3, gk_I G 6 f_now_kinds), (a15, .inr (2, [.int g_sums_n, .ref a16, .ref a17])), (a16, gk_J G 64 g_sums_boths)] :=
  gk_of (by decide) rfl (Nat.le_of_ble_eq_true rfl) (fun p e s m below meth c A ls C h hl => w_X5_jump_0 C hm (fun v0 v1 v2 ez => by cases ez; rfl) h (show lv_has ls 4 [(0, .ref a0), (1, .int x1), (2, .int x2), (3, .int x3)] from hl))

/-! ===== ExchangeFamilies.same(III)I ===== -/
abbrev rm_X5_same : Room := { frames := 14, cells := 0, slots := 0, locals := 482 }
theorem k_X5_same_0 : ∀ w ∈ u_ws RX5 TX5 6, w ∈ wsX5_same := by decide +kernel
theorem k_X5_same_1 : Cond.fieldLink RX5 12 "ExchangeFamilies" "now" "LExchangeFamilies$Ground;" ∈ wsX5_same := by decide +kernel
theorem k_X5_same_2 : ∀ w ∈ u_ws RX1 TX1 5, w ∈ wsX5_same := by decide +kernel
theorem k_X5_same_3 : Cond.fieldLink RX5 61 "ExchangeFamilies$Ground" "members" "[J" ∈ wsX5_same := by decide +kernel
theorem k_X5_same_4 : Cond.fieldLink RX5 46 "ExchangeFamilies$Ground" "n" "I" ∈ wsX5_same := by decide +kernel
theorem k_X5_same_5 : Cond.static yX0_areAlike ∈ wsX5_same := by decide +kernel
theorem k_X5_same_6 : Cond.initialized RX0 ∈ wsX5_same := by decide +kernel
def m_X5_same_0 (f_now_n : Int32) (f_now_members : (Nat → Int64)) (f_now_kinds : (Nat → Int32)) (x1 : Int32) (x2 : Int32) (x3 : Int32) : Option (Int32) := gk_bd1 (m_X5_noFamily x1) (fun r11 => (if r11 = (0 : Int32) then gk_bd1 (m_X5_noFamily x2) (fun r13 => (if r13 = (0 : Int32) then (if x3 < (0 : Int32) then some (-2 : Int32) else (if x3 ≤ (2 : Int32) then gk_bd1 (m_X1_isMissing f_now_kinds x1) (fun r17 => (if r17 = (0 : Int32) then gk_bd1 (m_X1_isMissing f_now_kinds x2) (fun r19 => (if r19 = (0 : Int32) then gk_ix x1 6 (gk_ix x2 6 ((if x3 = 0 then (if (lg_cmp (f_now_members x1.toNatClampNeg) (f_now_members x2.toNatClampNeg)) = (0 : Int32) then some (1 : Int32) else some (0 : Int32)) else (if x3 = 1 then gk_bd1 (m_X0_leastTwist (f_now_members x1.toNatClampNeg) (f_now_members x2.toNatClampNeg) f_now_n) (fun r24 => some r24) else gk_bd1 (m_X0_areAlike 8 (f_now_members x1.toNatClampNeg) (f_now_members x2.toNatClampNeg) (0 : Int32) f_now_n) (fun r25 => (if r25 = (0 : Int32) then some (0 : Int32) else some (1 : Int32))))))) else some (-11 : Int32))) else some (-11 : Int32))) else some (-2 : Int32))) else some (-2 : Int32))) else some (-2 : Int32)))
set_option maxRecDepth 100000 in
set_option maxHeartbeats 4000000 in
theorem w_X5_same_0 {p : Program} {l : Launch} {e : Env} {s : State} {m : MethodId} {args : Array Value} {below : List Frame} {meth : Method} {c : Code} {G : gk_G} {A : Nat → Prop} {Q : State → Prop} {a0 a1 a2 a3 a4 a5 a7 a13 a15 a18 : Nat} (C : gk_C p s m args meth c cX5_same 8 (some .int) yX5_same wsX5_same true G A) {f_now_n : Int32} {f_now_members : (Nat → Int64)} {f_now_kinds : (Nat → Int32)} {x1 : Int32} {x2 : Int32} {x3 : Int32} {f_isKept : Int32} {yy : Int32} (hm : m_X5_same_0 f_now_n f_now_members f_now_kinds x1 x2 x3 = some yy) (kr : ∀ (rv : Int32), yy = rv → Q = MQ below (gk_Q G (some (.int rv)) [(a0, .inr (4, [.ref a1, .ref a7, .int f_isKept, .ref a13, .ref a15, .ref a18])), (a1, .inr (0, [.int f_now_n, .ref a2, .ref a3, .ref a4, .ref a5])), (a2, gk_J G 6 f_now_members), (a3, gk_I G 6 f_now_kinds)] A) args s 0 0 A) {H : Heap} {locs : List Loc} {ls : Array Slot} (h : gk_H G A s [(a0, .inr (4, [.ref a1, .ref a7, .int f_isKept, .ref a13, .ref a15, .ref a18])), (a1, .inr (0, [.int f_now_n, .ref a2, .ref a3, .ref a4, .ref a5])), (a2, gk_J G 6 f_now_members), (a3, gk_I G 6 f_now_kinds)] H locs) (hl : lv_has ls 8 [(0, .ref a0), (1, .int x1), (2, .int x2), (3, .int x3)]) : W p l e rm_X5_same s m args below meth c H locs 0 0 Q (F0 m 0 ls []) := by
  obtain ⟨hx, hb, hml, hr, hown, hnm, hts, hlk, hK, hSt, hA⟩ := id C
  obtain ⟨hP, hD, hS⟩ := h
  unfold m_X5_same_0 at hm
  refine lv_iload_n hx hb dX5_same_0 rfl (lv_at hl 1 rfl) ?_
  obtain ⟨r11, hq, hm⟩ := gk_bd1_some hm
  refine gk_callS (n := 1) (bytes := cX5_noFamily) (maxL := 1) (ret := (some .boolean)) [(a0, .inr (4, [.ref a1, .ref a7, .int f_isKept, .ref a13, .ref a15, .ref a18])), (a1, .inr (0, [.int f_now_n, .ref a2, .ref a3, .ref a4, .ref a5])), (a2, gk_J G 6 f_now_members), (a3, gk_I G 6 f_now_kinds)] [(a0, .inr (4, [.ref a1, .ref a7, .int f_isKept, .ref a13, .ref a15, .ref a18])), (a1, .inr (0, [.int f_now_n, .ref a2, .ref a3, .ref a4, .ref a5])), (a2, gk_J G 6 f_now_members), (a3, gk_I G 6 f_now_kinds)] [] C ⟨hP, hD, hS⟩ (c_X5_noFamily l G x1 hq) gX5_same_X5_noFamily dX5_same_1 hl.1 [] [0, 1, 2, 3] [0, 1, 2, 3] rfl ⟨rfl, rfl⟩ ⟨Nat.le_of_ble_eq_true rfl, Nat.le_of_ble_eq_true rfl⟩ ⟨by decide +kernel, by decide +kernel, by decide +kernel⟩ rfl (fun h => by cases h) (Nat.le_of_ble_eq_true rfl) rfl rfl rfl rfl (by decide) rfl rfl (fun H locs h => ?_)
  obtain ⟨hP, hD, hS⟩ := h
  refine lv_if_ne (tgt := 23) hx hb dX5_same_4 (by decide) (fun c12 => ?_) (fun c12 => ?_)
  · have hm := gk_if c12 hm
    refine lv_bipush (v := -2) hx hb dX5_same_23 (by decide) ?_
    rw [kr _ (Option.some.inj hm).symm]
    exact gk_iret C ⟨hP, hD, hS⟩ dX5_same_25
  · have hm := gk_it c12 hm
    refine lv_iload_n hx hb dX5_same_7 rfl (lv_at hl 2 rfl) ?_
    obtain ⟨r13, hq, hm⟩ := gk_bd1_some hm
    refine gk_callS (n := 1) (bytes := cX5_noFamily) (maxL := 1) (ret := (some .boolean)) [(a0, .inr (4, [.ref a1, .ref a7, .int f_isKept, .ref a13, .ref a15, .ref a18])), (a1, .inr (0, [.int f_now_n, .ref a2, .ref a3, .ref a4, .ref a5])), (a2, gk_J G 6 f_now_members), (a3, gk_I G 6 f_now_kinds)] [(a0, .inr (4, [.ref a1, .ref a7, .int f_isKept, .ref a13, .ref a15, .ref a18])), (a1, .inr (0, [.int f_now_n, .ref a2, .ref a3, .ref a4, .ref a5])), (a2, gk_J G 6 f_now_members), (a3, gk_I G 6 f_now_kinds)] [] C ⟨hP, hD, hS⟩ (c_X5_noFamily l G x2 hq) gX5_same_X5_noFamily dX5_same_8 hl.1 [] [0, 1, 2, 3] [0, 1, 2, 3] rfl ⟨rfl, rfl⟩ ⟨Nat.le_of_ble_eq_true rfl, Nat.le_of_ble_eq_true rfl⟩ ⟨by decide +kernel, by decide +kernel, by decide +kernel⟩ rfl (fun h => by cases h) (Nat.le_of_ble_eq_true rfl) rfl rfl rfl rfl (by decide) rfl rfl (fun H locs h => ?_)
    obtain ⟨hP, hD, hS⟩ := h
    refine lv_if_ne (tgt := 23) hx hb dX5_same_11 (by decide) (fun c14 => ?_) (fun c14 => ?_)
    · have hm := gk_if c14 hm
      refine lv_bipush (v := -2) hx hb dX5_same_23 (by decide) ?_
      rw [kr _ (Option.some.inj hm).symm]
      exact gk_iret C ⟨hP, hD, hS⟩ dX5_same_25
    · have hm := gk_it c14 hm
      refine lv_iload_n hx hb dX5_same_14 rfl (lv_at hl 3 rfl) ?_
      refine lv_if_lt (tgt := 23) hx hb dX5_same_15 (by decide) (fun c15 => ?_) (fun c15 => ?_)
      · have hm := gk_it c15 hm
        refine lv_bipush (v := -2) hx hb dX5_same_23 (by decide) ?_
        rw [kr _ (Option.some.inj hm).symm]
        exact gk_iret C ⟨hP, hD, hS⟩ dX5_same_25
      · have hm := gk_if c15 hm
        refine lv_iload_n hx hb dX5_same_18 rfl (lv_at hl 3 rfl) ?_
        refine lv_iconst (v := 2) hx hb dX5_same_19 (by decide) ?_
        refine lv_icmp_le (tgt := 26) hx hb dX5_same_20 (by decide) (fun c16 => ?_) (fun c16 => ?_)
        · have hm := gk_it c16 hm
          refine lv_aload_n hx hb dX5_same_26 rfl (lv_at hl 0 rfl) ?_
          refine va_get (D := G.1) (cl := vwCl) (own := RX5) (ref := "ExchangeFamilies") (ci := 4) (v := .ref a1) (C := RX5) (T := TX5) (N := 6) hx hb hts k_X5_same_0 hown hK hP 0 rfl rfl 0 (by decide) (hts _ k_X5_same_1) (fun _ h9 => h9) rfl dX5_same_27 ?_
          refine lv_iload_n hx hb dX5_same_30 rfl (lv_at hl 1 rfl) ?_
          obtain ⟨r17, hq, hm⟩ := gk_bd1_some hm
          refine gk_callV (n := 1) (bytes := cX1_isMissing) (maxL := 2) (ret := (some .boolean)) (Cn := RX1) (T := TX1) (N := 5) [(a0, .inr (4, [.ref a1, .ref a7, .int f_isKept, .ref a13, .ref a15, .ref a18])), (a2, gk_J G 6 f_now_members)] [(a0, .inr (4, [.ref a1, .ref a7, .int f_isKept, .ref a13, .ref a15, .ref a18])), (a1, .inr (0, [.int f_now_n, .ref a2, .ref a3, .ref a4, .ref a5])), (a2, gk_J G 6 f_now_members), (a3, gk_I G 6 f_now_kinds)] [] C ⟨hP, hD, hS⟩ (c_X1_isMissing l G a1 a2 a3 a4 a5 f_now_n f_now_kinds x1 hq) gX5_same_X1_isMissing dX5_same_31 hl.1 [1, 3] [0, 2] [0, 2, 1, 3] rfl rfl ⟨rfl, rfl⟩ ⟨Nat.le_of_ble_eq_true rfl, Nat.le_of_ble_eq_true rfl⟩ ⟨rfl, by decide +kernel, by decide +kernel, by decide +kernel⟩ rfl (fun h => by cases h) (Nat.le_of_ble_eq_true rfl) rfl rfl rfl rfl (by decide) rfl rfl (fun H locs h => ?_)
          obtain ⟨hP, hD, hS⟩ := h
          refine lv_if_ne (tgt := 48) hx hb dX5_same_34 (by decide) (fun c18 => ?_) (fun c18 => ?_)
          · have hm := gk_if c18 hm
            refine lv_bipush (v := -11) hx hb dX5_same_48 (by decide) ?_
            rw [kr _ (Option.some.inj hm).symm]
            exact gk_iret C ⟨hP, hD, hS⟩ dX5_same_50
          · have hm := gk_it c18 hm
            refine lv_aload_n hx hb dX5_same_37 rfl (lv_at hl 0 rfl) ?_
            refine va_get (D := G.1) (cl := vwCl) (own := RX5) (ref := "ExchangeFamilies") (ci := 4) (v := .ref a1) (C := RX5) (T := TX5) (N := 6) hx hb hts k_X5_same_0 hown hK hP 0 rfl rfl 0 (by decide) (hts _ k_X5_same_1) (fun _ h9 => h9) rfl dX5_same_38 ?_
            refine lv_iload_n hx hb dX5_same_41 rfl (lv_at hl 2 rfl) ?_
            obtain ⟨r19, hq, hm⟩ := gk_bd1_some hm
            refine gk_callV (n := 1) (bytes := cX1_isMissing) (maxL := 2) (ret := (some .boolean)) (Cn := RX1) (T := TX1) (N := 5) [(a0, .inr (4, [.ref a1, .ref a7, .int f_isKept, .ref a13, .ref a15, .ref a18])), (a2, gk_J G 6 f_now_members)] [(a0, .inr (4, [.ref a1, .ref a7, .int f_isKept, .ref a13, .ref a15, .ref a18])), (a1, .inr (0, [.int f_now_n, .ref a2, .ref a3, .ref a4, .ref a5])), (a2, gk_J G 6 f_now_members), (a3, gk_I G 6 f_now_kinds)] [] C ⟨hP, hD, hS⟩ (c_X1_isMissing l G a1 a2 a3 a4 a5 f_now_n f_now_kinds x2 hq) gX5_same_X1_isMissing dX5_same_42 hl.1 [1, 3] [0, 2] [0, 2, 1, 3] rfl rfl ⟨rfl, rfl⟩ ⟨Nat.le_of_ble_eq_true rfl, Nat.le_of_ble_eq_true rfl⟩ ⟨rfl, by decide +kernel, by decide +kernel, by decide +kernel⟩ rfl (fun h => by cases h) (Nat.le_of_ble_eq_true rfl) rfl rfl rfl rfl (by decide) rfl rfl (fun H locs h => ?_)
            obtain ⟨hP, hD, hS⟩ := h
            refine lv_if_eq (tgt := 51) hx hb dX5_same_45 (by decide) (fun c20 => ?_) (fun c20 => ?_)
            · have hm := gk_it c20 hm
              refine lv_aload_n hx hb dX5_same_51 rfl (lv_at hl 0 rfl) ?_
              refine va_get (D := G.1) (cl := vwCl) (own := RX5) (ref := "ExchangeFamilies") (ci := 4) (v := .ref a1) (C := RX5) (T := TX5) (N := 6) hx hb hts k_X5_same_0 hown hK hP 0 rfl rfl 0 (by decide) (hts _ k_X5_same_1) (fun _ h9 => h9) rfl dX5_same_52 ?_
              refine va_get (D := G.1) (cl := vwCl) (own := RX5) (ref := "ExchangeFamilies$Ground") (ci := 0) (v := .ref a2) (C := RX1) (T := TX1) (N := 5) hx hb hts k_X5_same_2 hown hK hP 1 rfl rfl 1 (by decide) (hts _ k_X5_same_3) (fun _ h9 => h9) rfl dX5_same_55 ?_
              refine lv_iload_n hx hb dX5_same_58 rfl (lv_at hl 1 rfl) ?_
              obtain ⟨hi, hm⟩ := gk_ix_some hm
              refine va_lald hx hb hK hP 2 1 rfl rfl hi dX5_same_59 ?_
              refine lv_lstore (lv' := [(4, .long (f_now_members x1.toNatClampNeg)), (0, .ref a0), (1, .int x1), (2, .int x2), (3, .int x3)]) hx hb dX5_same_60 hl (by decide) rfl (fun ls hl => ?_)
              refine lv_aload_n hx hb dX5_same_62 rfl (lv_at hl 1 rfl) ?_
              refine va_get (D := G.1) (cl := vwCl) (own := RX5) (ref := "ExchangeFamilies") (ci := 4) (v := .ref a1) (C := RX5) (T := TX5) (N := 6) hx hb hts k_X5_same_0 hown hK hP 0 rfl rfl 0 (by decide) (hts _ k_X5_same_1) (fun _ h9 => h9) rfl dX5_same_63 ?_
              refine va_get (D := G.1) (cl := vwCl) (own := RX5) (ref := "ExchangeFamilies$Ground") (ci := 0) (v := .ref a2) (C := RX1) (T := TX1) (N := 5) hx hb hts k_X5_same_2 hown hK hP 1 rfl rfl 1 (by decide) (hts _ k_X5_same_3) (fun _ h9 => h9) rfl dX5_same_66 ?_
              refine lv_iload_n hx hb dX5_same_69 rfl (lv_at hl 3 rfl) ?_
              obtain ⟨hi, hm⟩ := gk_ix_some hm
              refine va_lald hx hb hK hP 2 1 rfl rfl hi dX5_same_70 ?_
              refine lv_lstore (lv' := [(6, .long (f_now_members x2.toNatClampNeg)), (4, .long (f_now_members x1.toNatClampNeg)), (0, .ref a0), (1, .int x1), (2, .int x2), (3, .int x3)]) hx hb dX5_same_71 hl (by decide) rfl (fun ls hl => ?_)
              refine lv_iload_n hx hb dX5_same_73 rfl (lv_at hl 5 rfl) ?_
              by_cases c21 : x3 = 0
              · have hm := gk_it c21 hm
                refine lv_lookup (tgt := 100) (off := 26) hx hb dX5_same_74 rfl (by rw [c21]; rfl) (by decide) ?_
                refine lv_lload hx hb dX5_same_100 (lv_at hl 1 rfl) ?_
                refine lv_lload hx hb dX5_same_102 (lv_at hl 0 rfl) ?_
                refine W.lcmp hx hb dX5_same_104 ?_
                refine lv_if_ne (tgt := 112) hx hb dX5_same_105 (by decide) (fun c22 => ?_) (fun c22 => ?_)
                · have hm := gk_if c22 hm
                  refine lv_iconst (v := 0) hx hb dX5_same_112 (by decide) ?_
                  rw [kr _ (Option.some.inj hm).symm]
                  exact gk_iret C ⟨hP, hD, hS⟩ dX5_same_113
                · have hm := gk_it c22 hm
                  refine lv_iconst (v := 1) hx hb dX5_same_108 (by decide) ?_
                  refine lv_goto (tgt := 113) hx hb dX5_same_109 (by decide) ?_
                  rw [kr _ (Option.some.inj hm).symm]
                  exact gk_iret C ⟨hP, hD, hS⟩ dX5_same_113
              have hm := gk_if c21 hm
              by_cases c23 : x3 = 1
              · have hm := gk_it c23 hm
                refine lv_lookup (tgt := 114) (off := 40) hx hb dX5_same_74 rfl (by rw [c23]; rfl) (by decide) ?_
                refine lv_lload hx hb dX5_same_114 (lv_at hl 1 rfl) ?_
                refine lv_lload hx hb dX5_same_116 (lv_at hl 0 rfl) ?_
                refine lv_aload_n hx hb dX5_same_118 rfl (lv_at hl 2 rfl) ?_
                refine va_get (D := G.1) (cl := vwCl) (own := RX5) (ref := "ExchangeFamilies") (ci := 4) (v := .ref a1) (C := RX5) (T := TX5) (N := 6) hx hb hts k_X5_same_0 hown hK hP 0 rfl rfl 0 (by decide) (hts _ k_X5_same_1) (fun _ h9 => h9) rfl dX5_same_119 ?_
                refine va_get (D := G.1) (cl := vwCl) (own := RX5) (ref := "ExchangeFamilies$Ground") (ci := 0) (v := .int f_now_n) (C := RX1) (T := TX1) (N := 5) hx hb hts k_X5_same_2 hown hK hP 1 rfl rfl 0 (by decide) (hts _ k_X5_same_4) (fun _ h9 => h9) rfl dX5_same_122 ?_
                obtain ⟨r24, hq, hm⟩ := gk_bd1_some hm
                refine gk_callS (n := 3) (bytes := cX0_leastTwist) (maxL := 6) (ret := (some .int)) [(a0, .inr (4, [.ref a1, .ref a7, .int f_isKept, .ref a13, .ref a15, .ref a18])), (a1, .inr (0, [.int f_now_n, .ref a2, .ref a3, .ref a4, .ref a5])), (a2, gk_J G 6 f_now_members), (a3, gk_I G 6 f_now_kinds)] [(a0, .inr (4, [.ref a1, .ref a7, .int f_isKept, .ref a13, .ref a15, .ref a18])), (a1, .inr (0, [.int f_now_n, .ref a2, .ref a3, .ref a4, .ref a5])), (a2, gk_J G 6 f_now_members), (a3, gk_I G 6 f_now_kinds)] [] C ⟨hP, hD, hS⟩ (c_X0_leastTwist l G (f_now_members x1.toNatClampNeg) (f_now_members x2.toNatClampNeg) f_now_n hq) gX5_same_X0_leastTwist dX5_same_125 hl.1 [] [0, 1, 2, 3] [0, 1, 2, 3] rfl ⟨rfl, rfl⟩ ⟨Nat.le_of_ble_eq_true rfl, Nat.le_of_ble_eq_true rfl⟩ ⟨by decide +kernel, by decide +kernel, by decide +kernel⟩ rfl (fun h => h) (Nat.le_of_ble_eq_true rfl) rfl rfl rfl rfl (by decide) rfl rfl (fun H locs h => ?_)
                obtain ⟨hP, hD, hS⟩ := h
                rw [kr _ (Option.some.inj hm).symm]
                exact gk_iret C ⟨hP, hD, hS⟩ dX5_same_128
              have hm := gk_if c23 hm
              refine lv_lookup (tgt := 129) (off := 55) hx hb dX5_same_74 rfl (by first | rw [lv_osw c21 rfl] | (erw [lv_osw c21 rfl]); first | rw [lv_osw c23 rfl] | (erw [lv_osw c23 rfl]); rfl) (by decide) ?_
              refine lv_lload hx hb dX5_same_129 (lv_at hl 1 rfl) ?_
              refine lv_lload hx hb dX5_same_131 (lv_at hl 0 rfl) ?_
              refine lv_iconst (v := 0) hx hb dX5_same_133 (by decide) ?_
              refine lv_aload_n hx hb dX5_same_134 rfl (lv_at hl 2 rfl) ?_
              refine va_get (D := G.1) (cl := vwCl) (own := RX5) (ref := "ExchangeFamilies") (ci := 4) (v := .ref a1) (C := RX5) (T := TX5) (N := 6) hx hb hts k_X5_same_0 hown hK hP 0 rfl rfl 0 (by decide) (hts _ k_X5_same_1) (fun _ h9 => h9) rfl dX5_same_135 ?_
              refine va_get (D := G.1) (cl := vwCl) (own := RX5) (ref := "ExchangeFamilies$Ground") (ci := 0) (v := .int f_now_n) (C := RX1) (T := TX1) (N := 5) hx hb hts k_X5_same_2 hown hK hP 1 rfl rfl 0 (by decide) (hts _ k_X5_same_4) (fun _ h9 => h9) rfl dX5_same_138 ?_
              obtain ⟨r25, hq, hm⟩ := gk_bd1_some hm
              refine gk_callSN (n := 4) (bytes := cX0_areAlike) (maxL := 7) (ret := (some .boolean)) [(a0, .inr (4, [.ref a1, .ref a7, .int f_isKept, .ref a13, .ref a15, .ref a18])), (a1, .inr (0, [.int f_now_n, .ref a2, .ref a3, .ref a4, .ref a5])), (a2, gk_J G 6 f_now_members), (a3, gk_I G 6 f_now_kinds)] [(a0, .inr (4, [.ref a1, .ref a7, .int f_isKept, .ref a13, .ref a15, .ref a18])), (a1, .inr (0, [.int f_now_n, .ref a2, .ref a3, .ref a4, .ref a5])), (a2, gk_J G 6 f_now_members), (a3, gk_I G 6 f_now_kinds)] [] C ⟨hP, hD, hS⟩ (c_X0_areAlike l G (f_now_members x1.toNatClampNeg) (f_now_members x2.toNatClampNeg) (0 : Int32) f_now_n 8 hq) gX5_same_X0_areAlike_n216 (hSt rfl).2.2.2.2.2.2.1 (hts _ k_X5_same_5) (hts _ k_X5_same_6) dX5_same_141 hl.1 [] [0, 1, 2, 3] [0, 1, 2, 3] rfl ⟨rfl, rfl⟩ ⟨Nat.le_of_ble_eq_true rfl, Nat.le_of_ble_eq_true rfl⟩ ⟨by decide +kernel, by decide +kernel, by decide +kernel⟩ rfl (fun h => h) (Nat.le_of_ble_eq_true rfl) rfl rfl rfl rfl (by decide) rfl rfl (fun H locs h => ?_)
              obtain ⟨hP, hD, hS⟩ := h
              refine lv_if_eq (tgt := 151) hx hb dX5_same_144 (by decide) (fun c26 => ?_) (fun c26 => ?_)
              · have hm := gk_it c26 hm
                refine lv_iconst (v := 0) hx hb dX5_same_151 (by decide) ?_
                rw [kr _ (Option.some.inj hm).symm]
                exact gk_iret C ⟨hP, hD, hS⟩ dX5_same_152
              · have hm := gk_if c26 hm
                refine lv_iconst (v := 1) hx hb dX5_same_147 (by decide) ?_
                refine lv_goto (tgt := 152) hx hb dX5_same_148 (by decide) ?_
                rw [kr _ (Option.some.inj hm).symm]
                exact gk_iret C ⟨hP, hD, hS⟩ dX5_same_152
            · have hm := gk_if c20 hm
              refine lv_bipush (v := -11) hx hb dX5_same_48 (by decide) ?_
              rw [kr _ (Option.some.inj hm).symm]
              exact gk_iret C ⟨hP, hD, hS⟩ dX5_same_50
        · have hm := gk_if c16 hm
          refine lv_bipush (v := -2) hx hb dX5_same_23 (by decide) ?_
          rw [kr _ (Option.some.inj hm).symm]
          exact gk_iret C ⟨hP, hD, hS⟩ dX5_same_25
def m_X5_same (f_now_n : Int32) (f_now_members : (Nat → Int64)) (f_now_kinds : (Nat → Int32)) (x1 : Int32) (x2 : Int32) (x3 : Int32) : Option (Int32) := m_X5_same_0 f_now_n f_now_members f_now_kinds x1 x2 x3
theorem c_X5_same (l : Launch) (G : gk_G) (a0 a1 a2 a3 a4 a5 a7 a13 a15 a18 : Nat) (f_isKept : Int32) (f_now_n : Int32) (f_now_members : (Nat → Int64)) (f_now_kinds : (Nat → Int32)) (x1 : Int32) (x2 : Int32) (x3 : Int32) {rv : Int32} (hm : m_X5_same f_now_n f_now_members f_now_kinds x1 x2 x3 = some rv) : gk_M l yX5_same wsX5_same rm_X5_same true G [.ref a0, .int x1, .int x2, .int x3] [(a0, .inr (4, [.ref a1, .ref a7, .int f_isKept, .ref a13, .ref a15, .ref a18])), (a1, .inr (0, [.int f_now_n, .ref a2, .ref a3, .ref a4, .ref a5])), (a2, gk_J G 6 f_now_members), (a3, gk_I G 6 f_now_kinds)] (some (.int rv)) [(a0, .inr (4, [.ref a1, .ref a7, .int f_isKept, .ref a13, .ref a15, .ref a18])), (a1, .inr (0, [.int f_now_n, .ref a2, .ref a3, .ref a4, .ref a5])), (a2, gk_J G 6 f_now_members), (a3, gk_I G 6 f_now_kinds)] :=
  gk_of (by decide) rfl (Nat.le_of_ble_eq_true rfl) (fun p e s m below meth c A ls C h hl => w_X5_same_0 C hm (fun v0 ez => by cases ez; rfl) h (show lv_has ls 8 [(0, .ref a0), (1, .int x1), (2, .int x2), (3, .int x3)] from hl))

/-! ===== ExchangeFamilies.noRow(I)Z ===== -/
abbrev rm_X5_noRow : Room := { frames := 1, cells := 0, slots := 0, locals := 64 }
def m_X5_noRow_0 (x0 : Int32) : Option (Int32) := (if x0 < (0 : Int32) then some (1 : Int32) else (if x0 < (4 : Int32) then some (0 : Int32) else some (1 : Int32)))
set_option maxRecDepth 100000 in
set_option maxHeartbeats 4000000 in
theorem w_X5_noRow_0 {p : Program} {l : Launch} {e : Env} {s : State} {m : MethodId} {args : Array Value} {below : List Frame} {meth : Method} {c : Code} {G : gk_G} {A : Nat → Prop} {Q : State → Prop} (C : gk_C p s m args meth c cX5_noRow 1 (some .boolean) yX5_noRow wsX5_noRow false G A) {x0 : Int32} {yy : Int32} (hm : m_X5_noRow_0 x0 = some yy) (kr : ∀ (rv : Int32), yy = rv → Q = MQ below (gk_Q G (some (.int rv)) [] A) args s 0 0 A) {H : Heap} {locs : List Loc} {ls : Array Slot} (h : gk_H G A s [] H locs) (hl : lv_has ls 1 [(0, .int x0)]) : W p l e rm_X5_noRow s m args below meth c H locs 0 0 Q (F0 m 0 ls []) := by
  obtain ⟨hx, hb, hml, hr, hown, hnm, hts, hlk, hK, hSt, hA⟩ := id C
  obtain ⟨hP, hD, hS⟩ := h
  unfold m_X5_noRow_0 at hm
  refine lv_iload_n hx hb dX5_noRow_0 rfl (lv_at hl 0 rfl) ?_
  refine lv_if_lt (tgt := 9) hx hb dX5_noRow_1 (by decide) (fun c3 => ?_) (fun c3 => ?_)
  · have hm := gk_it c3 hm
    refine lv_iconst (v := 1) hx hb dX5_noRow_9 (by decide) ?_
    refine lv_goto (tgt := 14) hx hb dX5_noRow_10 (by decide) ?_
    rw [kr _ (Option.some.inj hm).symm]
    exact gk_zret C ⟨hP, hD, hS⟩ rfl dX5_noRow_14
  · have hm := gk_if c3 hm
    refine lv_iload_n hx hb dX5_noRow_4 rfl (lv_at hl 0 rfl) ?_
    refine lv_iconst (v := 4) hx hb dX5_noRow_5 (by decide) ?_
    refine lv_icmp_lt (tgt := 13) hx hb dX5_noRow_6 (by decide) (fun c4 => ?_) (fun c4 => ?_)
    · have hm := gk_it c4 hm
      refine lv_iconst (v := 0) hx hb dX5_noRow_13 (by decide) ?_
      rw [kr _ (Option.some.inj hm).symm]
      exact gk_zret C ⟨hP, hD, hS⟩ rfl dX5_noRow_14
    · have hm := gk_if c4 hm
      refine lv_iconst (v := 1) hx hb dX5_noRow_9 (by decide) ?_
      refine lv_goto (tgt := 14) hx hb dX5_noRow_10 (by decide) ?_
      rw [kr _ (Option.some.inj hm).symm]
      exact gk_zret C ⟨hP, hD, hS⟩ rfl dX5_noRow_14
def m_X5_noRow (x0 : Int32) : Option (Int32) := m_X5_noRow_0 x0
theorem c_X5_noRow (l : Launch) (G : gk_G) (x0 : Int32) {rv : Int32} (hm : m_X5_noRow x0 = some rv) : gk_M l yX5_noRow wsX5_noRow rm_X5_noRow false G [.int x0] [] (some (.int rv)) [] :=
  gk_of (by decide) rfl (Nat.le_of_ble_eq_true rfl) (fun p e s m below meth c A ls C h hl => w_X5_noRow_0 C hm (fun v0 ez => by cases ez; rfl) h (show lv_has ls 1 [(0, .int x0)] from hl))

/-! ===== ExchangeFamilies.row(III)I ===== -/
abbrev rm_X5_row : Room := { frames := 5, cells := 0, slots := 0, locals := 238 }
theorem k_X5_row_0 : ∀ w ∈ u_ws RX5 TX5 6, w ∈ wsX5_row := by decide +kernel
theorem k_X5_row_1 : Cond.fieldLink RX5 41 "ExchangeFamilies" "numbers" "[LExchangeFamilies$Numbers;" ∈ wsX5_row := by decide +kernel
def m_X5_row_0 (f_numbers_r0_sort : Int32) (f_numbers_r0_size : Int32) (f_numbers_r0_values : (Nat → Int64)) (f_numbers_r1_sort : Int32) (f_numbers_r1_size : Int32) (f_numbers_r1_values : (Nat → Int64)) (f_numbers_r2_sort : Int32) (f_numbers_r2_size : Int32) (f_numbers_r2_values : (Nat → Int64)) (f_numbers_r3_sort : Int32) (f_numbers_r3_size : Int32) (f_numbers_r3_values : (Nat → Int64)) (x1 : Int32) (x2 : Int32) (x3 : Int32) : Option (Int32 × Int32 × Int32 × (Nat → Int64) × Int32 × Int32 × (Nat → Int64) × Int32 × Int32 × (Nat → Int64) × Int32 × Int32 × (Nat → Int64)) := gk_bd1 (m_X5_noRow x1) (fun r15 => (if r15 = (0 : Int32) then (if x2 < (-1 : Int32) then some ((-2 : Int32), f_numbers_r0_sort, f_numbers_r0_size, f_numbers_r0_values, f_numbers_r1_sort, f_numbers_r1_size, f_numbers_r1_values, f_numbers_r2_sort, f_numbers_r2_size, f_numbers_r2_values, f_numbers_r3_sort, f_numbers_r3_size, f_numbers_r3_values) else (if x2 < (4 : Int32) then (if x2 = (-1 : Int32) then (if x1 = 0 then gk_bd3 (m_X2_begin f_numbers_r0_sort f_numbers_r0_size f_numbers_r0_values (-1 : Int32) (0 : Int32)) (fun r39 r40 r41 => some ((1 : Int32), r39, r40, r41, f_numbers_r1_sort, f_numbers_r1_size, f_numbers_r1_values, f_numbers_r2_sort, f_numbers_r2_size, f_numbers_r2_values, f_numbers_r3_sort, f_numbers_r3_size, f_numbers_r3_values)) else (if x1 = 1 then gk_bd3 (m_X2_begin f_numbers_r1_sort f_numbers_r1_size f_numbers_r1_values (-1 : Int32) (0 : Int32)) (fun r43 r44 r45 => some ((1 : Int32), f_numbers_r0_sort, f_numbers_r0_size, f_numbers_r0_values, r43, r44, r45, f_numbers_r2_sort, f_numbers_r2_size, f_numbers_r2_values, f_numbers_r3_sort, f_numbers_r3_size, f_numbers_r3_values)) else (if x1 = 2 then gk_bd3 (m_X2_begin f_numbers_r2_sort f_numbers_r2_size f_numbers_r2_values (-1 : Int32) (0 : Int32)) (fun r47 r48 r49 => some ((1 : Int32), f_numbers_r0_sort, f_numbers_r0_size, f_numbers_r0_values, f_numbers_r1_sort, f_numbers_r1_size, f_numbers_r1_values, r47, r48, r49, f_numbers_r3_sort, f_numbers_r3_size, f_numbers_r3_values)) else (if x1 = 3 then gk_bd3 (m_X2_begin f_numbers_r3_sort f_numbers_r3_size f_numbers_r3_values (-1 : Int32) (0 : Int32)) (fun r51 r52 r53 => some ((1 : Int32), f_numbers_r0_sort, f_numbers_r0_size, f_numbers_r0_values, f_numbers_r1_sort, f_numbers_r1_size, f_numbers_r1_values, f_numbers_r2_sort, f_numbers_r2_size, f_numbers_r2_values, r51, r52, r53)) else none)))) else (if x3 ≤ (80 : Int32) then (if (0 : Int32) ≤ x3 then (if x1 = 0 then gk_bd3 (m_X2_begin f_numbers_r0_sort f_numbers_r0_size f_numbers_r0_values x2 x3) (fun r23 r24 r25 => some ((1 : Int32), r23, r24, r25, f_numbers_r1_sort, f_numbers_r1_size, f_numbers_r1_values, f_numbers_r2_sort, f_numbers_r2_size, f_numbers_r2_values, f_numbers_r3_sort, f_numbers_r3_size, f_numbers_r3_values)) else (if x1 = 1 then gk_bd3 (m_X2_begin f_numbers_r1_sort f_numbers_r1_size f_numbers_r1_values x2 x3) (fun r27 r28 r29 => some ((1 : Int32), f_numbers_r0_sort, f_numbers_r0_size, f_numbers_r0_values, r27, r28, r29, f_numbers_r2_sort, f_numbers_r2_size, f_numbers_r2_values, f_numbers_r3_sort, f_numbers_r3_size, f_numbers_r3_values)) else (if x1 = 2 then gk_bd3 (m_X2_begin f_numbers_r2_sort f_numbers_r2_size f_numbers_r2_values x2 x3) (fun r31 r32 r33 => some ((1 : Int32), f_numbers_r0_sort, f_numbers_r0_size, f_numbers_r0_values, f_numbers_r1_sort, f_numbers_r1_size, f_numbers_r1_values, r31, r32, r33, f_numbers_r3_sort, f_numbers_r3_size, f_numbers_r3_values)) else (if x1 = 3 then gk_bd3 (m_X2_begin f_numbers_r3_sort f_numbers_r3_size f_numbers_r3_values x2 x3) (fun r35 r36 r37 => some ((1 : Int32), f_numbers_r0_sort, f_numbers_r0_size, f_numbers_r0_values, f_numbers_r1_sort, f_numbers_r1_size, f_numbers_r1_values, f_numbers_r2_sort, f_numbers_r2_size, f_numbers_r2_values, r35, r36, r37)) else none)))) else some ((-14 : Int32), f_numbers_r0_sort, f_numbers_r0_size, f_numbers_r0_values, f_numbers_r1_sort, f_numbers_r1_size, f_numbers_r1_values, f_numbers_r2_sort, f_numbers_r2_size, f_numbers_r2_values, f_numbers_r3_sort, f_numbers_r3_size, f_numbers_r3_values)) else some ((-2 : Int32), f_numbers_r0_sort, f_numbers_r0_size, f_numbers_r0_values, f_numbers_r1_sort, f_numbers_r1_size, f_numbers_r1_values, f_numbers_r2_sort, f_numbers_r2_size, f_numbers_r2_values, f_numbers_r3_sort, f_numbers_r3_size, f_numbers_r3_values))) else some ((-2 : Int32), f_numbers_r0_sort, f_numbers_r0_size, f_numbers_r0_values, f_numbers_r1_sort, f_numbers_r1_size, f_numbers_r1_values, f_numbers_r2_sort, f_numbers_r2_size, f_numbers_r2_values, f_numbers_r3_sort, f_numbers_r3_size, f_numbers_r3_values))) else some ((-2 : Int32), f_numbers_r0_sort, f_numbers_r0_size, f_numbers_r0_values, f_numbers_r1_sort, f_numbers_r1_size, f_numbers_r1_values, f_numbers_r2_sort, f_numbers_r2_size, f_numbers_r2_values, f_numbers_r3_sort, f_numbers_r3_size, f_numbers_r3_values)))
set_option maxRecDepth 100000 in
set_option maxHeartbeats 4000000 in
theorem w_X5_row_0 {p : Program} {l : Launch} {e : Env} {s : State} {m : MethodId} {args : Array Value} {below : List Frame} {meth : Method} {c : Code} {G : gk_G} {A : Nat → Prop} {Q : State → Prop} {a0 a1 a7 a13 a15 a18 a19 a20 a21 a22 a23 a24 a25 a26 : Nat} (C : gk_C p s m args meth c cX5_row 4 (some .int) yX5_row wsX5_row false G A) {f_numbers_r0_sort : Int32} {f_numbers_r0_size : Int32} {f_numbers_r0_values : (Nat → Int64)} {f_numbers_r1_sort : Int32} {f_numbers_r1_size : Int32} {f_numbers_r1_values : (Nat → Int64)} {f_numbers_r2_sort : Int32} {f_numbers_r2_size : Int32} {f_numbers_r2_values : (Nat → Int64)} {f_numbers_r3_sort : Int32} {f_numbers_r3_size : Int32} {f_numbers_r3_values : (Nat → Int64)} {x1 : Int32} {x2 : Int32} {x3 : Int32} {f_isKept : Int32} {yy : Int32 × Int32 × Int32 × (Nat → Int64) × Int32 × Int32 × (Nat → Int64) × Int32 × Int32 × (Nat → Int64) × Int32 × Int32 × (Nat → Int64)} (hm : m_X5_row_0 f_numbers_r0_sort f_numbers_r0_size f_numbers_r0_values f_numbers_r1_sort f_numbers_r1_size f_numbers_r1_values f_numbers_r2_sort f_numbers_r2_size f_numbers_r2_values f_numbers_r3_sort f_numbers_r3_size f_numbers_r3_values x1 x2 x3 = some yy) (kr : ∀ (rv : Int32) (g_numbers_r0_sort : Int32) (g_numbers_r0_size : Int32) (g_numbers_r0_values : (Nat → Int64)) (g_numbers_r1_sort : Int32) (g_numbers_r1_size : Int32) (g_numbers_r1_values : (Nat → Int64)) (g_numbers_r2_sort : Int32) (g_numbers_r2_size : Int32) (g_numbers_r2_values : (Nat → Int64)) (g_numbers_r3_sort : Int32) (g_numbers_r3_size : Int32) (g_numbers_r3_values : (Nat → Int64)), yy = (rv, g_numbers_r0_sort, g_numbers_r0_size, g_numbers_r0_values, g_numbers_r1_sort, g_numbers_r1_size, g_numbers_r1_values, g_numbers_r2_sort, g_numbers_r2_size, g_numbers_r2_values, g_numbers_r3_sort, g_numbers_r3_size, g_numbers_r3_values) → Q = MQ below (gk_Q G (some (.int rv)) [(a0, .inr (4, [.ref a1, .ref a7, .int f_isKept, .ref a13, .ref a15, .ref a18])), (a18, gk_R G 4 (gk_four a19 a21 a23 a25)), (a19, .inr (1, [.int g_numbers_r0_sort, .int g_numbers_r0_size, .ref a20])), (a20, gk_J G 80 g_numbers_r0_values), (a21, .inr (1, [.int g_numbers_r1_sort, .int g_numbers_r1_size, .ref a22])), (a22, gk_J G 80 g_numbers_r1_values), (a23, .inr (1, [.int g_numbers_r2_sort, .int g_numbers_r2_size, .ref a24])), (a24, gk_J G 80 g_numbers_r2_values), (a25, .inr (1, [.int g_numbers_r3_sort, .int g_numbers_r3_size, .ref a26])), (a26, gk_J G 80 g_numbers_r3_values)] A) args s 0 0 A) {H : Heap} {locs : List Loc} {ls : Array Slot} (h : gk_H G A s [(a0, .inr (4, [.ref a1, .ref a7, .int f_isKept, .ref a13, .ref a15, .ref a18])), (a18, gk_R G 4 (gk_four a19 a21 a23 a25)), (a19, .inr (1, [.int f_numbers_r0_sort, .int f_numbers_r0_size, .ref a20])), (a20, gk_J G 80 f_numbers_r0_values), (a21, .inr (1, [.int f_numbers_r1_sort, .int f_numbers_r1_size, .ref a22])), (a22, gk_J G 80 f_numbers_r1_values), (a23, .inr (1, [.int f_numbers_r2_sort, .int f_numbers_r2_size, .ref a24])), (a24, gk_J G 80 f_numbers_r2_values), (a25, .inr (1, [.int f_numbers_r3_sort, .int f_numbers_r3_size, .ref a26])), (a26, gk_J G 80 f_numbers_r3_values)] H locs) (hl : lv_has ls 4 [(0, .ref a0), (1, .int x1), (2, .int x2), (3, .int x3)]) : W p l e rm_X5_row s m args below meth c H locs 0 0 Q (F0 m 0 ls []) := by
  obtain ⟨hx, hb, hml, hr, hown, hnm, hts, hlk, hK, hSt, hA⟩ := id C
  obtain ⟨hP, hD, hS⟩ := h
  unfold m_X5_row_0 at hm
  refine lv_iload_n hx hb dX5_row_0 rfl (lv_at hl 1 rfl) ?_
  obtain ⟨r15, hq, hm⟩ := gk_bd1_some hm
  refine gk_callS (n := 1) (bytes := cX5_noRow) (maxL := 1) (ret := (some .boolean)) [(a0, .inr (4, [.ref a1, .ref a7, .int f_isKept, .ref a13, .ref a15, .ref a18])), (a18, gk_R G 4 (gk_four a19 a21 a23 a25)), (a19, .inr (1, [.int f_numbers_r0_sort, .int f_numbers_r0_size, .ref a20])), (a20, gk_J G 80 f_numbers_r0_values), (a21, .inr (1, [.int f_numbers_r1_sort, .int f_numbers_r1_size, .ref a22])), (a22, gk_J G 80 f_numbers_r1_values), (a23, .inr (1, [.int f_numbers_r2_sort, .int f_numbers_r2_size, .ref a24])), (a24, gk_J G 80 f_numbers_r2_values), (a25, .inr (1, [.int f_numbers_r3_sort, .int f_numbers_r3_size, .ref a26])), (a26, gk_J G 80 f_numbers_r3_values)] [(a0, .inr (4, [.ref a1, .ref a7, .int f_isKept, .ref a13, .ref a15, .ref a18])), (a18, gk_R G 4 (gk_four a19 a21 a23 a25)), (a19, .inr (1, [.int f_numbers_r0_sort, .int f_numbers_r0_size, .ref a20])), (a20, gk_J G 80 f_numbers_r0_values), (a21, .inr (1, [.int f_numbers_r1_sort, .int f_numbers_r1_size, .ref a22])), (a22, gk_J G 80 f_numbers_r1_values), (a23, .inr (1, [.int f_numbers_r2_sort, .int f_numbers_r2_size, .ref a24])), (a24, gk_J G 80 f_numbers_r2_values), (a25, .inr (1, [.int f_numbers_r3_sort, .int f_numbers_r3_size, .ref a26])), (a26, gk_J G 80 f_numbers_r3_values)] [] C ⟨hP, hD, hS⟩ (c_X5_noRow l G x1 hq) gX5_row_X5_noRow dX5_row_1 hl.1 [] [0, 1, 2, 3, 4, 5, 6, 7, 8, 9] [0, 1, 2, 3, 4, 5, 6, 7, 8, 9] rfl ⟨rfl, rfl⟩ ⟨Nat.le_of_ble_eq_true rfl, Nat.le_of_ble_eq_true rfl⟩ ⟨by decide +kernel, by decide +kernel, by decide +kernel⟩ rfl (fun h => by cases h) (Nat.le_of_ble_eq_true rfl) rfl rfl rfl rfl (by decide) rfl rfl (fun H locs h => ?_)
  obtain ⟨hP, hD, hS⟩ := h
  refine lv_if_ne (tgt := 17) hx hb dX5_row_4 (by decide) (fun c16 => ?_) (fun c16 => ?_)
  · have hm := gk_if c16 hm
    refine lv_bipush (v := -2) hx hb dX5_row_17 (by decide) ?_
    rw [kr _ _ _ _ _ _ _ _ _ _ _ _ _ (Option.some.inj hm).symm]
    exact gk_iret C ⟨hP, hD, hS⟩ dX5_row_19
  · have hm := gk_it c16 hm
    refine lv_iload_n hx hb dX5_row_7 rfl (lv_at hl 2 rfl) ?_
    refine lv_iconst (v := -1) hx hb dX5_row_8 (by decide) ?_
    refine lv_icmp_lt (tgt := 17) hx hb dX5_row_9 (by decide) (fun c17 => ?_) (fun c17 => ?_)
    · have hm := gk_it c17 hm
      refine lv_bipush (v := -2) hx hb dX5_row_17 (by decide) ?_
      rw [kr _ _ _ _ _ _ _ _ _ _ _ _ _ (Option.some.inj hm).symm]
      exact gk_iret C ⟨hP, hD, hS⟩ dX5_row_19
    · have hm := gk_if c17 hm
      refine lv_iload_n hx hb dX5_row_12 rfl (lv_at hl 2 rfl) ?_
      refine lv_iconst (v := 4) hx hb dX5_row_13 (by decide) ?_
      refine lv_icmp_lt (tgt := 20) hx hb dX5_row_14 (by decide) (fun c18 => ?_) (fun c18 => ?_)
      · have hm := gk_it c18 hm
        refine lv_iload_n hx hb dX5_row_20 rfl (lv_at hl 2 rfl) ?_
        refine lv_iconst (v := -1) hx hb dX5_row_21 (by decide) ?_
        refine lv_icmp_ne (tgt := 38) hx hb dX5_row_22 (by decide) (fun c19 => ?_) (fun c19 => ?_)
        · have hm := gk_if c19 hm
          refine lv_iload_n hx hb dX5_row_38 rfl (lv_at hl 3 rfl) ?_
          refine lv_bipush (v := 80) hx hb dX5_row_39 (by decide) ?_
          refine lv_icmp_le (tgt := 47) hx hb dX5_row_41 (by decide) (fun c20 => ?_) (fun c20 => ?_)
          · have hm := gk_it c20 hm
            refine lv_iload_n hx hb dX5_row_47 rfl (lv_at hl 3 rfl) ?_
            refine lv_if_ge (tgt := 54) hx hb dX5_row_48 (by decide) (fun c21 => ?_) (fun c21 => ?_)
            · have hm := gk_it c21 hm
              refine lv_aload_n hx hb dX5_row_54 rfl (lv_at hl 0 rfl) ?_
              refine va_get (D := G.1) (cl := vwCl) (own := RX5) (ref := "ExchangeFamilies") (ci := 4) (v := .ref a18) (C := RX5) (T := TX5) (N := 6) hx hb hts k_X5_row_0 hown hK hP 0 rfl rfl 5 (by decide) (hts _ k_X5_row_1) (fun _ h9 => h9) rfl dX5_row_55 ?_
              refine lv_iload_n hx hb dX5_row_58 rfl (lv_at hl 1 rfl) ?_
              by_cases c22 : x1 = 0
              · have hm := gk_it c22 hm
                refine gk_aald (k := 0) (v := a19) C hP 1 rfl c22 (by decide) (by decide) rfl dX5_row_59 ?_
                refine lv_iload_n hx hb dX5_row_60 rfl (lv_at hl 2 rfl) ?_
                refine lv_iload_n hx hb dX5_row_61 rfl (lv_at hl 3 rfl) ?_
                obtain ⟨r23, r24, r25, hq, hm⟩ := gk_bd3_some hm
                refine gk_callV (n := 2) (bytes := cX2_begin) (maxL := 3) (ret := none) (Cn := RX2) (T := TX2) (N := 3) [(a0, .inr (4, [.ref a1, .ref a7, .int f_isKept, .ref a13, .ref a15, .ref a18])), (a18, gk_R G 4 (gk_four a19 a21 a23 a25)), (a21, .inr (1, [.int f_numbers_r1_sort, .int f_numbers_r1_size, .ref a22])), (a22, gk_J G 80 f_numbers_r1_values), (a23, .inr (1, [.int f_numbers_r2_sort, .int f_numbers_r2_size, .ref a24])), (a24, gk_J G 80 f_numbers_r2_values), (a25, .inr (1, [.int f_numbers_r3_sort, .int f_numbers_r3_size, .ref a26])), (a26, gk_J G 80 f_numbers_r3_values)] [(a0, .inr (4, [.ref a1, .ref a7, .int f_isKept, .ref a13, .ref a15, .ref a18])), (a18, gk_R G 4 (gk_four a19 a21 a23 a25)), (a19, .inr (1, [.int r23, .int r24, .ref a20])), (a20, gk_J G 80 r25), (a21, .inr (1, [.int f_numbers_r1_sort, .int f_numbers_r1_size, .ref a22])), (a22, gk_J G 80 f_numbers_r1_values), (a23, .inr (1, [.int f_numbers_r2_sort, .int f_numbers_r2_size, .ref a24])), (a24, gk_J G 80 f_numbers_r2_values), (a25, .inr (1, [.int f_numbers_r3_sort, .int f_numbers_r3_size, .ref a26])), (a26, gk_J G 80 f_numbers_r3_values)] [] C ⟨hP, hD, hS⟩ (c_X2_begin l G a19 a20 f_numbers_r0_sort f_numbers_r0_size f_numbers_r0_values x2 x3 hq) gX5_row_X2_begin dX5_row_62 hl.1 [2, 3] [0, 1, 4, 5, 6, 7, 8, 9] [0, 1, 8, 9, 2, 3, 4, 5, 6, 7] rfl rfl ⟨rfl, rfl⟩ ⟨Nat.le_of_ble_eq_true rfl, Nat.le_of_ble_eq_true rfl⟩ ⟨rfl, by decide +kernel, by decide +kernel, by decide +kernel⟩ rfl (fun h => by cases h) (Nat.le_of_ble_eq_true rfl) rfl rfl rfl rfl (by decide) rfl rfl (fun H locs h => ?_)
                obtain ⟨hP, hD, hS⟩ := h
                refine lv_iconst (v := 1) hx hb dX5_row_65 (by decide) ?_
                rw [kr _ _ _ _ _ _ _ _ _ _ _ _ _ (Option.some.inj hm).symm]
                exact gk_iret C ⟨hP, hD, hS⟩ dX5_row_66
              have hm := gk_if c22 hm
              by_cases c26 : x1 = 1
              · have hm := gk_it c26 hm
                refine gk_aald (k := 1) (v := a21) C hP 1 rfl c26 (by decide) (by decide) rfl dX5_row_59 ?_
                refine lv_iload_n hx hb dX5_row_60 rfl (lv_at hl 2 rfl) ?_
                refine lv_iload_n hx hb dX5_row_61 rfl (lv_at hl 3 rfl) ?_
                obtain ⟨r27, r28, r29, hq, hm⟩ := gk_bd3_some hm
                refine gk_callV (n := 2) (bytes := cX2_begin) (maxL := 3) (ret := none) (Cn := RX2) (T := TX2) (N := 3) [(a0, .inr (4, [.ref a1, .ref a7, .int f_isKept, .ref a13, .ref a15, .ref a18])), (a18, gk_R G 4 (gk_four a19 a21 a23 a25)), (a19, .inr (1, [.int f_numbers_r0_sort, .int f_numbers_r0_size, .ref a20])), (a20, gk_J G 80 f_numbers_r0_values), (a23, .inr (1, [.int f_numbers_r2_sort, .int f_numbers_r2_size, .ref a24])), (a24, gk_J G 80 f_numbers_r2_values), (a25, .inr (1, [.int f_numbers_r3_sort, .int f_numbers_r3_size, .ref a26])), (a26, gk_J G 80 f_numbers_r3_values)] [(a0, .inr (4, [.ref a1, .ref a7, .int f_isKept, .ref a13, .ref a15, .ref a18])), (a18, gk_R G 4 (gk_four a19 a21 a23 a25)), (a19, .inr (1, [.int f_numbers_r0_sort, .int f_numbers_r0_size, .ref a20])), (a20, gk_J G 80 f_numbers_r0_values), (a21, .inr (1, [.int r27, .int r28, .ref a22])), (a22, gk_J G 80 r29), (a23, .inr (1, [.int f_numbers_r2_sort, .int f_numbers_r2_size, .ref a24])), (a24, gk_J G 80 f_numbers_r2_values), (a25, .inr (1, [.int f_numbers_r3_sort, .int f_numbers_r3_size, .ref a26])), (a26, gk_J G 80 f_numbers_r3_values)] [] C ⟨hP, hD, hS⟩ (c_X2_begin l G a21 a22 f_numbers_r1_sort f_numbers_r1_size f_numbers_r1_values x2 x3 hq) gX5_row_X2_begin dX5_row_62 hl.1 [4, 5] [0, 1, 2, 3, 6, 7, 8, 9] [0, 1, 2, 3, 8, 9, 4, 5, 6, 7] rfl rfl ⟨rfl, rfl⟩ ⟨Nat.le_of_ble_eq_true rfl, Nat.le_of_ble_eq_true rfl⟩ ⟨rfl, by decide +kernel, by decide +kernel, by decide +kernel⟩ rfl (fun h => by cases h) (Nat.le_of_ble_eq_true rfl) rfl rfl rfl rfl (by decide) rfl rfl (fun H locs h => ?_)
                obtain ⟨hP, hD, hS⟩ := h
                refine lv_iconst (v := 1) hx hb dX5_row_65 (by decide) ?_
                rw [kr _ _ _ _ _ _ _ _ _ _ _ _ _ (Option.some.inj hm).symm]
                exact gk_iret C ⟨hP, hD, hS⟩ dX5_row_66
              have hm := gk_if c26 hm
              by_cases c30 : x1 = 2
              · have hm := gk_it c30 hm
                refine gk_aald (k := 2) (v := a23) C hP 1 rfl c30 (by decide) (by decide) rfl dX5_row_59 ?_
                refine lv_iload_n hx hb dX5_row_60 rfl (lv_at hl 2 rfl) ?_
                refine lv_iload_n hx hb dX5_row_61 rfl (lv_at hl 3 rfl) ?_
                obtain ⟨r31, r32, r33, hq, hm⟩ := gk_bd3_some hm
                refine gk_callV (n := 2) (bytes := cX2_begin) (maxL := 3) (ret := none) (Cn := RX2) (T := TX2) (N := 3) [(a0, .inr (4, [.ref a1, .ref a7, .int f_isKept, .ref a13, .ref a15, .ref a18])), (a18, gk_R G 4 (gk_four a19 a21 a23 a25)), (a19, .inr (1, [.int f_numbers_r0_sort, .int f_numbers_r0_size, .ref a20])), (a20, gk_J G 80 f_numbers_r0_values), (a21, .inr (1, [.int f_numbers_r1_sort, .int f_numbers_r1_size, .ref a22])), (a22, gk_J G 80 f_numbers_r1_values), (a25, .inr (1, [.int f_numbers_r3_sort, .int f_numbers_r3_size, .ref a26])), (a26, gk_J G 80 f_numbers_r3_values)] [(a0, .inr (4, [.ref a1, .ref a7, .int f_isKept, .ref a13, .ref a15, .ref a18])), (a18, gk_R G 4 (gk_four a19 a21 a23 a25)), (a19, .inr (1, [.int f_numbers_r0_sort, .int f_numbers_r0_size, .ref a20])), (a20, gk_J G 80 f_numbers_r0_values), (a21, .inr (1, [.int f_numbers_r1_sort, .int f_numbers_r1_size, .ref a22])), (a22, gk_J G 80 f_numbers_r1_values), (a23, .inr (1, [.int r31, .int r32, .ref a24])), (a24, gk_J G 80 r33), (a25, .inr (1, [.int f_numbers_r3_sort, .int f_numbers_r3_size, .ref a26])), (a26, gk_J G 80 f_numbers_r3_values)] [] C ⟨hP, hD, hS⟩ (c_X2_begin l G a23 a24 f_numbers_r2_sort f_numbers_r2_size f_numbers_r2_values x2 x3 hq) gX5_row_X2_begin dX5_row_62 hl.1 [6, 7] [0, 1, 2, 3, 4, 5, 8, 9] [0, 1, 2, 3, 4, 5, 8, 9, 6, 7] rfl rfl ⟨rfl, rfl⟩ ⟨Nat.le_of_ble_eq_true rfl, Nat.le_of_ble_eq_true rfl⟩ ⟨rfl, by decide +kernel, by decide +kernel, by decide +kernel⟩ rfl (fun h => by cases h) (Nat.le_of_ble_eq_true rfl) rfl rfl rfl rfl (by decide) rfl rfl (fun H locs h => ?_)
                obtain ⟨hP, hD, hS⟩ := h
                refine lv_iconst (v := 1) hx hb dX5_row_65 (by decide) ?_
                rw [kr _ _ _ _ _ _ _ _ _ _ _ _ _ (Option.some.inj hm).symm]
                exact gk_iret C ⟨hP, hD, hS⟩ dX5_row_66
              have hm := gk_if c30 hm
              by_cases c34 : x1 = 3
              · have hm := gk_it c34 hm
                refine gk_aald (k := 3) (v := a25) C hP 1 rfl c34 (by decide) (by decide) rfl dX5_row_59 ?_
                refine lv_iload_n hx hb dX5_row_60 rfl (lv_at hl 2 rfl) ?_
                refine lv_iload_n hx hb dX5_row_61 rfl (lv_at hl 3 rfl) ?_
                obtain ⟨r35, r36, r37, hq, hm⟩ := gk_bd3_some hm
                refine gk_callV (n := 2) (bytes := cX2_begin) (maxL := 3) (ret := none) (Cn := RX2) (T := TX2) (N := 3) [(a0, .inr (4, [.ref a1, .ref a7, .int f_isKept, .ref a13, .ref a15, .ref a18])), (a18, gk_R G 4 (gk_four a19 a21 a23 a25)), (a19, .inr (1, [.int f_numbers_r0_sort, .int f_numbers_r0_size, .ref a20])), (a20, gk_J G 80 f_numbers_r0_values), (a21, .inr (1, [.int f_numbers_r1_sort, .int f_numbers_r1_size, .ref a22])), (a22, gk_J G 80 f_numbers_r1_values), (a23, .inr (1, [.int f_numbers_r2_sort, .int f_numbers_r2_size, .ref a24])), (a24, gk_J G 80 f_numbers_r2_values)] [(a0, .inr (4, [.ref a1, .ref a7, .int f_isKept, .ref a13, .ref a15, .ref a18])), (a18, gk_R G 4 (gk_four a19 a21 a23 a25)), (a19, .inr (1, [.int f_numbers_r0_sort, .int f_numbers_r0_size, .ref a20])), (a20, gk_J G 80 f_numbers_r0_values), (a21, .inr (1, [.int f_numbers_r1_sort, .int f_numbers_r1_size, .ref a22])), (a22, gk_J G 80 f_numbers_r1_values), (a23, .inr (1, [.int f_numbers_r2_sort, .int f_numbers_r2_size, .ref a24])), (a24, gk_J G 80 f_numbers_r2_values), (a25, .inr (1, [.int r35, .int r36, .ref a26])), (a26, gk_J G 80 r37)] [] C ⟨hP, hD, hS⟩ (c_X2_begin l G a25 a26 f_numbers_r3_sort f_numbers_r3_size f_numbers_r3_values x2 x3 hq) gX5_row_X2_begin dX5_row_62 hl.1 [8, 9] [0, 1, 2, 3, 4, 5, 6, 7] [0, 1, 2, 3, 4, 5, 6, 7, 8, 9] rfl rfl ⟨rfl, rfl⟩ ⟨Nat.le_of_ble_eq_true rfl, Nat.le_of_ble_eq_true rfl⟩ ⟨rfl, by decide +kernel, by decide +kernel, by decide +kernel⟩ rfl (fun h => by cases h) (Nat.le_of_ble_eq_true rfl) rfl rfl rfl rfl (by decide) rfl rfl (fun H locs h => ?_)
                obtain ⟨hP, hD, hS⟩ := h
                refine lv_iconst (v := 1) hx hb dX5_row_65 (by decide) ?_
                rw [kr _ _ _ _ _ _ _ _ _ _ _ _ _ (Option.some.inj hm).symm]
                exact gk_iret C ⟨hP, hD, hS⟩ dX5_row_66
              have hm := gk_if c34 hm
              cases hm
            · have hm := gk_if c21 hm
              refine lv_bipush (v := -14) hx hb dX5_row_51 (by decide) ?_
              rw [kr _ _ _ _ _ _ _ _ _ _ _ _ _ (Option.some.inj hm).symm]
              exact gk_iret C ⟨hP, hD, hS⟩ dX5_row_53
          · have hm := gk_if c20 hm
            refine lv_bipush (v := -2) hx hb dX5_row_44 (by decide) ?_
            rw [kr _ _ _ _ _ _ _ _ _ _ _ _ _ (Option.some.inj hm).symm]
            exact gk_iret C ⟨hP, hD, hS⟩ dX5_row_46
        · have hm := gk_it c19 hm
          refine lv_aload_n hx hb dX5_row_25 rfl (lv_at hl 0 rfl) ?_
          refine va_get (D := G.1) (cl := vwCl) (own := RX5) (ref := "ExchangeFamilies") (ci := 4) (v := .ref a18) (C := RX5) (T := TX5) (N := 6) hx hb hts k_X5_row_0 hown hK hP 0 rfl rfl 5 (by decide) (hts _ k_X5_row_1) (fun _ h9 => h9) rfl dX5_row_26 ?_
          refine lv_iload_n hx hb dX5_row_29 rfl (lv_at hl 1 rfl) ?_
          by_cases c38 : x1 = 0
          · have hm := gk_it c38 hm
            refine gk_aald (k := 0) (v := a19) C hP 1 rfl c38 (by decide) (by decide) rfl dX5_row_30 ?_
            refine lv_iconst (v := -1) hx hb dX5_row_31 (by decide) ?_
            refine lv_iconst (v := 0) hx hb dX5_row_32 (by decide) ?_
            obtain ⟨r39, r40, r41, hq, hm⟩ := gk_bd3_some hm
            refine gk_callV (n := 2) (bytes := cX2_begin) (maxL := 3) (ret := none) (Cn := RX2) (T := TX2) (N := 3) [(a0, .inr (4, [.ref a1, .ref a7, .int f_isKept, .ref a13, .ref a15, .ref a18])), (a18, gk_R G 4 (gk_four a19 a21 a23 a25)), (a21, .inr (1, [.int f_numbers_r1_sort, .int f_numbers_r1_size, .ref a22])), (a22, gk_J G 80 f_numbers_r1_values), (a23, .inr (1, [.int f_numbers_r2_sort, .int f_numbers_r2_size, .ref a24])), (a24, gk_J G 80 f_numbers_r2_values), (a25, .inr (1, [.int f_numbers_r3_sort, .int f_numbers_r3_size, .ref a26])), (a26, gk_J G 80 f_numbers_r3_values)] [(a0, .inr (4, [.ref a1, .ref a7, .int f_isKept, .ref a13, .ref a15, .ref a18])), (a18, gk_R G 4 (gk_four a19 a21 a23 a25)), (a19, .inr (1, [.int r39, .int r40, .ref a20])), (a20, gk_J G 80 r41), (a21, .inr (1, [.int f_numbers_r1_sort, .int f_numbers_r1_size, .ref a22])), (a22, gk_J G 80 f_numbers_r1_values), (a23, .inr (1, [.int f_numbers_r2_sort, .int f_numbers_r2_size, .ref a24])), (a24, gk_J G 80 f_numbers_r2_values), (a25, .inr (1, [.int f_numbers_r3_sort, .int f_numbers_r3_size, .ref a26])), (a26, gk_J G 80 f_numbers_r3_values)] [] C ⟨hP, hD, hS⟩ (c_X2_begin l G a19 a20 f_numbers_r0_sort f_numbers_r0_size f_numbers_r0_values (-1 : Int32) (0 : Int32) hq) gX5_row_X2_begin dX5_row_33 hl.1 [2, 3] [0, 1, 4, 5, 6, 7, 8, 9] [0, 1, 8, 9, 2, 3, 4, 5, 6, 7] rfl rfl ⟨rfl, rfl⟩ ⟨Nat.le_of_ble_eq_true rfl, Nat.le_of_ble_eq_true rfl⟩ ⟨rfl, by decide +kernel, by decide +kernel, by decide +kernel⟩ rfl (fun h => by cases h) (Nat.le_of_ble_eq_true rfl) rfl rfl rfl rfl (by decide) rfl rfl (fun H locs h => ?_)
            obtain ⟨hP, hD, hS⟩ := h
            refine lv_iconst (v := 1) hx hb dX5_row_36 (by decide) ?_
            rw [kr _ _ _ _ _ _ _ _ _ _ _ _ _ (Option.some.inj hm).symm]
            exact gk_iret C ⟨hP, hD, hS⟩ dX5_row_37
          have hm := gk_if c38 hm
          by_cases c42 : x1 = 1
          · have hm := gk_it c42 hm
            refine gk_aald (k := 1) (v := a21) C hP 1 rfl c42 (by decide) (by decide) rfl dX5_row_30 ?_
            refine lv_iconst (v := -1) hx hb dX5_row_31 (by decide) ?_
            refine lv_iconst (v := 0) hx hb dX5_row_32 (by decide) ?_
            obtain ⟨r43, r44, r45, hq, hm⟩ := gk_bd3_some hm
            refine gk_callV (n := 2) (bytes := cX2_begin) (maxL := 3) (ret := none) (Cn := RX2) (T := TX2) (N := 3) [(a0, .inr (4, [.ref a1, .ref a7, .int f_isKept, .ref a13, .ref a15, .ref a18])), (a18, gk_R G 4 (gk_four a19 a21 a23 a25)), (a19, .inr (1, [.int f_numbers_r0_sort, .int f_numbers_r0_size, .ref a20])), (a20, gk_J G 80 f_numbers_r0_values), (a23, .inr (1, [.int f_numbers_r2_sort, .int f_numbers_r2_size, .ref a24])), (a24, gk_J G 80 f_numbers_r2_values), (a25, .inr (1, [.int f_numbers_r3_sort, .int f_numbers_r3_size, .ref a26])), (a26, gk_J G 80 f_numbers_r3_values)] [(a0, .inr (4, [.ref a1, .ref a7, .int f_isKept, .ref a13, .ref a15, .ref a18])), (a18, gk_R G 4 (gk_four a19 a21 a23 a25)), (a19, .inr (1, [.int f_numbers_r0_sort, .int f_numbers_r0_size, .ref a20])), (a20, gk_J G 80 f_numbers_r0_values), (a21, .inr (1, [.int r43, .int r44, .ref a22])), (a22, gk_J G 80 r45), (a23, .inr (1, [.int f_numbers_r2_sort, .int f_numbers_r2_size, .ref a24])), (a24, gk_J G 80 f_numbers_r2_values), (a25, .inr (1, [.int f_numbers_r3_sort, .int f_numbers_r3_size, .ref a26])), (a26, gk_J G 80 f_numbers_r3_values)] [] C ⟨hP, hD, hS⟩ (c_X2_begin l G a21 a22 f_numbers_r1_sort f_numbers_r1_size f_numbers_r1_values (-1 : Int32) (0 : Int32) hq) gX5_row_X2_begin dX5_row_33 hl.1 [4, 5] [0, 1, 2, 3, 6, 7, 8, 9] [0, 1, 2, 3, 8, 9, 4, 5, 6, 7] rfl rfl ⟨rfl, rfl⟩ ⟨Nat.le_of_ble_eq_true rfl, Nat.le_of_ble_eq_true rfl⟩ ⟨rfl, by decide +kernel, by decide +kernel, by decide +kernel⟩ rfl (fun h => by cases h) (Nat.le_of_ble_eq_true rfl) rfl rfl rfl rfl (by decide) rfl rfl (fun H locs h => ?_)
            obtain ⟨hP, hD, hS⟩ := h
            refine lv_iconst (v := 1) hx hb dX5_row_36 (by decide) ?_
            rw [kr _ _ _ _ _ _ _ _ _ _ _ _ _ (Option.some.inj hm).symm]
            exact gk_iret C ⟨hP, hD, hS⟩ dX5_row_37
          have hm := gk_if c42 hm
          by_cases c46 : x1 = 2
          · have hm := gk_it c46 hm
            refine gk_aald (k := 2) (v := a23) C hP 1 rfl c46 (by decide) (by decide) rfl dX5_row_30 ?_
            refine lv_iconst (v := -1) hx hb dX5_row_31 (by decide) ?_
            refine lv_iconst (v := 0) hx hb dX5_row_32 (by decide) ?_
            obtain ⟨r47, r48, r49, hq, hm⟩ := gk_bd3_some hm
            refine gk_callV (n := 2) (bytes := cX2_begin) (maxL := 3) (ret := none) (Cn := RX2) (T := TX2) (N := 3) [(a0, .inr (4, [.ref a1, .ref a7, .int f_isKept, .ref a13, .ref a15, .ref a18])), (a18, gk_R G 4 (gk_four a19 a21 a23 a25)), (a19, .inr (1, [.int f_numbers_r0_sort, .int f_numbers_r0_size, .ref a20])), (a20, gk_J G 80 f_numbers_r0_values), (a21, .inr (1, [.int f_numbers_r1_sort, .int f_numbers_r1_size, .ref a22])), (a22, gk_J G 80 f_numbers_r1_values), (a25, .inr (1, [.int f_numbers_r3_sort, .int f_numbers_r3_size, .ref a26])), (a26, gk_J G 80 f_numbers_r3_values)] [(a0, .inr (4, [.ref a1, .ref a7, .int f_isKept, .ref a13, .ref a15, .ref a18])), (a18, gk_R G 4 (gk_four a19 a21 a23 a25)), (a19, .inr (1, [.int f_numbers_r0_sort, .int f_numbers_r0_size, .ref a20])), (a20, gk_J G 80 f_numbers_r0_values), (a21, .inr (1, [.int f_numbers_r1_sort, .int f_numbers_r1_size, .ref a22])), (a22, gk_J G 80 f_numbers_r1_values), (a23, .inr (1, [.int r47, .int r48, .ref a24])), (a24, gk_J G 80 r49), (a25, .inr (1, [.int f_numbers_r3_sort, .int f_numbers_r3_size, .ref a26])), (a26, gk_J G 80 f_numbers_r3_values)] [] C ⟨hP, hD, hS⟩ (c_X2_begin l G a23 a24 f_numbers_r2_sort f_numbers_r2_size f_numbers_r2_values (-1 : Int32) (0 : Int32) hq) gX5_row_X2_begin dX5_row_33 hl.1 [6, 7] [0, 1, 2, 3, 4, 5, 8, 9] [0, 1, 2, 3, 4, 5, 8, 9, 6, 7] rfl rfl ⟨rfl, rfl⟩ ⟨Nat.le_of_ble_eq_true rfl, Nat.le_of_ble_eq_true rfl⟩ ⟨rfl, by decide +kernel, by decide +kernel, by decide +kernel⟩ rfl (fun h => by cases h) (Nat.le_of_ble_eq_true rfl) rfl rfl rfl rfl (by decide) rfl rfl (fun H locs h => ?_)
            obtain ⟨hP, hD, hS⟩ := h
            refine lv_iconst (v := 1) hx hb dX5_row_36 (by decide) ?_
            rw [kr _ _ _ _ _ _ _ _ _ _ _ _ _ (Option.some.inj hm).symm]
            exact gk_iret C ⟨hP, hD, hS⟩ dX5_row_37
          have hm := gk_if c46 hm
          by_cases c50 : x1 = 3
          · have hm := gk_it c50 hm
            refine gk_aald (k := 3) (v := a25) C hP 1 rfl c50 (by decide) (by decide) rfl dX5_row_30 ?_
            refine lv_iconst (v := -1) hx hb dX5_row_31 (by decide) ?_
            refine lv_iconst (v := 0) hx hb dX5_row_32 (by decide) ?_
            obtain ⟨r51, r52, r53, hq, hm⟩ := gk_bd3_some hm
            refine gk_callV (n := 2) (bytes := cX2_begin) (maxL := 3) (ret := none) (Cn := RX2) (T := TX2) (N := 3) [(a0, .inr (4, [.ref a1, .ref a7, .int f_isKept, .ref a13, .ref a15, .ref a18])), (a18, gk_R G 4 (gk_four a19 a21 a23 a25)), (a19, .inr (1, [.int f_numbers_r0_sort, .int f_numbers_r0_size, .ref a20])), (a20, gk_J G 80 f_numbers_r0_values), (a21, .inr (1, [.int f_numbers_r1_sort, .int f_numbers_r1_size, .ref a22])), (a22, gk_J G 80 f_numbers_r1_values), (a23, .inr (1, [.int f_numbers_r2_sort, .int f_numbers_r2_size, .ref a24])), (a24, gk_J G 80 f_numbers_r2_values)] [(a0, .inr (4, [.ref a1, .ref a7, .int f_isKept, .ref a13, .ref a15, .ref a18])), (a18, gk_R G 4 (gk_four a19 a21 a23 a25)), (a19, .inr (1, [.int f_numbers_r0_sort, .int f_numbers_r0_size, .ref a20])), (a20, gk_J G 80 f_numbers_r0_values), (a21, .inr (1, [.int f_numbers_r1_sort, .int f_numbers_r1_size, .ref a22])), (a22, gk_J G 80 f_numbers_r1_values), (a23, .inr (1, [.int f_numbers_r2_sort, .int f_numbers_r2_size, .ref a24])), (a24, gk_J G 80 f_numbers_r2_values), (a25, .inr (1, [.int r51, .int r52, .ref a26])), (a26, gk_J G 80 r53)] [] C ⟨hP, hD, hS⟩ (c_X2_begin l G a25 a26 f_numbers_r3_sort f_numbers_r3_size f_numbers_r3_values (-1 : Int32) (0 : Int32) hq) gX5_row_X2_begin dX5_row_33 hl.1 [8, 9] [0, 1, 2, 3, 4, 5, 6, 7] [0, 1, 2, 3, 4, 5, 6, 7, 8, 9] rfl rfl ⟨rfl, rfl⟩ ⟨Nat.le_of_ble_eq_true rfl, Nat.le_of_ble_eq_true rfl⟩ ⟨rfl, by decide +kernel, by decide +kernel, by decide +kernel⟩ rfl (fun h => by cases h) (Nat.le_of_ble_eq_true rfl) rfl rfl rfl rfl (by decide) rfl rfl (fun H locs h => ?_)
            obtain ⟨hP, hD, hS⟩ := h
            refine lv_iconst (v := 1) hx hb dX5_row_36 (by decide) ?_
            rw [kr _ _ _ _ _ _ _ _ _ _ _ _ _ (Option.some.inj hm).symm]
            exact gk_iret C ⟨hP, hD, hS⟩ dX5_row_37
          have hm := gk_if c50 hm
          cases hm
      · have hm := gk_if c18 hm
        refine lv_bipush (v := -2) hx hb dX5_row_17 (by decide) ?_
        rw [kr _ _ _ _ _ _ _ _ _ _ _ _ _ (Option.some.inj hm).symm]
        exact gk_iret C ⟨hP, hD, hS⟩ dX5_row_19
def m_X5_row (f_numbers_r0_sort : Int32) (f_numbers_r0_size : Int32) (f_numbers_r0_values : (Nat → Int64)) (f_numbers_r1_sort : Int32) (f_numbers_r1_size : Int32) (f_numbers_r1_values : (Nat → Int64)) (f_numbers_r2_sort : Int32) (f_numbers_r2_size : Int32) (f_numbers_r2_values : (Nat → Int64)) (f_numbers_r3_sort : Int32) (f_numbers_r3_size : Int32) (f_numbers_r3_values : (Nat → Int64)) (x1 : Int32) (x2 : Int32) (x3 : Int32) : Option (Int32 × Int32 × Int32 × (Nat → Int64) × Int32 × Int32 × (Nat → Int64) × Int32 × Int32 × (Nat → Int64) × Int32 × Int32 × (Nat → Int64)) := m_X5_row_0 f_numbers_r0_sort f_numbers_r0_size f_numbers_r0_values f_numbers_r1_sort f_numbers_r1_size f_numbers_r1_values f_numbers_r2_sort f_numbers_r2_size f_numbers_r2_values f_numbers_r3_sort f_numbers_r3_size f_numbers_r3_values x1 x2 x3
theorem c_X5_row (l : Launch) (G : gk_G) (a0 a1 a7 a13 a15 a18 a19 a20 a21 a22 a23 a24 a25 a26 : Nat) (f_isKept : Int32) (f_numbers_r0_sort : Int32) (f_numbers_r0_size : Int32) (f_numbers_r0_values : (Nat → Int64)) (f_numbers_r1_sort : Int32) (f_numbers_r1_size : Int32) (f_numbers_r1_values : (Nat → Int64)) (f_numbers_r2_sort : Int32) (f_numbers_r2_size : Int32) (f_numbers_r2_values : (Nat → Int64)) (f_numbers_r3_sort : Int32) (f_numbers_r3_size : Int32) (f_numbers_r3_values : (Nat → Int64)) (x1 : Int32) (x2 : Int32) (x3 : Int32) {rv : Int32} {g_numbers_r0_sort : Int32} {g_numbers_r0_size : Int32} {g_numbers_r0_values : (Nat → Int64)} {g_numbers_r1_sort : Int32} {g_numbers_r1_size : Int32} {g_numbers_r1_values : (Nat → Int64)} {g_numbers_r2_sort : Int32} {g_numbers_r2_size : Int32} {g_numbers_r2_values : (Nat → Int64)} {g_numbers_r3_sort : Int32} {g_numbers_r3_size : Int32} {g_numbers_r3_values : (Nat → Int64)} (hm : m_X5_row f_numbers_r0_sort f_numbers_r0_size f_numbers_r0_values f_numbers_r1_sort f_numbers_r1_size f_numbers_r1_values f_numbers_r2_sort f_numbers_r2_size f_numbers_r2_values f_numbers_r3_sort f_numbers_r3_size f_numbers_r3_values x1 x2 x3 = some (rv, g_numbers_r0_sort, g_numbers_r0_size, g_numbers_r0_values, g_numbers_r1_sort, g_numbers_r1_size, g_numbers_r1_values, g_numbers_r2_sort, g_numbers_r2_size, g_numbers_r2_values, g_numbers_r3_sort, g_numbers_r3_size, g_numbers_r3_values)) : gk_M l yX5_row wsX5_row rm_X5_row false G [.ref a0, .int x1, .int x2, .int x3] [(a0, .inr (4, [.ref a1, .ref a7, .int f_isKept, .ref a13, .ref a15, .ref a18])), (a18, gk_R G 4 (gk_four a19 a21 a23 a25)), (a19, .inr (1, [.int f_numbers_r0_sort, .int f_numbers_r0_size, .ref a20])), (a20, gk_J G 80 f_numbers_r0_values), (a21, .inr (1, [.int f_numbers_r1_sort, .int f_numbers_r1_size, .ref a22])), (a22, gk_J G 80 f_numbers_r1_values), (a23, .inr (1, [.int f_numbers_r2_sort, .int f_numbers_r2_size, .ref a24])), (a24, gk_J G 80 f_numbers_r2_values), (a25, .inr (1, [.int f_numbers_r3_sort, .int f_numbers_r3_size, .ref a26])), (a26, gk_J G 80 f_numbers_r3_values)] (some (.int rv)) [(a0, .inr (4, [.ref a1, .ref a7, .int f_isKept, .ref a13, .ref a15, .ref a18])), (a18, gk_R G 4 (gk_four a19 a21 a23 a25)), (a19, .inr (1, [.int g_numbers_r0_sort, .int g_numbers_r0_size, .ref a20])), (a20, gk_J G 80 g_numbers_r0_values), (a21, .inr (1, [.int g_numbers_r1_sort, .int g_numbers_r1_size, .ref a22])), (a22, gk_J G 80 g_numbers_r1_values), (a23, .inr (1, [.int g_numbers_r2_sort, .int g_numbers_r2_size, .ref a24])), (a24, gk_J G 80 g_numbers_r2_values), (a25, .inr (1, [.int g_numbers_r3_sort, .int g_numbers_r3_size, .ref a26])), (a26, gk_J G 80 g_numbers_r3_values)] :=
  gk_of (by decide) rfl (Nat.le_of_ble_eq_true rfl) (fun p e s m below meth c A ls C h hl => w_X5_row_0 C hm (fun v0 v1 v2 v3 v4 v5 v6 v7 v8 v9 v10 v11 v12 ez => by cases ez; rfl) h (show lv_has ls 4 [(0, .ref a0), (1, .int x1), (2, .int x2), (3, .int x3)] from hl))

/-! ===== ExchangeFamilies.put(IIJ)I ===== -/
abbrev rm_X5_put : Room := { frames := 5, cells := 0, slots := 0, locals := 237 }
theorem k_X5_put_0 : ∀ w ∈ u_ws RX5 TX5 6, w ∈ wsX5_put := by decide +kernel
theorem k_X5_put_1 : Cond.fieldLink RX5 41 "ExchangeFamilies" "numbers" "[LExchangeFamilies$Numbers;" ∈ wsX5_put := by decide +kernel
def m_X5_put_0 (f_numbers_r0_sort : Int32) (f_numbers_r0_size : Int32) (f_numbers_r0_values : (Nat → Int64)) (f_numbers_r1_sort : Int32) (f_numbers_r1_size : Int32) (f_numbers_r1_values : (Nat → Int64)) (f_numbers_r2_sort : Int32) (f_numbers_r2_size : Int32) (f_numbers_r2_values : (Nat → Int64)) (f_numbers_r3_sort : Int32) (f_numbers_r3_size : Int32) (f_numbers_r3_values : (Nat → Int64)) (x1 : Int32) (x2 : Int32) (x3 : Int64) : Option (Int32 × (Nat → Int64) × (Nat → Int64) × (Nat → Int64) × (Nat → Int64)) := gk_bd1 (m_X5_noRow x1) (fun r16 => (if r16 = (0 : Int32) then (if x1 = 0 then gk_bd1 (m_X2_isMissing f_numbers_r0_sort) (fun r19 => (if r19 = (0 : Int32) then gk_bd1 (m_X2_hasPlace f_numbers_r0_size x2) (fun r21 => (if r21 = (0 : Int32) then some ((-12 : Int32), f_numbers_r0_values, f_numbers_r1_values, f_numbers_r2_values, f_numbers_r3_values) else gk_bd1 (m_X2_write f_numbers_r0_sort f_numbers_r0_values x2 x3) (fun r23 => some ((1 : Int32), r23, f_numbers_r1_values, f_numbers_r2_values, f_numbers_r3_values)))) else some ((-11 : Int32), f_numbers_r0_values, f_numbers_r1_values, f_numbers_r2_values, f_numbers_r3_values))) else (if x1 = 1 then gk_bd1 (m_X2_isMissing f_numbers_r1_sort) (fun r25 => (if r25 = (0 : Int32) then gk_bd1 (m_X2_hasPlace f_numbers_r1_size x2) (fun r27 => (if r27 = (0 : Int32) then some ((-12 : Int32), f_numbers_r0_values, f_numbers_r1_values, f_numbers_r2_values, f_numbers_r3_values) else gk_bd1 (m_X2_write f_numbers_r1_sort f_numbers_r1_values x2 x3) (fun r29 => some ((1 : Int32), f_numbers_r0_values, r29, f_numbers_r2_values, f_numbers_r3_values)))) else some ((-11 : Int32), f_numbers_r0_values, f_numbers_r1_values, f_numbers_r2_values, f_numbers_r3_values))) else (if x1 = 2 then gk_bd1 (m_X2_isMissing f_numbers_r2_sort) (fun r31 => (if r31 = (0 : Int32) then gk_bd1 (m_X2_hasPlace f_numbers_r2_size x2) (fun r33 => (if r33 = (0 : Int32) then some ((-12 : Int32), f_numbers_r0_values, f_numbers_r1_values, f_numbers_r2_values, f_numbers_r3_values) else gk_bd1 (m_X2_write f_numbers_r2_sort f_numbers_r2_values x2 x3) (fun r35 => some ((1 : Int32), f_numbers_r0_values, f_numbers_r1_values, r35, f_numbers_r3_values)))) else some ((-11 : Int32), f_numbers_r0_values, f_numbers_r1_values, f_numbers_r2_values, f_numbers_r3_values))) else (if x1 = 3 then gk_bd1 (m_X2_isMissing f_numbers_r3_sort) (fun r37 => (if r37 = (0 : Int32) then gk_bd1 (m_X2_hasPlace f_numbers_r3_size x2) (fun r39 => (if r39 = (0 : Int32) then some ((-12 : Int32), f_numbers_r0_values, f_numbers_r1_values, f_numbers_r2_values, f_numbers_r3_values) else gk_bd1 (m_X2_write f_numbers_r3_sort f_numbers_r3_values x2 x3) (fun r41 => some ((1 : Int32), f_numbers_r0_values, f_numbers_r1_values, f_numbers_r2_values, r41)))) else some ((-11 : Int32), f_numbers_r0_values, f_numbers_r1_values, f_numbers_r2_values, f_numbers_r3_values))) else none)))) else some ((-2 : Int32), f_numbers_r0_values, f_numbers_r1_values, f_numbers_r2_values, f_numbers_r3_values)))
set_option maxRecDepth 100000 in
set_option maxHeartbeats 4000000 in
theorem w_X5_put_0 {p : Program} {l : Launch} {e : Env} {s : State} {m : MethodId} {args : Array Value} {below : List Frame} {meth : Method} {c : Code} {G : gk_G} {A : Nat → Prop} {Q : State → Prop} {a0 a1 a7 a13 a15 a18 a19 a20 a21 a22 a23 a24 a25 a26 : Nat} (C : gk_C p s m args meth c cX5_put 5 (some .int) yX5_put wsX5_put false G A) {f_numbers_r0_sort : Int32} {f_numbers_r0_size : Int32} {f_numbers_r0_values : (Nat → Int64)} {f_numbers_r1_sort : Int32} {f_numbers_r1_size : Int32} {f_numbers_r1_values : (Nat → Int64)} {f_numbers_r2_sort : Int32} {f_numbers_r2_size : Int32} {f_numbers_r2_values : (Nat → Int64)} {f_numbers_r3_sort : Int32} {f_numbers_r3_size : Int32} {f_numbers_r3_values : (Nat → Int64)} {x1 : Int32} {x2 : Int32} {x3 : Int64} {f_isKept : Int32} {yy : Int32 × (Nat → Int64) × (Nat → Int64) × (Nat → Int64) × (Nat → Int64)} (hm : m_X5_put_0 f_numbers_r0_sort f_numbers_r0_size f_numbers_r0_values f_numbers_r1_sort f_numbers_r1_size f_numbers_r1_values f_numbers_r2_sort f_numbers_r2_size f_numbers_r2_values f_numbers_r3_sort f_numbers_r3_size f_numbers_r3_values x1 x2 x3 = some yy) (kr : ∀ (rv : Int32) (g_numbers_r0_values : (Nat → Int64)) (g_numbers_r1_values : (Nat → Int64)) (g_numbers_r2_values : (Nat → Int64)) (g_numbers_r3_values : (Nat → Int64)), yy = (rv, g_numbers_r0_values, g_numbers_r1_values, g_numbers_r2_values, g_numbers_r3_values) → Q = MQ below (gk_Q G (some (.int rv)) [(a0, .inr (4, [.ref a1, .ref a7, .int f_isKept, .ref a13, .ref a15, .ref a18])), (a18, gk_R G 4 (gk_four a19 a21 a23 a25)), (a19, .inr (1, [.int f_numbers_r0_sort, .int f_numbers_r0_size, .ref a20])), (a20, gk_J G 80 g_numbers_r0_values), (a21, .inr (1, [.int f_numbers_r1_sort, .int f_numbers_r1_size, .ref a22])), (a22, gk_J G 80 g_numbers_r1_values), (a23, .inr (1, [.int f_numbers_r2_sort, .int f_numbers_r2_size, .ref a24])), (a24, gk_J G 80 g_numbers_r2_values), (a25, .inr (1, [.int f_numbers_r3_sort, .int f_numbers_r3_size, .ref a26])), (a26, gk_J G 80 g_numbers_r3_values)] A) args s 0 0 A) {H : Heap} {locs : List Loc} {ls : Array Slot} (h : gk_H G A s [(a0, .inr (4, [.ref a1, .ref a7, .int f_isKept, .ref a13, .ref a15, .ref a18])), (a18, gk_R G 4 (gk_four a19 a21 a23 a25)), (a19, .inr (1, [.int f_numbers_r0_sort, .int f_numbers_r0_size, .ref a20])), (a20, gk_J G 80 f_numbers_r0_values), (a21, .inr (1, [.int f_numbers_r1_sort, .int f_numbers_r1_size, .ref a22])), (a22, gk_J G 80 f_numbers_r1_values), (a23, .inr (1, [.int f_numbers_r2_sort, .int f_numbers_r2_size, .ref a24])), (a24, gk_J G 80 f_numbers_r2_values), (a25, .inr (1, [.int f_numbers_r3_sort, .int f_numbers_r3_size, .ref a26])), (a26, gk_J G 80 f_numbers_r3_values)] H locs) (hl : lv_has ls 5 [(0, .ref a0), (1, .int x1), (2, .int x2), (3, .long x3)]) : W p l e rm_X5_put s m args below meth c H locs 0 0 Q (F0 m 0 ls []) := by
  obtain ⟨hx, hb, hml, hr, hown, hnm, hts, hlk, hK, hSt, hA⟩ := id C
  obtain ⟨hP, hD, hS⟩ := h
  unfold m_X5_put_0 at hm
  refine lv_iload_n hx hb dX5_put_0 rfl (lv_at hl 1 rfl) ?_
  obtain ⟨r16, hq, hm⟩ := gk_bd1_some hm
  refine gk_callS (n := 1) (bytes := cX5_noRow) (maxL := 1) (ret := (some .boolean)) [(a0, .inr (4, [.ref a1, .ref a7, .int f_isKept, .ref a13, .ref a15, .ref a18])), (a18, gk_R G 4 (gk_four a19 a21 a23 a25)), (a19, .inr (1, [.int f_numbers_r0_sort, .int f_numbers_r0_size, .ref a20])), (a20, gk_J G 80 f_numbers_r0_values), (a21, .inr (1, [.int f_numbers_r1_sort, .int f_numbers_r1_size, .ref a22])), (a22, gk_J G 80 f_numbers_r1_values), (a23, .inr (1, [.int f_numbers_r2_sort, .int f_numbers_r2_size, .ref a24])), (a24, gk_J G 80 f_numbers_r2_values), (a25, .inr (1, [.int f_numbers_r3_sort, .int f_numbers_r3_size, .ref a26])), (a26, gk_J G 80 f_numbers_r3_values)] [(a0, .inr (4, [.ref a1, .ref a7, .int f_isKept, .ref a13, .ref a15, .ref a18])), (a18, gk_R G 4 (gk_four a19 a21 a23 a25)), (a19, .inr (1, [.int f_numbers_r0_sort, .int f_numbers_r0_size, .ref a20])), (a20, gk_J G 80 f_numbers_r0_values), (a21, .inr (1, [.int f_numbers_r1_sort, .int f_numbers_r1_size, .ref a22])), (a22, gk_J G 80 f_numbers_r1_values), (a23, .inr (1, [.int f_numbers_r2_sort, .int f_numbers_r2_size, .ref a24])), (a24, gk_J G 80 f_numbers_r2_values), (a25, .inr (1, [.int f_numbers_r3_sort, .int f_numbers_r3_size, .ref a26])), (a26, gk_J G 80 f_numbers_r3_values)] [] C ⟨hP, hD, hS⟩ (c_X5_noRow l G x1 hq) gX5_put_X5_noRow dX5_put_1 hl.1 [] [0, 1, 2, 3, 4, 5, 6, 7, 8, 9] [0, 1, 2, 3, 4, 5, 6, 7, 8, 9] rfl ⟨rfl, rfl⟩ ⟨Nat.le_of_ble_eq_true rfl, Nat.le_of_ble_eq_true rfl⟩ ⟨by decide +kernel, by decide +kernel, by decide +kernel⟩ rfl (fun h => by cases h) (Nat.le_of_ble_eq_true rfl) rfl rfl rfl rfl (by decide) rfl rfl (fun H locs h => ?_)
  obtain ⟨hP, hD, hS⟩ := h
  refine lv_if_eq (tgt := 10) hx hb dX5_put_4 (by decide) (fun c17 => ?_) (fun c17 => ?_)
  · have hm := gk_it c17 hm
    refine lv_aload_n hx hb dX5_put_10 rfl (lv_at hl 0 rfl) ?_
    refine va_get (D := G.1) (cl := vwCl) (own := RX5) (ref := "ExchangeFamilies") (ci := 4) (v := .ref a18) (C := RX5) (T := TX5) (N := 6) hx hb hts k_X5_put_0 hown hK hP 0 rfl rfl 5 (by decide) (hts _ k_X5_put_1) (fun _ h9 => h9) rfl dX5_put_11 ?_
    refine lv_iload_n hx hb dX5_put_14 rfl (lv_at hl 1 rfl) ?_
    by_cases c18 : x1 = 0
    · have hm := gk_it c18 hm
      refine gk_aald (k := 0) (v := a19) C hP 1 rfl c18 (by decide) (by decide) rfl dX5_put_15 ?_
      obtain ⟨r19, hq, hm⟩ := gk_bd1_some hm
      refine gk_callV (n := 0) (bytes := cX2_isMissing) (maxL := 1) (ret := (some .boolean)) (Cn := RX2) (T := TX2) (N := 3) [(a0, .inr (4, [.ref a1, .ref a7, .int f_isKept, .ref a13, .ref a15, .ref a18])), (a18, gk_R G 4 (gk_four a19 a21 a23 a25)), (a20, gk_J G 80 f_numbers_r0_values), (a21, .inr (1, [.int f_numbers_r1_sort, .int f_numbers_r1_size, .ref a22])), (a22, gk_J G 80 f_numbers_r1_values), (a23, .inr (1, [.int f_numbers_r2_sort, .int f_numbers_r2_size, .ref a24])), (a24, gk_J G 80 f_numbers_r2_values), (a25, .inr (1, [.int f_numbers_r3_sort, .int f_numbers_r3_size, .ref a26])), (a26, gk_J G 80 f_numbers_r3_values)] [(a0, .inr (4, [.ref a1, .ref a7, .int f_isKept, .ref a13, .ref a15, .ref a18])), (a18, gk_R G 4 (gk_four a19 a21 a23 a25)), (a19, .inr (1, [.int f_numbers_r0_sort, .int f_numbers_r0_size, .ref a20])), (a20, gk_J G 80 f_numbers_r0_values), (a21, .inr (1, [.int f_numbers_r1_sort, .int f_numbers_r1_size, .ref a22])), (a22, gk_J G 80 f_numbers_r1_values), (a23, .inr (1, [.int f_numbers_r2_sort, .int f_numbers_r2_size, .ref a24])), (a24, gk_J G 80 f_numbers_r2_values), (a25, .inr (1, [.int f_numbers_r3_sort, .int f_numbers_r3_size, .ref a26])), (a26, gk_J G 80 f_numbers_r3_values)] [] C ⟨hP, hD, hS⟩ (c_X2_isMissing l G a19 a20 f_numbers_r0_sort f_numbers_r0_size hq) gX5_put_X2_isMissing dX5_put_16 hl.1 [2] [0, 1, 3, 4, 5, 6, 7, 8, 9] [0, 1, 9, 2, 3, 4, 5, 6, 7, 8] rfl rfl ⟨rfl, rfl⟩ ⟨Nat.le_of_ble_eq_true rfl, Nat.le_of_ble_eq_true rfl⟩ ⟨rfl, by decide +kernel, by decide +kernel, by decide +kernel⟩ rfl (fun h => by cases h) (Nat.le_of_ble_eq_true rfl) rfl rfl rfl rfl (by decide) rfl rfl (fun H locs h => ?_)
      obtain ⟨hP, hD, hS⟩ := h
      refine lv_if_eq (tgt := 25) hx hb dX5_put_19 (by decide) (fun c20 => ?_) (fun c20 => ?_)
      · have hm := gk_it c20 hm
        refine lv_aload_n hx hb dX5_put_25 rfl (lv_at hl 0 rfl) ?_
        refine va_get (D := G.1) (cl := vwCl) (own := RX5) (ref := "ExchangeFamilies") (ci := 4) (v := .ref a18) (C := RX5) (T := TX5) (N := 6) hx hb hts k_X5_put_0 hown hK hP 0 rfl rfl 5 (by decide) (hts _ k_X5_put_1) (fun _ h9 => h9) rfl dX5_put_26 ?_
        refine lv_iload_n hx hb dX5_put_29 rfl (lv_at hl 1 rfl) ?_
        refine gk_aald (k := 0) (v := a19) C hP 1 rfl c18 (by decide) (by decide) rfl dX5_put_30 ?_
        refine lv_iload_n hx hb dX5_put_31 rfl (lv_at hl 2 rfl) ?_
        obtain ⟨r21, hq, hm⟩ := gk_bd1_some hm
        refine gk_callV (n := 1) (bytes := cX2_hasPlace) (maxL := 2) (ret := (some .boolean)) (Cn := RX2) (T := TX2) (N := 3) [(a0, .inr (4, [.ref a1, .ref a7, .int f_isKept, .ref a13, .ref a15, .ref a18])), (a18, gk_R G 4 (gk_four a19 a21 a23 a25)), (a20, gk_J G 80 f_numbers_r0_values), (a21, .inr (1, [.int f_numbers_r1_sort, .int f_numbers_r1_size, .ref a22])), (a22, gk_J G 80 f_numbers_r1_values), (a23, .inr (1, [.int f_numbers_r2_sort, .int f_numbers_r2_size, .ref a24])), (a24, gk_J G 80 f_numbers_r2_values), (a25, .inr (1, [.int f_numbers_r3_sort, .int f_numbers_r3_size, .ref a26])), (a26, gk_J G 80 f_numbers_r3_values)] [(a0, .inr (4, [.ref a1, .ref a7, .int f_isKept, .ref a13, .ref a15, .ref a18])), (a18, gk_R G 4 (gk_four a19 a21 a23 a25)), (a19, .inr (1, [.int f_numbers_r0_sort, .int f_numbers_r0_size, .ref a20])), (a20, gk_J G 80 f_numbers_r0_values), (a21, .inr (1, [.int f_numbers_r1_sort, .int f_numbers_r1_size, .ref a22])), (a22, gk_J G 80 f_numbers_r1_values), (a23, .inr (1, [.int f_numbers_r2_sort, .int f_numbers_r2_size, .ref a24])), (a24, gk_J G 80 f_numbers_r2_values), (a25, .inr (1, [.int f_numbers_r3_sort, .int f_numbers_r3_size, .ref a26])), (a26, gk_J G 80 f_numbers_r3_values)] [] C ⟨hP, hD, hS⟩ (c_X2_hasPlace l G a19 a20 f_numbers_r0_sort f_numbers_r0_size x2 hq) gX5_put_X2_hasPlace dX5_put_32 hl.1 [2] [0, 1, 3, 4, 5, 6, 7, 8, 9] [0, 1, 9, 2, 3, 4, 5, 6, 7, 8] rfl rfl ⟨rfl, rfl⟩ ⟨Nat.le_of_ble_eq_true rfl, Nat.le_of_ble_eq_true rfl⟩ ⟨rfl, by decide +kernel, by decide +kernel, by decide +kernel⟩ rfl (fun h => by cases h) (Nat.le_of_ble_eq_true rfl) rfl rfl rfl rfl (by decide) rfl rfl (fun H locs h => ?_)
        obtain ⟨hP, hD, hS⟩ := h
        refine lv_if_ne (tgt := 41) hx hb dX5_put_35 (by decide) (fun c22 => ?_) (fun c22 => ?_)
        · have hm := gk_if c22 hm
          refine lv_aload_n hx hb dX5_put_41 rfl (lv_at hl 0 rfl) ?_
          refine va_get (D := G.1) (cl := vwCl) (own := RX5) (ref := "ExchangeFamilies") (ci := 4) (v := .ref a18) (C := RX5) (T := TX5) (N := 6) hx hb hts k_X5_put_0 hown hK hP 0 rfl rfl 5 (by decide) (hts _ k_X5_put_1) (fun _ h9 => h9) rfl dX5_put_42 ?_
          refine lv_iload_n hx hb dX5_put_45 rfl (lv_at hl 1 rfl) ?_
          refine gk_aald (k := 0) (v := a19) C hP 1 rfl c18 (by decide) (by decide) rfl dX5_put_46 ?_
          refine lv_iload_n hx hb dX5_put_47 rfl (lv_at hl 2 rfl) ?_
          refine lv_lload_n hx hb dX5_put_48 rfl (lv_at hl 3 rfl) ?_
          obtain ⟨r23, hq, hm⟩ := gk_bd1_some hm
          refine gk_callV (n := 2) (bytes := cX2_write) (maxL := 4) (ret := none) (Cn := RX2) (T := TX2) (N := 3) [(a0, .inr (4, [.ref a1, .ref a7, .int f_isKept, .ref a13, .ref a15, .ref a18])), (a18, gk_R G 4 (gk_four a19 a21 a23 a25)), (a21, .inr (1, [.int f_numbers_r1_sort, .int f_numbers_r1_size, .ref a22])), (a22, gk_J G 80 f_numbers_r1_values), (a23, .inr (1, [.int f_numbers_r2_sort, .int f_numbers_r2_size, .ref a24])), (a24, gk_J G 80 f_numbers_r2_values), (a25, .inr (1, [.int f_numbers_r3_sort, .int f_numbers_r3_size, .ref a26])), (a26, gk_J G 80 f_numbers_r3_values)] [(a0, .inr (4, [.ref a1, .ref a7, .int f_isKept, .ref a13, .ref a15, .ref a18])), (a18, gk_R G 4 (gk_four a19 a21 a23 a25)), (a19, .inr (1, [.int f_numbers_r0_sort, .int f_numbers_r0_size, .ref a20])), (a20, gk_J G 80 r23), (a21, .inr (1, [.int f_numbers_r1_sort, .int f_numbers_r1_size, .ref a22])), (a22, gk_J G 80 f_numbers_r1_values), (a23, .inr (1, [.int f_numbers_r2_sort, .int f_numbers_r2_size, .ref a24])), (a24, gk_J G 80 f_numbers_r2_values), (a25, .inr (1, [.int f_numbers_r3_sort, .int f_numbers_r3_size, .ref a26])), (a26, gk_J G 80 f_numbers_r3_values)] [] C ⟨hP, hD, hS⟩ (c_X2_write l G a19 a20 f_numbers_r0_sort f_numbers_r0_size f_numbers_r0_values x2 x3 hq) gX5_put_X2_write dX5_put_49 hl.1 [2, 3] [0, 1, 4, 5, 6, 7, 8, 9] [0, 1, 8, 9, 2, 3, 4, 5, 6, 7] rfl rfl ⟨rfl, rfl⟩ ⟨Nat.le_of_ble_eq_true rfl, Nat.le_of_ble_eq_true rfl⟩ ⟨rfl, by decide +kernel, by decide +kernel, by decide +kernel⟩ rfl (fun h => by cases h) (Nat.le_of_ble_eq_true rfl) rfl rfl rfl rfl (by decide) rfl rfl (fun H locs h => ?_)
          obtain ⟨hP, hD, hS⟩ := h
          refine lv_iconst (v := 1) hx hb dX5_put_52 (by decide) ?_
          rw [kr _ _ _ _ _ (Option.some.inj hm).symm]
          exact gk_iret C ⟨hP, hD, hS⟩ dX5_put_53
        · have hm := gk_it c22 hm
          refine lv_bipush (v := -12) hx hb dX5_put_38 (by decide) ?_
          rw [kr _ _ _ _ _ (Option.some.inj hm).symm]
          exact gk_iret C ⟨hP, hD, hS⟩ dX5_put_40
      · have hm := gk_if c20 hm
        refine lv_bipush (v := -11) hx hb dX5_put_22 (by decide) ?_
        rw [kr _ _ _ _ _ (Option.some.inj hm).symm]
        exact gk_iret C ⟨hP, hD, hS⟩ dX5_put_24
    have hm := gk_if c18 hm
    by_cases c24 : x1 = 1
    · have hm := gk_it c24 hm
      refine gk_aald (k := 1) (v := a21) C hP 1 rfl c24 (by decide) (by decide) rfl dX5_put_15 ?_
      obtain ⟨r25, hq, hm⟩ := gk_bd1_some hm
      refine gk_callV (n := 0) (bytes := cX2_isMissing) (maxL := 1) (ret := (some .boolean)) (Cn := RX2) (T := TX2) (N := 3) [(a0, .inr (4, [.ref a1, .ref a7, .int f_isKept, .ref a13, .ref a15, .ref a18])), (a18, gk_R G 4 (gk_four a19 a21 a23 a25)), (a19, .inr (1, [.int f_numbers_r0_sort, .int f_numbers_r0_size, .ref a20])), (a20, gk_J G 80 f_numbers_r0_values), (a22, gk_J G 80 f_numbers_r1_values), (a23, .inr (1, [.int f_numbers_r2_sort, .int f_numbers_r2_size, .ref a24])), (a24, gk_J G 80 f_numbers_r2_values), (a25, .inr (1, [.int f_numbers_r3_sort, .int f_numbers_r3_size, .ref a26])), (a26, gk_J G 80 f_numbers_r3_values)] [(a0, .inr (4, [.ref a1, .ref a7, .int f_isKept, .ref a13, .ref a15, .ref a18])), (a18, gk_R G 4 (gk_four a19 a21 a23 a25)), (a19, .inr (1, [.int f_numbers_r0_sort, .int f_numbers_r0_size, .ref a20])), (a20, gk_J G 80 f_numbers_r0_values), (a21, .inr (1, [.int f_numbers_r1_sort, .int f_numbers_r1_size, .ref a22])), (a22, gk_J G 80 f_numbers_r1_values), (a23, .inr (1, [.int f_numbers_r2_sort, .int f_numbers_r2_size, .ref a24])), (a24, gk_J G 80 f_numbers_r2_values), (a25, .inr (1, [.int f_numbers_r3_sort, .int f_numbers_r3_size, .ref a26])), (a26, gk_J G 80 f_numbers_r3_values)] [] C ⟨hP, hD, hS⟩ (c_X2_isMissing l G a21 a22 f_numbers_r1_sort f_numbers_r1_size hq) gX5_put_X2_isMissing dX5_put_16 hl.1 [4] [0, 1, 2, 3, 5, 6, 7, 8, 9] [0, 1, 2, 3, 9, 4, 5, 6, 7, 8] rfl rfl ⟨rfl, rfl⟩ ⟨Nat.le_of_ble_eq_true rfl, Nat.le_of_ble_eq_true rfl⟩ ⟨rfl, by decide +kernel, by decide +kernel, by decide +kernel⟩ rfl (fun h => by cases h) (Nat.le_of_ble_eq_true rfl) rfl rfl rfl rfl (by decide) rfl rfl (fun H locs h => ?_)
      obtain ⟨hP, hD, hS⟩ := h
      refine lv_if_eq (tgt := 25) hx hb dX5_put_19 (by decide) (fun c26 => ?_) (fun c26 => ?_)
      · have hm := gk_it c26 hm
        refine lv_aload_n hx hb dX5_put_25 rfl (lv_at hl 0 rfl) ?_
        refine va_get (D := G.1) (cl := vwCl) (own := RX5) (ref := "ExchangeFamilies") (ci := 4) (v := .ref a18) (C := RX5) (T := TX5) (N := 6) hx hb hts k_X5_put_0 hown hK hP 0 rfl rfl 5 (by decide) (hts _ k_X5_put_1) (fun _ h9 => h9) rfl dX5_put_26 ?_
        refine lv_iload_n hx hb dX5_put_29 rfl (lv_at hl 1 rfl) ?_
        refine gk_aald (k := 1) (v := a21) C hP 1 rfl c24 (by decide) (by decide) rfl dX5_put_30 ?_
        refine lv_iload_n hx hb dX5_put_31 rfl (lv_at hl 2 rfl) ?_
        obtain ⟨r27, hq, hm⟩ := gk_bd1_some hm
        refine gk_callV (n := 1) (bytes := cX2_hasPlace) (maxL := 2) (ret := (some .boolean)) (Cn := RX2) (T := TX2) (N := 3) [(a0, .inr (4, [.ref a1, .ref a7, .int f_isKept, .ref a13, .ref a15, .ref a18])), (a18, gk_R G 4 (gk_four a19 a21 a23 a25)), (a19, .inr (1, [.int f_numbers_r0_sort, .int f_numbers_r0_size, .ref a20])), (a20, gk_J G 80 f_numbers_r0_values), (a22, gk_J G 80 f_numbers_r1_values), (a23, .inr (1, [.int f_numbers_r2_sort, .int f_numbers_r2_size, .ref a24])), (a24, gk_J G 80 f_numbers_r2_values), (a25, .inr (1, [.int f_numbers_r3_sort, .int f_numbers_r3_size, .ref a26])), (a26, gk_J G 80 f_numbers_r3_values)] [(a0, .inr (4, [.ref a1, .ref a7, .int f_isKept, .ref a13, .ref a15, .ref a18])), (a18, gk_R G 4 (gk_four a19 a21 a23 a25)), (a19, .inr (1, [.int f_numbers_r0_sort, .int f_numbers_r0_size, .ref a20])), (a20, gk_J G 80 f_numbers_r0_values), (a21, .inr (1, [.int f_numbers_r1_sort, .int f_numbers_r1_size, .ref a22])), (a22, gk_J G 80 f_numbers_r1_values), (a23, .inr (1, [.int f_numbers_r2_sort, .int f_numbers_r2_size, .ref a24])), (a24, gk_J G 80 f_numbers_r2_values), (a25, .inr (1, [.int f_numbers_r3_sort, .int f_numbers_r3_size, .ref a26])), (a26, gk_J G 80 f_numbers_r3_values)] [] C ⟨hP, hD, hS⟩ (c_X2_hasPlace l G a21 a22 f_numbers_r1_sort f_numbers_r1_size x2 hq) gX5_put_X2_hasPlace dX5_put_32 hl.1 [4] [0, 1, 2, 3, 5, 6, 7, 8, 9] [0, 1, 2, 3, 9, 4, 5, 6, 7, 8] rfl rfl ⟨rfl, rfl⟩ ⟨Nat.le_of_ble_eq_true rfl, Nat.le_of_ble_eq_true rfl⟩ ⟨rfl, by decide +kernel, by decide +kernel, by decide +kernel⟩ rfl (fun h => by cases h) (Nat.le_of_ble_eq_true rfl) rfl rfl rfl rfl (by decide) rfl rfl (fun H locs h => ?_)
        obtain ⟨hP, hD, hS⟩ := h
        refine lv_if_ne (tgt := 41) hx hb dX5_put_35 (by decide) (fun c28 => ?_) (fun c28 => ?_)
        · have hm := gk_if c28 hm
          refine lv_aload_n hx hb dX5_put_41 rfl (lv_at hl 0 rfl) ?_
          refine va_get (D := G.1) (cl := vwCl) (own := RX5) (ref := "ExchangeFamilies") (ci := 4) (v := .ref a18) (C := RX5) (T := TX5) (N := 6) hx hb hts k_X5_put_0 hown hK hP 0 rfl rfl 5 (by decide) (hts _ k_X5_put_1) (fun _ h9 => h9) rfl dX5_put_42 ?_
          refine lv_iload_n hx hb dX5_put_45 rfl (lv_at hl 1 rfl) ?_
          refine gk_aald (k := 1) (v := a21) C hP 1 rfl c24 (by decide) (by decide) rfl dX5_put_46 ?_
          refine lv_iload_n hx hb dX5_put_47 rfl (lv_at hl 2 rfl) ?_
          refine lv_lload_n hx hb dX5_put_48 rfl (lv_at hl 3 rfl) ?_
          obtain ⟨r29, hq, hm⟩ := gk_bd1_some hm
          refine gk_callV (n := 2) (bytes := cX2_write) (maxL := 4) (ret := none) (Cn := RX2) (T := TX2) (N := 3) [(a0, .inr (4, [.ref a1, .ref a7, .int f_isKept, .ref a13, .ref a15, .ref a18])), (a18, gk_R G 4 (gk_four a19 a21 a23 a25)), (a19, .inr (1, [.int f_numbers_r0_sort, .int f_numbers_r0_size, .ref a20])), (a20, gk_J G 80 f_numbers_r0_values), (a23, .inr (1, [.int f_numbers_r2_sort, .int f_numbers_r2_size, .ref a24])), (a24, gk_J G 80 f_numbers_r2_values), (a25, .inr (1, [.int f_numbers_r3_sort, .int f_numbers_r3_size, .ref a26])), (a26, gk_J G 80 f_numbers_r3_values)] [(a0, .inr (4, [.ref a1, .ref a7, .int f_isKept, .ref a13, .ref a15, .ref a18])), (a18, gk_R G 4 (gk_four a19 a21 a23 a25)), (a19, .inr (1, [.int f_numbers_r0_sort, .int f_numbers_r0_size, .ref a20])), (a20, gk_J G 80 f_numbers_r0_values), (a21, .inr (1, [.int f_numbers_r1_sort, .int f_numbers_r1_size, .ref a22])), (a22, gk_J G 80 r29), (a23, .inr (1, [.int f_numbers_r2_sort, .int f_numbers_r2_size, .ref a24])), (a24, gk_J G 80 f_numbers_r2_values), (a25, .inr (1, [.int f_numbers_r3_sort, .int f_numbers_r3_size, .ref a26])), (a26, gk_J G 80 f_numbers_r3_values)] [] C ⟨hP, hD, hS⟩ (c_X2_write l G a21 a22 f_numbers_r1_sort f_numbers_r1_size f_numbers_r1_values x2 x3 hq) gX5_put_X2_write dX5_put_49 hl.1 [4, 5] [0, 1, 2, 3, 6, 7, 8, 9] [0, 1, 2, 3, 8, 9, 4, 5, 6, 7] rfl rfl ⟨rfl, rfl⟩ ⟨Nat.le_of_ble_eq_true rfl, Nat.le_of_ble_eq_true rfl⟩ ⟨rfl, by decide +kernel, by decide +kernel, by decide +kernel⟩ rfl (fun h => by cases h) (Nat.le_of_ble_eq_true rfl) rfl rfl rfl rfl (by decide) rfl rfl (fun H locs h => ?_)
          obtain ⟨hP, hD, hS⟩ := h
          refine lv_iconst (v := 1) hx hb dX5_put_52 (by decide) ?_
          rw [kr _ _ _ _ _ (Option.some.inj hm).symm]
          exact gk_iret C ⟨hP, hD, hS⟩ dX5_put_53
        · have hm := gk_it c28 hm
          refine lv_bipush (v := -12) hx hb dX5_put_38 (by decide) ?_
          rw [kr _ _ _ _ _ (Option.some.inj hm).symm]
          exact gk_iret C ⟨hP, hD, hS⟩ dX5_put_40
      · have hm := gk_if c26 hm
        refine lv_bipush (v := -11) hx hb dX5_put_22 (by decide) ?_
        rw [kr _ _ _ _ _ (Option.some.inj hm).symm]
        exact gk_iret C ⟨hP, hD, hS⟩ dX5_put_24
    have hm := gk_if c24 hm
    by_cases c30 : x1 = 2
    · have hm := gk_it c30 hm
      refine gk_aald (k := 2) (v := a23) C hP 1 rfl c30 (by decide) (by decide) rfl dX5_put_15 ?_
      obtain ⟨r31, hq, hm⟩ := gk_bd1_some hm
      refine gk_callV (n := 0) (bytes := cX2_isMissing) (maxL := 1) (ret := (some .boolean)) (Cn := RX2) (T := TX2) (N := 3) [(a0, .inr (4, [.ref a1, .ref a7, .int f_isKept, .ref a13, .ref a15, .ref a18])), (a18, gk_R G 4 (gk_four a19 a21 a23 a25)), (a19, .inr (1, [.int f_numbers_r0_sort, .int f_numbers_r0_size, .ref a20])), (a20, gk_J G 80 f_numbers_r0_values), (a21, .inr (1, [.int f_numbers_r1_sort, .int f_numbers_r1_size, .ref a22])), (a22, gk_J G 80 f_numbers_r1_values), (a24, gk_J G 80 f_numbers_r2_values), (a25, .inr (1, [.int f_numbers_r3_sort, .int f_numbers_r3_size, .ref a26])), (a26, gk_J G 80 f_numbers_r3_values)] [(a0, .inr (4, [.ref a1, .ref a7, .int f_isKept, .ref a13, .ref a15, .ref a18])), (a18, gk_R G 4 (gk_four a19 a21 a23 a25)), (a19, .inr (1, [.int f_numbers_r0_sort, .int f_numbers_r0_size, .ref a20])), (a20, gk_J G 80 f_numbers_r0_values), (a21, .inr (1, [.int f_numbers_r1_sort, .int f_numbers_r1_size, .ref a22])), (a22, gk_J G 80 f_numbers_r1_values), (a23, .inr (1, [.int f_numbers_r2_sort, .int f_numbers_r2_size, .ref a24])), (a24, gk_J G 80 f_numbers_r2_values), (a25, .inr (1, [.int f_numbers_r3_sort, .int f_numbers_r3_size, .ref a26])), (a26, gk_J G 80 f_numbers_r3_values)] [] C ⟨hP, hD, hS⟩ (c_X2_isMissing l G a23 a24 f_numbers_r2_sort f_numbers_r2_size hq) gX5_put_X2_isMissing dX5_put_16 hl.1 [6] [0, 1, 2, 3, 4, 5, 7, 8, 9] [0, 1, 2, 3, 4, 5, 9, 6, 7, 8] rfl rfl ⟨rfl, rfl⟩ ⟨Nat.le_of_ble_eq_true rfl, Nat.le_of_ble_eq_true rfl⟩ ⟨rfl, by decide +kernel, by decide +kernel, by decide +kernel⟩ rfl (fun h => by cases h) (Nat.le_of_ble_eq_true rfl) rfl rfl rfl rfl (by decide) rfl rfl (fun H locs h => ?_)
      obtain ⟨hP, hD, hS⟩ := h
      refine lv_if_eq (tgt := 25) hx hb dX5_put_19 (by decide) (fun c32 => ?_) (fun c32 => ?_)
      · have hm := gk_it c32 hm
        refine lv_aload_n hx hb dX5_put_25 rfl (lv_at hl 0 rfl) ?_
        refine va_get (D := G.1) (cl := vwCl) (own := RX5) (ref := "ExchangeFamilies") (ci := 4) (v := .ref a18) (C := RX5) (T := TX5) (N := 6) hx hb hts k_X5_put_0 hown hK hP 0 rfl rfl 5 (by decide) (hts _ k_X5_put_1) (fun _ h9 => h9) rfl dX5_put_26 ?_
        refine lv_iload_n hx hb dX5_put_29 rfl (lv_at hl 1 rfl) ?_
        refine gk_aald (k := 2) (v := a23) C hP 1 rfl c30 (by decide) (by decide) rfl dX5_put_30 ?_
        refine lv_iload_n hx hb dX5_put_31 rfl (lv_at hl 2 rfl) ?_
        obtain ⟨r33, hq, hm⟩ := gk_bd1_some hm
        refine gk_callV (n := 1) (bytes := cX2_hasPlace) (maxL := 2) (ret := (some .boolean)) (Cn := RX2) (T := TX2) (N := 3) [(a0, .inr (4, [.ref a1, .ref a7, .int f_isKept, .ref a13, .ref a15, .ref a18])), (a18, gk_R G 4 (gk_four a19 a21 a23 a25)), (a19, .inr (1, [.int f_numbers_r0_sort, .int f_numbers_r0_size, .ref a20])), (a20, gk_J G 80 f_numbers_r0_values), (a21, .inr (1, [.int f_numbers_r1_sort, .int f_numbers_r1_size, .ref a22])), (a22, gk_J G 80 f_numbers_r1_values), (a24, gk_J G 80 f_numbers_r2_values), (a25, .inr (1, [.int f_numbers_r3_sort, .int f_numbers_r3_size, .ref a26])), (a26, gk_J G 80 f_numbers_r3_values)] [(a0, .inr (4, [.ref a1, .ref a7, .int f_isKept, .ref a13, .ref a15, .ref a18])), (a18, gk_R G 4 (gk_four a19 a21 a23 a25)), (a19, .inr (1, [.int f_numbers_r0_sort, .int f_numbers_r0_size, .ref a20])), (a20, gk_J G 80 f_numbers_r0_values), (a21, .inr (1, [.int f_numbers_r1_sort, .int f_numbers_r1_size, .ref a22])), (a22, gk_J G 80 f_numbers_r1_values), (a23, .inr (1, [.int f_numbers_r2_sort, .int f_numbers_r2_size, .ref a24])), (a24, gk_J G 80 f_numbers_r2_values), (a25, .inr (1, [.int f_numbers_r3_sort, .int f_numbers_r3_size, .ref a26])), (a26, gk_J G 80 f_numbers_r3_values)] [] C ⟨hP, hD, hS⟩ (c_X2_hasPlace l G a23 a24 f_numbers_r2_sort f_numbers_r2_size x2 hq) gX5_put_X2_hasPlace dX5_put_32 hl.1 [6] [0, 1, 2, 3, 4, 5, 7, 8, 9] [0, 1, 2, 3, 4, 5, 9, 6, 7, 8] rfl rfl ⟨rfl, rfl⟩ ⟨Nat.le_of_ble_eq_true rfl, Nat.le_of_ble_eq_true rfl⟩ ⟨rfl, by decide +kernel, by decide +kernel, by decide +kernel⟩ rfl (fun h => by cases h) (Nat.le_of_ble_eq_true rfl) rfl rfl rfl rfl (by decide) rfl rfl (fun H locs h => ?_)
        obtain ⟨hP, hD, hS⟩ := h
        refine lv_if_ne (tgt := 41) hx hb dX5_put_35 (by decide) (fun c34 => ?_) (fun c34 => ?_)
        · have hm := gk_if c34 hm
          refine lv_aload_n hx hb dX5_put_41 rfl (lv_at hl 0 rfl) ?_
          refine va_get (D := G.1) (cl := vwCl) (own := RX5) (ref := "ExchangeFamilies") (ci := 4) (v := .ref a18) (C := RX5) (T := TX5) (N := 6) hx hb hts k_X5_put_0 hown hK hP 0 rfl rfl 5 (by decide) (hts _ k_X5_put_1) (fun _ h9 => h9) rfl dX5_put_42 ?_
          refine lv_iload_n hx hb dX5_put_45 rfl (lv_at hl 1 rfl) ?_
          refine gk_aald (k := 2) (v := a23) C hP 1 rfl c30 (by decide) (by decide) rfl dX5_put_46 ?_
          refine lv_iload_n hx hb dX5_put_47 rfl (lv_at hl 2 rfl) ?_
          refine lv_lload_n hx hb dX5_put_48 rfl (lv_at hl 3 rfl) ?_
          obtain ⟨r35, hq, hm⟩ := gk_bd1_some hm
          refine gk_callV (n := 2) (bytes := cX2_write) (maxL := 4) (ret := none) (Cn := RX2) (T := TX2) (N := 3) [(a0, .inr (4, [.ref a1, .ref a7, .int f_isKept, .ref a13, .ref a15, .ref a18])), (a18, gk_R G 4 (gk_four a19 a21 a23 a25)), (a19, .inr (1, [.int f_numbers_r0_sort, .int f_numbers_r0_size, .ref a20])), (a20, gk_J G 80 f_numbers_r0_values), (a21, .inr (1, [.int f_numbers_r1_sort, .int f_numbers_r1_size, .ref a22])), (a22, gk_J G 80 f_numbers_r1_values), (a25, .inr (1, [.int f_numbers_r3_sort, .int f_numbers_r3_size, .ref a26])), (a26, gk_J G 80 f_numbers_r3_values)] [(a0, .inr (4, [.ref a1, .ref a7, .int f_isKept, .ref a13, .ref a15, .ref a18])), (a18, gk_R G 4 (gk_four a19 a21 a23 a25)), (a19, .inr (1, [.int f_numbers_r0_sort, .int f_numbers_r0_size, .ref a20])), (a20, gk_J G 80 f_numbers_r0_values), (a21, .inr (1, [.int f_numbers_r1_sort, .int f_numbers_r1_size, .ref a22])), (a22, gk_J G 80 f_numbers_r1_values), (a23, .inr (1, [.int f_numbers_r2_sort, .int f_numbers_r2_size, .ref a24])), (a24, gk_J G 80 r35), (a25, .inr (1, [.int f_numbers_r3_sort, .int f_numbers_r3_size, .ref a26])), (a26, gk_J G 80 f_numbers_r3_values)] [] C ⟨hP, hD, hS⟩ (c_X2_write l G a23 a24 f_numbers_r2_sort f_numbers_r2_size f_numbers_r2_values x2 x3 hq) gX5_put_X2_write dX5_put_49 hl.1 [6, 7] [0, 1, 2, 3, 4, 5, 8, 9] [0, 1, 2, 3, 4, 5, 8, 9, 6, 7] rfl rfl ⟨rfl, rfl⟩ ⟨Nat.le_of_ble_eq_true rfl, Nat.le_of_ble_eq_true rfl⟩ ⟨rfl, by decide +kernel, by decide +kernel, by decide +kernel⟩ rfl (fun h => by cases h) (Nat.le_of_ble_eq_true rfl) rfl rfl rfl rfl (by decide) rfl rfl (fun H locs h => ?_)
          obtain ⟨hP, hD, hS⟩ := h
          refine lv_iconst (v := 1) hx hb dX5_put_52 (by decide) ?_
          rw [kr _ _ _ _ _ (Option.some.inj hm).symm]
          exact gk_iret C ⟨hP, hD, hS⟩ dX5_put_53
        · have hm := gk_it c34 hm
          refine lv_bipush (v := -12) hx hb dX5_put_38 (by decide) ?_
          rw [kr _ _ _ _ _ (Option.some.inj hm).symm]
          exact gk_iret C ⟨hP, hD, hS⟩ dX5_put_40
      · have hm := gk_if c32 hm
        refine lv_bipush (v := -11) hx hb dX5_put_22 (by decide) ?_
        rw [kr _ _ _ _ _ (Option.some.inj hm).symm]
        exact gk_iret C ⟨hP, hD, hS⟩ dX5_put_24
    have hm := gk_if c30 hm
    by_cases c36 : x1 = 3
    · have hm := gk_it c36 hm
      refine gk_aald (k := 3) (v := a25) C hP 1 rfl c36 (by decide) (by decide) rfl dX5_put_15 ?_
      obtain ⟨r37, hq, hm⟩ := gk_bd1_some hm
      refine gk_callV (n := 0) (bytes := cX2_isMissing) (maxL := 1) (ret := (some .boolean)) (Cn := RX2) (T := TX2) (N := 3) [(a0, .inr (4, [.ref a1, .ref a7, .int f_isKept, .ref a13, .ref a15, .ref a18])), (a18, gk_R G 4 (gk_four a19 a21 a23 a25)), (a19, .inr (1, [.int f_numbers_r0_sort, .int f_numbers_r0_size, .ref a20])), (a20, gk_J G 80 f_numbers_r0_values), (a21, .inr (1, [.int f_numbers_r1_sort, .int f_numbers_r1_size, .ref a22])), (a22, gk_J G 80 f_numbers_r1_values), (a23, .inr (1, [.int f_numbers_r2_sort, .int f_numbers_r2_size, .ref a24])), (a24, gk_J G 80 f_numbers_r2_values), (a26, gk_J G 80 f_numbers_r3_values)] [(a0, .inr (4, [.ref a1, .ref a7, .int f_isKept, .ref a13, .ref a15, .ref a18])), (a18, gk_R G 4 (gk_four a19 a21 a23 a25)), (a19, .inr (1, [.int f_numbers_r0_sort, .int f_numbers_r0_size, .ref a20])), (a20, gk_J G 80 f_numbers_r0_values), (a21, .inr (1, [.int f_numbers_r1_sort, .int f_numbers_r1_size, .ref a22])), (a22, gk_J G 80 f_numbers_r1_values), (a23, .inr (1, [.int f_numbers_r2_sort, .int f_numbers_r2_size, .ref a24])), (a24, gk_J G 80 f_numbers_r2_values), (a25, .inr (1, [.int f_numbers_r3_sort, .int f_numbers_r3_size, .ref a26])), (a26, gk_J G 80 f_numbers_r3_values)] [] C ⟨hP, hD, hS⟩ (c_X2_isMissing l G a25 a26 f_numbers_r3_sort f_numbers_r3_size hq) gX5_put_X2_isMissing dX5_put_16 hl.1 [8] [0, 1, 2, 3, 4, 5, 6, 7, 9] [0, 1, 2, 3, 4, 5, 6, 7, 9, 8] rfl rfl ⟨rfl, rfl⟩ ⟨Nat.le_of_ble_eq_true rfl, Nat.le_of_ble_eq_true rfl⟩ ⟨rfl, by decide +kernel, by decide +kernel, by decide +kernel⟩ rfl (fun h => by cases h) (Nat.le_of_ble_eq_true rfl) rfl rfl rfl rfl (by decide) rfl rfl (fun H locs h => ?_)
      obtain ⟨hP, hD, hS⟩ := h
      refine lv_if_eq (tgt := 25) hx hb dX5_put_19 (by decide) (fun c38 => ?_) (fun c38 => ?_)
      · have hm := gk_it c38 hm
        refine lv_aload_n hx hb dX5_put_25 rfl (lv_at hl 0 rfl) ?_
        refine va_get (D := G.1) (cl := vwCl) (own := RX5) (ref := "ExchangeFamilies") (ci := 4) (v := .ref a18) (C := RX5) (T := TX5) (N := 6) hx hb hts k_X5_put_0 hown hK hP 0 rfl rfl 5 (by decide) (hts _ k_X5_put_1) (fun _ h9 => h9) rfl dX5_put_26 ?_
        refine lv_iload_n hx hb dX5_put_29 rfl (lv_at hl 1 rfl) ?_
        refine gk_aald (k := 3) (v := a25) C hP 1 rfl c36 (by decide) (by decide) rfl dX5_put_30 ?_
        refine lv_iload_n hx hb dX5_put_31 rfl (lv_at hl 2 rfl) ?_
        obtain ⟨r39, hq, hm⟩ := gk_bd1_some hm
        refine gk_callV (n := 1) (bytes := cX2_hasPlace) (maxL := 2) (ret := (some .boolean)) (Cn := RX2) (T := TX2) (N := 3) [(a0, .inr (4, [.ref a1, .ref a7, .int f_isKept, .ref a13, .ref a15, .ref a18])), (a18, gk_R G 4 (gk_four a19 a21 a23 a25)), (a19, .inr (1, [.int f_numbers_r0_sort, .int f_numbers_r0_size, .ref a20])), (a20, gk_J G 80 f_numbers_r0_values), (a21, .inr (1, [.int f_numbers_r1_sort, .int f_numbers_r1_size, .ref a22])), (a22, gk_J G 80 f_numbers_r1_values), (a23, .inr (1, [.int f_numbers_r2_sort, .int f_numbers_r2_size, .ref a24])), (a24, gk_J G 80 f_numbers_r2_values), (a26, gk_J G 80 f_numbers_r3_values)] [(a0, .inr (4, [.ref a1, .ref a7, .int f_isKept, .ref a13, .ref a15, .ref a18])), (a18, gk_R G 4 (gk_four a19 a21 a23 a25)), (a19, .inr (1, [.int f_numbers_r0_sort, .int f_numbers_r0_size, .ref a20])), (a20, gk_J G 80 f_numbers_r0_values), (a21, .inr (1, [.int f_numbers_r1_sort, .int f_numbers_r1_size, .ref a22])), (a22, gk_J G 80 f_numbers_r1_values), (a23, .inr (1, [.int f_numbers_r2_sort, .int f_numbers_r2_size, .ref a24])), (a24, gk_J G 80 f_numbers_r2_values), (a25, .inr (1, [.int f_numbers_r3_sort, .int f_numbers_r3_size, .ref a26])), (a26, gk_J G 80 f_numbers_r3_values)] [] C ⟨hP, hD, hS⟩ (c_X2_hasPlace l G a25 a26 f_numbers_r3_sort f_numbers_r3_size x2 hq) gX5_put_X2_hasPlace dX5_put_32 hl.1 [8] [0, 1, 2, 3, 4, 5, 6, 7, 9] [0, 1, 2, 3, 4, 5, 6, 7, 9, 8] rfl rfl ⟨rfl, rfl⟩ ⟨Nat.le_of_ble_eq_true rfl, Nat.le_of_ble_eq_true rfl⟩ ⟨rfl, by decide +kernel, by decide +kernel, by decide +kernel⟩ rfl (fun h => by cases h) (Nat.le_of_ble_eq_true rfl) rfl rfl rfl rfl (by decide) rfl rfl (fun H locs h => ?_)
        obtain ⟨hP, hD, hS⟩ := h
        refine lv_if_ne (tgt := 41) hx hb dX5_put_35 (by decide) (fun c40 => ?_) (fun c40 => ?_)
        · have hm := gk_if c40 hm
          refine lv_aload_n hx hb dX5_put_41 rfl (lv_at hl 0 rfl) ?_
          refine va_get (D := G.1) (cl := vwCl) (own := RX5) (ref := "ExchangeFamilies") (ci := 4) (v := .ref a18) (C := RX5) (T := TX5) (N := 6) hx hb hts k_X5_put_0 hown hK hP 0 rfl rfl 5 (by decide) (hts _ k_X5_put_1) (fun _ h9 => h9) rfl dX5_put_42 ?_
          refine lv_iload_n hx hb dX5_put_45 rfl (lv_at hl 1 rfl) ?_
          refine gk_aald (k := 3) (v := a25) C hP 1 rfl c36 (by decide) (by decide) rfl dX5_put_46 ?_
          refine lv_iload_n hx hb dX5_put_47 rfl (lv_at hl 2 rfl) ?_
          refine lv_lload_n hx hb dX5_put_48 rfl (lv_at hl 3 rfl) ?_
          obtain ⟨r41, hq, hm⟩ := gk_bd1_some hm
          refine gk_callV (n := 2) (bytes := cX2_write) (maxL := 4) (ret := none) (Cn := RX2) (T := TX2) (N := 3) [(a0, .inr (4, [.ref a1, .ref a7, .int f_isKept, .ref a13, .ref a15, .ref a18])), (a18, gk_R G 4 (gk_four a19 a21 a23 a25)), (a19, .inr (1, [.int f_numbers_r0_sort, .int f_numbers_r0_size, .ref a20])), (a20, gk_J G 80 f_numbers_r0_values), (a21, .inr (1, [.int f_numbers_r1_sort, .int f_numbers_r1_size, .ref a22])), (a22, gk_J G 80 f_numbers_r1_values), (a23, .inr (1, [.int f_numbers_r2_sort, .int f_numbers_r2_size, .ref a24])), (a24, gk_J G 80 f_numbers_r2_values)] [(a0, .inr (4, [.ref a1, .ref a7, .int f_isKept, .ref a13, .ref a15, .ref a18])), (a18, gk_R G 4 (gk_four a19 a21 a23 a25)), (a19, .inr (1, [.int f_numbers_r0_sort, .int f_numbers_r0_size, .ref a20])), (a20, gk_J G 80 f_numbers_r0_values), (a21, .inr (1, [.int f_numbers_r1_sort, .int f_numbers_r1_size, .ref a22])), (a22, gk_J G 80 f_numbers_r1_values), (a23, .inr (1, [.int f_numbers_r2_sort, .int f_numbers_r2_size, .ref a24])), (a24, gk_J G 80 f_numbers_r2_values), (a25, .inr (1, [.int f_numbers_r3_sort, .int f_numbers_r3_size, .ref a26])), (a26, gk_J G 80 r41)] [] C ⟨hP, hD, hS⟩ (c_X2_write l G a25 a26 f_numbers_r3_sort f_numbers_r3_size f_numbers_r3_values x2 x3 hq) gX5_put_X2_write dX5_put_49 hl.1 [8, 9] [0, 1, 2, 3, 4, 5, 6, 7] [0, 1, 2, 3, 4, 5, 6, 7, 8, 9] rfl rfl ⟨rfl, rfl⟩ ⟨Nat.le_of_ble_eq_true rfl, Nat.le_of_ble_eq_true rfl⟩ ⟨rfl, by decide +kernel, by decide +kernel, by decide +kernel⟩ rfl (fun h => by cases h) (Nat.le_of_ble_eq_true rfl) rfl rfl rfl rfl (by decide) rfl rfl (fun H locs h => ?_)
          obtain ⟨hP, hD, hS⟩ := h
          refine lv_iconst (v := 1) hx hb dX5_put_52 (by decide) ?_
          rw [kr _ _ _ _ _ (Option.some.inj hm).symm]
          exact gk_iret C ⟨hP, hD, hS⟩ dX5_put_53
        · have hm := gk_it c40 hm
          refine lv_bipush (v := -12) hx hb dX5_put_38 (by decide) ?_
          rw [kr _ _ _ _ _ (Option.some.inj hm).symm]
          exact gk_iret C ⟨hP, hD, hS⟩ dX5_put_40
      · have hm := gk_if c38 hm
        refine lv_bipush (v := -11) hx hb dX5_put_22 (by decide) ?_
        rw [kr _ _ _ _ _ (Option.some.inj hm).symm]
        exact gk_iret C ⟨hP, hD, hS⟩ dX5_put_24
    have hm := gk_if c36 hm
    cases hm
  · have hm := gk_if c17 hm
    refine lv_bipush (v := -2) hx hb dX5_put_7 (by decide) ?_
    rw [kr _ _ _ _ _ (Option.some.inj hm).symm]
    exact gk_iret C ⟨hP, hD, hS⟩ dX5_put_9
def m_X5_put (f_numbers_r0_sort : Int32) (f_numbers_r0_size : Int32) (f_numbers_r0_values : (Nat → Int64)) (f_numbers_r1_sort : Int32) (f_numbers_r1_size : Int32) (f_numbers_r1_values : (Nat → Int64)) (f_numbers_r2_sort : Int32) (f_numbers_r2_size : Int32) (f_numbers_r2_values : (Nat → Int64)) (f_numbers_r3_sort : Int32) (f_numbers_r3_size : Int32) (f_numbers_r3_values : (Nat → Int64)) (x1 : Int32) (x2 : Int32) (x3 : Int64) : Option (Int32 × (Nat → Int64) × (Nat → Int64) × (Nat → Int64) × (Nat → Int64)) := m_X5_put_0 f_numbers_r0_sort f_numbers_r0_size f_numbers_r0_values f_numbers_r1_sort f_numbers_r1_size f_numbers_r1_values f_numbers_r2_sort f_numbers_r2_size f_numbers_r2_values f_numbers_r3_sort f_numbers_r3_size f_numbers_r3_values x1 x2 x3
theorem c_X5_put (l : Launch) (G : gk_G) (a0 a1 a7 a13 a15 a18 a19 a20 a21 a22 a23 a24 a25 a26 : Nat) (f_isKept : Int32) (f_numbers_r0_sort : Int32) (f_numbers_r0_size : Int32) (f_numbers_r0_values : (Nat → Int64)) (f_numbers_r1_sort : Int32) (f_numbers_r1_size : Int32) (f_numbers_r1_values : (Nat → Int64)) (f_numbers_r2_sort : Int32) (f_numbers_r2_size : Int32) (f_numbers_r2_values : (Nat → Int64)) (f_numbers_r3_sort : Int32) (f_numbers_r3_size : Int32) (f_numbers_r3_values : (Nat → Int64)) (x1 : Int32) (x2 : Int32) (x3 : Int64) {rv : Int32} {g_numbers_r0_values : (Nat → Int64)} {g_numbers_r1_values : (Nat → Int64)} {g_numbers_r2_values : (Nat → Int64)} {g_numbers_r3_values : (Nat → Int64)} (hm : m_X5_put f_numbers_r0_sort f_numbers_r0_size f_numbers_r0_values f_numbers_r1_sort f_numbers_r1_size f_numbers_r1_values f_numbers_r2_sort f_numbers_r2_size f_numbers_r2_values f_numbers_r3_sort f_numbers_r3_size f_numbers_r3_values x1 x2 x3 = some (rv, g_numbers_r0_values, g_numbers_r1_values, g_numbers_r2_values, g_numbers_r3_values)) : gk_M l yX5_put wsX5_put rm_X5_put false G [.ref a0, .int x1, .int x2, .long x3] [(a0, .inr (4, [.ref a1, .ref a7, .int f_isKept, .ref a13, .ref a15, .ref a18])), (a18, gk_R G 4 (gk_four a19 a21 a23 a25)), (a19, .inr (1, [.int f_numbers_r0_sort, .int f_numbers_r0_size, .ref a20])), (a20, gk_J G 80 f_numbers_r0_values), (a21, .inr (1, [.int f_numbers_r1_sort, .int f_numbers_r1_size, .ref a22])), (a22, gk_J G 80 f_numbers_r1_values), (a23, .inr (1, [.int f_numbers_r2_sort, .int f_numbers_r2_size, .ref a24])), (a24, gk_J G 80 f_numbers_r2_values), (a25, .inr (1, [.int f_numbers_r3_sort, .int f_numbers_r3_size, .ref a26])), (a26, gk_J G 80 f_numbers_r3_values)] (some (.int rv)) [(a0, .inr (4, [.ref a1, .ref a7, .int f_isKept, .ref a13, .ref a15, .ref a18])), (a18, gk_R G 4 (gk_four a19 a21 a23 a25)), (a19, .inr (1, [.int f_numbers_r0_sort, .int f_numbers_r0_size, .ref a20])), (a20, gk_J G 80 g_numbers_r0_values), (a21, .inr (1, [.int f_numbers_r1_sort, .int f_numbers_r1_size, .ref a22])), (a22, gk_J G 80 g_numbers_r1_values), (a23, .inr (1, [.int f_numbers_r2_sort, .int f_numbers_r2_size, .ref a24])), (a24, gk_J G 80 g_numbers_r2_values), (a25, .inr (1, [.int f_numbers_r3_sort, .int f_numbers_r3_size, .ref a26])), (a26, gk_J G 80 g_numbers_r3_values)] :=
  gk_of (by decide) rfl (Nat.le_of_ble_eq_true rfl) (fun p e s m below meth c A ls C h hl => w_X5_put_0 C hm (fun v0 v1 v2 v3 v4 ez => by cases ez; rfl) h (show lv_has ls 5 [(0, .ref a0), (1, .int x1), (2, .int x2), (3, .long x3)] from hl))

/-! ===== ExchangeFamilies.get(II)J ===== -/
abbrev rm_X5_get : Room := { frames := 3, cells := 0, slots := 0, locals := 149 }
theorem k_X5_get_0 : Cond.constantLong RX5 234 (-9223372036854775808) ∈ wsX5_get := by decide +kernel
theorem k_X5_get_1 : ∀ w ∈ u_ws RX5 TX5 6, w ∈ wsX5_get := by decide +kernel
theorem k_X5_get_2 : Cond.fieldLink RX5 41 "ExchangeFamilies" "numbers" "[LExchangeFamilies$Numbers;" ∈ wsX5_get := by decide +kernel
theorem k_X5_get_3 : ∀ w ∈ u_ws RX2 TX2 3, w ∈ wsX5_get := by decide +kernel
theorem k_X5_get_4 : Cond.fieldLink RX5 236 "ExchangeFamilies$Numbers" "values" "[J" ∈ wsX5_get := by decide +kernel
def m_X5_get_0 (f_numbers_r0_sort : Int32) (f_numbers_r0_size : Int32) (f_numbers_r0_values : (Nat → Int64)) (f_numbers_r1_sort : Int32) (f_numbers_r1_size : Int32) (f_numbers_r1_values : (Nat → Int64)) (f_numbers_r2_sort : Int32) (f_numbers_r2_size : Int32) (f_numbers_r2_values : (Nat → Int64)) (f_numbers_r3_sort : Int32) (f_numbers_r3_size : Int32) (f_numbers_r3_values : (Nat → Int64)) (x1 : Int32) (x2 : Int32) : Option (Int64) := gk_bd1 (m_X5_noRow x1) (fun r16 => (if r16 = (0 : Int32) then (if x1 = 0 then gk_bd1 (m_X2_isMissing f_numbers_r0_sort) (fun r19 => (if r19 = (0 : Int32) then gk_bd1 (m_X2_hasPlace f_numbers_r0_size x2) (fun r21 => (if r21 = (0 : Int32) then some (-9223372036854775808 : Int64) else gk_ix x2 80 (some (f_numbers_r0_values x2.toNatClampNeg)))) else some (-9223372036854775808 : Int64))) else (if x1 = 1 then gk_bd1 (m_X2_isMissing f_numbers_r1_sort) (fun r24 => (if r24 = (0 : Int32) then gk_bd1 (m_X2_hasPlace f_numbers_r1_size x2) (fun r26 => (if r26 = (0 : Int32) then some (-9223372036854775808 : Int64) else gk_ix x2 80 (some (f_numbers_r1_values x2.toNatClampNeg)))) else some (-9223372036854775808 : Int64))) else (if x1 = 2 then gk_bd1 (m_X2_isMissing f_numbers_r2_sort) (fun r29 => (if r29 = (0 : Int32) then gk_bd1 (m_X2_hasPlace f_numbers_r2_size x2) (fun r31 => (if r31 = (0 : Int32) then some (-9223372036854775808 : Int64) else gk_ix x2 80 (some (f_numbers_r2_values x2.toNatClampNeg)))) else some (-9223372036854775808 : Int64))) else (if x1 = 3 then gk_bd1 (m_X2_isMissing f_numbers_r3_sort) (fun r34 => (if r34 = (0 : Int32) then gk_bd1 (m_X2_hasPlace f_numbers_r3_size x2) (fun r36 => (if r36 = (0 : Int32) then some (-9223372036854775808 : Int64) else gk_ix x2 80 (some (f_numbers_r3_values x2.toNatClampNeg)))) else some (-9223372036854775808 : Int64))) else none)))) else some (-9223372036854775808 : Int64)))
set_option maxRecDepth 100000 in
set_option maxHeartbeats 4000000 in
theorem w_X5_get_0 {p : Program} {l : Launch} {e : Env} {s : State} {m : MethodId} {args : Array Value} {below : List Frame} {meth : Method} {c : Code} {G : gk_G} {A : Nat → Prop} {Q : State → Prop} {a0 a1 a7 a13 a15 a18 a19 a20 a21 a22 a23 a24 a25 a26 : Nat} (C : gk_C p s m args meth c cX5_get 3 (some .long) yX5_get wsX5_get false G A) {f_numbers_r0_sort : Int32} {f_numbers_r0_size : Int32} {f_numbers_r0_values : (Nat → Int64)} {f_numbers_r1_sort : Int32} {f_numbers_r1_size : Int32} {f_numbers_r1_values : (Nat → Int64)} {f_numbers_r2_sort : Int32} {f_numbers_r2_size : Int32} {f_numbers_r2_values : (Nat → Int64)} {f_numbers_r3_sort : Int32} {f_numbers_r3_size : Int32} {f_numbers_r3_values : (Nat → Int64)} {x1 : Int32} {x2 : Int32} {f_isKept : Int32} {yy : Int64} (hm : m_X5_get_0 f_numbers_r0_sort f_numbers_r0_size f_numbers_r0_values f_numbers_r1_sort f_numbers_r1_size f_numbers_r1_values f_numbers_r2_sort f_numbers_r2_size f_numbers_r2_values f_numbers_r3_sort f_numbers_r3_size f_numbers_r3_values x1 x2 = some yy) (kr : ∀ (rv : Int64), yy = rv → Q = MQ below (gk_Q G (some (.long rv)) [(a0, .inr (4, [.ref a1, .ref a7, .int f_isKept, .ref a13, .ref a15, .ref a18])), (a18, gk_R G 4 (gk_four a19 a21 a23 a25)), (a19, .inr (1, [.int f_numbers_r0_sort, .int f_numbers_r0_size, .ref a20])), (a20, gk_J G 80 f_numbers_r0_values), (a21, .inr (1, [.int f_numbers_r1_sort, .int f_numbers_r1_size, .ref a22])), (a22, gk_J G 80 f_numbers_r1_values), (a23, .inr (1, [.int f_numbers_r2_sort, .int f_numbers_r2_size, .ref a24])), (a24, gk_J G 80 f_numbers_r2_values), (a25, .inr (1, [.int f_numbers_r3_sort, .int f_numbers_r3_size, .ref a26])), (a26, gk_J G 80 f_numbers_r3_values)] A) args s 0 0 A) {H : Heap} {locs : List Loc} {ls : Array Slot} (h : gk_H G A s [(a0, .inr (4, [.ref a1, .ref a7, .int f_isKept, .ref a13, .ref a15, .ref a18])), (a18, gk_R G 4 (gk_four a19 a21 a23 a25)), (a19, .inr (1, [.int f_numbers_r0_sort, .int f_numbers_r0_size, .ref a20])), (a20, gk_J G 80 f_numbers_r0_values), (a21, .inr (1, [.int f_numbers_r1_sort, .int f_numbers_r1_size, .ref a22])), (a22, gk_J G 80 f_numbers_r1_values), (a23, .inr (1, [.int f_numbers_r2_sort, .int f_numbers_r2_size, .ref a24])), (a24, gk_J G 80 f_numbers_r2_values), (a25, .inr (1, [.int f_numbers_r3_sort, .int f_numbers_r3_size, .ref a26])), (a26, gk_J G 80 f_numbers_r3_values)] H locs) (hl : lv_has ls 3 [(0, .ref a0), (1, .int x1), (2, .int x2)]) : W p l e rm_X5_get s m args below meth c H locs 0 0 Q (F0 m 0 ls []) := by
  obtain ⟨hx, hb, hml, hr, hown, hnm, hts, hlk, hK, hSt, hA⟩ := id C
  obtain ⟨hP, hD, hS⟩ := h
  unfold m_X5_get_0 at hm
  refine lv_iload_n hx hb dX5_get_0 rfl (lv_at hl 1 rfl) ?_
  obtain ⟨r16, hq, hm⟩ := gk_bd1_some hm
  refine gk_callS (n := 1) (bytes := cX5_noRow) (maxL := 1) (ret := (some .boolean)) [(a0, .inr (4, [.ref a1, .ref a7, .int f_isKept, .ref a13, .ref a15, .ref a18])), (a18, gk_R G 4 (gk_four a19 a21 a23 a25)), (a19, .inr (1, [.int f_numbers_r0_sort, .int f_numbers_r0_size, .ref a20])), (a20, gk_J G 80 f_numbers_r0_values), (a21, .inr (1, [.int f_numbers_r1_sort, .int f_numbers_r1_size, .ref a22])), (a22, gk_J G 80 f_numbers_r1_values), (a23, .inr (1, [.int f_numbers_r2_sort, .int f_numbers_r2_size, .ref a24])), (a24, gk_J G 80 f_numbers_r2_values), (a25, .inr (1, [.int f_numbers_r3_sort, .int f_numbers_r3_size, .ref a26])), (a26, gk_J G 80 f_numbers_r3_values)] [(a0, .inr (4, [.ref a1, .ref a7, .int f_isKept, .ref a13, .ref a15, .ref a18])), (a18, gk_R G 4 (gk_four a19 a21 a23 a25)), (a19, .inr (1, [.int f_numbers_r0_sort, .int f_numbers_r0_size, .ref a20])), (a20, gk_J G 80 f_numbers_r0_values), (a21, .inr (1, [.int f_numbers_r1_sort, .int f_numbers_r1_size, .ref a22])), (a22, gk_J G 80 f_numbers_r1_values), (a23, .inr (1, [.int f_numbers_r2_sort, .int f_numbers_r2_size, .ref a24])), (a24, gk_J G 80 f_numbers_r2_values), (a25, .inr (1, [.int f_numbers_r3_sort, .int f_numbers_r3_size, .ref a26])), (a26, gk_J G 80 f_numbers_r3_values)] [] C ⟨hP, hD, hS⟩ (c_X5_noRow l G x1 hq) gX5_get_X5_noRow dX5_get_1 hl.1 [] [0, 1, 2, 3, 4, 5, 6, 7, 8, 9] [0, 1, 2, 3, 4, 5, 6, 7, 8, 9] rfl ⟨rfl, rfl⟩ ⟨Nat.le_of_ble_eq_true rfl, Nat.le_of_ble_eq_true rfl⟩ ⟨by decide +kernel, by decide +kernel, by decide +kernel⟩ rfl (fun h => by cases h) (Nat.le_of_ble_eq_true rfl) rfl rfl rfl rfl (by decide) rfl rfl (fun H locs h => ?_)
  obtain ⟨hP, hD, hS⟩ := h
  refine lv_if_ne (tgt := 32) hx hb dX5_get_4 (by decide) (fun c17 => ?_) (fun c17 => ?_)
  · have hm := gk_if c17 hm
    refine lv_ldc2 (own := RX5) (v := -9223372036854775808) hx hb hown (hts _ k_X5_get_0) dX5_get_32 ?_
    rw [kr _ (Option.some.inj hm).symm]
    exact gk_lret C ⟨hP, hD, hS⟩ dX5_get_35
  · have hm := gk_it c17 hm
    refine lv_aload_n hx hb dX5_get_7 rfl (lv_at hl 0 rfl) ?_
    refine va_get (D := G.1) (cl := vwCl) (own := RX5) (ref := "ExchangeFamilies") (ci := 4) (v := .ref a18) (C := RX5) (T := TX5) (N := 6) hx hb hts k_X5_get_1 hown hK hP 0 rfl rfl 5 (by decide) (hts _ k_X5_get_2) (fun _ h9 => h9) rfl dX5_get_8 ?_
    refine lv_iload_n hx hb dX5_get_11 rfl (lv_at hl 1 rfl) ?_
    by_cases c18 : x1 = 0
    · have hm := gk_it c18 hm
      refine gk_aald (k := 0) (v := a19) C hP 1 rfl c18 (by decide) (by decide) rfl dX5_get_12 ?_
      obtain ⟨r19, hq, hm⟩ := gk_bd1_some hm
      refine gk_callV (n := 0) (bytes := cX2_isMissing) (maxL := 1) (ret := (some .boolean)) (Cn := RX2) (T := TX2) (N := 3) [(a0, .inr (4, [.ref a1, .ref a7, .int f_isKept, .ref a13, .ref a15, .ref a18])), (a18, gk_R G 4 (gk_four a19 a21 a23 a25)), (a20, gk_J G 80 f_numbers_r0_values), (a21, .inr (1, [.int f_numbers_r1_sort, .int f_numbers_r1_size, .ref a22])), (a22, gk_J G 80 f_numbers_r1_values), (a23, .inr (1, [.int f_numbers_r2_sort, .int f_numbers_r2_size, .ref a24])), (a24, gk_J G 80 f_numbers_r2_values), (a25, .inr (1, [.int f_numbers_r3_sort, .int f_numbers_r3_size, .ref a26])), (a26, gk_J G 80 f_numbers_r3_values)] [(a0, .inr (4, [.ref a1, .ref a7, .int f_isKept, .ref a13, .ref a15, .ref a18])), (a18, gk_R G 4 (gk_four a19 a21 a23 a25)), (a19, .inr (1, [.int f_numbers_r0_sort, .int f_numbers_r0_size, .ref a20])), (a20, gk_J G 80 f_numbers_r0_values), (a21, .inr (1, [.int f_numbers_r1_sort, .int f_numbers_r1_size, .ref a22])), (a22, gk_J G 80 f_numbers_r1_values), (a23, .inr (1, [.int f_numbers_r2_sort, .int f_numbers_r2_size, .ref a24])), (a24, gk_J G 80 f_numbers_r2_values), (a25, .inr (1, [.int f_numbers_r3_sort, .int f_numbers_r3_size, .ref a26])), (a26, gk_J G 80 f_numbers_r3_values)] [] C ⟨hP, hD, hS⟩ (c_X2_isMissing l G a19 a20 f_numbers_r0_sort f_numbers_r0_size hq) gX5_get_X2_isMissing dX5_get_13 hl.1 [2] [0, 1, 3, 4, 5, 6, 7, 8, 9] [0, 1, 9, 2, 3, 4, 5, 6, 7, 8] rfl rfl ⟨rfl, rfl⟩ ⟨Nat.le_of_ble_eq_true rfl, Nat.le_of_ble_eq_true rfl⟩ ⟨rfl, by decide +kernel, by decide +kernel, by decide +kernel⟩ rfl (fun h => by cases h) (Nat.le_of_ble_eq_true rfl) rfl rfl rfl rfl (by decide) rfl rfl (fun H locs h => ?_)
      obtain ⟨hP, hD, hS⟩ := h
      refine lv_if_ne (tgt := 32) hx hb dX5_get_16 (by decide) (fun c20 => ?_) (fun c20 => ?_)
      · have hm := gk_if c20 hm
        refine lv_ldc2 (own := RX5) (v := -9223372036854775808) hx hb hown (hts _ k_X5_get_0) dX5_get_32 ?_
        rw [kr _ (Option.some.inj hm).symm]
        exact gk_lret C ⟨hP, hD, hS⟩ dX5_get_35
      · have hm := gk_it c20 hm
        refine lv_aload_n hx hb dX5_get_19 rfl (lv_at hl 0 rfl) ?_
        refine va_get (D := G.1) (cl := vwCl) (own := RX5) (ref := "ExchangeFamilies") (ci := 4) (v := .ref a18) (C := RX5) (T := TX5) (N := 6) hx hb hts k_X5_get_1 hown hK hP 0 rfl rfl 5 (by decide) (hts _ k_X5_get_2) (fun _ h9 => h9) rfl dX5_get_20 ?_
        refine lv_iload_n hx hb dX5_get_23 rfl (lv_at hl 1 rfl) ?_
        refine gk_aald (k := 0) (v := a19) C hP 1 rfl c18 (by decide) (by decide) rfl dX5_get_24 ?_
        refine lv_iload_n hx hb dX5_get_25 rfl (lv_at hl 2 rfl) ?_
        obtain ⟨r21, hq, hm⟩ := gk_bd1_some hm
        refine gk_callV (n := 1) (bytes := cX2_hasPlace) (maxL := 2) (ret := (some .boolean)) (Cn := RX2) (T := TX2) (N := 3) [(a0, .inr (4, [.ref a1, .ref a7, .int f_isKept, .ref a13, .ref a15, .ref a18])), (a18, gk_R G 4 (gk_four a19 a21 a23 a25)), (a20, gk_J G 80 f_numbers_r0_values), (a21, .inr (1, [.int f_numbers_r1_sort, .int f_numbers_r1_size, .ref a22])), (a22, gk_J G 80 f_numbers_r1_values), (a23, .inr (1, [.int f_numbers_r2_sort, .int f_numbers_r2_size, .ref a24])), (a24, gk_J G 80 f_numbers_r2_values), (a25, .inr (1, [.int f_numbers_r3_sort, .int f_numbers_r3_size, .ref a26])), (a26, gk_J G 80 f_numbers_r3_values)] [(a0, .inr (4, [.ref a1, .ref a7, .int f_isKept, .ref a13, .ref a15, .ref a18])), (a18, gk_R G 4 (gk_four a19 a21 a23 a25)), (a19, .inr (1, [.int f_numbers_r0_sort, .int f_numbers_r0_size, .ref a20])), (a20, gk_J G 80 f_numbers_r0_values), (a21, .inr (1, [.int f_numbers_r1_sort, .int f_numbers_r1_size, .ref a22])), (a22, gk_J G 80 f_numbers_r1_values), (a23, .inr (1, [.int f_numbers_r2_sort, .int f_numbers_r2_size, .ref a24])), (a24, gk_J G 80 f_numbers_r2_values), (a25, .inr (1, [.int f_numbers_r3_sort, .int f_numbers_r3_size, .ref a26])), (a26, gk_J G 80 f_numbers_r3_values)] [] C ⟨hP, hD, hS⟩ (c_X2_hasPlace l G a19 a20 f_numbers_r0_sort f_numbers_r0_size x2 hq) gX5_get_X2_hasPlace dX5_get_26 hl.1 [2] [0, 1, 3, 4, 5, 6, 7, 8, 9] [0, 1, 9, 2, 3, 4, 5, 6, 7, 8] rfl rfl ⟨rfl, rfl⟩ ⟨Nat.le_of_ble_eq_true rfl, Nat.le_of_ble_eq_true rfl⟩ ⟨rfl, by decide +kernel, by decide +kernel, by decide +kernel⟩ rfl (fun h => by cases h) (Nat.le_of_ble_eq_true rfl) rfl rfl rfl rfl (by decide) rfl rfl (fun H locs h => ?_)
        obtain ⟨hP, hD, hS⟩ := h
        refine lv_if_ne (tgt := 36) hx hb dX5_get_29 (by decide) (fun c22 => ?_) (fun c22 => ?_)
        · have hm := gk_if c22 hm
          refine lv_aload_n hx hb dX5_get_36 rfl (lv_at hl 0 rfl) ?_
          refine va_get (D := G.1) (cl := vwCl) (own := RX5) (ref := "ExchangeFamilies") (ci := 4) (v := .ref a18) (C := RX5) (T := TX5) (N := 6) hx hb hts k_X5_get_1 hown hK hP 0 rfl rfl 5 (by decide) (hts _ k_X5_get_2) (fun _ h9 => h9) rfl dX5_get_37 ?_
          refine lv_iload_n hx hb dX5_get_40 rfl (lv_at hl 1 rfl) ?_
          refine gk_aald (k := 0) (v := a19) C hP 1 rfl c18 (by decide) (by decide) rfl dX5_get_41 ?_
          refine va_get (D := G.1) (cl := vwCl) (own := RX5) (ref := "ExchangeFamilies$Numbers") (ci := 1) (v := .ref a20) (C := RX2) (T := TX2) (N := 3) hx hb hts k_X5_get_3 hown hK hP 2 rfl rfl 2 (by decide) (hts _ k_X5_get_4) (fun _ h9 => h9) rfl dX5_get_42 ?_
          refine lv_iload_n hx hb dX5_get_45 rfl (lv_at hl 2 rfl) ?_
          obtain ⟨hi, hm⟩ := gk_ix_some hm
          refine va_lald hx hb hK hP 3 1 rfl rfl hi dX5_get_46 ?_
          rw [kr _ (Option.some.inj hm).symm]
          exact gk_lret C ⟨hP, hD, hS⟩ dX5_get_47
        · have hm := gk_it c22 hm
          refine lv_ldc2 (own := RX5) (v := -9223372036854775808) hx hb hown (hts _ k_X5_get_0) dX5_get_32 ?_
          rw [kr _ (Option.some.inj hm).symm]
          exact gk_lret C ⟨hP, hD, hS⟩ dX5_get_35
    have hm := gk_if c18 hm
    by_cases c23 : x1 = 1
    · have hm := gk_it c23 hm
      refine gk_aald (k := 1) (v := a21) C hP 1 rfl c23 (by decide) (by decide) rfl dX5_get_12 ?_
      obtain ⟨r24, hq, hm⟩ := gk_bd1_some hm
      refine gk_callV (n := 0) (bytes := cX2_isMissing) (maxL := 1) (ret := (some .boolean)) (Cn := RX2) (T := TX2) (N := 3) [(a0, .inr (4, [.ref a1, .ref a7, .int f_isKept, .ref a13, .ref a15, .ref a18])), (a18, gk_R G 4 (gk_four a19 a21 a23 a25)), (a19, .inr (1, [.int f_numbers_r0_sort, .int f_numbers_r0_size, .ref a20])), (a20, gk_J G 80 f_numbers_r0_values), (a22, gk_J G 80 f_numbers_r1_values), (a23, .inr (1, [.int f_numbers_r2_sort, .int f_numbers_r2_size, .ref a24])), (a24, gk_J G 80 f_numbers_r2_values), (a25, .inr (1, [.int f_numbers_r3_sort, .int f_numbers_r3_size, .ref a26])), (a26, gk_J G 80 f_numbers_r3_values)] [(a0, .inr (4, [.ref a1, .ref a7, .int f_isKept, .ref a13, .ref a15, .ref a18])), (a18, gk_R G 4 (gk_four a19 a21 a23 a25)), (a19, .inr (1, [.int f_numbers_r0_sort, .int f_numbers_r0_size, .ref a20])), (a20, gk_J G 80 f_numbers_r0_values), (a21, .inr (1, [.int f_numbers_r1_sort, .int f_numbers_r1_size, .ref a22])), (a22, gk_J G 80 f_numbers_r1_values), (a23, .inr (1, [.int f_numbers_r2_sort, .int f_numbers_r2_size, .ref a24])), (a24, gk_J G 80 f_numbers_r2_values), (a25, .inr (1, [.int f_numbers_r3_sort, .int f_numbers_r3_size, .ref a26])), (a26, gk_J G 80 f_numbers_r3_values)] [] C ⟨hP, hD, hS⟩ (c_X2_isMissing l G a21 a22 f_numbers_r1_sort f_numbers_r1_size hq) gX5_get_X2_isMissing dX5_get_13 hl.1 [4] [0, 1, 2, 3, 5, 6, 7, 8, 9] [0, 1, 2, 3, 9, 4, 5, 6, 7, 8] rfl rfl ⟨rfl, rfl⟩ ⟨Nat.le_of_ble_eq_true rfl, Nat.le_of_ble_eq_true rfl⟩ ⟨rfl, by decide +kernel, by decide +kernel, by decide +kernel⟩ rfl (fun h => by cases h) (Nat.le_of_ble_eq_true rfl) rfl rfl rfl rfl (by decide) rfl rfl (fun H locs h => ?_)
      obtain ⟨hP, hD, hS⟩ := h
      refine lv_if_ne (tgt := 32) hx hb dX5_get_16 (by decide) (fun c25 => ?_) (fun c25 => ?_)
      · have hm := gk_if c25 hm
        refine lv_ldc2 (own := RX5) (v := -9223372036854775808) hx hb hown (hts _ k_X5_get_0) dX5_get_32 ?_
        rw [kr _ (Option.some.inj hm).symm]
        exact gk_lret C ⟨hP, hD, hS⟩ dX5_get_35
      · have hm := gk_it c25 hm
        refine lv_aload_n hx hb dX5_get_19 rfl (lv_at hl 0 rfl) ?_
        refine va_get (D := G.1) (cl := vwCl) (own := RX5) (ref := "ExchangeFamilies") (ci := 4) (v := .ref a18) (C := RX5) (T := TX5) (N := 6) hx hb hts k_X5_get_1 hown hK hP 0 rfl rfl 5 (by decide) (hts _ k_X5_get_2) (fun _ h9 => h9) rfl dX5_get_20 ?_
        refine lv_iload_n hx hb dX5_get_23 rfl (lv_at hl 1 rfl) ?_
        refine gk_aald (k := 1) (v := a21) C hP 1 rfl c23 (by decide) (by decide) rfl dX5_get_24 ?_
        refine lv_iload_n hx hb dX5_get_25 rfl (lv_at hl 2 rfl) ?_
        obtain ⟨r26, hq, hm⟩ := gk_bd1_some hm
        refine gk_callV (n := 1) (bytes := cX2_hasPlace) (maxL := 2) (ret := (some .boolean)) (Cn := RX2) (T := TX2) (N := 3) [(a0, .inr (4, [.ref a1, .ref a7, .int f_isKept, .ref a13, .ref a15, .ref a18])), (a18, gk_R G 4 (gk_four a19 a21 a23 a25)), (a19, .inr (1, [.int f_numbers_r0_sort, .int f_numbers_r0_size, .ref a20])), (a20, gk_J G 80 f_numbers_r0_values), (a22, gk_J G 80 f_numbers_r1_values), (a23, .inr (1, [.int f_numbers_r2_sort, .int f_numbers_r2_size, .ref a24])), (a24, gk_J G 80 f_numbers_r2_values), (a25, .inr (1, [.int f_numbers_r3_sort, .int f_numbers_r3_size, .ref a26])), (a26, gk_J G 80 f_numbers_r3_values)] [(a0, .inr (4, [.ref a1, .ref a7, .int f_isKept, .ref a13, .ref a15, .ref a18])), (a18, gk_R G 4 (gk_four a19 a21 a23 a25)), (a19, .inr (1, [.int f_numbers_r0_sort, .int f_numbers_r0_size, .ref a20])), (a20, gk_J G 80 f_numbers_r0_values), (a21, .inr (1, [.int f_numbers_r1_sort, .int f_numbers_r1_size, .ref a22])), (a22, gk_J G 80 f_numbers_r1_values), (a23, .inr (1, [.int f_numbers_r2_sort, .int f_numbers_r2_size, .ref a24])), (a24, gk_J G 80 f_numbers_r2_values), (a25, .inr (1, [.int f_numbers_r3_sort, .int f_numbers_r3_size, .ref a26])), (a26, gk_J G 80 f_numbers_r3_values)] [] C ⟨hP, hD, hS⟩ (c_X2_hasPlace l G a21 a22 f_numbers_r1_sort f_numbers_r1_size x2 hq) gX5_get_X2_hasPlace dX5_get_26 hl.1 [4] [0, 1, 2, 3, 5, 6, 7, 8, 9] [0, 1, 2, 3, 9, 4, 5, 6, 7, 8] rfl rfl ⟨rfl, rfl⟩ ⟨Nat.le_of_ble_eq_true rfl, Nat.le_of_ble_eq_true rfl⟩ ⟨rfl, by decide +kernel, by decide +kernel, by decide +kernel⟩ rfl (fun h => by cases h) (Nat.le_of_ble_eq_true rfl) rfl rfl rfl rfl (by decide) rfl rfl (fun H locs h => ?_)
        obtain ⟨hP, hD, hS⟩ := h
        refine lv_if_ne (tgt := 36) hx hb dX5_get_29 (by decide) (fun c27 => ?_) (fun c27 => ?_)
        · have hm := gk_if c27 hm
          refine lv_aload_n hx hb dX5_get_36 rfl (lv_at hl 0 rfl) ?_
          refine va_get (D := G.1) (cl := vwCl) (own := RX5) (ref := "ExchangeFamilies") (ci := 4) (v := .ref a18) (C := RX5) (T := TX5) (N := 6) hx hb hts k_X5_get_1 hown hK hP 0 rfl rfl 5 (by decide) (hts _ k_X5_get_2) (fun _ h9 => h9) rfl dX5_get_37 ?_
          refine lv_iload_n hx hb dX5_get_40 rfl (lv_at hl 1 rfl) ?_
          refine gk_aald (k := 1) (v := a21) C hP 1 rfl c23 (by decide) (by decide) rfl dX5_get_41 ?_
          refine va_get (D := G.1) (cl := vwCl) (own := RX5) (ref := "ExchangeFamilies$Numbers") (ci := 1) (v := .ref a22) (C := RX2) (T := TX2) (N := 3) hx hb hts k_X5_get_3 hown hK hP 4 rfl rfl 2 (by decide) (hts _ k_X5_get_4) (fun _ h9 => h9) rfl dX5_get_42 ?_
          refine lv_iload_n hx hb dX5_get_45 rfl (lv_at hl 2 rfl) ?_
          obtain ⟨hi, hm⟩ := gk_ix_some hm
          refine va_lald hx hb hK hP 5 1 rfl rfl hi dX5_get_46 ?_
          rw [kr _ (Option.some.inj hm).symm]
          exact gk_lret C ⟨hP, hD, hS⟩ dX5_get_47
        · have hm := gk_it c27 hm
          refine lv_ldc2 (own := RX5) (v := -9223372036854775808) hx hb hown (hts _ k_X5_get_0) dX5_get_32 ?_
          rw [kr _ (Option.some.inj hm).symm]
          exact gk_lret C ⟨hP, hD, hS⟩ dX5_get_35
    have hm := gk_if c23 hm
    by_cases c28 : x1 = 2
    · have hm := gk_it c28 hm
      refine gk_aald (k := 2) (v := a23) C hP 1 rfl c28 (by decide) (by decide) rfl dX5_get_12 ?_
      obtain ⟨r29, hq, hm⟩ := gk_bd1_some hm
      refine gk_callV (n := 0) (bytes := cX2_isMissing) (maxL := 1) (ret := (some .boolean)) (Cn := RX2) (T := TX2) (N := 3) [(a0, .inr (4, [.ref a1, .ref a7, .int f_isKept, .ref a13, .ref a15, .ref a18])), (a18, gk_R G 4 (gk_four a19 a21 a23 a25)), (a19, .inr (1, [.int f_numbers_r0_sort, .int f_numbers_r0_size, .ref a20])), (a20, gk_J G 80 f_numbers_r0_values), (a21, .inr (1, [.int f_numbers_r1_sort, .int f_numbers_r1_size, .ref a22])), (a22, gk_J G 80 f_numbers_r1_values), (a24, gk_J G 80 f_numbers_r2_values), (a25, .inr (1, [.int f_numbers_r3_sort, .int f_numbers_r3_size, .ref a26])), (a26, gk_J G 80 f_numbers_r3_values)] [(a0, .inr (4, [.ref a1, .ref a7, .int f_isKept, .ref a13, .ref a15, .ref a18])), (a18, gk_R G 4 (gk_four a19 a21 a23 a25)), (a19, .inr (1, [.int f_numbers_r0_sort, .int f_numbers_r0_size, .ref a20])), (a20, gk_J G 80 f_numbers_r0_values), (a21, .inr (1, [.int f_numbers_r1_sort, .int f_numbers_r1_size, .ref a22])), (a22, gk_J G 80 f_numbers_r1_values), (a23, .inr (1, [.int f_numbers_r2_sort, .int f_numbers_r2_size, .ref a24])), (a24, gk_J G 80 f_numbers_r2_values), (a25, .inr (1, [.int f_numbers_r3_sort, .int f_numbers_r3_size, .ref a26])), (a26, gk_J G 80 f_numbers_r3_values)] [] C ⟨hP, hD, hS⟩ (c_X2_isMissing l G a23 a24 f_numbers_r2_sort f_numbers_r2_size hq) gX5_get_X2_isMissing dX5_get_13 hl.1 [6] [0, 1, 2, 3, 4, 5, 7, 8, 9] [0, 1, 2, 3, 4, 5, 9, 6, 7, 8] rfl rfl ⟨rfl, rfl⟩ ⟨Nat.le_of_ble_eq_true rfl, Nat.le_of_ble_eq_true rfl⟩ ⟨rfl, by decide +kernel, by decide +kernel, by decide +kernel⟩ rfl (fun h => by cases h) (Nat.le_of_ble_eq_true rfl) rfl rfl rfl rfl (by decide) rfl rfl (fun H locs h => ?_)
      obtain ⟨hP, hD, hS⟩ := h
      refine lv_if_ne (tgt := 32) hx hb dX5_get_16 (by decide) (fun c30 => ?_) (fun c30 => ?_)
      · have hm := gk_if c30 hm
        refine lv_ldc2 (own := RX5) (v := -9223372036854775808) hx hb hown (hts _ k_X5_get_0) dX5_get_32 ?_
        rw [kr _ (Option.some.inj hm).symm]
        exact gk_lret C ⟨hP, hD, hS⟩ dX5_get_35
      · have hm := gk_it c30 hm
        refine lv_aload_n hx hb dX5_get_19 rfl (lv_at hl 0 rfl) ?_
        refine va_get (D := G.1) (cl := vwCl) (own := RX5) (ref := "ExchangeFamilies") (ci := 4) (v := .ref a18) (C := RX5) (T := TX5) (N := 6) hx hb hts k_X5_get_1 hown hK hP 0 rfl rfl 5 (by decide) (hts _ k_X5_get_2) (fun _ h9 => h9) rfl dX5_get_20 ?_
        refine lv_iload_n hx hb dX5_get_23 rfl (lv_at hl 1 rfl) ?_
        refine gk_aald (k := 2) (v := a23) C hP 1 rfl c28 (by decide) (by decide) rfl dX5_get_24 ?_
        refine lv_iload_n hx hb dX5_get_25 rfl (lv_at hl 2 rfl) ?_
        obtain ⟨r31, hq, hm⟩ := gk_bd1_some hm
        refine gk_callV (n := 1) (bytes := cX2_hasPlace) (maxL := 2) (ret := (some .boolean)) (Cn := RX2) (T := TX2) (N := 3) [(a0, .inr (4, [.ref a1, .ref a7, .int f_isKept, .ref a13, .ref a15, .ref a18])), (a18, gk_R G 4 (gk_four a19 a21 a23 a25)), (a19, .inr (1, [.int f_numbers_r0_sort, .int f_numbers_r0_size, .ref a20])), (a20, gk_J G 80 f_numbers_r0_values), (a21, .inr (1, [.int f_numbers_r1_sort, .int f_numbers_r1_size, .ref a22])), (a22, gk_J G 80 f_numbers_r1_values), (a24, gk_J G 80 f_numbers_r2_values), (a25, .inr (1, [.int f_numbers_r3_sort, .int f_numbers_r3_size, .ref a26])), (a26, gk_J G 80 f_numbers_r3_values)] [(a0, .inr (4, [.ref a1, .ref a7, .int f_isKept, .ref a13, .ref a15, .ref a18])), (a18, gk_R G 4 (gk_four a19 a21 a23 a25)), (a19, .inr (1, [.int f_numbers_r0_sort, .int f_numbers_r0_size, .ref a20])), (a20, gk_J G 80 f_numbers_r0_values), (a21, .inr (1, [.int f_numbers_r1_sort, .int f_numbers_r1_size, .ref a22])), (a22, gk_J G 80 f_numbers_r1_values), (a23, .inr (1, [.int f_numbers_r2_sort, .int f_numbers_r2_size, .ref a24])), (a24, gk_J G 80 f_numbers_r2_values), (a25, .inr (1, [.int f_numbers_r3_sort, .int f_numbers_r3_size, .ref a26])), (a26, gk_J G 80 f_numbers_r3_values)] [] C ⟨hP, hD, hS⟩ (c_X2_hasPlace l G a23 a24 f_numbers_r2_sort f_numbers_r2_size x2 hq) gX5_get_X2_hasPlace dX5_get_26 hl.1 [6] [0, 1, 2, 3, 4, 5, 7, 8, 9] [0, 1, 2, 3, 4, 5, 9, 6, 7, 8] rfl rfl ⟨rfl, rfl⟩ ⟨Nat.le_of_ble_eq_true rfl, Nat.le_of_ble_eq_true rfl⟩ ⟨rfl, by decide +kernel, by decide +kernel, by decide +kernel⟩ rfl (fun h => by cases h) (Nat.le_of_ble_eq_true rfl) rfl rfl rfl rfl (by decide) rfl rfl (fun H locs h => ?_)
        obtain ⟨hP, hD, hS⟩ := h
        refine lv_if_ne (tgt := 36) hx hb dX5_get_29 (by decide) (fun c32 => ?_) (fun c32 => ?_)
        · have hm := gk_if c32 hm
          refine lv_aload_n hx hb dX5_get_36 rfl (lv_at hl 0 rfl) ?_
          refine va_get (D := G.1) (cl := vwCl) (own := RX5) (ref := "ExchangeFamilies") (ci := 4) (v := .ref a18) (C := RX5) (T := TX5) (N := 6) hx hb hts k_X5_get_1 hown hK hP 0 rfl rfl 5 (by decide) (hts _ k_X5_get_2) (fun _ h9 => h9) rfl dX5_get_37 ?_
          refine lv_iload_n hx hb dX5_get_40 rfl (lv_at hl 1 rfl) ?_
          refine gk_aald (k := 2) (v := a23) C hP 1 rfl c28 (by decide) (by decide) rfl dX5_get_41 ?_
          refine va_get (D := G.1) (cl := vwCl) (own := RX5) (ref := "ExchangeFamilies$Numbers") (ci := 1) (v := .ref a24) (C := RX2) (T := TX2) (N := 3) hx hb hts k_X5_get_3 hown hK hP 6 rfl rfl 2 (by decide) (hts _ k_X5_get_4) (fun _ h9 => h9) rfl dX5_get_42 ?_
          refine lv_iload_n hx hb dX5_get_45 rfl (lv_at hl 2 rfl) ?_
          obtain ⟨hi, hm⟩ := gk_ix_some hm
          refine va_lald hx hb hK hP 7 1 rfl rfl hi dX5_get_46 ?_
          rw [kr _ (Option.some.inj hm).symm]
          exact gk_lret C ⟨hP, hD, hS⟩ dX5_get_47
        · have hm := gk_it c32 hm
          refine lv_ldc2 (own := RX5) (v := -9223372036854775808) hx hb hown (hts _ k_X5_get_0) dX5_get_32 ?_
          rw [kr _ (Option.some.inj hm).symm]
          exact gk_lret C ⟨hP, hD, hS⟩ dX5_get_35
    have hm := gk_if c28 hm
    by_cases c33 : x1 = 3
    · have hm := gk_it c33 hm
      refine gk_aald (k := 3) (v := a25) C hP 1 rfl c33 (by decide) (by decide) rfl dX5_get_12 ?_
      obtain ⟨r34, hq, hm⟩ := gk_bd1_some hm
      refine gk_callV (n := 0) (bytes := cX2_isMissing) (maxL := 1) (ret := (some .boolean)) (Cn := RX2) (T := TX2) (N := 3) [(a0, .inr (4, [.ref a1, .ref a7, .int f_isKept, .ref a13, .ref a15, .ref a18])), (a18, gk_R G 4 (gk_four a19 a21 a23 a25)), (a19, .inr (1, [.int f_numbers_r0_sort, .int f_numbers_r0_size, .ref a20])), (a20, gk_J G 80 f_numbers_r0_values), (a21, .inr (1, [.int f_numbers_r1_sort, .int f_numbers_r1_size, .ref a22])), (a22, gk_J G 80 f_numbers_r1_values), (a23, .inr (1, [.int f_numbers_r2_sort, .int f_numbers_r2_size, .ref a24])), (a24, gk_J G 80 f_numbers_r2_values), (a26, gk_J G 80 f_numbers_r3_values)] [(a0, .inr (4, [.ref a1, .ref a7, .int f_isKept, .ref a13, .ref a15, .ref a18])), (a18, gk_R G 4 (gk_four a19 a21 a23 a25)), (a19, .inr (1, [.int f_numbers_r0_sort, .int f_numbers_r0_size, .ref a20])), (a20, gk_J G 80 f_numbers_r0_values), (a21, .inr (1, [.int f_numbers_r1_sort, .int f_numbers_r1_size, .ref a22])), (a22, gk_J G 80 f_numbers_r1_values), (a23, .inr (1, [.int f_numbers_r2_sort, .int f_numbers_r2_size, .ref a24])), (a24, gk_J G 80 f_numbers_r2_values), (a25, .inr (1, [.int f_numbers_r3_sort, .int f_numbers_r3_size, .ref a26])), (a26, gk_J G 80 f_numbers_r3_values)] [] C ⟨hP, hD, hS⟩ (c_X2_isMissing l G a25 a26 f_numbers_r3_sort f_numbers_r3_size hq) gX5_get_X2_isMissing dX5_get_13 hl.1 [8] [0, 1, 2, 3, 4, 5, 6, 7, 9] [0, 1, 2, 3, 4, 5, 6, 7, 9, 8] rfl rfl ⟨rfl, rfl⟩ ⟨Nat.le_of_ble_eq_true rfl, Nat.le_of_ble_eq_true rfl⟩ ⟨rfl, by decide +kernel, by decide +kernel, by decide +kernel⟩ rfl (fun h => by cases h) (Nat.le_of_ble_eq_true rfl) rfl rfl rfl rfl (by decide) rfl rfl (fun H locs h => ?_)
      obtain ⟨hP, hD, hS⟩ := h
      refine lv_if_ne (tgt := 32) hx hb dX5_get_16 (by decide) (fun c35 => ?_) (fun c35 => ?_)
      · have hm := gk_if c35 hm
        refine lv_ldc2 (own := RX5) (v := -9223372036854775808) hx hb hown (hts _ k_X5_get_0) dX5_get_32 ?_
        rw [kr _ (Option.some.inj hm).symm]
        exact gk_lret C ⟨hP, hD, hS⟩ dX5_get_35
      · have hm := gk_it c35 hm
        refine lv_aload_n hx hb dX5_get_19 rfl (lv_at hl 0 rfl) ?_
        refine va_get (D := G.1) (cl := vwCl) (own := RX5) (ref := "ExchangeFamilies") (ci := 4) (v := .ref a18) (C := RX5) (T := TX5) (N := 6) hx hb hts k_X5_get_1 hown hK hP 0 rfl rfl 5 (by decide) (hts _ k_X5_get_2) (fun _ h9 => h9) rfl dX5_get_20 ?_
        refine lv_iload_n hx hb dX5_get_23 rfl (lv_at hl 1 rfl) ?_
        refine gk_aald (k := 3) (v := a25) C hP 1 rfl c33 (by decide) (by decide) rfl dX5_get_24 ?_
        refine lv_iload_n hx hb dX5_get_25 rfl (lv_at hl 2 rfl) ?_
        obtain ⟨r36, hq, hm⟩ := gk_bd1_some hm
        refine gk_callV (n := 1) (bytes := cX2_hasPlace) (maxL := 2) (ret := (some .boolean)) (Cn := RX2) (T := TX2) (N := 3) [(a0, .inr (4, [.ref a1, .ref a7, .int f_isKept, .ref a13, .ref a15, .ref a18])), (a18, gk_R G 4 (gk_four a19 a21 a23 a25)), (a19, .inr (1, [.int f_numbers_r0_sort, .int f_numbers_r0_size, .ref a20])), (a20, gk_J G 80 f_numbers_r0_values), (a21, .inr (1, [.int f_numbers_r1_sort, .int f_numbers_r1_size, .ref a22])), (a22, gk_J G 80 f_numbers_r1_values), (a23, .inr (1, [.int f_numbers_r2_sort, .int f_numbers_r2_size, .ref a24])), (a24, gk_J G 80 f_numbers_r2_values), (a26, gk_J G 80 f_numbers_r3_values)] [(a0, .inr (4, [.ref a1, .ref a7, .int f_isKept, .ref a13, .ref a15, .ref a18])), (a18, gk_R G 4 (gk_four a19 a21 a23 a25)), (a19, .inr (1, [.int f_numbers_r0_sort, .int f_numbers_r0_size, .ref a20])), (a20, gk_J G 80 f_numbers_r0_values), (a21, .inr (1, [.int f_numbers_r1_sort, .int f_numbers_r1_size, .ref a22])), (a22, gk_J G 80 f_numbers_r1_values), (a23, .inr (1, [.int f_numbers_r2_sort, .int f_numbers_r2_size, .ref a24])), (a24, gk_J G 80 f_numbers_r2_values), (a25, .inr (1, [.int f_numbers_r3_sort, .int f_numbers_r3_size, .ref a26])), (a26, gk_J G 80 f_numbers_r3_values)] [] C ⟨hP, hD, hS⟩ (c_X2_hasPlace l G a25 a26 f_numbers_r3_sort f_numbers_r3_size x2 hq) gX5_get_X2_hasPlace dX5_get_26 hl.1 [8] [0, 1, 2, 3, 4, 5, 6, 7, 9] [0, 1, 2, 3, 4, 5, 6, 7, 9, 8] rfl rfl ⟨rfl, rfl⟩ ⟨Nat.le_of_ble_eq_true rfl, Nat.le_of_ble_eq_true rfl⟩ ⟨rfl, by decide +kernel, by decide +kernel, by decide +kernel⟩ rfl (fun h => by cases h) (Nat.le_of_ble_eq_true rfl) rfl rfl rfl rfl (by decide) rfl rfl (fun H locs h => ?_)
        obtain ⟨hP, hD, hS⟩ := h
        refine lv_if_ne (tgt := 36) hx hb dX5_get_29 (by decide) (fun c37 => ?_) (fun c37 => ?_)
        · have hm := gk_if c37 hm
          refine lv_aload_n hx hb dX5_get_36 rfl (lv_at hl 0 rfl) ?_
          refine va_get (D := G.1) (cl := vwCl) (own := RX5) (ref := "ExchangeFamilies") (ci := 4) (v := .ref a18) (C := RX5) (T := TX5) (N := 6) hx hb hts k_X5_get_1 hown hK hP 0 rfl rfl 5 (by decide) (hts _ k_X5_get_2) (fun _ h9 => h9) rfl dX5_get_37 ?_
          refine lv_iload_n hx hb dX5_get_40 rfl (lv_at hl 1 rfl) ?_
          refine gk_aald (k := 3) (v := a25) C hP 1 rfl c33 (by decide) (by decide) rfl dX5_get_41 ?_
          refine va_get (D := G.1) (cl := vwCl) (own := RX5) (ref := "ExchangeFamilies$Numbers") (ci := 1) (v := .ref a26) (C := RX2) (T := TX2) (N := 3) hx hb hts k_X5_get_3 hown hK hP 8 rfl rfl 2 (by decide) (hts _ k_X5_get_4) (fun _ h9 => h9) rfl dX5_get_42 ?_
          refine lv_iload_n hx hb dX5_get_45 rfl (lv_at hl 2 rfl) ?_
          obtain ⟨hi, hm⟩ := gk_ix_some hm
          refine va_lald hx hb hK hP 9 1 rfl rfl hi dX5_get_46 ?_
          rw [kr _ (Option.some.inj hm).symm]
          exact gk_lret C ⟨hP, hD, hS⟩ dX5_get_47
        · have hm := gk_it c37 hm
          refine lv_ldc2 (own := RX5) (v := -9223372036854775808) hx hb hown (hts _ k_X5_get_0) dX5_get_32 ?_
          rw [kr _ (Option.some.inj hm).symm]
          exact gk_lret C ⟨hP, hD, hS⟩ dX5_get_35
    have hm := gk_if c33 hm
    cases hm
def m_X5_get (f_numbers_r0_sort : Int32) (f_numbers_r0_size : Int32) (f_numbers_r0_values : (Nat → Int64)) (f_numbers_r1_sort : Int32) (f_numbers_r1_size : Int32) (f_numbers_r1_values : (Nat → Int64)) (f_numbers_r2_sort : Int32) (f_numbers_r2_size : Int32) (f_numbers_r2_values : (Nat → Int64)) (f_numbers_r3_sort : Int32) (f_numbers_r3_size : Int32) (f_numbers_r3_values : (Nat → Int64)) (x1 : Int32) (x2 : Int32) : Option (Int64) := m_X5_get_0 f_numbers_r0_sort f_numbers_r0_size f_numbers_r0_values f_numbers_r1_sort f_numbers_r1_size f_numbers_r1_values f_numbers_r2_sort f_numbers_r2_size f_numbers_r2_values f_numbers_r3_sort f_numbers_r3_size f_numbers_r3_values x1 x2
theorem c_X5_get (l : Launch) (G : gk_G) (a0 a1 a7 a13 a15 a18 a19 a20 a21 a22 a23 a24 a25 a26 : Nat) (f_isKept : Int32) (f_numbers_r0_sort : Int32) (f_numbers_r0_size : Int32) (f_numbers_r0_values : (Nat → Int64)) (f_numbers_r1_sort : Int32) (f_numbers_r1_size : Int32) (f_numbers_r1_values : (Nat → Int64)) (f_numbers_r2_sort : Int32) (f_numbers_r2_size : Int32) (f_numbers_r2_values : (Nat → Int64)) (f_numbers_r3_sort : Int32) (f_numbers_r3_size : Int32) (f_numbers_r3_values : (Nat → Int64)) (x1 : Int32) (x2 : Int32) {rv : Int64} (hm : m_X5_get f_numbers_r0_sort f_numbers_r0_size f_numbers_r0_values f_numbers_r1_sort f_numbers_r1_size f_numbers_r1_values f_numbers_r2_sort f_numbers_r2_size f_numbers_r2_values f_numbers_r3_sort f_numbers_r3_size f_numbers_r3_values x1 x2 = some rv) : gk_M l yX5_get wsX5_get rm_X5_get false G [.ref a0, .int x1, .int x2] [(a0, .inr (4, [.ref a1, .ref a7, .int f_isKept, .ref a13, .ref a15, .ref a18])), (a18, gk_R G 4 (gk_four a19 a21 a23 a25)), (a19, .inr (1, [.int f_numbers_r0_sort, .int f_numbers_r0_size, .ref a20])), (a20, gk_J G 80 f_numbers_r0_values), (a21, .inr (1, [.int f_numbers_r1_sort, .int f_numbers_r1_size, .ref a22])), (a22, gk_J G 80 f_numbers_r1_values), (a23, .inr (1, [.int f_numbers_r2_sort, .int f_numbers_r2_size, .ref a24])), (a24, gk_J G 80 f_numbers_r2_values), (a25, .inr (1, [.int f_numbers_r3_sort, .int f_numbers_r3_size, .ref a26])), (a26, gk_J G 80 f_numbers_r3_values)] (some (.long rv)) [(a0, .inr (4, [.ref a1, .ref a7, .int f_isKept, .ref a13, .ref a15, .ref a18])), (a18, gk_R G 4 (gk_four a19 a21 a23 a25)), (a19, .inr (1, [.int f_numbers_r0_sort, .int f_numbers_r0_size, .ref a20])), (a20, gk_J G 80 f_numbers_r0_values), (a21, .inr (1, [.int f_numbers_r1_sort, .int f_numbers_r1_size, .ref a22])), (a22, gk_J G 80 f_numbers_r1_values), (a23, .inr (1, [.int f_numbers_r2_sort, .int f_numbers_r2_size, .ref a24])), (a24, gk_J G 80 f_numbers_r2_values), (a25, .inr (1, [.int f_numbers_r3_sort, .int f_numbers_r3_size, .ref a26])), (a26, gk_J G 80 f_numbers_r3_values)] :=
  gk_of (by decide) rfl (Nat.le_of_ble_eq_true rfl) (fun p e s m below meth c A ls C h hl => w_X5_get_0 C hm (fun v0 ez => by cases ez; rfl) h (show lv_has ls 3 [(0, .ref a0), (1, .int x1), (2, .int x2)] from hl))

/-! ===== ExchangeFamilies.copy(IIIII)I ===== -/
abbrev rm_X5_copy : Room := { frames := 3, cells := 0, slots := 0, locals := 150 }
theorem k_X5_copy_0 : ∀ w ∈ u_ws RX5 TX5 6, w ∈ wsX5_copy := by decide +kernel
theorem k_X5_copy_1 : Cond.fieldLink RX5 41 "ExchangeFamilies" "numbers" "[LExchangeFamilies$Numbers;" ∈ wsX5_copy := by decide +kernel
theorem k_X5_copy_2 : ∀ w ∈ u_ws RX2 TX2 3, w ∈ wsX5_copy := by decide +kernel
theorem k_X5_copy_3 : Cond.fieldLink RX5 239 "ExchangeFamilies$Numbers" "sort" "I" ∈ wsX5_copy := by decide +kernel
theorem k_X5_copy_4 : Cond.fieldLink RX5 236 "ExchangeFamilies$Numbers" "values" "[J" ∈ wsX5_copy := by decide +kernel
theorem k_X5_copy_5 : Cond.methodLink RX5 245 arraycopyName ∈ wsX5_copy := by decide +kernel
theorem k_X5_copy_6 : Cond.native arraycopyName ∈ wsX5_copy := by decide +kernel
theorem k_X5_copy_7 : Cond.static arraycopyName ∈ wsX5_copy := by decide +kernel
theorem k_X5_copy_8 : Cond.initialized "java/lang/System" ∈ wsX5_copy := by decide +kernel
def m_X5_copy_0 (f_numbers_r0_sort : Int32) (f_numbers_r0_size : Int32) (f_numbers_r0_values : (Nat → Int64)) (f_numbers_r1_sort : Int32) (f_numbers_r1_size : Int32) (f_numbers_r1_values : (Nat → Int64)) (f_numbers_r2_sort : Int32) (f_numbers_r2_size : Int32) (f_numbers_r2_values : (Nat → Int64)) (f_numbers_r3_sort : Int32) (f_numbers_r3_size : Int32) (f_numbers_r3_values : (Nat → Int64)) (x1 : Int32) (x2 : Int32) (x3 : Int32) (x4 : Int32) (x5 : Int32) : Option (Int32 × (Nat → Int64) × (Nat → Int64) × (Nat → Int64) × (Nat → Int64)) := gk_bd1 (m_X5_noRow x1) (fun r103 => (if r103 = (0 : Int32) then gk_bd1 (m_X5_noRow x3) (fun r105 => (if r105 = (0 : Int32) then (if x1 = 0 then (if x3 = 0 then gk_bd1 (m_X2_isMissing f_numbers_r0_sort) (fun r109 => (if r109 = (0 : Int32) then gk_bd1 (m_X2_isMissing f_numbers_r0_sort) (fun r111 => (if r111 = (0 : Int32) then (if f_numbers_r0_sort = f_numbers_r0_sort then gk_bd1 (m_X2_hasStretch f_numbers_r0_size x2 x5) (fun r114 => (if r114 = (0 : Int32) then some ((-12 : Int32), f_numbers_r0_values, f_numbers_r1_values, f_numbers_r2_values, f_numbers_r3_values) else gk_bd1 (m_X2_hasStretch f_numbers_r0_size x4 x5) (fun r116 => (if r116 = (0 : Int32) then some ((-12 : Int32), f_numbers_r0_values, f_numbers_r1_values, f_numbers_r2_values, f_numbers_r3_values) else gk_cp x2 x4 x5 80 80 (some (x5, va_cpy f_numbers_r0_values f_numbers_r0_values x2.toNatClampNeg x4.toNatClampNeg x5.toNatClampNeg, f_numbers_r1_values, f_numbers_r2_values, f_numbers_r3_values)))))) else some ((-13 : Int32), f_numbers_r0_values, f_numbers_r1_values, f_numbers_r2_values, f_numbers_r3_values)) else some ((-11 : Int32), f_numbers_r0_values, f_numbers_r1_values, f_numbers_r2_values, f_numbers_r3_values))) else some ((-11 : Int32), f_numbers_r0_values, f_numbers_r1_values, f_numbers_r2_values, f_numbers_r3_values))) else (if x3 = 1 then gk_bd1 (m_X2_isMissing f_numbers_r0_sort) (fun r119 => (if r119 = (0 : Int32) then gk_bd1 (m_X2_isMissing f_numbers_r1_sort) (fun r121 => (if r121 = (0 : Int32) then (if f_numbers_r0_sort = f_numbers_r1_sort then gk_bd1 (m_X2_hasStretch f_numbers_r0_size x2 x5) (fun r124 => (if r124 = (0 : Int32) then some ((-12 : Int32), f_numbers_r0_values, f_numbers_r1_values, f_numbers_r2_values, f_numbers_r3_values) else gk_bd1 (m_X2_hasStretch f_numbers_r1_size x4 x5) (fun r126 => (if r126 = (0 : Int32) then some ((-12 : Int32), f_numbers_r0_values, f_numbers_r1_values, f_numbers_r2_values, f_numbers_r3_values) else gk_cp x2 x4 x5 80 80 (some (x5, f_numbers_r0_values, va_cpy f_numbers_r0_values f_numbers_r1_values x2.toNatClampNeg x4.toNatClampNeg x5.toNatClampNeg, f_numbers_r2_values, f_numbers_r3_values)))))) else some ((-13 : Int32), f_numbers_r0_values, f_numbers_r1_values, f_numbers_r2_values, f_numbers_r3_values)) else some ((-11 : Int32), f_numbers_r0_values, f_numbers_r1_values, f_numbers_r2_values, f_numbers_r3_values))) else some ((-11 : Int32), f_numbers_r0_values, f_numbers_r1_values, f_numbers_r2_values, f_numbers_r3_values))) else (if x3 = 2 then gk_bd1 (m_X2_isMissing f_numbers_r0_sort) (fun r129 => (if r129 = (0 : Int32) then gk_bd1 (m_X2_isMissing f_numbers_r2_sort) (fun r131 => (if r131 = (0 : Int32) then (if f_numbers_r0_sort = f_numbers_r2_sort then gk_bd1 (m_X2_hasStretch f_numbers_r0_size x2 x5) (fun r134 => (if r134 = (0 : Int32) then some ((-12 : Int32), f_numbers_r0_values, f_numbers_r1_values, f_numbers_r2_values, f_numbers_r3_values) else gk_bd1 (m_X2_hasStretch f_numbers_r2_size x4 x5) (fun r136 => (if r136 = (0 : Int32) then some ((-12 : Int32), f_numbers_r0_values, f_numbers_r1_values, f_numbers_r2_values, f_numbers_r3_values) else gk_cp x2 x4 x5 80 80 (some (x5, f_numbers_r0_values, f_numbers_r1_values, va_cpy f_numbers_r0_values f_numbers_r2_values x2.toNatClampNeg x4.toNatClampNeg x5.toNatClampNeg, f_numbers_r3_values)))))) else some ((-13 : Int32), f_numbers_r0_values, f_numbers_r1_values, f_numbers_r2_values, f_numbers_r3_values)) else some ((-11 : Int32), f_numbers_r0_values, f_numbers_r1_values, f_numbers_r2_values, f_numbers_r3_values))) else some ((-11 : Int32), f_numbers_r0_values, f_numbers_r1_values, f_numbers_r2_values, f_numbers_r3_values))) else (if x3 = 3 then gk_bd1 (m_X2_isMissing f_numbers_r0_sort) (fun r139 => (if r139 = (0 : Int32) then gk_bd1 (m_X2_isMissing f_numbers_r3_sort) (fun r141 => (if r141 = (0 : Int32) then (if f_numbers_r0_sort = f_numbers_r3_sort then gk_bd1 (m_X2_hasStretch f_numbers_r0_size x2 x5) (fun r144 => (if r144 = (0 : Int32) then some ((-12 : Int32), f_numbers_r0_values, f_numbers_r1_values, f_numbers_r2_values, f_numbers_r3_values) else gk_bd1 (m_X2_hasStretch f_numbers_r3_size x4 x5) (fun r146 => (if r146 = (0 : Int32) then some ((-12 : Int32), f_numbers_r0_values, f_numbers_r1_values, f_numbers_r2_values, f_numbers_r3_values) else gk_cp x2 x4 x5 80 80 (some (x5, f_numbers_r0_values, f_numbers_r1_values, f_numbers_r2_values, va_cpy f_numbers_r0_values f_numbers_r3_values x2.toNatClampNeg x4.toNatClampNeg x5.toNatClampNeg)))))) else some ((-13 : Int32), f_numbers_r0_values, f_numbers_r1_values, f_numbers_r2_values, f_numbers_r3_values)) else some ((-11 : Int32), f_numbers_r0_values, f_numbers_r1_values, f_numbers_r2_values, f_numbers_r3_values))) else some ((-11 : Int32), f_numbers_r0_values, f_numbers_r1_values, f_numbers_r2_values, f_numbers_r3_values))) else none)))) else (if x1 = 1 then (if x3 = 0 then gk_bd1 (m_X2_isMissing f_numbers_r1_sort) (fun r150 => (if r150 = (0 : Int32) then gk_bd1 (m_X2_isMissing f_numbers_r0_sort) (fun r152 => (if r152 = (0 : Int32) then (if f_numbers_r1_sort = f_numbers_r0_sort then gk_bd1 (m_X2_hasStretch f_numbers_r1_size x2 x5) (fun r155 => (if r155 = (0 : Int32) then some ((-12 : Int32), f_numbers_r0_values, f_numbers_r1_values, f_numbers_r2_values, f_numbers_r3_values) else gk_bd1 (m_X2_hasStretch f_numbers_r0_size x4 x5) (fun r157 => (if r157 = (0 : Int32) then some ((-12 : Int32), f_numbers_r0_values, f_numbers_r1_values, f_numbers_r2_values, f_numbers_r3_values) else gk_cp x2 x4 x5 80 80 (some (x5, va_cpy f_numbers_r1_values f_numbers_r0_values x2.toNatClampNeg x4.toNatClampNeg x5.toNatClampNeg, f_numbers_r1_values, f_numbers_r2_values, f_numbers_r3_values)))))) else some ((-13 : Int32), f_numbers_r0_values, f_numbers_r1_values, f_numbers_r2_values, f_numbers_r3_values)) else some ((-11 : Int32), f_numbers_r0_values, f_numbers_r1_values, f_numbers_r2_values, f_numbers_r3_values))) else some ((-11 : Int32), f_numbers_r0_values, f_numbers_r1_values, f_numbers_r2_values, f_numbers_r3_values))) else (if x3 = 1 then gk_bd1 (m_X2_isMissing f_numbers_r1_sort) (fun r160 => (if r160 = (0 : Int32) then gk_bd1 (m_X2_isMissing f_numbers_r1_sort) (fun r162 => (if r162 = (0 : Int32) then (if f_numbers_r1_sort = f_numbers_r1_sort then gk_bd1 (m_X2_hasStretch f_numbers_r1_size x2 x5) (fun r165 => (if r165 = (0 : Int32) then some ((-12 : Int32), f_numbers_r0_values, f_numbers_r1_values, f_numbers_r2_values, f_numbers_r3_values) else gk_bd1 (m_X2_hasStretch f_numbers_r1_size x4 x5) (fun r167 => (if r167 = (0 : Int32) then some ((-12 : Int32), f_numbers_r0_values, f_numbers_r1_values, f_numbers_r2_values, f_numbers_r3_values) else gk_cp x2 x4 x5 80 80 (some (x5, f_numbers_r0_values, va_cpy f_numbers_r1_values f_numbers_r1_values x2.toNatClampNeg x4.toNatClampNeg x5.toNatClampNeg, f_numbers_r2_values, f_numbers_r3_values)))))) else some ((-13 : Int32), f_numbers_r0_values, f_numbers_r1_values, f_numbers_r2_values, f_numbers_r3_values)) else some ((-11 : Int32), f_numbers_r0_values, f_numbers_r1_values, f_numbers_r2_values, f_numbers_r3_values))) else some ((-11 : Int32), f_numbers_r0_values, f_numbers_r1_values, f_numbers_r2_values, f_numbers_r3_values))) else (if x3 = 2 then gk_bd1 (m_X2_isMissing f_numbers_r1_sort) (fun r170 => (if r170 = (0 : Int32) then gk_bd1 (m_X2_isMissing f_numbers_r2_sort) (fun r172 => (if r172 = (0 : Int32) then (if f_numbers_r1_sort = f_numbers_r2_sort then gk_bd1 (m_X2_hasStretch f_numbers_r1_size x2 x5) (fun r175 => (if r175 = (0 : Int32) then some ((-12 : Int32), f_numbers_r0_values, f_numbers_r1_values, f_numbers_r2_values, f_numbers_r3_values) else gk_bd1 (m_X2_hasStretch f_numbers_r2_size x4 x5) (fun r177 => (if r177 = (0 : Int32) then some ((-12 : Int32), f_numbers_r0_values, f_numbers_r1_values, f_numbers_r2_values, f_numbers_r3_values) else gk_cp x2 x4 x5 80 80 (some (x5, f_numbers_r0_values, f_numbers_r1_values, va_cpy f_numbers_r1_values f_numbers_r2_values x2.toNatClampNeg x4.toNatClampNeg x5.toNatClampNeg, f_numbers_r3_values)))))) else some ((-13 : Int32), f_numbers_r0_values, f_numbers_r1_values, f_numbers_r2_values, f_numbers_r3_values)) else some ((-11 : Int32), f_numbers_r0_values, f_numbers_r1_values, f_numbers_r2_values, f_numbers_r3_values))) else some ((-11 : Int32), f_numbers_r0_values, f_numbers_r1_values, f_numbers_r2_values, f_numbers_r3_values))) else (if x3 = 3 then gk_bd1 (m_X2_isMissing f_numbers_r1_sort) (fun r180 => (if r180 = (0 : Int32) then gk_bd1 (m_X2_isMissing f_numbers_r3_sort) (fun r182 => (if r182 = (0 : Int32) then (if f_numbers_r1_sort = f_numbers_r3_sort then gk_bd1 (m_X2_hasStretch f_numbers_r1_size x2 x5) (fun r185 => (if r185 = (0 : Int32) then some ((-12 : Int32), f_numbers_r0_values, f_numbers_r1_values, f_numbers_r2_values, f_numbers_r3_values) else gk_bd1 (m_X2_hasStretch f_numbers_r3_size x4 x5) (fun r187 => (if r187 = (0 : Int32) then some ((-12 : Int32), f_numbers_r0_values, f_numbers_r1_values, f_numbers_r2_values, f_numbers_r3_values) else gk_cp x2 x4 x5 80 80 (some (x5, f_numbers_r0_values, f_numbers_r1_values, f_numbers_r2_values, va_cpy f_numbers_r1_values f_numbers_r3_values x2.toNatClampNeg x4.toNatClampNeg x5.toNatClampNeg)))))) else some ((-13 : Int32), f_numbers_r0_values, f_numbers_r1_values, f_numbers_r2_values, f_numbers_r3_values)) else some ((-11 : Int32), f_numbers_r0_values, f_numbers_r1_values, f_numbers_r2_values, f_numbers_r3_values))) else some ((-11 : Int32), f_numbers_r0_values, f_numbers_r1_values, f_numbers_r2_values, f_numbers_r3_values))) else none)))) else (if x1 = 2 then (if x3 = 0 then gk_bd1 (m_X2_isMissing f_numbers_r2_sort) (fun r191 => (if r191 = (0 : Int32) then gk_bd1 (m_X2_isMissing f_numbers_r0_sort) (fun r193 => (if r193 = (0 : Int32) then (if f_numbers_r2_sort = f_numbers_r0_sort then gk_bd1 (m_X2_hasStretch f_numbers_r2_size x2 x5) (fun r196 => (if r196 = (0 : Int32) then some ((-12 : Int32), f_numbers_r0_values, f_numbers_r1_values, f_numbers_r2_values, f_numbers_r3_values) else gk_bd1 (m_X2_hasStretch f_numbers_r0_size x4 x5) (fun r198 => (if r198 = (0 : Int32) then some ((-12 : Int32), f_numbers_r0_values, f_numbers_r1_values, f_numbers_r2_values, f_numbers_r3_values) else gk_cp x2 x4 x5 80 80 (some (x5, va_cpy f_numbers_r2_values f_numbers_r0_values x2.toNatClampNeg x4.toNatClampNeg x5.toNatClampNeg, f_numbers_r1_values, f_numbers_r2_values, f_numbers_r3_values)))))) else some ((-13 : Int32), f_numbers_r0_values, f_numbers_r1_values, f_numbers_r2_values, f_numbers_r3_values)) else some ((-11 : Int32), f_numbers_r0_values, f_numbers_r1_values, f_numbers_r2_values, f_numbers_r3_values))) else some ((-11 : Int32), f_numbers_r0_values, f_numbers_r1_values, f_numbers_r2_values, f_numbers_r3_values))) else (if x3 = 1 then gk_bd1 (m_X2_isMissing f_numbers_r2_sort) (fun r201 => (if r201 = (0 : Int32) then gk_bd1 (m_X2_isMissing f_numbers_r1_sort) (fun r203 => (if r203 = (0 : Int32) then (if f_numbers_r2_sort = f_numbers_r1_sort then gk_bd1 (m_X2_hasStretch f_numbers_r2_size x2 x5) (fun r206 => (if r206 = (0 : Int32) then some ((-12 : Int32), f_numbers_r0_values, f_numbers_r1_values, f_numbers_r2_values, f_numbers_r3_values) else gk_bd1 (m_X2_hasStretch f_numbers_r1_size x4 x5) (fun r208 => (if r208 = (0 : Int32) then some ((-12 : Int32), f_numbers_r0_values, f_numbers_r1_values, f_numbers_r2_values, f_numbers_r3_values) else gk_cp x2 x4 x5 80 80 (some (x5, f_numbers_r0_values, va_cpy f_numbers_r2_values f_numbers_r1_values x2.toNatClampNeg x4.toNatClampNeg x5.toNatClampNeg, f_numbers_r2_values, f_numbers_r3_values)))))) else some ((-13 : Int32), f_numbers_r0_values, f_numbers_r1_values, f_numbers_r2_values, f_numbers_r3_values)) else some ((-11 : Int32), f_numbers_r0_values, f_numbers_r1_values, f_numbers_r2_values, f_numbers_r3_values))) else some ((-11 : Int32), f_numbers_r0_values, f_numbers_r1_values, f_numbers_r2_values, f_numbers_r3_values))) else (if x3 = 2 then gk_bd1 (m_X2_isMissing f_numbers_r2_sort) (fun r211 => (if r211 = (0 : Int32) then gk_bd1 (m_X2_isMissing f_numbers_r2_sort) (fun r213 => (if r213 = (0 : Int32) then (if f_numbers_r2_sort = f_numbers_r2_sort then gk_bd1 (m_X2_hasStretch f_numbers_r2_size x2 x5) (fun r216 => (if r216 = (0 : Int32) then some ((-12 : Int32), f_numbers_r0_values, f_numbers_r1_values, f_numbers_r2_values, f_numbers_r3_values) else gk_bd1 (m_X2_hasStretch f_numbers_r2_size x4 x5) (fun r218 => (if r218 = (0 : Int32) then some ((-12 : Int32), f_numbers_r0_values, f_numbers_r1_values, f_numbers_r2_values, f_numbers_r3_values) else gk_cp x2 x4 x5 80 80 (some (x5, f_numbers_r0_values, f_numbers_r1_values, va_cpy f_numbers_r2_values f_numbers_r2_values x2.toNatClampNeg x4.toNatClampNeg x5.toNatClampNeg, f_numbers_r3_values)))))) else some ((-13 : Int32), f_numbers_r0_values, f_numbers_r1_values, f_numbers_r2_values, f_numbers_r3_values)) else some ((-11 : Int32), f_numbers_r0_values, f_numbers_r1_values, f_numbers_r2_values, f_numbers_r3_values))) else some ((-11 : Int32), f_numbers_r0_values, f_numbers_r1_values, f_numbers_r2_values, f_numbers_r3_values))) else (if x3 = 3 then gk_bd1 (m_X2_isMissing f_numbers_r2_sort) (fun r221 => (if r221 = (0 : Int32) then gk_bd1 (m_X2_isMissing f_numbers_r3_sort) (fun r223 => (if r223 = (0 : Int32) then (if f_numbers_r2_sort = f_numbers_r3_sort then gk_bd1 (m_X2_hasStretch f_numbers_r2_size x2 x5) (fun r226 => (if r226 = (0 : Int32) then some ((-12 : Int32), f_numbers_r0_values, f_numbers_r1_values, f_numbers_r2_values, f_numbers_r3_values) else gk_bd1 (m_X2_hasStretch f_numbers_r3_size x4 x5) (fun r228 => (if r228 = (0 : Int32) then some ((-12 : Int32), f_numbers_r0_values, f_numbers_r1_values, f_numbers_r2_values, f_numbers_r3_values) else gk_cp x2 x4 x5 80 80 (some (x5, f_numbers_r0_values, f_numbers_r1_values, f_numbers_r2_values, va_cpy f_numbers_r2_values f_numbers_r3_values x2.toNatClampNeg x4.toNatClampNeg x5.toNatClampNeg)))))) else some ((-13 : Int32), f_numbers_r0_values, f_numbers_r1_values, f_numbers_r2_values, f_numbers_r3_values)) else some ((-11 : Int32), f_numbers_r0_values, f_numbers_r1_values, f_numbers_r2_values, f_numbers_r3_values))) else some ((-11 : Int32), f_numbers_r0_values, f_numbers_r1_values, f_numbers_r2_values, f_numbers_r3_values))) else none)))) else (if x1 = 3 then (if x3 = 0 then gk_bd1 (m_X2_isMissing f_numbers_r3_sort) (fun r232 => (if r232 = (0 : Int32) then gk_bd1 (m_X2_isMissing f_numbers_r0_sort) (fun r234 => (if r234 = (0 : Int32) then (if f_numbers_r3_sort = f_numbers_r0_sort then gk_bd1 (m_X2_hasStretch f_numbers_r3_size x2 x5) (fun r237 => (if r237 = (0 : Int32) then some ((-12 : Int32), f_numbers_r0_values, f_numbers_r1_values, f_numbers_r2_values, f_numbers_r3_values) else gk_bd1 (m_X2_hasStretch f_numbers_r0_size x4 x5) (fun r239 => (if r239 = (0 : Int32) then some ((-12 : Int32), f_numbers_r0_values, f_numbers_r1_values, f_numbers_r2_values, f_numbers_r3_values) else gk_cp x2 x4 x5 80 80 (some (x5, va_cpy f_numbers_r3_values f_numbers_r0_values x2.toNatClampNeg x4.toNatClampNeg x5.toNatClampNeg, f_numbers_r1_values, f_numbers_r2_values, f_numbers_r3_values)))))) else some ((-13 : Int32), f_numbers_r0_values, f_numbers_r1_values, f_numbers_r2_values, f_numbers_r3_values)) else some ((-11 : Int32), f_numbers_r0_values, f_numbers_r1_values, f_numbers_r2_values, f_numbers_r3_values))) else some ((-11 : Int32), f_numbers_r0_values, f_numbers_r1_values, f_numbers_r2_values, f_numbers_r3_values))) else (if x3 = 1 then gk_bd1 (m_X2_isMissing f_numbers_r3_sort) (fun r242 => (if r242 = (0 : Int32) then gk_bd1 (m_X2_isMissing f_numbers_r1_sort) (fun r244 => (if r244 = (0 : Int32) then (if f_numbers_r3_sort = f_numbers_r1_sort then gk_bd1 (m_X2_hasStretch f_numbers_r3_size x2 x5) (fun r247 => (if r247 = (0 : Int32) then some ((-12 : Int32), f_numbers_r0_values, f_numbers_r1_values, f_numbers_r2_values, f_numbers_r3_values) else gk_bd1 (m_X2_hasStretch f_numbers_r1_size x4 x5) (fun r249 => (if r249 = (0 : Int32) then some ((-12 : Int32), f_numbers_r0_values, f_numbers_r1_values, f_numbers_r2_values, f_numbers_r3_values) else gk_cp x2 x4 x5 80 80 (some (x5, f_numbers_r0_values, va_cpy f_numbers_r3_values f_numbers_r1_values x2.toNatClampNeg x4.toNatClampNeg x5.toNatClampNeg, f_numbers_r2_values, f_numbers_r3_values)))))) else some ((-13 : Int32), f_numbers_r0_values, f_numbers_r1_values, f_numbers_r2_values, f_numbers_r3_values)) else some ((-11 : Int32), f_numbers_r0_values, f_numbers_r1_values, f_numbers_r2_values, f_numbers_r3_values))) else some ((-11 : Int32), f_numbers_r0_values, f_numbers_r1_values, f_numbers_r2_values, f_numbers_r3_values))) else (if x3 = 2 then gk_bd1 (m_X2_isMissing f_numbers_r3_sort) (fun r252 => (if r252 = (0 : Int32) then gk_bd1 (m_X2_isMissing f_numbers_r2_sort) (fun r254 => (if r254 = (0 : Int32) then (if f_numbers_r3_sort = f_numbers_r2_sort then gk_bd1 (m_X2_hasStretch f_numbers_r3_size x2 x5) (fun r257 => (if r257 = (0 : Int32) then some ((-12 : Int32), f_numbers_r0_values, f_numbers_r1_values, f_numbers_r2_values, f_numbers_r3_values) else gk_bd1 (m_X2_hasStretch f_numbers_r2_size x4 x5) (fun r259 => (if r259 = (0 : Int32) then some ((-12 : Int32), f_numbers_r0_values, f_numbers_r1_values, f_numbers_r2_values, f_numbers_r3_values) else gk_cp x2 x4 x5 80 80 (some (x5, f_numbers_r0_values, f_numbers_r1_values, va_cpy f_numbers_r3_values f_numbers_r2_values x2.toNatClampNeg x4.toNatClampNeg x5.toNatClampNeg, f_numbers_r3_values)))))) else some ((-13 : Int32), f_numbers_r0_values, f_numbers_r1_values, f_numbers_r2_values, f_numbers_r3_values)) else some ((-11 : Int32), f_numbers_r0_values, f_numbers_r1_values, f_numbers_r2_values, f_numbers_r3_values))) else some ((-11 : Int32), f_numbers_r0_values, f_numbers_r1_values, f_numbers_r2_values, f_numbers_r3_values))) else (if x3 = 3 then gk_bd1 (m_X2_isMissing f_numbers_r3_sort) (fun r262 => (if r262 = (0 : Int32) then gk_bd1 (m_X2_isMissing f_numbers_r3_sort) (fun r264 => (if r264 = (0 : Int32) then (if f_numbers_r3_sort = f_numbers_r3_sort then gk_bd1 (m_X2_hasStretch f_numbers_r3_size x2 x5) (fun r267 => (if r267 = (0 : Int32) then some ((-12 : Int32), f_numbers_r0_values, f_numbers_r1_values, f_numbers_r2_values, f_numbers_r3_values) else gk_bd1 (m_X2_hasStretch f_numbers_r3_size x4 x5) (fun r269 => (if r269 = (0 : Int32) then some ((-12 : Int32), f_numbers_r0_values, f_numbers_r1_values, f_numbers_r2_values, f_numbers_r3_values) else gk_cp x2 x4 x5 80 80 (some (x5, f_numbers_r0_values, f_numbers_r1_values, f_numbers_r2_values, va_cpy f_numbers_r3_values f_numbers_r3_values x2.toNatClampNeg x4.toNatClampNeg x5.toNatClampNeg)))))) else some ((-13 : Int32), f_numbers_r0_values, f_numbers_r1_values, f_numbers_r2_values, f_numbers_r3_values)) else some ((-11 : Int32), f_numbers_r0_values, f_numbers_r1_values, f_numbers_r2_values, f_numbers_r3_values))) else some ((-11 : Int32), f_numbers_r0_values, f_numbers_r1_values, f_numbers_r2_values, f_numbers_r3_values))) else none)))) else none)))) else some ((-2 : Int32), f_numbers_r0_values, f_numbers_r1_values, f_numbers_r2_values, f_numbers_r3_values))) else some ((-2 : Int32), f_numbers_r0_values, f_numbers_r1_values, f_numbers_r2_values, f_numbers_r3_values)))
set_option maxRecDepth 100000 in
set_option maxHeartbeats 4000000 in
theorem w_X5_copy_0 {p : Program} {l : Launch} {e : Env} {s : State} {m : MethodId} {args : Array Value} {below : List Frame} {meth : Method} {c : Code} {G : gk_G} {A : Nat → Prop} {Q : State → Prop} {a0 a1 a7 a13 a15 a18 a19 a20 a21 a22 a23 a24 a25 a26 : Nat} (C : gk_C p s m args meth c cX5_copy 8 (some .int) yX5_copy wsX5_copy false G A) {f_numbers_r0_sort : Int32} {f_numbers_r0_size : Int32} {f_numbers_r0_values : (Nat → Int64)} {f_numbers_r1_sort : Int32} {f_numbers_r1_size : Int32} {f_numbers_r1_values : (Nat → Int64)} {f_numbers_r2_sort : Int32} {f_numbers_r2_size : Int32} {f_numbers_r2_values : (Nat → Int64)} {f_numbers_r3_sort : Int32} {f_numbers_r3_size : Int32} {f_numbers_r3_values : (Nat → Int64)} {x1 : Int32} {x2 : Int32} {x3 : Int32} {x4 : Int32} {x5 : Int32} {f_isKept : Int32} {yy : Int32 × (Nat → Int64) × (Nat → Int64) × (Nat → Int64) × (Nat → Int64)} (hm : m_X5_copy_0 f_numbers_r0_sort f_numbers_r0_size f_numbers_r0_values f_numbers_r1_sort f_numbers_r1_size f_numbers_r1_values f_numbers_r2_sort f_numbers_r2_size f_numbers_r2_values f_numbers_r3_sort f_numbers_r3_size f_numbers_r3_values x1 x2 x3 x4 x5 = some yy) (kr : ∀ (rv : Int32) (g_numbers_r0_values : (Nat → Int64)) (g_numbers_r1_values : (Nat → Int64)) (g_numbers_r2_values : (Nat → Int64)) (g_numbers_r3_values : (Nat → Int64)), yy = (rv, g_numbers_r0_values, g_numbers_r1_values, g_numbers_r2_values, g_numbers_r3_values) → Q = MQ below (gk_Q G (some (.int rv)) [(a0, .inr (4, [.ref a1, .ref a7, .int f_isKept, .ref a13, .ref a15, .ref a18])), (a18, gk_R G 4 (gk_four a19 a21 a23 a25)), (a19, .inr (1, [.int f_numbers_r0_sort, .int f_numbers_r0_size, .ref a20])), (a20, gk_J G 80 g_numbers_r0_values), (a21, .inr (1, [.int f_numbers_r1_sort, .int f_numbers_r1_size, .ref a22])), (a22, gk_J G 80 g_numbers_r1_values), (a23, .inr (1, [.int f_numbers_r2_sort, .int f_numbers_r2_size, .ref a24])), (a24, gk_J G 80 g_numbers_r2_values), (a25, .inr (1, [.int f_numbers_r3_sort, .int f_numbers_r3_size, .ref a26])), (a26, gk_J G 80 g_numbers_r3_values)] A) args s 0 0 A) {H : Heap} {locs : List Loc} {ls : Array Slot} (h : gk_H G A s [(a0, .inr (4, [.ref a1, .ref a7, .int f_isKept, .ref a13, .ref a15, .ref a18])), (a18, gk_R G 4 (gk_four a19 a21 a23 a25)), (a19, .inr (1, [.int f_numbers_r0_sort, .int f_numbers_r0_size, .ref a20])), (a20, gk_J G 80 f_numbers_r0_values), (a21, .inr (1, [.int f_numbers_r1_sort, .int f_numbers_r1_size, .ref a22])), (a22, gk_J G 80 f_numbers_r1_values), (a23, .inr (1, [.int f_numbers_r2_sort, .int f_numbers_r2_size, .ref a24])), (a24, gk_J G 80 f_numbers_r2_values), (a25, .inr (1, [.int f_numbers_r3_sort, .int f_numbers_r3_size, .ref a26])), (a26, gk_J G 80 f_numbers_r3_values)] H locs) (hl : lv_has ls 8 [(0, .ref a0), (1, .int x1), (2, .int x2), (3, .int x3), (4, .int x4), (5, .int x5)]) : W p l e rm_X5_copy s m args below meth c H locs 0 0 Q (F0 m 0 ls []) := by
  obtain ⟨hx, hb, hml, hr, hown, hnm, hts, hlk, hK, hSt, hA⟩ := id C
  obtain ⟨hP, hD, hS⟩ := h
  unfold m_X5_copy_0 at hm
  refine lv_iload_n hx hb dX5_copy_0 rfl (lv_at hl 1 rfl) ?_
  obtain ⟨r103, hq, hm⟩ := gk_bd1_some hm
  refine gk_callS (n := 1) (bytes := cX5_noRow) (maxL := 1) (ret := (some .boolean)) [(a0, .inr (4, [.ref a1, .ref a7, .int f_isKept, .ref a13, .ref a15, .ref a18])), (a18, gk_R G 4 (gk_four a19 a21 a23 a25)), (a19, .inr (1, [.int f_numbers_r0_sort, .int f_numbers_r0_size, .ref a20])), (a20, gk_J G 80 f_numbers_r0_values), (a21, .inr (1, [.int f_numbers_r1_sort, .int f_numbers_r1_size, .ref a22])), (a22, gk_J G 80 f_numbers_r1_values), (a23, .inr (1, [.int f_numbers_r2_sort, .int f_numbers_r2_size, .ref a24])), (a24, gk_J G 80 f_numbers_r2_values), (a25, .inr (1, [.int f_numbers_r3_sort, .int f_numbers_r3_size, .ref a26])), (a26, gk_J G 80 f_numbers_r3_values)] [(a0, .inr (4, [.ref a1, .ref a7, .int f_isKept, .ref a13, .ref a15, .ref a18])), (a18, gk_R G 4 (gk_four a19 a21 a23 a25)), (a19, .inr (1, [.int f_numbers_r0_sort, .int f_numbers_r0_size, .ref a20])), (a20, gk_J G 80 f_numbers_r0_values), (a21, .inr (1, [.int f_numbers_r1_sort, .int f_numbers_r1_size, .ref a22])), (a22, gk_J G 80 f_numbers_r1_values), (a23, .inr (1, [.int f_numbers_r2_sort, .int f_numbers_r2_size, .ref a24])), (a24, gk_J G 80 f_numbers_r2_values), (a25, .inr (1, [.int f_numbers_r3_sort, .int f_numbers_r3_size, .ref a26])), (a26, gk_J G 80 f_numbers_r3_values)] [] C ⟨hP, hD, hS⟩ (c_X5_noRow l G x1 hq) gX5_copy_X5_noRow dX5_copy_1 hl.1 [] [0, 1, 2, 3, 4, 5, 6, 7, 8, 9] [0, 1, 2, 3, 4, 5, 6, 7, 8, 9] rfl ⟨rfl, rfl⟩ ⟨Nat.le_of_ble_eq_true rfl, Nat.le_of_ble_eq_true rfl⟩ ⟨by decide +kernel, by decide +kernel, by decide +kernel⟩ rfl (fun h => by cases h) (Nat.le_of_ble_eq_true rfl) rfl rfl rfl rfl (by decide) rfl rfl (fun H locs h => ?_)
  obtain ⟨hP, hD, hS⟩ := h
  refine lv_if_ne (tgt := 14) hx hb dX5_copy_4 (by decide) (fun c104 => ?_) (fun c104 => ?_)
  · have hm := gk_if c104 hm
    refine lv_bipush (v := -2) hx hb dX5_copy_14 (by decide) ?_
    rw [kr _ _ _ _ _ (Option.some.inj hm).symm]
    exact gk_iret C ⟨hP, hD, hS⟩ dX5_copy_16
  · have hm := gk_it c104 hm
    refine lv_iload_n hx hb dX5_copy_7 rfl (lv_at hl 3 rfl) ?_
    obtain ⟨r105, hq, hm⟩ := gk_bd1_some hm
    refine gk_callS (n := 1) (bytes := cX5_noRow) (maxL := 1) (ret := (some .boolean)) [(a0, .inr (4, [.ref a1, .ref a7, .int f_isKept, .ref a13, .ref a15, .ref a18])), (a18, gk_R G 4 (gk_four a19 a21 a23 a25)), (a19, .inr (1, [.int f_numbers_r0_sort, .int f_numbers_r0_size, .ref a20])), (a20, gk_J G 80 f_numbers_r0_values), (a21, .inr (1, [.int f_numbers_r1_sort, .int f_numbers_r1_size, .ref a22])), (a22, gk_J G 80 f_numbers_r1_values), (a23, .inr (1, [.int f_numbers_r2_sort, .int f_numbers_r2_size, .ref a24])), (a24, gk_J G 80 f_numbers_r2_values), (a25, .inr (1, [.int f_numbers_r3_sort, .int f_numbers_r3_size, .ref a26])), (a26, gk_J G 80 f_numbers_r3_values)] [(a0, .inr (4, [.ref a1, .ref a7, .int f_isKept, .ref a13, .ref a15, .ref a18])), (a18, gk_R G 4 (gk_four a19 a21 a23 a25)), (a19, .inr (1, [.int f_numbers_r0_sort, .int f_numbers_r0_size, .ref a20])), (a20, gk_J G 80 f_numbers_r0_values), (a21, .inr (1, [.int f_numbers_r1_sort, .int f_numbers_r1_size, .ref a22])), (a22, gk_J G 80 f_numbers_r1_values), (a23, .inr (1, [.int f_numbers_r2_sort, .int f_numbers_r2_size, .ref a24])), (a24, gk_J G 80 f_numbers_r2_values), (a25, .inr (1, [.int f_numbers_r3_sort, .int f_numbers_r3_size, .ref a26])), (a26, gk_J G 80 f_numbers_r3_values)] [] C ⟨hP, hD, hS⟩ (c_X5_noRow l G x3 hq) gX5_copy_X5_noRow dX5_copy_8 hl.1 [] [0, 1, 2, 3, 4, 5, 6, 7, 8, 9] [0, 1, 2, 3, 4, 5, 6, 7, 8, 9] rfl ⟨rfl, rfl⟩ ⟨Nat.le_of_ble_eq_true rfl, Nat.le_of_ble_eq_true rfl⟩ ⟨by decide +kernel, by decide +kernel, by decide +kernel⟩ rfl (fun h => by cases h) (Nat.le_of_ble_eq_true rfl) rfl rfl rfl rfl (by decide) rfl rfl (fun H locs h => ?_)
    obtain ⟨hP, hD, hS⟩ := h
    refine lv_if_eq (tgt := 17) hx hb dX5_copy_11 (by decide) (fun c106 => ?_) (fun c106 => ?_)
    · have hm := gk_it c106 hm
      refine lv_aload_n hx hb dX5_copy_17 rfl (lv_at hl 0 rfl) ?_
      refine va_get (D := G.1) (cl := vwCl) (own := RX5) (ref := "ExchangeFamilies") (ci := 4) (v := .ref a18) (C := RX5) (T := TX5) (N := 6) hx hb hts k_X5_copy_0 hown hK hP 0 rfl rfl 5 (by decide) (hts _ k_X5_copy_1) (fun _ h9 => h9) rfl dX5_copy_18 ?_
      refine lv_iload_n hx hb dX5_copy_21 rfl (lv_at hl 1 rfl) ?_
      by_cases c107 : x1 = 0
      · have hm := gk_it c107 hm
        refine gk_aald (k := 0) (v := a19) C hP 1 rfl c107 (by decide) (by decide) rfl dX5_copy_22 ?_
        refine lv_astore (lv' := [(6, .ref a19), (0, .ref a0), (1, .int x1), (2, .int x2), (3, .int x3), (4, .int x4), (5, .int x5)]) hx hb dX5_copy_23 hl (by decide) rfl (fun ls hl => ?_)
        refine lv_aload_n hx hb dX5_copy_25 rfl (lv_at hl 1 rfl) ?_
        refine va_get (D := G.1) (cl := vwCl) (own := RX5) (ref := "ExchangeFamilies") (ci := 4) (v := .ref a18) (C := RX5) (T := TX5) (N := 6) hx hb hts k_X5_copy_0 hown hK hP 0 rfl rfl 5 (by decide) (hts _ k_X5_copy_1) (fun _ h9 => h9) rfl dX5_copy_26 ?_
        refine lv_iload_n hx hb dX5_copy_29 rfl (lv_at hl 4 rfl) ?_
        by_cases c108 : x3 = 0
        · have hm := gk_it c108 hm
          refine gk_aald (k := 0) (v := a19) C hP 1 rfl c108 (by decide) (by decide) rfl dX5_copy_30 ?_
          refine lv_astore (lv' := [(7, .ref a19), (6, .ref a19), (0, .ref a0), (1, .int x1), (2, .int x2), (3, .int x3), (4, .int x4), (5, .int x5)]) hx hb dX5_copy_31 hl (by decide) rfl (fun ls hl => ?_)
          refine lv_aload hx hb dX5_copy_33 (lv_at hl 1 rfl) ?_
          obtain ⟨r109, hq, hm⟩ := gk_bd1_some hm
          refine gk_callV (n := 0) (bytes := cX2_isMissing) (maxL := 1) (ret := (some .boolean)) (Cn := RX2) (T := TX2) (N := 3) [(a0, .inr (4, [.ref a1, .ref a7, .int f_isKept, .ref a13, .ref a15, .ref a18])), (a18, gk_R G 4 (gk_four a19 a21 a23 a25)), (a20, gk_J G 80 f_numbers_r0_values), (a21, .inr (1, [.int f_numbers_r1_sort, .int f_numbers_r1_size, .ref a22])), (a22, gk_J G 80 f_numbers_r1_values), (a23, .inr (1, [.int f_numbers_r2_sort, .int f_numbers_r2_size, .ref a24])), (a24, gk_J G 80 f_numbers_r2_values), (a25, .inr (1, [.int f_numbers_r3_sort, .int f_numbers_r3_size, .ref a26])), (a26, gk_J G 80 f_numbers_r3_values)] [(a0, .inr (4, [.ref a1, .ref a7, .int f_isKept, .ref a13, .ref a15, .ref a18])), (a18, gk_R G 4 (gk_four a19 a21 a23 a25)), (a19, .inr (1, [.int f_numbers_r0_sort, .int f_numbers_r0_size, .ref a20])), (a20, gk_J G 80 f_numbers_r0_values), (a21, .inr (1, [.int f_numbers_r1_sort, .int f_numbers_r1_size, .ref a22])), (a22, gk_J G 80 f_numbers_r1_values), (a23, .inr (1, [.int f_numbers_r2_sort, .int f_numbers_r2_size, .ref a24])), (a24, gk_J G 80 f_numbers_r2_values), (a25, .inr (1, [.int f_numbers_r3_sort, .int f_numbers_r3_size, .ref a26])), (a26, gk_J G 80 f_numbers_r3_values)] [] C ⟨hP, hD, hS⟩ (c_X2_isMissing l G a19 a20 f_numbers_r0_sort f_numbers_r0_size hq) gX5_copy_X2_isMissing dX5_copy_35 hl.1 [2] [0, 1, 3, 4, 5, 6, 7, 8, 9] [0, 1, 9, 2, 3, 4, 5, 6, 7, 8] rfl rfl ⟨rfl, rfl⟩ ⟨Nat.le_of_ble_eq_true rfl, Nat.le_of_ble_eq_true rfl⟩ ⟨rfl, by decide +kernel, by decide +kernel, by decide +kernel⟩ rfl (fun h => by cases h) (Nat.le_of_ble_eq_true rfl) rfl rfl rfl rfl (by decide) rfl rfl (fun H locs h => ?_)
          obtain ⟨hP, hD, hS⟩ := h
          refine lv_if_ne (tgt := 49) hx hb dX5_copy_38 (by decide) (fun c110 => ?_) (fun c110 => ?_)
          · have hm := gk_if c110 hm
            refine lv_bipush (v := -11) hx hb dX5_copy_49 (by decide) ?_
            rw [kr _ _ _ _ _ (Option.some.inj hm).symm]
            exact gk_iret C ⟨hP, hD, hS⟩ dX5_copy_51
          · have hm := gk_it c110 hm
            refine lv_aload hx hb dX5_copy_41 (lv_at hl 0 rfl) ?_
            obtain ⟨r111, hq, hm⟩ := gk_bd1_some hm
            refine gk_callV (n := 0) (bytes := cX2_isMissing) (maxL := 1) (ret := (some .boolean)) (Cn := RX2) (T := TX2) (N := 3) [(a0, .inr (4, [.ref a1, .ref a7, .int f_isKept, .ref a13, .ref a15, .ref a18])), (a18, gk_R G 4 (gk_four a19 a21 a23 a25)), (a20, gk_J G 80 f_numbers_r0_values), (a21, .inr (1, [.int f_numbers_r1_sort, .int f_numbers_r1_size, .ref a22])), (a22, gk_J G 80 f_numbers_r1_values), (a23, .inr (1, [.int f_numbers_r2_sort, .int f_numbers_r2_size, .ref a24])), (a24, gk_J G 80 f_numbers_r2_values), (a25, .inr (1, [.int f_numbers_r3_sort, .int f_numbers_r3_size, .ref a26])), (a26, gk_J G 80 f_numbers_r3_values)] [(a0, .inr (4, [.ref a1, .ref a7, .int f_isKept, .ref a13, .ref a15, .ref a18])), (a18, gk_R G 4 (gk_four a19 a21 a23 a25)), (a19, .inr (1, [.int f_numbers_r0_sort, .int f_numbers_r0_size, .ref a20])), (a20, gk_J G 80 f_numbers_r0_values), (a21, .inr (1, [.int f_numbers_r1_sort, .int f_numbers_r1_size, .ref a22])), (a22, gk_J G 80 f_numbers_r1_values), (a23, .inr (1, [.int f_numbers_r2_sort, .int f_numbers_r2_size, .ref a24])), (a24, gk_J G 80 f_numbers_r2_values), (a25, .inr (1, [.int f_numbers_r3_sort, .int f_numbers_r3_size, .ref a26])), (a26, gk_J G 80 f_numbers_r3_values)] [] C ⟨hP, hD, hS⟩ (c_X2_isMissing l G a19 a20 f_numbers_r0_sort f_numbers_r0_size hq) gX5_copy_X2_isMissing dX5_copy_43 hl.1 [2] [0, 1, 3, 4, 5, 6, 7, 8, 9] [0, 1, 9, 2, 3, 4, 5, 6, 7, 8] rfl rfl ⟨rfl, rfl⟩ ⟨Nat.le_of_ble_eq_true rfl, Nat.le_of_ble_eq_true rfl⟩ ⟨rfl, by decide +kernel, by decide +kernel, by decide +kernel⟩ rfl (fun h => by cases h) (Nat.le_of_ble_eq_true rfl) rfl rfl rfl rfl (by decide) rfl rfl (fun H locs h => ?_)
            obtain ⟨hP, hD, hS⟩ := h
            refine lv_if_eq (tgt := 52) hx hb dX5_copy_46 (by decide) (fun c112 => ?_) (fun c112 => ?_)
            · have hm := gk_it c112 hm
              refine lv_aload hx hb dX5_copy_52 (lv_at hl 1 rfl) ?_
              refine va_get (D := G.1) (cl := vwCl) (own := RX5) (ref := "ExchangeFamilies$Numbers") (ci := 1) (v := .int f_numbers_r0_sort) (C := RX2) (T := TX2) (N := 3) hx hb hts k_X5_copy_2 hown hK hP 2 rfl rfl 0 (by decide) (hts _ k_X5_copy_3) (fun _ h9 => h9) rfl dX5_copy_54 ?_
              refine lv_aload hx hb dX5_copy_57 (lv_at hl 0 rfl) ?_
              refine va_get (D := G.1) (cl := vwCl) (own := RX5) (ref := "ExchangeFamilies$Numbers") (ci := 1) (v := .int f_numbers_r0_sort) (C := RX2) (T := TX2) (N := 3) hx hb hts k_X5_copy_2 hown hK hP 2 rfl rfl 0 (by decide) (hts _ k_X5_copy_3) (fun _ h9 => h9) rfl dX5_copy_59 ?_
              refine lv_icmp_eq (tgt := 68) hx hb dX5_copy_62 (by decide) (fun c113 => ?_) (fun c113 => ?_)
              · have hm := gk_it c113 hm
                refine lv_aload hx hb dX5_copy_68 (lv_at hl 1 rfl) ?_
                refine lv_iload_n hx hb dX5_copy_70 rfl (lv_at hl 4 rfl) ?_
                refine lv_iload hx hb dX5_copy_71 (lv_at hl 7 rfl) ?_
                obtain ⟨r114, hq, hm⟩ := gk_bd1_some hm
                refine gk_callV (n := 2) (bytes := cX2_hasStretch) (maxL := 3) (ret := (some .boolean)) (Cn := RX2) (T := TX2) (N := 3) [(a0, .inr (4, [.ref a1, .ref a7, .int f_isKept, .ref a13, .ref a15, .ref a18])), (a18, gk_R G 4 (gk_four a19 a21 a23 a25)), (a20, gk_J G 80 f_numbers_r0_values), (a21, .inr (1, [.int f_numbers_r1_sort, .int f_numbers_r1_size, .ref a22])), (a22, gk_J G 80 f_numbers_r1_values), (a23, .inr (1, [.int f_numbers_r2_sort, .int f_numbers_r2_size, .ref a24])), (a24, gk_J G 80 f_numbers_r2_values), (a25, .inr (1, [.int f_numbers_r3_sort, .int f_numbers_r3_size, .ref a26])), (a26, gk_J G 80 f_numbers_r3_values)] [(a0, .inr (4, [.ref a1, .ref a7, .int f_isKept, .ref a13, .ref a15, .ref a18])), (a18, gk_R G 4 (gk_four a19 a21 a23 a25)), (a19, .inr (1, [.int f_numbers_r0_sort, .int f_numbers_r0_size, .ref a20])), (a20, gk_J G 80 f_numbers_r0_values), (a21, .inr (1, [.int f_numbers_r1_sort, .int f_numbers_r1_size, .ref a22])), (a22, gk_J G 80 f_numbers_r1_values), (a23, .inr (1, [.int f_numbers_r2_sort, .int f_numbers_r2_size, .ref a24])), (a24, gk_J G 80 f_numbers_r2_values), (a25, .inr (1, [.int f_numbers_r3_sort, .int f_numbers_r3_size, .ref a26])), (a26, gk_J G 80 f_numbers_r3_values)] [] C ⟨hP, hD, hS⟩ (c_X2_hasStretch l G a19 a20 f_numbers_r0_sort f_numbers_r0_size x2 x5 hq) gX5_copy_X2_hasStretch dX5_copy_73 hl.1 [2] [0, 1, 3, 4, 5, 6, 7, 8, 9] [0, 1, 9, 2, 3, 4, 5, 6, 7, 8] rfl rfl ⟨rfl, rfl⟩ ⟨Nat.le_of_ble_eq_true rfl, Nat.le_of_ble_eq_true rfl⟩ ⟨rfl, by decide +kernel, by decide +kernel, by decide +kernel⟩ rfl (fun h => by cases h) (Nat.le_of_ble_eq_true rfl) rfl rfl rfl rfl (by decide) rfl rfl (fun H locs h => ?_)
                obtain ⟨hP, hD, hS⟩ := h
                refine lv_if_eq (tgt := 91) hx hb dX5_copy_76 (by decide) (fun c115 => ?_) (fun c115 => ?_)
                · have hm := gk_it c115 hm
                  refine lv_bipush (v := -12) hx hb dX5_copy_91 (by decide) ?_
                  rw [kr _ _ _ _ _ (Option.some.inj hm).symm]
                  exact gk_iret C ⟨hP, hD, hS⟩ dX5_copy_93
                · have hm := gk_if c115 hm
                  refine lv_aload hx hb dX5_copy_79 (lv_at hl 0 rfl) ?_
                  refine lv_iload hx hb dX5_copy_81 (lv_at hl 6 rfl) ?_
                  refine lv_iload hx hb dX5_copy_83 (lv_at hl 7 rfl) ?_
                  obtain ⟨r116, hq, hm⟩ := gk_bd1_some hm
                  refine gk_callV (n := 2) (bytes := cX2_hasStretch) (maxL := 3) (ret := (some .boolean)) (Cn := RX2) (T := TX2) (N := 3) [(a0, .inr (4, [.ref a1, .ref a7, .int f_isKept, .ref a13, .ref a15, .ref a18])), (a18, gk_R G 4 (gk_four a19 a21 a23 a25)), (a20, gk_J G 80 f_numbers_r0_values), (a21, .inr (1, [.int f_numbers_r1_sort, .int f_numbers_r1_size, .ref a22])), (a22, gk_J G 80 f_numbers_r1_values), (a23, .inr (1, [.int f_numbers_r2_sort, .int f_numbers_r2_size, .ref a24])), (a24, gk_J G 80 f_numbers_r2_values), (a25, .inr (1, [.int f_numbers_r3_sort, .int f_numbers_r3_size, .ref a26])), (a26, gk_J G 80 f_numbers_r3_values)] [(a0, .inr (4, [.ref a1, .ref a7, .int f_isKept, .ref a13, .ref a15, .ref a18])), (a18, gk_R G 4 (gk_four a19 a21 a23 a25)), (a19, .inr (1, [.int f_numbers_r0_sort, .int f_numbers_r0_size, .ref a20])), (a20, gk_J G 80 f_numbers_r0_values), (a21, .inr (1, [.int f_numbers_r1_sort, .int f_numbers_r1_size, .ref a22])), (a22, gk_J G 80 f_numbers_r1_values), (a23, .inr (1, [.int f_numbers_r2_sort, .int f_numbers_r2_size, .ref a24])), (a24, gk_J G 80 f_numbers_r2_values), (a25, .inr (1, [.int f_numbers_r3_sort, .int f_numbers_r3_size, .ref a26])), (a26, gk_J G 80 f_numbers_r3_values)] [] C ⟨hP, hD, hS⟩ (c_X2_hasStretch l G a19 a20 f_numbers_r0_sort f_numbers_r0_size x4 x5 hq) gX5_copy_X2_hasStretch dX5_copy_85 hl.1 [2] [0, 1, 3, 4, 5, 6, 7, 8, 9] [0, 1, 9, 2, 3, 4, 5, 6, 7, 8] rfl rfl ⟨rfl, rfl⟩ ⟨Nat.le_of_ble_eq_true rfl, Nat.le_of_ble_eq_true rfl⟩ ⟨rfl, by decide +kernel, by decide +kernel, by decide +kernel⟩ rfl (fun h => by cases h) (Nat.le_of_ble_eq_true rfl) rfl rfl rfl rfl (by decide) rfl rfl (fun H locs h => ?_)
                  obtain ⟨hP, hD, hS⟩ := h
                  refine lv_if_ne (tgt := 94) hx hb dX5_copy_88 (by decide) (fun c117 => ?_) (fun c117 => ?_)
                  · have hm := gk_if c117 hm
                    refine lv_aload hx hb dX5_copy_94 (lv_at hl 1 rfl) ?_
                    refine va_get (D := G.1) (cl := vwCl) (own := RX5) (ref := "ExchangeFamilies$Numbers") (ci := 1) (v := .ref a20) (C := RX2) (T := TX2) (N := 3) hx hb hts k_X5_copy_2 hown hK hP 2 rfl rfl 2 (by decide) (hts _ k_X5_copy_4) (fun _ h9 => h9) rfl dX5_copy_96 ?_
                    refine lv_iload_n hx hb dX5_copy_99 rfl (lv_at hl 4 rfl) ?_
                    refine lv_aload hx hb dX5_copy_100 (lv_at hl 0 rfl) ?_
                    refine va_get (D := G.1) (cl := vwCl) (own := RX5) (ref := "ExchangeFamilies$Numbers") (ci := 1) (v := .ref a20) (C := RX2) (T := TX2) (N := 3) hx hb hts k_X5_copy_2 hown hK hP 2 rfl rfl 2 (by decide) (hts _ k_X5_copy_4) (fun _ h9 => h9) rfl dX5_copy_102 ?_
                    refine lv_iload hx hb dX5_copy_105 (lv_at hl 6 rfl) ?_
                    refine lv_iload hx hb dX5_copy_107 (lv_at hl 7 rfl) ?_
                    obtain ⟨⟨hc1, hc2, hc3, hc4, hc5⟩, hm⟩ := gk_cp_some hm
                    refine va_copyl (own := RX5) hx hb (by rw [hml]; exact hl.1.symm) hown (hts _ k_X5_copy_5) (hts _ k_X5_copy_6) (hts _ k_X5_copy_7) (hts _ k_X5_copy_8) hK hP hD hS 3 3 1 1 rfl rfl rfl rfl rfl hc1 hc2 hc3 hc4 hc5 (fun _ _ => rfl) (Nat.le_of_ble_eq_true rfl) (Nat.le_of_ble_eq_true rfl) dX5_copy_109 (fun H locs hP hD hS => ?_)
                    have hP : va_P G.1 vwCl [(a0, .inr (4, [.ref a1, .ref a7, .int f_isKept, .ref a13, .ref a15, .ref a18])), (a18, gk_R G 4 (gk_four a19 a21 a23 a25)), (a19, .inr (1, [.int f_numbers_r0_sort, .int f_numbers_r0_size, .ref a20])), (a20, gk_J G 80 (va_cpy f_numbers_r0_values f_numbers_r0_values x2.toNatClampNeg x4.toNatClampNeg x5.toNatClampNeg)), (a21, .inr (1, [.int f_numbers_r1_sort, .int f_numbers_r1_size, .ref a22])), (a22, gk_J G 80 f_numbers_r1_values), (a23, .inr (1, [.int f_numbers_r2_sort, .int f_numbers_r2_size, .ref a24])), (a24, gk_J G 80 f_numbers_r2_values), (a25, .inr (1, [.int f_numbers_r3_sort, .int f_numbers_r3_size, .ref a26])), (a26, gk_J G 80 f_numbers_r3_values)] H := hP
                    have hD : va_D A [(a0, .inr (4, [.ref a1, .ref a7, .int f_isKept, .ref a13, .ref a15, .ref a18])), (a18, gk_R G 4 (gk_four a19 a21 a23 a25)), (a19, .inr (1, [.int f_numbers_r0_sort, .int f_numbers_r0_size, .ref a20])), (a20, gk_J G 80 (va_cpy f_numbers_r0_values f_numbers_r0_values x2.toNatClampNeg x4.toNatClampNeg x5.toNatClampNeg)), (a21, .inr (1, [.int f_numbers_r1_sort, .int f_numbers_r1_size, .ref a22])), (a22, gk_J G 80 f_numbers_r1_values), (a23, .inr (1, [.int f_numbers_r2_sort, .int f_numbers_r2_size, .ref a24])), (a24, gk_J G 80 f_numbers_r2_values), (a25, .inr (1, [.int f_numbers_r3_sort, .int f_numbers_r3_size, .ref a26])), (a26, gk_J G 80 f_numbers_r3_values)] := hD
                    refine lv_iload hx hb dX5_copy_112 (lv_at hl 7 rfl) ?_
                    rw [kr _ _ _ _ _ (Option.some.inj hm).symm]
                    exact gk_iret C ⟨hP, hD, hS⟩ dX5_copy_114
                  · have hm := gk_it c117 hm
                    refine lv_bipush (v := -12) hx hb dX5_copy_91 (by decide) ?_
                    rw [kr _ _ _ _ _ (Option.some.inj hm).symm]
                    exact gk_iret C ⟨hP, hD, hS⟩ dX5_copy_93
              · have hm := gk_if c113 hm
                refine lv_bipush (v := -13) hx hb dX5_copy_65 (by decide) ?_
                rw [kr _ _ _ _ _ (Option.some.inj hm).symm]
                exact gk_iret C ⟨hP, hD, hS⟩ dX5_copy_67
            · have hm := gk_if c112 hm
              refine lv_bipush (v := -11) hx hb dX5_copy_49 (by decide) ?_
              rw [kr _ _ _ _ _ (Option.some.inj hm).symm]
              exact gk_iret C ⟨hP, hD, hS⟩ dX5_copy_51
        have hm := gk_if c108 hm
        by_cases c118 : x3 = 1
        · have hm := gk_it c118 hm
          refine gk_aald (k := 1) (v := a21) C hP 1 rfl c118 (by decide) (by decide) rfl dX5_copy_30 ?_
          refine lv_astore (lv' := [(7, .ref a21), (6, .ref a19), (0, .ref a0), (1, .int x1), (2, .int x2), (3, .int x3), (4, .int x4), (5, .int x5)]) hx hb dX5_copy_31 hl (by decide) rfl (fun ls hl => ?_)
          refine lv_aload hx hb dX5_copy_33 (lv_at hl 1 rfl) ?_
          obtain ⟨r119, hq, hm⟩ := gk_bd1_some hm
          refine gk_callV (n := 0) (bytes := cX2_isMissing) (maxL := 1) (ret := (some .boolean)) (Cn := RX2) (T := TX2) (N := 3) [(a0, .inr (4, [.ref a1, .ref a7, .int f_isKept, .ref a13, .ref a15, .ref a18])), (a18, gk_R G 4 (gk_four a19 a21 a23 a25)), (a20, gk_J G 80 f_numbers_r0_values), (a21, .inr (1, [.int f_numbers_r1_sort, .int f_numbers_r1_size, .ref a22])), (a22, gk_J G 80 f_numbers_r1_values), (a23, .inr (1, [.int f_numbers_r2_sort, .int f_numbers_r2_size, .ref a24])), (a24, gk_J G 80 f_numbers_r2_values), (a25, .inr (1, [.int f_numbers_r3_sort, .int f_numbers_r3_size, .ref a26])), (a26, gk_J G 80 f_numbers_r3_values)] [(a0, .inr (4, [.ref a1, .ref a7, .int f_isKept, .ref a13, .ref a15, .ref a18])), (a18, gk_R G 4 (gk_four a19 a21 a23 a25)), (a19, .inr (1, [.int f_numbers_r0_sort, .int f_numbers_r0_size, .ref a20])), (a20, gk_J G 80 f_numbers_r0_values), (a21, .inr (1, [.int f_numbers_r1_sort, .int f_numbers_r1_size, .ref a22])), (a22, gk_J G 80 f_numbers_r1_values), (a23, .inr (1, [.int f_numbers_r2_sort, .int f_numbers_r2_size, .ref a24])), (a24, gk_J G 80 f_numbers_r2_values), (a25, .inr (1, [.int f_numbers_r3_sort, .int f_numbers_r3_size, .ref a26])), (a26, gk_J G 80 f_numbers_r3_values)] [] C ⟨hP, hD, hS⟩ (c_X2_isMissing l G a19 a20 f_numbers_r0_sort f_numbers_r0_size hq) gX5_copy_X2_isMissing dX5_copy_35 hl.1 [2] [0, 1, 3, 4, 5, 6, 7, 8, 9] [0, 1, 9, 2, 3, 4, 5, 6, 7, 8] rfl rfl ⟨rfl, rfl⟩ ⟨Nat.le_of_ble_eq_true rfl, Nat.le_of_ble_eq_true rfl⟩ ⟨rfl, by decide +kernel, by decide +kernel, by decide +kernel⟩ rfl (fun h => by cases h) (Nat.le_of_ble_eq_true rfl) rfl rfl rfl rfl (by decide) rfl rfl (fun H locs h => ?_)
          obtain ⟨hP, hD, hS⟩ := h
          refine lv_if_ne (tgt := 49) hx hb dX5_copy_38 (by decide) (fun c120 => ?_) (fun c120 => ?_)
          · have hm := gk_if c120 hm
            refine lv_bipush (v := -11) hx hb dX5_copy_49 (by decide) ?_
            rw [kr _ _ _ _ _ (Option.some.inj hm).symm]
            exact gk_iret C ⟨hP, hD, hS⟩ dX5_copy_51
          · have hm := gk_it c120 hm
            refine lv_aload hx hb dX5_copy_41 (lv_at hl 0 rfl) ?_
            obtain ⟨r121, hq, hm⟩ := gk_bd1_some hm
            refine gk_callV (n := 0) (bytes := cX2_isMissing) (maxL := 1) (ret := (some .boolean)) (Cn := RX2) (T := TX2) (N := 3) [(a0, .inr (4, [.ref a1, .ref a7, .int f_isKept, .ref a13, .ref a15, .ref a18])), (a18, gk_R G 4 (gk_four a19 a21 a23 a25)), (a19, .inr (1, [.int f_numbers_r0_sort, .int f_numbers_r0_size, .ref a20])), (a20, gk_J G 80 f_numbers_r0_values), (a22, gk_J G 80 f_numbers_r1_values), (a23, .inr (1, [.int f_numbers_r2_sort, .int f_numbers_r2_size, .ref a24])), (a24, gk_J G 80 f_numbers_r2_values), (a25, .inr (1, [.int f_numbers_r3_sort, .int f_numbers_r3_size, .ref a26])), (a26, gk_J G 80 f_numbers_r3_values)] [(a0, .inr (4, [.ref a1, .ref a7, .int f_isKept, .ref a13, .ref a15, .ref a18])), (a18, gk_R G 4 (gk_four a19 a21 a23 a25)), (a19, .inr (1, [.int f_numbers_r0_sort, .int f_numbers_r0_size, .ref a20])), (a20, gk_J G 80 f_numbers_r0_values), (a21, .inr (1, [.int f_numbers_r1_sort, .int f_numbers_r1_size, .ref a22])), (a22, gk_J G 80 f_numbers_r1_values), (a23, .inr (1, [.int f_numbers_r2_sort, .int f_numbers_r2_size, .ref a24])), (a24, gk_J G 80 f_numbers_r2_values), (a25, .inr (1, [.int f_numbers_r3_sort, .int f_numbers_r3_size, .ref a26])), (a26, gk_J G 80 f_numbers_r3_values)] [] C ⟨hP, hD, hS⟩ (c_X2_isMissing l G a21 a22 f_numbers_r1_sort f_numbers_r1_size hq) gX5_copy_X2_isMissing dX5_copy_43 hl.1 [4] [0, 1, 2, 3, 5, 6, 7, 8, 9] [0, 1, 2, 3, 9, 4, 5, 6, 7, 8] rfl rfl ⟨rfl, rfl⟩ ⟨Nat.le_of_ble_eq_true rfl, Nat.le_of_ble_eq_true rfl⟩ ⟨rfl, by decide +kernel, by decide +kernel, by decide +kernel⟩ rfl (fun h => by cases h) (Nat.le_of_ble_eq_true rfl) rfl rfl rfl rfl (by decide) rfl rfl (fun H locs h => ?_)
            obtain ⟨hP, hD, hS⟩ := h
            refine lv_if_eq (tgt := 52) hx hb dX5_copy_46 (by decide) (fun c122 => ?_) (fun c122 => ?_)
            · have hm := gk_it c122 hm
              refine lv_aload hx hb dX5_copy_52 (lv_at hl 1 rfl) ?_
              refine va_get (D := G.1) (cl := vwCl) (own := RX5) (ref := "ExchangeFamilies$Numbers") (ci := 1) (v := .int f_numbers_r0_sort) (C := RX2) (T := TX2) (N := 3) hx hb hts k_X5_copy_2 hown hK hP 2 rfl rfl 0 (by decide) (hts _ k_X5_copy_3) (fun _ h9 => h9) rfl dX5_copy_54 ?_
              refine lv_aload hx hb dX5_copy_57 (lv_at hl 0 rfl) ?_
              refine va_get (D := G.1) (cl := vwCl) (own := RX5) (ref := "ExchangeFamilies$Numbers") (ci := 1) (v := .int f_numbers_r1_sort) (C := RX2) (T := TX2) (N := 3) hx hb hts k_X5_copy_2 hown hK hP 4 rfl rfl 0 (by decide) (hts _ k_X5_copy_3) (fun _ h9 => h9) rfl dX5_copy_59 ?_
              refine lv_icmp_eq (tgt := 68) hx hb dX5_copy_62 (by decide) (fun c123 => ?_) (fun c123 => ?_)
              · have hm := gk_it c123 hm
                refine lv_aload hx hb dX5_copy_68 (lv_at hl 1 rfl) ?_
                refine lv_iload_n hx hb dX5_copy_70 rfl (lv_at hl 4 rfl) ?_
                refine lv_iload hx hb dX5_copy_71 (lv_at hl 7 rfl) ?_
                obtain ⟨r124, hq, hm⟩ := gk_bd1_some hm
                refine gk_callV (n := 2) (bytes := cX2_hasStretch) (maxL := 3) (ret := (some .boolean)) (Cn := RX2) (T := TX2) (N := 3) [(a0, .inr (4, [.ref a1, .ref a7, .int f_isKept, .ref a13, .ref a15, .ref a18])), (a18, gk_R G 4 (gk_four a19 a21 a23 a25)), (a20, gk_J G 80 f_numbers_r0_values), (a21, .inr (1, [.int f_numbers_r1_sort, .int f_numbers_r1_size, .ref a22])), (a22, gk_J G 80 f_numbers_r1_values), (a23, .inr (1, [.int f_numbers_r2_sort, .int f_numbers_r2_size, .ref a24])), (a24, gk_J G 80 f_numbers_r2_values), (a25, .inr (1, [.int f_numbers_r3_sort, .int f_numbers_r3_size, .ref a26])), (a26, gk_J G 80 f_numbers_r3_values)] [(a0, .inr (4, [.ref a1, .ref a7, .int f_isKept, .ref a13, .ref a15, .ref a18])), (a18, gk_R G 4 (gk_four a19 a21 a23 a25)), (a19, .inr (1, [.int f_numbers_r0_sort, .int f_numbers_r0_size, .ref a20])), (a20, gk_J G 80 f_numbers_r0_values), (a21, .inr (1, [.int f_numbers_r1_sort, .int f_numbers_r1_size, .ref a22])), (a22, gk_J G 80 f_numbers_r1_values), (a23, .inr (1, [.int f_numbers_r2_sort, .int f_numbers_r2_size, .ref a24])), (a24, gk_J G 80 f_numbers_r2_values), (a25, .inr (1, [.int f_numbers_r3_sort, .int f_numbers_r3_size, .ref a26])), (a26, gk_J G 80 f_numbers_r3_values)] [] C ⟨hP, hD, hS⟩ (c_X2_hasStretch l G a19 a20 f_numbers_r0_sort f_numbers_r0_size x2 x5 hq) gX5_copy_X2_hasStretch dX5_copy_73 hl.1 [2] [0, 1, 3, 4, 5, 6, 7, 8, 9] [0, 1, 9, 2, 3, 4, 5, 6, 7, 8] rfl rfl ⟨rfl, rfl⟩ ⟨Nat.le_of_ble_eq_true rfl, Nat.le_of_ble_eq_true rfl⟩ ⟨rfl, by decide +kernel, by decide +kernel, by decide +kernel⟩ rfl (fun h => by cases h) (Nat.le_of_ble_eq_true rfl) rfl rfl rfl rfl (by decide) rfl rfl (fun H locs h => ?_)
                obtain ⟨hP, hD, hS⟩ := h
                refine lv_if_eq (tgt := 91) hx hb dX5_copy_76 (by decide) (fun c125 => ?_) (fun c125 => ?_)
                · have hm := gk_it c125 hm
                  refine lv_bipush (v := -12) hx hb dX5_copy_91 (by decide) ?_
                  rw [kr _ _ _ _ _ (Option.some.inj hm).symm]
                  exact gk_iret C ⟨hP, hD, hS⟩ dX5_copy_93
                · have hm := gk_if c125 hm
                  refine lv_aload hx hb dX5_copy_79 (lv_at hl 0 rfl) ?_
                  refine lv_iload hx hb dX5_copy_81 (lv_at hl 6 rfl) ?_
                  refine lv_iload hx hb dX5_copy_83 (lv_at hl 7 rfl) ?_
                  obtain ⟨r126, hq, hm⟩ := gk_bd1_some hm
                  refine gk_callV (n := 2) (bytes := cX2_hasStretch) (maxL := 3) (ret := (some .boolean)) (Cn := RX2) (T := TX2) (N := 3) [(a0, .inr (4, [.ref a1, .ref a7, .int f_isKept, .ref a13, .ref a15, .ref a18])), (a18, gk_R G 4 (gk_four a19 a21 a23 a25)), (a19, .inr (1, [.int f_numbers_r0_sort, .int f_numbers_r0_size, .ref a20])), (a20, gk_J G 80 f_numbers_r0_values), (a22, gk_J G 80 f_numbers_r1_values), (a23, .inr (1, [.int f_numbers_r2_sort, .int f_numbers_r2_size, .ref a24])), (a24, gk_J G 80 f_numbers_r2_values), (a25, .inr (1, [.int f_numbers_r3_sort, .int f_numbers_r3_size, .ref a26])), (a26, gk_J G 80 f_numbers_r3_values)] [(a0, .inr (4, [.ref a1, .ref a7, .int f_isKept, .ref a13, .ref a15, .ref a18])), (a18, gk_R G 4 (gk_four a19 a21 a23 a25)), (a19, .inr (1, [.int f_numbers_r0_sort, .int f_numbers_r0_size, .ref a20])), (a20, gk_J G 80 f_numbers_r0_values), (a21, .inr (1, [.int f_numbers_r1_sort, .int f_numbers_r1_size, .ref a22])), (a22, gk_J G 80 f_numbers_r1_values), (a23, .inr (1, [.int f_numbers_r2_sort, .int f_numbers_r2_size, .ref a24])), (a24, gk_J G 80 f_numbers_r2_values), (a25, .inr (1, [.int f_numbers_r3_sort, .int f_numbers_r3_size, .ref a26])), (a26, gk_J G 80 f_numbers_r3_values)] [] C ⟨hP, hD, hS⟩ (c_X2_hasStretch l G a21 a22 f_numbers_r1_sort f_numbers_r1_size x4 x5 hq) gX5_copy_X2_hasStretch dX5_copy_85 hl.1 [4] [0, 1, 2, 3, 5, 6, 7, 8, 9] [0, 1, 2, 3, 9, 4, 5, 6, 7, 8] rfl rfl ⟨rfl, rfl⟩ ⟨Nat.le_of_ble_eq_true rfl, Nat.le_of_ble_eq_true rfl⟩ ⟨rfl, by decide +kernel, by decide +kernel, by decide +kernel⟩ rfl (fun h => by cases h) (Nat.le_of_ble_eq_true rfl) rfl rfl rfl rfl (by decide) rfl rfl (fun H locs h => ?_)
                  obtain ⟨hP, hD, hS⟩ := h
                  refine lv_if_ne (tgt := 94) hx hb dX5_copy_88 (by decide) (fun c127 => ?_) (fun c127 => ?_)
                  · have hm := gk_if c127 hm
                    refine lv_aload hx hb dX5_copy_94 (lv_at hl 1 rfl) ?_
                    refine va_get (D := G.1) (cl := vwCl) (own := RX5) (ref := "ExchangeFamilies$Numbers") (ci := 1) (v := .ref a20) (C := RX2) (T := TX2) (N := 3) hx hb hts k_X5_copy_2 hown hK hP 2 rfl rfl 2 (by decide) (hts _ k_X5_copy_4) (fun _ h9 => h9) rfl dX5_copy_96 ?_
                    refine lv_iload_n hx hb dX5_copy_99 rfl (lv_at hl 4 rfl) ?_
                    refine lv_aload hx hb dX5_copy_100 (lv_at hl 0 rfl) ?_
                    refine va_get (D := G.1) (cl := vwCl) (own := RX5) (ref := "ExchangeFamilies$Numbers") (ci := 1) (v := .ref a22) (C := RX2) (T := TX2) (N := 3) hx hb hts k_X5_copy_2 hown hK hP 4 rfl rfl 2 (by decide) (hts _ k_X5_copy_4) (fun _ h9 => h9) rfl dX5_copy_102 ?_
                    refine lv_iload hx hb dX5_copy_105 (lv_at hl 6 rfl) ?_
                    refine lv_iload hx hb dX5_copy_107 (lv_at hl 7 rfl) ?_
                    obtain ⟨⟨hc1, hc2, hc3, hc4, hc5⟩, hm⟩ := gk_cp_some hm
                    refine va_copyl (own := RX5) hx hb (by rw [hml]; exact hl.1.symm) hown (hts _ k_X5_copy_5) (hts _ k_X5_copy_6) (hts _ k_X5_copy_7) (hts _ k_X5_copy_8) hK hP hD hS 3 5 1 1 rfl rfl rfl rfl rfl hc1 hc2 hc3 hc4 hc5 (fun _ _ => rfl) (Nat.le_of_ble_eq_true rfl) (Nat.le_of_ble_eq_true rfl) dX5_copy_109 (fun H locs hP hD hS => ?_)
                    have hP : va_P G.1 vwCl [(a0, .inr (4, [.ref a1, .ref a7, .int f_isKept, .ref a13, .ref a15, .ref a18])), (a18, gk_R G 4 (gk_four a19 a21 a23 a25)), (a19, .inr (1, [.int f_numbers_r0_sort, .int f_numbers_r0_size, .ref a20])), (a20, gk_J G 80 f_numbers_r0_values), (a21, .inr (1, [.int f_numbers_r1_sort, .int f_numbers_r1_size, .ref a22])), (a22, gk_J G 80 (va_cpy f_numbers_r0_values f_numbers_r1_values x2.toNatClampNeg x4.toNatClampNeg x5.toNatClampNeg)), (a23, .inr (1, [.int f_numbers_r2_sort, .int f_numbers_r2_size, .ref a24])), (a24, gk_J G 80 f_numbers_r2_values), (a25, .inr (1, [.int f_numbers_r3_sort, .int f_numbers_r3_size, .ref a26])), (a26, gk_J G 80 f_numbers_r3_values)] H := hP
                    have hD : va_D A [(a0, .inr (4, [.ref a1, .ref a7, .int f_isKept, .ref a13, .ref a15, .ref a18])), (a18, gk_R G 4 (gk_four a19 a21 a23 a25)), (a19, .inr (1, [.int f_numbers_r0_sort, .int f_numbers_r0_size, .ref a20])), (a20, gk_J G 80 f_numbers_r0_values), (a21, .inr (1, [.int f_numbers_r1_sort, .int f_numbers_r1_size, .ref a22])), (a22, gk_J G 80 (va_cpy f_numbers_r0_values f_numbers_r1_values x2.toNatClampNeg x4.toNatClampNeg x5.toNatClampNeg)), (a23, .inr (1, [.int f_numbers_r2_sort, .int f_numbers_r2_size, .ref a24])), (a24, gk_J G 80 f_numbers_r2_values), (a25, .inr (1, [.int f_numbers_r3_sort, .int f_numbers_r3_size, .ref a26])), (a26, gk_J G 80 f_numbers_r3_values)] := hD
                    refine lv_iload hx hb dX5_copy_112 (lv_at hl 7 rfl) ?_
                    rw [kr _ _ _ _ _ (Option.some.inj hm).symm]
                    exact gk_iret C ⟨hP, hD, hS⟩ dX5_copy_114
                  · have hm := gk_it c127 hm
                    refine lv_bipush (v := -12) hx hb dX5_copy_91 (by decide) ?_
                    rw [kr _ _ _ _ _ (Option.some.inj hm).symm]
                    exact gk_iret C ⟨hP, hD, hS⟩ dX5_copy_93
              · have hm := gk_if c123 hm
                refine lv_bipush (v := -13) hx hb dX5_copy_65 (by decide) ?_
                rw [kr _ _ _ _ _ (Option.some.inj hm).symm]
                exact gk_iret C ⟨hP, hD, hS⟩ dX5_copy_67
            · have hm := gk_if c122 hm
              refine lv_bipush (v := -11) hx hb dX5_copy_49 (by decide) ?_
              rw [kr _ _ _ _ _ (Option.some.inj hm).symm]
              exact gk_iret C ⟨hP, hD, hS⟩ dX5_copy_51
        have hm := gk_if c118 hm
        by_cases c128 : x3 = 2
        · have hm := gk_it c128 hm
          refine gk_aald (k := 2) (v := a23) C hP 1 rfl c128 (by decide) (by decide) rfl dX5_copy_30 ?_
          refine lv_astore (lv' := [(7, .ref a23), (6, .ref a19), (0, .ref a0), (1, .int x1), (2, .int x2), (3, .int x3), (4, .int x4), (5, .int x5)]) hx hb dX5_copy_31 hl (by decide) rfl (fun ls hl => ?_)
          refine lv_aload hx hb dX5_copy_33 (lv_at hl 1 rfl) ?_
          obtain ⟨r129, hq, hm⟩ := gk_bd1_some hm
          refine gk_callV (n := 0) (bytes := cX2_isMissing) (maxL := 1) (ret := (some .boolean)) (Cn := RX2) (T := TX2) (N := 3) [(a0, .inr (4, [.ref a1, .ref a7, .int f_isKept, .ref a13, .ref a15, .ref a18])), (a18, gk_R G 4 (gk_four a19 a21 a23 a25)), (a20, gk_J G 80 f_numbers_r0_values), (a21, .inr (1, [.int f_numbers_r1_sort, .int f_numbers_r1_size, .ref a22])), (a22, gk_J G 80 f_numbers_r1_values), (a23, .inr (1, [.int f_numbers_r2_sort, .int f_numbers_r2_size, .ref a24])), (a24, gk_J G 80 f_numbers_r2_values), (a25, .inr (1, [.int f_numbers_r3_sort, .int f_numbers_r3_size, .ref a26])), (a26, gk_J G 80 f_numbers_r3_values)] [(a0, .inr (4, [.ref a1, .ref a7, .int f_isKept, .ref a13, .ref a15, .ref a18])), (a18, gk_R G 4 (gk_four a19 a21 a23 a25)), (a19, .inr (1, [.int f_numbers_r0_sort, .int f_numbers_r0_size, .ref a20])), (a20, gk_J G 80 f_numbers_r0_values), (a21, .inr (1, [.int f_numbers_r1_sort, .int f_numbers_r1_size, .ref a22])), (a22, gk_J G 80 f_numbers_r1_values), (a23, .inr (1, [.int f_numbers_r2_sort, .int f_numbers_r2_size, .ref a24])), (a24, gk_J G 80 f_numbers_r2_values), (a25, .inr (1, [.int f_numbers_r3_sort, .int f_numbers_r3_size, .ref a26])), (a26, gk_J G 80 f_numbers_r3_values)] [] C ⟨hP, hD, hS⟩ (c_X2_isMissing l G a19 a20 f_numbers_r0_sort f_numbers_r0_size hq) gX5_copy_X2_isMissing dX5_copy_35 hl.1 [2] [0, 1, 3, 4, 5, 6, 7, 8, 9] [0, 1, 9, 2, 3, 4, 5, 6, 7, 8] rfl rfl ⟨rfl, rfl⟩ ⟨Nat.le_of_ble_eq_true rfl, Nat.le_of_ble_eq_true rfl⟩ ⟨rfl, by decide +kernel, by decide +kernel, by decide +kernel⟩ rfl (fun h => by cases h) (Nat.le_of_ble_eq_true rfl) rfl rfl rfl rfl (by decide) rfl rfl (fun H locs h => ?_)
          obtain ⟨hP, hD, hS⟩ := h
          refine lv_if_ne (tgt := 49) hx hb dX5_copy_38 (by decide) (fun c130 => ?_) (fun c130 => ?_)
          · have hm := gk_if c130 hm
            refine lv_bipush (v := -11) hx hb dX5_copy_49 (by decide) ?_
            rw [kr _ _ _ _ _ (Option.some.inj hm).symm]
            exact gk_iret C ⟨hP, hD, hS⟩ dX5_copy_51
          · have hm := gk_it c130 hm
            refine lv_aload hx hb dX5_copy_41 (lv_at hl 0 rfl) ?_
            obtain ⟨r131, hq, hm⟩ := gk_bd1_some hm
            refine gk_callV (n := 0) (bytes := cX2_isMissing) (maxL := 1) (ret := (some .boolean)) (Cn := RX2) (T := TX2) (N := 3) [(a0, .inr (4, [.ref a1, .ref a7, .int f_isKept, .ref a13, .ref a15, .ref a18])), (a18, gk_R G 4 (gk_four a19 a21 a23 a25)), (a19, .inr (1, [.int f_numbers_r0_sort, .int f_numbers_r0_size, .ref a20])), (a20, gk_J G 80 f_numbers_r0_values), (a21, .inr (1, [.int f_numbers_r1_sort, .int f_numbers_r1_size, .ref a22])), (a22, gk_J G 80 f_numbers_r1_values), (a24, gk_J G 80 f_numbers_r2_values), (a25, .inr (1, [.int f_numbers_r3_sort, .int f_numbers_r3_size, .ref a26])), (a26, gk_J G 80 f_numbers_r3_values)] [(a0, .inr (4, [.ref a1, .ref a7, .int f_isKept, .ref a13, .ref a15, .ref a18])), (a18, gk_R G 4 (gk_four a19 a21 a23 a25)), (a19, .inr (1, [.int f_numbers_r0_sort, .int f_numbers_r0_size, .ref a20])), (a20, gk_J G 80 f_numbers_r0_values), (a21, .inr (1, [.int f_numbers_r1_sort, .int f_numbers_r1_size, .ref a22])), (a22, gk_J G 80 f_numbers_r1_values), (a23, .inr (1, [.int f_numbers_r2_sort, .int f_numbers_r2_size, .ref a24])), (a24, gk_J G 80 f_numbers_r2_values), (a25, .inr (1, [.int f_numbers_r3_sort, .int f_numbers_r3_size, .ref a26])), (a26, gk_J G 80 f_numbers_r3_values)] [] C ⟨hP, hD, hS⟩ (c_X2_isMissing l G a23 a24 f_numbers_r2_sort f_numbers_r2_size hq) gX5_copy_X2_isMissing dX5_copy_43 hl.1 [6] [0, 1, 2, 3, 4, 5, 7, 8, 9] [0, 1, 2, 3, 4, 5, 9, 6, 7, 8] rfl rfl ⟨rfl, rfl⟩ ⟨Nat.le_of_ble_eq_true rfl, Nat.le_of_ble_eq_true rfl⟩ ⟨rfl, by decide +kernel, by decide +kernel, by decide +kernel⟩ rfl (fun h => by cases h) (Nat.le_of_ble_eq_true rfl) rfl rfl rfl rfl (by decide) rfl rfl (fun H locs h => ?_)
            obtain ⟨hP, hD, hS⟩ := h
            refine lv_if_eq (tgt := 52) hx hb dX5_copy_46 (by decide) (fun c132 => ?_) (fun c132 => ?_)
            · have hm := gk_it c132 hm
              refine lv_aload hx hb dX5_copy_52 (lv_at hl 1 rfl) ?_
              refine va_get (D := G.1) (cl := vwCl) (own := RX5) (ref := "ExchangeFamilies$Numbers") (ci := 1) (v := .int f_numbers_r0_sort) (C := RX2) (T := TX2) (N := 3) hx hb hts k_X5_copy_2 hown hK hP 2 rfl rfl 0 (by decide) (hts _ k_X5_copy_3) (fun _ h9 => h9) rfl dX5_copy_54 ?_
              refine lv_aload hx hb dX5_copy_57 (lv_at hl 0 rfl) ?_
              refine va_get (D := G.1) (cl := vwCl) (own := RX5) (ref := "ExchangeFamilies$Numbers") (ci := 1) (v := .int f_numbers_r2_sort) (C := RX2) (T := TX2) (N := 3) hx hb hts k_X5_copy_2 hown hK hP 6 rfl rfl 0 (by decide) (hts _ k_X5_copy_3) (fun _ h9 => h9) rfl dX5_copy_59 ?_
              refine lv_icmp_eq (tgt := 68) hx hb dX5_copy_62 (by decide) (fun c133 => ?_) (fun c133 => ?_)
              · have hm := gk_it c133 hm
                refine lv_aload hx hb dX5_copy_68 (lv_at hl 1 rfl) ?_
                refine lv_iload_n hx hb dX5_copy_70 rfl (lv_at hl 4 rfl) ?_
                refine lv_iload hx hb dX5_copy_71 (lv_at hl 7 rfl) ?_
                obtain ⟨r134, hq, hm⟩ := gk_bd1_some hm
                refine gk_callV (n := 2) (bytes := cX2_hasStretch) (maxL := 3) (ret := (some .boolean)) (Cn := RX2) (T := TX2) (N := 3) [(a0, .inr (4, [.ref a1, .ref a7, .int f_isKept, .ref a13, .ref a15, .ref a18])), (a18, gk_R G 4 (gk_four a19 a21 a23 a25)), (a20, gk_J G 80 f_numbers_r0_values), (a21, .inr (1, [.int f_numbers_r1_sort, .int f_numbers_r1_size, .ref a22])), (a22, gk_J G 80 f_numbers_r1_values), (a23, .inr (1, [.int f_numbers_r2_sort, .int f_numbers_r2_size, .ref a24])), (a24, gk_J G 80 f_numbers_r2_values), (a25, .inr (1, [.int f_numbers_r3_sort, .int f_numbers_r3_size, .ref a26])), (a26, gk_J G 80 f_numbers_r3_values)] [(a0, .inr (4, [.ref a1, .ref a7, .int f_isKept, .ref a13, .ref a15, .ref a18])), (a18, gk_R G 4 (gk_four a19 a21 a23 a25)), (a19, .inr (1, [.int f_numbers_r0_sort, .int f_numbers_r0_size, .ref a20])), (a20, gk_J G 80 f_numbers_r0_values), (a21, .inr (1, [.int f_numbers_r1_sort, .int f_numbers_r1_size, .ref a22])), (a22, gk_J G 80 f_numbers_r1_values), (a23, .inr (1, [.int f_numbers_r2_sort, .int f_numbers_r2_size, .ref a24])), (a24, gk_J G 80 f_numbers_r2_values), (a25, .inr (1, [.int f_numbers_r3_sort, .int f_numbers_r3_size, .ref a26])), (a26, gk_J G 80 f_numbers_r3_values)] [] C ⟨hP, hD, hS⟩ (c_X2_hasStretch l G a19 a20 f_numbers_r0_sort f_numbers_r0_size x2 x5 hq) gX5_copy_X2_hasStretch dX5_copy_73 hl.1 [2] [0, 1, 3, 4, 5, 6, 7, 8, 9] [0, 1, 9, 2, 3, 4, 5, 6, 7, 8] rfl rfl ⟨rfl, rfl⟩ ⟨Nat.le_of_ble_eq_true rfl, Nat.le_of_ble_eq_true rfl⟩ ⟨rfl, by decide +kernel, by decide +kernel, by decide +kernel⟩ rfl (fun h => by cases h) (Nat.le_of_ble_eq_true rfl) rfl rfl rfl rfl (by decide) rfl rfl (fun H locs h => ?_)
                obtain ⟨hP, hD, hS⟩ := h
                refine lv_if_eq (tgt := 91) hx hb dX5_copy_76 (by decide) (fun c135 => ?_) (fun c135 => ?_)
                · have hm := gk_it c135 hm
                  refine lv_bipush (v := -12) hx hb dX5_copy_91 (by decide) ?_
                  rw [kr _ _ _ _ _ (Option.some.inj hm).symm]
                  exact gk_iret C ⟨hP, hD, hS⟩ dX5_copy_93
                · have hm := gk_if c135 hm
                  refine lv_aload hx hb dX5_copy_79 (lv_at hl 0 rfl) ?_
                  refine lv_iload hx hb dX5_copy_81 (lv_at hl 6 rfl) ?_
                  refine lv_iload hx hb dX5_copy_83 (lv_at hl 7 rfl) ?_
                  obtain ⟨r136, hq, hm⟩ := gk_bd1_some hm
                  refine gk_callV (n := 2) (bytes := cX2_hasStretch) (maxL := 3) (ret := (some .boolean)) (Cn := RX2) (T := TX2) (N := 3) [(a0, .inr (4, [.ref a1, .ref a7, .int f_isKept, .ref a13, .ref a15, .ref a18])), (a18, gk_R G 4 (gk_four a19 a21 a23 a25)), (a19, .inr (1, [.int f_numbers_r0_sort, .int f_numbers_r0_size, .ref a20])), (a20, gk_J G 80 f_numbers_r0_values), (a21, .inr (1, [.int f_numbers_r1_sort, .int f_numbers_r1_size, .ref a22])), (a22, gk_J G 80 f_numbers_r1_values), (a24, gk_J G 80 f_numbers_r2_values), (a25, .inr (1, [.int f_numbers_r3_sort, .int f_numbers_r3_size, .ref a26])), (a26, gk_J G 80 f_numbers_r3_values)] [(a0, .inr (4, [.ref a1, .ref a7, .int f_isKept, .ref a13, .ref a15, .ref a18])), (a18, gk_R G 4 (gk_four a19 a21 a23 a25)), (a19, .inr (1, [.int f_numbers_r0_sort, .int f_numbers_r0_size, .ref a20])), (a20, gk_J G 80 f_numbers_r0_values), (a21, .inr (1, [.int f_numbers_r1_sort, .int f_numbers_r1_size, .ref a22])), (a22, gk_J G 80 f_numbers_r1_values), (a23, .inr (1, [.int f_numbers_r2_sort, .int f_numbers_r2_size, .ref a24])), (a24, gk_J G 80 f_numbers_r2_values), (a25, .inr (1, [.int f_numbers_r3_sort, .int f_numbers_r3_size, .ref a26])), (a26, gk_J G 80 f_numbers_r3_values)] [] C ⟨hP, hD, hS⟩ (c_X2_hasStretch l G a23 a24 f_numbers_r2_sort f_numbers_r2_size x4 x5 hq) gX5_copy_X2_hasStretch dX5_copy_85 hl.1 [6] [0, 1, 2, 3, 4, 5, 7, 8, 9] [0, 1, 2, 3, 4, 5, 9, 6, 7, 8] rfl rfl ⟨rfl, rfl⟩ ⟨Nat.le_of_ble_eq_true rfl, Nat.le_of_ble_eq_true rfl⟩ ⟨rfl, by decide +kernel, by decide +kernel, by decide +kernel⟩ rfl (fun h => by cases h) (Nat.le_of_ble_eq_true rfl) rfl rfl rfl rfl (by decide) rfl rfl (fun H locs h => ?_)
                  obtain ⟨hP, hD, hS⟩ := h
                  refine lv_if_ne (tgt := 94) hx hb dX5_copy_88 (by decide) (fun c137 => ?_) (fun c137 => ?_)
                  · have hm := gk_if c137 hm
                    refine lv_aload hx hb dX5_copy_94 (lv_at hl 1 rfl) ?_
                    refine va_get (D := G.1) (cl := vwCl) (own := RX5) (ref := "ExchangeFamilies$Numbers") (ci := 1) (v := .ref a20) (C := RX2) (T := TX2) (N := 3) hx hb hts k_X5_copy_2 hown hK hP 2 rfl rfl 2 (by decide) (hts _ k_X5_copy_4) (fun _ h9 => h9) rfl dX5_copy_96 ?_
                    refine lv_iload_n hx hb dX5_copy_99 rfl (lv_at hl 4 rfl) ?_
                    refine lv_aload hx hb dX5_copy_100 (lv_at hl 0 rfl) ?_
                    refine va_get (D := G.1) (cl := vwCl) (own := RX5) (ref := "ExchangeFamilies$Numbers") (ci := 1) (v := .ref a24) (C := RX2) (T := TX2) (N := 3) hx hb hts k_X5_copy_2 hown hK hP 6 rfl rfl 2 (by decide) (hts _ k_X5_copy_4) (fun _ h9 => h9) rfl dX5_copy_102 ?_
                    refine lv_iload hx hb dX5_copy_105 (lv_at hl 6 rfl) ?_
                    refine lv_iload hx hb dX5_copy_107 (lv_at hl 7 rfl) ?_
                    obtain ⟨⟨hc1, hc2, hc3, hc4, hc5⟩, hm⟩ := gk_cp_some hm
                    refine va_copyl (own := RX5) hx hb (by rw [hml]; exact hl.1.symm) hown (hts _ k_X5_copy_5) (hts _ k_X5_copy_6) (hts _ k_X5_copy_7) (hts _ k_X5_copy_8) hK hP hD hS 3 7 1 1 rfl rfl rfl rfl rfl hc1 hc2 hc3 hc4 hc5 (fun _ _ => rfl) (Nat.le_of_ble_eq_true rfl) (Nat.le_of_ble_eq_true rfl) dX5_copy_109 (fun H locs hP hD hS => ?_)
                    have hP : va_P G.1 vwCl [(a0, .inr (4, [.ref a1, .ref a7, .int f_isKept, .ref a13, .ref a15, .ref a18])), (a18, gk_R G 4 (gk_four a19 a21 a23 a25)), (a19, .inr (1, [.int f_numbers_r0_sort, .int f_numbers_r0_size, .ref a20])), (a20, gk_J G 80 f_numbers_r0_values), (a21, .inr (1, [.int f_numbers_r1_sort, .int f_numbers_r1_size, .ref a22])), (a22, gk_J G 80 f_numbers_r1_values), (a23, .inr (1, [.int f_numbers_r2_sort, .int f_numbers_r2_size, .ref a24])), (a24, gk_J G 80 (va_cpy f_numbers_r0_values f_numbers_r2_values x2.toNatClampNeg x4.toNatClampNeg x5.toNatClampNeg)), (a25, .inr (1, [.int f_numbers_r3_sort, .int f_numbers_r3_size, .ref a26])), (a26, gk_J G 80 f_numbers_r3_values)] H := hP
                    have hD : va_D A [(a0, .inr (4, [.ref a1, .ref a7, .int f_isKept, .ref a13, .ref a15, .ref a18])), (a18, gk_R G 4 (gk_four a19 a21 a23 a25)), (a19, .inr (1, [.int f_numbers_r0_sort, .int f_numbers_r0_size, .ref a20])), (a20, gk_J G 80 f_numbers_r0_values), (a21, .inr (1, [.int f_numbers_r1_sort, .int f_numbers_r1_size, .ref a22])), (a22, gk_J G 80 f_numbers_r1_values), (a23, .inr (1, [.int f_numbers_r2_sort, .int f_numbers_r2_size, .ref a24])), (a24, gk_J G 80 (va_cpy f_numbers_r0_values f_numbers_r2_values x2.toNatClampNeg x4.toNatClampNeg x5.toNatClampNeg)), (a25, .inr (1, [.int f_numbers_r3_sort, .int f_numbers_r3_size, .ref a26])), (a26, gk_J G 80 f_numbers_r3_values)] := hD
                    refine lv_iload hx hb dX5_copy_112 (lv_at hl 7 rfl) ?_
                    rw [kr _ _ _ _ _ (Option.some.inj hm).symm]
                    exact gk_iret C ⟨hP, hD, hS⟩ dX5_copy_114
                  · have hm := gk_it c137 hm
                    refine lv_bipush (v := -12) hx hb dX5_copy_91 (by decide) ?_
                    rw [kr _ _ _ _ _ (Option.some.inj hm).symm]
                    exact gk_iret C ⟨hP, hD, hS⟩ dX5_copy_93
              · have hm := gk_if c133 hm
                refine lv_bipush (v := -13) hx hb dX5_copy_65 (by decide) ?_
                rw [kr _ _ _ _ _ (Option.some.inj hm).symm]
                exact gk_iret C ⟨hP, hD, hS⟩ dX5_copy_67
            · have hm := gk_if c132 hm
              refine lv_bipush (v := -11) hx hb dX5_copy_49 (by decide) ?_
              rw [kr _ _ _ _ _ (Option.some.inj hm).symm]
              exact gk_iret C ⟨hP, hD, hS⟩ dX5_copy_51
        have hm := gk_if c128 hm
        by_cases c138 : x3 = 3
        · have hm := gk_it c138 hm
          refine gk_aald (k := 3) (v := a25) C hP 1 rfl c138 (by decide) (by decide) rfl dX5_copy_30 ?_
          refine lv_astore (lv' := [(7, .ref a25), (6, .ref a19), (0, .ref a0), (1, .int x1), (2, .int x2), (3, .int x3), (4, .int x4), (5, .int x5)]) hx hb dX5_copy_31 hl (by decide) rfl (fun ls hl => ?_)
          refine lv_aload hx hb dX5_copy_33 (lv_at hl 1 rfl) ?_
          obtain ⟨r139, hq, hm⟩ := gk_bd1_some hm
          refine gk_callV (n := 0) (bytes := cX2_isMissing) (maxL := 1) (ret := (some .boolean)) (Cn := RX2) (T := TX2) (N := 3) [(a0, .inr (4, [.ref a1, .ref a7, .int f_isKept, .ref a13, .ref a15, .ref a18])), (a18, gk_R G 4 (gk_four a19 a21 a23 a25)), (a20, gk_J G 80 f_numbers_r0_values), (a21, .inr (1, [.int f_numbers_r1_sort, .int f_numbers_r1_size, .ref a22])), (a22, gk_J G 80 f_numbers_r1_values), (a23, .inr (1, [.int f_numbers_r2_sort, .int f_numbers_r2_size, .ref a24])), (a24, gk_J G 80 f_numbers_r2_values), (a25, .inr (1, [.int f_numbers_r3_sort, .int f_numbers_r3_size, .ref a26])), (a26, gk_J G 80 f_numbers_r3_values)] [(a0, .inr (4, [.ref a1, .ref a7, .int f_isKept, .ref a13, .ref a15, .ref a18])), (a18, gk_R G 4 (gk_four a19 a21 a23 a25)), (a19, .inr (1, [.int f_numbers_r0_sort, .int f_numbers_r0_size, .ref a20])), (a20, gk_J G 80 f_numbers_r0_values), (a21, .inr (1, [.int f_numbers_r1_sort, .int f_numbers_r1_size, .ref a22])), (a22, gk_J G 80 f_numbers_r1_values), (a23, .inr (1, [.int f_numbers_r2_sort, .int f_numbers_r2_size, .ref a24])), (a24, gk_J G 80 f_numbers_r2_values), (a25, .inr (1, [.int f_numbers_r3_sort, .int f_numbers_r3_size, .ref a26])), (a26, gk_J G 80 f_numbers_r3_values)] [] C ⟨hP, hD, hS⟩ (c_X2_isMissing l G a19 a20 f_numbers_r0_sort f_numbers_r0_size hq) gX5_copy_X2_isMissing dX5_copy_35 hl.1 [2] [0, 1, 3, 4, 5, 6, 7, 8, 9] [0, 1, 9, 2, 3, 4, 5, 6, 7, 8] rfl rfl ⟨rfl, rfl⟩ ⟨Nat.le_of_ble_eq_true rfl, Nat.le_of_ble_eq_true rfl⟩ ⟨rfl, by decide +kernel, by decide +kernel, by decide +kernel⟩ rfl (fun h => by cases h) (Nat.le_of_ble_eq_true rfl) rfl rfl rfl rfl (by decide) rfl rfl (fun H locs h => ?_)
          obtain ⟨hP, hD, hS⟩ := h
          refine lv_if_ne (tgt := 49) hx hb dX5_copy_38 (by decide) (fun c140 => ?_) (fun c140 => ?_)
          · have hm := gk_if c140 hm
            refine lv_bipush (v := -11) hx hb dX5_copy_49 (by decide) ?_
            rw [kr _ _ _ _ _ (Option.some.inj hm).symm]
            exact gk_iret C ⟨hP, hD, hS⟩ dX5_copy_51
          · have hm := gk_it c140 hm
            refine lv_aload hx hb dX5_copy_41 (lv_at hl 0 rfl) ?_
            obtain ⟨r141, hq, hm⟩ := gk_bd1_some hm
            refine gk_callV (n := 0) (bytes := cX2_isMissing) (maxL := 1) (ret := (some .boolean)) (Cn := RX2) (T := TX2) (N := 3) [(a0, .inr (4, [.ref a1, .ref a7, .int f_isKept, .ref a13, .ref a15, .ref a18])), (a18, gk_R G 4 (gk_four a19 a21 a23 a25)), (a19, .inr (1, [.int f_numbers_r0_sort, .int f_numbers_r0_size, .ref a20])), (a20, gk_J G 80 f_numbers_r0_values), (a21, .inr (1, [.int f_numbers_r1_sort, .int f_numbers_r1_size, .ref a22])), (a22, gk_J G 80 f_numbers_r1_values), (a23, .inr (1, [.int f_numbers_r2_sort, .int f_numbers_r2_size, .ref a24])), (a24, gk_J G 80 f_numbers_r2_values), (a26, gk_J G 80 f_numbers_r3_values)] [(a0, .inr (4, [.ref a1, .ref a7, .int f_isKept, .ref a13, .ref a15, .ref a18])), (a18, gk_R G 4 (gk_four a19 a21 a23 a25)), (a19, .inr (1, [.int f_numbers_r0_sort, .int f_numbers_r0_size, .ref a20])), (a20, gk_J G 80 f_numbers_r0_values), (a21, .inr (1, [.int f_numbers_r1_sort, .int f_numbers_r1_size, .ref a22])), (a22, gk_J G 80 f_numbers_r1_values), (a23, .inr (1, [.int f_numbers_r2_sort, .int f_numbers_r2_size, .ref a24])), (a24, gk_J G 80 f_numbers_r2_values), (a25, .inr (1, [.int f_numbers_r3_sort, .int f_numbers_r3_size, .ref a26])), (a26, gk_J G 80 f_numbers_r3_values)] [] C ⟨hP, hD, hS⟩ (c_X2_isMissing l G a25 a26 f_numbers_r3_sort f_numbers_r3_size hq) gX5_copy_X2_isMissing dX5_copy_43 hl.1 [8] [0, 1, 2, 3, 4, 5, 6, 7, 9] [0, 1, 2, 3, 4, 5, 6, 7, 9, 8] rfl rfl ⟨rfl, rfl⟩ ⟨Nat.le_of_ble_eq_true rfl, Nat.le_of_ble_eq_true rfl⟩ ⟨rfl, by decide +kernel, by decide +kernel, by decide +kernel⟩ rfl (fun h => by cases h) (Nat.le_of_ble_eq_true rfl) rfl rfl rfl rfl (by decide) rfl rfl (fun H locs h => ?_)
            obtain ⟨hP, hD, hS⟩ := h
            refine lv_if_eq (tgt := 52) hx hb dX5_copy_46 (by decide) (fun c142 => ?_) (fun c142 => ?_)
            · have hm := gk_it c142 hm
              refine lv_aload hx hb dX5_copy_52 (lv_at hl 1 rfl) ?_
              refine va_get (D := G.1) (cl := vwCl) (own := RX5) (ref := "ExchangeFamilies$Numbers") (ci := 1) (v := .int f_numbers_r0_sort) (C := RX2) (T := TX2) (N := 3) hx hb hts k_X5_copy_2 hown hK hP 2 rfl rfl 0 (by decide) (hts _ k_X5_copy_3) (fun _ h9 => h9) rfl dX5_copy_54 ?_
              refine lv_aload hx hb dX5_copy_57 (lv_at hl 0 rfl) ?_
              refine va_get (D := G.1) (cl := vwCl) (own := RX5) (ref := "ExchangeFamilies$Numbers") (ci := 1) (v := .int f_numbers_r3_sort) (C := RX2) (T := TX2) (N := 3) hx hb hts k_X5_copy_2 hown hK hP 8 rfl rfl 0 (by decide) (hts _ k_X5_copy_3) (fun _ h9 => h9) rfl dX5_copy_59 ?_
              refine lv_icmp_eq (tgt := 68) hx hb dX5_copy_62 (by decide) (fun c143 => ?_) (fun c143 => ?_)
              · have hm := gk_it c143 hm
                refine lv_aload hx hb dX5_copy_68 (lv_at hl 1 rfl) ?_
                refine lv_iload_n hx hb dX5_copy_70 rfl (lv_at hl 4 rfl) ?_
                refine lv_iload hx hb dX5_copy_71 (lv_at hl 7 rfl) ?_
                obtain ⟨r144, hq, hm⟩ := gk_bd1_some hm
                refine gk_callV (n := 2) (bytes := cX2_hasStretch) (maxL := 3) (ret := (some .boolean)) (Cn := RX2) (T := TX2) (N := 3) [(a0, .inr (4, [.ref a1, .ref a7, .int f_isKept, .ref a13, .ref a15, .ref a18])), (a18, gk_R G 4 (gk_four a19 a21 a23 a25)), (a20, gk_J G 80 f_numbers_r0_values), (a21, .inr (1, [.int f_numbers_r1_sort, .int f_numbers_r1_size, .ref a22])), (a22, gk_J G 80 f_numbers_r1_values), (a23, .inr (1, [.int f_numbers_r2_sort, .int f_numbers_r2_size, .ref a24])), (a24, gk_J G 80 f_numbers_r2_values), (a25, .inr (1, [.int f_numbers_r3_sort, .int f_numbers_r3_size, .ref a26])), (a26, gk_J G 80 f_numbers_r3_values)] [(a0, .inr (4, [.ref a1, .ref a7, .int f_isKept, .ref a13, .ref a15, .ref a18])), (a18, gk_R G 4 (gk_four a19 a21 a23 a25)), (a19, .inr (1, [.int f_numbers_r0_sort, .int f_numbers_r0_size, .ref a20])), (a20, gk_J G 80 f_numbers_r0_values), (a21, .inr (1, [.int f_numbers_r1_sort, .int f_numbers_r1_size, .ref a22])), (a22, gk_J G 80 f_numbers_r1_values), (a23, .inr (1, [.int f_numbers_r2_sort, .int f_numbers_r2_size, .ref a24])), (a24, gk_J G 80 f_numbers_r2_values), (a25, .inr (1, [.int f_numbers_r3_sort, .int f_numbers_r3_size, .ref a26])), (a26, gk_J G 80 f_numbers_r3_values)] [] C ⟨hP, hD, hS⟩ (c_X2_hasStretch l G a19 a20 f_numbers_r0_sort f_numbers_r0_size x2 x5 hq) gX5_copy_X2_hasStretch dX5_copy_73 hl.1 [2] [0, 1, 3, 4, 5, 6, 7, 8, 9] [0, 1, 9, 2, 3, 4, 5, 6, 7, 8] rfl rfl ⟨rfl, rfl⟩ ⟨Nat.le_of_ble_eq_true rfl, Nat.le_of_ble_eq_true rfl⟩ ⟨rfl, by decide +kernel, by decide +kernel, by decide +kernel⟩ rfl (fun h => by cases h) (Nat.le_of_ble_eq_true rfl) rfl rfl rfl rfl (by decide) rfl rfl (fun H locs h => ?_)
                obtain ⟨hP, hD, hS⟩ := h
                refine lv_if_eq (tgt := 91) hx hb dX5_copy_76 (by decide) (fun c145 => ?_) (fun c145 => ?_)
                · have hm := gk_it c145 hm
                  refine lv_bipush (v := -12) hx hb dX5_copy_91 (by decide) ?_
                  rw [kr _ _ _ _ _ (Option.some.inj hm).symm]
                  exact gk_iret C ⟨hP, hD, hS⟩ dX5_copy_93
                · have hm := gk_if c145 hm
                  refine lv_aload hx hb dX5_copy_79 (lv_at hl 0 rfl) ?_
                  refine lv_iload hx hb dX5_copy_81 (lv_at hl 6 rfl) ?_
                  refine lv_iload hx hb dX5_copy_83 (lv_at hl 7 rfl) ?_
                  obtain ⟨r146, hq, hm⟩ := gk_bd1_some hm
                  refine gk_callV (n := 2) (bytes := cX2_hasStretch) (maxL := 3) (ret := (some .boolean)) (Cn := RX2) (T := TX2) (N := 3) [(a0, .inr (4, [.ref a1, .ref a7, .int f_isKept, .ref a13, .ref a15, .ref a18])), (a18, gk_R G 4 (gk_four a19 a21 a23 a25)), (a19, .inr (1, [.int f_numbers_r0_sort, .int f_numbers_r0_size, .ref a20])), (a20, gk_J G 80 f_numbers_r0_values), (a21, .inr (1, [.int f_numbers_r1_sort, .int f_numbers_r1_size, .ref a22])), (a22, gk_J G 80 f_numbers_r1_values), (a23, .inr (1, [.int f_numbers_r2_sort, .int f_numbers_r2_size, .ref a24])), (a24, gk_J G 80 f_numbers_r2_values), (a26, gk_J G 80 f_numbers_r3_values)] [(a0, .inr (4, [.ref a1, .ref a7, .int f_isKept, .ref a13, .ref a15, .ref a18])), (a18, gk_R G 4 (gk_four a19 a21 a23 a25)), (a19, .inr (1, [.int f_numbers_r0_sort, .int f_numbers_r0_size, .ref a20])), (a20, gk_J G 80 f_numbers_r0_values), (a21, .inr (1, [.int f_numbers_r1_sort, .int f_numbers_r1_size, .ref a22])), (a22, gk_J G 80 f_numbers_r1_values), (a23, .inr (1, [.int f_numbers_r2_sort, .int f_numbers_r2_size, .ref a24])), (a24, gk_J G 80 f_numbers_r2_values), (a25, .inr (1, [.int f_numbers_r3_sort, .int f_numbers_r3_size, .ref a26])), (a26, gk_J G 80 f_numbers_r3_values)] [] C ⟨hP, hD, hS⟩ (c_X2_hasStretch l G a25 a26 f_numbers_r3_sort f_numbers_r3_size x4 x5 hq) gX5_copy_X2_hasStretch dX5_copy_85 hl.1 [8] [0, 1, 2, 3, 4, 5, 6, 7, 9] [0, 1, 2, 3, 4, 5, 6, 7, 9, 8] rfl rfl ⟨rfl, rfl⟩ ⟨Nat.le_of_ble_eq_true rfl, Nat.le_of_ble_eq_true rfl⟩ ⟨rfl, by decide +kernel, by decide +kernel, by decide +kernel⟩ rfl (fun h => by cases h) (Nat.le_of_ble_eq_true rfl) rfl rfl rfl rfl (by decide) rfl rfl (fun H locs h => ?_)
                  obtain ⟨hP, hD, hS⟩ := h
                  refine lv_if_ne (tgt := 94) hx hb dX5_copy_88 (by decide) (fun c147 => ?_) (fun c147 => ?_)
                  · have hm := gk_if c147 hm
                    refine lv_aload hx hb dX5_copy_94 (lv_at hl 1 rfl) ?_
                    refine va_get (D := G.1) (cl := vwCl) (own := RX5) (ref := "ExchangeFamilies$Numbers") (ci := 1) (v := .ref a20) (C := RX2) (T := TX2) (N := 3) hx hb hts k_X5_copy_2 hown hK hP 2 rfl rfl 2 (by decide) (hts _ k_X5_copy_4) (fun _ h9 => h9) rfl dX5_copy_96 ?_
                    refine lv_iload_n hx hb dX5_copy_99 rfl (lv_at hl 4 rfl) ?_
                    refine lv_aload hx hb dX5_copy_100 (lv_at hl 0 rfl) ?_
                    refine va_get (D := G.1) (cl := vwCl) (own := RX5) (ref := "ExchangeFamilies$Numbers") (ci := 1) (v := .ref a26) (C := RX2) (T := TX2) (N := 3) hx hb hts k_X5_copy_2 hown hK hP 8 rfl rfl 2 (by decide) (hts _ k_X5_copy_4) (fun _ h9 => h9) rfl dX5_copy_102 ?_
                    refine lv_iload hx hb dX5_copy_105 (lv_at hl 6 rfl) ?_
                    refine lv_iload hx hb dX5_copy_107 (lv_at hl 7 rfl) ?_
                    obtain ⟨⟨hc1, hc2, hc3, hc4, hc5⟩, hm⟩ := gk_cp_some hm
                    refine va_copyl (own := RX5) hx hb (by rw [hml]; exact hl.1.symm) hown (hts _ k_X5_copy_5) (hts _ k_X5_copy_6) (hts _ k_X5_copy_7) (hts _ k_X5_copy_8) hK hP hD hS 3 9 1 1 rfl rfl rfl rfl rfl hc1 hc2 hc3 hc4 hc5 (fun _ _ => rfl) (Nat.le_of_ble_eq_true rfl) (Nat.le_of_ble_eq_true rfl) dX5_copy_109 (fun H locs hP hD hS => ?_)
                    have hP : va_P G.1 vwCl [(a0, .inr (4, [.ref a1, .ref a7, .int f_isKept, .ref a13, .ref a15, .ref a18])), (a18, gk_R G 4 (gk_four a19 a21 a23 a25)), (a19, .inr (1, [.int f_numbers_r0_sort, .int f_numbers_r0_size, .ref a20])), (a20, gk_J G 80 f_numbers_r0_values), (a21, .inr (1, [.int f_numbers_r1_sort, .int f_numbers_r1_size, .ref a22])), (a22, gk_J G 80 f_numbers_r1_values), (a23, .inr (1, [.int f_numbers_r2_sort, .int f_numbers_r2_size, .ref a24])), (a24, gk_J G 80 f_numbers_r2_values), (a25, .inr (1, [.int f_numbers_r3_sort, .int f_numbers_r3_size, .ref a26])), (a26, gk_J G 80 (va_cpy f_numbers_r0_values f_numbers_r3_values x2.toNatClampNeg x4.toNatClampNeg x5.toNatClampNeg))] H := hP
                    have hD : va_D A [(a0, .inr (4, [.ref a1, .ref a7, .int f_isKept, .ref a13, .ref a15, .ref a18])), (a18, gk_R G 4 (gk_four a19 a21 a23 a25)), (a19, .inr (1, [.int f_numbers_r0_sort, .int f_numbers_r0_size, .ref a20])), (a20, gk_J G 80 f_numbers_r0_values), (a21, .inr (1, [.int f_numbers_r1_sort, .int f_numbers_r1_size, .ref a22])), (a22, gk_J G 80 f_numbers_r1_values), (a23, .inr (1, [.int f_numbers_r2_sort, .int f_numbers_r2_size, .ref a24])), (a24, gk_J G 80 f_numbers_r2_values), (a25, .inr (1, [.int f_numbers_r3_sort, .int f_numbers_r3_size, .ref a26])), (a26, gk_J G 80 (va_cpy f_numbers_r0_values f_numbers_r3_values x2.toNatClampNeg x4.toNatClampNeg x5.toNatClampNeg))] := hD
                    refine lv_iload hx hb dX5_copy_112 (lv_at hl 7 rfl) ?_
                    rw [kr _ _ _ _ _ (Option.some.inj hm).symm]
                    exact gk_iret C ⟨hP, hD, hS⟩ dX5_copy_114
                  · have hm := gk_it c147 hm
                    refine lv_bipush (v := -12) hx hb dX5_copy_91 (by decide) ?_
                    rw [kr _ _ _ _ _ (Option.some.inj hm).symm]
                    exact gk_iret C ⟨hP, hD, hS⟩ dX5_copy_93
              · have hm := gk_if c143 hm
                refine lv_bipush (v := -13) hx hb dX5_copy_65 (by decide) ?_
                rw [kr _ _ _ _ _ (Option.some.inj hm).symm]
                exact gk_iret C ⟨hP, hD, hS⟩ dX5_copy_67
            · have hm := gk_if c142 hm
              refine lv_bipush (v := -11) hx hb dX5_copy_49 (by decide) ?_
              rw [kr _ _ _ _ _ (Option.some.inj hm).symm]
              exact gk_iret C ⟨hP, hD, hS⟩ dX5_copy_51
        have hm := gk_if c138 hm
        cases hm
      have hm := gk_if c107 hm
      by_cases c148 : x1 = 1
      · have hm := gk_it c148 hm
        refine gk_aald (k := 1) (v := a21) C hP 1 rfl c148 (by decide) (by decide) rfl dX5_copy_22 ?_
        refine lv_astore (lv' := [(6, .ref a21), (0, .ref a0), (1, .int x1), (2, .int x2), (3, .int x3), (4, .int x4), (5, .int x5)]) hx hb dX5_copy_23 hl (by decide) rfl (fun ls hl => ?_)
        refine lv_aload_n hx hb dX5_copy_25 rfl (lv_at hl 1 rfl) ?_
        refine va_get (D := G.1) (cl := vwCl) (own := RX5) (ref := "ExchangeFamilies") (ci := 4) (v := .ref a18) (C := RX5) (T := TX5) (N := 6) hx hb hts k_X5_copy_0 hown hK hP 0 rfl rfl 5 (by decide) (hts _ k_X5_copy_1) (fun _ h9 => h9) rfl dX5_copy_26 ?_
        refine lv_iload_n hx hb dX5_copy_29 rfl (lv_at hl 4 rfl) ?_
        by_cases c149 : x3 = 0
        · have hm := gk_it c149 hm
          refine gk_aald (k := 0) (v := a19) C hP 1 rfl c149 (by decide) (by decide) rfl dX5_copy_30 ?_
          refine lv_astore (lv' := [(7, .ref a19), (6, .ref a21), (0, .ref a0), (1, .int x1), (2, .int x2), (3, .int x3), (4, .int x4), (5, .int x5)]) hx hb dX5_copy_31 hl (by decide) rfl (fun ls hl => ?_)
          refine lv_aload hx hb dX5_copy_33 (lv_at hl 1 rfl) ?_
          obtain ⟨r150, hq, hm⟩ := gk_bd1_some hm
          refine gk_callV (n := 0) (bytes := cX2_isMissing) (maxL := 1) (ret := (some .boolean)) (Cn := RX2) (T := TX2) (N := 3) [(a0, .inr (4, [.ref a1, .ref a7, .int f_isKept, .ref a13, .ref a15, .ref a18])), (a18, gk_R G 4 (gk_four a19 a21 a23 a25)), (a19, .inr (1, [.int f_numbers_r0_sort, .int f_numbers_r0_size, .ref a20])), (a20, gk_J G 80 f_numbers_r0_values), (a22, gk_J G 80 f_numbers_r1_values), (a23, .inr (1, [.int f_numbers_r2_sort, .int f_numbers_r2_size, .ref a24])), (a24, gk_J G 80 f_numbers_r2_values), (a25, .inr (1, [.int f_numbers_r3_sort, .int f_numbers_r3_size, .ref a26])), (a26, gk_J G 80 f_numbers_r3_values)] [(a0, .inr (4, [.ref a1, .ref a7, .int f_isKept, .ref a13, .ref a15, .ref a18])), (a18, gk_R G 4 (gk_four a19 a21 a23 a25)), (a19, .inr (1, [.int f_numbers_r0_sort, .int f_numbers_r0_size, .ref a20])), (a20, gk_J G 80 f_numbers_r0_values), (a21, .inr (1, [.int f_numbers_r1_sort, .int f_numbers_r1_size, .ref a22])), (a22, gk_J G 80 f_numbers_r1_values), (a23, .inr (1, [.int f_numbers_r2_sort, .int f_numbers_r2_size, .ref a24])), (a24, gk_J G 80 f_numbers_r2_values), (a25, .inr (1, [.int f_numbers_r3_sort, .int f_numbers_r3_size, .ref a26])), (a26, gk_J G 80 f_numbers_r3_values)] [] C ⟨hP, hD, hS⟩ (c_X2_isMissing l G a21 a22 f_numbers_r1_sort f_numbers_r1_size hq) gX5_copy_X2_isMissing dX5_copy_35 hl.1 [4] [0, 1, 2, 3, 5, 6, 7, 8, 9] [0, 1, 2, 3, 9, 4, 5, 6, 7, 8] rfl rfl ⟨rfl, rfl⟩ ⟨Nat.le_of_ble_eq_true rfl, Nat.le_of_ble_eq_true rfl⟩ ⟨rfl, by decide +kernel, by decide +kernel, by decide +kernel⟩ rfl (fun h => by cases h) (Nat.le_of_ble_eq_true rfl) rfl rfl rfl rfl (by decide) rfl rfl (fun H locs h => ?_)
          obtain ⟨hP, hD, hS⟩ := h
          refine lv_if_ne (tgt := 49) hx hb dX5_copy_38 (by decide) (fun c151 => ?_) (fun c151 => ?_)
          · have hm := gk_if c151 hm
            refine lv_bipush (v := -11) hx hb dX5_copy_49 (by decide) ?_
            rw [kr _ _ _ _ _ (Option.some.inj hm).symm]
            exact gk_iret C ⟨hP, hD, hS⟩ dX5_copy_51
          · have hm := gk_it c151 hm
            refine lv_aload hx hb dX5_copy_41 (lv_at hl 0 rfl) ?_
            obtain ⟨r152, hq, hm⟩ := gk_bd1_some hm
            refine gk_callV (n := 0) (bytes := cX2_isMissing) (maxL := 1) (ret := (some .boolean)) (Cn := RX2) (T := TX2) (N := 3) [(a0, .inr (4, [.ref a1, .ref a7, .int f_isKept, .ref a13, .ref a15, .ref a18])), (a18, gk_R G 4 (gk_four a19 a21 a23 a25)), (a20, gk_J G 80 f_numbers_r0_values), (a21, .inr (1, [.int f_numbers_r1_sort, .int f_numbers_r1_size, .ref a22])), (a22, gk_J G 80 f_numbers_r1_values), (a23, .inr (1, [.int f_numbers_r2_sort, .int f_numbers_r2_size, .ref a24])), (a24, gk_J G 80 f_numbers_r2_values), (a25, .inr (1, [.int f_numbers_r3_sort, .int f_numbers_r3_size, .ref a26])), (a26, gk_J G 80 f_numbers_r3_values)] [(a0, .inr (4, [.ref a1, .ref a7, .int f_isKept, .ref a13, .ref a15, .ref a18])), (a18, gk_R G 4 (gk_four a19 a21 a23 a25)), (a19, .inr (1, [.int f_numbers_r0_sort, .int f_numbers_r0_size, .ref a20])), (a20, gk_J G 80 f_numbers_r0_values), (a21, .inr (1, [.int f_numbers_r1_sort, .int f_numbers_r1_size, .ref a22])), (a22, gk_J G 80 f_numbers_r1_values), (a23, .inr (1, [.int f_numbers_r2_sort, .int f_numbers_r2_size, .ref a24])), (a24, gk_J G 80 f_numbers_r2_values), (a25, .inr (1, [.int f_numbers_r3_sort, .int f_numbers_r3_size, .ref a26])), (a26, gk_J G 80 f_numbers_r3_values)] [] C ⟨hP, hD, hS⟩ (c_X2_isMissing l G a19 a20 f_numbers_r0_sort f_numbers_r0_size hq) gX5_copy_X2_isMissing dX5_copy_43 hl.1 [2] [0, 1, 3, 4, 5, 6, 7, 8, 9] [0, 1, 9, 2, 3, 4, 5, 6, 7, 8] rfl rfl ⟨rfl, rfl⟩ ⟨Nat.le_of_ble_eq_true rfl, Nat.le_of_ble_eq_true rfl⟩ ⟨rfl, by decide +kernel, by decide +kernel, by decide +kernel⟩ rfl (fun h => by cases h) (Nat.le_of_ble_eq_true rfl) rfl rfl rfl rfl (by decide) rfl rfl (fun H locs h => ?_)
            obtain ⟨hP, hD, hS⟩ := h
            refine lv_if_eq (tgt := 52) hx hb dX5_copy_46 (by decide) (fun c153 => ?_) (fun c153 => ?_)
            · have hm := gk_it c153 hm
              refine lv_aload hx hb dX5_copy_52 (lv_at hl 1 rfl) ?_
              refine va_get (D := G.1) (cl := vwCl) (own := RX5) (ref := "ExchangeFamilies$Numbers") (ci := 1) (v := .int f_numbers_r1_sort) (C := RX2) (T := TX2) (N := 3) hx hb hts k_X5_copy_2 hown hK hP 4 rfl rfl 0 (by decide) (hts _ k_X5_copy_3) (fun _ h9 => h9) rfl dX5_copy_54 ?_
              refine lv_aload hx hb dX5_copy_57 (lv_at hl 0 rfl) ?_
              refine va_get (D := G.1) (cl := vwCl) (own := RX5) (ref := "ExchangeFamilies$Numbers") (ci := 1) (v := .int f_numbers_r0_sort) (C := RX2) (T := TX2) (N := 3) hx hb hts k_X5_copy_2 hown hK hP 2 rfl rfl 0 (by decide) (hts _ k_X5_copy_3) (fun _ h9 => h9) rfl dX5_copy_59 ?_
              refine lv_icmp_eq (tgt := 68) hx hb dX5_copy_62 (by decide) (fun c154 => ?_) (fun c154 => ?_)
              · have hm := gk_it c154 hm
                refine lv_aload hx hb dX5_copy_68 (lv_at hl 1 rfl) ?_
                refine lv_iload_n hx hb dX5_copy_70 rfl (lv_at hl 4 rfl) ?_
                refine lv_iload hx hb dX5_copy_71 (lv_at hl 7 rfl) ?_
                obtain ⟨r155, hq, hm⟩ := gk_bd1_some hm
                refine gk_callV (n := 2) (bytes := cX2_hasStretch) (maxL := 3) (ret := (some .boolean)) (Cn := RX2) (T := TX2) (N := 3) [(a0, .inr (4, [.ref a1, .ref a7, .int f_isKept, .ref a13, .ref a15, .ref a18])), (a18, gk_R G 4 (gk_four a19 a21 a23 a25)), (a19, .inr (1, [.int f_numbers_r0_sort, .int f_numbers_r0_size, .ref a20])), (a20, gk_J G 80 f_numbers_r0_values), (a22, gk_J G 80 f_numbers_r1_values), (a23, .inr (1, [.int f_numbers_r2_sort, .int f_numbers_r2_size, .ref a24])), (a24, gk_J G 80 f_numbers_r2_values), (a25, .inr (1, [.int f_numbers_r3_sort, .int f_numbers_r3_size, .ref a26])), (a26, gk_J G 80 f_numbers_r3_values)] [(a0, .inr (4, [.ref a1, .ref a7, .int f_isKept, .ref a13, .ref a15, .ref a18])), (a18, gk_R G 4 (gk_four a19 a21 a23 a25)), (a19, .inr (1, [.int f_numbers_r0_sort, .int f_numbers_r0_size, .ref a20])), (a20, gk_J G 80 f_numbers_r0_values), (a21, .inr (1, [.int f_numbers_r1_sort, .int f_numbers_r1_size, .ref a22])), (a22, gk_J G 80 f_numbers_r1_values), (a23, .inr (1, [.int f_numbers_r2_sort, .int f_numbers_r2_size, .ref a24])), (a24, gk_J G 80 f_numbers_r2_values), (a25, .inr (1, [.int f_numbers_r3_sort, .int f_numbers_r3_size, .ref a26])), (a26, gk_J G 80 f_numbers_r3_values)] [] C ⟨hP, hD, hS⟩ (c_X2_hasStretch l G a21 a22 f_numbers_r1_sort f_numbers_r1_size x2 x5 hq) gX5_copy_X2_hasStretch dX5_copy_73 hl.1 [4] [0, 1, 2, 3, 5, 6, 7, 8, 9] [0, 1, 2, 3, 9, 4, 5, 6, 7, 8] rfl rfl ⟨rfl, rfl⟩ ⟨Nat.le_of_ble_eq_true rfl, Nat.le_of_ble_eq_true rfl⟩ ⟨rfl, by decide +kernel, by decide +kernel, by decide +kernel⟩ rfl (fun h => by cases h) (Nat.le_of_ble_eq_true rfl) rfl rfl rfl rfl (by decide) rfl rfl (fun H locs h => ?_)
                obtain ⟨hP, hD, hS⟩ := h
                refine lv_if_eq (tgt := 91) hx hb dX5_copy_76 (by decide) (fun c156 => ?_) (fun c156 => ?_)
                · have hm := gk_it c156 hm
                  refine lv_bipush (v := -12) hx hb dX5_copy_91 (by decide) ?_
                  rw [kr _ _ _ _ _ (Option.some.inj hm).symm]
                  exact gk_iret C ⟨hP, hD, hS⟩ dX5_copy_93
                · have hm := gk_if c156 hm
                  refine lv_aload hx hb dX5_copy_79 (lv_at hl 0 rfl) ?_
                  refine lv_iload hx hb dX5_copy_81 (lv_at hl 6 rfl) ?_
                  refine lv_iload hx hb dX5_copy_83 (lv_at hl 7 rfl) ?_
                  obtain ⟨r157, hq, hm⟩ := gk_bd1_some hm
                  refine gk_callV (n := 2) (bytes := cX2_hasStretch) (maxL := 3) (ret := (some .boolean)) (Cn := RX2) (T := TX2) (N := 3) [(a0, .inr (4, [.ref a1, .ref a7, .int f_isKept, .ref a13, .ref a15, .ref a18])), (a18, gk_R G 4 (gk_four a19 a21 a23 a25)), (a20, gk_J G 80 f_numbers_r0_values), (a21, .inr (1, [.int f_numbers_r1_sort, .int f_numbers_r1_size, .ref a22])), (a22, gk_J G 80 f_numbers_r1_values), (a23, .inr (1, [.int f_numbers_r2_sort, .int f_numbers_r2_size, .ref a24])), (a24, gk_J G 80 f_numbers_r2_values), (a25, .inr (1, [.int f_numbers_r3_sort, .int f_numbers_r3_size, .ref a26])), (a26, gk_J G 80 f_numbers_r3_values)] [(a0, .inr (4, [.ref a1, .ref a7, .int f_isKept, .ref a13, .ref a15, .ref a18])), (a18, gk_R G 4 (gk_four a19 a21 a23 a25)), (a19, .inr (1, [.int f_numbers_r0_sort, .int f_numbers_r0_size, .ref a20])), (a20, gk_J G 80 f_numbers_r0_values), (a21, .inr (1, [.int f_numbers_r1_sort, .int f_numbers_r1_size, .ref a22])), (a22, gk_J G 80 f_numbers_r1_values), (a23, .inr (1, [.int f_numbers_r2_sort, .int f_numbers_r2_size, .ref a24])), (a24, gk_J G 80 f_numbers_r2_values), (a25, .inr (1, [.int f_numbers_r3_sort, .int f_numbers_r3_size, .ref a26])), (a26, gk_J G 80 f_numbers_r3_values)] [] C ⟨hP, hD, hS⟩ (c_X2_hasStretch l G a19 a20 f_numbers_r0_sort f_numbers_r0_size x4 x5 hq) gX5_copy_X2_hasStretch dX5_copy_85 hl.1 [2] [0, 1, 3, 4, 5, 6, 7, 8, 9] [0, 1, 9, 2, 3, 4, 5, 6, 7, 8] rfl rfl ⟨rfl, rfl⟩ ⟨Nat.le_of_ble_eq_true rfl, Nat.le_of_ble_eq_true rfl⟩ ⟨rfl, by decide +kernel, by decide +kernel, by decide +kernel⟩ rfl (fun h => by cases h) (Nat.le_of_ble_eq_true rfl) rfl rfl rfl rfl (by decide) rfl rfl (fun H locs h => ?_)
                  obtain ⟨hP, hD, hS⟩ := h
                  refine lv_if_ne (tgt := 94) hx hb dX5_copy_88 (by decide) (fun c158 => ?_) (fun c158 => ?_)
                  · have hm := gk_if c158 hm
                    refine lv_aload hx hb dX5_copy_94 (lv_at hl 1 rfl) ?_
                    refine va_get (D := G.1) (cl := vwCl) (own := RX5) (ref := "ExchangeFamilies$Numbers") (ci := 1) (v := .ref a22) (C := RX2) (T := TX2) (N := 3) hx hb hts k_X5_copy_2 hown hK hP 4 rfl rfl 2 (by decide) (hts _ k_X5_copy_4) (fun _ h9 => h9) rfl dX5_copy_96 ?_
                    refine lv_iload_n hx hb dX5_copy_99 rfl (lv_at hl 4 rfl) ?_
                    refine lv_aload hx hb dX5_copy_100 (lv_at hl 0 rfl) ?_
                    refine va_get (D := G.1) (cl := vwCl) (own := RX5) (ref := "ExchangeFamilies$Numbers") (ci := 1) (v := .ref a20) (C := RX2) (T := TX2) (N := 3) hx hb hts k_X5_copy_2 hown hK hP 2 rfl rfl 2 (by decide) (hts _ k_X5_copy_4) (fun _ h9 => h9) rfl dX5_copy_102 ?_
                    refine lv_iload hx hb dX5_copy_105 (lv_at hl 6 rfl) ?_
                    refine lv_iload hx hb dX5_copy_107 (lv_at hl 7 rfl) ?_
                    obtain ⟨⟨hc1, hc2, hc3, hc4, hc5⟩, hm⟩ := gk_cp_some hm
                    refine va_copyl (own := RX5) hx hb (by rw [hml]; exact hl.1.symm) hown (hts _ k_X5_copy_5) (hts _ k_X5_copy_6) (hts _ k_X5_copy_7) (hts _ k_X5_copy_8) hK hP hD hS 5 3 1 1 rfl rfl rfl rfl rfl hc1 hc2 hc3 hc4 hc5 (fun _ _ => rfl) (Nat.le_of_ble_eq_true rfl) (Nat.le_of_ble_eq_true rfl) dX5_copy_109 (fun H locs hP hD hS => ?_)
                    have hP : va_P G.1 vwCl [(a0, .inr (4, [.ref a1, .ref a7, .int f_isKept, .ref a13, .ref a15, .ref a18])), (a18, gk_R G 4 (gk_four a19 a21 a23 a25)), (a19, .inr (1, [.int f_numbers_r0_sort, .int f_numbers_r0_size, .ref a20])), (a20, gk_J G 80 (va_cpy f_numbers_r1_values f_numbers_r0_values x2.toNatClampNeg x4.toNatClampNeg x5.toNatClampNeg)), (a21, .inr (1, [.int f_numbers_r1_sort, .int f_numbers_r1_size, .ref a22])), (a22, gk_J G 80 f_numbers_r1_values), (a23, .inr (1, [.int f_numbers_r2_sort, .int f_numbers_r2_size, .ref a24])), (a24, gk_J G 80 f_numbers_r2_values), (a25, .inr (1, [.int f_numbers_r3_sort, .int f_numbers_r3_size, .ref a26])), (a26, gk_J G 80 f_numbers_r3_values)] H := hP
                    have hD : va_D A [(a0, .inr (4, [.ref a1, .ref a7, .int f_isKept, .ref a13, .ref a15, .ref a18])), (a18, gk_R G 4 (gk_four a19 a21 a23 a25)), (a19, .inr (1, [.int f_numbers_r0_sort, .int f_numbers_r0_size, .ref a20])), (a20, gk_J G 80 (va_cpy f_numbers_r1_values f_numbers_r0_values x2.toNatClampNeg x4.toNatClampNeg x5.toNatClampNeg)), (a21, .inr (1, [.int f_numbers_r1_sort, .int f_numbers_r1_size, .ref a22])), (a22, gk_J G 80 f_numbers_r1_values), (a23, .inr (1, [.int f_numbers_r2_sort, .int f_numbers_r2_size, .ref a24])), (a24, gk_J G 80 f_numbers_r2_values), (a25, .inr (1, [.int f_numbers_r3_sort, .int f_numbers_r3_size, .ref a26])), (a26, gk_J G 80 f_numbers_r3_values)] := hD
                    refine lv_iload hx hb dX5_copy_112 (lv_at hl 7 rfl) ?_
                    rw [kr _ _ _ _ _ (Option.some.inj hm).symm]
                    exact gk_iret C ⟨hP, hD, hS⟩ dX5_copy_114
                  · have hm := gk_it c158 hm
                    refine lv_bipush (v := -12) hx hb dX5_copy_91 (by decide) ?_
                    rw [kr _ _ _ _ _ (Option.some.inj hm).symm]
                    exact gk_iret C ⟨hP, hD, hS⟩ dX5_copy_93
              · have hm := gk_if c154 hm
                refine lv_bipush (v := -13) hx hb dX5_copy_65 (by decide) ?_
                rw [kr _ _ _ _ _ (Option.some.inj hm).symm]
                exact gk_iret C ⟨hP, hD, hS⟩ dX5_copy_67
            · have hm := gk_if c153 hm
              refine lv_bipush (v := -11) hx hb dX5_copy_49 (by decide) ?_
              rw [kr _ _ _ _ _ (Option.some.inj hm).symm]
              exact gk_iret C ⟨hP, hD, hS⟩ dX5_copy_51
        have hm := gk_if c149 hm
        by_cases c159 : x3 = 1
        · have hm := gk_it c159 hm
          refine gk_aald (k := 1) (v := a21) C hP 1 rfl c159 (by decide) (by decide) rfl dX5_copy_30 ?_
          refine lv_astore (lv' := [(7, .ref a21), (6, .ref a21), (0, .ref a0), (1, .int x1), (2, .int x2), (3, .int x3), (4, .int x4), (5, .int x5)]) hx hb dX5_copy_31 hl (by decide) rfl (fun ls hl => ?_)
          refine lv_aload hx hb dX5_copy_33 (lv_at hl 1 rfl) ?_
          obtain ⟨r160, hq, hm⟩ := gk_bd1_some hm
          refine gk_callV (n := 0) (bytes := cX2_isMissing) (maxL := 1) (ret := (some .boolean)) (Cn := RX2) (T := TX2) (N := 3) [(a0, .inr (4, [.ref a1, .ref a7, .int f_isKept, .ref a13, .ref a15, .ref a18])), (a18, gk_R G 4 (gk_four a19 a21 a23 a25)), (a19, .inr (1, [.int f_numbers_r0_sort, .int f_numbers_r0_size, .ref a20])), (a20, gk_J G 80 f_numbers_r0_values), (a22, gk_J G 80 f_numbers_r1_values), (a23, .inr (1, [.int f_numbers_r2_sort, .int f_numbers_r2_size, .ref a24])), (a24, gk_J G 80 f_numbers_r2_values), (a25, .inr (1, [.int f_numbers_r3_sort, .int f_numbers_r3_size, .ref a26])), (a26, gk_J G 80 f_numbers_r3_values)] [(a0, .inr (4, [.ref a1, .ref a7, .int f_isKept, .ref a13, .ref a15, .ref a18])), (a18, gk_R G 4 (gk_four a19 a21 a23 a25)), (a19, .inr (1, [.int f_numbers_r0_sort, .int f_numbers_r0_size, .ref a20])), (a20, gk_J G 80 f_numbers_r0_values), (a21, .inr (1, [.int f_numbers_r1_sort, .int f_numbers_r1_size, .ref a22])), (a22, gk_J G 80 f_numbers_r1_values), (a23, .inr (1, [.int f_numbers_r2_sort, .int f_numbers_r2_size, .ref a24])), (a24, gk_J G 80 f_numbers_r2_values), (a25, .inr (1, [.int f_numbers_r3_sort, .int f_numbers_r3_size, .ref a26])), (a26, gk_J G 80 f_numbers_r3_values)] [] C ⟨hP, hD, hS⟩ (c_X2_isMissing l G a21 a22 f_numbers_r1_sort f_numbers_r1_size hq) gX5_copy_X2_isMissing dX5_copy_35 hl.1 [4] [0, 1, 2, 3, 5, 6, 7, 8, 9] [0, 1, 2, 3, 9, 4, 5, 6, 7, 8] rfl rfl ⟨rfl, rfl⟩ ⟨Nat.le_of_ble_eq_true rfl, Nat.le_of_ble_eq_true rfl⟩ ⟨rfl, by decide +kernel, by decide +kernel, by decide +kernel⟩ rfl (fun h => by cases h) (Nat.le_of_ble_eq_true rfl) rfl rfl rfl rfl (by decide) rfl rfl (fun H locs h => ?_)
          obtain ⟨hP, hD, hS⟩ := h
          refine lv_if_ne (tgt := 49) hx hb dX5_copy_38 (by decide) (fun c161 => ?_) (fun c161 => ?_)
          · have hm := gk_if c161 hm
            refine lv_bipush (v := -11) hx hb dX5_copy_49 (by decide) ?_
            rw [kr _ _ _ _ _ (Option.some.inj hm).symm]
            exact gk_iret C ⟨hP, hD, hS⟩ dX5_copy_51
          · have hm := gk_it c161 hm
            refine lv_aload hx hb dX5_copy_41 (lv_at hl 0 rfl) ?_
            obtain ⟨r162, hq, hm⟩ := gk_bd1_some hm
            refine gk_callV (n := 0) (bytes := cX2_isMissing) (maxL := 1) (ret := (some .boolean)) (Cn := RX2) (T := TX2) (N := 3) [(a0, .inr (4, [.ref a1, .ref a7, .int f_isKept, .ref a13, .ref a15, .ref a18])), (a18, gk_R G 4 (gk_four a19 a21 a23 a25)), (a19, .inr (1, [.int f_numbers_r0_sort, .int f_numbers_r0_size, .ref a20])), (a20, gk_J G 80 f_numbers_r0_values), (a22, gk_J G 80 f_numbers_r1_values), (a23, .inr (1, [.int f_numbers_r2_sort, .int f_numbers_r2_size, .ref a24])), (a24, gk_J G 80 f_numbers_r2_values), (a25, .inr (1, [.int f_numbers_r3_sort, .int f_numbers_r3_size, .ref a26])), (a26, gk_J G 80 f_numbers_r3_values)] [(a0, .inr (4, [.ref a1, .ref a7, .int f_isKept, .ref a13, .ref a15, .ref a18])), (a18, gk_R G 4 (gk_four a19 a21 a23 a25)), (a19, .inr (1, [.int f_numbers_r0_sort, .int f_numbers_r0_size, .ref a20])), (a20, gk_J G 80 f_numbers_r0_values), (a21, .inr (1, [.int f_numbers_r1_sort, .int f_numbers_r1_size, .ref a22])), (a22, gk_J G 80 f_numbers_r1_values), (a23, .inr (1, [.int f_numbers_r2_sort, .int f_numbers_r2_size, .ref a24])), (a24, gk_J G 80 f_numbers_r2_values), (a25, .inr (1, [.int f_numbers_r3_sort, .int f_numbers_r3_size, .ref a26])), (a26, gk_J G 80 f_numbers_r3_values)] [] C ⟨hP, hD, hS⟩ (c_X2_isMissing l G a21 a22 f_numbers_r1_sort f_numbers_r1_size hq) gX5_copy_X2_isMissing dX5_copy_43 hl.1 [4] [0, 1, 2, 3, 5, 6, 7, 8, 9] [0, 1, 2, 3, 9, 4, 5, 6, 7, 8] rfl rfl ⟨rfl, rfl⟩ ⟨Nat.le_of_ble_eq_true rfl, Nat.le_of_ble_eq_true rfl⟩ ⟨rfl, by decide +kernel, by decide +kernel, by decide +kernel⟩ rfl (fun h => by cases h) (Nat.le_of_ble_eq_true rfl) rfl rfl rfl rfl (by decide) rfl rfl (fun H locs h => ?_)
            obtain ⟨hP, hD, hS⟩ := h
            refine lv_if_eq (tgt := 52) hx hb dX5_copy_46 (by decide) (fun c163 => ?_) (fun c163 => ?_)
            · have hm := gk_it c163 hm
              refine lv_aload hx hb dX5_copy_52 (lv_at hl 1 rfl) ?_
              refine va_get (D := G.1) (cl := vwCl) (own := RX5) (ref := "ExchangeFamilies$Numbers") (ci := 1) (v := .int f_numbers_r1_sort) (C := RX2) (T := TX2) (N := 3) hx hb hts k_X5_copy_2 hown hK hP 4 rfl rfl 0 (by decide) (hts _ k_X5_copy_3) (fun _ h9 => h9) rfl dX5_copy_54 ?_
              refine lv_aload hx hb dX5_copy_57 (lv_at hl 0 rfl) ?_
              refine va_get (D := G.1) (cl := vwCl) (own := RX5) (ref := "ExchangeFamilies$Numbers") (ci := 1) (v := .int f_numbers_r1_sort) (C := RX2) (T := TX2) (N := 3) hx hb hts k_X5_copy_2 hown hK hP 4 rfl rfl 0 (by decide) (hts _ k_X5_copy_3) (fun _ h9 => h9) rfl dX5_copy_59 ?_
              refine lv_icmp_eq (tgt := 68) hx hb dX5_copy_62 (by decide) (fun c164 => ?_) (fun c164 => ?_)
              · have hm := gk_it c164 hm
                refine lv_aload hx hb dX5_copy_68 (lv_at hl 1 rfl) ?_
                refine lv_iload_n hx hb dX5_copy_70 rfl (lv_at hl 4 rfl) ?_
                refine lv_iload hx hb dX5_copy_71 (lv_at hl 7 rfl) ?_
                obtain ⟨r165, hq, hm⟩ := gk_bd1_some hm
                refine gk_callV (n := 2) (bytes := cX2_hasStretch) (maxL := 3) (ret := (some .boolean)) (Cn := RX2) (T := TX2) (N := 3) [(a0, .inr (4, [.ref a1, .ref a7, .int f_isKept, .ref a13, .ref a15, .ref a18])), (a18, gk_R G 4 (gk_four a19 a21 a23 a25)), (a19, .inr (1, [.int f_numbers_r0_sort, .int f_numbers_r0_size, .ref a20])), (a20, gk_J G 80 f_numbers_r0_values), (a22, gk_J G 80 f_numbers_r1_values), (a23, .inr (1, [.int f_numbers_r2_sort, .int f_numbers_r2_size, .ref a24])), (a24, gk_J G 80 f_numbers_r2_values), (a25, .inr (1, [.int f_numbers_r3_sort, .int f_numbers_r3_size, .ref a26])), (a26, gk_J G 80 f_numbers_r3_values)] [(a0, .inr (4, [.ref a1, .ref a7, .int f_isKept, .ref a13, .ref a15, .ref a18])), (a18, gk_R G 4 (gk_four a19 a21 a23 a25)), (a19, .inr (1, [.int f_numbers_r0_sort, .int f_numbers_r0_size, .ref a20])), (a20, gk_J G 80 f_numbers_r0_values), (a21, .inr (1, [.int f_numbers_r1_sort, .int f_numbers_r1_size, .ref a22])), (a22, gk_J G 80 f_numbers_r1_values), (a23, .inr (1, [.int f_numbers_r2_sort, .int f_numbers_r2_size, .ref a24])), (a24, gk_J G 80 f_numbers_r2_values), (a25, .inr (1, [.int f_numbers_r3_sort, .int f_numbers_r3_size, .ref a26])), (a26, gk_J G 80 f_numbers_r3_values)] [] C ⟨hP, hD, hS⟩ (c_X2_hasStretch l G a21 a22 f_numbers_r1_sort f_numbers_r1_size x2 x5 hq) gX5_copy_X2_hasStretch dX5_copy_73 hl.1 [4] [0, 1, 2, 3, 5, 6, 7, 8, 9] [0, 1, 2, 3, 9, 4, 5, 6, 7, 8] rfl rfl ⟨rfl, rfl⟩ ⟨Nat.le_of_ble_eq_true rfl, Nat.le_of_ble_eq_true rfl⟩ ⟨rfl, by decide +kernel, by decide +kernel, by decide +kernel⟩ rfl (fun h => by cases h) (Nat.le_of_ble_eq_true rfl) rfl rfl rfl rfl (by decide) rfl rfl (fun H locs h => ?_)
                obtain ⟨hP, hD, hS⟩ := h
                refine lv_if_eq (tgt := 91) hx hb dX5_copy_76 (by decide) (fun c166 => ?_) (fun c166 => ?_)
                · have hm := gk_it c166 hm
                  refine lv_bipush (v := -12) hx hb dX5_copy_91 (by decide) ?_
                  rw [kr _ _ _ _ _ (Option.some.inj hm).symm]
                  exact gk_iret C ⟨hP, hD, hS⟩ dX5_copy_93
                · have hm := gk_if c166 hm
                  refine lv_aload hx hb dX5_copy_79 (lv_at hl 0 rfl) ?_
                  refine lv_iload hx hb dX5_copy_81 (lv_at hl 6 rfl) ?_
                  refine lv_iload hx hb dX5_copy_83 (lv_at hl 7 rfl) ?_
                  obtain ⟨r167, hq, hm⟩ := gk_bd1_some hm
                  refine gk_callV (n := 2) (bytes := cX2_hasStretch) (maxL := 3) (ret := (some .boolean)) (Cn := RX2) (T := TX2) (N := 3) [(a0, .inr (4, [.ref a1, .ref a7, .int f_isKept, .ref a13, .ref a15, .ref a18])), (a18, gk_R G 4 (gk_four a19 a21 a23 a25)), (a19, .inr (1, [.int f_numbers_r0_sort, .int f_numbers_r0_size, .ref a20])), (a20, gk_J G 80 f_numbers_r0_values), (a22, gk_J G 80 f_numbers_r1_values), (a23, .inr (1, [.int f_numbers_r2_sort, .int f_numbers_r2_size, .ref a24])), (a24, gk_J G 80 f_numbers_r2_values), (a25, .inr (1, [.int f_numbers_r3_sort, .int f_numbers_r3_size, .ref a26])), (a26, gk_J G 80 f_numbers_r3_values)] [(a0, .inr (4, [.ref a1, .ref a7, .int f_isKept, .ref a13, .ref a15, .ref a18])), (a18, gk_R G 4 (gk_four a19 a21 a23 a25)), (a19, .inr (1, [.int f_numbers_r0_sort, .int f_numbers_r0_size, .ref a20])), (a20, gk_J G 80 f_numbers_r0_values), (a21, .inr (1, [.int f_numbers_r1_sort, .int f_numbers_r1_size, .ref a22])), (a22, gk_J G 80 f_numbers_r1_values), (a23, .inr (1, [.int f_numbers_r2_sort, .int f_numbers_r2_size, .ref a24])), (a24, gk_J G 80 f_numbers_r2_values), (a25, .inr (1, [.int f_numbers_r3_sort, .int f_numbers_r3_size, .ref a26])), (a26, gk_J G 80 f_numbers_r3_values)] [] C ⟨hP, hD, hS⟩ (c_X2_hasStretch l G a21 a22 f_numbers_r1_sort f_numbers_r1_size x4 x5 hq) gX5_copy_X2_hasStretch dX5_copy_85 hl.1 [4] [0, 1, 2, 3, 5, 6, 7, 8, 9] [0, 1, 2, 3, 9, 4, 5, 6, 7, 8] rfl rfl ⟨rfl, rfl⟩ ⟨Nat.le_of_ble_eq_true rfl, Nat.le_of_ble_eq_true rfl⟩ ⟨rfl, by decide +kernel, by decide +kernel, by decide +kernel⟩ rfl (fun h => by cases h) (Nat.le_of_ble_eq_true rfl) rfl rfl rfl rfl (by decide) rfl rfl (fun H locs h => ?_)
                  obtain ⟨hP, hD, hS⟩ := h
                  refine lv_if_ne (tgt := 94) hx hb dX5_copy_88 (by decide) (fun c168 => ?_) (fun c168 => ?_)
                  · have hm := gk_if c168 hm
                    refine lv_aload hx hb dX5_copy_94 (lv_at hl 1 rfl) ?_
                    refine va_get (D := G.1) (cl := vwCl) (own := RX5) (ref := "ExchangeFamilies$Numbers") (ci := 1) (v := .ref a22) (C := RX2) (T := TX2) (N := 3) hx hb hts k_X5_copy_2 hown hK hP 4 rfl rfl 2 (by decide) (hts _ k_X5_copy_4) (fun _ h9 => h9) rfl dX5_copy_96 ?_
                    refine lv_iload_n hx hb dX5_copy_99 rfl (lv_at hl 4 rfl) ?_
                    refine lv_aload hx hb dX5_copy_100 (lv_at hl 0 rfl) ?_
                    refine va_get (D := G.1) (cl := vwCl) (own := RX5) (ref := "ExchangeFamilies$Numbers") (ci := 1) (v := .ref a22) (C := RX2) (T := TX2) (N := 3) hx hb hts k_X5_copy_2 hown hK hP 4 rfl rfl 2 (by decide) (hts _ k_X5_copy_4) (fun _ h9 => h9) rfl dX5_copy_102 ?_
                    refine lv_iload hx hb dX5_copy_105 (lv_at hl 6 rfl) ?_
                    refine lv_iload hx hb dX5_copy_107 (lv_at hl 7 rfl) ?_
                    obtain ⟨⟨hc1, hc2, hc3, hc4, hc5⟩, hm⟩ := gk_cp_some hm
                    refine va_copyl (own := RX5) hx hb (by rw [hml]; exact hl.1.symm) hown (hts _ k_X5_copy_5) (hts _ k_X5_copy_6) (hts _ k_X5_copy_7) (hts _ k_X5_copy_8) hK hP hD hS 5 5 1 1 rfl rfl rfl rfl rfl hc1 hc2 hc3 hc4 hc5 (fun _ _ => rfl) (Nat.le_of_ble_eq_true rfl) (Nat.le_of_ble_eq_true rfl) dX5_copy_109 (fun H locs hP hD hS => ?_)
                    have hP : va_P G.1 vwCl [(a0, .inr (4, [.ref a1, .ref a7, .int f_isKept, .ref a13, .ref a15, .ref a18])), (a18, gk_R G 4 (gk_four a19 a21 a23 a25)), (a19, .inr (1, [.int f_numbers_r0_sort, .int f_numbers_r0_size, .ref a20])), (a20, gk_J G 80 f_numbers_r0_values), (a21, .inr (1, [.int f_numbers_r1_sort, .int f_numbers_r1_size, .ref a22])), (a22, gk_J G 80 (va_cpy f_numbers_r1_values f_numbers_r1_values x2.toNatClampNeg x4.toNatClampNeg x5.toNatClampNeg)), (a23, .inr (1, [.int f_numbers_r2_sort, .int f_numbers_r2_size, .ref a24])), (a24, gk_J G 80 f_numbers_r2_values), (a25, .inr (1, [.int f_numbers_r3_sort, .int f_numbers_r3_size, .ref a26])), (a26, gk_J G 80 f_numbers_r3_values)] H := hP
                    have hD : va_D A [(a0, .inr (4, [.ref a1, .ref a7, .int f_isKept, .ref a13, .ref a15, .ref a18])), (a18, gk_R G 4 (gk_four a19 a21 a23 a25)), (a19, .inr (1, [.int f_numbers_r0_sort, .int f_numbers_r0_size, .ref a20])), (a20, gk_J G 80 f_numbers_r0_values), (a21, .inr (1, [.int f_numbers_r1_sort, .int f_numbers_r1_size, .ref a22])), (a22, gk_J G 80 (va_cpy f_numbers_r1_values f_numbers_r1_values x2.toNatClampNeg x4.toNatClampNeg x5.toNatClampNeg)), (a23, .inr (1, [.int f_numbers_r2_sort, .int f_numbers_r2_size, .ref a24])), (a24, gk_J G 80 f_numbers_r2_values), (a25, .inr (1, [.int f_numbers_r3_sort, .int f_numbers_r3_size, .ref a26])), (a26, gk_J G 80 f_numbers_r3_values)] := hD
                    refine lv_iload hx hb dX5_copy_112 (lv_at hl 7 rfl) ?_
                    rw [kr _ _ _ _ _ (Option.some.inj hm).symm]
                    exact gk_iret C ⟨hP, hD, hS⟩ dX5_copy_114
                  · have hm := gk_it c168 hm
                    refine lv_bipush (v := -12) hx hb dX5_copy_91 (by decide) ?_
                    rw [kr _ _ _ _ _ (Option.some.inj hm).symm]
                    exact gk_iret C ⟨hP, hD, hS⟩ dX5_copy_93
              · have hm := gk_if c164 hm
                refine lv_bipush (v := -13) hx hb dX5_copy_65 (by decide) ?_
                rw [kr _ _ _ _ _ (Option.some.inj hm).symm]
                exact gk_iret C ⟨hP, hD, hS⟩ dX5_copy_67
            · have hm := gk_if c163 hm
              refine lv_bipush (v := -11) hx hb dX5_copy_49 (by decide) ?_
              rw [kr _ _ _ _ _ (Option.some.inj hm).symm]
              exact gk_iret C ⟨hP, hD, hS⟩ dX5_copy_51
        have hm := gk_if c159 hm
        by_cases c169 : x3 = 2
        · have hm := gk_it c169 hm
          refine gk_aald (k := 2) (v := a23) C hP 1 rfl c169 (by decide) (by decide) rfl dX5_copy_30 ?_
          refine lv_astore (lv' := [(7, .ref a23), (6, .ref a21), (0, .ref a0), (1, .int x1), (2, .int x2), (3, .int x3), (4, .int x4), (5, .int x5)]) hx hb dX5_copy_31 hl (by decide) rfl (fun ls hl => ?_)
          refine lv_aload hx hb dX5_copy_33 (lv_at hl 1 rfl) ?_
          obtain ⟨r170, hq, hm⟩ := gk_bd1_some hm
          refine gk_callV (n := 0) (bytes := cX2_isMissing) (maxL := 1) (ret := (some .boolean)) (Cn := RX2) (T := TX2) (N := 3) [(a0, .inr (4, [.ref a1, .ref a7, .int f_isKept, .ref a13, .ref a15, .ref a18])), (a18, gk_R G 4 (gk_four a19 a21 a23 a25)), (a19, .inr (1, [.int f_numbers_r0_sort, .int f_numbers_r0_size, .ref a20])), (a20, gk_J G 80 f_numbers_r0_values), (a22, gk_J G 80 f_numbers_r1_values), (a23, .inr (1, [.int f_numbers_r2_sort, .int f_numbers_r2_size, .ref a24])), (a24, gk_J G 80 f_numbers_r2_values), (a25, .inr (1, [.int f_numbers_r3_sort, .int f_numbers_r3_size, .ref a26])), (a26, gk_J G 80 f_numbers_r3_values)] [(a0, .inr (4, [.ref a1, .ref a7, .int f_isKept, .ref a13, .ref a15, .ref a18])), (a18, gk_R G 4 (gk_four a19 a21 a23 a25)), (a19, .inr (1, [.int f_numbers_r0_sort, .int f_numbers_r0_size, .ref a20])), (a20, gk_J G 80 f_numbers_r0_values), (a21, .inr (1, [.int f_numbers_r1_sort, .int f_numbers_r1_size, .ref a22])), (a22, gk_J G 80 f_numbers_r1_values), (a23, .inr (1, [.int f_numbers_r2_sort, .int f_numbers_r2_size, .ref a24])), (a24, gk_J G 80 f_numbers_r2_values), (a25, .inr (1, [.int f_numbers_r3_sort, .int f_numbers_r3_size, .ref a26])), (a26, gk_J G 80 f_numbers_r3_values)] [] C ⟨hP, hD, hS⟩ (c_X2_isMissing l G a21 a22 f_numbers_r1_sort f_numbers_r1_size hq) gX5_copy_X2_isMissing dX5_copy_35 hl.1 [4] [0, 1, 2, 3, 5, 6, 7, 8, 9] [0, 1, 2, 3, 9, 4, 5, 6, 7, 8] rfl rfl ⟨rfl, rfl⟩ ⟨Nat.le_of_ble_eq_true rfl, Nat.le_of_ble_eq_true rfl⟩ ⟨rfl, by decide +kernel, by decide +kernel, by decide +kernel⟩ rfl (fun h => by cases h) (Nat.le_of_ble_eq_true rfl) rfl rfl rfl rfl (by decide) rfl rfl (fun H locs h => ?_)
          obtain ⟨hP, hD, hS⟩ := h
          refine lv_if_ne (tgt := 49) hx hb dX5_copy_38 (by decide) (fun c171 => ?_) (fun c171 => ?_)
          · have hm := gk_if c171 hm
            refine lv_bipush (v := -11) hx hb dX5_copy_49 (by decide) ?_
            rw [kr _ _ _ _ _ (Option.some.inj hm).symm]
            exact gk_iret C ⟨hP, hD, hS⟩ dX5_copy_51
          · have hm := gk_it c171 hm
            refine lv_aload hx hb dX5_copy_41 (lv_at hl 0 rfl) ?_
            obtain ⟨r172, hq, hm⟩ := gk_bd1_some hm
            refine gk_callV (n := 0) (bytes := cX2_isMissing) (maxL := 1) (ret := (some .boolean)) (Cn := RX2) (T := TX2) (N := 3) [(a0, .inr (4, [.ref a1, .ref a7, .int f_isKept, .ref a13, .ref a15, .ref a18])), (a18, gk_R G 4 (gk_four a19 a21 a23 a25)), (a19, .inr (1, [.int f_numbers_r0_sort, .int f_numbers_r0_size, .ref a20])), (a20, gk_J G 80 f_numbers_r0_values), (a21, .inr (1, [.int f_numbers_r1_sort, .int f_numbers_r1_size, .ref a22])), (a22, gk_J G 80 f_numbers_r1_values), (a24, gk_J G 80 f_numbers_r2_values), (a25, .inr (1, [.int f_numbers_r3_sort, .int f_numbers_r3_size, .ref a26])), (a26, gk_J G 80 f_numbers_r3_values)] [(a0, .inr (4, [.ref a1, .ref a7, .int f_isKept, .ref a13, .ref a15, .ref a18])), (a18, gk_R G 4 (gk_four a19 a21 a23 a25)), (a19, .inr (1, [.int f_numbers_r0_sort, .int f_numbers_r0_size, .ref a20])), (a20, gk_J G 80 f_numbers_r0_values), (a21, .inr (1, [.int f_numbers_r1_sort, .int f_numbers_r1_size, .ref a22])), (a22, gk_J G 80 f_numbers_r1_values), (a23, .inr (1, [.int f_numbers_r2_sort, .int f_numbers_r2_size, .ref a24])), (a24, gk_J G 80 f_numbers_r2_values), (a25, .inr (1, [.int f_numbers_r3_sort, .int f_numbers_r3_size, .ref a26])), (a26, gk_J G 80 f_numbers_r3_values)] [] C ⟨hP, hD, hS⟩ (c_X2_isMissing l G a23 a24 f_numbers_r2_sort f_numbers_r2_size hq) gX5_copy_X2_isMissing dX5_copy_43 hl.1 [6] [0, 1, 2, 3, 4, 5, 7, 8, 9] [0, 1, 2, 3, 4, 5, 9, 6, 7, 8] rfl rfl ⟨rfl, rfl⟩ ⟨Nat.le_of_ble_eq_true rfl, Nat.le_of_ble_eq_true rfl⟩ ⟨rfl, by decide +kernel, by decide +kernel, by decide +kernel⟩ rfl (fun h => by cases h) (Nat.le_of_ble_eq_true rfl) rfl rfl rfl rfl (by decide) rfl rfl (fun H locs h => ?_)
            obtain ⟨hP, hD, hS⟩ := h
            refine lv_if_eq (tgt := 52) hx hb dX5_copy_46 (by decide) (fun c173 => ?_) (fun c173 => ?_)
            · have hm := gk_it c173 hm
              refine lv_aload hx hb dX5_copy_52 (lv_at hl 1 rfl) ?_
              refine va_get (D := G.1) (cl := vwCl) (own := RX5) (ref := "ExchangeFamilies$Numbers") (ci := 1) (v := .int f_numbers_r1_sort) (C := RX2) (T := TX2) (N := 3) hx hb hts k_X5_copy_2 hown hK hP 4 rfl rfl 0 (by decide) (hts _ k_X5_copy_3) (fun _ h9 => h9) rfl dX5_copy_54 ?_
              refine lv_aload hx hb dX5_copy_57 (lv_at hl 0 rfl) ?_
              refine va_get (D := G.1) (cl := vwCl) (own := RX5) (ref := "ExchangeFamilies$Numbers") (ci := 1) (v := .int f_numbers_r2_sort) (C := RX2) (T := TX2) (N := 3) hx hb hts k_X5_copy_2 hown hK hP 6 rfl rfl 0 (by decide) (hts _ k_X5_copy_3) (fun _ h9 => h9) rfl dX5_copy_59 ?_
              refine lv_icmp_eq (tgt := 68) hx hb dX5_copy_62 (by decide) (fun c174 => ?_) (fun c174 => ?_)
              · have hm := gk_it c174 hm
                refine lv_aload hx hb dX5_copy_68 (lv_at hl 1 rfl) ?_
                refine lv_iload_n hx hb dX5_copy_70 rfl (lv_at hl 4 rfl) ?_
                refine lv_iload hx hb dX5_copy_71 (lv_at hl 7 rfl) ?_
                obtain ⟨r175, hq, hm⟩ := gk_bd1_some hm
                refine gk_callV (n := 2) (bytes := cX2_hasStretch) (maxL := 3) (ret := (some .boolean)) (Cn := RX2) (T := TX2) (N := 3) [(a0, .inr (4, [.ref a1, .ref a7, .int f_isKept, .ref a13, .ref a15, .ref a18])), (a18, gk_R G 4 (gk_four a19 a21 a23 a25)), (a19, .inr (1, [.int f_numbers_r0_sort, .int f_numbers_r0_size, .ref a20])), (a20, gk_J G 80 f_numbers_r0_values), (a22, gk_J G 80 f_numbers_r1_values), (a23, .inr (1, [.int f_numbers_r2_sort, .int f_numbers_r2_size, .ref a24])), (a24, gk_J G 80 f_numbers_r2_values), (a25, .inr (1, [.int f_numbers_r3_sort, .int f_numbers_r3_size, .ref a26])), (a26, gk_J G 80 f_numbers_r3_values)] [(a0, .inr (4, [.ref a1, .ref a7, .int f_isKept, .ref a13, .ref a15, .ref a18])), (a18, gk_R G 4 (gk_four a19 a21 a23 a25)), (a19, .inr (1, [.int f_numbers_r0_sort, .int f_numbers_r0_size, .ref a20])), (a20, gk_J G 80 f_numbers_r0_values), (a21, .inr (1, [.int f_numbers_r1_sort, .int f_numbers_r1_size, .ref a22])), (a22, gk_J G 80 f_numbers_r1_values), (a23, .inr (1, [.int f_numbers_r2_sort, .int f_numbers_r2_size, .ref a24])), (a24, gk_J G 80 f_numbers_r2_values), (a25, .inr (1, [.int f_numbers_r3_sort, .int f_numbers_r3_size, .ref a26])), (a26, gk_J G 80 f_numbers_r3_values)] [] C ⟨hP, hD, hS⟩ (c_X2_hasStretch l G a21 a22 f_numbers_r1_sort f_numbers_r1_size x2 x5 hq) gX5_copy_X2_hasStretch dX5_copy_73 hl.1 [4] [0, 1, 2, 3, 5, 6, 7, 8, 9] [0, 1, 2, 3, 9, 4, 5, 6, 7, 8] rfl rfl ⟨rfl, rfl⟩ ⟨Nat.le_of_ble_eq_true rfl, Nat.le_of_ble_eq_true rfl⟩ ⟨rfl, by decide +kernel, by decide +kernel, by decide +kernel⟩ rfl (fun h => by cases h) (Nat.le_of_ble_eq_true rfl) rfl rfl rfl rfl (by decide) rfl rfl (fun H locs h => ?_)
                obtain ⟨hP, hD, hS⟩ := h
                refine lv_if_eq (tgt := 91) hx hb dX5_copy_76 (by decide) (fun c176 => ?_) (fun c176 => ?_)
                · have hm := gk_it c176 hm
                  refine lv_bipush (v := -12) hx hb dX5_copy_91 (by decide) ?_
                  rw [kr _ _ _ _ _ (Option.some.inj hm).symm]
                  exact gk_iret C ⟨hP, hD, hS⟩ dX5_copy_93
                · have hm := gk_if c176 hm
                  refine lv_aload hx hb dX5_copy_79 (lv_at hl 0 rfl) ?_
                  refine lv_iload hx hb dX5_copy_81 (lv_at hl 6 rfl) ?_
                  refine lv_iload hx hb dX5_copy_83 (lv_at hl 7 rfl) ?_
                  obtain ⟨r177, hq, hm⟩ := gk_bd1_some hm
                  refine gk_callV (n := 2) (bytes := cX2_hasStretch) (maxL := 3) (ret := (some .boolean)) (Cn := RX2) (T := TX2) (N := 3) [(a0, .inr (4, [.ref a1, .ref a7, .int f_isKept, .ref a13, .ref a15, .ref a18])), (a18, gk_R G 4 (gk_four a19 a21 a23 a25)), (a19, .inr (1, [.int f_numbers_r0_sort, .int f_numbers_r0_size, .ref a20])), (a20, gk_J G 80 f_numbers_r0_values), (a21, .inr (1, [.int f_numbers_r1_sort, .int f_numbers_r1_size, .ref a22])), (a22, gk_J G 80 f_numbers_r1_values), (a24, gk_J G 80 f_numbers_r2_values), (a25, .inr (1, [.int f_numbers_r3_sort, .int f_numbers_r3_size, .ref a26])), (a26, gk_J G 80 f_numbers_r3_values)] [(a0, .inr (4, [.ref a1, .ref a7, .int f_isKept, .ref a13, .ref a15, .ref a18])), (a18, gk_R G 4 (gk_four a19 a21 a23 a25)), (a19, .inr (1, [.int f_numbers_r0_sort, .int f_numbers_r0_size, .ref a20])), (a20, gk_J G 80 f_numbers_r0_values), (a21, .inr (1, [.int f_numbers_r1_sort, .int f_numbers_r1_size, .ref a22])), (a22, gk_J G 80 f_numbers_r1_values), (a23, .inr (1, [.int f_numbers_r2_sort, .int f_numbers_r2_size, .ref a24])), (a24, gk_J G 80 f_numbers_r2_values), (a25, .inr (1, [.int f_numbers_r3_sort, .int f_numbers_r3_size, .ref a26])), (a26, gk_J G 80 f_numbers_r3_values)] [] C ⟨hP, hD, hS⟩ (c_X2_hasStretch l G a23 a24 f_numbers_r2_sort f_numbers_r2_size x4 x5 hq) gX5_copy_X2_hasStretch dX5_copy_85 hl.1 [6] [0, 1, 2, 3, 4, 5, 7, 8, 9] [0, 1, 2, 3, 4, 5, 9, 6, 7, 8] rfl rfl ⟨rfl, rfl⟩ ⟨Nat.le_of_ble_eq_true rfl, Nat.le_of_ble_eq_true rfl⟩ ⟨rfl, by decide +kernel, by decide +kernel, by decide +kernel⟩ rfl (fun h => by cases h) (Nat.le_of_ble_eq_true rfl) rfl rfl rfl rfl (by decide) rfl rfl (fun H locs h => ?_)
                  obtain ⟨hP, hD, hS⟩ := h
                  refine lv_if_ne (tgt := 94) hx hb dX5_copy_88 (by decide) (fun c178 => ?_) (fun c178 => ?_)
                  · have hm := gk_if c178 hm
                    refine lv_aload hx hb dX5_copy_94 (lv_at hl 1 rfl) ?_
                    refine va_get (D := G.1) (cl := vwCl) (own := RX5) (ref := "ExchangeFamilies$Numbers") (ci := 1) (v := .ref a22) (C := RX2) (T := TX2) (N := 3) hx hb hts k_X5_copy_2 hown hK hP 4 rfl rfl 2 (by decide) (hts _ k_X5_copy_4) (fun _ h9 => h9) rfl dX5_copy_96 ?_
                    refine lv_iload_n hx hb dX5_copy_99 rfl (lv_at hl 4 rfl) ?_
                    refine lv_aload hx hb dX5_copy_100 (lv_at hl 0 rfl) ?_
                    refine va_get (D := G.1) (cl := vwCl) (own := RX5) (ref := "ExchangeFamilies$Numbers") (ci := 1) (v := .ref a24) (C := RX2) (T := TX2) (N := 3) hx hb hts k_X5_copy_2 hown hK hP 6 rfl rfl 2 (by decide) (hts _ k_X5_copy_4) (fun _ h9 => h9) rfl dX5_copy_102 ?_
                    refine lv_iload hx hb dX5_copy_105 (lv_at hl 6 rfl) ?_
                    refine lv_iload hx hb dX5_copy_107 (lv_at hl 7 rfl) ?_
                    obtain ⟨⟨hc1, hc2, hc3, hc4, hc5⟩, hm⟩ := gk_cp_some hm
                    refine va_copyl (own := RX5) hx hb (by rw [hml]; exact hl.1.symm) hown (hts _ k_X5_copy_5) (hts _ k_X5_copy_6) (hts _ k_X5_copy_7) (hts _ k_X5_copy_8) hK hP hD hS 5 7 1 1 rfl rfl rfl rfl rfl hc1 hc2 hc3 hc4 hc5 (fun _ _ => rfl) (Nat.le_of_ble_eq_true rfl) (Nat.le_of_ble_eq_true rfl) dX5_copy_109 (fun H locs hP hD hS => ?_)
                    have hP : va_P G.1 vwCl [(a0, .inr (4, [.ref a1, .ref a7, .int f_isKept, .ref a13, .ref a15, .ref a18])), (a18, gk_R G 4 (gk_four a19 a21 a23 a25)), (a19, .inr (1, [.int f_numbers_r0_sort, .int f_numbers_r0_size, .ref a20])), (a20, gk_J G 80 f_numbers_r0_values), (a21, .inr (1, [.int f_numbers_r1_sort, .int f_numbers_r1_size, .ref a22])), (a22, gk_J G 80 f_numbers_r1_values), (a23, .inr (1, [.int f_numbers_r2_sort, .int f_numbers_r2_size, .ref a24])), (a24, gk_J G 80 (va_cpy f_numbers_r1_values f_numbers_r2_values x2.toNatClampNeg x4.toNatClampNeg x5.toNatClampNeg)), (a25, .inr (1, [.int f_numbers_r3_sort, .int f_numbers_r3_size, .ref a26])), (a26, gk_J G 80 f_numbers_r3_values)] H := hP
                    have hD : va_D A [(a0, .inr (4, [.ref a1, .ref a7, .int f_isKept, .ref a13, .ref a15, .ref a18])), (a18, gk_R G 4 (gk_four a19 a21 a23 a25)), (a19, .inr (1, [.int f_numbers_r0_sort, .int f_numbers_r0_size, .ref a20])), (a20, gk_J G 80 f_numbers_r0_values), (a21, .inr (1, [.int f_numbers_r1_sort, .int f_numbers_r1_size, .ref a22])), (a22, gk_J G 80 f_numbers_r1_values), (a23, .inr (1, [.int f_numbers_r2_sort, .int f_numbers_r2_size, .ref a24])), (a24, gk_J G 80 (va_cpy f_numbers_r1_values f_numbers_r2_values x2.toNatClampNeg x4.toNatClampNeg x5.toNatClampNeg)), (a25, .inr (1, [.int f_numbers_r3_sort, .int f_numbers_r3_size, .ref a26])), (a26, gk_J G 80 f_numbers_r3_values)] := hD
                    refine lv_iload hx hb dX5_copy_112 (lv_at hl 7 rfl) ?_
                    rw [kr _ _ _ _ _ (Option.some.inj hm).symm]
                    exact gk_iret C ⟨hP, hD, hS⟩ dX5_copy_114
                  · have hm := gk_it c178 hm
                    refine lv_bipush (v := -12) hx hb dX5_copy_91 (by decide) ?_
                    rw [kr _ _ _ _ _ (Option.some.inj hm).symm]
                    exact gk_iret C ⟨hP, hD, hS⟩ dX5_copy_93
              · have hm := gk_if c174 hm
                refine lv_bipush (v := -13) hx hb dX5_copy_65 (by decide) ?_
                rw [kr _ _ _ _ _ (Option.some.inj hm).symm]
                exact gk_iret C ⟨hP, hD, hS⟩ dX5_copy_67
            · have hm := gk_if c173 hm
              refine lv_bipush (v := -11) hx hb dX5_copy_49 (by decide) ?_
              rw [kr _ _ _ _ _ (Option.some.inj hm).symm]
              exact gk_iret C ⟨hP, hD, hS⟩ dX5_copy_51
        have hm := gk_if c169 hm
        by_cases c179 : x3 = 3
        · have hm := gk_it c179 hm
          refine gk_aald (k := 3) (v := a25) C hP 1 rfl c179 (by decide) (by decide) rfl dX5_copy_30 ?_
          refine lv_astore (lv' := [(7, .ref a25), (6, .ref a21), (0, .ref a0), (1, .int x1), (2, .int x2), (3, .int x3), (4, .int x4), (5, .int x5)]) hx hb dX5_copy_31 hl (by decide) rfl (fun ls hl => ?_)
          refine lv_aload hx hb dX5_copy_33 (lv_at hl 1 rfl) ?_
          obtain ⟨r180, hq, hm⟩ := gk_bd1_some hm
          refine gk_callV (n := 0) (bytes := cX2_isMissing) (maxL := 1) (ret := (some .boolean)) (Cn := RX2) (T := TX2) (N := 3) [(a0, .inr (4, [.ref a1, .ref a7, .int f_isKept, .ref a13, .ref a15, .ref a18])), (a18, gk_R G 4 (gk_four a19 a21 a23 a25)), (a19, .inr (1, [.int f_numbers_r0_sort, .int f_numbers_r0_size, .ref a20])), (a20, gk_J G 80 f_numbers_r0_values), (a22, gk_J G 80 f_numbers_r1_values), (a23, .inr (1, [.int f_numbers_r2_sort, .int f_numbers_r2_size, .ref a24])), (a24, gk_J G 80 f_numbers_r2_values), (a25, .inr (1, [.int f_numbers_r3_sort, .int f_numbers_r3_size, .ref a26])), (a26, gk_J G 80 f_numbers_r3_values)] [(a0, .inr (4, [.ref a1, .ref a7, .int f_isKept, .ref a13, .ref a15, .ref a18])), (a18, gk_R G 4 (gk_four a19 a21 a23 a25)), (a19, .inr (1, [.int f_numbers_r0_sort, .int f_numbers_r0_size, .ref a20])), (a20, gk_J G 80 f_numbers_r0_values), (a21, .inr (1, [.int f_numbers_r1_sort, .int f_numbers_r1_size, .ref a22])), (a22, gk_J G 80 f_numbers_r1_values), (a23, .inr (1, [.int f_numbers_r2_sort, .int f_numbers_r2_size, .ref a24])), (a24, gk_J G 80 f_numbers_r2_values), (a25, .inr (1, [.int f_numbers_r3_sort, .int f_numbers_r3_size, .ref a26])), (a26, gk_J G 80 f_numbers_r3_values)] [] C ⟨hP, hD, hS⟩ (c_X2_isMissing l G a21 a22 f_numbers_r1_sort f_numbers_r1_size hq) gX5_copy_X2_isMissing dX5_copy_35 hl.1 [4] [0, 1, 2, 3, 5, 6, 7, 8, 9] [0, 1, 2, 3, 9, 4, 5, 6, 7, 8] rfl rfl ⟨rfl, rfl⟩ ⟨Nat.le_of_ble_eq_true rfl, Nat.le_of_ble_eq_true rfl⟩ ⟨rfl, by decide +kernel, by decide +kernel, by decide +kernel⟩ rfl (fun h => by cases h) (Nat.le_of_ble_eq_true rfl) rfl rfl rfl rfl (by decide) rfl rfl (fun H locs h => ?_)
          obtain ⟨hP, hD, hS⟩ := h
          refine lv_if_ne (tgt := 49) hx hb dX5_copy_38 (by decide) (fun c181 => ?_) (fun c181 => ?_)
          · have hm := gk_if c181 hm
            refine lv_bipush (v := -11) hx hb dX5_copy_49 (by decide) ?_
            rw [kr _ _ _ _ _ (Option.some.inj hm).symm]
            exact gk_iret C ⟨hP, hD, hS⟩ dX5_copy_51
          · have hm := gk_it c181 hm
            refine lv_aload hx hb dX5_copy_41 (lv_at hl 0 rfl) ?_
            obtain ⟨r182, hq, hm⟩ := gk_bd1_some hm
            refine gk_callV (n := 0) (bytes := cX2_isMissing) (maxL := 1) (ret := (some .boolean)) (Cn := RX2) (T := TX2) (N := 3) [(a0, .inr (4, [.ref a1, .ref a7, .int f_isKept, .ref a13, .ref a15, .ref a18])), (a18, gk_R G 4 (gk_four a19 a21 a23 a25)), (a19, .inr (1, [.int f_numbers_r0_sort, .int f_numbers_r0_size, .ref a20])), (a20, gk_J G 80 f_numbers_r0_values), (a21, .inr (1, [.int f_numbers_r1_sort, .int f_numbers_r1_size, .ref a22])), (a22, gk_J G 80 f_numbers_r1_values), (a23, .inr (1, [.int f_numbers_r2_sort, .int f_numbers_r2_size, .ref a24])), (a24, gk_J G 80 f_numbers_r2_values), (a26, gk_J G 80 f_numbers_r3_values)] [(a0, .inr (4, [.ref a1, .ref a7, .int f_isKept, .ref a13, .ref a15, .ref a18])), (a18, gk_R G 4 (gk_four a19 a21 a23 a25)), (a19, .inr (1, [.int f_numbers_r0_sort, .int f_numbers_r0_size, .ref a20])), (a20, gk_J G 80 f_numbers_r0_values), (a21, .inr (1, [.int f_numbers_r1_sort, .int f_numbers_r1_size, .ref a22])), (a22, gk_J G 80 f_numbers_r1_values), (a23, .inr (1, [.int f_numbers_r2_sort, .int f_numbers_r2_size, .ref a24])), (a24, gk_J G 80 f_numbers_r2_values), (a25, .inr (1, [.int f_numbers_r3_sort, .int f_numbers_r3_size, .ref a26])), (a26, gk_J G 80 f_numbers_r3_values)] [] C ⟨hP, hD, hS⟩ (c_X2_isMissing l G a25 a26 f_numbers_r3_sort f_numbers_r3_size hq) gX5_copy_X2_isMissing dX5_copy_43 hl.1 [8] [0, 1, 2, 3, 4, 5, 6, 7, 9] [0, 1, 2, 3, 4, 5, 6, 7, 9, 8] rfl rfl ⟨rfl, rfl⟩ ⟨Nat.le_of_ble_eq_true rfl, Nat.le_of_ble_eq_true rfl⟩ ⟨rfl, by decide +kernel, by decide +kernel, by decide +kernel⟩ rfl (fun h => by cases h) (Nat.le_of_ble_eq_true rfl) rfl rfl rfl rfl (by decide) rfl rfl (fun H locs h => ?_)
            obtain ⟨hP, hD, hS⟩ := h
            refine lv_if_eq (tgt := 52) hx hb dX5_copy_46 (by decide) (fun c183 => ?_) (fun c183 => ?_)
            · have hm := gk_it c183 hm
              refine lv_aload hx hb dX5_copy_52 (lv_at hl 1 rfl) ?_
              refine va_get (D := G.1) (cl := vwCl) (own := RX5) (ref := "ExchangeFamilies$Numbers") (ci := 1) (v := .int f_numbers_r1_sort) (C := RX2) (T := TX2) (N := 3) hx hb hts k_X5_copy_2 hown hK hP 4 rfl rfl 0 (by decide) (hts _ k_X5_copy_3) (fun _ h9 => h9) rfl dX5_copy_54 ?_
              refine lv_aload hx hb dX5_copy_57 (lv_at hl 0 rfl) ?_
              refine va_get (D := G.1) (cl := vwCl) (own := RX5) (ref := "ExchangeFamilies$Numbers") (ci := 1) (v := .int f_numbers_r3_sort) (C := RX2) (T := TX2) (N := 3) hx hb hts k_X5_copy_2 hown hK hP 8 rfl rfl 0 (by decide) (hts _ k_X5_copy_3) (fun _ h9 => h9) rfl dX5_copy_59 ?_
              refine lv_icmp_eq (tgt := 68) hx hb dX5_copy_62 (by decide) (fun c184 => ?_) (fun c184 => ?_)
              · have hm := gk_it c184 hm
                refine lv_aload hx hb dX5_copy_68 (lv_at hl 1 rfl) ?_
                refine lv_iload_n hx hb dX5_copy_70 rfl (lv_at hl 4 rfl) ?_
                refine lv_iload hx hb dX5_copy_71 (lv_at hl 7 rfl) ?_
                obtain ⟨r185, hq, hm⟩ := gk_bd1_some hm
                refine gk_callV (n := 2) (bytes := cX2_hasStretch) (maxL := 3) (ret := (some .boolean)) (Cn := RX2) (T := TX2) (N := 3) [(a0, .inr (4, [.ref a1, .ref a7, .int f_isKept, .ref a13, .ref a15, .ref a18])), (a18, gk_R G 4 (gk_four a19 a21 a23 a25)), (a19, .inr (1, [.int f_numbers_r0_sort, .int f_numbers_r0_size, .ref a20])), (a20, gk_J G 80 f_numbers_r0_values), (a22, gk_J G 80 f_numbers_r1_values), (a23, .inr (1, [.int f_numbers_r2_sort, .int f_numbers_r2_size, .ref a24])), (a24, gk_J G 80 f_numbers_r2_values), (a25, .inr (1, [.int f_numbers_r3_sort, .int f_numbers_r3_size, .ref a26])), (a26, gk_J G 80 f_numbers_r3_values)] [(a0, .inr (4, [.ref a1, .ref a7, .int f_isKept, .ref a13, .ref a15, .ref a18])), (a18, gk_R G 4 (gk_four a19 a21 a23 a25)), (a19, .inr (1, [.int f_numbers_r0_sort, .int f_numbers_r0_size, .ref a20])), (a20, gk_J G 80 f_numbers_r0_values), (a21, .inr (1, [.int f_numbers_r1_sort, .int f_numbers_r1_size, .ref a22])), (a22, gk_J G 80 f_numbers_r1_values), (a23, .inr (1, [.int f_numbers_r2_sort, .int f_numbers_r2_size, .ref a24])), (a24, gk_J G 80 f_numbers_r2_values), (a25, .inr (1, [.int f_numbers_r3_sort, .int f_numbers_r3_size, .ref a26])), (a26, gk_J G 80 f_numbers_r3_values)] [] C ⟨hP, hD, hS⟩ (c_X2_hasStretch l G a21 a22 f_numbers_r1_sort f_numbers_r1_size x2 x5 hq) gX5_copy_X2_hasStretch dX5_copy_73 hl.1 [4] [0, 1, 2, 3, 5, 6, 7, 8, 9] [0, 1, 2, 3, 9, 4, 5, 6, 7, 8] rfl rfl ⟨rfl, rfl⟩ ⟨Nat.le_of_ble_eq_true rfl, Nat.le_of_ble_eq_true rfl⟩ ⟨rfl, by decide +kernel, by decide +kernel, by decide +kernel⟩ rfl (fun h => by cases h) (Nat.le_of_ble_eq_true rfl) rfl rfl rfl rfl (by decide) rfl rfl (fun H locs h => ?_)
                obtain ⟨hP, hD, hS⟩ := h
                refine lv_if_eq (tgt := 91) hx hb dX5_copy_76 (by decide) (fun c186 => ?_) (fun c186 => ?_)
                · have hm := gk_it c186 hm
                  refine lv_bipush (v := -12) hx hb dX5_copy_91 (by decide) ?_
                  rw [kr _ _ _ _ _ (Option.some.inj hm).symm]
                  exact gk_iret C ⟨hP, hD, hS⟩ dX5_copy_93
                · have hm := gk_if c186 hm
                  refine lv_aload hx hb dX5_copy_79 (lv_at hl 0 rfl) ?_
                  refine lv_iload hx hb dX5_copy_81 (lv_at hl 6 rfl) ?_
                  refine lv_iload hx hb dX5_copy_83 (lv_at hl 7 rfl) ?_
                  obtain ⟨r187, hq, hm⟩ := gk_bd1_some hm
                  refine gk_callV (n := 2) (bytes := cX2_hasStretch) (maxL := 3) (ret := (some .boolean)) (Cn := RX2) (T := TX2) (N := 3) [(a0, .inr (4, [.ref a1, .ref a7, .int f_isKept, .ref a13, .ref a15, .ref a18])), (a18, gk_R G 4 (gk_four a19 a21 a23 a25)), (a19, .inr (1, [.int f_numbers_r0_sort, .int f_numbers_r0_size, .ref a20])), (a20, gk_J G 80 f_numbers_r0_values), (a21, .inr (1, [.int f_numbers_r1_sort, .int f_numbers_r1_size, .ref a22])), (a22, gk_J G 80 f_numbers_r1_values), (a23, .inr (1, [.int f_numbers_r2_sort, .int f_numbers_r2_size, .ref a24])), (a24, gk_J G 80 f_numbers_r2_values), (a26, gk_J G 80 f_numbers_r3_values)] [(a0, .inr (4, [.ref a1, .ref a7, .int f_isKept, .ref a13, .ref a15, .ref a18])), (a18, gk_R G 4 (gk_four a19 a21 a23 a25)), (a19, .inr (1, [.int f_numbers_r0_sort, .int f_numbers_r0_size, .ref a20])), (a20, gk_J G 80 f_numbers_r0_values), (a21, .inr (1, [.int f_numbers_r1_sort, .int f_numbers_r1_size, .ref a22])), (a22, gk_J G 80 f_numbers_r1_values), (a23, .inr (1, [.int f_numbers_r2_sort, .int f_numbers_r2_size, .ref a24])), (a24, gk_J G 80 f_numbers_r2_values), (a25, .inr (1, [.int f_numbers_r3_sort, .int f_numbers_r3_size, .ref a26])), (a26, gk_J G 80 f_numbers_r3_values)] [] C ⟨hP, hD, hS⟩ (c_X2_hasStretch l G a25 a26 f_numbers_r3_sort f_numbers_r3_size x4 x5 hq) gX5_copy_X2_hasStretch dX5_copy_85 hl.1 [8] [0, 1, 2, 3, 4, 5, 6, 7, 9] [0, 1, 2, 3, 4, 5, 6, 7, 9, 8] rfl rfl ⟨rfl, rfl⟩ ⟨Nat.le_of_ble_eq_true rfl, Nat.le_of_ble_eq_true rfl⟩ ⟨rfl, by decide +kernel, by decide +kernel, by decide +kernel⟩ rfl (fun h => by cases h) (Nat.le_of_ble_eq_true rfl) rfl rfl rfl rfl (by decide) rfl rfl (fun H locs h => ?_)
                  obtain ⟨hP, hD, hS⟩ := h
                  refine lv_if_ne (tgt := 94) hx hb dX5_copy_88 (by decide) (fun c188 => ?_) (fun c188 => ?_)
                  · have hm := gk_if c188 hm
                    refine lv_aload hx hb dX5_copy_94 (lv_at hl 1 rfl) ?_
                    refine va_get (D := G.1) (cl := vwCl) (own := RX5) (ref := "ExchangeFamilies$Numbers") (ci := 1) (v := .ref a22) (C := RX2) (T := TX2) (N := 3) hx hb hts k_X5_copy_2 hown hK hP 4 rfl rfl 2 (by decide) (hts _ k_X5_copy_4) (fun _ h9 => h9) rfl dX5_copy_96 ?_
                    refine lv_iload_n hx hb dX5_copy_99 rfl (lv_at hl 4 rfl) ?_
                    refine lv_aload hx hb dX5_copy_100 (lv_at hl 0 rfl) ?_
                    refine va_get (D := G.1) (cl := vwCl) (own := RX5) (ref := "ExchangeFamilies$Numbers") (ci := 1) (v := .ref a26) (C := RX2) (T := TX2) (N := 3) hx hb hts k_X5_copy_2 hown hK hP 8 rfl rfl 2 (by decide) (hts _ k_X5_copy_4) (fun _ h9 => h9) rfl dX5_copy_102 ?_
                    refine lv_iload hx hb dX5_copy_105 (lv_at hl 6 rfl) ?_
                    refine lv_iload hx hb dX5_copy_107 (lv_at hl 7 rfl) ?_
                    obtain ⟨⟨hc1, hc2, hc3, hc4, hc5⟩, hm⟩ := gk_cp_some hm
                    refine va_copyl (own := RX5) hx hb (by rw [hml]; exact hl.1.symm) hown (hts _ k_X5_copy_5) (hts _ k_X5_copy_6) (hts _ k_X5_copy_7) (hts _ k_X5_copy_8) hK hP hD hS 5 9 1 1 rfl rfl rfl rfl rfl hc1 hc2 hc3 hc4 hc5 (fun _ _ => rfl) (Nat.le_of_ble_eq_true rfl) (Nat.le_of_ble_eq_true rfl) dX5_copy_109 (fun H locs hP hD hS => ?_)
                    have hP : va_P G.1 vwCl [(a0, .inr (4, [.ref a1, .ref a7, .int f_isKept, .ref a13, .ref a15, .ref a18])), (a18, gk_R G 4 (gk_four a19 a21 a23 a25)), (a19, .inr (1, [.int f_numbers_r0_sort, .int f_numbers_r0_size, .ref a20])), (a20, gk_J G 80 f_numbers_r0_values), (a21, .inr (1, [.int f_numbers_r1_sort, .int f_numbers_r1_size, .ref a22])), (a22, gk_J G 80 f_numbers_r1_values), (a23, .inr (1, [.int f_numbers_r2_sort, .int f_numbers_r2_size, .ref a24])), (a24, gk_J G 80 f_numbers_r2_values), (a25, .inr (1, [.int f_numbers_r3_sort, .int f_numbers_r3_size, .ref a26])), (a26, gk_J G 80 (va_cpy f_numbers_r1_values f_numbers_r3_values x2.toNatClampNeg x4.toNatClampNeg x5.toNatClampNeg))] H := hP
                    have hD : va_D A [(a0, .inr (4, [.ref a1, .ref a7, .int f_isKept, .ref a13, .ref a15, .ref a18])), (a18, gk_R G 4 (gk_four a19 a21 a23 a25)), (a19, .inr (1, [.int f_numbers_r0_sort, .int f_numbers_r0_size, .ref a20])), (a20, gk_J G 80 f_numbers_r0_values), (a21, .inr (1, [.int f_numbers_r1_sort, .int f_numbers_r1_size, .ref a22])), (a22, gk_J G 80 f_numbers_r1_values), (a23, .inr (1, [.int f_numbers_r2_sort, .int f_numbers_r2_size, .ref a24])), (a24, gk_J G 80 f_numbers_r2_values), (a25, .inr (1, [.int f_numbers_r3_sort, .int f_numbers_r3_size, .ref a26])), (a26, gk_J G 80 (va_cpy f_numbers_r1_values f_numbers_r3_values x2.toNatClampNeg x4.toNatClampNeg x5.toNatClampNeg))] := hD
                    refine lv_iload hx hb dX5_copy_112 (lv_at hl 7 rfl) ?_
                    rw [kr _ _ _ _ _ (Option.some.inj hm).symm]
                    exact gk_iret C ⟨hP, hD, hS⟩ dX5_copy_114
                  · have hm := gk_it c188 hm
                    refine lv_bipush (v := -12) hx hb dX5_copy_91 (by decide) ?_
                    rw [kr _ _ _ _ _ (Option.some.inj hm).symm]
                    exact gk_iret C ⟨hP, hD, hS⟩ dX5_copy_93
              · have hm := gk_if c184 hm
                refine lv_bipush (v := -13) hx hb dX5_copy_65 (by decide) ?_
                rw [kr _ _ _ _ _ (Option.some.inj hm).symm]
                exact gk_iret C ⟨hP, hD, hS⟩ dX5_copy_67
            · have hm := gk_if c183 hm
              refine lv_bipush (v := -11) hx hb dX5_copy_49 (by decide) ?_
              rw [kr _ _ _ _ _ (Option.some.inj hm).symm]
              exact gk_iret C ⟨hP, hD, hS⟩ dX5_copy_51
        have hm := gk_if c179 hm
        cases hm
      have hm := gk_if c148 hm
      by_cases c189 : x1 = 2
      · have hm := gk_it c189 hm
        refine gk_aald (k := 2) (v := a23) C hP 1 rfl c189 (by decide) (by decide) rfl dX5_copy_22 ?_
        refine lv_astore (lv' := [(6, .ref a23), (0, .ref a0), (1, .int x1), (2, .int x2), (3, .int x3), (4, .int x4), (5, .int x5)]) hx hb dX5_copy_23 hl (by decide) rfl (fun ls hl => ?_)
        refine lv_aload_n hx hb dX5_copy_25 rfl (lv_at hl 1 rfl) ?_
        refine va_get (D := G.1) (cl := vwCl) (own := RX5) (ref := "ExchangeFamilies") (ci := 4) (v := .ref a18) (C := RX5) (T := TX5) (N := 6) hx hb hts k_X5_copy_0 hown hK hP 0 rfl rfl 5 (by decide) (hts _ k_X5_copy_1) (fun _ h9 => h9) rfl dX5_copy_26 ?_
        refine lv_iload_n hx hb dX5_copy_29 rfl (lv_at hl 4 rfl) ?_
        by_cases c190 : x3 = 0
        · have hm := gk_it c190 hm
          refine gk_aald (k := 0) (v := a19) C hP 1 rfl c190 (by decide) (by decide) rfl dX5_copy_30 ?_
          refine lv_astore (lv' := [(7, .ref a19), (6, .ref a23), (0, .ref a0), (1, .int x1), (2, .int x2), (3, .int x3), (4, .int x4), (5, .int x5)]) hx hb dX5_copy_31 hl (by decide) rfl (fun ls hl => ?_)
          refine lv_aload hx hb dX5_copy_33 (lv_at hl 1 rfl) ?_
          obtain ⟨r191, hq, hm⟩ := gk_bd1_some hm
          refine gk_callV (n := 0) (bytes := cX2_isMissing) (maxL := 1) (ret := (some .boolean)) (Cn := RX2) (T := TX2) (N := 3) [(a0, .inr (4, [.ref a1, .ref a7, .int f_isKept, .ref a13, .ref a15, .ref a18])), (a18, gk_R G 4 (gk_four a19 a21 a23 a25)), (a19, .inr (1, [.int f_numbers_r0_sort, .int f_numbers_r0_size, .ref a20])), (a20, gk_J G 80 f_numbers_r0_values), (a21, .inr (1, [.int f_numbers_r1_sort, .int f_numbers_r1_size, .ref a22])), (a22, gk_J G 80 f_numbers_r1_values), (a24, gk_J G 80 f_numbers_r2_values), (a25, .inr (1, [.int f_numbers_r3_sort, .int f_numbers_r3_size, .ref a26])), (a26, gk_J G 80 f_numbers_r3_values)] [(a0, .inr (4, [.ref a1, .ref a7, .int f_isKept, .ref a13, .ref a15, .ref a18])), (a18, gk_R G 4 (gk_four a19 a21 a23 a25)), (a19, .inr (1, [.int f_numbers_r0_sort, .int f_numbers_r0_size, .ref a20])), (a20, gk_J G 80 f_numbers_r0_values), (a21, .inr (1, [.int f_numbers_r1_sort, .int f_numbers_r1_size, .ref a22])), (a22, gk_J G 80 f_numbers_r1_values), (a23, .inr (1, [.int f_numbers_r2_sort, .int f_numbers_r2_size, .ref a24])), (a24, gk_J G 80 f_numbers_r2_values), (a25, .inr (1, [.int f_numbers_r3_sort, .int f_numbers_r3_size, .ref a26])), (a26, gk_J G 80 f_numbers_r3_values)] [] C ⟨hP, hD, hS⟩ (c_X2_isMissing l G a23 a24 f_numbers_r2_sort f_numbers_r2_size hq) gX5_copy_X2_isMissing dX5_copy_35 hl.1 [6] [0, 1, 2, 3, 4, 5, 7, 8, 9] [0, 1, 2, 3, 4, 5, 9, 6, 7, 8] rfl rfl ⟨rfl, rfl⟩ ⟨Nat.le_of_ble_eq_true rfl, Nat.le_of_ble_eq_true rfl⟩ ⟨rfl, by decide +kernel, by decide +kernel, by decide +kernel⟩ rfl (fun h => by cases h) (Nat.le_of_ble_eq_true rfl) rfl rfl rfl rfl (by decide) rfl rfl (fun H locs h => ?_)
          obtain ⟨hP, hD, hS⟩ := h
          refine lv_if_ne (tgt := 49) hx hb dX5_copy_38 (by decide) (fun c192 => ?_) (fun c192 => ?_)
          · have hm := gk_if c192 hm
            refine lv_bipush (v := -11) hx hb dX5_copy_49 (by decide) ?_
            rw [kr _ _ _ _ _ (Option.some.inj hm).symm]
            exact gk_iret C ⟨hP, hD, hS⟩ dX5_copy_51
          · have hm := gk_it c192 hm
            refine lv_aload hx hb dX5_copy_41 (lv_at hl 0 rfl) ?_
            obtain ⟨r193, hq, hm⟩ := gk_bd1_some hm
            refine gk_callV (n := 0) (bytes := cX2_isMissing) (maxL := 1) (ret := (some .boolean)) (Cn := RX2) (T := TX2) (N := 3) [(a0, .inr (4, [.ref a1, .ref a7, .int f_isKept, .ref a13, .ref a15, .ref a18])), (a18, gk_R G 4 (gk_four a19 a21 a23 a25)), (a20, gk_J G 80 f_numbers_r0_values), (a21, .inr (1, [.int f_numbers_r1_sort, .int f_numbers_r1_size, .ref a22])), (a22, gk_J G 80 f_numbers_r1_values), (a23, .inr (1, [.int f_numbers_r2_sort, .int f_numbers_r2_size, .ref a24])), (a24, gk_J G 80 f_numbers_r2_values), (a25, .inr (1, [.int f_numbers_r3_sort, .int f_numbers_r3_size, .ref a26])), (a26, gk_J G 80 f_numbers_r3_values)] [(a0, .inr (4, [.ref a1, .ref a7, .int f_isKept, .ref a13, .ref a15, .ref a18])), (a18, gk_R G 4 (gk_four a19 a21 a23 a25)), (a19, .inr (1, [.int f_numbers_r0_sort, .int f_numbers_r0_size, .ref a20])), (a20, gk_J G 80 f_numbers_r0_values), (a21, .inr (1, [.int f_numbers_r1_sort, .int f_numbers_r1_size, .ref a22])), (a22, gk_J G 80 f_numbers_r1_values), (a23, .inr (1, [.int f_numbers_r2_sort, .int f_numbers_r2_size, .ref a24])), (a24, gk_J G 80 f_numbers_r2_values), (a25, .inr (1, [.int f_numbers_r3_sort, .int f_numbers_r3_size, .ref a26])), (a26, gk_J G 80 f_numbers_r3_values)] [] C ⟨hP, hD, hS⟩ (c_X2_isMissing l G a19 a20 f_numbers_r0_sort f_numbers_r0_size hq) gX5_copy_X2_isMissing dX5_copy_43 hl.1 [2] [0, 1, 3, 4, 5, 6, 7, 8, 9] [0, 1, 9, 2, 3, 4, 5, 6, 7, 8] rfl rfl ⟨rfl, rfl⟩ ⟨Nat.le_of_ble_eq_true rfl, Nat.le_of_ble_eq_true rfl⟩ ⟨rfl, by decide +kernel, by decide +kernel, by decide +kernel⟩ rfl (fun h => by cases h) (Nat.le_of_ble_eq_true rfl) rfl rfl rfl rfl (by decide) rfl rfl (fun H locs h => ?_)
            obtain ⟨hP, hD, hS⟩ := h
            refine lv_if_eq (tgt := 52) hx hb dX5_copy_46 (by decide) (fun c194 => ?_) (fun c194 => ?_)
            · have hm := gk_it c194 hm
              refine lv_aload hx hb dX5_copy_52 (lv_at hl 1 rfl) ?_
              refine va_get (D := G.1) (cl := vwCl) (own := RX5) (ref := "ExchangeFamilies$Numbers") (ci := 1) (v := .int f_numbers_r2_sort) (C := RX2) (T := TX2) (N := 3) hx hb hts k_X5_copy_2 hown hK hP 6 rfl rfl 0 (by decide) (hts _ k_X5_copy_3) (fun _ h9 => h9) rfl dX5_copy_54 ?_
              refine lv_aload hx hb dX5_copy_57 (lv_at hl 0 rfl) ?_
              refine va_get (D := G.1) (cl := vwCl) (own := RX5) (ref := "ExchangeFamilies$Numbers") (ci := 1) (v := .int f_numbers_r0_sort) (C := RX2) (T := TX2) (N := 3) hx hb hts k_X5_copy_2 hown hK hP 2 rfl rfl 0 (by decide) (hts _ k_X5_copy_3) (fun _ h9 => h9) rfl dX5_copy_59 ?_
              refine lv_icmp_eq (tgt := 68) hx hb dX5_copy_62 (by decide) (fun c195 => ?_) (fun c195 => ?_)
              · have hm := gk_it c195 hm
                refine lv_aload hx hb dX5_copy_68 (lv_at hl 1 rfl) ?_
                refine lv_iload_n hx hb dX5_copy_70 rfl (lv_at hl 4 rfl) ?_
                refine lv_iload hx hb dX5_copy_71 (lv_at hl 7 rfl) ?_
                obtain ⟨r196, hq, hm⟩ := gk_bd1_some hm
                refine gk_callV (n := 2) (bytes := cX2_hasStretch) (maxL := 3) (ret := (some .boolean)) (Cn := RX2) (T := TX2) (N := 3) [(a0, .inr (4, [.ref a1, .ref a7, .int f_isKept, .ref a13, .ref a15, .ref a18])), (a18, gk_R G 4 (gk_four a19 a21 a23 a25)), (a19, .inr (1, [.int f_numbers_r0_sort, .int f_numbers_r0_size, .ref a20])), (a20, gk_J G 80 f_numbers_r0_values), (a21, .inr (1, [.int f_numbers_r1_sort, .int f_numbers_r1_size, .ref a22])), (a22, gk_J G 80 f_numbers_r1_values), (a24, gk_J G 80 f_numbers_r2_values), (a25, .inr (1, [.int f_numbers_r3_sort, .int f_numbers_r3_size, .ref a26])), (a26, gk_J G 80 f_numbers_r3_values)] [(a0, .inr (4, [.ref a1, .ref a7, .int f_isKept, .ref a13, .ref a15, .ref a18])), (a18, gk_R G 4 (gk_four a19 a21 a23 a25)), (a19, .inr (1, [.int f_numbers_r0_sort, .int f_numbers_r0_size, .ref a20])), (a20, gk_J G 80 f_numbers_r0_values), (a21, .inr (1, [.int f_numbers_r1_sort, .int f_numbers_r1_size, .ref a22])), (a22, gk_J G 80 f_numbers_r1_values), (a23, .inr (1, [.int f_numbers_r2_sort, .int f_numbers_r2_size, .ref a24])), (a24, gk_J G 80 f_numbers_r2_values), (a25, .inr (1, [.int f_numbers_r3_sort, .int f_numbers_r3_size, .ref a26])), (a26, gk_J G 80 f_numbers_r3_values)] [] C ⟨hP, hD, hS⟩ (c_X2_hasStretch l G a23 a24 f_numbers_r2_sort f_numbers_r2_size x2 x5 hq) gX5_copy_X2_hasStretch dX5_copy_73 hl.1 [6] [0, 1, 2, 3, 4, 5, 7, 8, 9] [0, 1, 2, 3, 4, 5, 9, 6, 7, 8] rfl rfl ⟨rfl, rfl⟩ ⟨Nat.le_of_ble_eq_true rfl, Nat.le_of_ble_eq_true rfl⟩ ⟨rfl, by decide +kernel, by decide +kernel, by decide +kernel⟩ rfl (fun h => by cases h) (Nat.le_of_ble_eq_true rfl) rfl rfl rfl rfl (by decide) rfl rfl (fun H locs h => ?_)
                obtain ⟨hP, hD, hS⟩ := h
                refine lv_if_eq (tgt := 91) hx hb dX5_copy_76 (by decide) (fun c197 => ?_) (fun c197 => ?_)
                · have hm := gk_it c197 hm
                  refine lv_bipush (v := -12) hx hb dX5_copy_91 (by decide) ?_
                  rw [kr _ _ _ _ _ (Option.some.inj hm).symm]
                  exact gk_iret C ⟨hP, hD, hS⟩ dX5_copy_93
                · have hm := gk_if c197 hm
                  refine lv_aload hx hb dX5_copy_79 (lv_at hl 0 rfl) ?_
                  refine lv_iload hx hb dX5_copy_81 (lv_at hl 6 rfl) ?_
                  refine lv_iload hx hb dX5_copy_83 (lv_at hl 7 rfl) ?_
                  obtain ⟨r198, hq, hm⟩ := gk_bd1_some hm
                  refine gk_callV (n := 2) (bytes := cX2_hasStretch) (maxL := 3) (ret := (some .boolean)) (Cn := RX2) (T := TX2) (N := 3) [(a0, .inr (4, [.ref a1, .ref a7, .int f_isKept, .ref a13, .ref a15, .ref a18])), (a18, gk_R G 4 (gk_four a19 a21 a23 a25)), (a20, gk_J G 80 f_numbers_r0_values), (a21, .inr (1, [.int f_numbers_r1_sort, .int f_numbers_r1_size, .ref a22])), (a22, gk_J G 80 f_numbers_r1_values), (a23, .inr (1, [.int f_numbers_r2_sort, .int f_numbers_r2_size, .ref a24])), (a24, gk_J G 80 f_numbers_r2_values), (a25, .inr (1, [.int f_numbers_r3_sort, .int f_numbers_r3_size, .ref a26])), (a26, gk_J G 80 f_numbers_r3_values)] [(a0, .inr (4, [.ref a1, .ref a7, .int f_isKept, .ref a13, .ref a15, .ref a18])), (a18, gk_R G 4 (gk_four a19 a21 a23 a25)), (a19, .inr (1, [.int f_numbers_r0_sort, .int f_numbers_r0_size, .ref a20])), (a20, gk_J G 80 f_numbers_r0_values), (a21, .inr (1, [.int f_numbers_r1_sort, .int f_numbers_r1_size, .ref a22])), (a22, gk_J G 80 f_numbers_r1_values), (a23, .inr (1, [.int f_numbers_r2_sort, .int f_numbers_r2_size, .ref a24])), (a24, gk_J G 80 f_numbers_r2_values), (a25, .inr (1, [.int f_numbers_r3_sort, .int f_numbers_r3_size, .ref a26])), (a26, gk_J G 80 f_numbers_r3_values)] [] C ⟨hP, hD, hS⟩ (c_X2_hasStretch l G a19 a20 f_numbers_r0_sort f_numbers_r0_size x4 x5 hq) gX5_copy_X2_hasStretch dX5_copy_85 hl.1 [2] [0, 1, 3, 4, 5, 6, 7, 8, 9] [0, 1, 9, 2, 3, 4, 5, 6, 7, 8] rfl rfl ⟨rfl, rfl⟩ ⟨Nat.le_of_ble_eq_true rfl, Nat.le_of_ble_eq_true rfl⟩ ⟨rfl, by decide +kernel, by decide +kernel, by decide +kernel⟩ rfl (fun h => by cases h) (Nat.le_of_ble_eq_true rfl) rfl rfl rfl rfl (by decide) rfl rfl (fun H locs h => ?_)
                  obtain ⟨hP, hD, hS⟩ := h
                  refine lv_if_ne (tgt := 94) hx hb dX5_copy_88 (by decide) (fun c199 => ?_) (fun c199 => ?_)
                  · have hm := gk_if c199 hm
                    refine lv_aload hx hb dX5_copy_94 (lv_at hl 1 rfl) ?_
                    refine va_get (D := G.1) (cl := vwCl) (own := RX5) (ref := "ExchangeFamilies$Numbers") (ci := 1) (v := .ref a24) (C := RX2) (T := TX2) (N := 3) hx hb hts k_X5_copy_2 hown hK hP 6 rfl rfl 2 (by decide) (hts _ k_X5_copy_4) (fun _ h9 => h9) rfl dX5_copy_96 ?_
                    refine lv_iload_n hx hb dX5_copy_99 rfl (lv_at hl 4 rfl) ?_
                    refine lv_aload hx hb dX5_copy_100 (lv_at hl 0 rfl) ?_
                    refine va_get (D := G.1) (cl := vwCl) (own := RX5) (ref := "ExchangeFamilies$Numbers") (ci := 1) (v := .ref a20) (C := RX2) (T := TX2) (N := 3) hx hb hts k_X5_copy_2 hown hK hP 2 rfl rfl 2 (by decide) (hts _ k_X5_copy_4) (fun _ h9 => h9) rfl dX5_copy_102 ?_
                    refine lv_iload hx hb dX5_copy_105 (lv_at hl 6 rfl) ?_
                    refine lv_iload hx hb dX5_copy_107 (lv_at hl 7 rfl) ?_
                    obtain ⟨⟨hc1, hc2, hc3, hc4, hc5⟩, hm⟩ := gk_cp_some hm
                    refine va_copyl (own := RX5) hx hb (by rw [hml]; exact hl.1.symm) hown (hts _ k_X5_copy_5) (hts _ k_X5_copy_6) (hts _ k_X5_copy_7) (hts _ k_X5_copy_8) hK hP hD hS 7 3 1 1 rfl rfl rfl rfl rfl hc1 hc2 hc3 hc4 hc5 (fun _ _ => rfl) (Nat.le_of_ble_eq_true rfl) (Nat.le_of_ble_eq_true rfl) dX5_copy_109 (fun H locs hP hD hS => ?_)
                    have hP : va_P G.1 vwCl [(a0, .inr (4, [.ref a1, .ref a7, .int f_isKept, .ref a13, .ref a15, .ref a18])), (a18, gk_R G 4 (gk_four a19 a21 a23 a25)), (a19, .inr (1, [.int f_numbers_r0_sort, .int f_numbers_r0_size, .ref a20])), (a20, gk_J G 80 (va_cpy f_numbers_r2_values f_numbers_r0_values x2.toNatClampNeg x4.toNatClampNeg x5.toNatClampNeg)), (a21, .inr (1, [.int f_numbers_r1_sort, .int f_numbers_r1_size, .ref a22])), (a22, gk_J G 80 f_numbers_r1_values), (a23, .inr (1, [.int f_numbers_r2_sort, .int f_numbers_r2_size, .ref a24])), (a24, gk_J G 80 f_numbers_r2_values), (a25, .inr (1, [.int f_numbers_r3_sort, .int f_numbers_r3_size, .ref a26])), (a26, gk_J G 80 f_numbers_r3_values)] H := hP
                    have hD : va_D A [(a0, .inr (4, [.ref a1, .ref a7, .int f_isKept, .ref a13, .ref a15, .ref a18])), (a18, gk_R G 4 (gk_four a19 a21 a23 a25)), (a19, .inr (1, [.int f_numbers_r0_sort, .int f_numbers_r0_size, .ref a20])), (a20, gk_J G 80 (va_cpy f_numbers_r2_values f_numbers_r0_values x2.toNatClampNeg x4.toNatClampNeg x5.toNatClampNeg)), (a21, .inr (1, [.int f_numbers_r1_sort, .int f_numbers_r1_size, .ref a22])), (a22, gk_J G 80 f_numbers_r1_values), (a23, .inr (1, [.int f_numbers_r2_sort, .int f_numbers_r2_size, .ref a24])), (a24, gk_J G 80 f_numbers_r2_values), (a25, .inr (1, [.int f_numbers_r3_sort, .int f_numbers_r3_size, .ref a26])), (a26, gk_J G 80 f_numbers_r3_values)] := hD
                    refine lv_iload hx hb dX5_copy_112 (lv_at hl 7 rfl) ?_
                    rw [kr _ _ _ _ _ (Option.some.inj hm).symm]
                    exact gk_iret C ⟨hP, hD, hS⟩ dX5_copy_114
                  · have hm := gk_it c199 hm
                    refine lv_bipush (v := -12) hx hb dX5_copy_91 (by decide) ?_
                    rw [kr _ _ _ _ _ (Option.some.inj hm).symm]
                    exact gk_iret C ⟨hP, hD, hS⟩ dX5_copy_93
              · have hm := gk_if c195 hm
                refine lv_bipush (v := -13) hx hb dX5_copy_65 (by decide) ?_
                rw [kr _ _ _ _ _ (Option.some.inj hm).symm]
                exact gk_iret C ⟨hP, hD, hS⟩ dX5_copy_67
            · have hm := gk_if c194 hm
              refine lv_bipush (v := -11) hx hb dX5_copy_49 (by decide) ?_
              rw [kr _ _ _ _ _ (Option.some.inj hm).symm]
              exact gk_iret C ⟨hP, hD, hS⟩ dX5_copy_51
        have hm := gk_if c190 hm
        by_cases c200 : x3 = 1
        · have hm := gk_it c200 hm
          refine gk_aald (k := 1) (v := a21) C hP 1 rfl c200 (by decide) (by decide) rfl dX5_copy_30 ?_
          refine lv_astore (lv' := [(7, .ref a21), (6, .ref a23), (0, .ref a0), (1, .int x1), (2, .int x2), (3, .int x3), (4, .int x4), (5, .int x5)]) hx hb dX5_copy_31 hl (by decide) rfl (fun ls hl => ?_)
          refine lv_aload hx hb dX5_copy_33 (lv_at hl 1 rfl) ?_
          obtain ⟨r201, hq, hm⟩ := gk_bd1_some hm
          refine gk_callV (n := 0) (bytes := cX2_isMissing) (maxL := 1) (ret := (some .boolean)) (Cn := RX2) (T := TX2) (N := 3) [(a0, .inr (4, [.ref a1, .ref a7, .int f_isKept, .ref a13, .ref a15, .ref a18])), (a18, gk_R G 4 (gk_four a19 a21 a23 a25)), (a19, .inr (1, [.int f_numbers_r0_sort, .int f_numbers_r0_size, .ref a20])), (a20, gk_J G 80 f_numbers_r0_values), (a21, .inr (1, [.int f_numbers_r1_sort, .int f_numbers_r1_size, .ref a22])), (a22, gk_J G 80 f_numbers_r1_values), (a24, gk_J G 80 f_numbers_r2_values), (a25, .inr (1, [.int f_numbers_r3_sort, .int f_numbers_r3_size, .ref a26])), (a26, gk_J G 80 f_numbers_r3_values)] [(a0, .inr (4, [.ref a1, .ref a7, .int f_isKept, .ref a13, .ref a15, .ref a18])), (a18, gk_R G 4 (gk_four a19 a21 a23 a25)), (a19, .inr (1, [.int f_numbers_r0_sort, .int f_numbers_r0_size, .ref a20])), (a20, gk_J G 80 f_numbers_r0_values), (a21, .inr (1, [.int f_numbers_r1_sort, .int f_numbers_r1_size, .ref a22])), (a22, gk_J G 80 f_numbers_r1_values), (a23, .inr (1, [.int f_numbers_r2_sort, .int f_numbers_r2_size, .ref a24])), (a24, gk_J G 80 f_numbers_r2_values), (a25, .inr (1, [.int f_numbers_r3_sort, .int f_numbers_r3_size, .ref a26])), (a26, gk_J G 80 f_numbers_r3_values)] [] C ⟨hP, hD, hS⟩ (c_X2_isMissing l G a23 a24 f_numbers_r2_sort f_numbers_r2_size hq) gX5_copy_X2_isMissing dX5_copy_35 hl.1 [6] [0, 1, 2, 3, 4, 5, 7, 8, 9] [0, 1, 2, 3, 4, 5, 9, 6, 7, 8] rfl rfl ⟨rfl, rfl⟩ ⟨Nat.le_of_ble_eq_true rfl, Nat.le_of_ble_eq_true rfl⟩ ⟨rfl, by decide +kernel, by decide +kernel, by decide +kernel⟩ rfl (fun h => by cases h) (Nat.le_of_ble_eq_true rfl) rfl rfl rfl rfl (by decide) rfl rfl (fun H locs h => ?_)
          obtain ⟨hP, hD, hS⟩ := h
          refine lv_if_ne (tgt := 49) hx hb dX5_copy_38 (by decide) (fun c202 => ?_) (fun c202 => ?_)
          · have hm := gk_if c202 hm
            refine lv_bipush (v := -11) hx hb dX5_copy_49 (by decide) ?_
            rw [kr _ _ _ _ _ (Option.some.inj hm).symm]
            exact gk_iret C ⟨hP, hD, hS⟩ dX5_copy_51
          · have hm := gk_it c202 hm
            refine lv_aload hx hb dX5_copy_41 (lv_at hl 0 rfl) ?_
            obtain ⟨r203, hq, hm⟩ := gk_bd1_some hm
            refine gk_callV (n := 0) (bytes := cX2_isMissing) (maxL := 1) (ret := (some .boolean)) (Cn := RX2) (T := TX2) (N := 3) [(a0, .inr (4, [.ref a1, .ref a7, .int f_isKept, .ref a13, .ref a15, .ref a18])), (a18, gk_R G 4 (gk_four a19 a21 a23 a25)), (a19, .inr (1, [.int f_numbers_r0_sort, .int f_numbers_r0_size, .ref a20])), (a20, gk_J G 80 f_numbers_r0_values), (a22, gk_J G 80 f_numbers_r1_values), (a23, .inr (1, [.int f_numbers_r2_sort, .int f_numbers_r2_size, .ref a24])), (a24, gk_J G 80 f_numbers_r2_values), (a25, .inr (1, [.int f_numbers_r3_sort, .int f_numbers_r3_size, .ref a26])), (a26, gk_J G 80 f_numbers_r3_values)] [(a0, .inr (4, [.ref a1, .ref a7, .int f_isKept, .ref a13, .ref a15, .ref a18])), (a18, gk_R G 4 (gk_four a19 a21 a23 a25)), (a19, .inr (1, [.int f_numbers_r0_sort, .int f_numbers_r0_size, .ref a20])), (a20, gk_J G 80 f_numbers_r0_values), (a21, .inr (1, [.int f_numbers_r1_sort, .int f_numbers_r1_size, .ref a22])), (a22, gk_J G 80 f_numbers_r1_values), (a23, .inr (1, [.int f_numbers_r2_sort, .int f_numbers_r2_size, .ref a24])), (a24, gk_J G 80 f_numbers_r2_values), (a25, .inr (1, [.int f_numbers_r3_sort, .int f_numbers_r3_size, .ref a26])), (a26, gk_J G 80 f_numbers_r3_values)] [] C ⟨hP, hD, hS⟩ (c_X2_isMissing l G a21 a22 f_numbers_r1_sort f_numbers_r1_size hq) gX5_copy_X2_isMissing dX5_copy_43 hl.1 [4] [0, 1, 2, 3, 5, 6, 7, 8, 9] [0, 1, 2, 3, 9, 4, 5, 6, 7, 8] rfl rfl ⟨rfl, rfl⟩ ⟨Nat.le_of_ble_eq_true rfl, Nat.le_of_ble_eq_true rfl⟩ ⟨rfl, by decide +kernel, by decide +kernel, by decide +kernel⟩ rfl (fun h => by cases h) (Nat.le_of_ble_eq_true rfl) rfl rfl rfl rfl (by decide) rfl rfl (fun H locs h => ?_)
            obtain ⟨hP, hD, hS⟩ := h
            refine lv_if_eq (tgt := 52) hx hb dX5_copy_46 (by decide) (fun c204 => ?_) (fun c204 => ?_)
            · have hm := gk_it c204 hm
              refine lv_aload hx hb dX5_copy_52 (lv_at hl 1 rfl) ?_
              refine va_get (D := G.1) (cl := vwCl) (own := RX5) (ref := "ExchangeFamilies$Numbers") (ci := 1) (v := .int f_numbers_r2_sort) (C := RX2) (T := TX2) (N := 3) hx hb hts k_X5_copy_2 hown hK hP 6 rfl rfl 0 (by decide) (hts _ k_X5_copy_3) (fun _ h9 => h9) rfl dX5_copy_54 ?_
              refine lv_aload hx hb dX5_copy_57 (lv_at hl 0 rfl) ?_
              refine va_get (D := G.1) (cl := vwCl) (own := RX5) (ref := "ExchangeFamilies$Numbers") (ci := 1) (v := .int f_numbers_r1_sort) (C := RX2) (T := TX2) (N := 3) hx hb hts k_X5_copy_2 hown hK hP 4 rfl rfl 0 (by decide) (hts _ k_X5_copy_3) (fun _ h9 => h9) rfl dX5_copy_59 ?_
              refine lv_icmp_eq (tgt := 68) hx hb dX5_copy_62 (by decide) (fun c205 => ?_) (fun c205 => ?_)
              · have hm := gk_it c205 hm
                refine lv_aload hx hb dX5_copy_68 (lv_at hl 1 rfl) ?_
                refine lv_iload_n hx hb dX5_copy_70 rfl (lv_at hl 4 rfl) ?_
                refine lv_iload hx hb dX5_copy_71 (lv_at hl 7 rfl) ?_
                obtain ⟨r206, hq, hm⟩ := gk_bd1_some hm
                refine gk_callV (n := 2) (bytes := cX2_hasStretch) (maxL := 3) (ret := (some .boolean)) (Cn := RX2) (T := TX2) (N := 3) [(a0, .inr (4, [.ref a1, .ref a7, .int f_isKept, .ref a13, .ref a15, .ref a18])), (a18, gk_R G 4 (gk_four a19 a21 a23 a25)), (a19, .inr (1, [.int f_numbers_r0_sort, .int f_numbers_r0_size, .ref a20])), (a20, gk_J G 80 f_numbers_r0_values), (a21, .inr (1, [.int f_numbers_r1_sort, .int f_numbers_r1_size, .ref a22])), (a22, gk_J G 80 f_numbers_r1_values), (a24, gk_J G 80 f_numbers_r2_values), (a25, .inr (1, [.int f_numbers_r3_sort, .int f_numbers_r3_size, .ref a26])), (a26, gk_J G 80 f_numbers_r3_values)] [(a0, .inr (4, [.ref a1, .ref a7, .int f_isKept, .ref a13, .ref a15, .ref a18])), (a18, gk_R G 4 (gk_four a19 a21 a23 a25)), (a19, .inr (1, [.int f_numbers_r0_sort, .int f_numbers_r0_size, .ref a20])), (a20, gk_J G 80 f_numbers_r0_values), (a21, .inr (1, [.int f_numbers_r1_sort, .int f_numbers_r1_size, .ref a22])), (a22, gk_J G 80 f_numbers_r1_values), (a23, .inr (1, [.int f_numbers_r2_sort, .int f_numbers_r2_size, .ref a24])), (a24, gk_J G 80 f_numbers_r2_values), (a25, .inr (1, [.int f_numbers_r3_sort, .int f_numbers_r3_size, .ref a26])), (a26, gk_J G 80 f_numbers_r3_values)] [] C ⟨hP, hD, hS⟩ (c_X2_hasStretch l G a23 a24 f_numbers_r2_sort f_numbers_r2_size x2 x5 hq) gX5_copy_X2_hasStretch dX5_copy_73 hl.1 [6] [0, 1, 2, 3, 4, 5, 7, 8, 9] [0, 1, 2, 3, 4, 5, 9, 6, 7, 8] rfl rfl ⟨rfl, rfl⟩ ⟨Nat.le_of_ble_eq_true rfl, Nat.le_of_ble_eq_true rfl⟩ ⟨rfl, by decide +kernel, by decide +kernel, by decide +kernel⟩ rfl (fun h => by cases h) (Nat.le_of_ble_eq_true rfl) rfl rfl rfl rfl (by decide) rfl rfl (fun H locs h => ?_)
                obtain ⟨hP, hD, hS⟩ := h
                refine lv_if_eq (tgt := 91) hx hb dX5_copy_76 (by decide) (fun c207 => ?_) (fun c207 => ?_)
                · have hm := gk_it c207 hm
                  refine lv_bipush (v := -12) hx hb dX5_copy_91 (by decide) ?_
                  rw [kr _ _ _ _ _ (Option.some.inj hm).symm]
                  exact gk_iret C ⟨hP, hD, hS⟩ dX5_copy_93
                · have hm := gk_if c207 hm
                  refine lv_aload hx hb dX5_copy_79 (lv_at hl 0 rfl) ?_
                  refine lv_iload hx hb dX5_copy_81 (lv_at hl 6 rfl) ?_
                  refine lv_iload hx hb dX5_copy_83 (lv_at hl 7 rfl) ?_
                  obtain ⟨r208, hq, hm⟩ := gk_bd1_some hm
                  refine gk_callV (n := 2) (bytes := cX2_hasStretch) (maxL := 3) (ret := (some .boolean)) (Cn := RX2) (T := TX2) (N := 3) [(a0, .inr (4, [.ref a1, .ref a7, .int f_isKept, .ref a13, .ref a15, .ref a18])), (a18, gk_R G 4 (gk_four a19 a21 a23 a25)), (a19, .inr (1, [.int f_numbers_r0_sort, .int f_numbers_r0_size, .ref a20])), (a20, gk_J G 80 f_numbers_r0_values), (a22, gk_J G 80 f_numbers_r1_values), (a23, .inr (1, [.int f_numbers_r2_sort, .int f_numbers_r2_size, .ref a24])), (a24, gk_J G 80 f_numbers_r2_values), (a25, .inr (1, [.int f_numbers_r3_sort, .int f_numbers_r3_size, .ref a26])), (a26, gk_J G 80 f_numbers_r3_values)] [(a0, .inr (4, [.ref a1, .ref a7, .int f_isKept, .ref a13, .ref a15, .ref a18])), (a18, gk_R G 4 (gk_four a19 a21 a23 a25)), (a19, .inr (1, [.int f_numbers_r0_sort, .int f_numbers_r0_size, .ref a20])), (a20, gk_J G 80 f_numbers_r0_values), (a21, .inr (1, [.int f_numbers_r1_sort, .int f_numbers_r1_size, .ref a22])), (a22, gk_J G 80 f_numbers_r1_values), (a23, .inr (1, [.int f_numbers_r2_sort, .int f_numbers_r2_size, .ref a24])), (a24, gk_J G 80 f_numbers_r2_values), (a25, .inr (1, [.int f_numbers_r3_sort, .int f_numbers_r3_size, .ref a26])), (a26, gk_J G 80 f_numbers_r3_values)] [] C ⟨hP, hD, hS⟩ (c_X2_hasStretch l G a21 a22 f_numbers_r1_sort f_numbers_r1_size x4 x5 hq) gX5_copy_X2_hasStretch dX5_copy_85 hl.1 [4] [0, 1, 2, 3, 5, 6, 7, 8, 9] [0, 1, 2, 3, 9, 4, 5, 6, 7, 8] rfl rfl ⟨rfl, rfl⟩ ⟨Nat.le_of_ble_eq_true rfl, Nat.le_of_ble_eq_true rfl⟩ ⟨rfl, by decide +kernel, by decide +kernel, by decide +kernel⟩ rfl (fun h => by cases h) (Nat.le_of_ble_eq_true rfl) rfl rfl rfl rfl (by decide) rfl rfl (fun H locs h => ?_)
                  obtain ⟨hP, hD, hS⟩ := h
                  refine lv_if_ne (tgt := 94) hx hb dX5_copy_88 (by decide) (fun c209 => ?_) (fun c209 => ?_)
                  · have hm := gk_if c209 hm
                    refine lv_aload hx hb dX5_copy_94 (lv_at hl 1 rfl) ?_
                    refine va_get (D := G.1) (cl := vwCl) (own := RX5) (ref := "ExchangeFamilies$Numbers") (ci := 1) (v := .ref a24) (C := RX2) (T := TX2) (N := 3) hx hb hts k_X5_copy_2 hown hK hP 6 rfl rfl 2 (by decide) (hts _ k_X5_copy_4) (fun _ h9 => h9) rfl dX5_copy_96 ?_
                    refine lv_iload_n hx hb dX5_copy_99 rfl (lv_at hl 4 rfl) ?_
                    refine lv_aload hx hb dX5_copy_100 (lv_at hl 0 rfl) ?_
                    refine va_get (D := G.1) (cl := vwCl) (own := RX5) (ref := "ExchangeFamilies$Numbers") (ci := 1) (v := .ref a22) (C := RX2) (T := TX2) (N := 3) hx hb hts k_X5_copy_2 hown hK hP 4 rfl rfl 2 (by decide) (hts _ k_X5_copy_4) (fun _ h9 => h9) rfl dX5_copy_102 ?_
                    refine lv_iload hx hb dX5_copy_105 (lv_at hl 6 rfl) ?_
                    refine lv_iload hx hb dX5_copy_107 (lv_at hl 7 rfl) ?_
                    obtain ⟨⟨hc1, hc2, hc3, hc4, hc5⟩, hm⟩ := gk_cp_some hm
                    refine va_copyl (own := RX5) hx hb (by rw [hml]; exact hl.1.symm) hown (hts _ k_X5_copy_5) (hts _ k_X5_copy_6) (hts _ k_X5_copy_7) (hts _ k_X5_copy_8) hK hP hD hS 7 5 1 1 rfl rfl rfl rfl rfl hc1 hc2 hc3 hc4 hc5 (fun _ _ => rfl) (Nat.le_of_ble_eq_true rfl) (Nat.le_of_ble_eq_true rfl) dX5_copy_109 (fun H locs hP hD hS => ?_)
                    have hP : va_P G.1 vwCl [(a0, .inr (4, [.ref a1, .ref a7, .int f_isKept, .ref a13, .ref a15, .ref a18])), (a18, gk_R G 4 (gk_four a19 a21 a23 a25)), (a19, .inr (1, [.int f_numbers_r0_sort, .int f_numbers_r0_size, .ref a20])), (a20, gk_J G 80 f_numbers_r0_values), (a21, .inr (1, [.int f_numbers_r1_sort, .int f_numbers_r1_size, .ref a22])), (a22, gk_J G 80 (va_cpy f_numbers_r2_values f_numbers_r1_values x2.toNatClampNeg x4.toNatClampNeg x5.toNatClampNeg)), (a23, .inr (1, [.int f_numbers_r2_sort, .int f_numbers_r2_size, .ref a24])), (a24, gk_J G 80 f_numbers_r2_values), (a25, .inr (1, [.int f_numbers_r3_sort, .int f_numbers_r3_size, .ref a26])), (a26, gk_J G 80 f_numbers_r3_values)] H := hP
                    have hD : va_D A [(a0, .inr (4, [.ref a1, .ref a7, .int f_isKept, .ref a13, .ref a15, .ref a18])), (a18, gk_R G 4 (gk_four a19 a21 a23 a25)), (a19, .inr (1, [.int f_numbers_r0_sort, .int f_numbers_r0_size, .ref a20])), (a20, gk_J G 80 f_numbers_r0_values), (a21, .inr (1, [.int f_numbers_r1_sort, .int f_numbers_r1_size, .ref a22])), (a22, gk_J G 80 (va_cpy f_numbers_r2_values f_numbers_r1_values x2.toNatClampNeg x4.toNatClampNeg x5.toNatClampNeg)), (a23, .inr (1, [.int f_numbers_r2_sort, .int f_numbers_r2_size, .ref a24])), (a24, gk_J G 80 f_numbers_r2_values), (a25, .inr (1, [.int f_numbers_r3_sort, .int f_numbers_r3_size, .ref a26])), (a26, gk_J G 80 f_numbers_r3_values)] := hD
                    refine lv_iload hx hb dX5_copy_112 (lv_at hl 7 rfl) ?_
                    rw [kr _ _ _ _ _ (Option.some.inj hm).symm]
                    exact gk_iret C ⟨hP, hD, hS⟩ dX5_copy_114
                  · have hm := gk_it c209 hm
                    refine lv_bipush (v := -12) hx hb dX5_copy_91 (by decide) ?_
                    rw [kr _ _ _ _ _ (Option.some.inj hm).symm]
                    exact gk_iret C ⟨hP, hD, hS⟩ dX5_copy_93
              · have hm := gk_if c205 hm
                refine lv_bipush (v := -13) hx hb dX5_copy_65 (by decide) ?_
                rw [kr _ _ _ _ _ (Option.some.inj hm).symm]
                exact gk_iret C ⟨hP, hD, hS⟩ dX5_copy_67
            · have hm := gk_if c204 hm
              refine lv_bipush (v := -11) hx hb dX5_copy_49 (by decide) ?_
              rw [kr _ _ _ _ _ (Option.some.inj hm).symm]
              exact gk_iret C ⟨hP, hD, hS⟩ dX5_copy_51
        have hm := gk_if c200 hm
        by_cases c210 : x3 = 2
        · have hm := gk_it c210 hm
          refine gk_aald (k := 2) (v := a23) C hP 1 rfl c210 (by decide) (by decide) rfl dX5_copy_30 ?_
          refine lv_astore (lv' := [(7, .ref a23), (6, .ref a23), (0, .ref a0), (1, .int x1), (2, .int x2), (3, .int x3), (4, .int x4), (5, .int x5)]) hx hb dX5_copy_31 hl (by decide) rfl (fun ls hl => ?_)
          refine lv_aload hx hb dX5_copy_33 (lv_at hl 1 rfl) ?_
          obtain ⟨r211, hq, hm⟩ := gk_bd1_some hm
          refine gk_callV (n := 0) (bytes := cX2_isMissing) (maxL := 1) (ret := (some .boolean)) (Cn := RX2) (T := TX2) (N := 3) [(a0, .inr (4, [.ref a1, .ref a7, .int f_isKept, .ref a13, .ref a15, .ref a18])), (a18, gk_R G 4 (gk_four a19 a21 a23 a25)), (a19, .inr (1, [.int f_numbers_r0_sort, .int f_numbers_r0_size, .ref a20])), (a20, gk_J G 80 f_numbers_r0_values), (a21, .inr (1, [.int f_numbers_r1_sort, .int f_numbers_r1_size, .ref a22])), (a22, gk_J G 80 f_numbers_r1_values), (a24, gk_J G 80 f_numbers_r2_values), (a25, .inr (1, [.int f_numbers_r3_sort, .int f_numbers_r3_size, .ref a26])), (a26, gk_J G 80 f_numbers_r3_values)] [(a0, .inr (4, [.ref a1, .ref a7, .int f_isKept, .ref a13, .ref a15, .ref a18])), (a18, gk_R G 4 (gk_four a19 a21 a23 a25)), (a19, .inr (1, [.int f_numbers_r0_sort, .int f_numbers_r0_size, .ref a20])), (a20, gk_J G 80 f_numbers_r0_values), (a21, .inr (1, [.int f_numbers_r1_sort, .int f_numbers_r1_size, .ref a22])), (a22, gk_J G 80 f_numbers_r1_values), (a23, .inr (1, [.int f_numbers_r2_sort, .int f_numbers_r2_size, .ref a24])), (a24, gk_J G 80 f_numbers_r2_values), (a25, .inr (1, [.int f_numbers_r3_sort, .int f_numbers_r3_size, .ref a26])), (a26, gk_J G 80 f_numbers_r3_values)] [] C ⟨hP, hD, hS⟩ (c_X2_isMissing l G a23 a24 f_numbers_r2_sort f_numbers_r2_size hq) gX5_copy_X2_isMissing dX5_copy_35 hl.1 [6] [0, 1, 2, 3, 4, 5, 7, 8, 9] [0, 1, 2, 3, 4, 5, 9, 6, 7, 8] rfl rfl ⟨rfl, rfl⟩ ⟨Nat.le_of_ble_eq_true rfl, Nat.le_of_ble_eq_true rfl⟩ ⟨rfl, by decide +kernel, by decide +kernel, by decide +kernel⟩ rfl (fun h => by cases h) (Nat.le_of_ble_eq_true rfl) rfl rfl rfl rfl (by decide) rfl rfl (fun H locs h => ?_)
          obtain ⟨hP, hD, hS⟩ := h
          refine lv_if_ne (tgt := 49) hx hb dX5_copy_38 (by decide) (fun c212 => ?_) (fun c212 => ?_)
          · have hm := gk_if c212 hm
            refine lv_bipush (v := -11) hx hb dX5_copy_49 (by decide) ?_
            rw [kr _ _ _ _ _ (Option.some.inj hm).symm]
            exact gk_iret C ⟨hP, hD, hS⟩ dX5_copy_51
          · have hm := gk_it c212 hm
            refine lv_aload hx hb dX5_copy_41 (lv_at hl 0 rfl) ?_
            obtain ⟨r213, hq, hm⟩ := gk_bd1_some hm
            refine gk_callV (n := 0) (bytes := cX2_isMissing) (maxL := 1) (ret := (some .boolean)) (Cn := RX2) (T := TX2) (N := 3) [(a0, .inr (4, [.ref a1, .ref a7, .int f_isKept, .ref a13, .ref a15, .ref a18])), (a18, gk_R G 4 (gk_four a19 a21 a23 a25)), (a19, .inr (1, [.int f_numbers_r0_sort, .int f_numbers_r0_size, .ref a20])), (a20, gk_J G 80 f_numbers_r0_values), (a21, .inr (1, [.int f_numbers_r1_sort, .int f_numbers_r1_size, .ref a22])), (a22, gk_J G 80 f_numbers_r1_values), (a24, gk_J G 80 f_numbers_r2_values), (a25, .inr (1, [.int f_numbers_r3_sort, .int f_numbers_r3_size, .ref a26])), (a26, gk_J G 80 f_numbers_r3_values)] [(a0, .inr (4, [.ref a1, .ref a7, .int f_isKept, .ref a13, .ref a15, .ref a18])), (a18, gk_R G 4 (gk_four a19 a21 a23 a25)), (a19, .inr (1, [.int f_numbers_r0_sort, .int f_numbers_r0_size, .ref a20])), (a20, gk_J G 80 f_numbers_r0_values), (a21, .inr (1, [.int f_numbers_r1_sort, .int f_numbers_r1_size, .ref a22])), (a22, gk_J G 80 f_numbers_r1_values), (a23, .inr (1, [.int f_numbers_r2_sort, .int f_numbers_r2_size, .ref a24])), (a24, gk_J G 80 f_numbers_r2_values), (a25, .inr (1, [.int f_numbers_r3_sort, .int f_numbers_r3_size, .ref a26])), (a26, gk_J G 80 f_numbers_r3_values)] [] C ⟨hP, hD, hS⟩ (c_X2_isMissing l G a23 a24 f_numbers_r2_sort f_numbers_r2_size hq) gX5_copy_X2_isMissing dX5_copy_43 hl.1 [6] [0, 1, 2, 3, 4, 5, 7, 8, 9] [0, 1, 2, 3, 4, 5, 9, 6, 7, 8] rfl rfl ⟨rfl, rfl⟩ ⟨Nat.le_of_ble_eq_true rfl, Nat.le_of_ble_eq_true rfl⟩ ⟨rfl, by decide +kernel, by decide +kernel, by decide +kernel⟩ rfl (fun h => by cases h) (Nat.le_of_ble_eq_true rfl) rfl rfl rfl rfl (by decide) rfl rfl (fun H locs h => ?_)
            obtain ⟨hP, hD, hS⟩ := h
            refine lv_if_eq (tgt := 52) hx hb dX5_copy_46 (by decide) (fun c214 => ?_) (fun c214 => ?_)
            · have hm := gk_it c214 hm
              refine lv_aload hx hb dX5_copy_52 (lv_at hl 1 rfl) ?_
              refine va_get (D := G.1) (cl := vwCl) (own := RX5) (ref := "ExchangeFamilies$Numbers") (ci := 1) (v := .int f_numbers_r2_sort) (C := RX2) (T := TX2) (N := 3) hx hb hts k_X5_copy_2 hown hK hP 6 rfl rfl 0 (by decide) (hts _ k_X5_copy_3) (fun _ h9 => h9) rfl dX5_copy_54 ?_
              refine lv_aload hx hb dX5_copy_57 (lv_at hl 0 rfl) ?_
              refine va_get (D := G.1) (cl := vwCl) (own := RX5) (ref := "ExchangeFamilies$Numbers") (ci := 1) (v := .int f_numbers_r2_sort) (C := RX2) (T := TX2) (N := 3) hx hb hts k_X5_copy_2 hown hK hP 6 rfl rfl 0 (by decide) (hts _ k_X5_copy_3) (fun _ h9 => h9) rfl dX5_copy_59 ?_
              refine lv_icmp_eq (tgt := 68) hx hb dX5_copy_62 (by decide) (fun c215 => ?_) (fun c215 => ?_)
              · have hm := gk_it c215 hm
                refine lv_aload hx hb dX5_copy_68 (lv_at hl 1 rfl) ?_
                refine lv_iload_n hx hb dX5_copy_70 rfl (lv_at hl 4 rfl) ?_
                refine lv_iload hx hb dX5_copy_71 (lv_at hl 7 rfl) ?_
                obtain ⟨r216, hq, hm⟩ := gk_bd1_some hm
                refine gk_callV (n := 2) (bytes := cX2_hasStretch) (maxL := 3) (ret := (some .boolean)) (Cn := RX2) (T := TX2) (N := 3) [(a0, .inr (4, [.ref a1, .ref a7, .int f_isKept, .ref a13, .ref a15, .ref a18])), (a18, gk_R G 4 (gk_four a19 a21 a23 a25)), (a19, .inr (1, [.int f_numbers_r0_sort, .int f_numbers_r0_size, .ref a20])), (a20, gk_J G 80 f_numbers_r0_values), (a21, .inr (1, [.int f_numbers_r1_sort, .int f_numbers_r1_size, .ref a22])), (a22, gk_J G 80 f_numbers_r1_values), (a24, gk_J G 80 f_numbers_r2_values), (a25, .inr (1, [.int f_numbers_r3_sort, .int f_numbers_r3_size, .ref a26])), (a26, gk_J G 80 f_numbers_r3_values)] [(a0, .inr (4, [.ref a1, .ref a7, .int f_isKept, .ref a13, .ref a15, .ref a18])), (a18, gk_R G 4 (gk_four a19 a21 a23 a25)), (a19, .inr (1, [.int f_numbers_r0_sort, .int f_numbers_r0_size, .ref a20])), (a20, gk_J G 80 f_numbers_r0_values), (a21, .inr (1, [.int f_numbers_r1_sort, .int f_numbers_r1_size, .ref a22])), (a22, gk_J G 80 f_numbers_r1_values), (a23, .inr (1, [.int f_numbers_r2_sort, .int f_numbers_r2_size, .ref a24])), (a24, gk_J G 80 f_numbers_r2_values), (a25, .inr (1, [.int f_numbers_r3_sort, .int f_numbers_r3_size, .ref a26])), (a26, gk_J G 80 f_numbers_r3_values)] [] C ⟨hP, hD, hS⟩ (c_X2_hasStretch l G a23 a24 f_numbers_r2_sort f_numbers_r2_size x2 x5 hq) gX5_copy_X2_hasStretch dX5_copy_73 hl.1 [6] [0, 1, 2, 3, 4, 5, 7, 8, 9] [0, 1, 2, 3, 4, 5, 9, 6, 7, 8] rfl rfl ⟨rfl, rfl⟩ ⟨Nat.le_of_ble_eq_true rfl, Nat.le_of_ble_eq_true rfl⟩ ⟨rfl, by decide +kernel, by decide +kernel, by decide +kernel⟩ rfl (fun h => by cases h) (Nat.le_of_ble_eq_true rfl) rfl rfl rfl rfl (by decide) rfl rfl (fun H locs h => ?_)
                obtain ⟨hP, hD, hS⟩ := h
                refine lv_if_eq (tgt := 91) hx hb dX5_copy_76 (by decide) (fun c217 => ?_) (fun c217 => ?_)
                · have hm := gk_it c217 hm
                  refine lv_bipush (v := -12) hx hb dX5_copy_91 (by decide) ?_
                  rw [kr _ _ _ _ _ (Option.some.inj hm).symm]
                  exact gk_iret C ⟨hP, hD, hS⟩ dX5_copy_93
                · have hm := gk_if c217 hm
                  refine lv_aload hx hb dX5_copy_79 (lv_at hl 0 rfl) ?_
                  refine lv_iload hx hb dX5_copy_81 (lv_at hl 6 rfl) ?_
                  refine lv_iload hx hb dX5_copy_83 (lv_at hl 7 rfl) ?_
                  obtain ⟨r218, hq, hm⟩ := gk_bd1_some hm
                  refine gk_callV (n := 2) (bytes := cX2_hasStretch) (maxL := 3) (ret := (some .boolean)) (Cn := RX2) (T := TX2) (N := 3) [(a0, .inr (4, [.ref a1, .ref a7, .int f_isKept, .ref a13, .ref a15, .ref a18])), (a18, gk_R G 4 (gk_four a19 a21 a23 a25)), (a19, .inr (1, [.int f_numbers_r0_sort, .int f_numbers_r0_size, .ref a20])), (a20, gk_J G 80 f_numbers_r0_values), (a21, .inr (1, [.int f_numbers_r1_sort, .int f_numbers_r1_size, .ref a22])), (a22, gk_J G 80 f_numbers_r1_values), (a24, gk_J G 80 f_numbers_r2_values), (a25, .inr (1, [.int f_numbers_r3_sort, .int f_numbers_r3_size, .ref a26])), (a26, gk_J G 80 f_numbers_r3_values)] [(a0, .inr (4, [.ref a1, .ref a7, .int f_isKept, .ref a13, .ref a15, .ref a18])), (a18, gk_R G 4 (gk_four a19 a21 a23 a25)), (a19, .inr (1, [.int f_numbers_r0_sort, .int f_numbers_r0_size, .ref a20])), (a20, gk_J G 80 f_numbers_r0_values), (a21, .inr (1, [.int f_numbers_r1_sort, .int f_numbers_r1_size, .ref a22])), (a22, gk_J G 80 f_numbers_r1_values), (a23, .inr (1, [.int f_numbers_r2_sort, .int f_numbers_r2_size, .ref a24])), (a24, gk_J G 80 f_numbers_r2_values), (a25, .inr (1, [.int f_numbers_r3_sort, .int f_numbers_r3_size, .ref a26])), (a26, gk_J G 80 f_numbers_r3_values)] [] C ⟨hP, hD, hS⟩ (c_X2_hasStretch l G a23 a24 f_numbers_r2_sort f_numbers_r2_size x4 x5 hq) gX5_copy_X2_hasStretch dX5_copy_85 hl.1 [6] [0, 1, 2, 3, 4, 5, 7, 8, 9] [0, 1, 2, 3, 4, 5, 9, 6, 7, 8] rfl rfl ⟨rfl, rfl⟩ ⟨Nat.le_of_ble_eq_true rfl, Nat.le_of_ble_eq_true rfl⟩ ⟨rfl, by decide +kernel, by decide +kernel, by decide +kernel⟩ rfl (fun h => by cases h) (Nat.le_of_ble_eq_true rfl) rfl rfl rfl rfl (by decide) rfl rfl (fun H locs h => ?_)
                  obtain ⟨hP, hD, hS⟩ := h
                  refine lv_if_ne (tgt := 94) hx hb dX5_copy_88 (by decide) (fun c219 => ?_) (fun c219 => ?_)
                  · have hm := gk_if c219 hm
                    refine lv_aload hx hb dX5_copy_94 (lv_at hl 1 rfl) ?_
                    refine va_get (D := G.1) (cl := vwCl) (own := RX5) (ref := "ExchangeFamilies$Numbers") (ci := 1) (v := .ref a24) (C := RX2) (T := TX2) (N := 3) hx hb hts k_X5_copy_2 hown hK hP 6 rfl rfl 2 (by decide) (hts _ k_X5_copy_4) (fun _ h9 => h9) rfl dX5_copy_96 ?_
                    refine lv_iload_n hx hb dX5_copy_99 rfl (lv_at hl 4 rfl) ?_
                    refine lv_aload hx hb dX5_copy_100 (lv_at hl 0 rfl) ?_
                    refine va_get (D := G.1) (cl := vwCl) (own := RX5) (ref := "ExchangeFamilies$Numbers") (ci := 1) (v := .ref a24) (C := RX2) (T := TX2) (N := 3) hx hb hts k_X5_copy_2 hown hK hP 6 rfl rfl 2 (by decide) (hts _ k_X5_copy_4) (fun _ h9 => h9) rfl dX5_copy_102 ?_
                    refine lv_iload hx hb dX5_copy_105 (lv_at hl 6 rfl) ?_
                    refine lv_iload hx hb dX5_copy_107 (lv_at hl 7 rfl) ?_
                    obtain ⟨⟨hc1, hc2, hc3, hc4, hc5⟩, hm⟩ := gk_cp_some hm
                    refine va_copyl (own := RX5) hx hb (by rw [hml]; exact hl.1.symm) hown (hts _ k_X5_copy_5) (hts _ k_X5_copy_6) (hts _ k_X5_copy_7) (hts _ k_X5_copy_8) hK hP hD hS 7 7 1 1 rfl rfl rfl rfl rfl hc1 hc2 hc3 hc4 hc5 (fun _ _ => rfl) (Nat.le_of_ble_eq_true rfl) (Nat.le_of_ble_eq_true rfl) dX5_copy_109 (fun H locs hP hD hS => ?_)
                    have hP : va_P G.1 vwCl [(a0, .inr (4, [.ref a1, .ref a7, .int f_isKept, .ref a13, .ref a15, .ref a18])), (a18, gk_R G 4 (gk_four a19 a21 a23 a25)), (a19, .inr (1, [.int f_numbers_r0_sort, .int f_numbers_r0_size, .ref a20])), (a20, gk_J G 80 f_numbers_r0_values), (a21, .inr (1, [.int f_numbers_r1_sort, .int f_numbers_r1_size, .ref a22])), (a22, gk_J G 80 f_numbers_r1_values), (a23, .inr (1, [.int f_numbers_r2_sort, .int f_numbers_r2_size, .ref a24])), (a24, gk_J G 80 (va_cpy f_numbers_r2_values f_numbers_r2_values x2.toNatClampNeg x4.toNatClampNeg x5.toNatClampNeg)), (a25, .inr (1, [.int f_numbers_r3_sort, .int f_numbers_r3_size, .ref a26])), (a26, gk_J G 80 f_numbers_r3_values)] H := hP
                    have hD : va_D A [(a0, .inr (4, [.ref a1, .ref a7, .int f_isKept, .ref a13, .ref a15, .ref a18])), (a18, gk_R G 4 (gk_four a19 a21 a23 a25)), (a19, .inr (1, [.int f_numbers_r0_sort, .int f_numbers_r0_size, .ref a20])), (a20, gk_J G 80 f_numbers_r0_values), (a21, .inr (1, [.int f_numbers_r1_sort, .int f_numbers_r1_size, .ref a22])), (a22, gk_J G 80 f_numbers_r1_values), (a23, .inr (1, [.int f_numbers_r2_sort, .int f_numbers_r2_size, .ref a24])), (a24, gk_J G 80 (va_cpy f_numbers_r2_values f_numbers_r2_values x2.toNatClampNeg x4.toNatClampNeg x5.toNatClampNeg)), (a25, .inr (1, [.int f_numbers_r3_sort, .int f_numbers_r3_size, .ref a26])), (a26, gk_J G 80 f_numbers_r3_values)] := hD
                    refine lv_iload hx hb dX5_copy_112 (lv_at hl 7 rfl) ?_
                    rw [kr _ _ _ _ _ (Option.some.inj hm).symm]
                    exact gk_iret C ⟨hP, hD, hS⟩ dX5_copy_114
                  · have hm := gk_it c219 hm
                    refine lv_bipush (v := -12) hx hb dX5_copy_91 (by decide) ?_
                    rw [kr _ _ _ _ _ (Option.some.inj hm).symm]
                    exact gk_iret C ⟨hP, hD, hS⟩ dX5_copy_93
              · have hm := gk_if c215 hm
                refine lv_bipush (v := -13) hx hb dX5_copy_65 (by decide) ?_
                rw [kr _ _ _ _ _ (Option.some.inj hm).symm]
                exact gk_iret C ⟨hP, hD, hS⟩ dX5_copy_67
            · have hm := gk_if c214 hm
              refine lv_bipush (v := -11) hx hb dX5_copy_49 (by decide) ?_
              rw [kr _ _ _ _ _ (Option.some.inj hm).symm]
              exact gk_iret C ⟨hP, hD, hS⟩ dX5_copy_51
        have hm := gk_if c210 hm
        by_cases c220 : x3 = 3
        · have hm := gk_it c220 hm
          refine gk_aald (k := 3) (v := a25) C hP 1 rfl c220 (by decide) (by decide) rfl dX5_copy_30 ?_
          refine lv_astore (lv' := [(7, .ref a25), (6, .ref a23), (0, .ref a0), (1, .int x1), (2, .int x2), (3, .int x3), (4, .int x4), (5, .int x5)]) hx hb dX5_copy_31 hl (by decide) rfl (fun ls hl => ?_)
          refine lv_aload hx hb dX5_copy_33 (lv_at hl 1 rfl) ?_
          obtain ⟨r221, hq, hm⟩ := gk_bd1_some hm
          refine gk_callV (n := 0) (bytes := cX2_isMissing) (maxL := 1) (ret := (some .boolean)) (Cn := RX2) (T := TX2) (N := 3) [(a0, .inr (4, [.ref a1, .ref a7, .int f_isKept, .ref a13, .ref a15, .ref a18])), (a18, gk_R G 4 (gk_four a19 a21 a23 a25)), (a19, .inr (1, [.int f_numbers_r0_sort, .int f_numbers_r0_size, .ref a20])), (a20, gk_J G 80 f_numbers_r0_values), (a21, .inr (1, [.int f_numbers_r1_sort, .int f_numbers_r1_size, .ref a22])), (a22, gk_J G 80 f_numbers_r1_values), (a24, gk_J G 80 f_numbers_r2_values), (a25, .inr (1, [.int f_numbers_r3_sort, .int f_numbers_r3_size, .ref a26])), (a26, gk_J G 80 f_numbers_r3_values)] [(a0, .inr (4, [.ref a1, .ref a7, .int f_isKept, .ref a13, .ref a15, .ref a18])), (a18, gk_R G 4 (gk_four a19 a21 a23 a25)), (a19, .inr (1, [.int f_numbers_r0_sort, .int f_numbers_r0_size, .ref a20])), (a20, gk_J G 80 f_numbers_r0_values), (a21, .inr (1, [.int f_numbers_r1_sort, .int f_numbers_r1_size, .ref a22])), (a22, gk_J G 80 f_numbers_r1_values), (a23, .inr (1, [.int f_numbers_r2_sort, .int f_numbers_r2_size, .ref a24])), (a24, gk_J G 80 f_numbers_r2_values), (a25, .inr (1, [.int f_numbers_r3_sort, .int f_numbers_r3_size, .ref a26])), (a26, gk_J G 80 f_numbers_r3_values)] [] C ⟨hP, hD, hS⟩ (c_X2_isMissing l G a23 a24 f_numbers_r2_sort f_numbers_r2_size hq) gX5_copy_X2_isMissing dX5_copy_35 hl.1 [6] [0, 1, 2, 3, 4, 5, 7, 8, 9] [0, 1, 2, 3, 4, 5, 9, 6, 7, 8] rfl rfl ⟨rfl, rfl⟩ ⟨Nat.le_of_ble_eq_true rfl, Nat.le_of_ble_eq_true rfl⟩ ⟨rfl, by decide +kernel, by decide +kernel, by decide +kernel⟩ rfl (fun h => by cases h) (Nat.le_of_ble_eq_true rfl) rfl rfl rfl rfl (by decide) rfl rfl (fun H locs h => ?_)
          obtain ⟨hP, hD, hS⟩ := h
          refine lv_if_ne (tgt := 49) hx hb dX5_copy_38 (by decide) (fun c222 => ?_) (fun c222 => ?_)
          · have hm := gk_if c222 hm
            refine lv_bipush (v := -11) hx hb dX5_copy_49 (by decide) ?_
            rw [kr _ _ _ _ _ (Option.some.inj hm).symm]
            exact gk_iret C ⟨hP, hD, hS⟩ dX5_copy_51
          · have hm := gk_it c222 hm
            refine lv_aload hx hb dX5_copy_41 (lv_at hl 0 rfl) ?_
            obtain ⟨r223, hq, hm⟩ := gk_bd1_some hm
            refine gk_callV (n := 0) (bytes := cX2_isMissing) (maxL := 1) (ret := (some .boolean)) (Cn := RX2) (T := TX2) (N := 3) [(a0, .inr (4, [.ref a1, .ref a7, .int f_isKept, .ref a13, .ref a15, .ref a18])), (a18, gk_R G 4 (gk_four a19 a21 a23 a25)), (a19, .inr (1, [.int f_numbers_r0_sort, .int f_numbers_r0_size, .ref a20])), (a20, gk_J G 80 f_numbers_r0_values), (a21, .inr (1, [.int f_numbers_r1_sort, .int f_numbers_r1_size, .ref a22])), (a22, gk_J G 80 f_numbers_r1_values), (a23, .inr (1, [.int f_numbers_r2_sort, .int f_numbers_r2_size, .ref a24])), (a24, gk_J G 80 f_numbers_r2_values), (a26, gk_J G 80 f_numbers_r3_values)] [(a0, .inr (4, [.ref a1, .ref a7, .int f_isKept, .ref a13, .ref a15, .ref a18])), (a18, gk_R G 4 (gk_four a19 a21 a23 a25)), (a19, .inr (1, [.int f_numbers_r0_sort, .int f_numbers_r0_size, .ref a20])), (a20, gk_J G 80 f_numbers_r0_values), (a21, .inr (1, [.int f_numbers_r1_sort, .int f_numbers_r1_size, .ref a22])), (a22, gk_J G 80 f_numbers_r1_values), (a23, .inr (1, [.int f_numbers_r2_sort, .int f_numbers_r2_size, .ref a24])), (a24, gk_J G 80 f_numbers_r2_values), (a25, .inr (1, [.int f_numbers_r3_sort, .int f_numbers_r3_size, .ref a26])), (a26, gk_J G 80 f_numbers_r3_values)] [] C ⟨hP, hD, hS⟩ (c_X2_isMissing l G a25 a26 f_numbers_r3_sort f_numbers_r3_size hq) gX5_copy_X2_isMissing dX5_copy_43 hl.1 [8] [0, 1, 2, 3, 4, 5, 6, 7, 9] [0, 1, 2, 3, 4, 5, 6, 7, 9, 8] rfl rfl ⟨rfl, rfl⟩ ⟨Nat.le_of_ble_eq_true rfl, Nat.le_of_ble_eq_true rfl⟩ ⟨rfl, by decide +kernel, by decide +kernel, by decide +kernel⟩ rfl (fun h => by cases h) (Nat.le_of_ble_eq_true rfl) rfl rfl rfl rfl (by decide) rfl rfl (fun H locs h => ?_)
            obtain ⟨hP, hD, hS⟩ := h
            refine lv_if_eq (tgt := 52) hx hb dX5_copy_46 (by decide) (fun c224 => ?_) (fun c224 => ?_)
            · have hm := gk_it c224 hm
              refine lv_aload hx hb dX5_copy_52 (lv_at hl 1 rfl) ?_
              refine va_get (D := G.1) (cl := vwCl) (own := RX5) (ref := "ExchangeFamilies$Numbers") (ci := 1) (v := .int f_numbers_r2_sort) (C := RX2) (T := TX2) (N := 3) hx hb hts k_X5_copy_2 hown hK hP 6 rfl rfl 0 (by decide) (hts _ k_X5_copy_3) (fun _ h9 => h9) rfl dX5_copy_54 ?_
              refine lv_aload hx hb dX5_copy_57 (lv_at hl 0 rfl) ?_
              refine va_get (D := G.1) (cl := vwCl) (own := RX5) (ref := "ExchangeFamilies$Numbers") (ci := 1) (v := .int f_numbers_r3_sort) (C := RX2) (T := TX2) (N := 3) hx hb hts k_X5_copy_2 hown hK hP 8 rfl rfl 0 (by decide) (hts _ k_X5_copy_3) (fun _ h9 => h9) rfl dX5_copy_59 ?_
              refine lv_icmp_eq (tgt := 68) hx hb dX5_copy_62 (by decide) (fun c225 => ?_) (fun c225 => ?_)
              · have hm := gk_it c225 hm
                refine lv_aload hx hb dX5_copy_68 (lv_at hl 1 rfl) ?_
                refine lv_iload_n hx hb dX5_copy_70 rfl (lv_at hl 4 rfl) ?_
                refine lv_iload hx hb dX5_copy_71 (lv_at hl 7 rfl) ?_
                obtain ⟨r226, hq, hm⟩ := gk_bd1_some hm
                refine gk_callV (n := 2) (bytes := cX2_hasStretch) (maxL := 3) (ret := (some .boolean)) (Cn := RX2) (T := TX2) (N := 3) [(a0, .inr (4, [.ref a1, .ref a7, .int f_isKept, .ref a13, .ref a15, .ref a18])), (a18, gk_R G 4 (gk_four a19 a21 a23 a25)), (a19, .inr (1, [.int f_numbers_r0_sort, .int f_numbers_r0_size, .ref a20])), (a20, gk_J G 80 f_numbers_r0_values), (a21, .inr (1, [.int f_numbers_r1_sort, .int f_numbers_r1_size, .ref a22])), (a22, gk_J G 80 f_numbers_r1_values), (a24, gk_J G 80 f_numbers_r2_values), (a25, .inr (1, [.int f_numbers_r3_sort, .int f_numbers_r3_size, .ref a26])), (a26, gk_J G 80 f_numbers_r3_values)] [(a0, .inr (4, [.ref a1, .ref a7, .int f_isKept, .ref a13, .ref a15, .ref a18])), (a18, gk_R G 4 (gk_four a19 a21 a23 a25)), (a19, .inr (1, [.int f_numbers_r0_sort, .int f_numbers_r0_size, .ref a20])), (a20, gk_J G 80 f_numbers_r0_values), (a21, .inr (1, [.int f_numbers_r1_sort, .int f_numbers_r1_size, .ref a22])), (a22, gk_J G 80 f_numbers_r1_values), (a23, .inr (1, [.int f_numbers_r2_sort, .int f_numbers_r2_size, .ref a24])), (a24, gk_J G 80 f_numbers_r2_values), (a25, .inr (1, [.int f_numbers_r3_sort, .int f_numbers_r3_size, .ref a26])), (a26, gk_J G 80 f_numbers_r3_values)] [] C ⟨hP, hD, hS⟩ (c_X2_hasStretch l G a23 a24 f_numbers_r2_sort f_numbers_r2_size x2 x5 hq) gX5_copy_X2_hasStretch dX5_copy_73 hl.1 [6] [0, 1, 2, 3, 4, 5, 7, 8, 9] [0, 1, 2, 3, 4, 5, 9, 6, 7, 8] rfl rfl ⟨rfl, rfl⟩ ⟨Nat.le_of_ble_eq_true rfl, Nat.le_of_ble_eq_true rfl⟩ ⟨rfl, by decide +kernel, by decide +kernel, by decide +kernel⟩ rfl (fun h => by cases h) (Nat.le_of_ble_eq_true rfl) rfl rfl rfl rfl (by decide) rfl rfl (fun H locs h => ?_)
                obtain ⟨hP, hD, hS⟩ := h
                refine lv_if_eq (tgt := 91) hx hb dX5_copy_76 (by decide) (fun c227 => ?_) (fun c227 => ?_)
                · have hm := gk_it c227 hm
                  refine lv_bipush (v := -12) hx hb dX5_copy_91 (by decide) ?_
                  rw [kr _ _ _ _ _ (Option.some.inj hm).symm]
                  exact gk_iret C ⟨hP, hD, hS⟩ dX5_copy_93
                · have hm := gk_if c227 hm
                  refine lv_aload hx hb dX5_copy_79 (lv_at hl 0 rfl) ?_
                  refine lv_iload hx hb dX5_copy_81 (lv_at hl 6 rfl) ?_
                  refine lv_iload hx hb dX5_copy_83 (lv_at hl 7 rfl) ?_
                  obtain ⟨r228, hq, hm⟩ := gk_bd1_some hm
                  refine gk_callV (n := 2) (bytes := cX2_hasStretch) (maxL := 3) (ret := (some .boolean)) (Cn := RX2) (T := TX2) (N := 3) [(a0, .inr (4, [.ref a1, .ref a7, .int f_isKept, .ref a13, .ref a15, .ref a18])), (a18, gk_R G 4 (gk_four a19 a21 a23 a25)), (a19, .inr (1, [.int f_numbers_r0_sort, .int f_numbers_r0_size, .ref a20])), (a20, gk_J G 80 f_numbers_r0_values), (a21, .inr (1, [.int f_numbers_r1_sort, .int f_numbers_r1_size, .ref a22])), (a22, gk_J G 80 f_numbers_r1_values), (a23, .inr (1, [.int f_numbers_r2_sort, .int f_numbers_r2_size, .ref a24])), (a24, gk_J G 80 f_numbers_r2_values), (a26, gk_J G 80 f_numbers_r3_values)] [(a0, .inr (4, [.ref a1, .ref a7, .int f_isKept, .ref a13, .ref a15, .ref a18])), (a18, gk_R G 4 (gk_four a19 a21 a23 a25)), (a19, .inr (1, [.int f_numbers_r0_sort, .int f_numbers_r0_size, .ref a20])), (a20, gk_J G 80 f_numbers_r0_values), (a21, .inr (1, [.int f_numbers_r1_sort, .int f_numbers_r1_size, .ref a22])), (a22, gk_J G 80 f_numbers_r1_values), (a23, .inr (1, [.int f_numbers_r2_sort, .int f_numbers_r2_size, .ref a24])), (a24, gk_J G 80 f_numbers_r2_values), (a25, .inr (1, [.int f_numbers_r3_sort, .int f_numbers_r3_size, .ref a26])), (a26, gk_J G 80 f_numbers_r3_values)] [] C ⟨hP, hD, hS⟩ (c_X2_hasStretch l G a25 a26 f_numbers_r3_sort f_numbers_r3_size x4 x5 hq) gX5_copy_X2_hasStretch dX5_copy_85 hl.1 [8] [0, 1, 2, 3, 4, 5, 6, 7, 9] [0, 1, 2, 3, 4, 5, 6, 7, 9, 8] rfl rfl ⟨rfl, rfl⟩ ⟨Nat.le_of_ble_eq_true rfl, Nat.le_of_ble_eq_true rfl⟩ ⟨rfl, by decide +kernel, by decide +kernel, by decide +kernel⟩ rfl (fun h => by cases h) (Nat.le_of_ble_eq_true rfl) rfl rfl rfl rfl (by decide) rfl rfl (fun H locs h => ?_)
                  obtain ⟨hP, hD, hS⟩ := h
                  refine lv_if_ne (tgt := 94) hx hb dX5_copy_88 (by decide) (fun c229 => ?_) (fun c229 => ?_)
                  · have hm := gk_if c229 hm
                    refine lv_aload hx hb dX5_copy_94 (lv_at hl 1 rfl) ?_
                    refine va_get (D := G.1) (cl := vwCl) (own := RX5) (ref := "ExchangeFamilies$Numbers") (ci := 1) (v := .ref a24) (C := RX2) (T := TX2) (N := 3) hx hb hts k_X5_copy_2 hown hK hP 6 rfl rfl 2 (by decide) (hts _ k_X5_copy_4) (fun _ h9 => h9) rfl dX5_copy_96 ?_
                    refine lv_iload_n hx hb dX5_copy_99 rfl (lv_at hl 4 rfl) ?_
                    refine lv_aload hx hb dX5_copy_100 (lv_at hl 0 rfl) ?_
                    refine va_get (D := G.1) (cl := vwCl) (own := RX5) (ref := "ExchangeFamilies$Numbers") (ci := 1) (v := .ref a26) (C := RX2) (T := TX2) (N := 3) hx hb hts k_X5_copy_2 hown hK hP 8 rfl rfl 2 (by decide) (hts _ k_X5_copy_4) (fun _ h9 => h9) rfl dX5_copy_102 ?_
                    refine lv_iload hx hb dX5_copy_105 (lv_at hl 6 rfl) ?_
                    refine lv_iload hx hb dX5_copy_107 (lv_at hl 7 rfl) ?_
                    obtain ⟨⟨hc1, hc2, hc3, hc4, hc5⟩, hm⟩ := gk_cp_some hm
                    refine va_copyl (own := RX5) hx hb (by rw [hml]; exact hl.1.symm) hown (hts _ k_X5_copy_5) (hts _ k_X5_copy_6) (hts _ k_X5_copy_7) (hts _ k_X5_copy_8) hK hP hD hS 7 9 1 1 rfl rfl rfl rfl rfl hc1 hc2 hc3 hc4 hc5 (fun _ _ => rfl) (Nat.le_of_ble_eq_true rfl) (Nat.le_of_ble_eq_true rfl) dX5_copy_109 (fun H locs hP hD hS => ?_)
                    have hP : va_P G.1 vwCl [(a0, .inr (4, [.ref a1, .ref a7, .int f_isKept, .ref a13, .ref a15, .ref a18])), (a18, gk_R G 4 (gk_four a19 a21 a23 a25)), (a19, .inr (1, [.int f_numbers_r0_sort, .int f_numbers_r0_size, .ref a20])), (a20, gk_J G 80 f_numbers_r0_values), (a21, .inr (1, [.int f_numbers_r1_sort, .int f_numbers_r1_size, .ref a22])), (a22, gk_J G 80 f_numbers_r1_values), (a23, .inr (1, [.int f_numbers_r2_sort, .int f_numbers_r2_size, .ref a24])), (a24, gk_J G 80 f_numbers_r2_values), (a25, .inr (1, [.int f_numbers_r3_sort, .int f_numbers_r3_size, .ref a26])), (a26, gk_J G 80 (va_cpy f_numbers_r2_values f_numbers_r3_values x2.toNatClampNeg x4.toNatClampNeg x5.toNatClampNeg))] H := hP
                    have hD : va_D A [(a0, .inr (4, [.ref a1, .ref a7, .int f_isKept, .ref a13, .ref a15, .ref a18])), (a18, gk_R G 4 (gk_four a19 a21 a23 a25)), (a19, .inr (1, [.int f_numbers_r0_sort, .int f_numbers_r0_size, .ref a20])), (a20, gk_J G 80 f_numbers_r0_values), (a21, .inr (1, [.int f_numbers_r1_sort, .int f_numbers_r1_size, .ref a22])), (a22, gk_J G 80 f_numbers_r1_values), (a23, .inr (1, [.int f_numbers_r2_sort, .int f_numbers_r2_size, .ref a24])), (a24, gk_J G 80 f_numbers_r2_values), (a25, .inr (1, [.int f_numbers_r3_sort, .int f_numbers_r3_size, .ref a26])), (a26, gk_J G 80 (va_cpy f_numbers_r2_values f_numbers_r3_values x2.toNatClampNeg x4.toNatClampNeg x5.toNatClampNeg))] := hD
                    refine lv_iload hx hb dX5_copy_112 (lv_at hl 7 rfl) ?_
                    rw [kr _ _ _ _ _ (Option.some.inj hm).symm]
                    exact gk_iret C ⟨hP, hD, hS⟩ dX5_copy_114
                  · have hm := gk_it c229 hm
                    refine lv_bipush (v := -12) hx hb dX5_copy_91 (by decide) ?_
                    rw [kr _ _ _ _ _ (Option.some.inj hm).symm]
                    exact gk_iret C ⟨hP, hD, hS⟩ dX5_copy_93
              · have hm := gk_if c225 hm
                refine lv_bipush (v := -13) hx hb dX5_copy_65 (by decide) ?_
                rw [kr _ _ _ _ _ (Option.some.inj hm).symm]
                exact gk_iret C ⟨hP, hD, hS⟩ dX5_copy_67
            · have hm := gk_if c224 hm
              refine lv_bipush (v := -11) hx hb dX5_copy_49 (by decide) ?_
              rw [kr _ _ _ _ _ (Option.some.inj hm).symm]
              exact gk_iret C ⟨hP, hD, hS⟩ dX5_copy_51
        have hm := gk_if c220 hm
        cases hm
      have hm := gk_if c189 hm
      by_cases c230 : x1 = 3
      · have hm := gk_it c230 hm
        refine gk_aald (k := 3) (v := a25) C hP 1 rfl c230 (by decide) (by decide) rfl dX5_copy_22 ?_
        refine lv_astore (lv' := [(6, .ref a25), (0, .ref a0), (1, .int x1), (2, .int x2), (3, .int x3), (4, .int x4), (5, .int x5)]) hx hb dX5_copy_23 hl (by decide) rfl (fun ls hl => ?_)
        refine lv_aload_n hx hb dX5_copy_25 rfl (lv_at hl 1 rfl) ?_
        refine va_get (D := G.1) (cl := vwCl) (own := RX5) (ref := "ExchangeFamilies") (ci := 4) (v := .ref a18) (C := RX5) (T := TX5) (N := 6) hx hb hts k_X5_copy_0 hown hK hP 0 rfl rfl 5 (by decide) (hts _ k_X5_copy_1) (fun _ h9 => h9) rfl dX5_copy_26 ?_
        refine lv_iload_n hx hb dX5_copy_29 rfl (lv_at hl 4 rfl) ?_
        by_cases c231 : x3 = 0
        · have hm := gk_it c231 hm
          refine gk_aald (k := 0) (v := a19) C hP 1 rfl c231 (by decide) (by decide) rfl dX5_copy_30 ?_
          refine lv_astore (lv' := [(7, .ref a19), (6, .ref a25), (0, .ref a0), (1, .int x1), (2, .int x2), (3, .int x3), (4, .int x4), (5, .int x5)]) hx hb dX5_copy_31 hl (by decide) rfl (fun ls hl => ?_)
          refine lv_aload hx hb dX5_copy_33 (lv_at hl 1 rfl) ?_
          obtain ⟨r232, hq, hm⟩ := gk_bd1_some hm
          refine gk_callV (n := 0) (bytes := cX2_isMissing) (maxL := 1) (ret := (some .boolean)) (Cn := RX2) (T := TX2) (N := 3) [(a0, .inr (4, [.ref a1, .ref a7, .int f_isKept, .ref a13, .ref a15, .ref a18])), (a18, gk_R G 4 (gk_four a19 a21 a23 a25)), (a19, .inr (1, [.int f_numbers_r0_sort, .int f_numbers_r0_size, .ref a20])), (a20, gk_J G 80 f_numbers_r0_values), (a21, .inr (1, [.int f_numbers_r1_sort, .int f_numbers_r1_size, .ref a22])), (a22, gk_J G 80 f_numbers_r1_values), (a23, .inr (1, [.int f_numbers_r2_sort, .int f_numbers_r2_size, .ref a24])), (a24, gk_J G 80 f_numbers_r2_values), (a26, gk_J G 80 f_numbers_r3_values)] [(a0, .inr (4, [.ref a1, .ref a7, .int f_isKept, .ref a13, .ref a15, .ref a18])), (a18, gk_R G 4 (gk_four a19 a21 a23 a25)), (a19, .inr (1, [.int f_numbers_r0_sort, .int f_numbers_r0_size, .ref a20])), (a20, gk_J G 80 f_numbers_r0_values), (a21, .inr (1, [.int f_numbers_r1_sort, .int f_numbers_r1_size, .ref a22])), (a22, gk_J G 80 f_numbers_r1_values), (a23, .inr (1, [.int f_numbers_r2_sort, .int f_numbers_r2_size, .ref a24])), (a24, gk_J G 80 f_numbers_r2_values), (a25, .inr (1, [.int f_numbers_r3_sort, .int f_numbers_r3_size, .ref a26])), (a26, gk_J G 80 f_numbers_r3_values)] [] C ⟨hP, hD, hS⟩ (c_X2_isMissing l G a25 a26 f_numbers_r3_sort f_numbers_r3_size hq) gX5_copy_X2_isMissing dX5_copy_35 hl.1 [8] [0, 1, 2, 3, 4, 5, 6, 7, 9] [0, 1, 2, 3, 4, 5, 6, 7, 9, 8] rfl rfl ⟨rfl, rfl⟩ ⟨Nat.le_of_ble_eq_true rfl, Nat.le_of_ble_eq_true rfl⟩ ⟨rfl, by decide +kernel, by decide +kernel, by decide +kernel⟩ rfl (fun h => by cases h) (Nat.le_of_ble_eq_true rfl) rfl rfl rfl rfl (by decide) rfl rfl (fun H locs h => ?_)
          obtain ⟨hP, hD, hS⟩ := h
          refine lv_if_ne (tgt := 49) hx hb dX5_copy_38 (by decide) (fun c233 => ?_) (fun c233 => ?_)
          · have hm := gk_if c233 hm
            refine lv_bipush (v := -11) hx hb dX5_copy_49 (by decide) ?_
            rw [kr _ _ _ _ _ (Option.some.inj hm).symm]
            exact gk_iret C ⟨hP, hD, hS⟩ dX5_copy_51
          · have hm := gk_it c233 hm
            refine lv_aload hx hb dX5_copy_41 (lv_at hl 0 rfl) ?_
            obtain ⟨r234, hq, hm⟩ := gk_bd1_some hm
            refine gk_callV (n := 0) (bytes := cX2_isMissing) (maxL := 1) (ret := (some .boolean)) (Cn := RX2) (T := TX2) (N := 3) [(a0, .inr (4, [.ref a1, .ref a7, .int f_isKept, .ref a13, .ref a15, .ref a18])), (a18, gk_R G 4 (gk_four a19 a21 a23 a25)), (a20, gk_J G 80 f_numbers_r0_values), (a21, .inr (1, [.int f_numbers_r1_sort, .int f_numbers_r1_size, .ref a22])), (a22, gk_J G 80 f_numbers_r1_values), (a23, .inr (1, [.int f_numbers_r2_sort, .int f_numbers_r2_size, .ref a24])), (a24, gk_J G 80 f_numbers_r2_values), (a25, .inr (1, [.int f_numbers_r3_sort, .int f_numbers_r3_size, .ref a26])), (a26, gk_J G 80 f_numbers_r3_values)] [(a0, .inr (4, [.ref a1, .ref a7, .int f_isKept, .ref a13, .ref a15, .ref a18])), (a18, gk_R G 4 (gk_four a19 a21 a23 a25)), (a19, .inr (1, [.int f_numbers_r0_sort, .int f_numbers_r0_size, .ref a20])), (a20, gk_J G 80 f_numbers_r0_values), (a21, .inr (1, [.int f_numbers_r1_sort, .int f_numbers_r1_size, .ref a22])), (a22, gk_J G 80 f_numbers_r1_values), (a23, .inr (1, [.int f_numbers_r2_sort, .int f_numbers_r2_size, .ref a24])), (a24, gk_J G 80 f_numbers_r2_values), (a25, .inr (1, [.int f_numbers_r3_sort, .int f_numbers_r3_size, .ref a26])), (a26, gk_J G 80 f_numbers_r3_values)] [] C ⟨hP, hD, hS⟩ (c_X2_isMissing l G a19 a20 f_numbers_r0_sort f_numbers_r0_size hq) gX5_copy_X2_isMissing dX5_copy_43 hl.1 [2] [0, 1, 3, 4, 5, 6, 7, 8, 9] [0, 1, 9, 2, 3, 4, 5, 6, 7, 8] rfl rfl ⟨rfl, rfl⟩ ⟨Nat.le_of_ble_eq_true rfl, Nat.le_of_ble_eq_true rfl⟩ ⟨rfl, by decide +kernel, by decide +kernel, by decide +kernel⟩ rfl (fun h => by cases h) (Nat.le_of_ble_eq_true rfl) rfl rfl rfl rfl (by decide) rfl rfl (fun H locs h => ?_)
            obtain ⟨hP, hD, hS⟩ := h
            refine lv_if_eq (tgt := 52) hx hb dX5_copy_46 (by decide) (fun c235 => ?_) (fun c235 => ?_)
            · have hm := gk_it c235 hm
              refine lv_aload hx hb dX5_copy_52 (lv_at hl 1 rfl) ?_
              refine va_get (D := G.1) (cl := vwCl) (own := RX5) (ref := "ExchangeFamilies$Numbers") (ci := 1) (v := .int f_numbers_r3_sort) (C := RX2) (T := TX2) (N := 3) hx hb hts k_X5_copy_2 hown hK hP 8 rfl rfl 0 (by decide) (hts _ k_X5_copy_3) (fun _ h9 => h9) rfl dX5_copy_54 ?_
              refine lv_aload hx hb dX5_copy_57 (lv_at hl 0 rfl) ?_
              refine va_get (D := G.1) (cl := vwCl) (own := RX5) (ref := "ExchangeFamilies$Numbers") (ci := 1) (v := .int f_numbers_r0_sort) (C := RX2) (T := TX2) (N := 3) hx hb hts k_X5_copy_2 hown hK hP 2 rfl rfl 0 (by decide) (hts _ k_X5_copy_3) (fun _ h9 => h9) rfl dX5_copy_59 ?_
              refine lv_icmp_eq (tgt := 68) hx hb dX5_copy_62 (by decide) (fun c236 => ?_) (fun c236 => ?_)
              · have hm := gk_it c236 hm
                refine lv_aload hx hb dX5_copy_68 (lv_at hl 1 rfl) ?_
                refine lv_iload_n hx hb dX5_copy_70 rfl (lv_at hl 4 rfl) ?_
                refine lv_iload hx hb dX5_copy_71 (lv_at hl 7 rfl) ?_
                obtain ⟨r237, hq, hm⟩ := gk_bd1_some hm
                refine gk_callV (n := 2) (bytes := cX2_hasStretch) (maxL := 3) (ret := (some .boolean)) (Cn := RX2) (T := TX2) (N := 3) [(a0, .inr (4, [.ref a1, .ref a7, .int f_isKept, .ref a13, .ref a15, .ref a18])), (a18, gk_R G 4 (gk_four a19 a21 a23 a25)), (a19, .inr (1, [.int f_numbers_r0_sort, .int f_numbers_r0_size, .ref a20])), (a20, gk_J G 80 f_numbers_r0_values), (a21, .inr (1, [.int f_numbers_r1_sort, .int f_numbers_r1_size, .ref a22])), (a22, gk_J G 80 f_numbers_r1_values), (a23, .inr (1, [.int f_numbers_r2_sort, .int f_numbers_r2_size, .ref a24])), (a24, gk_J G 80 f_numbers_r2_values), (a26, gk_J G 80 f_numbers_r3_values)] [(a0, .inr (4, [.ref a1, .ref a7, .int f_isKept, .ref a13, .ref a15, .ref a18])), (a18, gk_R G 4 (gk_four a19 a21 a23 a25)), (a19, .inr (1, [.int f_numbers_r0_sort, .int f_numbers_r0_size, .ref a20])), (a20, gk_J G 80 f_numbers_r0_values), (a21, .inr (1, [.int f_numbers_r1_sort, .int f_numbers_r1_size, .ref a22])), (a22, gk_J G 80 f_numbers_r1_values), (a23, .inr (1, [.int f_numbers_r2_sort, .int f_numbers_r2_size, .ref a24])), (a24, gk_J G 80 f_numbers_r2_values), (a25, .inr (1, [.int f_numbers_r3_sort, .int f_numbers_r3_size, .ref a26])), (a26, gk_J G 80 f_numbers_r3_values)] [] C ⟨hP, hD, hS⟩ (c_X2_hasStretch l G a25 a26 f_numbers_r3_sort f_numbers_r3_size x2 x5 hq) gX5_copy_X2_hasStretch dX5_copy_73 hl.1 [8] [0, 1, 2, 3, 4, 5, 6, 7, 9] [0, 1, 2, 3, 4, 5, 6, 7, 9, 8] rfl rfl ⟨rfl, rfl⟩ ⟨Nat.le_of_ble_eq_true rfl, Nat.le_of_ble_eq_true rfl⟩ ⟨rfl, by decide +kernel, by decide +kernel, by decide +kernel⟩ rfl (fun h => by cases h) (Nat.le_of_ble_eq_true rfl) rfl rfl rfl rfl (by decide) rfl rfl (fun H locs h => ?_)
                obtain ⟨hP, hD, hS⟩ := h
                refine lv_if_eq (tgt := 91) hx hb dX5_copy_76 (by decide) (fun c238 => ?_) (fun c238 => ?_)
                · have hm := gk_it c238 hm
                  refine lv_bipush (v := -12) hx hb dX5_copy_91 (by decide) ?_
                  rw [kr _ _ _ _ _ (Option.some.inj hm).symm]
                  exact gk_iret C ⟨hP, hD, hS⟩ dX5_copy_93
                · have hm := gk_if c238 hm
                  refine lv_aload hx hb dX5_copy_79 (lv_at hl 0 rfl) ?_
                  refine lv_iload hx hb dX5_copy_81 (lv_at hl 6 rfl) ?_
                  refine lv_iload hx hb dX5_copy_83 (lv_at hl 7 rfl) ?_
                  obtain ⟨r239, hq, hm⟩ := gk_bd1_some hm
                  refine gk_callV (n := 2) (bytes := cX2_hasStretch) (maxL := 3) (ret := (some .boolean)) (Cn := RX2) (T := TX2) (N := 3) [(a0, .inr (4, [.ref a1, .ref a7, .int f_isKept, .ref a13, .ref a15, .ref a18])), (a18, gk_R G 4 (gk_four a19 a21 a23 a25)), (a20, gk_J G 80 f_numbers_r0_values), (a21, .inr (1, [.int f_numbers_r1_sort, .int f_numbers_r1_size, .ref a22])), (a22, gk_J G 80 f_numbers_r1_values), (a23, .inr (1, [.int f_numbers_r2_sort, .int f_numbers_r2_size, .ref a24])), (a24, gk_J G 80 f_numbers_r2_values), (a25, .inr (1, [.int f_numbers_r3_sort, .int f_numbers_r3_size, .ref a26])), (a26, gk_J G 80 f_numbers_r3_values)] [(a0, .inr (4, [.ref a1, .ref a7, .int f_isKept, .ref a13, .ref a15, .ref a18])), (a18, gk_R G 4 (gk_four a19 a21 a23 a25)), (a19, .inr (1, [.int f_numbers_r0_sort, .int f_numbers_r0_size, .ref a20])), (a20, gk_J G 80 f_numbers_r0_values), (a21, .inr (1, [.int f_numbers_r1_sort, .int f_numbers_r1_size, .ref a22])), (a22, gk_J G 80 f_numbers_r1_values), (a23, .inr (1, [.int f_numbers_r2_sort, .int f_numbers_r2_size, .ref a24])), (a24, gk_J G 80 f_numbers_r2_values), (a25, .inr (1, [.int f_numbers_r3_sort, .int f_numbers_r3_size, .ref a26])), (a26, gk_J G 80 f_numbers_r3_values)] [] C ⟨hP, hD, hS⟩ (c_X2_hasStretch l G a19 a20 f_numbers_r0_sort f_numbers_r0_size x4 x5 hq) gX5_copy_X2_hasStretch dX5_copy_85 hl.1 [2] [0, 1, 3, 4, 5, 6, 7, 8, 9] [0, 1, 9, 2, 3, 4, 5, 6, 7, 8] rfl rfl ⟨rfl, rfl⟩ ⟨Nat.le_of_ble_eq_true rfl, Nat.le_of_ble_eq_true rfl⟩ ⟨rfl, by decide +kernel, by decide +kernel, by decide +kernel⟩ rfl (fun h => by cases h) (Nat.le_of_ble_eq_true rfl) rfl rfl rfl rfl (by decide) rfl rfl (fun H locs h => ?_)
                  obtain ⟨hP, hD, hS⟩ := h
                  refine lv_if_ne (tgt := 94) hx hb dX5_copy_88 (by decide) (fun c240 => ?_) (fun c240 => ?_)
                  · have hm := gk_if c240 hm
                    refine lv_aload hx hb dX5_copy_94 (lv_at hl 1 rfl) ?_
                    refine va_get (D := G.1) (cl := vwCl) (own := RX5) (ref := "ExchangeFamilies$Numbers") (ci := 1) (v := .ref a26) (C := RX2) (T := TX2) (N := 3) hx hb hts k_X5_copy_2 hown hK hP 8 rfl rfl 2 (by decide) (hts _ k_X5_copy_4) (fun _ h9 => h9) rfl dX5_copy_96 ?_
                    refine lv_iload_n hx hb dX5_copy_99 rfl (lv_at hl 4 rfl) ?_
                    refine lv_aload hx hb dX5_copy_100 (lv_at hl 0 rfl) ?_
                    refine va_get (D := G.1) (cl := vwCl) (own := RX5) (ref := "ExchangeFamilies$Numbers") (ci := 1) (v := .ref a20) (C := RX2) (T := TX2) (N := 3) hx hb hts k_X5_copy_2 hown hK hP 2 rfl rfl 2 (by decide) (hts _ k_X5_copy_4) (fun _ h9 => h9) rfl dX5_copy_102 ?_
                    refine lv_iload hx hb dX5_copy_105 (lv_at hl 6 rfl) ?_
                    refine lv_iload hx hb dX5_copy_107 (lv_at hl 7 rfl) ?_
                    obtain ⟨⟨hc1, hc2, hc3, hc4, hc5⟩, hm⟩ := gk_cp_some hm
                    refine va_copyl (own := RX5) hx hb (by rw [hml]; exact hl.1.symm) hown (hts _ k_X5_copy_5) (hts _ k_X5_copy_6) (hts _ k_X5_copy_7) (hts _ k_X5_copy_8) hK hP hD hS 9 3 1 1 rfl rfl rfl rfl rfl hc1 hc2 hc3 hc4 hc5 (fun _ _ => rfl) (Nat.le_of_ble_eq_true rfl) (Nat.le_of_ble_eq_true rfl) dX5_copy_109 (fun H locs hP hD hS => ?_)
                    have hP : va_P G.1 vwCl [(a0, .inr (4, [.ref a1, .ref a7, .int f_isKept, .ref a13, .ref a15, .ref a18])), (a18, gk_R G 4 (gk_four a19 a21 a23 a25)), (a19, .inr (1, [.int f_numbers_r0_sort, .int f_numbers_r0_size, .ref a20])), (a20, gk_J G 80 (va_cpy f_numbers_r3_values f_numbers_r0_values x2.toNatClampNeg x4.toNatClampNeg x5.toNatClampNeg)), (a21, .inr (1, [.int f_numbers_r1_sort, .int f_numbers_r1_size, .ref a22])), (a22, gk_J G 80 f_numbers_r1_values), (a23, .inr (1, [.int f_numbers_r2_sort, .int f_numbers_r2_size, .ref a24])), (a24, gk_J G 80 f_numbers_r2_values), (a25, .inr (1, [.int f_numbers_r3_sort, .int f_numbers_r3_size, .ref a26])), (a26, gk_J G 80 f_numbers_r3_values)] H := hP
                    have hD : va_D A [(a0, .inr (4, [.ref a1, .ref a7, .int f_isKept, .ref a13, .ref a15, .ref a18])), (a18, gk_R G 4 (gk_four a19 a21 a23 a25)), (a19, .inr (1, [.int f_numbers_r0_sort, .int f_numbers_r0_size, .ref a20])), (a20, gk_J G 80 (va_cpy f_numbers_r3_values f_numbers_r0_values x2.toNatClampNeg x4.toNatClampNeg x5.toNatClampNeg)), (a21, .inr (1, [.int f_numbers_r1_sort, .int f_numbers_r1_size, .ref a22])), (a22, gk_J G 80 f_numbers_r1_values), (a23, .inr (1, [.int f_numbers_r2_sort, .int f_numbers_r2_size, .ref a24])), (a24, gk_J G 80 f_numbers_r2_values), (a25, .inr (1, [.int f_numbers_r3_sort, .int f_numbers_r3_size, .ref a26])), (a26, gk_J G 80 f_numbers_r3_values)] := hD
                    refine lv_iload hx hb dX5_copy_112 (lv_at hl 7 rfl) ?_
                    rw [kr _ _ _ _ _ (Option.some.inj hm).symm]
                    exact gk_iret C ⟨hP, hD, hS⟩ dX5_copy_114
                  · have hm := gk_it c240 hm
                    refine lv_bipush (v := -12) hx hb dX5_copy_91 (by decide) ?_
                    rw [kr _ _ _ _ _ (Option.some.inj hm).symm]
                    exact gk_iret C ⟨hP, hD, hS⟩ dX5_copy_93
              · have hm := gk_if c236 hm
                refine lv_bipush (v := -13) hx hb dX5_copy_65 (by decide) ?_
                rw [kr _ _ _ _ _ (Option.some.inj hm).symm]
                exact gk_iret C ⟨hP, hD, hS⟩ dX5_copy_67
            · have hm := gk_if c235 hm
              refine lv_bipush (v := -11) hx hb dX5_copy_49 (by decide) ?_
              rw [kr _ _ _ _ _ (Option.some.inj hm).symm]
              exact gk_iret C ⟨hP, hD, hS⟩ dX5_copy_51
        have hm := gk_if c231 hm
        by_cases c241 : x3 = 1
        · have hm := gk_it c241 hm
          refine gk_aald (k := 1) (v := a21) C hP 1 rfl c241 (by decide) (by decide) rfl dX5_copy_30 ?_
          refine lv_astore (lv' := [(7, .ref a21), (6, .ref a25), (0, .ref a0), (1, .int x1), (2, .int x2), (3, .int x3), (4, .int x4), (5, .int x5)]) hx hb dX5_copy_31 hl (by decide) rfl (fun ls hl => ?_)
          refine lv_aload hx hb dX5_copy_33 (lv_at hl 1 rfl) ?_
          obtain ⟨r242, hq, hm⟩ := gk_bd1_some hm
          refine gk_callV (n := 0) (bytes := cX2_isMissing) (maxL := 1) (ret := (some .boolean)) (Cn := RX2) (T := TX2) (N := 3) [(a0, .inr (4, [.ref a1, .ref a7, .int f_isKept, .ref a13, .ref a15, .ref a18])), (a18, gk_R G 4 (gk_four a19 a21 a23 a25)), (a19, .inr (1, [.int f_numbers_r0_sort, .int f_numbers_r0_size, .ref a20])), (a20, gk_J G 80 f_numbers_r0_values), (a21, .inr (1, [.int f_numbers_r1_sort, .int f_numbers_r1_size, .ref a22])), (a22, gk_J G 80 f_numbers_r1_values), (a23, .inr (1, [.int f_numbers_r2_sort, .int f_numbers_r2_size, .ref a24])), (a24, gk_J G 80 f_numbers_r2_values), (a26, gk_J G 80 f_numbers_r3_values)] [(a0, .inr (4, [.ref a1, .ref a7, .int f_isKept, .ref a13, .ref a15, .ref a18])), (a18, gk_R G 4 (gk_four a19 a21 a23 a25)), (a19, .inr (1, [.int f_numbers_r0_sort, .int f_numbers_r0_size, .ref a20])), (a20, gk_J G 80 f_numbers_r0_values), (a21, .inr (1, [.int f_numbers_r1_sort, .int f_numbers_r1_size, .ref a22])), (a22, gk_J G 80 f_numbers_r1_values), (a23, .inr (1, [.int f_numbers_r2_sort, .int f_numbers_r2_size, .ref a24])), (a24, gk_J G 80 f_numbers_r2_values), (a25, .inr (1, [.int f_numbers_r3_sort, .int f_numbers_r3_size, .ref a26])), (a26, gk_J G 80 f_numbers_r3_values)] [] C ⟨hP, hD, hS⟩ (c_X2_isMissing l G a25 a26 f_numbers_r3_sort f_numbers_r3_size hq) gX5_copy_X2_isMissing dX5_copy_35 hl.1 [8] [0, 1, 2, 3, 4, 5, 6, 7, 9] [0, 1, 2, 3, 4, 5, 6, 7, 9, 8] rfl rfl ⟨rfl, rfl⟩ ⟨Nat.le_of_ble_eq_true rfl, Nat.le_of_ble_eq_true rfl⟩ ⟨rfl, by decide +kernel, by decide +kernel, by decide +kernel⟩ rfl (fun h => by cases h) (Nat.le_of_ble_eq_true rfl) rfl rfl rfl rfl (by decide) rfl rfl (fun H locs h => ?_)
          obtain ⟨hP, hD, hS⟩ := h
          refine lv_if_ne (tgt := 49) hx hb dX5_copy_38 (by decide) (fun c243 => ?_) (fun c243 => ?_)
          · have hm := gk_if c243 hm
            refine lv_bipush (v := -11) hx hb dX5_copy_49 (by decide) ?_
            rw [kr _ _ _ _ _ (Option.some.inj hm).symm]
            exact gk_iret C ⟨hP, hD, hS⟩ dX5_copy_51
          · have hm := gk_it c243 hm
            refine lv_aload hx hb dX5_copy_41 (lv_at hl 0 rfl) ?_
            obtain ⟨r244, hq, hm⟩ := gk_bd1_some hm
            refine gk_callV (n := 0) (bytes := cX2_isMissing) (maxL := 1) (ret := (some .boolean)) (Cn := RX2) (T := TX2) (N := 3) [(a0, .inr (4, [.ref a1, .ref a7, .int f_isKept, .ref a13, .ref a15, .ref a18])), (a18, gk_R G 4 (gk_four a19 a21 a23 a25)), (a19, .inr (1, [.int f_numbers_r0_sort, .int f_numbers_r0_size, .ref a20])), (a20, gk_J G 80 f_numbers_r0_values), (a22, gk_J G 80 f_numbers_r1_values), (a23, .inr (1, [.int f_numbers_r2_sort, .int f_numbers_r2_size, .ref a24])), (a24, gk_J G 80 f_numbers_r2_values), (a25, .inr (1, [.int f_numbers_r3_sort, .int f_numbers_r3_size, .ref a26])), (a26, gk_J G 80 f_numbers_r3_values)] [(a0, .inr (4, [.ref a1, .ref a7, .int f_isKept, .ref a13, .ref a15, .ref a18])), (a18, gk_R G 4 (gk_four a19 a21 a23 a25)), (a19, .inr (1, [.int f_numbers_r0_sort, .int f_numbers_r0_size, .ref a20])), (a20, gk_J G 80 f_numbers_r0_values), (a21, .inr (1, [.int f_numbers_r1_sort, .int f_numbers_r1_size, .ref a22])), (a22, gk_J G 80 f_numbers_r1_values), (a23, .inr (1, [.int f_numbers_r2_sort, .int f_numbers_r2_size, .ref a24])), (a24, gk_J G 80 f_numbers_r2_values), (a25, .inr (1, [.int f_numbers_r3_sort, .int f_numbers_r3_size, .ref a26])), (a26, gk_J G 80 f_numbers_r3_values)] [] C ⟨hP, hD, hS⟩ (c_X2_isMissing l G a21 a22 f_numbers_r1_sort f_numbers_r1_size hq) gX5_copy_X2_isMissing dX5_copy_43 hl.1 [4] [0, 1, 2, 3, 5, 6, 7, 8, 9] [0, 1, 2, 3, 9, 4, 5, 6, 7, 8] rfl rfl ⟨rfl, rfl⟩ ⟨Nat.le_of_ble_eq_true rfl, Nat.le_of_ble_eq_true rfl⟩ ⟨rfl, by decide +kernel, by decide +kernel, by decide +kernel⟩ rfl (fun h => by cases h) (Nat.le_of_ble_eq_true rfl) rfl rfl rfl rfl (by decide) rfl rfl (fun H locs h => ?_)
            obtain ⟨hP, hD, hS⟩ := h
            refine lv_if_eq (tgt := 52) hx hb dX5_copy_46 (by decide) (fun c245 => ?_) (fun c245 => ?_)
            · have hm := gk_it c245 hm
              refine lv_aload hx hb dX5_copy_52 (lv_at hl 1 rfl) ?_
              refine va_get (D := G.1) (cl := vwCl) (own := RX5) (ref := "ExchangeFamilies$Numbers") (ci := 1) (v := .int f_numbers_r3_sort) (C := RX2) (T := TX2) (N := 3) hx hb hts k_X5_copy_2 hown hK hP 8 rfl rfl 0 (by decide) (hts _ k_X5_copy_3) (fun _ h9 => h9) rfl dX5_copy_54 ?_
              refine lv_aload hx hb dX5_copy_57 (lv_at hl 0 rfl) ?_
              refine va_get (D := G.1) (cl := vwCl) (own := RX5) (ref := "ExchangeFamilies$Numbers") (ci := 1) (v := .int f_numbers_r1_sort) (C := RX2) (T := TX2) (N := 3) hx hb hts k_X5_copy_2 hown hK hP 4 rfl rfl 0 (by decide) (hts _ k_X5_copy_3) (fun _ h9 => h9) rfl dX5_copy_59 ?_
              refine lv_icmp_eq (tgt := 68) hx hb dX5_copy_62 (by decide) (fun c246 => ?_) (fun c246 => ?_)
              · have hm := gk_it c246 hm
                refine lv_aload hx hb dX5_copy_68 (lv_at hl 1 rfl) ?_
                refine lv_iload_n hx hb dX5_copy_70 rfl (lv_at hl 4 rfl) ?_
                refine lv_iload hx hb dX5_copy_71 (lv_at hl 7 rfl) ?_
                obtain ⟨r247, hq, hm⟩ := gk_bd1_some hm
                refine gk_callV (n := 2) (bytes := cX2_hasStretch) (maxL := 3) (ret := (some .boolean)) (Cn := RX2) (T := TX2) (N := 3) [(a0, .inr (4, [.ref a1, .ref a7, .int f_isKept, .ref a13, .ref a15, .ref a18])), (a18, gk_R G 4 (gk_four a19 a21 a23 a25)), (a19, .inr (1, [.int f_numbers_r0_sort, .int f_numbers_r0_size, .ref a20])), (a20, gk_J G 80 f_numbers_r0_values), (a21, .inr (1, [.int f_numbers_r1_sort, .int f_numbers_r1_size, .ref a22])), (a22, gk_J G 80 f_numbers_r1_values), (a23, .inr (1, [.int f_numbers_r2_sort, .int f_numbers_r2_size, .ref a24])), (a24, gk_J G 80 f_numbers_r2_values), (a26, gk_J G 80 f_numbers_r3_values)] [(a0, .inr (4, [.ref a1, .ref a7, .int f_isKept, .ref a13, .ref a15, .ref a18])), (a18, gk_R G 4 (gk_four a19 a21 a23 a25)), (a19, .inr (1, [.int f_numbers_r0_sort, .int f_numbers_r0_size, .ref a20])), (a20, gk_J G 80 f_numbers_r0_values), (a21, .inr (1, [.int f_numbers_r1_sort, .int f_numbers_r1_size, .ref a22])), (a22, gk_J G 80 f_numbers_r1_values), (a23, .inr (1, [.int f_numbers_r2_sort, .int f_numbers_r2_size, .ref a24])), (a24, gk_J G 80 f_numbers_r2_values), (a25, .inr (1, [.int f_numbers_r3_sort, .int f_numbers_r3_size, .ref a26])), (a26, gk_J G 80 f_numbers_r3_values)] [] C ⟨hP, hD, hS⟩ (c_X2_hasStretch l G a25 a26 f_numbers_r3_sort f_numbers_r3_size x2 x5 hq) gX5_copy_X2_hasStretch dX5_copy_73 hl.1 [8] [0, 1, 2, 3, 4, 5, 6, 7, 9] [0, 1, 2, 3, 4, 5, 6, 7, 9, 8] rfl rfl ⟨rfl, rfl⟩ ⟨Nat.le_of_ble_eq_true rfl, Nat.le_of_ble_eq_true rfl⟩ ⟨rfl, by decide +kernel, by decide +kernel, by decide +kernel⟩ rfl (fun h => by cases h) (Nat.le_of_ble_eq_true rfl) rfl rfl rfl rfl (by decide) rfl rfl (fun H locs h => ?_)
                obtain ⟨hP, hD, hS⟩ := h
                refine lv_if_eq (tgt := 91) hx hb dX5_copy_76 (by decide) (fun c248 => ?_) (fun c248 => ?_)
                · have hm := gk_it c248 hm
                  refine lv_bipush (v := -12) hx hb dX5_copy_91 (by decide) ?_
                  rw [kr _ _ _ _ _ (Option.some.inj hm).symm]
                  exact gk_iret C ⟨hP, hD, hS⟩ dX5_copy_93
                · have hm := gk_if c248 hm
                  refine lv_aload hx hb dX5_copy_79 (lv_at hl 0 rfl) ?_
                  refine lv_iload hx hb dX5_copy_81 (lv_at hl 6 rfl) ?_
                  refine lv_iload hx hb dX5_copy_83 (lv_at hl 7 rfl) ?_
                  obtain ⟨r249, hq, hm⟩ := gk_bd1_some hm
                  refine gk_callV (n := 2) (bytes := cX2_hasStretch) (maxL := 3) (ret := (some .boolean)) (Cn := RX2) (T := TX2) (N := 3) [(a0, .inr (4, [.ref a1, .ref a7, .int f_isKept, .ref a13, .ref a15, .ref a18])), (a18, gk_R G 4 (gk_four a19 a21 a23 a25)), (a19, .inr (1, [.int f_numbers_r0_sort, .int f_numbers_r0_size, .ref a20])), (a20, gk_J G 80 f_numbers_r0_values), (a22, gk_J G 80 f_numbers_r1_values), (a23, .inr (1, [.int f_numbers_r2_sort, .int f_numbers_r2_size, .ref a24])), (a24, gk_J G 80 f_numbers_r2_values), (a25, .inr (1, [.int f_numbers_r3_sort, .int f_numbers_r3_size, .ref a26])), (a26, gk_J G 80 f_numbers_r3_values)] [(a0, .inr (4, [.ref a1, .ref a7, .int f_isKept, .ref a13, .ref a15, .ref a18])), (a18, gk_R G 4 (gk_four a19 a21 a23 a25)), (a19, .inr (1, [.int f_numbers_r0_sort, .int f_numbers_r0_size, .ref a20])), (a20, gk_J G 80 f_numbers_r0_values), (a21, .inr (1, [.int f_numbers_r1_sort, .int f_numbers_r1_size, .ref a22])), (a22, gk_J G 80 f_numbers_r1_values), (a23, .inr (1, [.int f_numbers_r2_sort, .int f_numbers_r2_size, .ref a24])), (a24, gk_J G 80 f_numbers_r2_values), (a25, .inr (1, [.int f_numbers_r3_sort, .int f_numbers_r3_size, .ref a26])), (a26, gk_J G 80 f_numbers_r3_values)] [] C ⟨hP, hD, hS⟩ (c_X2_hasStretch l G a21 a22 f_numbers_r1_sort f_numbers_r1_size x4 x5 hq) gX5_copy_X2_hasStretch dX5_copy_85 hl.1 [4] [0, 1, 2, 3, 5, 6, 7, 8, 9] [0, 1, 2, 3, 9, 4, 5, 6, 7, 8] rfl rfl ⟨rfl, rfl⟩ ⟨Nat.le_of_ble_eq_true rfl, Nat.le_of_ble_eq_true rfl⟩ ⟨rfl, by decide +kernel, by decide +kernel, by decide +kernel⟩ rfl (fun h => by cases h) (Nat.le_of_ble_eq_true rfl) rfl rfl rfl rfl (by decide) rfl rfl (fun H locs h => ?_)
                  obtain ⟨hP, hD, hS⟩ := h
                  refine lv_if_ne (tgt := 94) hx hb dX5_copy_88 (by decide) (fun c250 => ?_) (fun c250 => ?_)
                  · have hm := gk_if c250 hm
                    refine lv_aload hx hb dX5_copy_94 (lv_at hl 1 rfl) ?_
                    refine va_get (D := G.1) (cl := vwCl) (own := RX5) (ref := "ExchangeFamilies$Numbers") (ci := 1) (v := .ref a26) (C := RX2) (T := TX2) (N := 3) hx hb hts k_X5_copy_2 hown hK hP 8 rfl rfl 2 (by decide) (hts _ k_X5_copy_4) (fun _ h9 => h9) rfl dX5_copy_96 ?_
                    refine lv_iload_n hx hb dX5_copy_99 rfl (lv_at hl 4 rfl) ?_
                    refine lv_aload hx hb dX5_copy_100 (lv_at hl 0 rfl) ?_
                    refine va_get (D := G.1) (cl := vwCl) (own := RX5) (ref := "ExchangeFamilies$Numbers") (ci := 1) (v := .ref a22) (C := RX2) (T := TX2) (N := 3) hx hb hts k_X5_copy_2 hown hK hP 4 rfl rfl 2 (by decide) (hts _ k_X5_copy_4) (fun _ h9 => h9) rfl dX5_copy_102 ?_
                    refine lv_iload hx hb dX5_copy_105 (lv_at hl 6 rfl) ?_
                    refine lv_iload hx hb dX5_copy_107 (lv_at hl 7 rfl) ?_
                    obtain ⟨⟨hc1, hc2, hc3, hc4, hc5⟩, hm⟩ := gk_cp_some hm
                    refine va_copyl (own := RX5) hx hb (by rw [hml]; exact hl.1.symm) hown (hts _ k_X5_copy_5) (hts _ k_X5_copy_6) (hts _ k_X5_copy_7) (hts _ k_X5_copy_8) hK hP hD hS 9 5 1 1 rfl rfl rfl rfl rfl hc1 hc2 hc3 hc4 hc5 (fun _ _ => rfl) (Nat.le_of_ble_eq_true rfl) (Nat.le_of_ble_eq_true rfl) dX5_copy_109 (fun H locs hP hD hS => ?_)
                    have hP : va_P G.1 vwCl [(a0, .inr (4, [.ref a1, .ref a7, .int f_isKept, .ref a13, .ref a15, .ref a18])), (a18, gk_R G 4 (gk_four a19 a21 a23 a25)), (a19, .inr (1, [.int f_numbers_r0_sort, .int f_numbers_r0_size, .ref a20])), (a20, gk_J G 80 f_numbers_r0_values), (a21, .inr (1, [.int f_numbers_r1_sort, .int f_numbers_r1_size, .ref a22])), (a22, gk_J G 80 (va_cpy f_numbers_r3_values f_numbers_r1_values x2.toNatClampNeg x4.toNatClampNeg x5.toNatClampNeg)), (a23, .inr (1, [.int f_numbers_r2_sort, .int f_numbers_r2_size, .ref a24])), (a24, gk_J G 80 f_numbers_r2_values), (a25, .inr (1, [.int f_numbers_r3_sort, .int f_numbers_r3_size, .ref a26])), (a26, gk_J G 80 f_numbers_r3_values)] H := hP
                    have hD : va_D A [(a0, .inr (4, [.ref a1, .ref a7, .int f_isKept, .ref a13, .ref a15, .ref a18])), (a18, gk_R G 4 (gk_four a19 a21 a23 a25)), (a19, .inr (1, [.int f_numbers_r0_sort, .int f_numbers_r0_size, .ref a20])), (a20, gk_J G 80 f_numbers_r0_values), (a21, .inr (1, [.int f_numbers_r1_sort, .int f_numbers_r1_size, .ref a22])), (a22, gk_J G 80 (va_cpy f_numbers_r3_values f_numbers_r1_values x2.toNatClampNeg x4.toNatClampNeg x5.toNatClampNeg)), (a23, .inr (1, [.int f_numbers_r2_sort, .int f_numbers_r2_size, .ref a24])), (a24, gk_J G 80 f_numbers_r2_values), (a25, .inr (1, [.int f_numbers_r3_sort, .int f_numbers_r3_size, .ref a26])), (a26, gk_J G 80 f_numbers_r3_values)] := hD
                    refine lv_iload hx hb dX5_copy_112 (lv_at hl 7 rfl) ?_
                    rw [kr _ _ _ _ _ (Option.some.inj hm).symm]
                    exact gk_iret C ⟨hP, hD, hS⟩ dX5_copy_114
                  · have hm := gk_it c250 hm
                    refine lv_bipush (v := -12) hx hb dX5_copy_91 (by decide) ?_
                    rw [kr _ _ _ _ _ (Option.some.inj hm).symm]
                    exact gk_iret C ⟨hP, hD, hS⟩ dX5_copy_93
              · have hm := gk_if c246 hm
                refine lv_bipush (v := -13) hx hb dX5_copy_65 (by decide) ?_
                rw [kr _ _ _ _ _ (Option.some.inj hm).symm]
                exact gk_iret C ⟨hP, hD, hS⟩ dX5_copy_67
            · have hm := gk_if c245 hm
              refine lv_bipush (v := -11) hx hb dX5_copy_49 (by decide) ?_
              rw [kr _ _ _ _ _ (Option.some.inj hm).symm]
              exact gk_iret C ⟨hP, hD, hS⟩ dX5_copy_51
        have hm := gk_if c241 hm
        by_cases c251 : x3 = 2
        · have hm := gk_it c251 hm
          refine gk_aald (k := 2) (v := a23) C hP 1 rfl c251 (by decide) (by decide) rfl dX5_copy_30 ?_
          refine lv_astore (lv' := [(7, .ref a23), (6, .ref a25), (0, .ref a0), (1, .int x1), (2, .int x2), (3, .int x3), (4, .int x4), (5, .int x5)]) hx hb dX5_copy_31 hl (by decide) rfl (fun ls hl => ?_)
          refine lv_aload hx hb dX5_copy_33 (lv_at hl 1 rfl) ?_
          obtain ⟨r252, hq, hm⟩ := gk_bd1_some hm
          refine gk_callV (n := 0) (bytes := cX2_isMissing) (maxL := 1) (ret := (some .boolean)) (Cn := RX2) (T := TX2) (N := 3) [(a0, .inr (4, [.ref a1, .ref a7, .int f_isKept, .ref a13, .ref a15, .ref a18])), (a18, gk_R G 4 (gk_four a19 a21 a23 a25)), (a19, .inr (1, [.int f_numbers_r0_sort, .int f_numbers_r0_size, .ref a20])), (a20, gk_J G 80 f_numbers_r0_values), (a21, .inr (1, [.int f_numbers_r1_sort, .int f_numbers_r1_size, .ref a22])), (a22, gk_J G 80 f_numbers_r1_values), (a23, .inr (1, [.int f_numbers_r2_sort, .int f_numbers_r2_size, .ref a24])), (a24, gk_J G 80 f_numbers_r2_values), (a26, gk_J G 80 f_numbers_r3_values)] [(a0, .inr (4, [.ref a1, .ref a7, .int f_isKept, .ref a13, .ref a15, .ref a18])), (a18, gk_R G 4 (gk_four a19 a21 a23 a25)), (a19, .inr (1, [.int f_numbers_r0_sort, .int f_numbers_r0_size, .ref a20])), (a20, gk_J G 80 f_numbers_r0_values), (a21, .inr (1, [.int f_numbers_r1_sort, .int f_numbers_r1_size, .ref a22])), (a22, gk_J G 80 f_numbers_r1_values), (a23, .inr (1, [.int f_numbers_r2_sort, .int f_numbers_r2_size, .ref a24])), (a24, gk_J G 80 f_numbers_r2_values), (a25, .inr (1, [.int f_numbers_r3_sort, .int f_numbers_r3_size, .ref a26])), (a26, gk_J G 80 f_numbers_r3_values)] [] C ⟨hP, hD, hS⟩ (c_X2_isMissing l G a25 a26 f_numbers_r3_sort f_numbers_r3_size hq) gX5_copy_X2_isMissing dX5_copy_35 hl.1 [8] [0, 1, 2, 3, 4, 5, 6, 7, 9] [0, 1, 2, 3, 4, 5, 6, 7, 9, 8] rfl rfl ⟨rfl, rfl⟩ ⟨Nat.le_of_ble_eq_true rfl, Nat.le_of_ble_eq_true rfl⟩ ⟨rfl, by decide +kernel, by decide +kernel, by decide +kernel⟩ rfl (fun h => by cases h) (Nat.le_of_ble_eq_true rfl) rfl rfl rfl rfl (by decide) rfl rfl (fun H locs h => ?_)
          obtain ⟨hP, hD, hS⟩ := h
          refine lv_if_ne (tgt := 49) hx hb dX5_copy_38 (by decide) (fun c253 => ?_) (fun c253 => ?_)
          · have hm := gk_if c253 hm
            refine lv_bipush (v := -11) hx hb dX5_copy_49 (by decide) ?_
            rw [kr _ _ _ _ _ (Option.some.inj hm).symm]
            exact gk_iret C ⟨hP, hD, hS⟩ dX5_copy_51
          · have hm := gk_it c253 hm
            refine lv_aload hx hb dX5_copy_41 (lv_at hl 0 rfl) ?_
            obtain ⟨r254, hq, hm⟩ := gk_bd1_some hm
            refine gk_callV (n := 0) (bytes := cX2_isMissing) (maxL := 1) (ret := (some .boolean)) (Cn := RX2) (T := TX2) (N := 3) [(a0, .inr (4, [.ref a1, .ref a7, .int f_isKept, .ref a13, .ref a15, .ref a18])), (a18, gk_R G 4 (gk_four a19 a21 a23 a25)), (a19, .inr (1, [.int f_numbers_r0_sort, .int f_numbers_r0_size, .ref a20])), (a20, gk_J G 80 f_numbers_r0_values), (a21, .inr (1, [.int f_numbers_r1_sort, .int f_numbers_r1_size, .ref a22])), (a22, gk_J G 80 f_numbers_r1_values), (a24, gk_J G 80 f_numbers_r2_values), (a25, .inr (1, [.int f_numbers_r3_sort, .int f_numbers_r3_size, .ref a26])), (a26, gk_J G 80 f_numbers_r3_values)] [(a0, .inr (4, [.ref a1, .ref a7, .int f_isKept, .ref a13, .ref a15, .ref a18])), (a18, gk_R G 4 (gk_four a19 a21 a23 a25)), (a19, .inr (1, [.int f_numbers_r0_sort, .int f_numbers_r0_size, .ref a20])), (a20, gk_J G 80 f_numbers_r0_values), (a21, .inr (1, [.int f_numbers_r1_sort, .int f_numbers_r1_size, .ref a22])), (a22, gk_J G 80 f_numbers_r1_values), (a23, .inr (1, [.int f_numbers_r2_sort, .int f_numbers_r2_size, .ref a24])), (a24, gk_J G 80 f_numbers_r2_values), (a25, .inr (1, [.int f_numbers_r3_sort, .int f_numbers_r3_size, .ref a26])), (a26, gk_J G 80 f_numbers_r3_values)] [] C ⟨hP, hD, hS⟩ (c_X2_isMissing l G a23 a24 f_numbers_r2_sort f_numbers_r2_size hq) gX5_copy_X2_isMissing dX5_copy_43 hl.1 [6] [0, 1, 2, 3, 4, 5, 7, 8, 9] [0, 1, 2, 3, 4, 5, 9, 6, 7, 8] rfl rfl ⟨rfl, rfl⟩ ⟨Nat.le_of_ble_eq_true rfl, Nat.le_of_ble_eq_true rfl⟩ ⟨rfl, by decide +kernel, by decide +kernel, by decide +kernel⟩ rfl (fun h => by cases h) (Nat.le_of_ble_eq_true rfl) rfl rfl rfl rfl (by decide) rfl rfl (fun H locs h => ?_)
            obtain ⟨hP, hD, hS⟩ := h
            refine lv_if_eq (tgt := 52) hx hb dX5_copy_46 (by decide) (fun c255 => ?_) (fun c255 => ?_)
            · have hm := gk_it c255 hm
              refine lv_aload hx hb dX5_copy_52 (lv_at hl 1 rfl) ?_
              refine va_get (D := G.1) (cl := vwCl) (own := RX5) (ref := "ExchangeFamilies$Numbers") (ci := 1) (v := .int f_numbers_r3_sort) (C := RX2) (T := TX2) (N := 3) hx hb hts k_X5_copy_2 hown hK hP 8 rfl rfl 0 (by decide) (hts _ k_X5_copy_3) (fun _ h9 => h9) rfl dX5_copy_54 ?_
              refine lv_aload hx hb dX5_copy_57 (lv_at hl 0 rfl) ?_
              refine va_get (D := G.1) (cl := vwCl) (own := RX5) (ref := "ExchangeFamilies$Numbers") (ci := 1) (v := .int f_numbers_r2_sort) (C := RX2) (T := TX2) (N := 3) hx hb hts k_X5_copy_2 hown hK hP 6 rfl rfl 0 (by decide) (hts _ k_X5_copy_3) (fun _ h9 => h9) rfl dX5_copy_59 ?_
              refine lv_icmp_eq (tgt := 68) hx hb dX5_copy_62 (by decide) (fun c256 => ?_) (fun c256 => ?_)
              · have hm := gk_it c256 hm
                refine lv_aload hx hb dX5_copy_68 (lv_at hl 1 rfl) ?_
                refine lv_iload_n hx hb dX5_copy_70 rfl (lv_at hl 4 rfl) ?_
                refine lv_iload hx hb dX5_copy_71 (lv_at hl 7 rfl) ?_
                obtain ⟨r257, hq, hm⟩ := gk_bd1_some hm
                refine gk_callV (n := 2) (bytes := cX2_hasStretch) (maxL := 3) (ret := (some .boolean)) (Cn := RX2) (T := TX2) (N := 3) [(a0, .inr (4, [.ref a1, .ref a7, .int f_isKept, .ref a13, .ref a15, .ref a18])), (a18, gk_R G 4 (gk_four a19 a21 a23 a25)), (a19, .inr (1, [.int f_numbers_r0_sort, .int f_numbers_r0_size, .ref a20])), (a20, gk_J G 80 f_numbers_r0_values), (a21, .inr (1, [.int f_numbers_r1_sort, .int f_numbers_r1_size, .ref a22])), (a22, gk_J G 80 f_numbers_r1_values), (a23, .inr (1, [.int f_numbers_r2_sort, .int f_numbers_r2_size, .ref a24])), (a24, gk_J G 80 f_numbers_r2_values), (a26, gk_J G 80 f_numbers_r3_values)] [(a0, .inr (4, [.ref a1, .ref a7, .int f_isKept, .ref a13, .ref a15, .ref a18])), (a18, gk_R G 4 (gk_four a19 a21 a23 a25)), (a19, .inr (1, [.int f_numbers_r0_sort, .int f_numbers_r0_size, .ref a20])), (a20, gk_J G 80 f_numbers_r0_values), (a21, .inr (1, [.int f_numbers_r1_sort, .int f_numbers_r1_size, .ref a22])), (a22, gk_J G 80 f_numbers_r1_values), (a23, .inr (1, [.int f_numbers_r2_sort, .int f_numbers_r2_size, .ref a24])), (a24, gk_J G 80 f_numbers_r2_values), (a25, .inr (1, [.int f_numbers_r3_sort, .int f_numbers_r3_size, .ref a26])), (a26, gk_J G 80 f_numbers_r3_values)] [] C ⟨hP, hD, hS⟩ (c_X2_hasStretch l G a25 a26 f_numbers_r3_sort f_numbers_r3_size x2 x5 hq) gX5_copy_X2_hasStretch dX5_copy_73 hl.1 [8] [0, 1, 2, 3, 4, 5, 6, 7, 9] [0, 1, 2, 3, 4, 5, 6, 7, 9, 8] rfl rfl ⟨rfl, rfl⟩ ⟨Nat.le_of_ble_eq_true rfl, Nat.le_of_ble_eq_true rfl⟩ ⟨rfl, by decide +kernel, by decide +kernel, by decide +kernel⟩ rfl (fun h => by cases h) (Nat.le_of_ble_eq_true rfl) rfl rfl rfl rfl (by decide) rfl rfl (fun H locs h => ?_)
                obtain ⟨hP, hD, hS⟩ := h
                refine lv_if_eq (tgt := 91) hx hb dX5_copy_76 (by decide) (fun c258 => ?_) (fun c258 => ?_)
                · have hm := gk_it c258 hm
                  refine lv_bipush (v := -12) hx hb dX5_copy_91 (by decide) ?_
                  rw [kr _ _ _ _ _ (Option.some.inj hm).symm]
                  exact gk_iret C ⟨hP, hD, hS⟩ dX5_copy_93
                · have hm := gk_if c258 hm
                  refine lv_aload hx hb dX5_copy_79 (lv_at hl 0 rfl) ?_
                  refine lv_iload hx hb dX5_copy_81 (lv_at hl 6 rfl) ?_
                  refine lv_iload hx hb dX5_copy_83 (lv_at hl 7 rfl) ?_
                  obtain ⟨r259, hq, hm⟩ := gk_bd1_some hm
                  refine gk_callV (n := 2) (bytes := cX2_hasStretch) (maxL := 3) (ret := (some .boolean)) (Cn := RX2) (T := TX2) (N := 3) [(a0, .inr (4, [.ref a1, .ref a7, .int f_isKept, .ref a13, .ref a15, .ref a18])), (a18, gk_R G 4 (gk_four a19 a21 a23 a25)), (a19, .inr (1, [.int f_numbers_r0_sort, .int f_numbers_r0_size, .ref a20])), (a20, gk_J G 80 f_numbers_r0_values), (a21, .inr (1, [.int f_numbers_r1_sort, .int f_numbers_r1_size, .ref a22])), (a22, gk_J G 80 f_numbers_r1_values), (a24, gk_J G 80 f_numbers_r2_values), (a25, .inr (1, [.int f_numbers_r3_sort, .int f_numbers_r3_size, .ref a26])), (a26, gk_J G 80 f_numbers_r3_values)] [(a0, .inr (4, [.ref a1, .ref a7, .int f_isKept, .ref a13, .ref a15, .ref a18])), (a18, gk_R G 4 (gk_four a19 a21 a23 a25)), (a19, .inr (1, [.int f_numbers_r0_sort, .int f_numbers_r0_size, .ref a20])), (a20, gk_J G 80 f_numbers_r0_values), (a21, .inr (1, [.int f_numbers_r1_sort, .int f_numbers_r1_size, .ref a22])), (a22, gk_J G 80 f_numbers_r1_values), (a23, .inr (1, [.int f_numbers_r2_sort, .int f_numbers_r2_size, .ref a24])), (a24, gk_J G 80 f_numbers_r2_values), (a25, .inr (1, [.int f_numbers_r3_sort, .int f_numbers_r3_size, .ref a26])), (a26, gk_J G 80 f_numbers_r3_values)] [] C ⟨hP, hD, hS⟩ (c_X2_hasStretch l G a23 a24 f_numbers_r2_sort f_numbers_r2_size x4 x5 hq) gX5_copy_X2_hasStretch dX5_copy_85 hl.1 [6] [0, 1, 2, 3, 4, 5, 7, 8, 9] [0, 1, 2, 3, 4, 5, 9, 6, 7, 8] rfl rfl ⟨rfl, rfl⟩ ⟨Nat.le_of_ble_eq_true rfl, Nat.le_of_ble_eq_true rfl⟩ ⟨rfl, by decide +kernel, by decide +kernel, by decide +kernel⟩ rfl (fun h => by cases h) (Nat.le_of_ble_eq_true rfl) rfl rfl rfl rfl (by decide) rfl rfl (fun H locs h => ?_)
                  obtain ⟨hP, hD, hS⟩ := h
                  refine lv_if_ne (tgt := 94) hx hb dX5_copy_88 (by decide) (fun c260 => ?_) (fun c260 => ?_)
                  · have hm := gk_if c260 hm
                    refine lv_aload hx hb dX5_copy_94 (lv_at hl 1 rfl) ?_
                    refine va_get (D := G.1) (cl := vwCl) (own := RX5) (ref := "ExchangeFamilies$Numbers") (ci := 1) (v := .ref a26) (C := RX2) (T := TX2) (N := 3) hx hb hts k_X5_copy_2 hown hK hP 8 rfl rfl 2 (by decide) (hts _ k_X5_copy_4) (fun _ h9 => h9) rfl dX5_copy_96 ?_
                    refine lv_iload_n hx hb dX5_copy_99 rfl (lv_at hl 4 rfl) ?_
                    refine lv_aload hx hb dX5_copy_100 (lv_at hl 0 rfl) ?_
                    refine va_get (D := G.1) (cl := vwCl) (own := RX5) (ref := "ExchangeFamilies$Numbers") (ci := 1) (v := .ref a24) (C := RX2) (T := TX2) (N := 3) hx hb hts k_X5_copy_2 hown hK hP 6 rfl rfl 2 (by decide) (hts _ k_X5_copy_4) (fun _ h9 => h9) rfl dX5_copy_102 ?_
                    refine lv_iload hx hb dX5_copy_105 (lv_at hl 6 rfl) ?_
                    refine lv_iload hx hb dX5_copy_107 (lv_at hl 7 rfl) ?_
                    obtain ⟨⟨hc1, hc2, hc3, hc4, hc5⟩, hm⟩ := gk_cp_some hm
                    refine va_copyl (own := RX5) hx hb (by rw [hml]; exact hl.1.symm) hown (hts _ k_X5_copy_5) (hts _ k_X5_copy_6) (hts _ k_X5_copy_7) (hts _ k_X5_copy_8) hK hP hD hS 9 7 1 1 rfl rfl rfl rfl rfl hc1 hc2 hc3 hc4 hc5 (fun _ _ => rfl) (Nat.le_of_ble_eq_true rfl) (Nat.le_of_ble_eq_true rfl) dX5_copy_109 (fun H locs hP hD hS => ?_)
                    have hP : va_P G.1 vwCl [(a0, .inr (4, [.ref a1, .ref a7, .int f_isKept, .ref a13, .ref a15, .ref a18])), (a18, gk_R G 4 (gk_four a19 a21 a23 a25)), (a19, .inr (1, [.int f_numbers_r0_sort, .int f_numbers_r0_size, .ref a20])), (a20, gk_J G 80 f_numbers_r0_values), (a21, .inr (1, [.int f_numbers_r1_sort, .int f_numbers_r1_size, .ref a22])), (a22, gk_J G 80 f_numbers_r1_values), (a23, .inr (1, [.int f_numbers_r2_sort, .int f_numbers_r2_size, .ref a24])), (a24, gk_J G 80 (va_cpy f_numbers_r3_values f_numbers_r2_values x2.toNatClampNeg x4.toNatClampNeg x5.toNatClampNeg)), (a25, .inr (1, [.int f_numbers_r3_sort, .int f_numbers_r3_size, .ref a26])), (a26, gk_J G 80 f_numbers_r3_values)] H := hP
                    have hD : va_D A [(a0, .inr (4, [.ref a1, .ref a7, .int f_isKept, .ref a13, .ref a15, .ref a18])), (a18, gk_R G 4 (gk_four a19 a21 a23 a25)), (a19, .inr (1, [.int f_numbers_r0_sort, .int f_numbers_r0_size, .ref a20])), (a20, gk_J G 80 f_numbers_r0_values), (a21, .inr (1, [.int f_numbers_r1_sort, .int f_numbers_r1_size, .ref a22])), (a22, gk_J G 80 f_numbers_r1_values), (a23, .inr (1, [.int f_numbers_r2_sort, .int f_numbers_r2_size, .ref a24])), (a24, gk_J G 80 (va_cpy f_numbers_r3_values f_numbers_r2_values x2.toNatClampNeg x4.toNatClampNeg x5.toNatClampNeg)), (a25, .inr (1, [.int f_numbers_r3_sort, .int f_numbers_r3_size, .ref a26])), (a26, gk_J G 80 f_numbers_r3_values)] := hD
                    refine lv_iload hx hb dX5_copy_112 (lv_at hl 7 rfl) ?_
                    rw [kr _ _ _ _ _ (Option.some.inj hm).symm]
                    exact gk_iret C ⟨hP, hD, hS⟩ dX5_copy_114
                  · have hm := gk_it c260 hm
                    refine lv_bipush (v := -12) hx hb dX5_copy_91 (by decide) ?_
                    rw [kr _ _ _ _ _ (Option.some.inj hm).symm]
                    exact gk_iret C ⟨hP, hD, hS⟩ dX5_copy_93
              · have hm := gk_if c256 hm
                refine lv_bipush (v := -13) hx hb dX5_copy_65 (by decide) ?_
                rw [kr _ _ _ _ _ (Option.some.inj hm).symm]
                exact gk_iret C ⟨hP, hD, hS⟩ dX5_copy_67
            · have hm := gk_if c255 hm
              refine lv_bipush (v := -11) hx hb dX5_copy_49 (by decide) ?_
              rw [kr _ _ _ _ _ (Option.some.inj hm).symm]
              exact gk_iret C ⟨hP, hD, hS⟩ dX5_copy_51
        have hm := gk_if c251 hm
        by_cases c261 : x3 = 3
        · have hm := gk_it c261 hm
          refine gk_aald (k := 3) (v := a25) C hP 1 rfl c261 (by decide) (by decide) rfl dX5_copy_30 ?_
          refine lv_astore (lv' := [(7, .ref a25), (6, .ref a25), (0, .ref a0), (1, .int x1), (2, .int x2), (3, .int x3), (4, .int x4), (5, .int x5)]) hx hb dX5_copy_31 hl (by decide) rfl (fun ls hl => ?_)
          refine lv_aload hx hb dX5_copy_33 (lv_at hl 1 rfl) ?_
          obtain ⟨r262, hq, hm⟩ := gk_bd1_some hm
          refine gk_callV (n := 0) (bytes := cX2_isMissing) (maxL := 1) (ret := (some .boolean)) (Cn := RX2) (T := TX2) (N := 3) [(a0, .inr (4, [.ref a1, .ref a7, .int f_isKept, .ref a13, .ref a15, .ref a18])), (a18, gk_R G 4 (gk_four a19 a21 a23 a25)), (a19, .inr (1, [.int f_numbers_r0_sort, .int f_numbers_r0_size, .ref a20])), (a20, gk_J G 80 f_numbers_r0_values), (a21, .inr (1, [.int f_numbers_r1_sort, .int f_numbers_r1_size, .ref a22])), (a22, gk_J G 80 f_numbers_r1_values), (a23, .inr (1, [.int f_numbers_r2_sort, .int f_numbers_r2_size, .ref a24])), (a24, gk_J G 80 f_numbers_r2_values), (a26, gk_J G 80 f_numbers_r3_values)] [(a0, .inr (4, [.ref a1, .ref a7, .int f_isKept, .ref a13, .ref a15, .ref a18])), (a18, gk_R G 4 (gk_four a19 a21 a23 a25)), (a19, .inr (1, [.int f_numbers_r0_sort, .int f_numbers_r0_size, .ref a20])), (a20, gk_J G 80 f_numbers_r0_values), (a21, .inr (1, [.int f_numbers_r1_sort, .int f_numbers_r1_size, .ref a22])), (a22, gk_J G 80 f_numbers_r1_values), (a23, .inr (1, [.int f_numbers_r2_sort, .int f_numbers_r2_size, .ref a24])), (a24, gk_J G 80 f_numbers_r2_values), (a25, .inr (1, [.int f_numbers_r3_sort, .int f_numbers_r3_size, .ref a26])), (a26, gk_J G 80 f_numbers_r3_values)] [] C ⟨hP, hD, hS⟩ (c_X2_isMissing l G a25 a26 f_numbers_r3_sort f_numbers_r3_size hq) gX5_copy_X2_isMissing dX5_copy_35 hl.1 [8] [0, 1, 2, 3, 4, 5, 6, 7, 9] [0, 1, 2, 3, 4, 5, 6, 7, 9, 8] rfl rfl ⟨rfl, rfl⟩ ⟨Nat.le_of_ble_eq_true rfl, Nat.le_of_ble_eq_true rfl⟩ ⟨rfl, by decide +kernel, by decide +kernel, by decide +kernel⟩ rfl (fun h => by cases h) (Nat.le_of_ble_eq_true rfl) rfl rfl rfl rfl (by decide) rfl rfl (fun H locs h => ?_)
          obtain ⟨hP, hD, hS⟩ := h
          refine lv_if_ne (tgt := 49) hx hb dX5_copy_38 (by decide) (fun c263 => ?_) (fun c263 => ?_)
          · have hm := gk_if c263 hm
            refine lv_bipush (v := -11) hx hb dX5_copy_49 (by decide) ?_
            rw [kr _ _ _ _ _ (Option.some.inj hm).symm]
            exact gk_iret C ⟨hP, hD, hS⟩ dX5_copy_51
          · have hm := gk_it c263 hm
            refine lv_aload hx hb dX5_copy_41 (lv_at hl 0 rfl) ?_
            obtain ⟨r264, hq, hm⟩ := gk_bd1_some hm
            refine gk_callV (n := 0) (bytes := cX2_isMissing) (maxL := 1) (ret := (some .boolean)) (Cn := RX2) (T := TX2) (N := 3) [(a0, .inr (4, [.ref a1, .ref a7, .int f_isKept, .ref a13, .ref a15, .ref a18])), (a18, gk_R G 4 (gk_four a19 a21 a23 a25)), (a19, .inr (1, [.int f_numbers_r0_sort, .int f_numbers_r0_size, .ref a20])), (a20, gk_J G 80 f_numbers_r0_values), (a21, .inr (1, [.int f_numbers_r1_sort, .int f_numbers_r1_size, .ref a22])), (a22, gk_J G 80 f_numbers_r1_values), (a23, .inr (1, [.int f_numbers_r2_sort, .int f_numbers_r2_size, .ref a24])), (a24, gk_J G 80 f_numbers_r2_values), (a26, gk_J G 80 f_numbers_r3_values)] [(a0, .inr (4, [.ref a1, .ref a7, .int f_isKept, .ref a13, .ref a15, .ref a18])), (a18, gk_R G 4 (gk_four a19 a21 a23 a25)), (a19, .inr (1, [.int f_numbers_r0_sort, .int f_numbers_r0_size, .ref a20])), (a20, gk_J G 80 f_numbers_r0_values), (a21, .inr (1, [.int f_numbers_r1_sort, .int f_numbers_r1_size, .ref a22])), (a22, gk_J G 80 f_numbers_r1_values), (a23, .inr (1, [.int f_numbers_r2_sort, .int f_numbers_r2_size, .ref a24])), (a24, gk_J G 80 f_numbers_r2_values), (a25, .inr (1, [.int f_numbers_r3_sort, .int f_numbers_r3_size, .ref a26])), (a26, gk_J G 80 f_numbers_r3_values)] [] C ⟨hP, hD, hS⟩ (c_X2_isMissing l G a25 a26 f_numbers_r3_sort f_numbers_r3_size hq) gX5_copy_X2_isMissing dX5_copy_43 hl.1 [8] [0, 1, 2, 3, 4, 5, 6, 7, 9] [0, 1, 2, 3, 4, 5, 6, 7, 9, 8] rfl rfl ⟨rfl, rfl⟩ ⟨Nat.le_of_ble_eq_true rfl, Nat.le_of_ble_eq_true rfl⟩ ⟨rfl, by decide +kernel, by decide +kernel, by decide +kernel⟩ rfl (fun h => by cases h) (Nat.le_of_ble_eq_true rfl) rfl rfl rfl rfl (by decide) rfl rfl (fun H locs h => ?_)
            obtain ⟨hP, hD, hS⟩ := h
            refine lv_if_eq (tgt := 52) hx hb dX5_copy_46 (by decide) (fun c265 => ?_) (fun c265 => ?_)
            · have hm := gk_it c265 hm
              refine lv_aload hx hb dX5_copy_52 (lv_at hl 1 rfl) ?_
              refine va_get (D := G.1) (cl := vwCl) (own := RX5) (ref := "ExchangeFamilies$Numbers") (ci := 1) (v := .int f_numbers_r3_sort) (C := RX2) (T := TX2) (N := 3) hx hb hts k_X5_copy_2 hown hK hP 8 rfl rfl 0 (by decide) (hts _ k_X5_copy_3) (fun _ h9 => h9) rfl dX5_copy_54 ?_
              refine lv_aload hx hb dX5_copy_57 (lv_at hl 0 rfl) ?_
              refine va_get (D := G.1) (cl := vwCl) (own := RX5) (ref := "ExchangeFamilies$Numbers") (ci := 1) (v := .int f_numbers_r3_sort) (C := RX2) (T := TX2) (N := 3) hx hb hts k_X5_copy_2 hown hK hP 8 rfl rfl 0 (by decide) (hts _ k_X5_copy_3) (fun _ h9 => h9) rfl dX5_copy_59 ?_
              refine lv_icmp_eq (tgt := 68) hx hb dX5_copy_62 (by decide) (fun c266 => ?_) (fun c266 => ?_)
              · have hm := gk_it c266 hm
                refine lv_aload hx hb dX5_copy_68 (lv_at hl 1 rfl) ?_
                refine lv_iload_n hx hb dX5_copy_70 rfl (lv_at hl 4 rfl) ?_
                refine lv_iload hx hb dX5_copy_71 (lv_at hl 7 rfl) ?_
                obtain ⟨r267, hq, hm⟩ := gk_bd1_some hm
                refine gk_callV (n := 2) (bytes := cX2_hasStretch) (maxL := 3) (ret := (some .boolean)) (Cn := RX2) (T := TX2) (N := 3) [(a0, .inr (4, [.ref a1, .ref a7, .int f_isKept, .ref a13, .ref a15, .ref a18])), (a18, gk_R G 4 (gk_four a19 a21 a23 a25)), (a19, .inr (1, [.int f_numbers_r0_sort, .int f_numbers_r0_size, .ref a20])), (a20, gk_J G 80 f_numbers_r0_values), (a21, .inr (1, [.int f_numbers_r1_sort, .int f_numbers_r1_size, .ref a22])), (a22, gk_J G 80 f_numbers_r1_values), (a23, .inr (1, [.int f_numbers_r2_sort, .int f_numbers_r2_size, .ref a24])), (a24, gk_J G 80 f_numbers_r2_values), (a26, gk_J G 80 f_numbers_r3_values)] [(a0, .inr (4, [.ref a1, .ref a7, .int f_isKept, .ref a13, .ref a15, .ref a18])), (a18, gk_R G 4 (gk_four a19 a21 a23 a25)), (a19, .inr (1, [.int f_numbers_r0_sort, .int f_numbers_r0_size, .ref a20])), (a20, gk_J G 80 f_numbers_r0_values), (a21, .inr (1, [.int f_numbers_r1_sort, .int f_numbers_r1_size, .ref a22])), (a22, gk_J G 80 f_numbers_r1_values), (a23, .inr (1, [.int f_numbers_r2_sort, .int f_numbers_r2_size, .ref a24])), (a24, gk_J G 80 f_numbers_r2_values), (a25, .inr (1, [.int f_numbers_r3_sort, .int f_numbers_r3_size, .ref a26])), (a26, gk_J G 80 f_numbers_r3_values)] [] C ⟨hP, hD, hS⟩ (c_X2_hasStretch l G a25 a26 f_numbers_r3_sort f_numbers_r3_size x2 x5 hq) gX5_copy_X2_hasStretch dX5_copy_73 hl.1 [8] [0, 1, 2, 3, 4, 5, 6, 7, 9] [0, 1, 2, 3, 4, 5, 6, 7, 9, 8] rfl rfl ⟨rfl, rfl⟩ ⟨Nat.le_of_ble_eq_true rfl, Nat.le_of_ble_eq_true rfl⟩ ⟨rfl, by decide +kernel, by decide +kernel, by decide +kernel⟩ rfl (fun h => by cases h) (Nat.le_of_ble_eq_true rfl) rfl rfl rfl rfl (by decide) rfl rfl (fun H locs h => ?_)
                obtain ⟨hP, hD, hS⟩ := h
                refine lv_if_eq (tgt := 91) hx hb dX5_copy_76 (by decide) (fun c268 => ?_) (fun c268 => ?_)
                · have hm := gk_it c268 hm
                  refine lv_bipush (v := -12) hx hb dX5_copy_91 (by decide) ?_
                  rw [kr _ _ _ _ _ (Option.some.inj hm).symm]
                  exact gk_iret C ⟨hP, hD, hS⟩ dX5_copy_93
                · have hm := gk_if c268 hm
                  refine lv_aload hx hb dX5_copy_79 (lv_at hl 0 rfl) ?_
                  refine lv_iload hx hb dX5_copy_81 (lv_at hl 6 rfl) ?_
                  refine lv_iload hx hb dX5_copy_83 (lv_at hl 7 rfl) ?_
                  obtain ⟨r269, hq, hm⟩ := gk_bd1_some hm
                  refine gk_callV (n := 2) (bytes := cX2_hasStretch) (maxL := 3) (ret := (some .boolean)) (Cn := RX2) (T := TX2) (N := 3) [(a0, .inr (4, [.ref a1, .ref a7, .int f_isKept, .ref a13, .ref a15, .ref a18])), (a18, gk_R G 4 (gk_four a19 a21 a23 a25)), (a19, .inr (1, [.int f_numbers_r0_sort, .int f_numbers_r0_size, .ref a20])), (a20, gk_J G 80 f_numbers_r0_values), (a21, .inr (1, [.int f_numbers_r1_sort, .int f_numbers_r1_size, .ref a22])), (a22, gk_J G 80 f_numbers_r1_values), (a23, .inr (1, [.int f_numbers_r2_sort, .int f_numbers_r2_size, .ref a24])), (a24, gk_J G 80 f_numbers_r2_values), (a26, gk_J G 80 f_numbers_r3_values)] [(a0, .inr (4, [.ref a1, .ref a7, .int f_isKept, .ref a13, .ref a15, .ref a18])), (a18, gk_R G 4 (gk_four a19 a21 a23 a25)), (a19, .inr (1, [.int f_numbers_r0_sort, .int f_numbers_r0_size, .ref a20])), (a20, gk_J G 80 f_numbers_r0_values), (a21, .inr (1, [.int f_numbers_r1_sort, .int f_numbers_r1_size, .ref a22])), (a22, gk_J G 80 f_numbers_r1_values), (a23, .inr (1, [.int f_numbers_r2_sort, .int f_numbers_r2_size, .ref a24])), (a24, gk_J G 80 f_numbers_r2_values), (a25, .inr (1, [.int f_numbers_r3_sort, .int f_numbers_r3_size, .ref a26])), (a26, gk_J G 80 f_numbers_r3_values)] [] C ⟨hP, hD, hS⟩ (c_X2_hasStretch l G a25 a26 f_numbers_r3_sort f_numbers_r3_size x4 x5 hq) gX5_copy_X2_hasStretch dX5_copy_85 hl.1 [8] [0, 1, 2, 3, 4, 5, 6, 7, 9] [0, 1, 2, 3, 4, 5, 6, 7, 9, 8] rfl rfl ⟨rfl, rfl⟩ ⟨Nat.le_of_ble_eq_true rfl, Nat.le_of_ble_eq_true rfl⟩ ⟨rfl, by decide +kernel, by decide +kernel, by decide +kernel⟩ rfl (fun h => by cases h) (Nat.le_of_ble_eq_true rfl) rfl rfl rfl rfl (by decide) rfl rfl (fun H locs h => ?_)
                  obtain ⟨hP, hD, hS⟩ := h
                  refine lv_if_ne (tgt := 94) hx hb dX5_copy_88 (by decide) (fun c270 => ?_) (fun c270 => ?_)
                  · have hm := gk_if c270 hm
                    refine lv_aload hx hb dX5_copy_94 (lv_at hl 1 rfl) ?_
                    refine va_get (D := G.1) (cl := vwCl) (own := RX5) (ref := "ExchangeFamilies$Numbers") (ci := 1) (v := .ref a26) (C := RX2) (T := TX2) (N := 3) hx hb hts k_X5_copy_2 hown hK hP 8 rfl rfl 2 (by decide) (hts _ k_X5_copy_4) (fun _ h9 => h9) rfl dX5_copy_96 ?_
                    refine lv_iload_n hx hb dX5_copy_99 rfl (lv_at hl 4 rfl) ?_
                    refine lv_aload hx hb dX5_copy_100 (lv_at hl 0 rfl) ?_
                    refine va_get (D := G.1) (cl := vwCl) (own := RX5) (ref := "ExchangeFamilies$Numbers") (ci := 1) (v := .ref a26) (C := RX2) (T := TX2) (N := 3) hx hb hts k_X5_copy_2 hown hK hP 8 rfl rfl 2 (by decide) (hts _ k_X5_copy_4) (fun _ h9 => h9) rfl dX5_copy_102 ?_
                    refine lv_iload hx hb dX5_copy_105 (lv_at hl 6 rfl) ?_
                    refine lv_iload hx hb dX5_copy_107 (lv_at hl 7 rfl) ?_
                    obtain ⟨⟨hc1, hc2, hc3, hc4, hc5⟩, hm⟩ := gk_cp_some hm
                    refine va_copyl (own := RX5) hx hb (by rw [hml]; exact hl.1.symm) hown (hts _ k_X5_copy_5) (hts _ k_X5_copy_6) (hts _ k_X5_copy_7) (hts _ k_X5_copy_8) hK hP hD hS 9 9 1 1 rfl rfl rfl rfl rfl hc1 hc2 hc3 hc4 hc5 (fun _ _ => rfl) (Nat.le_of_ble_eq_true rfl) (Nat.le_of_ble_eq_true rfl) dX5_copy_109 (fun H locs hP hD hS => ?_)
                    have hP : va_P G.1 vwCl [(a0, .inr (4, [.ref a1, .ref a7, .int f_isKept, .ref a13, .ref a15, .ref a18])), (a18, gk_R G 4 (gk_four a19 a21 a23 a25)), (a19, .inr (1, [.int f_numbers_r0_sort, .int f_numbers_r0_size, .ref a20])), (a20, gk_J G 80 f_numbers_r0_values), (a21, .inr (1, [.int f_numbers_r1_sort, .int f_numbers_r1_size, .ref a22])), (a22, gk_J G 80 f_numbers_r1_values), (a23, .inr (1, [.int f_numbers_r2_sort, .int f_numbers_r2_size, .ref a24])), (a24, gk_J G 80 f_numbers_r2_values), (a25, .inr (1, [.int f_numbers_r3_sort, .int f_numbers_r3_size, .ref a26])), (a26, gk_J G 80 (va_cpy f_numbers_r3_values f_numbers_r3_values x2.toNatClampNeg x4.toNatClampNeg x5.toNatClampNeg))] H := hP
                    have hD : va_D A [(a0, .inr (4, [.ref a1, .ref a7, .int f_isKept, .ref a13, .ref a15, .ref a18])), (a18, gk_R G 4 (gk_four a19 a21 a23 a25)), (a19, .inr (1, [.int f_numbers_r0_sort, .int f_numbers_r0_size, .ref a20])), (a20, gk_J G 80 f_numbers_r0_values), (a21, .inr (1, [.int f_numbers_r1_sort, .int f_numbers_r1_size, .ref a22])), (a22, gk_J G 80 f_numbers_r1_values), (a23, .inr (1, [.int f_numbers_r2_sort, .int f_numbers_r2_size, .ref a24])), (a24, gk_J G 80 f_numbers_r2_values), (a25, .inr (1, [.int f_numbers_r3_sort, .int f_numbers_r3_size, .ref a26])), (a26, gk_J G 80 (va_cpy f_numbers_r3_values f_numbers_r3_values x2.toNatClampNeg x4.toNatClampNeg x5.toNatClampNeg))] := hD
                    refine lv_iload hx hb dX5_copy_112 (lv_at hl 7 rfl) ?_
                    rw [kr _ _ _ _ _ (Option.some.inj hm).symm]
                    exact gk_iret C ⟨hP, hD, hS⟩ dX5_copy_114
                  · have hm := gk_it c270 hm
                    refine lv_bipush (v := -12) hx hb dX5_copy_91 (by decide) ?_
                    rw [kr _ _ _ _ _ (Option.some.inj hm).symm]
                    exact gk_iret C ⟨hP, hD, hS⟩ dX5_copy_93
              · have hm := gk_if c266 hm
                refine lv_bipush (v := -13) hx hb dX5_copy_65 (by decide) ?_
                rw [kr _ _ _ _ _ (Option.some.inj hm).symm]
                exact gk_iret C ⟨hP, hD, hS⟩ dX5_copy_67
            · have hm := gk_if c265 hm
              refine lv_bipush (v := -11) hx hb dX5_copy_49 (by decide) ?_
              rw [kr _ _ _ _ _ (Option.some.inj hm).symm]
              exact gk_iret C ⟨hP, hD, hS⟩ dX5_copy_51
        have hm := gk_if c261 hm
        cases hm
      have hm := gk_if c230 hm
      cases hm
    · have hm := gk_if c106 hm
      refine lv_bipush (v := -2) hx hb dX5_copy_14 (by decide) ?_
      rw [kr _ _ _ _ _ (Option.some.inj hm).symm]
      exact gk_iret C ⟨hP, hD, hS⟩ dX5_copy_16
def m_X5_copy (f_numbers_r0_sort : Int32) (f_numbers_r0_size : Int32) (f_numbers_r0_values : (Nat → Int64)) (f_numbers_r1_sort : Int32) (f_numbers_r1_size : Int32) (f_numbers_r1_values : (Nat → Int64)) (f_numbers_r2_sort : Int32) (f_numbers_r2_size : Int32) (f_numbers_r2_values : (Nat → Int64)) (f_numbers_r3_sort : Int32) (f_numbers_r3_size : Int32) (f_numbers_r3_values : (Nat → Int64)) (x1 : Int32) (x2 : Int32) (x3 : Int32) (x4 : Int32) (x5 : Int32) : Option (Int32 × (Nat → Int64) × (Nat → Int64) × (Nat → Int64) × (Nat → Int64)) := m_X5_copy_0 f_numbers_r0_sort f_numbers_r0_size f_numbers_r0_values f_numbers_r1_sort f_numbers_r1_size f_numbers_r1_values f_numbers_r2_sort f_numbers_r2_size f_numbers_r2_values f_numbers_r3_sort f_numbers_r3_size f_numbers_r3_values x1 x2 x3 x4 x5
theorem c_X5_copy (l : Launch) (G : gk_G) (a0 a1 a7 a13 a15 a18 a19 a20 a21 a22 a23 a24 a25 a26 : Nat) (f_isKept : Int32) (f_numbers_r0_sort : Int32) (f_numbers_r0_size : Int32) (f_numbers_r0_values : (Nat → Int64)) (f_numbers_r1_sort : Int32) (f_numbers_r1_size : Int32) (f_numbers_r1_values : (Nat → Int64)) (f_numbers_r2_sort : Int32) (f_numbers_r2_size : Int32) (f_numbers_r2_values : (Nat → Int64)) (f_numbers_r3_sort : Int32) (f_numbers_r3_size : Int32) (f_numbers_r3_values : (Nat → Int64)) (x1 : Int32) (x2 : Int32) (x3 : Int32) (x4 : Int32) (x5 : Int32) {rv : Int32} {g_numbers_r0_values : (Nat → Int64)} {g_numbers_r1_values : (Nat → Int64)} {g_numbers_r2_values : (Nat → Int64)} {g_numbers_r3_values : (Nat → Int64)} (hm : m_X5_copy f_numbers_r0_sort f_numbers_r0_size f_numbers_r0_values f_numbers_r1_sort f_numbers_r1_size f_numbers_r1_values f_numbers_r2_sort f_numbers_r2_size f_numbers_r2_values f_numbers_r3_sort f_numbers_r3_size f_numbers_r3_values x1 x2 x3 x4 x5 = some (rv, g_numbers_r0_values, g_numbers_r1_values, g_numbers_r2_values, g_numbers_r3_values)) : gk_M l yX5_copy wsX5_copy rm_X5_copy false G [.ref a0, .int x1, .int x2, .int x3, .int x4, .int x5] [(a0, .inr (4, [.ref a1, .ref a7, .int f_isKept, .ref a13, .ref a15, .ref a18])), (a18, gk_R G 4 (gk_four a19 a21 a23 a25)), (a19, .inr (1, [.int f_numbers_r0_sort, .int f_numbers_r0_size, .ref a20])), (a20, gk_J G 80 f_numbers_r0_values), (a21, .inr (1, [.int f_numbers_r1_sort, .int f_numbers_r1_size, .ref a22])), (a22, gk_J G 80 f_numbers_r1_values), (a23, .inr (1, [.int f_numbers_r2_sort, .int f_numbers_r2_size, .ref a24])), (a24, gk_J G 80 f_numbers_r2_values), (a25, .inr (1, [.int f_numbers_r3_sort, .int f_numbers_r3_size, .ref a26])), (a26, gk_J G 80 f_numbers_r3_values)] (some (.int rv)) [(a0, .inr (4, [.ref a1, .ref a7, .int f_isKept, .ref a13, .ref a15, .ref a18])), (a18, gk_R G 4 (gk_four a19 a21 a23 a25)), (a19, .inr (1, [.int f_numbers_r0_sort, .int f_numbers_r0_size, .ref a20])), (a20, gk_J G 80 g_numbers_r0_values), (a21, .inr (1, [.int f_numbers_r1_sort, .int f_numbers_r1_size, .ref a22])), (a22, gk_J G 80 g_numbers_r1_values), (a23, .inr (1, [.int f_numbers_r2_sort, .int f_numbers_r2_size, .ref a24])), (a24, gk_J G 80 g_numbers_r2_values), (a25, .inr (1, [.int f_numbers_r3_sort, .int f_numbers_r3_size, .ref a26])), (a26, gk_J G 80 g_numbers_r3_values)] :=
  gk_of (by decide) rfl (Nat.le_of_ble_eq_true rfl) (fun p e s m below meth c A ls C h hl => w_X5_copy_0 C hm (fun v0 v1 v2 v3 v4 ez => by cases ez; rfl) h (show lv_has ls 8 [(0, .ref a0), (1, .int x1), (2, .int x2), (3, .int x3), (4, .int x4), (5, .int x5)] from hl))

