/-! ===== the constructors ===== -/
def gn_k0 : Nat → Int32 := fa_fill (fun _ => -1) (fun _ => 0) 6
theorem gn_fill0 : m_J7_fill_53178 6 (fun _ => 0) (-1 : Int32) = some gn_k0 := v_fillI (by omega) _ _
/-! ===== ExchangeFamilies$Table.<init> ===== -/
abbrev rm_X4_init : Room := { frames := 1, cells := 1, slots := 36, locals := 64 }
theorem k_X4_init_0 : Cond.methodLink RX4 3 objectInit ∈ wsX4_init := by decide +kernel
theorem k_X4_init_1 : Cond.instanceMethod objectInit ∈ wsX4_init := by decide +kernel
theorem k_X4_init_2 : Cond.code objectInit ⟨#[0xb1]⟩ 1 none ∈ wsX4_init := List.mem_of_getElem? (i := 3) rfl
theorem k_X4_init_3 : Cond.arrayClass .int ∈ wsX4_init := by decide +kernel
theorem k_X4_init_4 : Cond.fieldLink RX4 9 "ExchangeFamilies$Table" "entries" "[I" ∈ wsX4_init := by decide +kernel
theorem k_X4_init_5 : ∀ w ∈ u_ws RX4 TX4 1, w ∈ wsX4_init := by decide +kernel
set_option maxRecDepth 100000 in
set_option maxHeartbeats 4000000 in
theorem c_X4_init (l : Launch) (G : gk_G) (a0 : Nat) : gn_M l yX4_init wsX4_init rm_X4_init false false G [.ref a0] [(a0, .inr (3, [.null]))] (fun w => ∃ q1 : Nat, w = [(a0, .inr (3, [.ref q1])), (q1, gk_I G 36 (fun _ => 0))]) 1 36 :=
  gn_of (by decide) rfl (Nat.le_of_ble_eq_true rfl) (fun p e s m below meth c A ls C hr hin hlk h hl => by
    have C : gn_C p s m #[.ref a0] c cX4_init 1 RX4 wsX4_init false false G A := C
    obtain ⟨hx, hb, hml, hown, hts, hK, hSt, hO, hA⟩ := id C
    have hin : meth.name = "<init>" := hin
    have hl : lv_has ls 1 [(0, .ref a0)] := hl
    have h : gk_H G A s [(a0, .inr (3, [.null]))] s.heap [] := h
    obtain ⟨hP, hD, hS⟩ := h
    refine lv_aload_n hx hb dX4_init_0 rfl (lv_at hl 0 rfl) ?_
    refine W.objInit hx hb hown (hts _ k_X4_init_0) (hts _ k_X4_init_1) (hts _ k_X4_init_2) rfl (by rw [hml]; exact hl.1) rfl dX4_init_1 (Nat.le_of_ble_eq_true rfl) (Nat.le_of_ble_eq_true rfl) ?_
    refine W.eq (g2 := F0 m 4 ls []) rfl ?_
    refine lv_aload_n hx hb dX4_init_4 rfl (lv_at hl 0 rfl) ?_
    refine lv_bipush (v := 36) hx hb dX4_init_5 (by decide) ?_
    refine gn_newI (N := 36) C ⟨hP, hD, hS⟩ k_X4_init_3 (by decide) (by decide) (Nat.le_of_ble_eq_true rfl) (Nat.le_of_ble_eq_true rfl) (Nat.le_of_ble_eq_true rfl) dX4_init_7 (fun q1 H h => ?_)
    obtain ⟨hP, hD, hS⟩ := h
    have hP : va_P G.1 vwCl [(a0, .inr (3, [.null])), (q1, gk_I G 36 (fun _ => 0))] H := hP
    have hD : va_D A [(a0, .inr (3, [.null])), (q1, gk_I G 36 (fun _ => 0))] := hD
    refine W.widen (k := 1) (n := 36) (Nat.le_of_ble_eq_true rfl) (Nat.le_of_ble_eq_true rfl) ?_
    refine va_putF (D := G.1) (cl := vwCl) (own := RX4) (ref := "ExchangeFamilies$Table") (ci := 3) (v := .ref q1) (ty := .array .int) (C := RX4) (T := TX4) (N := 1) hx hb hts k_X4_init_5 tyX4 tyX4_ok nmX4 hown hK hP hD hS 0 rfl rfl 0 (by decide) (hts _ k_X4_init_4) (fun _ h9 => h9) rfl hin rfl (by decide +kernel) rfl rfl (Nat.le_of_ble_eq_true rfl) dX4_init_9 (fun H locs hP hD hS => ?_)
    have hP : va_P G.1 vwCl [(a0, .inr (3, [.ref q1])), (q1, gk_I G 36 (fun _ => 0))] H := hP
    have hD : va_D A [(a0, .inr (3, [.ref q1])), (q1, gk_I G 36 (fun _ => 0))] := hD
    exact gn_vret hx hb hr hlk ⟨hP, hD, hS⟩ ⟨q1, rfl⟩ dX4_init_12)

/-! ===== ExchangeFamilies$Numbers.<init> ===== -/
abbrev rm_X2_init : Room := { frames := 1, cells := 1, slots := 80, locals := 64 }
theorem k_X2_init_0 : Cond.methodLink RX2 3 objectInit ∈ wsX2_init := by decide +kernel
theorem k_X2_init_1 : Cond.instanceMethod objectInit ∈ wsX2_init := by decide +kernel
theorem k_X2_init_2 : Cond.code objectInit ⟨#[0xb1]⟩ 1 none ∈ wsX2_init := List.mem_of_getElem? (i := 3) rfl
theorem k_X2_init_3 : Cond.fieldLink RX2 9 "ExchangeFamilies$Numbers" "sort" "I" ∈ wsX2_init := by decide +kernel
theorem k_X2_init_4 : ∀ w ∈ u_ws RX2 TX2 3, w ∈ wsX2_init := by decide +kernel
theorem k_X2_init_5 : Cond.fieldLink RX2 15 "ExchangeFamilies$Numbers" "size" "I" ∈ wsX2_init := by decide +kernel
theorem k_X2_init_6 : Cond.arrayClass .long ∈ wsX2_init := by decide +kernel
theorem k_X2_init_7 : Cond.fieldLink RX2 18 "ExchangeFamilies$Numbers" "values" "[J" ∈ wsX2_init := by decide +kernel
set_option maxRecDepth 100000 in
set_option maxHeartbeats 4000000 in
theorem c_X2_init (l : Launch) (G : gk_G) (a0 : Nat) : gn_M l yX2_init wsX2_init rm_X2_init false false G [.ref a0] [(a0, .inr (1, [.int 0, .int 0, .null]))] (fun w => ∃ q1 : Nat, w = [(a0, .inr (1, [.int (-1), .int 0, .ref q1])), (q1, gk_J G 80 (fun _ => 0))]) 1 80 :=
  gn_of (by decide) rfl (Nat.le_of_ble_eq_true rfl) (fun p e s m below meth c A ls C hr hin hlk h hl => by
    have C : gn_C p s m #[.ref a0] c cX2_init 1 RX2 wsX2_init false false G A := C
    obtain ⟨hx, hb, hml, hown, hts, hK, hSt, hO, hA⟩ := id C
    have hin : meth.name = "<init>" := hin
    have hl : lv_has ls 1 [(0, .ref a0)] := hl
    have h : gk_H G A s [(a0, .inr (1, [.int 0, .int 0, .null]))] s.heap [] := h
    obtain ⟨hP, hD, hS⟩ := h
    refine lv_aload_n hx hb dX2_init_0 rfl (lv_at hl 0 rfl) ?_
    refine W.objInit hx hb hown (hts _ k_X2_init_0) (hts _ k_X2_init_1) (hts _ k_X2_init_2) rfl (by rw [hml]; exact hl.1) rfl dX2_init_1 (Nat.le_of_ble_eq_true rfl) (Nat.le_of_ble_eq_true rfl) ?_
    refine W.eq (g2 := F0 m 4 ls []) rfl ?_
    refine lv_aload_n hx hb dX2_init_4 rfl (lv_at hl 0 rfl) ?_
    refine lv_iconst (v := -1) hx hb dX2_init_5 (by decide) ?_
    refine va_put (D := G.1) (cl := vwCl) (own := RX2) (ref := "ExchangeFamilies$Numbers") (ci := 1) (v := .int (-1)) (ty := .int) (C := RX2) (T := TX2) (N := 3) hx hb hts k_X2_init_4 tyX2 tyX2_ok nmX2 hown hK hP hD hS 0 rfl rfl 0 (by decide) (hts _ k_X2_init_3) (fun _ h9 => h9) rfl (by decide +kernel) rfl rfl (Nat.le_of_ble_eq_true rfl) dX2_init_6 (fun H locs hP hD hS => ?_)
    have hP : va_P G.1 vwCl [(a0, .inr (1, [.int (-1), .int 0, .null]))] H := hP
    have hD : va_D A [(a0, .inr (1, [.int (-1), .int 0, .null]))] := hD
    refine lv_aload_n hx hb dX2_init_9 rfl (lv_at hl 0 rfl) ?_
    refine lv_iconst (v := 0) hx hb dX2_init_10 (by decide) ?_
    refine va_put (D := G.1) (cl := vwCl) (own := RX2) (ref := "ExchangeFamilies$Numbers") (ci := 1) (v := .int 0) (ty := .int) (C := RX2) (T := TX2) (N := 3) hx hb hts k_X2_init_4 tyX2 tyX2_ok nmX2 hown hK hP hD hS 0 rfl rfl 1 (by decide) (hts _ k_X2_init_5) (fun _ h9 => h9) rfl (by decide +kernel) rfl rfl (Nat.le_of_ble_eq_true rfl) dX2_init_11 (fun H locs hP hD hS => ?_)
    have hP : va_P G.1 vwCl [(a0, .inr (1, [.int (-1), .int 0, .null]))] H := hP
    have hD : va_D A [(a0, .inr (1, [.int (-1), .int 0, .null]))] := hD
    refine lv_aload_n hx hb dX2_init_14 rfl (lv_at hl 0 rfl) ?_
    refine lv_bipush (v := 80) hx hb dX2_init_15 (by decide) ?_
    refine gn_newJ (N := 80) C ⟨hP, hD, hS⟩ k_X2_init_6 (by decide) (by decide) (Nat.le_of_ble_eq_true rfl) (Nat.le_of_ble_eq_true rfl) (Nat.le_of_ble_eq_true rfl) dX2_init_17 (fun q1 H h => ?_)
    obtain ⟨hP, hD, hS⟩ := h
    have hP : va_P G.1 vwCl [(a0, .inr (1, [.int (-1), .int 0, .null])), (q1, gk_J G 80 (fun _ => 0))] H := hP
    have hD : va_D A [(a0, .inr (1, [.int (-1), .int 0, .null])), (q1, gk_J G 80 (fun _ => 0))] := hD
    refine W.widen (k := 1) (n := 80) (Nat.le_of_ble_eq_true rfl) (Nat.le_of_ble_eq_true rfl) ?_
    refine va_putF (D := G.1) (cl := vwCl) (own := RX2) (ref := "ExchangeFamilies$Numbers") (ci := 1) (v := .ref q1) (ty := .array .long) (C := RX2) (T := TX2) (N := 3) hx hb hts k_X2_init_4 tyX2 tyX2_ok nmX2 hown hK hP hD hS 0 rfl rfl 2 (by decide) (hts _ k_X2_init_7) (fun _ h9 => h9) rfl hin rfl (by decide +kernel) rfl rfl (Nat.le_of_ble_eq_true rfl) dX2_init_19 (fun H locs hP hD hS => ?_)
    have hP : va_P G.1 vwCl [(a0, .inr (1, [.int (-1), .int 0, .ref q1])), (q1, gk_J G 80 (fun _ => 0))] H := hP
    have hD : va_D A [(a0, .inr (1, [.int (-1), .int 0, .ref q1])), (q1, gk_J G 80 (fun _ => 0))] := hD
    exact gn_vret hx hb hr hlk ⟨hP, hD, hS⟩ ⟨q1, rfl⟩ dX2_init_22)

/-! ===== ExchangeFamilies$Ground.<init> ===== -/
abbrev rm_X1_init : Room := { frames := 8, cells := 5, slots := 55, locals := 500 }
theorem k_X1_init_0 : Cond.methodLink RX1 3 objectInit ∈ wsX1_init := by decide +kernel
theorem k_X1_init_1 : Cond.instanceMethod objectInit ∈ wsX1_init := by decide +kernel
theorem k_X1_init_2 : Cond.code objectInit ⟨#[0xb1]⟩ 1 none ∈ wsX1_init := List.mem_of_getElem? (i := 3) rfl
theorem k_X1_init_3 : Cond.fieldLink RX1 9 "ExchangeFamilies$Ground" "n" "I" ∈ wsX1_init := by decide +kernel
theorem k_X1_init_4 : ∀ w ∈ u_ws RX1 TX1 5, w ∈ wsX1_init := by decide +kernel
theorem k_X1_init_5 : Cond.arrayClass .long ∈ wsX1_init := by decide +kernel
theorem k_X1_init_6 : Cond.fieldLink RX1 15 "ExchangeFamilies$Ground" "members" "[J" ∈ wsX1_init := by decide +kernel
theorem k_X1_init_7 : Cond.arrayClass .int ∈ wsX1_init := by decide +kernel
theorem k_X1_init_8 : Cond.fieldLink RX1 19 "ExchangeFamilies$Ground" "kinds" "[I" ∈ wsX1_init := by decide +kernel
theorem k_X1_init_9 : Cond.fieldLink RX1 23 "ExchangeFamilies$Ground" "weights" "[I" ∈ wsX1_init := by decide +kernel
theorem k_X1_init_10 : ∀ w ∈ u_ws RX4 TX4 1, w ∈ wsX1_init := by decide +kernel
theorem k_X1_init_11 : Cond.classLink RX1 26 RX4 ∈ wsX1_init := by decide +kernel
theorem k_X1_init_12 : Cond.instantiable RX4 1 ∈ wsX1_init := by decide +kernel
theorem k_X1_init_13 : Cond.initialized RX4 ∈ wsX1_init := by decide +kernel
theorem k_X1_init_14 : Cond.instanceMethod yX4_init ∈ wsX1_init := by decide +kernel
theorem k_X1_init_15 : Cond.fieldLink RX1 29 "ExchangeFamilies$Ground" "table" "LExchangeFamilies$Table;" ∈ wsX1_init := by decide +kernel
set_option maxRecDepth 100000 in
set_option maxHeartbeats 4000000 in
theorem c_X1_init (l : Launch) (G : gk_G) (a0 : Nat) : gn_M l yX1_init wsX1_init rm_X1_init false true G [.ref a0] [(a0, .inr (0, [.int 0, .null, .null, .null, .null]))] (fun w => ∃ q1 q2 q3 q4 q5 : Nat, w = [(a0, .inr (0, [.int 4, .ref q1, .ref q2, .ref q3, .ref q4])), (q1, gk_J G 6 (fun _ => 0)), (q2, gk_I G 6 gn_k0), (q3, gk_I G 6 (fun _ => 0)), (q4, .inr (3, [.ref q5])), (q5, gk_I G 36 (fun _ => 0))]) 5 55 :=
  gn_of (by decide) rfl (Nat.le_of_ble_eq_true rfl) (fun p e s m below meth c A ls C hr hin hlk h hl => by
    have C : gn_C p s m #[.ref a0] c cX1_init 1 RX1 wsX1_init false true G A := C
    obtain ⟨hx, hb, hml, hown, hts, hK, hSt, hO, hA⟩ := id C
    obtain ⟨-, -, -, n1, n2, n3, n4, n5, n6, n7⟩ := hSt rfl
    have hin : meth.name = "<init>" := hin
    have hl : lv_has ls 1 [(0, .ref a0)] := hl
    have h : gk_H G A s [(a0, .inr (0, [.int 0, .null, .null, .null, .null]))] s.heap [] := h
    obtain ⟨hP, hD, hS⟩ := h
    refine lv_aload_n hx hb dX1_init_0 rfl (lv_at hl 0 rfl) ?_
    refine W.objInit hx hb hown (hts _ k_X1_init_0) (hts _ k_X1_init_1) (hts _ k_X1_init_2) rfl (by rw [hml]; exact hl.1) rfl dX1_init_1 (Nat.le_of_ble_eq_true rfl) (Nat.le_of_ble_eq_true rfl) ?_
    refine W.eq (g2 := F0 m 4 ls []) rfl ?_
    refine lv_aload_n hx hb dX1_init_4 rfl (lv_at hl 0 rfl) ?_
    refine lv_iconst (v := 4) hx hb dX1_init_5 (by decide) ?_
    refine va_put (D := G.1) (cl := vwCl) (own := RX1) (ref := "ExchangeFamilies$Ground") (ci := 0) (v := .int 4) (ty := .int) (C := RX1) (T := TX1) (N := 5) hx hb hts k_X1_init_4 tyX1 tyX1_ok nmX1 hown hK hP hD hS 0 rfl rfl 0 (by decide) (hts _ k_X1_init_3) (fun _ h9 => h9) rfl (by decide +kernel) rfl rfl (Nat.le_of_ble_eq_true rfl) dX1_init_6 (fun H locs hP hD hS => ?_)
    have hP : va_P G.1 vwCl [(a0, .inr (0, [.int 4, .null, .null, .null, .null]))] H := hP
    have hD : va_D A [(a0, .inr (0, [.int 4, .null, .null, .null, .null]))] := hD
    refine lv_aload_n hx hb dX1_init_9 rfl (lv_at hl 0 rfl) ?_
    refine lv_bipush (v := 6) hx hb dX1_init_10 (by decide) ?_
    refine gn_newJ (N := 6) C ⟨hP, hD, hS⟩ k_X1_init_5 (by decide) (by decide) (Nat.le_of_ble_eq_true rfl) (Nat.le_of_ble_eq_true rfl) (Nat.le_of_ble_eq_true rfl) dX1_init_12 (fun q1 H h => ?_)
    obtain ⟨hP, hD, hS⟩ := h
    have hP : va_P G.1 vwCl [(a0, .inr (0, [.int 4, .null, .null, .null, .null])), (q1, gk_J G 6 (fun _ => 0))] H := hP
    have hD : va_D A [(a0, .inr (0, [.int 4, .null, .null, .null, .null])), (q1, gk_J G 6 (fun _ => 0))] := hD
    refine W.widen (k := 1) (n := 6) (Nat.le_of_ble_eq_true rfl) (Nat.le_of_ble_eq_true rfl) ?_
    refine va_putF (D := G.1) (cl := vwCl) (own := RX1) (ref := "ExchangeFamilies$Ground") (ci := 0) (v := .ref q1) (ty := .array .long) (C := RX1) (T := TX1) (N := 5) hx hb hts k_X1_init_4 tyX1 tyX1_ok nmX1 hown hK hP hD hS 0 rfl rfl 1 (by decide) (hts _ k_X1_init_6) (fun _ h9 => h9) rfl hin rfl (by decide +kernel) rfl rfl (Nat.le_of_ble_eq_true rfl) dX1_init_14 (fun H locs hP hD hS => ?_)
    have hP : va_P G.1 vwCl [(a0, .inr (0, [.int 4, .ref q1, .null, .null, .null])), (q1, gk_J G 6 (fun _ => 0))] H := hP
    have hD : va_D A [(a0, .inr (0, [.int 4, .ref q1, .null, .null, .null])), (q1, gk_J G 6 (fun _ => 0))] := hD
    refine lv_aload_n hx hb dX1_init_17 rfl (lv_at hl 0 rfl) ?_
    refine lv_bipush (v := 6) hx hb dX1_init_18 (by decide) ?_
    refine gn_newI (N := 6) C ⟨hP, hD, hS⟩ k_X1_init_7 (by decide) (by decide) (Nat.le_of_ble_eq_true rfl) (Nat.le_of_ble_eq_true rfl) (Nat.le_of_ble_eq_true rfl) dX1_init_20 (fun q2 H h => ?_)
    obtain ⟨hP, hD, hS⟩ := h
    have hP : va_P G.1 vwCl [(a0, .inr (0, [.int 4, .ref q1, .null, .null, .null])), (q1, gk_J G 6 (fun _ => 0)), (q2, gk_I G 6 (fun _ => 0))] H := hP
    have hD : va_D A [(a0, .inr (0, [.int 4, .ref q1, .null, .null, .null])), (q1, gk_J G 6 (fun _ => 0)), (q2, gk_I G 6 (fun _ => 0))] := hD
    refine W.widen (k := 2) (n := 12) (Nat.le_of_ble_eq_true rfl) (Nat.le_of_ble_eq_true rfl) ?_
    refine va_putF (D := G.1) (cl := vwCl) (own := RX1) (ref := "ExchangeFamilies$Ground") (ci := 0) (v := .ref q2) (ty := .array .int) (C := RX1) (T := TX1) (N := 5) hx hb hts k_X1_init_4 tyX1 tyX1_ok nmX1 hown hK hP hD hS 0 rfl rfl 2 (by decide) (hts _ k_X1_init_8) (fun _ h9 => h9) rfl hin rfl (by decide +kernel) rfl rfl (Nat.le_of_ble_eq_true rfl) dX1_init_22 (fun H locs hP hD hS => ?_)
    have hP : va_P G.1 vwCl [(a0, .inr (0, [.int 4, .ref q1, .ref q2, .null, .null])), (q1, gk_J G 6 (fun _ => 0)), (q2, gk_I G 6 (fun _ => 0))] H := hP
    have hD : va_D A [(a0, .inr (0, [.int 4, .ref q1, .ref q2, .null, .null])), (q1, gk_J G 6 (fun _ => 0)), (q2, gk_I G 6 (fun _ => 0))] := hD
    refine lv_aload_n hx hb dX1_init_25 rfl (lv_at hl 0 rfl) ?_
    refine lv_bipush (v := 6) hx hb dX1_init_26 (by decide) ?_
    refine gn_newI (N := 6) C ⟨hP, hD, hS⟩ k_X1_init_7 (by decide) (by decide) (Nat.le_of_ble_eq_true rfl) (Nat.le_of_ble_eq_true rfl) (Nat.le_of_ble_eq_true rfl) dX1_init_28 (fun q3 H h => ?_)
    obtain ⟨hP, hD, hS⟩ := h
    have hP : va_P G.1 vwCl [(a0, .inr (0, [.int 4, .ref q1, .ref q2, .null, .null])), (q1, gk_J G 6 (fun _ => 0)), (q2, gk_I G 6 (fun _ => 0)), (q3, gk_I G 6 (fun _ => 0))] H := hP
    have hD : va_D A [(a0, .inr (0, [.int 4, .ref q1, .ref q2, .null, .null])), (q1, gk_J G 6 (fun _ => 0)), (q2, gk_I G 6 (fun _ => 0)), (q3, gk_I G 6 (fun _ => 0))] := hD
    refine W.widen (k := 3) (n := 18) (Nat.le_of_ble_eq_true rfl) (Nat.le_of_ble_eq_true rfl) ?_
    refine va_putF (D := G.1) (cl := vwCl) (own := RX1) (ref := "ExchangeFamilies$Ground") (ci := 0) (v := .ref q3) (ty := .array .int) (C := RX1) (T := TX1) (N := 5) hx hb hts k_X1_init_4 tyX1 tyX1_ok nmX1 hown hK hP hD hS 0 rfl rfl 3 (by decide) (hts _ k_X1_init_9) (fun _ h9 => h9) rfl hin rfl (by decide +kernel) rfl rfl (Nat.le_of_ble_eq_true rfl) dX1_init_30 (fun H locs hP hD hS => ?_)
    have hP : va_P G.1 vwCl [(a0, .inr (0, [.int 4, .ref q1, .ref q2, .ref q3, .null])), (q1, gk_J G 6 (fun _ => 0)), (q2, gk_I G 6 (fun _ => 0)), (q3, gk_I G 6 (fun _ => 0))] H := hP
    have hD : va_D A [(a0, .inr (0, [.int 4, .ref q1, .ref q2, .ref q3, .null])), (q1, gk_J G 6 (fun _ => 0)), (q2, gk_I G 6 (fun _ => 0)), (q3, gk_I G 6 (fun _ => 0))] := hD
    refine lv_aload_n hx hb dX1_init_33 rfl (lv_at hl 0 rfl) ?_
    refine va_new (D := G.1) (cl := vwCl) (ci := 3) (fs := [.null]) (C := RX4) (T := TX4) (N := 1) hx hb hts k_X1_init_10 tyX4 tyX4_ok hown (hts _ k_X1_init_11) (hts _ k_X1_init_12) (hts _ k_X1_init_13) hK hP hD hS hA rfl (fun j hj => by rcases (show j = 0 by omega) with rfl <;> rfl) (Nat.le_of_ble_eq_true rfl) (Nat.le_of_ble_eq_true rfl) dX1_init_34 (fun q4 H hP hD hS => ?_)
    have hP : va_P G.1 vwCl [(a0, .inr (0, [.int 4, .ref q1, .ref q2, .ref q3, .null])), (q1, gk_J G 6 (fun _ => 0)), (q2, gk_I G 6 (fun _ => 0)), (q3, gk_I G 6 (fun _ => 0)), (q4, .inr (3, [.null]))] H := hP
    have hD : va_D A [(a0, .inr (0, [.int 4, .ref q1, .ref q2, .ref q3, .null])), (q1, gk_J G 6 (fun _ => 0)), (q2, gk_I G 6 (fun _ => 0)), (q3, gk_I G 6 (fun _ => 0)), (q4, .inr (3, [.null]))] := hD
    refine W.widen (k := 4) (n := 19) (Nat.le_of_ble_eq_true rfl) (Nat.le_of_ble_eq_true rfl) ?_
    refine lv_dup hx hb dX1_init_37 rfl ?_
    refine gn_callIN (bytes := cX4_init) (maxL := 1) [(a0, .inr (0, [.int 4, .ref q1, .ref q2, .ref q3, .null])), (q1, gk_J G 6 (fun _ => 0)), (q2, gk_I G 6 (fun _ => 0)), (q3, gk_I G 6 (fun _ => 0))] [.ref q4, .ref a0] C ⟨hP, hD, hS⟩ (c_X4_init l G q4) ggX1_init_X4_init k_X1_init_13 n7 k_X1_init_14 dX1_init_38 hl.1 ⟨Nat.le_of_ble_eq_true rfl, Nat.le_of_ble_eq_true rfl⟩ [4] [0, 1, 2, 3] rfl ⟨rfl, rfl⟩ ⟨Nat.le_of_ble_eq_true rfl, Nat.le_of_ble_eq_true rfl⟩ rfl ⟨by decide +kernel, by decide +kernel, by decide +kernel⟩ (fun h => by cases h) (fun h => by cases h) (Nat.le_of_ble_eq_true rfl) rfl rfl rfl rfl (by decide) (fun w1 H locs hpo h => ?_)
    obtain ⟨q5, rfl⟩ := hpo
    obtain ⟨hP, hD, hS⟩ := h
    have hP : va_P G.1 vwCl [(a0, .inr (0, [.int 4, .ref q1, .ref q2, .ref q3, .null])), (q1, gk_J G 6 (fun _ => 0)), (q2, gk_I G 6 (fun _ => 0)), (q3, gk_I G 6 (fun _ => 0)), (q4, .inr (3, [.ref q5])), (q5, gk_I G 36 (fun _ => 0))] H := hP
    have hD : va_D A [(a0, .inr (0, [.int 4, .ref q1, .ref q2, .ref q3, .null])), (q1, gk_J G 6 (fun _ => 0)), (q2, gk_I G 6 (fun _ => 0)), (q3, gk_I G 6 (fun _ => 0)), (q4, .inr (3, [.ref q5])), (q5, gk_I G 36 (fun _ => 0))] := hD
    refine W.widen (k := 5) (n := 55) (Nat.le_of_ble_eq_true rfl) (Nat.le_of_ble_eq_true rfl) ?_
    refine va_putF (D := G.1) (cl := vwCl) (own := RX1) (ref := "ExchangeFamilies$Ground") (ci := 0) (v := .ref q4) (ty := .object "ExchangeFamilies$Table") (C := RX1) (T := TX1) (N := 5) hx hb hts k_X1_init_4 tyX1 tyX1_ok nmX1 hown hK hP hD hS 0 rfl rfl 4 (by decide) (hts _ k_X1_init_15) (fun _ h9 => h9) rfl hin rfl (by decide +kernel) rfl rfl (Nat.le_of_ble_eq_true rfl) dX1_init_41 (fun H locs hP hD hS => ?_)
    have hP : va_P G.1 vwCl [(a0, .inr (0, [.int 4, .ref q1, .ref q2, .ref q3, .ref q4])), (q1, gk_J G 6 (fun _ => 0)), (q2, gk_I G 6 (fun _ => 0)), (q3, gk_I G 6 (fun _ => 0)), (q4, .inr (3, [.ref q5])), (q5, gk_I G 36 (fun _ => 0))] H := hP
    have hD : va_D A [(a0, .inr (0, [.int 4, .ref q1, .ref q2, .ref q3, .ref q4])), (q1, gk_J G 6 (fun _ => 0)), (q2, gk_I G 6 (fun _ => 0)), (q3, gk_I G 6 (fun _ => 0)), (q4, .inr (3, [.ref q5])), (q5, gk_I G 36 (fun _ => 0))] := hD
    refine lv_aload_n hx hb dX1_init_44 rfl (lv_at hl 0 rfl) ?_
    refine va_get (D := G.1) (cl := vwCl) (own := RX1) (ref := "ExchangeFamilies$Ground") (ci := 0) (v := .ref q2) (C := RX1) (T := TX1) (N := 5) hx hb hts k_X1_init_4 hown hK hP 0 rfl rfl 2 (by decide) (hts _ k_X1_init_8) (fun _ h9 => h9) rfl dX1_init_45 ?_
    refine lv_iconst (v := -1) hx hb dX1_init_48 (by decide) ?_
    refine gn_callS (n := 2) (bytes := cJ7_fill_53178) (maxL := 4) (ret := none) [(a0, .inr (0, [.int 4, .ref q1, .ref q2, .ref q3, .ref q4])), (q1, gk_J G 6 (fun _ => 0)), (q3, gk_I G 6 (fun _ => 0)), (q4, .inr (3, [.ref q5])), (q5, gk_I G 36 (fun _ => 0))] [(a0, .inr (0, [.int 4, .ref q1, .ref q2, .ref q3, .ref q4])), (q1, gk_J G 6 (fun _ => 0)), (q2, gk_I G 6 gn_k0), (q3, gk_I G 6 (fun _ => 0)), (q4, .inr (3, [.ref q5])), (q5, gk_I G 36 (fun _ => 0))] [] C ⟨hP, hD, hS⟩ (c_J7_fill_53178 l G q2 6 (fun _ => 0) (-1 : Int32) gn_fill0) gX1_init_J7_fill_53178 dX1_init_49 hl.1 ⟨Nat.le_of_ble_eq_true rfl, Nat.le_of_ble_eq_true rfl⟩ [2] [0, 1, 3, 4, 5] [0, 1, 5, 2, 3, 4] rfl ⟨rfl, rfl⟩ ⟨Nat.le_of_ble_eq_true rfl, Nat.le_of_ble_eq_true rfl⟩ ⟨by decide +kernel, by decide +kernel, by decide +kernel⟩ rfl (fun h => by cases h) (Nat.le_of_ble_eq_true rfl) rfl rfl rfl rfl (by decide) rfl rfl (fun H locs h => ?_)
    obtain ⟨hP, hD, hS⟩ := h
    have hP : va_P G.1 vwCl [(a0, .inr (0, [.int 4, .ref q1, .ref q2, .ref q3, .ref q4])), (q1, gk_J G 6 (fun _ => 0)), (q2, gk_I G 6 gn_k0), (q3, gk_I G 6 (fun _ => 0)), (q4, .inr (3, [.ref q5])), (q5, gk_I G 36 (fun _ => 0))] H := hP
    have hD : va_D A [(a0, .inr (0, [.int 4, .ref q1, .ref q2, .ref q3, .ref q4])), (q1, gk_J G 6 (fun _ => 0)), (q2, gk_I G 6 gn_k0), (q3, gk_I G 6 (fun _ => 0)), (q4, .inr (3, [.ref q5])), (q5, gk_I G 36 (fun _ => 0))] := hD
    have h := gk_H.sub ⟨hP, hD, hS⟩ [0, 1, 2, 3, 4, 5] [(a0, .inr (0, [.int 4, .ref q1, .ref q2, .ref q3, .ref q4])), (q1, gk_J G 6 (fun _ => 0)), (q2, gk_I G 6 gn_k0), (q3, gk_I G 6 (fun _ => 0)), (q4, .inr (3, [.ref q5])), (q5, gk_I G 36 (fun _ => 0))] rfl rfl
    obtain ⟨hP, hD, hS⟩ := h
    exact gn_vret hx hb hr hlk ⟨hP, hD, hS⟩ ⟨q1, q2, q3, q4, q5, rfl⟩ dX1_init_52)
