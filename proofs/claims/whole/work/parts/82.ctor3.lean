/-! ===== ExchangeFamilies$Sums.<init> ===== -/
abbrev rm_X3_init : Room := { frames := 3, cells := 2, slots := 128, locals := 200 }
theorem k_X3_init_0 : Cond.methodLink RX3 3 objectInit ∈ wsX3_init := by decide +kernel
theorem k_X3_init_1 : Cond.instanceMethod objectInit ∈ wsX3_init := by decide +kernel
theorem k_X3_init_2 : Cond.code objectInit ⟨#[0xb1]⟩ 1 none ∈ wsX3_init := List.mem_of_getElem? (i := 3) rfl
theorem k_X3_init_3 : Cond.fieldLink RX3 9 "ExchangeFamilies$Sums" "n" "I" ∈ wsX3_init := by decide +kernel
theorem k_X3_init_4 : ∀ w ∈ u_ws RX3 TX3 3, w ∈ wsX3_init := by decide +kernel
theorem k_X3_init_5 : Cond.arrayClass .long ∈ wsX3_init := by decide +kernel
theorem k_X3_init_6 : Cond.fieldLink RX3 15 "ExchangeFamilies$Sums" "boths" "[J" ∈ wsX3_init := by decide +kernel
theorem k_X3_init_7 : Cond.arrayClass .int ∈ wsX3_init := by decide +kernel
theorem k_X3_init_8 : Cond.fieldLink RX3 19 "ExchangeFamilies$Sums" "ternary" "[I" ∈ wsX3_init := by decide +kernel
theorem k_X3_ws : ∀ w ∈ u_ws RX3 TX3 3, w ∈ wsX3_init := by decide +kernel
theorem k_X3_te : Cond.fieldLink RX3 19 "ExchangeFamilies$Sums" "ternary" "[I" ∈ wsX3_init := by decide +kernel
section X3L
variable {p : Program} {l : Launch} {e : Env} {s : State} {m : MethodId} {below : List Frame} {meth : Method} {c : Code} {G : gk_G} {A : Nat → Prop} {a0 q1 q2 : Nat}
theorem x3_tern {i p : Nat} (hi : i < 64) (hp : p < 6) : ternI i p + 3 ^ p < 2 ^ 31 :=
  (by decide +kernel : ∀ i, i < 64 → ∀ p, p < 6 → ternI i p + 3 ^ p < 2 ^ 31) i hi p hp
set_option maxRecDepth 100000 in
set_option maxHeartbeats 4000000 in
theorem x3_inner {Q : State → Prop} (C : gn_C p s m #[.ref a0] c cX3_init 3 RX3 wsX3_init false false G A) {i : Nat} (hi : i < 64) : ∀ (d j : Nat), j + d = 6 → ∀ (T : Nat → Int32), T i = nI (ternI i j) → ∀ (H : Heap) (locs : List Loc) (ls : Array Slot), gk_H G A s [(a0, .inr (2, [.int 4, .ref q1, .ref q2])), (q1, gk_J G 64 (fun _ => 0)), (q2, gk_I G 64 T)] H locs → lv_has ls 3 [(0, .ref a0), (1, .int (nI i)), (2, .int (nI j))] → (∀ (T' : Nat → Int32) (H : Heap) (locs : List Loc) (ls : Array Slot), T' i = nI (tern i) → (∀ k, k ≠ i → T' k = T k) → gk_H G A s [(a0, .inr (2, [.int 4, .ref q1, .ref q2])), (q1, gk_J G 64 (fun _ => 0)), (q2, gk_I G 64 T')] H locs → lv_has ls 3 [(0, .ref a0), (1, .int (nI i))] → W p l e rm_X3_init s m #[.ref a0] below meth c H locs 2 128 Q (F0 m 68 ls [])) → W p l e rm_X3_init s m #[.ref a0] below meth c H locs 2 128 Q (F0 m 35 ls []) := by
  obtain ⟨hx, hb, hml, hown, hts, hK, hSt, hO, hA⟩ := id C
  intro d
  induction d with
  | zero =>
    intro j hj T hT H locs ls h hl kx
    have ej : j = 6 := by omega
    subst ej
    refine lv_iload_n hx hb dX3_init_35 rfl (lv_at hl 2 rfl) ?_
    refine lv_bipush (v := 6) hx hb dX3_init_36 (by decide) ?_
    refine lv_icmp_ge (tgt := 68) hx hb dX3_init_38 (by decide) (fun c9 => ?_) (fun c9 => ?_)
    · exact kx T H locs ls hT (fun _ _ => rfl) h (lv_sub hl [0, 1] rfl)
    · exact absurd (by decide) c9
  | succ d ih =>
    intro j hj T hT H locs ls h hl kx
    have hj6 : j < 6 := by omega
    refine lv_iload_n hx hb dX3_init_35 rfl (lv_at hl 2 rfl) ?_
    refine lv_bipush (v := 6) hx hb dX3_init_36 (by decide) ?_
    refine lv_icmp_ge (tgt := 68) hx hb dX3_init_38 (by decide) (fun c9 => ?_) (fun c9 => ?_)
    · exact absurd c9 (gel 6 hj6)
    refine lv_iload_n hx hb dX3_init_41 rfl (lv_at hl 1 rfl) ?_
    refine lv_iload_n hx hb dX3_init_42 rfl (lv_at hl 2 rfl) ?_
    refine lv_ishr hx hb dX3_init_43 ?_
    refine lv_iconst (v := 1) hx hb dX3_init_44 (by decide) ?_
    refine lv_iand hx hb dX3_init_45 ?_
    refine lv_if_eq (tgt := 62) hx hb dX3_init_46 (by decide) (fun c10 => ?_) (fun c10 => ?_)
    · have hbit : i.testBit j = false := (bitI0 (show i < 2 ^ 31 by omega) (show j < 31 by omega)).mp c10
      refine lv_iinc (v := nI (j + 1)) (lv' := [(2, .int (nI (j + 1))), (0, .ref a0), (1, .int (nI i))]) hx hb dX3_init_62 hl (k := 2) rfl (nI_1 j) (by decide) rfl (fun ls hl => ?_)
      refine lv_goto (tgt := 35) hx hb dX3_init_65 (by decide) ?_
      refine ih (j + 1) (by omega) T ?_ H locs ls h (lv_sub hl [1, 2, 0] rfl) kx
      rw [hT]
      show nI (ternI i j) = nI (ternI i j + (if i.testBit j then 3 ^ j else 0))
      rw [hbit]
      rfl
    · have hbit : i.testBit j = true := by
        cases hq : i.testBit j with
        | true => rfl
        | false => exact absurd ((bitI0 (show i < 2 ^ 31 by omega) (show j < 31 by omega)).mpr hq) c10
      obtain ⟨hP, hD, hS⟩ := h
      refine lv_aload_n hx hb dX3_init_49 rfl (lv_at hl 0 rfl) ?_
      refine va_get (D := G.1) (cl := vwCl) (own := RX3) (ref := "ExchangeFamilies$Sums") (ci := 2) (v := .ref q2) (C := RX3) (T := TX3) (N := 3) hx hb hts k_X3_ws hown hK hP 0 rfl rfl 2 (by decide) (hts _ k_X3_te) (fun _ h9 => h9) rfl dX3_init_50 ?_
      refine lv_iload_n hx hb dX3_init_53 rfl (lv_at hl 1 rfl) ?_
      refine lv_dup2_11 hx hb dX3_init_54 rfl rfl ?_
      refine va_iald hx hb hK hP 2 0 rfl rfl (vp_in_nI hi (by omega)) dX3_init_55 ?_
      rw [nI_clamp (show i < 2 ^ 31 by omega), hT]
      refine lv_iload_n hx hb dX3_init_56 rfl (lv_at hl 2 rfl) ?_
      refine gn_callS (n := 1) (bytes := cX3_rowsOver) (maxL := 3) (ret := some .int) [(a0, .inr (2, [.int 4, .ref q1, .ref q2])), (q1, gk_J G 64 (fun _ => 0)), (q2, gk_I G 64 T)] [(a0, .inr (2, [.int 4, .ref q1, .ref q2])), (q1, gk_J G 64 (fun _ => 0)), (q2, gk_I G 64 T)] [.int (nI (ternI i j)), .int (nI i), .ref q2] C ⟨hP, hD, hS⟩ (c_X3_rowsOver l G (nI j) (v_over j (by omega))) gX3_init_X3_rowsOver dX3_init_57 hl.1 ⟨Nat.le_of_ble_eq_true rfl, Nat.le_of_ble_eq_true rfl⟩ [] [0, 1, 2] [0, 1, 2] rfl ⟨rfl, rfl⟩ ⟨Nat.le_of_ble_eq_true rfl, Nat.le_of_ble_eq_true rfl⟩ ⟨by decide +kernel, by decide +kernel, by decide +kernel⟩ rfl (fun h => by cases h) (Nat.le_of_ble_eq_true rfl) rfl rfl rfl rfl (by decide) rfl rfl (fun H locs h => ?_)
      obtain ⟨hP, hD, hS⟩ := h
      refine lv_iadd hx hb dX3_init_60 ?_
      refine va_iast hx hb hK hP hD hS 2 0 rfl rfl (i := nI i) (vp_in_nI hi (by omega)) dX3_init_61 (fun H locs hP hD hS => ?_)
      have hsum : nI (ternI i j) + nI (3 ^ j) = nI (ternI i (j + 1)) := by
        rw [nI_add]
        show nI (ternI i j + 3 ^ j) = nI (ternI i j + (if i.testBit j then 3 ^ j else 0))
        rw [hbit]
        rfl
      rw [nI_clamp (show i < 2 ^ 31 by omega), hsum] at hP hD
      refine lv_iinc (v := nI (j + 1)) (lv' := [(2, .int (nI (j + 1))), (0, .ref a0), (1, .int (nI i))]) hx hb dX3_init_62 hl (k := 2) rfl (nI_1 j) (by decide) rfl (fun ls hl => ?_)
      refine lv_goto (tgt := 35) hx hb dX3_init_65 (by decide) ?_
      refine ih (j + 1) (by omega) (upd T i (nI (ternI i (j + 1)))) pk_us H locs ls ⟨hP, hD, hS⟩ (lv_sub hl [1, 2, 0] rfl) (fun T' H locs ls h1 h2 h3 h4 => kx T' H locs ls h1 (fun k hk => by rw [h2 k hk, pk_un hk]) h3 h4)
set_option maxRecDepth 100000 in
set_option maxHeartbeats 4000000 in
theorem x3_outer (C : gn_C p s m #[.ref a0] c cX3_init 3 RX3 wsX3_init false false G A) (hr : meth.sig.returnType = none) (hin : meth.name = "<init>") (hlk : meth.locks = false) : ∀ (d i : Nat), i + d = 64 → ∀ (T : Nat → Int32), (∀ k, k < i → T k = nI (tern k)) → (∀ k, i ≤ k → T k = 0) → ∀ (H : Heap) (locs : List Loc) (ls : Array Slot), gk_H G A s [(a0, .inr (2, [.int 4, .ref q1, .ref q2])), (q1, gk_J G 64 (fun _ => 0)), (q2, gk_I G 64 T)] H locs → lv_has ls 3 [(0, .ref a0), (1, .int (nI i))] → W p l e rm_X3_init s m #[.ref a0] below meth c H locs 2 128 (MQ below (gn_Q G (fun w => ∃ (q1 q2 : Nat) (T : Nat → Int32), VS T ∧ w = [(a0, .inr (2, [.int 4, .ref q1, .ref q2])), (q1, gk_J G 64 (fun _ => 0)), (q2, gk_I G 64 T)]) A) #[.ref a0] s 2 128 A) (F0 m 27 ls []) := by
  obtain ⟨hx, hb, hml, hown, hts, hK, hSt, hO, hA⟩ := id C
  intro d
  induction d with
  | zero =>
    intro i hi T hT hz H locs ls h hl
    have ei : i = 64 := by omega
    subst ei
    refine lv_iload_n hx hb dX3_init_27 rfl (lv_at hl 1 rfl) ?_
    refine lv_bipush (v := 64) hx hb dX3_init_28 (by decide) ?_
    refine lv_icmp_ge (tgt := 74) hx hb dX3_init_30 (by decide) (fun c9 => ?_) (fun c9 => ?_)
    · exact gn_vret hx hb hr hlk h ⟨q1, q2, T, fun k hk => hT k hk, rfl⟩ dX3_init_74
    · exact absurd (by decide) c9
  | succ d ih =>
    intro i hi T hT hz H locs ls h hl
    have hi64 : i < 64 := by omega
    refine lv_iload_n hx hb dX3_init_27 rfl (lv_at hl 1 rfl) ?_
    refine lv_bipush (v := 64) hx hb dX3_init_28 (by decide) ?_
    refine lv_icmp_ge (tgt := 74) hx hb dX3_init_30 (by decide) (fun c9 => ?_) (fun c9 => ?_)
    · exact absurd c9 (gel 64 hi64)
    refine lv_iconst (v := 0) hx hb dX3_init_33 (by decide) ?_
    refine lv_istore_n (lv' := [(2, .int 0), (0, .ref a0), (1, .int (nI i))]) hx hb dX3_init_34 rfl hl (by decide) rfl (fun ls hl => ?_)
    refine x3_inner C hi64 6 0 (by omega) T (by rw [hz i (Nat.le_refl i)]; rfl) H locs ls h (lv_sub hl [1, 2, 0] rfl) (fun T' H locs ls h1 h2 h3 h4 => ?_)
    refine lv_iinc (v := nI (i + 1)) (lv' := [(1, .int (nI (i + 1))), (0, .ref a0)]) hx hb dX3_init_68 h4 (k := 1) rfl (nI_1 i) (by decide) rfl (fun ls hl => ?_)
    refine lv_goto (tgt := 27) hx hb dX3_init_71 (by decide) ?_
    refine ih (i + 1) (by omega) T' (fun k hk => ?_) (fun k hk => by rw [h2 k (by omega)]; exact hz k (by omega)) H locs ls h3 (lv_sub hl [1, 0] rfl)
    by_cases e : k = i
    · rw [e]; exact h1
    · rw [h2 k e]; exact hT k (by omega)
end X3L
set_option maxRecDepth 100000 in
set_option maxHeartbeats 4000000 in
theorem c_X3_init (l : Launch) (G : gk_G) (a0 : Nat) : gn_M l yX3_init wsX3_init rm_X3_init false false G [.ref a0] [(a0, .inr (2, [.int 0, .null, .null]))] (fun w => ∃ (q1 q2 : Nat) (T : Nat → Int32), VS T ∧ w = [(a0, .inr (2, [.int 4, .ref q1, .ref q2])), (q1, gk_J G 64 (fun _ => 0)), (q2, gk_I G 64 T)]) 2 128 :=
  gn_of (by decide) rfl (Nat.le_of_ble_eq_true rfl) (fun p e s m below meth c A ls C hr hin hlk h hl => by
    have C : gn_C p s m #[.ref a0] c cX3_init 3 RX3 wsX3_init false false G A := C
    obtain ⟨hx, hb, hml, hown, hts, hK, hSt, hO, hA⟩ := id C
    have hin : meth.name = "<init>" := hin
    have hl : lv_has ls 3 [(0, .ref a0)] := hl
    have h : gk_H G A s [(a0, .inr (2, [.int 0, .null, .null]))] s.heap [] := h
    obtain ⟨hP, hD, hS⟩ := h
    refine lv_aload_n hx hb dX3_init_0 rfl (lv_at hl 0 rfl) ?_
    refine W.objInit hx hb hown (hts _ k_X3_init_0) (hts _ k_X3_init_1) (hts _ k_X3_init_2) rfl (by rw [hml]; exact hl.1) rfl dX3_init_1 (Nat.le_of_ble_eq_true rfl) (Nat.le_of_ble_eq_true rfl) ?_
    refine W.eq (g2 := F0 m 4 ls []) rfl ?_
    refine lv_aload_n hx hb dX3_init_4 rfl (lv_at hl 0 rfl) ?_
    refine lv_iconst (v := 4) hx hb dX3_init_5 (by decide) ?_
    refine va_put (D := G.1) (cl := vwCl) (own := RX3) (ref := "ExchangeFamilies$Sums") (ci := 2) (v := .int 4) (ty := .int) (C := RX3) (T := TX3) (N := 3) hx hb hts k_X3_init_4 tyX3 tyX3_ok nmX3 hown hK hP hD hS 0 rfl rfl 0 (by decide) (hts _ k_X3_init_3) (fun _ h9 => h9) rfl (by decide +kernel) rfl rfl (Nat.le_of_ble_eq_true rfl) dX3_init_6 (fun H locs hP hD hS => ?_)
    have hP : va_P G.1 vwCl [(a0, .inr (2, [.int 4, .null, .null]))] H := hP
    have hD : va_D A [(a0, .inr (2, [.int 4, .null, .null]))] := hD
    refine lv_aload_n hx hb dX3_init_9 rfl (lv_at hl 0 rfl) ?_
    refine lv_bipush (v := 64) hx hb dX3_init_10 (by decide) ?_
    refine gn_newJ (N := 64) C ⟨hP, hD, hS⟩ k_X3_init_5 (by decide) (by decide) (Nat.le_of_ble_eq_true rfl) (Nat.le_of_ble_eq_true rfl) (Nat.le_of_ble_eq_true rfl) dX3_init_12 (fun q1 H h => ?_)
    obtain ⟨hP, hD, hS⟩ := h
    have hP : va_P G.1 vwCl [(a0, .inr (2, [.int 4, .null, .null])), (q1, gk_J G 64 (fun _ => 0))] H := hP
    have hD : va_D A [(a0, .inr (2, [.int 4, .null, .null])), (q1, gk_J G 64 (fun _ => 0))] := hD
    refine W.widen (k := 1) (n := 64) (Nat.le_of_ble_eq_true rfl) (Nat.le_of_ble_eq_true rfl) ?_
    refine va_putF (D := G.1) (cl := vwCl) (own := RX3) (ref := "ExchangeFamilies$Sums") (ci := 2) (v := .ref q1) (ty := .array .long) (C := RX3) (T := TX3) (N := 3) hx hb hts k_X3_init_4 tyX3 tyX3_ok nmX3 hown hK hP hD hS 0 rfl rfl 1 (by decide) (hts _ k_X3_init_6) (fun _ h9 => h9) rfl hin rfl (by decide +kernel) rfl rfl (Nat.le_of_ble_eq_true rfl) dX3_init_14 (fun H locs hP hD hS => ?_)
    have hP : va_P G.1 vwCl [(a0, .inr (2, [.int 4, .ref q1, .null])), (q1, gk_J G 64 (fun _ => 0))] H := hP
    have hD : va_D A [(a0, .inr (2, [.int 4, .ref q1, .null])), (q1, gk_J G 64 (fun _ => 0))] := hD
    refine lv_aload_n hx hb dX3_init_17 rfl (lv_at hl 0 rfl) ?_
    refine lv_bipush (v := 64) hx hb dX3_init_18 (by decide) ?_
    refine gn_newI (N := 64) C ⟨hP, hD, hS⟩ k_X3_init_7 (by decide) (by decide) (Nat.le_of_ble_eq_true rfl) (Nat.le_of_ble_eq_true rfl) (Nat.le_of_ble_eq_true rfl) dX3_init_20 (fun q2 H h => ?_)
    obtain ⟨hP, hD, hS⟩ := h
    have hP : va_P G.1 vwCl [(a0, .inr (2, [.int 4, .ref q1, .null])), (q1, gk_J G 64 (fun _ => 0)), (q2, gk_I G 64 (fun _ => 0))] H := hP
    have hD : va_D A [(a0, .inr (2, [.int 4, .ref q1, .null])), (q1, gk_J G 64 (fun _ => 0)), (q2, gk_I G 64 (fun _ => 0))] := hD
    refine W.widen (k := 2) (n := 128) (Nat.le_of_ble_eq_true rfl) (Nat.le_of_ble_eq_true rfl) ?_
    refine va_putF (D := G.1) (cl := vwCl) (own := RX3) (ref := "ExchangeFamilies$Sums") (ci := 2) (v := .ref q2) (ty := .array .int) (C := RX3) (T := TX3) (N := 3) hx hb hts k_X3_init_4 tyX3 tyX3_ok nmX3 hown hK hP hD hS 0 rfl rfl 2 (by decide) (hts _ k_X3_init_8) (fun _ h9 => h9) rfl hin rfl (by decide +kernel) rfl rfl (Nat.le_of_ble_eq_true rfl) dX3_init_22 (fun H locs hP hD hS => ?_)
    have hP : va_P G.1 vwCl [(a0, .inr (2, [.int 4, .ref q1, .ref q2])), (q1, gk_J G 64 (fun _ => 0)), (q2, gk_I G 64 (fun _ => 0))] H := hP
    have hD : va_D A [(a0, .inr (2, [.int 4, .ref q1, .ref q2])), (q1, gk_J G 64 (fun _ => 0)), (q2, gk_I G 64 (fun _ => 0))] := hD
    refine lv_iconst (v := 0) hx hb dX3_init_25 (by decide) ?_
    refine lv_istore_n (lv' := [(1, .int 0), (0, .ref a0)]) hx hb dX3_init_26 rfl hl (by decide) rfl (fun ls hl => ?_)
    exact x3_outer C hr hin hlk 64 0 (by omega) (fun _ => 0) (fun i hi => absurd hi (Nat.not_lt_zero i)) (fun _ _ => rfl) H locs ls ⟨hP, hD, hS⟩ (lv_sub hl [1, 0] rfl))
