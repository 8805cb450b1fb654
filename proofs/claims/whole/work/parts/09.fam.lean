/-! ===== java/lang/Integer.bitCount(I)I ===== -/
abbrev rm_J6_bitCount_0f7a4 : Room := { frames := 1, cells := 0, slots := 0, locals := 64 }
theorem k_J6_bitCount_0f7a4_0 : Cond.constant RJ6 265 (1431655765) ∈ wsJ6_bitCount_0f7a4 := by decide +kernel
theorem k_J6_bitCount_0f7a4_1 : Cond.constant RJ6 266 (858993459) ∈ wsJ6_bitCount_0f7a4 := by decide +kernel
theorem k_J6_bitCount_0f7a4_2 : Cond.constant RJ6 267 (252645135) ∈ wsJ6_bitCount_0f7a4 := by decide +kernel
def m_J6_bitCount_0f7a4_0 (x0 : Int32) : Option (Int32) := some ((((((((x0 - (((x0.toUInt32 >>> ((1 : Int32).toUInt32 &&& Int32.toUInt32 31)).toInt32) &&& (1431655765 : Int32))) &&& (858993459 : Int32)) + ((((x0 - (((x0.toUInt32 >>> ((1 : Int32).toUInt32 &&& Int32.toUInt32 31)).toInt32) &&& (1431655765 : Int32))).toUInt32 >>> ((2 : Int32).toUInt32 &&& Int32.toUInt32 31)).toInt32) &&& (858993459 : Int32))) + (((((x0 - (((x0.toUInt32 >>> ((1 : Int32).toUInt32 &&& Int32.toUInt32 31)).toInt32) &&& (1431655765 : Int32))) &&& (858993459 : Int32)) + ((((x0 - (((x0.toUInt32 >>> ((1 : Int32).toUInt32 &&& Int32.toUInt32 31)).toInt32) &&& (1431655765 : Int32))).toUInt32 >>> ((2 : Int32).toUInt32 &&& Int32.toUInt32 31)).toInt32) &&& (858993459 : Int32))).toUInt32 >>> ((4 : Int32).toUInt32 &&& Int32.toUInt32 31)).toInt32)) &&& (252645135 : Int32)) + (((((((x0 - (((x0.toUInt32 >>> ((1 : Int32).toUInt32 &&& Int32.toUInt32 31)).toInt32) &&& (1431655765 : Int32))) &&& (858993459 : Int32)) + ((((x0 - (((x0.toUInt32 >>> ((1 : Int32).toUInt32 &&& Int32.toUInt32 31)).toInt32) &&& (1431655765 : Int32))).toUInt32 >>> ((2 : Int32).toUInt32 &&& Int32.toUInt32 31)).toInt32) &&& (858993459 : Int32))) + (((((x0 - (((x0.toUInt32 >>> ((1 : Int32).toUInt32 &&& Int32.toUInt32 31)).toInt32) &&& (1431655765 : Int32))) &&& (858993459 : Int32)) + ((((x0 - (((x0.toUInt32 >>> ((1 : Int32).toUInt32 &&& Int32.toUInt32 31)).toInt32) &&& (1431655765 : Int32))).toUInt32 >>> ((2 : Int32).toUInt32 &&& Int32.toUInt32 31)).toInt32) &&& (858993459 : Int32))).toUInt32 >>> ((4 : Int32).toUInt32 &&& Int32.toUInt32 31)).toInt32)) &&& (252645135 : Int32)).toUInt32 >>> ((8 : Int32).toUInt32 &&& Int32.toUInt32 31)).toInt32)) + ((((((((x0 - (((x0.toUInt32 >>> ((1 : Int32).toUInt32 &&& Int32.toUInt32 31)).toInt32) &&& (1431655765 : Int32))) &&& (858993459 : Int32)) + ((((x0 - (((x0.toUInt32 >>> ((1 : Int32).toUInt32 &&& Int32.toUInt32 31)).toInt32) &&& (1431655765 : Int32))).toUInt32 >>> ((2 : Int32).toUInt32 &&& Int32.toUInt32 31)).toInt32) &&& (858993459 : Int32))) + (((((x0 - (((x0.toUInt32 >>> ((1 : Int32).toUInt32 &&& Int32.toUInt32 31)).toInt32) &&& (1431655765 : Int32))) &&& (858993459 : Int32)) + ((((x0 - (((x0.toUInt32 >>> ((1 : Int32).toUInt32 &&& Int32.toUInt32 31)).toInt32) &&& (1431655765 : Int32))).toUInt32 >>> ((2 : Int32).toUInt32 &&& Int32.toUInt32 31)).toInt32) &&& (858993459 : Int32))).toUInt32 >>> ((4 : Int32).toUInt32 &&& Int32.toUInt32 31)).toInt32)) &&& (252645135 : Int32)) + (((((((x0 - (((x0.toUInt32 >>> ((1 : Int32).toUInt32 &&& Int32.toUInt32 31)).toInt32) &&& (1431655765 : Int32))) &&& (858993459 : Int32)) + ((((x0 - (((x0.toUInt32 >>> ((1 : Int32).toUInt32 &&& Int32.toUInt32 31)).toInt32) &&& (1431655765 : Int32))).toUInt32 >>> ((2 : Int32).toUInt32 &&& Int32.toUInt32 31)).toInt32) &&& (858993459 : Int32))) + (((((x0 - (((x0.toUInt32 >>> ((1 : Int32).toUInt32 &&& Int32.toUInt32 31)).toInt32) &&& (1431655765 : Int32))) &&& (858993459 : Int32)) + ((((x0 - (((x0.toUInt32 >>> ((1 : Int32).toUInt32 &&& Int32.toUInt32 31)).toInt32) &&& (1431655765 : Int32))).toUInt32 >>> ((2 : Int32).toUInt32 &&& Int32.toUInt32 31)).toInt32) &&& (858993459 : Int32))).toUInt32 >>> ((4 : Int32).toUInt32 &&& Int32.toUInt32 31)).toInt32)) &&& (252645135 : Int32)).toUInt32 >>> ((8 : Int32).toUInt32 &&& Int32.toUInt32 31)).toInt32)).toUInt32 >>> ((16 : Int32).toUInt32 &&& Int32.toUInt32 31)).toInt32)) &&& (63 : Int32))
set_option maxRecDepth 100000 in
set_option maxHeartbeats 4000000 in
theorem w_J6_bitCount_0f7a4_0 {p : Program} {l : Launch} {e : Env} {s : State} {m : MethodId} {args : Array Value} {below : List Frame} {meth : Method} {c : Code} {G : gk_G} {A : Nat → Prop} {Q : State → Prop} (C : gk_C p s m args meth c cJ6_bitCount_0f7a4 1 (some .int) yJ6_bitCount_0f7a4 wsJ6_bitCount_0f7a4 false G A) {x0 : Int32} {yy : Int32} (hm : m_J6_bitCount_0f7a4_0 x0 = some yy) (kr : ∀ (rv : Int32), yy = rv → Q = MQ below (gk_Q G (some (.int rv)) [] A) args s 0 0 A) {H : Heap} {locs : List Loc} {ls : Array Slot} (h : gk_H G A s [] H locs) (hl : lv_has ls 1 [(0, .int x0)]) : W p l e rm_J6_bitCount_0f7a4 s m args below meth c H locs 0 0 Q (F0 m 0 ls []) := by
  obtain ⟨hx, hb, hml, hr, hown, hnm, hts, hlk, hK, hSt, hA⟩ := id C
  obtain ⟨hP, hD, hS⟩ := h
  unfold m_J6_bitCount_0f7a4_0 at hm
  refine lv_iload_n hx hb dJ6_bitCount_0f7a4_0 rfl (lv_at hl 0 rfl) ?_
  refine lv_iload_n hx hb dJ6_bitCount_0f7a4_1 rfl (lv_at hl 0 rfl) ?_
  refine lv_iconst (v := 1) hx hb dJ6_bitCount_0f7a4_2 (by decide) ?_
  refine lv_iushr hx hb dJ6_bitCount_0f7a4_3 rfl ?_
  refine lv_ldcw (own := RJ6) (v := 1431655765) hx hb hown (hts _ k_J6_bitCount_0f7a4_0) dJ6_bitCount_0f7a4_4 ?_
  refine lv_iand hx hb dJ6_bitCount_0f7a4_7 ?_
  refine lv_isub hx hb dJ6_bitCount_0f7a4_8 ?_
  refine lv_istore_n (lv' := [(0, .int (x0 - (((x0.toUInt32 >>> ((1 : Int32).toUInt32 &&& Int32.toUInt32 31)).toInt32) &&& (1431655765 : Int32))))]) hx hb dJ6_bitCount_0f7a4_9 rfl hl (by decide) rfl (fun ls hl => ?_)
  refine lv_iload_n hx hb dJ6_bitCount_0f7a4_10 rfl (lv_at hl 0 rfl) ?_
  refine lv_ldcw (own := RJ6) (v := 858993459) hx hb hown (hts _ k_J6_bitCount_0f7a4_1) dJ6_bitCount_0f7a4_11 ?_
  refine lv_iand hx hb dJ6_bitCount_0f7a4_14 ?_
  refine lv_iload_n hx hb dJ6_bitCount_0f7a4_15 rfl (lv_at hl 0 rfl) ?_
  refine lv_iconst (v := 2) hx hb dJ6_bitCount_0f7a4_16 (by decide) ?_
  refine lv_iushr hx hb dJ6_bitCount_0f7a4_17 rfl ?_
  refine lv_ldcw (own := RJ6) (v := 858993459) hx hb hown (hts _ k_J6_bitCount_0f7a4_1) dJ6_bitCount_0f7a4_18 ?_
  refine lv_iand hx hb dJ6_bitCount_0f7a4_21 ?_
  refine lv_iadd hx hb dJ6_bitCount_0f7a4_22 ?_
  refine lv_istore_n (lv' := [(0, .int (((x0 - (((x0.toUInt32 >>> ((1 : Int32).toUInt32 &&& Int32.toUInt32 31)).toInt32) &&& (1431655765 : Int32))) &&& (858993459 : Int32)) + ((((x0 - (((x0.toUInt32 >>> ((1 : Int32).toUInt32 &&& Int32.toUInt32 31)).toInt32) &&& (1431655765 : Int32))).toUInt32 >>> ((2 : Int32).toUInt32 &&& Int32.toUInt32 31)).toInt32) &&& (858993459 : Int32))))]) hx hb dJ6_bitCount_0f7a4_23 rfl hl (by decide) rfl (fun ls hl => ?_)
  refine lv_iload_n hx hb dJ6_bitCount_0f7a4_24 rfl (lv_at hl 0 rfl) ?_
  refine lv_iload_n hx hb dJ6_bitCount_0f7a4_25 rfl (lv_at hl 0 rfl) ?_
  refine lv_iconst (v := 4) hx hb dJ6_bitCount_0f7a4_26 (by decide) ?_
  refine lv_iushr hx hb dJ6_bitCount_0f7a4_27 rfl ?_
  refine lv_iadd hx hb dJ6_bitCount_0f7a4_28 ?_
  refine lv_ldcw (own := RJ6) (v := 252645135) hx hb hown (hts _ k_J6_bitCount_0f7a4_2) dJ6_bitCount_0f7a4_29 ?_
  refine lv_iand hx hb dJ6_bitCount_0f7a4_32 ?_
  refine lv_istore_n (lv' := [(0, .int (((((x0 - (((x0.toUInt32 >>> ((1 : Int32).toUInt32 &&& Int32.toUInt32 31)).toInt32) &&& (1431655765 : Int32))) &&& (858993459 : Int32)) + ((((x0 - (((x0.toUInt32 >>> ((1 : Int32).toUInt32 &&& Int32.toUInt32 31)).toInt32) &&& (1431655765 : Int32))).toUInt32 >>> ((2 : Int32).toUInt32 &&& Int32.toUInt32 31)).toInt32) &&& (858993459 : Int32))) + (((((x0 - (((x0.toUInt32 >>> ((1 : Int32).toUInt32 &&& Int32.toUInt32 31)).toInt32) &&& (1431655765 : Int32))) &&& (858993459 : Int32)) + ((((x0 - (((x0.toUInt32 >>> ((1 : Int32).toUInt32 &&& Int32.toUInt32 31)).toInt32) &&& (1431655765 : Int32))).toUInt32 >>> ((2 : Int32).toUInt32 &&& Int32.toUInt32 31)).toInt32) &&& (858993459 : Int32))).toUInt32 >>> ((4 : Int32).toUInt32 &&& Int32.toUInt32 31)).toInt32)) &&& (252645135 : Int32)))]) hx hb dJ6_bitCount_0f7a4_33 rfl hl (by decide) rfl (fun ls hl => ?_)
  refine lv_iload_n hx hb dJ6_bitCount_0f7a4_34 rfl (lv_at hl 0 rfl) ?_
  refine lv_iload_n hx hb dJ6_bitCount_0f7a4_35 rfl (lv_at hl 0 rfl) ?_
  refine lv_bipush (v := 8) hx hb dJ6_bitCount_0f7a4_36 (by decide) ?_
  refine lv_iushr hx hb dJ6_bitCount_0f7a4_38 rfl ?_
  refine lv_iadd hx hb dJ6_bitCount_0f7a4_39 ?_
  refine lv_istore_n (lv' := [(0, .int ((((((x0 - (((x0.toUInt32 >>> ((1 : Int32).toUInt32 &&& Int32.toUInt32 31)).toInt32) &&& (1431655765 : Int32))) &&& (858993459 : Int32)) + ((((x0 - (((x0.toUInt32 >>> ((1 : Int32).toUInt32 &&& Int32.toUInt32 31)).toInt32) &&& (1431655765 : Int32))).toUInt32 >>> ((2 : Int32).toUInt32 &&& Int32.toUInt32 31)).toInt32) &&& (858993459 : Int32))) + (((((x0 - (((x0.toUInt32 >>> ((1 : Int32).toUInt32 &&& Int32.toUInt32 31)).toInt32) &&& (1431655765 : Int32))) &&& (858993459 : Int32)) + ((((x0 - (((x0.toUInt32 >>> ((1 : Int32).toUInt32 &&& Int32.toUInt32 31)).toInt32) &&& (1431655765 : Int32))).toUInt32 >>> ((2 : Int32).toUInt32 &&& Int32.toUInt32 31)).toInt32) &&& (858993459 : Int32))).toUInt32 >>> ((4 : Int32).toUInt32 &&& Int32.toUInt32 31)).toInt32)) &&& (252645135 : Int32)) + (((((((x0 - (((x0.toUInt32 >>> ((1 : Int32).toUInt32 &&& Int32.toUInt32 31)).toInt32) &&& (1431655765 : Int32))) &&& (858993459 : Int32)) + ((((x0 - (((x0.toUInt32 >>> ((1 : Int32).toUInt32 &&& Int32.toUInt32 31)).toInt32) &&& (1431655765 : Int32))).toUInt32 >>> ((2 : Int32).toUInt32 &&& Int32.toUInt32 31)).toInt32) &&& (858993459 : Int32))) + (((((x0 - (((x0.toUInt32 >>> ((1 : Int32).toUInt32 &&& Int32.toUInt32 31)).toInt32) &&& (1431655765 : Int32))) &&& (858993459 : Int32)) + ((((x0 - (((x0.toUInt32 >>> ((1 : Int32).toUInt32 &&& Int32.toUInt32 31)).toInt32) &&& (1431655765 : Int32))).toUInt32 >>> ((2 : Int32).toUInt32 &&& Int32.toUInt32 31)).toInt32) &&& (858993459 : Int32))).toUInt32 >>> ((4 : Int32).toUInt32 &&& Int32.toUInt32 31)).toInt32)) &&& (252645135 : Int32)).toUInt32 >>> ((8 : Int32).toUInt32 &&& Int32.toUInt32 31)).toInt32)))]) hx hb dJ6_bitCount_0f7a4_40 rfl hl (by decide) rfl (fun ls hl => ?_)
  refine lv_iload_n hx hb dJ6_bitCount_0f7a4_41 rfl (lv_at hl 0 rfl) ?_
  refine lv_iload_n hx hb dJ6_bitCount_0f7a4_42 rfl (lv_at hl 0 rfl) ?_
  refine lv_bipush (v := 16) hx hb dJ6_bitCount_0f7a4_43 (by decide) ?_
  refine lv_iushr hx hb dJ6_bitCount_0f7a4_45 rfl ?_
  refine lv_iadd hx hb dJ6_bitCount_0f7a4_46 ?_
  refine lv_istore_n (lv' := [(0, .int (((((((x0 - (((x0.toUInt32 >>> ((1 : Int32).toUInt32 &&& Int32.toUInt32 31)).toInt32) &&& (1431655765 : Int32))) &&& (858993459 : Int32)) + ((((x0 - (((x0.toUInt32 >>> ((1 : Int32).toUInt32 &&& Int32.toUInt32 31)).toInt32) &&& (1431655765 : Int32))).toUInt32 >>> ((2 : Int32).toUInt32 &&& Int32.toUInt32 31)).toInt32) &&& (858993459 : Int32))) + (((((x0 - (((x0.toUInt32 >>> ((1 : Int32).toUInt32 &&& Int32.toUInt32 31)).toInt32) &&& (1431655765 : Int32))) &&& (858993459 : Int32)) + ((((x0 - (((x0.toUInt32 >>> ((1 : Int32).toUInt32 &&& Int32.toUInt32 31)).toInt32) &&& (1431655765 : Int32))).toUInt32 >>> ((2 : Int32).toUInt32 &&& Int32.toUInt32 31)).toInt32) &&& (858993459 : Int32))).toUInt32 >>> ((4 : Int32).toUInt32 &&& Int32.toUInt32 31)).toInt32)) &&& (252645135 : Int32)) + (((((((x0 - (((x0.toUInt32 >>> ((1 : Int32).toUInt32 &&& Int32.toUInt32 31)).toInt32) &&& (1431655765 : Int32))) &&& (858993459 : Int32)) + ((((x0 - (((x0.toUInt32 >>> ((1 : Int32).toUInt32 &&& Int32.toUInt32 31)).toInt32) &&& (1431655765 : Int32))).toUInt32 >>> ((2 : Int32).toUInt32 &&& Int32.toUInt32 31)).toInt32) &&& (858993459 : Int32))) + (((((x0 - (((x0.toUInt32 >>> ((1 : Int32).toUInt32 &&& Int32.toUInt32 31)).toInt32) &&& (1431655765 : Int32))) &&& (858993459 : Int32)) + ((((x0 - (((x0.toUInt32 >>> ((1 : Int32).toUInt32 &&& Int32.toUInt32 31)).toInt32) &&& (1431655765 : Int32))).toUInt32 >>> ((2 : Int32).toUInt32 &&& Int32.toUInt32 31)).toInt32) &&& (858993459 : Int32))).toUInt32 >>> ((4 : Int32).toUInt32 &&& Int32.toUInt32 31)).toInt32)) &&& (252645135 : Int32)).toUInt32 >>> ((8 : Int32).toUInt32 &&& Int32.toUInt32 31)).toInt32)) + ((((((((x0 - (((x0.toUInt32 >>> ((1 : Int32).toUInt32 &&& Int32.toUInt32 31)).toInt32) &&& (1431655765 : Int32))) &&& (858993459 : Int32)) + ((((x0 - (((x0.toUInt32 >>> ((1 : Int32).toUInt32 &&& Int32.toUInt32 31)).toInt32) &&& (1431655765 : Int32))).toUInt32 >>> ((2 : Int32).toUInt32 &&& Int32.toUInt32 31)).toInt32) &&& (858993459 : Int32))) + (((((x0 - (((x0.toUInt32 >>> ((1 : Int32).toUInt32 &&& Int32.toUInt32 31)).toInt32) &&& (1431655765 : Int32))) &&& (858993459 : Int32)) + ((((x0 - (((x0.toUInt32 >>> ((1 : Int32).toUInt32 &&& Int32.toUInt32 31)).toInt32) &&& (1431655765 : Int32))).toUInt32 >>> ((2 : Int32).toUInt32 &&& Int32.toUInt32 31)).toInt32) &&& (858993459 : Int32))).toUInt32 >>> ((4 : Int32).toUInt32 &&& Int32.toUInt32 31)).toInt32)) &&& (252645135 : Int32)) + (((((((x0 - (((x0.toUInt32 >>> ((1 : Int32).toUInt32 &&& Int32.toUInt32 31)).toInt32) &&& (1431655765 : Int32))) &&& (858993459 : Int32)) + ((((x0 - (((x0.toUInt32 >>> ((1 : Int32).toUInt32 &&& Int32.toUInt32 31)).toInt32) &&& (1431655765 : Int32))).toUInt32 >>> ((2 : Int32).toUInt32 &&& Int32.toUInt32 31)).toInt32) &&& (858993459 : Int32))) + (((((x0 - (((x0.toUInt32 >>> ((1 : Int32).toUInt32 &&& Int32.toUInt32 31)).toInt32) &&& (1431655765 : Int32))) &&& (858993459 : Int32)) + ((((x0 - (((x0.toUInt32 >>> ((1 : Int32).toUInt32 &&& Int32.toUInt32 31)).toInt32) &&& (1431655765 : Int32))).toUInt32 >>> ((2 : Int32).toUInt32 &&& Int32.toUInt32 31)).toInt32) &&& (858993459 : Int32))).toUInt32 >>> ((4 : Int32).toUInt32 &&& Int32.toUInt32 31)).toInt32)) &&& (252645135 : Int32)).toUInt32 >>> ((8 : Int32).toUInt32 &&& Int32.toUInt32 31)).toInt32)).toUInt32 >>> ((16 : Int32).toUInt32 &&& Int32.toUInt32 31)).toInt32)))]) hx hb dJ6_bitCount_0f7a4_47 rfl hl (by decide) rfl (fun ls hl => ?_)
  refine lv_iload_n hx hb dJ6_bitCount_0f7a4_48 rfl (lv_at hl 0 rfl) ?_
  refine lv_bipush (v := 63) hx hb dJ6_bitCount_0f7a4_49 (by decide) ?_
  refine lv_iand hx hb dJ6_bitCount_0f7a4_51 ?_
  rw [kr _ (Option.some.inj hm).symm]
  exact gk_iret C ⟨hP, hD, hS⟩ dJ6_bitCount_0f7a4_52
def m_J6_bitCount_0f7a4 (x0 : Int32) : Option (Int32) := m_J6_bitCount_0f7a4_0 x0
theorem c_J6_bitCount_0f7a4 (l : Launch) (G : gk_G) (x0 : Int32) {rv : Int32} (hm : m_J6_bitCount_0f7a4 x0 = some rv) : gk_M l yJ6_bitCount_0f7a4 wsJ6_bitCount_0f7a4 rm_J6_bitCount_0f7a4 false G [.int x0] [] (some (.int rv)) [] :=
  gk_of (by decide) rfl (Nat.le_of_ble_eq_true rfl) (fun p e s m below meth c A ls C h hl => w_J6_bitCount_0f7a4_0 C hm (fun v0 ez => by cases ez; rfl) h (show lv_has ls 1 [(0, .int x0)] from hl))

/-! ===== java/lang/Long.bitCount(J)I ===== -/
abbrev rm_J13_bitCount_95d88 : Room := { frames := 1, cells := 0, slots := 0, locals := 64 }
theorem k_J13_bitCount_95d88_0 : Cond.constantLong RJ13 314 (6148914691236517205) ∈ wsJ13_bitCount_95d88 := by decide +kernel
theorem k_J13_bitCount_95d88_1 : Cond.constantLong RJ13 316 (3689348814741910323) ∈ wsJ13_bitCount_95d88 := by decide +kernel
theorem k_J13_bitCount_95d88_2 : Cond.constantLong RJ13 318 (1085102592571150095) ∈ wsJ13_bitCount_95d88 := by decide +kernel
def m_J13_bitCount_95d88_0 (x0 : Int64) : Option (Int32) := some ((((((((((x0 - (((x0.toUInt64 >>> ((1 : Int32).toInt64.toUInt64 &&& Int64.toUInt64 63)).toInt64) &&& (6148914691236517205 : Int64))) &&& (3689348814741910323 : Int64)) + ((((x0 - (((x0.toUInt64 >>> ((1 : Int32).toInt64.toUInt64 &&& Int64.toUInt64 63)).toInt64) &&& (6148914691236517205 : Int64))).toUInt64 >>> ((2 : Int32).toInt64.toUInt64 &&& Int64.toUInt64 63)).toInt64) &&& (3689348814741910323 : Int64))) + (((((x0 - (((x0.toUInt64 >>> ((1 : Int32).toInt64.toUInt64 &&& Int64.toUInt64 63)).toInt64) &&& (6148914691236517205 : Int64))) &&& (3689348814741910323 : Int64)) + ((((x0 - (((x0.toUInt64 >>> ((1 : Int32).toInt64.toUInt64 &&& Int64.toUInt64 63)).toInt64) &&& (6148914691236517205 : Int64))).toUInt64 >>> ((2 : Int32).toInt64.toUInt64 &&& Int64.toUInt64 63)).toInt64) &&& (3689348814741910323 : Int64))).toUInt64 >>> ((4 : Int32).toInt64.toUInt64 &&& Int64.toUInt64 63)).toInt64)) &&& (1085102592571150095 : Int64)) + (((((((x0 - (((x0.toUInt64 >>> ((1 : Int32).toInt64.toUInt64 &&& Int64.toUInt64 63)).toInt64) &&& (6148914691236517205 : Int64))) &&& (3689348814741910323 : Int64)) + ((((x0 - (((x0.toUInt64 >>> ((1 : Int32).toInt64.toUInt64 &&& Int64.toUInt64 63)).toInt64) &&& (6148914691236517205 : Int64))).toUInt64 >>> ((2 : Int32).toInt64.toUInt64 &&& Int64.toUInt64 63)).toInt64) &&& (3689348814741910323 : Int64))) + (((((x0 - (((x0.toUInt64 >>> ((1 : Int32).toInt64.toUInt64 &&& Int64.toUInt64 63)).toInt64) &&& (6148914691236517205 : Int64))) &&& (3689348814741910323 : Int64)) + ((((x0 - (((x0.toUInt64 >>> ((1 : Int32).toInt64.toUInt64 &&& Int64.toUInt64 63)).toInt64) &&& (6148914691236517205 : Int64))).toUInt64 >>> ((2 : Int32).toInt64.toUInt64 &&& Int64.toUInt64 63)).toInt64) &&& (3689348814741910323 : Int64))).toUInt64 >>> ((4 : Int32).toInt64.toUInt64 &&& Int64.toUInt64 63)).toInt64)) &&& (1085102592571150095 : Int64)).toUInt64 >>> ((8 : Int32).toInt64.toUInt64 &&& Int64.toUInt64 63)).toInt64)) + ((((((((x0 - (((x0.toUInt64 >>> ((1 : Int32).toInt64.toUInt64 &&& Int64.toUInt64 63)).toInt64) &&& (6148914691236517205 : Int64))) &&& (3689348814741910323 : Int64)) + ((((x0 - (((x0.toUInt64 >>> ((1 : Int32).toInt64.toUInt64 &&& Int64.toUInt64 63)).toInt64) &&& (6148914691236517205 : Int64))).toUInt64 >>> ((2 : Int32).toInt64.toUInt64 &&& Int64.toUInt64 63)).toInt64) &&& (3689348814741910323 : Int64))) + (((((x0 - (((x0.toUInt64 >>> ((1 : Int32).toInt64.toUInt64 &&& Int64.toUInt64 63)).toInt64) &&& (6148914691236517205 : Int64))) &&& (3689348814741910323 : Int64)) + ((((x0 - (((x0.toUInt64 >>> ((1 : Int32).toInt64.toUInt64 &&& Int64.toUInt64 63)).toInt64) &&& (6148914691236517205 : Int64))).toUInt64 >>> ((2 : Int32).toInt64.toUInt64 &&& Int64.toUInt64 63)).toInt64) &&& (3689348814741910323 : Int64))).toUInt64 >>> ((4 : Int32).toInt64.toUInt64 &&& Int64.toUInt64 63)).toInt64)) &&& (1085102592571150095 : Int64)) + (((((((x0 - (((x0.toUInt64 >>> ((1 : Int32).toInt64.toUInt64 &&& Int64.toUInt64 63)).toInt64) &&& (6148914691236517205 : Int64))) &&& (3689348814741910323 : Int64)) + ((((x0 - (((x0.toUInt64 >>> ((1 : Int32).toInt64.toUInt64 &&& Int64.toUInt64 63)).toInt64) &&& (6148914691236517205 : Int64))).toUInt64 >>> ((2 : Int32).toInt64.toUInt64 &&& Int64.toUInt64 63)).toInt64) &&& (3689348814741910323 : Int64))) + (((((x0 - (((x0.toUInt64 >>> ((1 : Int32).toInt64.toUInt64 &&& Int64.toUInt64 63)).toInt64) &&& (6148914691236517205 : Int64))) &&& (3689348814741910323 : Int64)) + ((((x0 - (((x0.toUInt64 >>> ((1 : Int32).toInt64.toUInt64 &&& Int64.toUInt64 63)).toInt64) &&& (6148914691236517205 : Int64))).toUInt64 >>> ((2 : Int32).toInt64.toUInt64 &&& Int64.toUInt64 63)).toInt64) &&& (3689348814741910323 : Int64))).toUInt64 >>> ((4 : Int32).toInt64.toUInt64 &&& Int64.toUInt64 63)).toInt64)) &&& (1085102592571150095 : Int64)).toUInt64 >>> ((8 : Int32).toInt64.toUInt64 &&& Int64.toUInt64 63)).toInt64)).toUInt64 >>> ((16 : Int32).toInt64.toUInt64 &&& Int64.toUInt64 63)).toInt64)) + (((((((((x0 - (((x0.toUInt64 >>> ((1 : Int32).toInt64.toUInt64 &&& Int64.toUInt64 63)).toInt64) &&& (6148914691236517205 : Int64))) &&& (3689348814741910323 : Int64)) + ((((x0 - (((x0.toUInt64 >>> ((1 : Int32).toInt64.toUInt64 &&& Int64.toUInt64 63)).toInt64) &&& (6148914691236517205 : Int64))).toUInt64 >>> ((2 : Int32).toInt64.toUInt64 &&& Int64.toUInt64 63)).toInt64) &&& (3689348814741910323 : Int64))) + (((((x0 - (((x0.toUInt64 >>> ((1 : Int32).toInt64.toUInt64 &&& Int64.toUInt64 63)).toInt64) &&& (6148914691236517205 : Int64))) &&& (3689348814741910323 : Int64)) + ((((x0 - (((x0.toUInt64 >>> ((1 : Int32).toInt64.toUInt64 &&& Int64.toUInt64 63)).toInt64) &&& (6148914691236517205 : Int64))).toUInt64 >>> ((2 : Int32).toInt64.toUInt64 &&& Int64.toUInt64 63)).toInt64) &&& (3689348814741910323 : Int64))).toUInt64 >>> ((4 : Int32).toInt64.toUInt64 &&& Int64.toUInt64 63)).toInt64)) &&& (1085102592571150095 : Int64)) + (((((((x0 - (((x0.toUInt64 >>> ((1 : Int32).toInt64.toUInt64 &&& Int64.toUInt64 63)).toInt64) &&& (6148914691236517205 : Int64))) &&& (3689348814741910323 : Int64)) + ((((x0 - (((x0.toUInt64 >>> ((1 : Int32).toInt64.toUInt64 &&& Int64.toUInt64 63)).toInt64) &&& (6148914691236517205 : Int64))).toUInt64 >>> ((2 : Int32).toInt64.toUInt64 &&& Int64.toUInt64 63)).toInt64) &&& (3689348814741910323 : Int64))) + (((((x0 - (((x0.toUInt64 >>> ((1 : Int32).toInt64.toUInt64 &&& Int64.toUInt64 63)).toInt64) &&& (6148914691236517205 : Int64))) &&& (3689348814741910323 : Int64)) + ((((x0 - (((x0.toUInt64 >>> ((1 : Int32).toInt64.toUInt64 &&& Int64.toUInt64 63)).toInt64) &&& (6148914691236517205 : Int64))).toUInt64 >>> ((2 : Int32).toInt64.toUInt64 &&& Int64.toUInt64 63)).toInt64) &&& (3689348814741910323 : Int64))).toUInt64 >>> ((4 : Int32).toInt64.toUInt64 &&& Int64.toUInt64 63)).toInt64)) &&& (1085102592571150095 : Int64)).toUInt64 >>> ((8 : Int32).toInt64.toUInt64 &&& Int64.toUInt64 63)).toInt64)) + ((((((((x0 - (((x0.toUInt64 >>> ((1 : Int32).toInt64.toUInt64 &&& Int64.toUInt64 63)).toInt64) &&& (6148914691236517205 : Int64))) &&& (3689348814741910323 : Int64)) + ((((x0 - (((x0.toUInt64 >>> ((1 : Int32).toInt64.toUInt64 &&& Int64.toUInt64 63)).toInt64) &&& (6148914691236517205 : Int64))).toUInt64 >>> ((2 : Int32).toInt64.toUInt64 &&& Int64.toUInt64 63)).toInt64) &&& (3689348814741910323 : Int64))) + (((((x0 - (((x0.toUInt64 >>> ((1 : Int32).toInt64.toUInt64 &&& Int64.toUInt64 63)).toInt64) &&& (6148914691236517205 : Int64))) &&& (3689348814741910323 : Int64)) + ((((x0 - (((x0.toUInt64 >>> ((1 : Int32).toInt64.toUInt64 &&& Int64.toUInt64 63)).toInt64) &&& (6148914691236517205 : Int64))).toUInt64 >>> ((2 : Int32).toInt64.toUInt64 &&& Int64.toUInt64 63)).toInt64) &&& (3689348814741910323 : Int64))).toUInt64 >>> ((4 : Int32).toInt64.toUInt64 &&& Int64.toUInt64 63)).toInt64)) &&& (1085102592571150095 : Int64)) + (((((((x0 - (((x0.toUInt64 >>> ((1 : Int32).toInt64.toUInt64 &&& Int64.toUInt64 63)).toInt64) &&& (6148914691236517205 : Int64))) &&& (3689348814741910323 : Int64)) + ((((x0 - (((x0.toUInt64 >>> ((1 : Int32).toInt64.toUInt64 &&& Int64.toUInt64 63)).toInt64) &&& (6148914691236517205 : Int64))).toUInt64 >>> ((2 : Int32).toInt64.toUInt64 &&& Int64.toUInt64 63)).toInt64) &&& (3689348814741910323 : Int64))) + (((((x0 - (((x0.toUInt64 >>> ((1 : Int32).toInt64.toUInt64 &&& Int64.toUInt64 63)).toInt64) &&& (6148914691236517205 : Int64))) &&& (3689348814741910323 : Int64)) + ((((x0 - (((x0.toUInt64 >>> ((1 : Int32).toInt64.toUInt64 &&& Int64.toUInt64 63)).toInt64) &&& (6148914691236517205 : Int64))).toUInt64 >>> ((2 : Int32).toInt64.toUInt64 &&& Int64.toUInt64 63)).toInt64) &&& (3689348814741910323 : Int64))).toUInt64 >>> ((4 : Int32).toInt64.toUInt64 &&& Int64.toUInt64 63)).toInt64)) &&& (1085102592571150095 : Int64)).toUInt64 >>> ((8 : Int32).toInt64.toUInt64 &&& Int64.toUInt64 63)).toInt64)).toUInt64 >>> ((16 : Int32).toInt64.toUInt64 &&& Int64.toUInt64 63)).toInt64)).toUInt64 >>> ((32 : Int32).toInt64.toUInt64 &&& Int64.toUInt64 63)).toInt64)).toInt32) &&& (127 : Int32))
set_option maxRecDepth 100000 in
set_option maxHeartbeats 4000000 in
theorem w_J13_bitCount_95d88_0 {p : Program} {l : Launch} {e : Env} {s : State} {m : MethodId} {args : Array Value} {below : List Frame} {meth : Method} {c : Code} {G : gk_G} {A : Nat → Prop} {Q : State → Prop} (C : gk_C p s m args meth c cJ13_bitCount_95d88 2 (some .int) yJ13_bitCount_95d88 wsJ13_bitCount_95d88 false G A) {x0 : Int64} {yy : Int32} (hm : m_J13_bitCount_95d88_0 x0 = some yy) (kr : ∀ (rv : Int32), yy = rv → Q = MQ below (gk_Q G (some (.int rv)) [] A) args s 0 0 A) {H : Heap} {locs : List Loc} {ls : Array Slot} (h : gk_H G A s [] H locs) (hl : lv_has ls 2 [(0, .long x0)]) : W p l e rm_J13_bitCount_95d88 s m args below meth c H locs 0 0 Q (F0 m 0 ls []) := by
  obtain ⟨hx, hb, hml, hr, hown, hnm, hts, hlk, hK, hSt, hA⟩ := id C
  obtain ⟨hP, hD, hS⟩ := h
  unfold m_J13_bitCount_95d88_0 at hm
  refine lv_lload_n hx hb dJ13_bitCount_95d88_0 rfl (lv_at hl 0 rfl) ?_
  refine lv_lload_n hx hb dJ13_bitCount_95d88_1 rfl (lv_at hl 0 rfl) ?_
  refine lv_iconst (v := 1) hx hb dJ13_bitCount_95d88_2 (by decide) ?_
  refine lv_lushr hx hb dJ13_bitCount_95d88_3 rfl ?_
  refine lv_ldc2 (own := RJ13) (v := 6148914691236517205) hx hb hown (hts _ k_J13_bitCount_95d88_0) dJ13_bitCount_95d88_4 ?_
  refine lv_land hx hb dJ13_bitCount_95d88_7 ?_
  refine lv_lsub hx hb dJ13_bitCount_95d88_8 ?_
  refine lv_lstore_n (lv' := [(0, .long (x0 - (((x0.toUInt64 >>> ((1 : Int32).toInt64.toUInt64 &&& Int64.toUInt64 63)).toInt64) &&& (6148914691236517205 : Int64))))]) hx hb dJ13_bitCount_95d88_9 rfl hl (by decide) rfl (fun ls hl => ?_)
  refine lv_lload_n hx hb dJ13_bitCount_95d88_10 rfl (lv_at hl 0 rfl) ?_
  refine lv_ldc2 (own := RJ13) (v := 3689348814741910323) hx hb hown (hts _ k_J13_bitCount_95d88_1) dJ13_bitCount_95d88_11 ?_
  refine lv_land hx hb dJ13_bitCount_95d88_14 ?_
  refine lv_lload_n hx hb dJ13_bitCount_95d88_15 rfl (lv_at hl 0 rfl) ?_
  refine lv_iconst (v := 2) hx hb dJ13_bitCount_95d88_16 (by decide) ?_
  refine lv_lushr hx hb dJ13_bitCount_95d88_17 rfl ?_
  refine lv_ldc2 (own := RJ13) (v := 3689348814741910323) hx hb hown (hts _ k_J13_bitCount_95d88_1) dJ13_bitCount_95d88_18 ?_
  refine lv_land hx hb dJ13_bitCount_95d88_21 ?_
  refine lv_ladd hx hb dJ13_bitCount_95d88_22 ?_
  refine lv_lstore_n (lv' := [(0, .long (((x0 - (((x0.toUInt64 >>> ((1 : Int32).toInt64.toUInt64 &&& Int64.toUInt64 63)).toInt64) &&& (6148914691236517205 : Int64))) &&& (3689348814741910323 : Int64)) + ((((x0 - (((x0.toUInt64 >>> ((1 : Int32).toInt64.toUInt64 &&& Int64.toUInt64 63)).toInt64) &&& (6148914691236517205 : Int64))).toUInt64 >>> ((2 : Int32).toInt64.toUInt64 &&& Int64.toUInt64 63)).toInt64) &&& (3689348814741910323 : Int64))))]) hx hb dJ13_bitCount_95d88_23 rfl hl (by decide) rfl (fun ls hl => ?_)
  refine lv_lload_n hx hb dJ13_bitCount_95d88_24 rfl (lv_at hl 0 rfl) ?_
  refine lv_lload_n hx hb dJ13_bitCount_95d88_25 rfl (lv_at hl 0 rfl) ?_
  refine lv_iconst (v := 4) hx hb dJ13_bitCount_95d88_26 (by decide) ?_
  refine lv_lushr hx hb dJ13_bitCount_95d88_27 rfl ?_
  refine lv_ladd hx hb dJ13_bitCount_95d88_28 ?_
  refine lv_ldc2 (own := RJ13) (v := 1085102592571150095) hx hb hown (hts _ k_J13_bitCount_95d88_2) dJ13_bitCount_95d88_29 ?_
  refine lv_land hx hb dJ13_bitCount_95d88_32 ?_
  refine lv_lstore_n (lv' := [(0, .long (((((x0 - (((x0.toUInt64 >>> ((1 : Int32).toInt64.toUInt64 &&& Int64.toUInt64 63)).toInt64) &&& (6148914691236517205 : Int64))) &&& (3689348814741910323 : Int64)) + ((((x0 - (((x0.toUInt64 >>> ((1 : Int32).toInt64.toUInt64 &&& Int64.toUInt64 63)).toInt64) &&& (6148914691236517205 : Int64))).toUInt64 >>> ((2 : Int32).toInt64.toUInt64 &&& Int64.toUInt64 63)).toInt64) &&& (3689348814741910323 : Int64))) + (((((x0 - (((x0.toUInt64 >>> ((1 : Int32).toInt64.toUInt64 &&& Int64.toUInt64 63)).toInt64) &&& (6148914691236517205 : Int64))) &&& (3689348814741910323 : Int64)) + ((((x0 - (((x0.toUInt64 >>> ((1 : Int32).toInt64.toUInt64 &&& Int64.toUInt64 63)).toInt64) &&& (6148914691236517205 : Int64))).toUInt64 >>> ((2 : Int32).toInt64.toUInt64 &&& Int64.toUInt64 63)).toInt64) &&& (3689348814741910323 : Int64))).toUInt64 >>> ((4 : Int32).toInt64.toUInt64 &&& Int64.toUInt64 63)).toInt64)) &&& (1085102592571150095 : Int64)))]) hx hb dJ13_bitCount_95d88_33 rfl hl (by decide) rfl (fun ls hl => ?_)
  refine lv_lload_n hx hb dJ13_bitCount_95d88_34 rfl (lv_at hl 0 rfl) ?_
  refine lv_lload_n hx hb dJ13_bitCount_95d88_35 rfl (lv_at hl 0 rfl) ?_
  refine lv_bipush (v := 8) hx hb dJ13_bitCount_95d88_36 (by decide) ?_
  refine lv_lushr hx hb dJ13_bitCount_95d88_38 rfl ?_
  refine lv_ladd hx hb dJ13_bitCount_95d88_39 ?_
  refine lv_lstore_n (lv' := [(0, .long ((((((x0 - (((x0.toUInt64 >>> ((1 : Int32).toInt64.toUInt64 &&& Int64.toUInt64 63)).toInt64) &&& (6148914691236517205 : Int64))) &&& (3689348814741910323 : Int64)) + ((((x0 - (((x0.toUInt64 >>> ((1 : Int32).toInt64.toUInt64 &&& Int64.toUInt64 63)).toInt64) &&& (6148914691236517205 : Int64))).toUInt64 >>> ((2 : Int32).toInt64.toUInt64 &&& Int64.toUInt64 63)).toInt64) &&& (3689348814741910323 : Int64))) + (((((x0 - (((x0.toUInt64 >>> ((1 : Int32).toInt64.toUInt64 &&& Int64.toUInt64 63)).toInt64) &&& (6148914691236517205 : Int64))) &&& (3689348814741910323 : Int64)) + ((((x0 - (((x0.toUInt64 >>> ((1 : Int32).toInt64.toUInt64 &&& Int64.toUInt64 63)).toInt64) &&& (6148914691236517205 : Int64))).toUInt64 >>> ((2 : Int32).toInt64.toUInt64 &&& Int64.toUInt64 63)).toInt64) &&& (3689348814741910323 : Int64))).toUInt64 >>> ((4 : Int32).toInt64.toUInt64 &&& Int64.toUInt64 63)).toInt64)) &&& (1085102592571150095 : Int64)) + (((((((x0 - (((x0.toUInt64 >>> ((1 : Int32).toInt64.toUInt64 &&& Int64.toUInt64 63)).toInt64) &&& (6148914691236517205 : Int64))) &&& (3689348814741910323 : Int64)) + ((((x0 - (((x0.toUInt64 >>> ((1 : Int32).toInt64.toUInt64 &&& Int64.toUInt64 63)).toInt64) &&& (6148914691236517205 : Int64))).toUInt64 >>> ((2 : Int32).toInt64.toUInt64 &&& Int64.toUInt64 63)).toInt64) &&& (3689348814741910323 : Int64))) + (((((x0 - (((x0.toUInt64 >>> ((1 : Int32).toInt64.toUInt64 &&& Int64.toUInt64 63)).toInt64) &&& (6148914691236517205 : Int64))) &&& (3689348814741910323 : Int64)) + ((((x0 - (((x0.toUInt64 >>> ((1 : Int32).toInt64.toUInt64 &&& Int64.toUInt64 63)).toInt64) &&& (6148914691236517205 : Int64))).toUInt64 >>> ((2 : Int32).toInt64.toUInt64 &&& Int64.toUInt64 63)).toInt64) &&& (3689348814741910323 : Int64))).toUInt64 >>> ((4 : Int32).toInt64.toUInt64 &&& Int64.toUInt64 63)).toInt64)) &&& (1085102592571150095 : Int64)).toUInt64 >>> ((8 : Int32).toInt64.toUInt64 &&& Int64.toUInt64 63)).toInt64)))]) hx hb dJ13_bitCount_95d88_40 rfl hl (by decide) rfl (fun ls hl => ?_)
  refine lv_lload_n hx hb dJ13_bitCount_95d88_41 rfl (lv_at hl 0 rfl) ?_
  refine lv_lload_n hx hb dJ13_bitCount_95d88_42 rfl (lv_at hl 0 rfl) ?_
  refine lv_bipush (v := 16) hx hb dJ13_bitCount_95d88_43 (by decide) ?_
  refine lv_lushr hx hb dJ13_bitCount_95d88_45 rfl ?_
  refine lv_ladd hx hb dJ13_bitCount_95d88_46 ?_
  refine lv_lstore_n (lv' := [(0, .long (((((((x0 - (((x0.toUInt64 >>> ((1 : Int32).toInt64.toUInt64 &&& Int64.toUInt64 63)).toInt64) &&& (6148914691236517205 : Int64))) &&& (3689348814741910323 : Int64)) + ((((x0 - (((x0.toUInt64 >>> ((1 : Int32).toInt64.toUInt64 &&& Int64.toUInt64 63)).toInt64) &&& (6148914691236517205 : Int64))).toUInt64 >>> ((2 : Int32).toInt64.toUInt64 &&& Int64.toUInt64 63)).toInt64) &&& (3689348814741910323 : Int64))) + (((((x0 - (((x0.toUInt64 >>> ((1 : Int32).toInt64.toUInt64 &&& Int64.toUInt64 63)).toInt64) &&& (6148914691236517205 : Int64))) &&& (3689348814741910323 : Int64)) + ((((x0 - (((x0.toUInt64 >>> ((1 : Int32).toInt64.toUInt64 &&& Int64.toUInt64 63)).toInt64) &&& (6148914691236517205 : Int64))).toUInt64 >>> ((2 : Int32).toInt64.toUInt64 &&& Int64.toUInt64 63)).toInt64) &&& (3689348814741910323 : Int64))).toUInt64 >>> ((4 : Int32).toInt64.toUInt64 &&& Int64.toUInt64 63)).toInt64)) &&& (1085102592571150095 : Int64)) + (((((((x0 - (((x0.toUInt64 >>> ((1 : Int32).toInt64.toUInt64 &&& Int64.toUInt64 63)).toInt64) &&& (6148914691236517205 : Int64))) &&& (3689348814741910323 : Int64)) + ((((x0 - (((x0.toUInt64 >>> ((1 : Int32).toInt64.toUInt64 &&& Int64.toUInt64 63)).toInt64) &&& (6148914691236517205 : Int64))).toUInt64 >>> ((2 : Int32).toInt64.toUInt64 &&& Int64.toUInt64 63)).toInt64) &&& (3689348814741910323 : Int64))) + (((((x0 - (((x0.toUInt64 >>> ((1 : Int32).toInt64.toUInt64 &&& Int64.toUInt64 63)).toInt64) &&& (6148914691236517205 : Int64))) &&& (3689348814741910323 : Int64)) + ((((x0 - (((x0.toUInt64 >>> ((1 : Int32).toInt64.toUInt64 &&& Int64.toUInt64 63)).toInt64) &&& (6148914691236517205 : Int64))).toUInt64 >>> ((2 : Int32).toInt64.toUInt64 &&& Int64.toUInt64 63)).toInt64) &&& (3689348814741910323 : Int64))).toUInt64 >>> ((4 : Int32).toInt64.toUInt64 &&& Int64.toUInt64 63)).toInt64)) &&& (1085102592571150095 : Int64)).toUInt64 >>> ((8 : Int32).toInt64.toUInt64 &&& Int64.toUInt64 63)).toInt64)) + ((((((((x0 - (((x0.toUInt64 >>> ((1 : Int32).toInt64.toUInt64 &&& Int64.toUInt64 63)).toInt64) &&& (6148914691236517205 : Int64))) &&& (3689348814741910323 : Int64)) + ((((x0 - (((x0.toUInt64 >>> ((1 : Int32).toInt64.toUInt64 &&& Int64.toUInt64 63)).toInt64) &&& (6148914691236517205 : Int64))).toUInt64 >>> ((2 : Int32).toInt64.toUInt64 &&& Int64.toUInt64 63)).toInt64) &&& (3689348814741910323 : Int64))) + (((((x0 - (((x0.toUInt64 >>> ((1 : Int32).toInt64.toUInt64 &&& Int64.toUInt64 63)).toInt64) &&& (6148914691236517205 : Int64))) &&& (3689348814741910323 : Int64)) + ((((x0 - (((x0.toUInt64 >>> ((1 : Int32).toInt64.toUInt64 &&& Int64.toUInt64 63)).toInt64) &&& (6148914691236517205 : Int64))).toUInt64 >>> ((2 : Int32).toInt64.toUInt64 &&& Int64.toUInt64 63)).toInt64) &&& (3689348814741910323 : Int64))).toUInt64 >>> ((4 : Int32).toInt64.toUInt64 &&& Int64.toUInt64 63)).toInt64)) &&& (1085102592571150095 : Int64)) + (((((((x0 - (((x0.toUInt64 >>> ((1 : Int32).toInt64.toUInt64 &&& Int64.toUInt64 63)).toInt64) &&& (6148914691236517205 : Int64))) &&& (3689348814741910323 : Int64)) + ((((x0 - (((x0.toUInt64 >>> ((1 : Int32).toInt64.toUInt64 &&& Int64.toUInt64 63)).toInt64) &&& (6148914691236517205 : Int64))).toUInt64 >>> ((2 : Int32).toInt64.toUInt64 &&& Int64.toUInt64 63)).toInt64) &&& (3689348814741910323 : Int64))) + (((((x0 - (((x0.toUInt64 >>> ((1 : Int32).toInt64.toUInt64 &&& Int64.toUInt64 63)).toInt64) &&& (6148914691236517205 : Int64))) &&& (3689348814741910323 : Int64)) + ((((x0 - (((x0.toUInt64 >>> ((1 : Int32).toInt64.toUInt64 &&& Int64.toUInt64 63)).toInt64) &&& (6148914691236517205 : Int64))).toUInt64 >>> ((2 : Int32).toInt64.toUInt64 &&& Int64.toUInt64 63)).toInt64) &&& (3689348814741910323 : Int64))).toUInt64 >>> ((4 : Int32).toInt64.toUInt64 &&& Int64.toUInt64 63)).toInt64)) &&& (1085102592571150095 : Int64)).toUInt64 >>> ((8 : Int32).toInt64.toUInt64 &&& Int64.toUInt64 63)).toInt64)).toUInt64 >>> ((16 : Int32).toInt64.toUInt64 &&& Int64.toUInt64 63)).toInt64)))]) hx hb dJ13_bitCount_95d88_47 rfl hl (by decide) rfl (fun ls hl => ?_)
  refine lv_lload_n hx hb dJ13_bitCount_95d88_48 rfl (lv_at hl 0 rfl) ?_
  refine lv_lload_n hx hb dJ13_bitCount_95d88_49 rfl (lv_at hl 0 rfl) ?_
  refine lv_bipush (v := 32) hx hb dJ13_bitCount_95d88_50 (by decide) ?_
  refine lv_lushr hx hb dJ13_bitCount_95d88_52 rfl ?_
  refine lv_ladd hx hb dJ13_bitCount_95d88_53 ?_
  refine lv_lstore_n (lv' := [(0, .long ((((((((x0 - (((x0.toUInt64 >>> ((1 : Int32).toInt64.toUInt64 &&& Int64.toUInt64 63)).toInt64) &&& (6148914691236517205 : Int64))) &&& (3689348814741910323 : Int64)) + ((((x0 - (((x0.toUInt64 >>> ((1 : Int32).toInt64.toUInt64 &&& Int64.toUInt64 63)).toInt64) &&& (6148914691236517205 : Int64))).toUInt64 >>> ((2 : Int32).toInt64.toUInt64 &&& Int64.toUInt64 63)).toInt64) &&& (3689348814741910323 : Int64))) + (((((x0 - (((x0.toUInt64 >>> ((1 : Int32).toInt64.toUInt64 &&& Int64.toUInt64 63)).toInt64) &&& (6148914691236517205 : Int64))) &&& (3689348814741910323 : Int64)) + ((((x0 - (((x0.toUInt64 >>> ((1 : Int32).toInt64.toUInt64 &&& Int64.toUInt64 63)).toInt64) &&& (6148914691236517205 : Int64))).toUInt64 >>> ((2 : Int32).toInt64.toUInt64 &&& Int64.toUInt64 63)).toInt64) &&& (3689348814741910323 : Int64))).toUInt64 >>> ((4 : Int32).toInt64.toUInt64 &&& Int64.toUInt64 63)).toInt64)) &&& (1085102592571150095 : Int64)) + (((((((x0 - (((x0.toUInt64 >>> ((1 : Int32).toInt64.toUInt64 &&& Int64.toUInt64 63)).toInt64) &&& (6148914691236517205 : Int64))) &&& (3689348814741910323 : Int64)) + ((((x0 - (((x0.toUInt64 >>> ((1 : Int32).toInt64.toUInt64 &&& Int64.toUInt64 63)).toInt64) &&& (6148914691236517205 : Int64))).toUInt64 >>> ((2 : Int32).toInt64.toUInt64 &&& Int64.toUInt64 63)).toInt64) &&& (3689348814741910323 : Int64))) + (((((x0 - (((x0.toUInt64 >>> ((1 : Int32).toInt64.toUInt64 &&& Int64.toUInt64 63)).toInt64) &&& (6148914691236517205 : Int64))) &&& (3689348814741910323 : Int64)) + ((((x0 - (((x0.toUInt64 >>> ((1 : Int32).toInt64.toUInt64 &&& Int64.toUInt64 63)).toInt64) &&& (6148914691236517205 : Int64))).toUInt64 >>> ((2 : Int32).toInt64.toUInt64 &&& Int64.toUInt64 63)).toInt64) &&& (3689348814741910323 : Int64))).toUInt64 >>> ((4 : Int32).toInt64.toUInt64 &&& Int64.toUInt64 63)).toInt64)) &&& (1085102592571150095 : Int64)).toUInt64 >>> ((8 : Int32).toInt64.toUInt64 &&& Int64.toUInt64 63)).toInt64)) + ((((((((x0 - (((x0.toUInt64 >>> ((1 : Int32).toInt64.toUInt64 &&& Int64.toUInt64 63)).toInt64) &&& (6148914691236517205 : Int64))) &&& (3689348814741910323 : Int64)) + ((((x0 - (((x0.toUInt64 >>> ((1 : Int32).toInt64.toUInt64 &&& Int64.toUInt64 63)).toInt64) &&& (6148914691236517205 : Int64))).toUInt64 >>> ((2 : Int32).toInt64.toUInt64 &&& Int64.toUInt64 63)).toInt64) &&& (3689348814741910323 : Int64))) + (((((x0 - (((x0.toUInt64 >>> ((1 : Int32).toInt64.toUInt64 &&& Int64.toUInt64 63)).toInt64) &&& (6148914691236517205 : Int64))) &&& (3689348814741910323 : Int64)) + ((((x0 - (((x0.toUInt64 >>> ((1 : Int32).toInt64.toUInt64 &&& Int64.toUInt64 63)).toInt64) &&& (6148914691236517205 : Int64))).toUInt64 >>> ((2 : Int32).toInt64.toUInt64 &&& Int64.toUInt64 63)).toInt64) &&& (3689348814741910323 : Int64))).toUInt64 >>> ((4 : Int32).toInt64.toUInt64 &&& Int64.toUInt64 63)).toInt64)) &&& (1085102592571150095 : Int64)) + (((((((x0 - (((x0.toUInt64 >>> ((1 : Int32).toInt64.toUInt64 &&& Int64.toUInt64 63)).toInt64) &&& (6148914691236517205 : Int64))) &&& (3689348814741910323 : Int64)) + ((((x0 - (((x0.toUInt64 >>> ((1 : Int32).toInt64.toUInt64 &&& Int64.toUInt64 63)).toInt64) &&& (6148914691236517205 : Int64))).toUInt64 >>> ((2 : Int32).toInt64.toUInt64 &&& Int64.toUInt64 63)).toInt64) &&& (3689348814741910323 : Int64))) + (((((x0 - (((x0.toUInt64 >>> ((1 : Int32).toInt64.toUInt64 &&& Int64.toUInt64 63)).toInt64) &&& (6148914691236517205 : Int64))) &&& (3689348814741910323 : Int64)) + ((((x0 - (((x0.toUInt64 >>> ((1 : Int32).toInt64.toUInt64 &&& Int64.toUInt64 63)).toInt64) &&& (6148914691236517205 : Int64))).toUInt64 >>> ((2 : Int32).toInt64.toUInt64 &&& Int64.toUInt64 63)).toInt64) &&& (3689348814741910323 : Int64))).toUInt64 >>> ((4 : Int32).toInt64.toUInt64 &&& Int64.toUInt64 63)).toInt64)) &&& (1085102592571150095 : Int64)).toUInt64 >>> ((8 : Int32).toInt64.toUInt64 &&& Int64.toUInt64 63)).toInt64)).toUInt64 >>> ((16 : Int32).toInt64.toUInt64 &&& Int64.toUInt64 63)).toInt64)) + (((((((((x0 - (((x0.toUInt64 >>> ((1 : Int32).toInt64.toUInt64 &&& Int64.toUInt64 63)).toInt64) &&& (6148914691236517205 : Int64))) &&& (3689348814741910323 : Int64)) + ((((x0 - (((x0.toUInt64 >>> ((1 : Int32).toInt64.toUInt64 &&& Int64.toUInt64 63)).toInt64) &&& (6148914691236517205 : Int64))).toUInt64 >>> ((2 : Int32).toInt64.toUInt64 &&& Int64.toUInt64 63)).toInt64) &&& (3689348814741910323 : Int64))) + (((((x0 - (((x0.toUInt64 >>> ((1 : Int32).toInt64.toUInt64 &&& Int64.toUInt64 63)).toInt64) &&& (6148914691236517205 : Int64))) &&& (3689348814741910323 : Int64)) + ((((x0 - (((x0.toUInt64 >>> ((1 : Int32).toInt64.toUInt64 &&& Int64.toUInt64 63)).toInt64) &&& (6148914691236517205 : Int64))).toUInt64 >>> ((2 : Int32).toInt64.toUInt64 &&& Int64.toUInt64 63)).toInt64) &&& (3689348814741910323 : Int64))).toUInt64 >>> ((4 : Int32).toInt64.toUInt64 &&& Int64.toUInt64 63)).toInt64)) &&& (1085102592571150095 : Int64)) + (((((((x0 - (((x0.toUInt64 >>> ((1 : Int32).toInt64.toUInt64 &&& Int64.toUInt64 63)).toInt64) &&& (6148914691236517205 : Int64))) &&& (3689348814741910323 : Int64)) + ((((x0 - (((x0.toUInt64 >>> ((1 : Int32).toInt64.toUInt64 &&& Int64.toUInt64 63)).toInt64) &&& (6148914691236517205 : Int64))).toUInt64 >>> ((2 : Int32).toInt64.toUInt64 &&& Int64.toUInt64 63)).toInt64) &&& (3689348814741910323 : Int64))) + (((((x0 - (((x0.toUInt64 >>> ((1 : Int32).toInt64.toUInt64 &&& Int64.toUInt64 63)).toInt64) &&& (6148914691236517205 : Int64))) &&& (3689348814741910323 : Int64)) + ((((x0 - (((x0.toUInt64 >>> ((1 : Int32).toInt64.toUInt64 &&& Int64.toUInt64 63)).toInt64) &&& (6148914691236517205 : Int64))).toUInt64 >>> ((2 : Int32).toInt64.toUInt64 &&& Int64.toUInt64 63)).toInt64) &&& (3689348814741910323 : Int64))).toUInt64 >>> ((4 : Int32).toInt64.toUInt64 &&& Int64.toUInt64 63)).toInt64)) &&& (1085102592571150095 : Int64)).toUInt64 >>> ((8 : Int32).toInt64.toUInt64 &&& Int64.toUInt64 63)).toInt64)) + ((((((((x0 - (((x0.toUInt64 >>> ((1 : Int32).toInt64.toUInt64 &&& Int64.toUInt64 63)).toInt64) &&& (6148914691236517205 : Int64))) &&& (3689348814741910323 : Int64)) + ((((x0 - (((x0.toUInt64 >>> ((1 : Int32).toInt64.toUInt64 &&& Int64.toUInt64 63)).toInt64) &&& (6148914691236517205 : Int64))).toUInt64 >>> ((2 : Int32).toInt64.toUInt64 &&& Int64.toUInt64 63)).toInt64) &&& (3689348814741910323 : Int64))) + (((((x0 - (((x0.toUInt64 >>> ((1 : Int32).toInt64.toUInt64 &&& Int64.toUInt64 63)).toInt64) &&& (6148914691236517205 : Int64))) &&& (3689348814741910323 : Int64)) + ((((x0 - (((x0.toUInt64 >>> ((1 : Int32).toInt64.toUInt64 &&& Int64.toUInt64 63)).toInt64) &&& (6148914691236517205 : Int64))).toUInt64 >>> ((2 : Int32).toInt64.toUInt64 &&& Int64.toUInt64 63)).toInt64) &&& (3689348814741910323 : Int64))).toUInt64 >>> ((4 : Int32).toInt64.toUInt64 &&& Int64.toUInt64 63)).toInt64)) &&& (1085102592571150095 : Int64)) + (((((((x0 - (((x0.toUInt64 >>> ((1 : Int32).toInt64.toUInt64 &&& Int64.toUInt64 63)).toInt64) &&& (6148914691236517205 : Int64))) &&& (3689348814741910323 : Int64)) + ((((x0 - (((x0.toUInt64 >>> ((1 : Int32).toInt64.toUInt64 &&& Int64.toUInt64 63)).toInt64) &&& (6148914691236517205 : Int64))).toUInt64 >>> ((2 : Int32).toInt64.toUInt64 &&& Int64.toUInt64 63)).toInt64) &&& (3689348814741910323 : Int64))) + (((((x0 - (((x0.toUInt64 >>> ((1 : Int32).toInt64.toUInt64 &&& Int64.toUInt64 63)).toInt64) &&& (6148914691236517205 : Int64))) &&& (3689348814741910323 : Int64)) + ((((x0 - (((x0.toUInt64 >>> ((1 : Int32).toInt64.toUInt64 &&& Int64.toUInt64 63)).toInt64) &&& (6148914691236517205 : Int64))).toUInt64 >>> ((2 : Int32).toInt64.toUInt64 &&& Int64.toUInt64 63)).toInt64) &&& (3689348814741910323 : Int64))).toUInt64 >>> ((4 : Int32).toInt64.toUInt64 &&& Int64.toUInt64 63)).toInt64)) &&& (1085102592571150095 : Int64)).toUInt64 >>> ((8 : Int32).toInt64.toUInt64 &&& Int64.toUInt64 63)).toInt64)).toUInt64 >>> ((16 : Int32).toInt64.toUInt64 &&& Int64.toUInt64 63)).toInt64)).toUInt64 >>> ((32 : Int32).toInt64.toUInt64 &&& Int64.toUInt64 63)).toInt64)))]) hx hb dJ13_bitCount_95d88_54 rfl hl (by decide) rfl (fun ls hl => ?_)
  refine lv_lload_n hx hb dJ13_bitCount_95d88_55 rfl (lv_at hl 0 rfl) ?_
  refine lv_l2i hx hb dJ13_bitCount_95d88_56 rfl ?_
  refine lv_bipush (v := 127) hx hb dJ13_bitCount_95d88_57 (by decide) ?_
  refine lv_iand hx hb dJ13_bitCount_95d88_59 ?_
  rw [kr _ (Option.some.inj hm).symm]
  exact gk_iret C ⟨hP, hD, hS⟩ dJ13_bitCount_95d88_60
def m_J13_bitCount_95d88 (x0 : Int64) : Option (Int32) := m_J13_bitCount_95d88_0 x0
theorem c_J13_bitCount_95d88 (l : Launch) (G : gk_G) (x0 : Int64) {rv : Int32} (hm : m_J13_bitCount_95d88 x0 = some rv) : gk_M l yJ13_bitCount_95d88 wsJ13_bitCount_95d88 rm_J13_bitCount_95d88 false G [.long x0] [] (some (.int rv)) [] :=
  gk_of (by decide) rfl (Nat.le_of_ble_eq_true rfl) (fun p e s m below meth c A ls C h hl => w_J13_bitCount_95d88_0 C hm (fun v0 ez => by cases ez; rfl) h (show lv_has ls 2 [(0, .long x0)] from hl))

/-! ===== java/util/Arrays.fill([II)V ===== -/
abbrev rm_J7_fill_53178 : Room := { frames := 1, cells := 0, slots := 0, locals := 64 }
def m_J7_fill_53178_B5 (N_r0 : Nat) (x1 : Int32) (x3 : Int32) (x2 : Int32) (f_r0 : (Nat → Int32)) : Option ((Int32 × (Nat → Int32)) ⊕ ((Nat → Int32))) := (if x3 ≤ x2 then some (.inr f_r0) else gk_ix x2 N_r0 (some (.inl (x2 + 1, upd f_r0 x2.toNatClampNeg x1))))
set_option maxRecDepth 100000 in
set_option maxHeartbeats 4000000 in
theorem w_J7_fill_53178_B5 {p : Program} {l : Launch} {e : Env} {s : State} {m : MethodId} {args : Array Value} {below : List Frame} {meth : Method} {c : Code} {G : gk_G} {A : Nat → Prop} {Q : State → Prop} {a0 : Nat} {N_r0 : Nat} (C : gk_C p s m args meth c cJ7_fill_53178 4 none yJ7_fill_53178 wsJ7_fill_53178 false G A) {x1 : Int32} {x3 : Int32} {x2 : Int32} {f_r0 : (Nat → Int32)} {yy : (Int32 × (Nat → Int32)) ⊕ ((Nat → Int32))} (hm : m_J7_fill_53178_B5 N_r0 x1 x3 x2 f_r0 = some yy) (kl : ∀ (x2 : Int32) (f_r0 : (Nat → Int32)), yy = .inl (x2, f_r0) → ∀ (H : Heap) (locs : List Loc) (ls : Array Slot), gk_H G A s [(a0, gk_I G N_r0 f_r0)] H locs → lv_has ls 4 [(0, .ref a0), (1, .int x1), (2, .int x2), (3, .int x3)] → W p l e rm_J7_fill_53178 s m args below meth c H locs 0 0 Q (F0 m 5 ls [])) (kx : ∀ (f_r0 : (Nat → Int32)), yy = .inr f_r0 → ∀ (H : Heap) (locs : List Loc) (ls : Array Slot), gk_H G A s [(a0, gk_I G N_r0 f_r0)] H locs → lv_has ls 4 [] → W p l e rm_J7_fill_53178 s m args below meth c H locs 0 0 Q (F0 m 20 ls [])) {H : Heap} {locs : List Loc} {ls : Array Slot} (h : gk_H G A s [(a0, gk_I G N_r0 f_r0)] H locs) (hl : lv_has ls 4 [(0, .ref a0), (1, .int x1), (2, .int x2), (3, .int x3)]) : W p l e rm_J7_fill_53178 s m args below meth c H locs 0 0 Q (F0 m 5 ls []) := by
  obtain ⟨hx, hb, hml, hr, hown, hnm, hts, hlk, hK, hSt, hA⟩ := id C
  obtain ⟨hP, hD, hS⟩ := h
  unfold m_J7_fill_53178_B5 at hm
  refine lv_iload_n hx hb dJ7_fill_53178_5 rfl (lv_at hl 2 rfl) ?_
  refine lv_iload_n hx hb dJ7_fill_53178_6 rfl (lv_at hl 3 rfl) ?_
  refine lv_icmp_ge (tgt := 20) hx hb dJ7_fill_53178_7 (by decide) (fun c2 => ?_) (fun c2 => ?_)
  · have hm := gk_it c2 hm
    exact kx _ (Option.some.inj hm).symm _ _ _ ⟨hP, hD, hS⟩ (lv_sub hl [] rfl)
  · have hm := gk_if c2 hm
    refine lv_aload_n hx hb dJ7_fill_53178_10 rfl (lv_at hl 0 rfl) ?_
    refine lv_iload_n hx hb dJ7_fill_53178_11 rfl (lv_at hl 2 rfl) ?_
    refine lv_iload_n hx hb dJ7_fill_53178_12 rfl (lv_at hl 1 rfl) ?_
    obtain ⟨hi, hm⟩ := gk_ix_some hm
    refine va_iast hx hb hK hP hD hS 0 0 rfl rfl hi dJ7_fill_53178_13 (fun H locs hP hD hS => ?_)
    have hP : va_P G.1 vwCl [(a0, gk_I G N_r0 (upd f_r0 x2.toNatClampNeg x1))] H := hP
    have hD : va_D A [(a0, gk_I G N_r0 (upd f_r0 x2.toNatClampNeg x1))] := hD
    refine lv_iinc (v := x2 + 1) (lv' := [(2, .int (x2 + 1)), (0, .ref a0), (1, .int x1), (3, .int x3)]) hx hb dJ7_fill_53178_14 hl (k := 2) rfl rfl (by decide) rfl (fun ls hl => ?_)
    refine lv_goto (tgt := 5) hx hb dJ7_fill_53178_17 (by decide) ?_
    exact kl _ _ (Option.some.inj hm).symm _ _ _ ⟨hP, hD, hS⟩ (lv_sub hl [1, 2, 0, 3] rfl)
set_option maxRecDepth 100000 in
set_option maxHeartbeats 4000000 in
theorem w_J7_fill_53178_L5 {p : Program} {l : Launch} {e : Env} {s : State} {m : MethodId} {args : Array Value} {below : List Frame} {meth : Method} {c : Code} {G : gk_G} {A : Nat → Prop} {Q : State → Prop} {a0 : Nat} {N_r0 : Nat} (C : gk_C p s m args meth c cJ7_fill_53178 4 none yJ7_fill_53178 wsJ7_fill_53178 false G A) {x1 : Int32} {x3 : Int32} {x2 : Int32} {f_r0 : (Nat → Int32)} {k : Nat} {e_f_r0 : (Nat → Int32)} (hm : gk_lp (fun z => m_J7_fill_53178_B5 N_r0 x1 x3 z.1 z.2) k (x2, f_r0) = some e_f_r0) (kx : ∀ (H : Heap) (locs : List Loc) (ls : Array Slot), gk_H G A s [(a0, gk_I G N_r0 e_f_r0)] H locs → lv_has ls 4 [] → W p l e rm_J7_fill_53178 s m args below meth c H locs 0 0 Q (F0 m 20 ls [])) {H : Heap} {locs : List Loc} {ls : Array Slot} (h : gk_H G A s [(a0, gk_I G N_r0 f_r0)] H locs) (hl : lv_has ls 4 [(0, .ref a0), (1, .int x1), (2, .int x2), (3, .int x3)]) : W p l e rm_J7_fill_53178 s m args below meth c H locs 0 0 Q (F0 m 5 ls []) :=
  gk_lp_some (P := fun z => ∀ (H : Heap) (locs : List Loc) (ls : Array Slot), gk_H G A s [(a0, gk_I G N_r0 z.2)] H locs → lv_has ls 4 [(0, .ref a0), (1, .int x1), (2, .int z.1), (3, .int x3)] → W p l e rm_J7_fill_53178 s m args below meth c H locs 0 0 Q (F0 m 5 ls [])) (E := fun r => (∀ (f_r0 : (Nat → Int32)), r = f_r0 → ∀ (H : Heap) (locs : List Loc) (ls : Array Slot), gk_H G A s [(a0, gk_I G N_r0 f_r0)] H locs → lv_has ls 4 [] → W p l e rm_J7_fill_53178 s m args below meth c H locs 0 0 Q (F0 m 20 ls []))) (fun z x hf kl ke H locs ls h hl => w_J7_fill_53178_B5 C hf (fun v0 v1 ez => kl (v0, v1) ez) (fun v0 ez => ke _ ez v0 rfl) h hl) k (x2, f_r0) _ hm (fun v0 ez => (by cases ez; exact kx)) _ _ _ h hl
def m_J7_fill_53178_0 (N_r0 : Nat) (f_r0 : (Nat → Int32)) (x1 : Int32) : Option ((Nat → Int32)) := gk_bd1 (gk_lp (fun z => m_J7_fill_53178_B5 N_r0 x1 (Int32.ofNat N_r0) z.1 z.2) gk_fu ((0 : Int32), f_r0)) (fun e3 => some e3)
set_option maxRecDepth 100000 in
set_option maxHeartbeats 4000000 in
theorem w_J7_fill_53178_0 {p : Program} {l : Launch} {e : Env} {s : State} {m : MethodId} {args : Array Value} {below : List Frame} {meth : Method} {c : Code} {G : gk_G} {A : Nat → Prop} {Q : State → Prop} {a0 : Nat} {N_r0 : Nat} (C : gk_C p s m args meth c cJ7_fill_53178 4 none yJ7_fill_53178 wsJ7_fill_53178 false G A) {f_r0 : (Nat → Int32)} {x1 : Int32} {yy : (Nat → Int32)} (hm : m_J7_fill_53178_0 N_r0 f_r0 x1 = some yy) (kr : ∀ (g_r0 : (Nat → Int32)), yy = g_r0 → Q = MQ below (gk_Q G none [(a0, gk_I G N_r0 g_r0)] A) args s 0 0 A) {H : Heap} {locs : List Loc} {ls : Array Slot} (h : gk_H G A s [(a0, gk_I G N_r0 f_r0)] H locs) (hl : lv_has ls 4 [(0, .ref a0), (1, .int x1)]) : W p l e rm_J7_fill_53178 s m args below meth c H locs 0 0 Q (F0 m 0 ls []) := by
  obtain ⟨hx, hb, hml, hr, hown, hnm, hts, hlk, hK, hSt, hA⟩ := id C
  obtain ⟨hP, hD, hS⟩ := h
  unfold m_J7_fill_53178_0 at hm
  refine lv_iconst (v := 0) hx hb dJ7_fill_53178_0 (by decide) ?_
  refine lv_istore_n (lv' := [(2, .int (0 : Int32)), (0, .ref a0), (1, .int x1)]) hx hb dJ7_fill_53178_1 rfl hl (by decide) rfl (fun ls hl => ?_)
  refine lv_aload_n hx hb dJ7_fill_53178_2 rfl (lv_at hl 1 rfl) ?_
  refine va_alen hx hb hK hP 0 0 rfl rfl rfl dJ7_fill_53178_3 ?_
  refine lv_istore_n (lv' := [(3, .int (Int32.ofNat N_r0)), (2, .int (0 : Int32)), (0, .ref a0), (1, .int x1)]) hx hb dJ7_fill_53178_4 rfl hl (by decide) rfl (fun ls hl => ?_)
  obtain ⟨e3, hq, hm⟩ := gk_bd1_some hm
  refine w_J7_fill_53178_L5 C hq (fun H locs ls h hl => ?_) ⟨hP, hD, hS⟩ (lv_sub hl [2, 3, 1, 0] rfl)
  obtain ⟨hP, hD, hS⟩ := h
  rw [kr _ (Option.some.inj hm).symm]
  exact gk_vret C ⟨hP, hD, hS⟩ dJ7_fill_53178_20
def m_J7_fill_53178 (N_r0 : Nat) (f_r0 : (Nat → Int32)) (x1 : Int32) : Option ((Nat → Int32)) := m_J7_fill_53178_0 N_r0 f_r0 x1
theorem c_J7_fill_53178 (l : Launch) (G : gk_G) (a0 : Nat) (N_r0 : Nat) (f_r0 : (Nat → Int32)) (x1 : Int32) {g_r0 : (Nat → Int32)} (hm : m_J7_fill_53178 N_r0 f_r0 x1 = some g_r0) : gk_M l yJ7_fill_53178 wsJ7_fill_53178 rm_J7_fill_53178 false G [.ref a0, .int x1] [(a0, gk_I G N_r0 f_r0)] none [(a0, gk_I G N_r0 g_r0)] :=
  gk_of (by decide) rfl (Nat.le_of_ble_eq_true rfl) (fun p e s m below meth c A ls C h hl => w_J7_fill_53178_0 C hm (fun v0 ez => by cases ez; rfl) h (show lv_has ls 4 [(0, .ref a0), (1, .int x1)] from hl))

/-! ===== java/util/Arrays.fill([JJ)V ===== -/
abbrev rm_J7_fill_d0a16 : Room := { frames := 1, cells := 0, slots := 0, locals := 64 }
def m_J7_fill_d0a16_B6 (N_r0 : Nat) (x1 : Int64) (x4 : Int32) (x3 : Int32) (f_r0 : (Nat → Int64)) : Option ((Int32 × (Nat → Int64)) ⊕ ((Nat → Int64))) := (if x4 ≤ x3 then some (.inr f_r0) else gk_ix x3 N_r0 (some (.inl (x3 + 1, vp_updL f_r0 x3.toNatClampNeg x1))))
set_option maxRecDepth 100000 in
set_option maxHeartbeats 4000000 in
theorem w_J7_fill_d0a16_B6 {p : Program} {l : Launch} {e : Env} {s : State} {m : MethodId} {args : Array Value} {below : List Frame} {meth : Method} {c : Code} {G : gk_G} {A : Nat → Prop} {Q : State → Prop} {a0 : Nat} {N_r0 : Nat} (C : gk_C p s m args meth c cJ7_fill_d0a16 5 none yJ7_fill_d0a16 wsJ7_fill_d0a16 false G A) {x1 : Int64} {x4 : Int32} {x3 : Int32} {f_r0 : (Nat → Int64)} {yy : (Int32 × (Nat → Int64)) ⊕ ((Nat → Int64))} (hm : m_J7_fill_d0a16_B6 N_r0 x1 x4 x3 f_r0 = some yy) (kl : ∀ (x3 : Int32) (f_r0 : (Nat → Int64)), yy = .inl (x3, f_r0) → ∀ (H : Heap) (locs : List Loc) (ls : Array Slot), gk_H G A s [(a0, gk_J G N_r0 f_r0)] H locs → lv_has ls 5 [(0, .ref a0), (1, .long x1), (3, .int x3), (4, .int x4)] → W p l e rm_J7_fill_d0a16 s m args below meth c H locs 0 0 Q (F0 m 6 ls [])) (kx : ∀ (f_r0 : (Nat → Int64)), yy = .inr f_r0 → ∀ (H : Heap) (locs : List Loc) (ls : Array Slot), gk_H G A s [(a0, gk_J G N_r0 f_r0)] H locs → lv_has ls 5 [] → W p l e rm_J7_fill_d0a16 s m args below meth c H locs 0 0 Q (F0 m 22 ls [])) {H : Heap} {locs : List Loc} {ls : Array Slot} (h : gk_H G A s [(a0, gk_J G N_r0 f_r0)] H locs) (hl : lv_has ls 5 [(0, .ref a0), (1, .long x1), (3, .int x3), (4, .int x4)]) : W p l e rm_J7_fill_d0a16 s m args below meth c H locs 0 0 Q (F0 m 6 ls []) := by
  obtain ⟨hx, hb, hml, hr, hown, hnm, hts, hlk, hK, hSt, hA⟩ := id C
  obtain ⟨hP, hD, hS⟩ := h
  unfold m_J7_fill_d0a16_B6 at hm
  refine lv_iload_n hx hb dJ7_fill_d0a16_6 rfl (lv_at hl 2 rfl) ?_
  refine lv_iload hx hb dJ7_fill_d0a16_7 (lv_at hl 3 rfl) ?_
  refine lv_icmp_ge (tgt := 22) hx hb dJ7_fill_d0a16_9 (by decide) (fun c2 => ?_) (fun c2 => ?_)
  · have hm := gk_it c2 hm
    exact kx _ (Option.some.inj hm).symm _ _ _ ⟨hP, hD, hS⟩ (lv_sub hl [] rfl)
  · have hm := gk_if c2 hm
    refine lv_aload_n hx hb dJ7_fill_d0a16_12 rfl (lv_at hl 0 rfl) ?_
    refine lv_iload_n hx hb dJ7_fill_d0a16_13 rfl (lv_at hl 2 rfl) ?_
    refine lv_lload_n hx hb dJ7_fill_d0a16_14 rfl (lv_at hl 1 rfl) ?_
    obtain ⟨hi, hm⟩ := gk_ix_some hm
    refine va_last hx hb hK hP hD hS 0 1 rfl rfl hi dJ7_fill_d0a16_15 (fun H locs hP hD hS => ?_)
    have hP : va_P G.1 vwCl [(a0, gk_J G N_r0 (vp_updL f_r0 x3.toNatClampNeg x1))] H := hP
    have hD : va_D A [(a0, gk_J G N_r0 (vp_updL f_r0 x3.toNatClampNeg x1))] := hD
    refine lv_iinc (v := x3 + 1) (lv' := [(3, .int (x3 + 1)), (0, .ref a0), (1, .long x1), (4, .int x4)]) hx hb dJ7_fill_d0a16_16 hl (k := 2) rfl rfl (by decide) rfl (fun ls hl => ?_)
    refine lv_goto (tgt := 6) hx hb dJ7_fill_d0a16_19 (by decide) ?_
    exact kl _ _ (Option.some.inj hm).symm _ _ _ ⟨hP, hD, hS⟩ (lv_sub hl [1, 2, 0, 3] rfl)
set_option maxRecDepth 100000 in
set_option maxHeartbeats 4000000 in
theorem w_J7_fill_d0a16_L6 {p : Program} {l : Launch} {e : Env} {s : State} {m : MethodId} {args : Array Value} {below : List Frame} {meth : Method} {c : Code} {G : gk_G} {A : Nat → Prop} {Q : State → Prop} {a0 : Nat} {N_r0 : Nat} (C : gk_C p s m args meth c cJ7_fill_d0a16 5 none yJ7_fill_d0a16 wsJ7_fill_d0a16 false G A) {x1 : Int64} {x4 : Int32} {x3 : Int32} {f_r0 : (Nat → Int64)} {k : Nat} {e_f_r0 : (Nat → Int64)} (hm : gk_lp (fun z => m_J7_fill_d0a16_B6 N_r0 x1 x4 z.1 z.2) k (x3, f_r0) = some e_f_r0) (kx : ∀ (H : Heap) (locs : List Loc) (ls : Array Slot), gk_H G A s [(a0, gk_J G N_r0 e_f_r0)] H locs → lv_has ls 5 [] → W p l e rm_J7_fill_d0a16 s m args below meth c H locs 0 0 Q (F0 m 22 ls [])) {H : Heap} {locs : List Loc} {ls : Array Slot} (h : gk_H G A s [(a0, gk_J G N_r0 f_r0)] H locs) (hl : lv_has ls 5 [(0, .ref a0), (1, .long x1), (3, .int x3), (4, .int x4)]) : W p l e rm_J7_fill_d0a16 s m args below meth c H locs 0 0 Q (F0 m 6 ls []) :=
  gk_lp_some (P := fun z => ∀ (H : Heap) (locs : List Loc) (ls : Array Slot), gk_H G A s [(a0, gk_J G N_r0 z.2)] H locs → lv_has ls 5 [(0, .ref a0), (1, .long x1), (3, .int z.1), (4, .int x4)] → W p l e rm_J7_fill_d0a16 s m args below meth c H locs 0 0 Q (F0 m 6 ls [])) (E := fun r => (∀ (f_r0 : (Nat → Int64)), r = f_r0 → ∀ (H : Heap) (locs : List Loc) (ls : Array Slot), gk_H G A s [(a0, gk_J G N_r0 f_r0)] H locs → lv_has ls 5 [] → W p l e rm_J7_fill_d0a16 s m args below meth c H locs 0 0 Q (F0 m 22 ls []))) (fun z x hf kl ke H locs ls h hl => w_J7_fill_d0a16_B6 C hf (fun v0 v1 ez => kl (v0, v1) ez) (fun v0 ez => ke _ ez v0 rfl) h hl) k (x3, f_r0) _ hm (fun v0 ez => (by cases ez; exact kx)) _ _ _ h hl
def m_J7_fill_d0a16_0 (N_r0 : Nat) (f_r0 : (Nat → Int64)) (x1 : Int64) : Option ((Nat → Int64)) := gk_bd1 (gk_lp (fun z => m_J7_fill_d0a16_B6 N_r0 x1 (Int32.ofNat N_r0) z.1 z.2) gk_fu ((0 : Int32), f_r0)) (fun e3 => some e3)
set_option maxRecDepth 100000 in
set_option maxHeartbeats 4000000 in
theorem w_J7_fill_d0a16_0 {p : Program} {l : Launch} {e : Env} {s : State} {m : MethodId} {args : Array Value} {below : List Frame} {meth : Method} {c : Code} {G : gk_G} {A : Nat → Prop} {Q : State → Prop} {a0 : Nat} {N_r0 : Nat} (C : gk_C p s m args meth c cJ7_fill_d0a16 5 none yJ7_fill_d0a16 wsJ7_fill_d0a16 false G A) {f_r0 : (Nat → Int64)} {x1 : Int64} {yy : (Nat → Int64)} (hm : m_J7_fill_d0a16_0 N_r0 f_r0 x1 = some yy) (kr : ∀ (g_r0 : (Nat → Int64)), yy = g_r0 → Q = MQ below (gk_Q G none [(a0, gk_J G N_r0 g_r0)] A) args s 0 0 A) {H : Heap} {locs : List Loc} {ls : Array Slot} (h : gk_H G A s [(a0, gk_J G N_r0 f_r0)] H locs) (hl : lv_has ls 5 [(0, .ref a0), (1, .long x1)]) : W p l e rm_J7_fill_d0a16 s m args below meth c H locs 0 0 Q (F0 m 0 ls []) := by
  obtain ⟨hx, hb, hml, hr, hown, hnm, hts, hlk, hK, hSt, hA⟩ := id C
  obtain ⟨hP, hD, hS⟩ := h
  unfold m_J7_fill_d0a16_0 at hm
  refine lv_iconst (v := 0) hx hb dJ7_fill_d0a16_0 (by decide) ?_
  refine lv_istore_n (lv' := [(3, .int (0 : Int32)), (0, .ref a0), (1, .long x1)]) hx hb dJ7_fill_d0a16_1 rfl hl (by decide) rfl (fun ls hl => ?_)
  refine lv_aload_n hx hb dJ7_fill_d0a16_2 rfl (lv_at hl 1 rfl) ?_
  refine va_alen hx hb hK hP 0 1 rfl rfl rfl dJ7_fill_d0a16_3 ?_
  refine lv_istore (lv' := [(4, .int (Int32.ofNat N_r0)), (3, .int (0 : Int32)), (0, .ref a0), (1, .long x1)]) hx hb dJ7_fill_d0a16_4 hl (by decide) rfl (fun ls hl => ?_)
  obtain ⟨e3, hq, hm⟩ := gk_bd1_some hm
  refine w_J7_fill_d0a16_L6 C hq (fun H locs ls h hl => ?_) ⟨hP, hD, hS⟩ (lv_sub hl [2, 3, 1, 0] rfl)
  obtain ⟨hP, hD, hS⟩ := h
  rw [kr _ (Option.some.inj hm).symm]
  exact gk_vret C ⟨hP, hD, hS⟩ dJ7_fill_d0a16_22
def m_J7_fill_d0a16 (N_r0 : Nat) (f_r0 : (Nat → Int64)) (x1 : Int64) : Option ((Nat → Int64)) := m_J7_fill_d0a16_0 N_r0 f_r0 x1
theorem c_J7_fill_d0a16 (l : Launch) (G : gk_G) (a0 : Nat) (N_r0 : Nat) (f_r0 : (Nat → Int64)) (x1 : Int64) {g_r0 : (Nat → Int64)} (hm : m_J7_fill_d0a16 N_r0 f_r0 x1 = some g_r0) : gk_M l yJ7_fill_d0a16 wsJ7_fill_d0a16 rm_J7_fill_d0a16 false G [.ref a0, .long x1] [(a0, gk_J G N_r0 f_r0)] none [(a0, gk_J G N_r0 g_r0)] :=
  gk_of (by decide) rfl (Nat.le_of_ble_eq_true rfl) (fun p e s m below meth c A ls C h hl => w_J7_fill_d0a16_0 C hm (fun v0 ez => by cases ez; rfl) h (show lv_has ls 5 [(0, .ref a0), (1, .long x1)] from hl))

/-! ===== ExchangeFamilies.Family.holds(JI)Z ===== -/
abbrev rm_X0_holds : Room := { frames := 1, cells := 0, slots := 0, locals := 64 }
def m_X0_holds_0 (x0 : Int64) (x2 : Int32) : Option (Int32) := (if (lg_cmp (((x0.toUInt64 >>> (x2.toInt64.toUInt64 &&& Int64.toUInt64 63)).toInt64) &&& (1 : Int64)) (0 : Int64)) = (0 : Int32) then some (0 : Int32) else some (1 : Int32))
set_option maxRecDepth 100000 in
set_option maxHeartbeats 4000000 in
theorem w_X0_holds_0 {p : Program} {l : Launch} {e : Env} {s : State} {m : MethodId} {args : Array Value} {below : List Frame} {meth : Method} {c : Code} {G : gk_G} {A : Nat → Prop} {Q : State → Prop} (C : gk_C p s m args meth c cX0_holds 3 (some .boolean) yX0_holds wsX0_holds false G A) {x0 : Int64} {x2 : Int32} {yy : Int32} (hm : m_X0_holds_0 x0 x2 = some yy) (kr : ∀ (rv : Int32), yy = rv → Q = MQ below (gk_Q G (some (.int rv)) [] A) args s 0 0 A) {H : Heap} {locs : List Loc} {ls : Array Slot} (h : gk_H G A s [] H locs) (hl : lv_has ls 3 [(0, .long x0), (2, .int x2)]) : W p l e rm_X0_holds s m args below meth c H locs 0 0 Q (F0 m 0 ls []) := by
  obtain ⟨hx, hb, hml, hr, hown, hnm, hts, hlk, hK, hSt, hA⟩ := id C
  obtain ⟨hP, hD, hS⟩ := h
  unfold m_X0_holds_0 at hm
  refine lv_lload_n hx hb dX0_holds_0 rfl (lv_at hl 0 rfl) ?_
  refine lv_iload_n hx hb dX0_holds_1 rfl (lv_at hl 1 rfl) ?_
  refine lv_lushr hx hb dX0_holds_2 rfl ?_
  refine lv_lconst (v := 1) hx hb dX0_holds_3 (by decide) ?_
  refine lv_land hx hb dX0_holds_4 ?_
  refine lv_lconst (v := 0) hx hb dX0_holds_5 (by decide) ?_
  refine W.lcmp hx hb dX0_holds_6 ?_
  refine lv_if_eq (tgt := 14) hx hb dX0_holds_7 (by decide) (fun c2 => ?_) (fun c2 => ?_)
  · have hm := gk_it c2 hm
    refine lv_iconst (v := 0) hx hb dX0_holds_14 (by decide) ?_
    rw [kr _ (Option.some.inj hm).symm]
    exact gk_zret C ⟨hP, hD, hS⟩ rfl dX0_holds_15
  · have hm := gk_if c2 hm
    refine lv_iconst (v := 1) hx hb dX0_holds_10 (by decide) ?_
    refine lv_goto (tgt := 15) hx hb dX0_holds_11 (by decide) ?_
    rw [kr _ (Option.some.inj hm).symm]
    exact gk_zret C ⟨hP, hD, hS⟩ rfl dX0_holds_15
def m_X0_holds (x0 : Int64) (x2 : Int32) : Option (Int32) := m_X0_holds_0 x0 x2
theorem c_X0_holds (l : Launch) (G : gk_G) (x0 : Int64) (x2 : Int32) {rv : Int32} (hm : m_X0_holds x0 x2 = some rv) : gk_M l yX0_holds wsX0_holds rm_X0_holds false G [.long x0, .int x2] [] (some (.int rv)) [] :=
  gk_of (by decide) rfl (Nat.le_of_ble_eq_true rfl) (fun p e s m below meth c A ls C h hl => w_X0_holds_0 C hm (fun v0 ez => by cases ez; rfl) h (show lv_has ls 3 [(0, .long x0), (2, .int x2)] from hl))

/-! ===== ExchangeFamilies.Family.ofSizes(III)J ===== -/
abbrev rm_X0_ofSizes : Room := { frames := 3, cells := 0, slots := 0, locals := 148 }
def m_X0_ofSizes_B5 (x0 : Int32) (x1 : Int32) (x2 : Int32) (x3 : Int64) (x5 : Int32) : Option ((Int64 × Int32) ⊕ (Int64)) := (if ((1 : Int32) <<< (x2 &&& 31)) ≤ x5 then some (.inr x3) else gk_bd1 (m_J6_bitCount_0f7a4 x5) (fun r5 => (if r5 < x0 then some (.inl (x3, x5 + 1)) else (if x1 < r5 then some (.inl (x3, x5 + 1)) else some (.inl (x3 ||| ((1 : Int64) <<< (x5.toInt64 &&& 63)), x5 + 1))))))
set_option maxRecDepth 100000 in
set_option maxHeartbeats 4000000 in
theorem w_X0_ofSizes_B5 {p : Program} {l : Launch} {e : Env} {s : State} {m : MethodId} {args : Array Value} {below : List Frame} {meth : Method} {c : Code} {G : gk_G} {A : Nat → Prop} {Q : State → Prop} (C : gk_C p s m args meth c cX0_ofSizes 7 (some .long) yX0_ofSizes wsX0_ofSizes false G A) {x0 : Int32} {x1 : Int32} {x2 : Int32} {x3 : Int64} {x5 : Int32} {yy : (Int64 × Int32) ⊕ (Int64)} (hm : m_X0_ofSizes_B5 x0 x1 x2 x3 x5 = some yy) (kl : ∀ (x3 : Int64) (x5 : Int32), yy = .inl (x3, x5) → ∀ (H : Heap) (locs : List Loc) (ls : Array Slot), gk_H G A s [] H locs → lv_has ls 7 [(0, .int x0), (1, .int x1), (2, .int x2), (3, .long x3), (5, .int x5)] → W p l e rm_X0_ofSizes s m args below meth c H locs 0 0 Q (F0 m 5 ls [])) (kx : ∀ (x3 : Int64), yy = .inr x3 → ∀ (H : Heap) (locs : List Loc) (ls : Array Slot), gk_H G A s [] H locs → lv_has ls 7 [(3, .long x3)] → W p l e rm_X0_ofSizes s m args below meth c H locs 0 0 Q (F0 m 45 ls [])) {H : Heap} {locs : List Loc} {ls : Array Slot} (h : gk_H G A s [] H locs) (hl : lv_has ls 7 [(0, .int x0), (1, .int x1), (2, .int x2), (3, .long x3), (5, .int x5)]) : W p l e rm_X0_ofSizes s m args below meth c H locs 0 0 Q (F0 m 5 ls []) := by
  obtain ⟨hx, hb, hml, hr, hown, hnm, hts, hlk, hK, hSt, hA⟩ := id C
  obtain ⟨hP, hD, hS⟩ := h
  unfold m_X0_ofSizes_B5 at hm
  refine lv_iload hx hb dX0_ofSizes_5 (lv_at hl 4 rfl) ?_
  refine lv_iconst (v := 1) hx hb dX0_ofSizes_7 (by decide) ?_
  refine lv_iload_n hx hb dX0_ofSizes_8 rfl (lv_at hl 2 rfl) ?_
  refine lv_ishl hx hb dX0_ofSizes_9 ?_
  refine lv_icmp_ge (tgt := 45) hx hb dX0_ofSizes_10 (by decide) (fun c4 => ?_) (fun c4 => ?_)
  · have hm := gk_it c4 hm
    exact kx _ (Option.some.inj hm).symm _ _ _ ⟨hP, hD, hS⟩ (lv_sub hl [3] rfl)
  · have hm := gk_if c4 hm
    refine lv_iload hx hb dX0_ofSizes_13 (lv_at hl 4 rfl) ?_
    obtain ⟨r5, hq, hm⟩ := gk_bd1_some hm
    refine gk_callS (n := 1) (bytes := cJ6_bitCount_0f7a4) (maxL := 1) (ret := (some .int)) [] [] [] C ⟨hP, hD, hS⟩ (c_J6_bitCount_0f7a4 l G x5 hq) gX0_ofSizes_J6_bitCount_0f7a4 dX0_ofSizes_15 hl.1 [] [] [] rfl ⟨rfl, rfl⟩ ⟨Nat.le_of_ble_eq_true rfl, Nat.le_of_ble_eq_true rfl⟩ ⟨by decide +kernel, by decide +kernel, by decide +kernel⟩ rfl (fun h => by cases h) (Nat.le_of_ble_eq_true rfl) rfl rfl rfl rfl (by decide) rfl rfl (fun H locs h => ?_)
    obtain ⟨hP, hD, hS⟩ := h
    refine lv_istore (lv' := [(6, .int r5), (0, .int x0), (1, .int x1), (2, .int x2), (3, .long x3), (5, .int x5)]) hx hb dX0_ofSizes_18 hl (by decide) rfl (fun ls hl => ?_)
    refine lv_iload hx hb dX0_ofSizes_20 (lv_at hl 0 rfl) ?_
    refine lv_iload_n hx hb dX0_ofSizes_22 rfl (lv_at hl 1 rfl) ?_
    refine lv_icmp_lt (tgt := 39) hx hb dX0_ofSizes_23 (by decide) (fun c6 => ?_) (fun c6 => ?_)
    · have hm := gk_it c6 hm
      refine lv_iinc (v := x5 + 1) (lv' := [(5, .int (x5 + 1)), (6, .int r5), (0, .int x0), (1, .int x1), (2, .int x2), (3, .long x3)]) hx hb dX0_ofSizes_39 hl (k := 5) rfl rfl (by decide) rfl (fun ls hl => ?_)
      refine lv_goto (tgt := 5) hx hb dX0_ofSizes_42 (by decide) ?_
      exact kl _ _ (Option.some.inj hm).symm _ _ _ ⟨hP, hD, hS⟩ (lv_sub hl [2, 3, 4, 5, 0] rfl)
    · have hm := gk_if c6 hm
      refine lv_iload hx hb dX0_ofSizes_26 (lv_at hl 0 rfl) ?_
      refine lv_iload_n hx hb dX0_ofSizes_28 rfl (lv_at hl 2 rfl) ?_
      refine lv_icmp_gt (tgt := 39) hx hb dX0_ofSizes_29 (by decide) (fun c7 => ?_) (fun c7 => ?_)
      · have hm := gk_it c7 hm
        refine lv_iinc (v := x5 + 1) (lv' := [(5, .int (x5 + 1)), (6, .int r5), (0, .int x0), (1, .int x1), (2, .int x2), (3, .long x3)]) hx hb dX0_ofSizes_39 hl (k := 5) rfl rfl (by decide) rfl (fun ls hl => ?_)
        refine lv_goto (tgt := 5) hx hb dX0_ofSizes_42 (by decide) ?_
        exact kl _ _ (Option.some.inj hm).symm _ _ _ ⟨hP, hD, hS⟩ (lv_sub hl [2, 3, 4, 5, 0] rfl)
      · have hm := gk_if c7 hm
        refine lv_lload_n hx hb dX0_ofSizes_32 rfl (lv_at hl 4 rfl) ?_
        refine lv_lconst (v := 1) hx hb dX0_ofSizes_33 (by decide) ?_
        refine lv_iload hx hb dX0_ofSizes_34 (lv_at hl 5 rfl) ?_
        refine lv_lshl hx hb dX0_ofSizes_36 rfl ?_
        refine lv_lor hx hb dX0_ofSizes_37 ?_
        refine lv_lstore_n (lv' := [(3, .long (x3 ||| ((1 : Int64) <<< (x5.toInt64 &&& 63)))), (6, .int r5), (0, .int x0), (1, .int x1), (2, .int x2), (5, .int x5)]) hx hb dX0_ofSizes_38 rfl hl (by decide) rfl (fun ls hl => ?_)
        refine lv_iinc (v := x5 + 1) (lv' := [(5, .int (x5 + 1)), (3, .long (x3 ||| ((1 : Int64) <<< (x5.toInt64 &&& 63)))), (6, .int r5), (0, .int x0), (1, .int x1), (2, .int x2)]) hx hb dX0_ofSizes_39 hl (k := 5) rfl rfl (by decide) rfl (fun ls hl => ?_)
        refine lv_goto (tgt := 5) hx hb dX0_ofSizes_42 (by decide) ?_
        exact kl _ _ (Option.some.inj hm).symm _ _ _ ⟨hP, hD, hS⟩ (lv_sub hl [3, 4, 5, 1, 0] rfl)
set_option maxRecDepth 100000 in
set_option maxHeartbeats 4000000 in
theorem w_X0_ofSizes_L5 {p : Program} {l : Launch} {e : Env} {s : State} {m : MethodId} {args : Array Value} {below : List Frame} {meth : Method} {c : Code} {G : gk_G} {A : Nat → Prop} {Q : State → Prop} (C : gk_C p s m args meth c cX0_ofSizes 7 (some .long) yX0_ofSizes wsX0_ofSizes false G A) {x0 : Int32} {x1 : Int32} {x2 : Int32} {x3 : Int64} {x5 : Int32} {k : Nat} {e_x3 : Int64} (hm : gk_lp (fun z => m_X0_ofSizes_B5 x0 x1 x2 z.1 z.2) k (x3, x5) = some e_x3) (kx : ∀ (H : Heap) (locs : List Loc) (ls : Array Slot), gk_H G A s [] H locs → lv_has ls 7 [(3, .long e_x3)] → W p l e rm_X0_ofSizes s m args below meth c H locs 0 0 Q (F0 m 45 ls [])) {H : Heap} {locs : List Loc} {ls : Array Slot} (h : gk_H G A s [] H locs) (hl : lv_has ls 7 [(0, .int x0), (1, .int x1), (2, .int x2), (3, .long x3), (5, .int x5)]) : W p l e rm_X0_ofSizes s m args below meth c H locs 0 0 Q (F0 m 5 ls []) :=
  gk_lp_some (P := fun z => ∀ (H : Heap) (locs : List Loc) (ls : Array Slot), gk_H G A s [] H locs → lv_has ls 7 [(0, .int x0), (1, .int x1), (2, .int x2), (3, .long z.1), (5, .int z.2)] → W p l e rm_X0_ofSizes s m args below meth c H locs 0 0 Q (F0 m 5 ls [])) (E := fun r => (∀ (x3 : Int64), r = x3 → ∀ (H : Heap) (locs : List Loc) (ls : Array Slot), gk_H G A s [] H locs → lv_has ls 7 [(3, .long x3)] → W p l e rm_X0_ofSizes s m args below meth c H locs 0 0 Q (F0 m 45 ls []))) (fun z x hf kl ke H locs ls h hl => w_X0_ofSizes_B5 C hf (fun v0 v1 ez => kl (v0, v1) ez) (fun v0 ez => ke _ ez v0 rfl) h hl) k (x3, x5) _ hm (fun v0 ez => (by cases ez; exact kx)) _ _ _ h hl
def m_X0_ofSizes_0 (x0 : Int32) (x1 : Int32) (x2 : Int32) : Option (Int64) := gk_bd1 (gk_lp (fun z => m_X0_ofSizes_B5 x0 x1 x2 z.1 z.2) gk_fu ((0 : Int64), (0 : Int32))) (fun e8 => some e8)
set_option maxRecDepth 100000 in
set_option maxHeartbeats 4000000 in
theorem w_X0_ofSizes_0 {p : Program} {l : Launch} {e : Env} {s : State} {m : MethodId} {args : Array Value} {below : List Frame} {meth : Method} {c : Code} {G : gk_G} {A : Nat → Prop} {Q : State → Prop} (C : gk_C p s m args meth c cX0_ofSizes 7 (some .long) yX0_ofSizes wsX0_ofSizes false G A) {x0 : Int32} {x1 : Int32} {x2 : Int32} {yy : Int64} (hm : m_X0_ofSizes_0 x0 x1 x2 = some yy) (kr : ∀ (rv : Int64), yy = rv → Q = MQ below (gk_Q G (some (.long rv)) [] A) args s 0 0 A) {H : Heap} {locs : List Loc} {ls : Array Slot} (h : gk_H G A s [] H locs) (hl : lv_has ls 7 [(0, .int x0), (1, .int x1), (2, .int x2)]) : W p l e rm_X0_ofSizes s m args below meth c H locs 0 0 Q (F0 m 0 ls []) := by
  obtain ⟨hx, hb, hml, hr, hown, hnm, hts, hlk, hK, hSt, hA⟩ := id C
  obtain ⟨hP, hD, hS⟩ := h
  unfold m_X0_ofSizes_0 at hm
  refine lv_lconst (v := 0) hx hb dX0_ofSizes_0 (by decide) ?_
  refine lv_lstore_n (lv' := [(3, .long (0 : Int64)), (0, .int x0), (1, .int x1), (2, .int x2)]) hx hb dX0_ofSizes_1 rfl hl (by decide) rfl (fun ls hl => ?_)
  refine lv_iconst (v := 0) hx hb dX0_ofSizes_2 (by decide) ?_
  refine lv_istore (lv' := [(5, .int (0 : Int32)), (3, .long (0 : Int64)), (0, .int x0), (1, .int x1), (2, .int x2)]) hx hb dX0_ofSizes_3 hl (by decide) rfl (fun ls hl => ?_)
  obtain ⟨e8, hq, hm⟩ := gk_bd1_some hm
  refine w_X0_ofSizes_L5 C hq (fun H locs ls h hl => ?_) ⟨hP, hD, hS⟩ (lv_sub hl [2, 3, 4, 1, 0] rfl)
  obtain ⟨hP, hD, hS⟩ := h
  refine lv_lload_n hx hb dX0_ofSizes_45 rfl (lv_at hl 0 rfl) ?_
  rw [kr _ (Option.some.inj hm).symm]
  exact gk_lret C ⟨hP, hD, hS⟩ dX0_ofSizes_46
def m_X0_ofSizes (x0 : Int32) (x1 : Int32) (x2 : Int32) : Option (Int64) := m_X0_ofSizes_0 x0 x1 x2
theorem c_X0_ofSizes (l : Launch) (G : gk_G) (x0 : Int32) (x1 : Int32) (x2 : Int32) {rv : Int64} (hm : m_X0_ofSizes x0 x1 x2 = some rv) : gk_M l yX0_ofSizes wsX0_ofSizes rm_X0_ofSizes false G [.int x0, .int x1, .int x2] [] (some (.long rv)) [] :=
  gk_of (by decide) rfl (Nat.le_of_ble_eq_true rfl) (fun p e s m below meth c A ls C h hl => w_X0_ofSizes_0 C hm (fun v0 ez => by cases ez; rfl) h (show lv_has ls 7 [(0, .int x0), (1, .int x1), (2, .int x2)] from hl))

/-! ===== ExchangeFamilies.Family.twistedByOne(JI)J ===== -/
abbrev rm_X0_twistedByOne : Room := { frames := 1, cells := 0, slots := 0, locals := 64 }
theorem k_X0_twistedByOne_0 : Cond.constantLong RX0 19 (-1) ∈ wsX0_twistedByOne := by decide +kernel
def m_X0_twistedByOne_0 (x0 : Int64) (x2 : Int32) : Option (Int64) := gk_ix x2 6 (gk_ix x2 6 (some ((((x0 &&& (gk_hav x2.toNatClampNeg)).toUInt64 >>> (((1 : Int32) <<< (x2 &&& 31)).toInt64.toUInt64 &&& Int64.toUInt64 63)).toInt64) ||| ((x0 &&& ((gk_hav x2.toNatClampNeg) ^^^ (-1 : Int64))) <<< (((1 : Int32) <<< (x2 &&& 31)).toInt64 &&& 63)))))
set_option maxRecDepth 100000 in
set_option maxHeartbeats 4000000 in
theorem w_X0_twistedByOne_0 {p : Program} {l : Launch} {e : Env} {s : State} {m : MethodId} {args : Array Value} {below : List Frame} {meth : Method} {c : Code} {G : gk_G} {A : Nat → Prop} {Q : State → Prop} (C : gk_C p s m args meth c cX0_twistedByOne 7 (some .long) yX0_twistedByOne wsX0_twistedByOne true G A) {x0 : Int64} {x2 : Int32} {yy : Int64} (hm : m_X0_twistedByOne_0 x0 x2 = some yy) (kr : ∀ (rv : Int64), yy = rv → Q = MQ below (gk_Q G (some (.long rv)) [] A) args s 0 0 A) {H : Heap} {locs : List Loc} {ls : Array Slot} (h : gk_H G A s [] H locs) (hl : lv_has ls 7 [(0, .long x0), (2, .int x2)]) : W p l e rm_X0_twistedByOne s m args below meth c H locs 0 0 Q (F0 m 0 ls []) := by
  obtain ⟨hx, hb, hml, hr, hown, hnm, hts, hlk, hK, hSt, hA⟩ := id C
  obtain ⟨hP, hD, hS⟩ := h
  unfold m_X0_twistedByOne_0 at hm
  refine lv_lload_n hx hb dX0_twistedByOne_0 rfl (lv_at hl 0 rfl) ?_
  refine va_getsN (own := RX0) (ref := "ExchangeFamilies") (host := "ExchangeFamilies") hx hb (hSt rfl).1.1 hS hown (va_Nw.use rfl (hSt rfl).2.2.2.1) (fun _ h9 => h9) dX0_twistedByOne_1 ?_
  refine lv_iload_n hx hb dX0_twistedByOne_4 rfl (lv_at hl 1 rfl) ?_
  obtain ⟨hi, hm⟩ := gk_ix_some hm
  refine va_tl hx hb (hSt rfl).1.2 hS hi rfl dX0_twistedByOne_5 ?_
  refine lv_land hx hb dX0_twistedByOne_6 ?_
  refine lv_lstore_n (lv' := [(3, .long (x0 &&& (gk_hav x2.toNatClampNeg))), (0, .long x0), (2, .int x2)]) hx hb dX0_twistedByOne_7 rfl hl (by decide) rfl (fun ls hl => ?_)
  refine lv_lload_n hx hb dX0_twistedByOne_8 rfl (lv_at hl 1 rfl) ?_
  refine va_getsN (own := RX0) (ref := "ExchangeFamilies") (host := "ExchangeFamilies") hx hb (hSt rfl).1.1 hS hown (va_Nw.use rfl (hSt rfl).2.2.2.1) (fun _ h9 => h9) dX0_twistedByOne_9 ?_
  refine lv_iload_n hx hb dX0_twistedByOne_12 rfl (lv_at hl 2 rfl) ?_
  obtain ⟨hi, hm⟩ := gk_ix_some hm
  refine va_tl hx hb (hSt rfl).1.2 hS hi rfl dX0_twistedByOne_13 ?_
  refine lv_ldc2 (own := RX0) (v := -1) hx hb hown (hts _ k_X0_twistedByOne_0) dX0_twistedByOne_14 ?_
  refine lv_lxor hx hb dX0_twistedByOne_17 ?_
  refine lv_land hx hb dX0_twistedByOne_18 ?_
  refine lv_lstore (lv' := [(5, .long (x0 &&& ((gk_hav x2.toNatClampNeg) ^^^ (-1 : Int64)))), (3, .long (x0 &&& (gk_hav x2.toNatClampNeg))), (0, .long x0), (2, .int x2)]) hx hb dX0_twistedByOne_19 hl (by decide) rfl (fun ls hl => ?_)
  refine lv_lload_n hx hb dX0_twistedByOne_21 rfl (lv_at hl 1 rfl) ?_
  refine lv_iconst (v := 1) hx hb dX0_twistedByOne_22 (by decide) ?_
  refine lv_iload_n hx hb dX0_twistedByOne_23 rfl (lv_at hl 3 rfl) ?_
  refine lv_ishl hx hb dX0_twistedByOne_24 ?_
  refine lv_lushr hx hb dX0_twistedByOne_25 rfl ?_
  refine lv_lload hx hb dX0_twistedByOne_26 (lv_at hl 0 rfl) ?_
  refine lv_iconst (v := 1) hx hb dX0_twistedByOne_28 (by decide) ?_
  refine lv_iload_n hx hb dX0_twistedByOne_29 rfl (lv_at hl 3 rfl) ?_
  refine lv_ishl hx hb dX0_twistedByOne_30 ?_
  refine lv_lshl hx hb dX0_twistedByOne_31 rfl ?_
  refine lv_lor hx hb dX0_twistedByOne_32 ?_
  rw [kr _ (Option.some.inj hm).symm]
  exact gk_lret C ⟨hP, hD, hS⟩ dX0_twistedByOne_33
def m_X0_twistedByOne (x0 : Int64) (x2 : Int32) : Option (Int64) := m_X0_twistedByOne_0 x0 x2
theorem c_X0_twistedByOne (l : Launch) (G : gk_G) (x0 : Int64) (x2 : Int32) {rv : Int64} (hm : m_X0_twistedByOne x0 x2 = some rv) : gk_M l yX0_twistedByOne wsX0_twistedByOne rm_X0_twistedByOne true G [.long x0, .int x2] [] (some (.long rv)) [] :=
  gk_of (by decide) rfl (Nat.le_of_ble_eq_true rfl) (fun p e s m below meth c A ls C h hl => w_X0_twistedByOne_0 C hm (fun v0 ez => by cases ez; rfl) h (show lv_has ls 7 [(0, .long x0), (2, .int x2)] from hl))

/-! ===== ExchangeFamilies.Family.twisted(JI)J ===== -/
abbrev rm_X0_twisted : Room := { frames := 3, cells := 0, slots := 0, locals := 154 }
def m_X0_twisted_B5 (x2 : Int32) (x3 : Int64) (x5 : Int32) : Option ((Int64 × Int32) ⊕ (Int64)) := (if (6 : Int32) ≤ x5 then some (.inr x3) else (if ((x2 >>> (x5 &&& 31)) &&& (1 : Int32)) = (0 : Int32) then some (.inl (x3, x5 + 1)) else gk_bd1 (m_X0_twistedByOne x3 x5) (fun r5 => some (.inl (r5, x5 + 1)))))
set_option maxRecDepth 100000 in
set_option maxHeartbeats 4000000 in
theorem w_X0_twisted_B5 {p : Program} {l : Launch} {e : Env} {s : State} {m : MethodId} {args : Array Value} {below : List Frame} {meth : Method} {c : Code} {G : gk_G} {A : Nat → Prop} {Q : State → Prop} (C : gk_C p s m args meth c cX0_twisted 6 (some .long) yX0_twisted wsX0_twisted true G A) {x2 : Int32} {x3 : Int64} {x5 : Int32} {yy : (Int64 × Int32) ⊕ (Int64)} (hm : m_X0_twisted_B5 x2 x3 x5 = some yy) (kl : ∀ (x3 : Int64) (x5 : Int32), yy = .inl (x3, x5) → ∀ (H : Heap) (locs : List Loc) (ls : Array Slot), gk_H G A s [] H locs → lv_has ls 6 [(2, .int x2), (3, .long x3), (5, .int x5)] → W p l e rm_X0_twisted s m args below meth c H locs 0 0 Q (F0 m 5 ls [])) (kx : ∀ (x3 : Int64), yy = .inr x3 → ∀ (H : Heap) (locs : List Loc) (ls : Array Slot), gk_H G A s [] H locs → lv_has ls 6 [(3, .long x3)] → W p l e rm_X0_twisted s m args below meth c H locs 0 0 Q (F0 m 34 ls [])) {H : Heap} {locs : List Loc} {ls : Array Slot} (h : gk_H G A s [] H locs) (hl : lv_has ls 6 [(2, .int x2), (3, .long x3), (5, .int x5)]) : W p l e rm_X0_twisted s m args below meth c H locs 0 0 Q (F0 m 5 ls []) := by
  obtain ⟨hx, hb, hml, hr, hown, hnm, hts, hlk, hK, hSt, hA⟩ := id C
  obtain ⟨hP, hD, hS⟩ := h
  unfold m_X0_twisted_B5 at hm
  refine lv_iload hx hb dX0_twisted_5 (lv_at hl 2 rfl) ?_
  refine lv_bipush (v := 6) hx hb dX0_twisted_7 (by decide) ?_
  refine lv_icmp_ge (tgt := 34) hx hb dX0_twisted_9 (by decide) (fun c3 => ?_) (fun c3 => ?_)
  · have hm := gk_it c3 hm
    exact kx _ (Option.some.inj hm).symm _ _ _ ⟨hP, hD, hS⟩ (lv_sub hl [1] rfl)
  · have hm := gk_if c3 hm
    refine lv_iload_n hx hb dX0_twisted_12 rfl (lv_at hl 0 rfl) ?_
    refine lv_iload hx hb dX0_twisted_13 (lv_at hl 2 rfl) ?_
    refine lv_ishr hx hb dX0_twisted_15 ?_
    refine lv_iconst (v := 1) hx hb dX0_twisted_16 (by decide) ?_
    refine lv_iand hx hb dX0_twisted_17 ?_
    refine lv_if_eq (tgt := 28) hx hb dX0_twisted_18 (by decide) (fun c4 => ?_) (fun c4 => ?_)
    · have hm := gk_it c4 hm
      refine lv_iinc (v := x5 + 1) (lv' := [(5, .int (x5 + 1)), (2, .int x2), (3, .long x3)]) hx hb dX0_twisted_28 hl (k := 2) rfl rfl (by decide) rfl (fun ls hl => ?_)
      refine lv_goto (tgt := 5) hx hb dX0_twisted_31 (by decide) ?_
      exact kl _ _ (Option.some.inj hm).symm _ _ _ ⟨hP, hD, hS⟩ (lv_sub hl [1, 2, 0] rfl)
    · have hm := gk_if c4 hm
      refine lv_lload_n hx hb dX0_twisted_21 rfl (lv_at hl 1 rfl) ?_
      refine lv_iload hx hb dX0_twisted_22 (lv_at hl 2 rfl) ?_
      obtain ⟨r5, hq, hm⟩ := gk_bd1_some hm
      refine gk_callS (n := 2) (bytes := cX0_twistedByOne) (maxL := 7) (ret := (some .long)) [] [] [] C ⟨hP, hD, hS⟩ (c_X0_twistedByOne l G x3 x5 hq) gX0_twisted_X0_twistedByOne dX0_twisted_24 hl.1 [] [] [] rfl ⟨rfl, rfl⟩ ⟨Nat.le_of_ble_eq_true rfl, Nat.le_of_ble_eq_true rfl⟩ ⟨by decide +kernel, by decide +kernel, by decide +kernel⟩ rfl (fun h => h) (Nat.le_of_ble_eq_true rfl) rfl rfl rfl rfl (by decide) rfl rfl (fun H locs h => ?_)
      obtain ⟨hP, hD, hS⟩ := h
      refine lv_lstore_n (lv' := [(3, .long r5), (2, .int x2), (5, .int x5)]) hx hb dX0_twisted_27 rfl hl (by decide) rfl (fun ls hl => ?_)
      refine lv_iinc (v := x5 + 1) (lv' := [(5, .int (x5 + 1)), (3, .long r5), (2, .int x2)]) hx hb dX0_twisted_28 hl (k := 2) rfl rfl (by decide) rfl (fun ls hl => ?_)
      refine lv_goto (tgt := 5) hx hb dX0_twisted_31 (by decide) ?_
      exact kl _ _ (Option.some.inj hm).symm _ _ _ ⟨hP, hD, hS⟩ (lv_sub hl [2, 1, 0] rfl)
set_option maxRecDepth 100000 in
set_option maxHeartbeats 4000000 in
theorem w_X0_twisted_L5 {p : Program} {l : Launch} {e : Env} {s : State} {m : MethodId} {args : Array Value} {below : List Frame} {meth : Method} {c : Code} {G : gk_G} {A : Nat → Prop} {Q : State → Prop} (C : gk_C p s m args meth c cX0_twisted 6 (some .long) yX0_twisted wsX0_twisted true G A) {x2 : Int32} {x3 : Int64} {x5 : Int32} {k : Nat} {e_x3 : Int64} (hm : gk_lp (fun z => m_X0_twisted_B5 x2 z.1 z.2) k (x3, x5) = some e_x3) (kx : ∀ (H : Heap) (locs : List Loc) (ls : Array Slot), gk_H G A s [] H locs → lv_has ls 6 [(3, .long e_x3)] → W p l e rm_X0_twisted s m args below meth c H locs 0 0 Q (F0 m 34 ls [])) {H : Heap} {locs : List Loc} {ls : Array Slot} (h : gk_H G A s [] H locs) (hl : lv_has ls 6 [(2, .int x2), (3, .long x3), (5, .int x5)]) : W p l e rm_X0_twisted s m args below meth c H locs 0 0 Q (F0 m 5 ls []) :=
  gk_lp_some (P := fun z => ∀ (H : Heap) (locs : List Loc) (ls : Array Slot), gk_H G A s [] H locs → lv_has ls 6 [(2, .int x2), (3, .long z.1), (5, .int z.2)] → W p l e rm_X0_twisted s m args below meth c H locs 0 0 Q (F0 m 5 ls [])) (E := fun r => (∀ (x3 : Int64), r = x3 → ∀ (H : Heap) (locs : List Loc) (ls : Array Slot), gk_H G A s [] H locs → lv_has ls 6 [(3, .long x3)] → W p l e rm_X0_twisted s m args below meth c H locs 0 0 Q (F0 m 34 ls []))) (fun z x hf kl ke H locs ls h hl => w_X0_twisted_B5 C hf (fun v0 v1 ez => kl (v0, v1) ez) (fun v0 ez => ke _ ez v0 rfl) h hl) k (x3, x5) _ hm (fun v0 ez => (by cases ez; exact kx)) _ _ _ h hl
def m_X0_twisted_0 (x0 : Int64) (x2 : Int32) : Option (Int64) := gk_bd1 (gk_lp (fun z => m_X0_twisted_B5 x2 z.1 z.2) gk_fu (x0, (0 : Int32))) (fun e6 => some e6)
set_option maxRecDepth 100000 in
set_option maxHeartbeats 4000000 in
theorem w_X0_twisted_0 {p : Program} {l : Launch} {e : Env} {s : State} {m : MethodId} {args : Array Value} {below : List Frame} {meth : Method} {c : Code} {G : gk_G} {A : Nat → Prop} {Q : State → Prop} (C : gk_C p s m args meth c cX0_twisted 6 (some .long) yX0_twisted wsX0_twisted true G A) {x0 : Int64} {x2 : Int32} {yy : Int64} (hm : m_X0_twisted_0 x0 x2 = some yy) (kr : ∀ (rv : Int64), yy = rv → Q = MQ below (gk_Q G (some (.long rv)) [] A) args s 0 0 A) {H : Heap} {locs : List Loc} {ls : Array Slot} (h : gk_H G A s [] H locs) (hl : lv_has ls 6 [(0, .long x0), (2, .int x2)]) : W p l e rm_X0_twisted s m args below meth c H locs 0 0 Q (F0 m 0 ls []) := by
  obtain ⟨hx, hb, hml, hr, hown, hnm, hts, hlk, hK, hSt, hA⟩ := id C
  obtain ⟨hP, hD, hS⟩ := h
  unfold m_X0_twisted_0 at hm
  refine lv_lload_n hx hb dX0_twisted_0 rfl (lv_at hl 0 rfl) ?_
  refine lv_lstore_n (lv' := [(3, .long x0), (0, .long x0), (2, .int x2)]) hx hb dX0_twisted_1 rfl hl (by decide) rfl (fun ls hl => ?_)
  refine lv_iconst (v := 0) hx hb dX0_twisted_2 (by decide) ?_
  refine lv_istore (lv' := [(5, .int (0 : Int32)), (3, .long x0), (0, .long x0), (2, .int x2)]) hx hb dX0_twisted_3 hl (by decide) rfl (fun ls hl => ?_)
  obtain ⟨e6, hq, hm⟩ := gk_bd1_some hm
  refine w_X0_twisted_L5 C hq (fun H locs ls h hl => ?_) ⟨hP, hD, hS⟩ (lv_sub hl [3, 1, 0] rfl)
  obtain ⟨hP, hD, hS⟩ := h
  refine lv_lload_n hx hb dX0_twisted_34 rfl (lv_at hl 0 rfl) ?_
  rw [kr _ (Option.some.inj hm).symm]
  exact gk_lret C ⟨hP, hD, hS⟩ dX0_twisted_35
def m_X0_twisted (x0 : Int64) (x2 : Int32) : Option (Int64) := m_X0_twisted_0 x0 x2
theorem c_X0_twisted (l : Launch) (G : gk_G) (x0 : Int64) (x2 : Int32) {rv : Int64} (hm : m_X0_twisted x0 x2 = some rv) : gk_M l yX0_twisted wsX0_twisted rm_X0_twisted true G [.long x0, .int x2] [] (some (.long rv)) [] :=
  gk_of (by decide) rfl (Nat.le_of_ble_eq_true rfl) (fun p e s m below meth c A ls C h hl => w_X0_twisted_0 C hm (fun v0 ez => by cases ez; rfl) h (show lv_has ls 6 [(0, .long x0), (2, .int x2)] from hl))

/-! ===== ExchangeFamilies.Family.leftOut(JI)J ===== -/
abbrev rm_X0_leftOut : Room := { frames := 1, cells := 0, slots := 0, locals := 64 }
theorem k_X0_leftOut_0 : Cond.constantLong RX0 19 (-1) ∈ wsX0_leftOut := by decide +kernel
def m_X0_leftOut_0 (x0 : Int64) (x2 : Int32) : Option (Int64) := gk_ix x2 6 ((if (lg_cmp (x0 &&& ((gk_hav x2.toNatClampNeg) ^^^ (-1 : Int64))) (0 : Int64)) = (0 : Int32) then some ((x0.toUInt64 >>> (((1 : Int32) <<< (x2 &&& 31)).toInt64.toUInt64 &&& Int64.toUInt64 63)).toInt64) else some (x0 &&& ((gk_hav x2.toNatClampNeg) ^^^ (-1 : Int64)))))
set_option maxRecDepth 100000 in
set_option maxHeartbeats 4000000 in
theorem w_X0_leftOut_0 {p : Program} {l : Launch} {e : Env} {s : State} {m : MethodId} {args : Array Value} {below : List Frame} {meth : Method} {c : Code} {G : gk_G} {A : Nat → Prop} {Q : State → Prop} (C : gk_C p s m args meth c cX0_leftOut 5 (some .long) yX0_leftOut wsX0_leftOut true G A) {x0 : Int64} {x2 : Int32} {yy : Int64} (hm : m_X0_leftOut_0 x0 x2 = some yy) (kr : ∀ (rv : Int64), yy = rv → Q = MQ below (gk_Q G (some (.long rv)) [] A) args s 0 0 A) {H : Heap} {locs : List Loc} {ls : Array Slot} (h : gk_H G A s [] H locs) (hl : lv_has ls 5 [(0, .long x0), (2, .int x2)]) : W p l e rm_X0_leftOut s m args below meth c H locs 0 0 Q (F0 m 0 ls []) := by
  obtain ⟨hx, hb, hml, hr, hown, hnm, hts, hlk, hK, hSt, hA⟩ := id C
  obtain ⟨hP, hD, hS⟩ := h
  unfold m_X0_leftOut_0 at hm
  refine lv_lload_n hx hb dX0_leftOut_0 rfl (lv_at hl 0 rfl) ?_
  refine va_getsN (own := RX0) (ref := "ExchangeFamilies") (host := "ExchangeFamilies") hx hb (hSt rfl).1.1 hS hown (va_Nw.use rfl (hSt rfl).2.2.2.1) (fun _ h9 => h9) dX0_leftOut_1 ?_
  refine lv_iload_n hx hb dX0_leftOut_4 rfl (lv_at hl 1 rfl) ?_
  obtain ⟨hi, hm⟩ := gk_ix_some hm
  refine va_tl hx hb (hSt rfl).1.2 hS hi rfl dX0_leftOut_5 ?_
  refine lv_ldc2 (own := RX0) (v := -1) hx hb hown (hts _ k_X0_leftOut_0) dX0_leftOut_6 ?_
  refine lv_lxor hx hb dX0_leftOut_9 ?_
  refine lv_land hx hb dX0_leftOut_10 ?_
  refine lv_lstore_n (lv' := [(3, .long (x0 &&& ((gk_hav x2.toNatClampNeg) ^^^ (-1 : Int64)))), (0, .long x0), (2, .int x2)]) hx hb dX0_leftOut_11 rfl hl (by decide) rfl (fun ls hl => ?_)
  refine lv_lload_n hx hb dX0_leftOut_12 rfl (lv_at hl 0 rfl) ?_
  refine lv_lconst (v := 0) hx hb dX0_leftOut_13 (by decide) ?_
  refine W.lcmp hx hb dX0_leftOut_14 ?_
  refine lv_if_eq (tgt := 22) hx hb dX0_leftOut_15 (by decide) (fun c2 => ?_) (fun c2 => ?_)
  · have hm := gk_it c2 hm
    refine lv_lload_n hx hb dX0_leftOut_22 rfl (lv_at hl 1 rfl) ?_
    refine lv_iconst (v := 1) hx hb dX0_leftOut_23 (by decide) ?_
    refine lv_iload_n hx hb dX0_leftOut_24 rfl (lv_at hl 2 rfl) ?_
    refine lv_ishl hx hb dX0_leftOut_25 ?_
    refine lv_lushr hx hb dX0_leftOut_26 rfl ?_
    rw [kr _ (Option.some.inj hm).symm]
    exact gk_lret C ⟨hP, hD, hS⟩ dX0_leftOut_27
  · have hm := gk_if c2 hm
    refine lv_lload_n hx hb dX0_leftOut_18 rfl (lv_at hl 0 rfl) ?_
    refine lv_goto (tgt := 27) hx hb dX0_leftOut_19 (by decide) ?_
    rw [kr _ (Option.some.inj hm).symm]
    exact gk_lret C ⟨hP, hD, hS⟩ dX0_leftOut_27
def m_X0_leftOut (x0 : Int64) (x2 : Int32) : Option (Int64) := m_X0_leftOut_0 x0 x2
theorem c_X0_leftOut (l : Launch) (G : gk_G) (x0 : Int64) (x2 : Int32) {rv : Int64} (hm : m_X0_leftOut x0 x2 = some rv) : gk_M l yX0_leftOut wsX0_leftOut rm_X0_leftOut true G [.long x0, .int x2] [] (some (.long rv)) [] :=
  gk_of (by decide) rfl (Nat.le_of_ble_eq_true rfl) (fun p e s m below meth c A ls C h hl => w_X0_leftOut_0 C hm (fun v0 ez => by cases ez; rfl) h (show lv_has ls 5 [(0, .long x0), (2, .int x2)] from hl))

/-! ===== ExchangeFamilies.Family.drawnTogether(JI)J ===== -/
abbrev rm_X0_drawnTogether : Room := { frames := 1, cells := 0, slots := 0, locals := 64 }
def m_X0_drawnTogether_0 (x0 : Int64) (x2 : Int32) : Option (Int64) := gk_ix x2 6 ((if (lg_cmp (x0 &&& (gk_hav x2.toNatClampNeg)) (0 : Int64)) = (0 : Int32) then some x0 else some (((x0 &&& (gk_hav x2.toNatClampNeg)).toUInt64 >>> (((1 : Int32) <<< (x2 &&& 31)).toInt64.toUInt64 &&& Int64.toUInt64 63)).toInt64)))
set_option maxRecDepth 100000 in
set_option maxHeartbeats 4000000 in
theorem w_X0_drawnTogether_0 {p : Program} {l : Launch} {e : Env} {s : State} {m : MethodId} {args : Array Value} {below : List Frame} {meth : Method} {c : Code} {G : gk_G} {A : Nat → Prop} {Q : State → Prop} (C : gk_C p s m args meth c cX0_drawnTogether 5 (some .long) yX0_drawnTogether wsX0_drawnTogether true G A) {x0 : Int64} {x2 : Int32} {yy : Int64} (hm : m_X0_drawnTogether_0 x0 x2 = some yy) (kr : ∀ (rv : Int64), yy = rv → Q = MQ below (gk_Q G (some (.long rv)) [] A) args s 0 0 A) {H : Heap} {locs : List Loc} {ls : Array Slot} (h : gk_H G A s [] H locs) (hl : lv_has ls 5 [(0, .long x0), (2, .int x2)]) : W p l e rm_X0_drawnTogether s m args below meth c H locs 0 0 Q (F0 m 0 ls []) := by
  obtain ⟨hx, hb, hml, hr, hown, hnm, hts, hlk, hK, hSt, hA⟩ := id C
  obtain ⟨hP, hD, hS⟩ := h
  unfold m_X0_drawnTogether_0 at hm
  refine lv_lload_n hx hb dX0_drawnTogether_0 rfl (lv_at hl 0 rfl) ?_
  refine va_getsN (own := RX0) (ref := "ExchangeFamilies") (host := "ExchangeFamilies") hx hb (hSt rfl).1.1 hS hown (va_Nw.use rfl (hSt rfl).2.2.2.1) (fun _ h9 => h9) dX0_drawnTogether_1 ?_
  refine lv_iload_n hx hb dX0_drawnTogether_4 rfl (lv_at hl 1 rfl) ?_
  obtain ⟨hi, hm⟩ := gk_ix_some hm
  refine va_tl hx hb (hSt rfl).1.2 hS hi rfl dX0_drawnTogether_5 ?_
  refine lv_land hx hb dX0_drawnTogether_6 ?_
  refine lv_lstore_n (lv' := [(3, .long (x0 &&& (gk_hav x2.toNatClampNeg))), (0, .long x0), (2, .int x2)]) hx hb dX0_drawnTogether_7 rfl hl (by decide) rfl (fun ls hl => ?_)
  refine lv_lload_n hx hb dX0_drawnTogether_8 rfl (lv_at hl 0 rfl) ?_
  refine lv_lconst (v := 0) hx hb dX0_drawnTogether_9 (by decide) ?_
  refine W.lcmp hx hb dX0_drawnTogether_10 ?_
  refine lv_if_eq (tgt := 22) hx hb dX0_drawnTogether_11 (by decide) (fun c2 => ?_) (fun c2 => ?_)
  · have hm := gk_it c2 hm
    refine lv_lload_n hx hb dX0_drawnTogether_22 rfl (lv_at hl 1 rfl) ?_
    rw [kr _ (Option.some.inj hm).symm]
    exact gk_lret C ⟨hP, hD, hS⟩ dX0_drawnTogether_23
  · have hm := gk_if c2 hm
    refine lv_lload_n hx hb dX0_drawnTogether_14 rfl (lv_at hl 0 rfl) ?_
    refine lv_iconst (v := 1) hx hb dX0_drawnTogether_15 (by decide) ?_
    refine lv_iload_n hx hb dX0_drawnTogether_16 rfl (lv_at hl 2 rfl) ?_
    refine lv_ishl hx hb dX0_drawnTogether_17 ?_
    refine lv_lushr hx hb dX0_drawnTogether_18 rfl ?_
    refine lv_goto (tgt := 23) hx hb dX0_drawnTogether_19 (by decide) ?_
    rw [kr _ (Option.some.inj hm).symm]
    exact gk_lret C ⟨hP, hD, hS⟩ dX0_drawnTogether_23
def m_X0_drawnTogether (x0 : Int64) (x2 : Int32) : Option (Int64) := m_X0_drawnTogether_0 x0 x2
theorem c_X0_drawnTogether (l : Launch) (G : gk_G) (x0 : Int64) (x2 : Int32) {rv : Int64} (hm : m_X0_drawnTogether x0 x2 = some rv) : gk_M l yX0_drawnTogether wsX0_drawnTogether rm_X0_drawnTogether true G [.long x0, .int x2] [] (some (.long rv)) [] :=
  gk_of (by decide) rfl (Nat.le_of_ble_eq_true rfl) (fun p e s m below meth c A ls C h hl => w_X0_drawnTogether_0 C hm (fun v0 ez => by cases ez; rfl) h (show lv_has ls 5 [(0, .long x0), (2, .int x2)] from hl))

/-! ===== ExchangeFamilies.Family.first(J)I ===== -/
abbrev rm_X0_first : Room := { frames := 3, cells := 0, slots := 0, locals := 149 }
def m_X0_first_0 (x0 : Int64) : Option (Int32) := gk_bd1 (m_J13_bitCount_95d88 ((x0 &&& (-x0)) - (1 : Int64))) (fun r1 => some r1)
set_option maxRecDepth 100000 in
set_option maxHeartbeats 4000000 in
theorem w_X0_first_0 {p : Program} {l : Launch} {e : Env} {s : State} {m : MethodId} {args : Array Value} {below : List Frame} {meth : Method} {c : Code} {G : gk_G} {A : Nat → Prop} {Q : State → Prop} (C : gk_C p s m args meth c cX0_first 2 (some .int) yX0_first wsX0_first false G A) {x0 : Int64} {yy : Int32} (hm : m_X0_first_0 x0 = some yy) (kr : ∀ (rv : Int32), yy = rv → Q = MQ below (gk_Q G (some (.int rv)) [] A) args s 0 0 A) {H : Heap} {locs : List Loc} {ls : Array Slot} (h : gk_H G A s [] H locs) (hl : lv_has ls 2 [(0, .long x0)]) : W p l e rm_X0_first s m args below meth c H locs 0 0 Q (F0 m 0 ls []) := by
  obtain ⟨hx, hb, hml, hr, hown, hnm, hts, hlk, hK, hSt, hA⟩ := id C
  obtain ⟨hP, hD, hS⟩ := h
  unfold m_X0_first_0 at hm
  refine lv_lload_n hx hb dX0_first_0 rfl (lv_at hl 0 rfl) ?_
  refine lv_lload_n hx hb dX0_first_1 rfl (lv_at hl 0 rfl) ?_
  refine lv_lneg hx hb dX0_first_2 ?_
  refine lv_land hx hb dX0_first_3 ?_
  refine lv_lconst (v := 1) hx hb dX0_first_4 (by decide) ?_
  refine lv_lsub hx hb dX0_first_5 ?_
  obtain ⟨r1, hq, hm⟩ := gk_bd1_some hm
  refine gk_callS (n := 1) (bytes := cJ13_bitCount_95d88) (maxL := 2) (ret := (some .int)) [] [] [] C ⟨hP, hD, hS⟩ (c_J13_bitCount_95d88 l G ((x0 &&& (-x0)) - (1 : Int64)) hq) gX0_first_J13_bitCount_95d88 dX0_first_6 hl.1 [] [] [] rfl ⟨rfl, rfl⟩ ⟨Nat.le_of_ble_eq_true rfl, Nat.le_of_ble_eq_true rfl⟩ ⟨by decide +kernel, by decide +kernel, by decide +kernel⟩ rfl (fun h => by cases h) (Nat.le_of_ble_eq_true rfl) rfl rfl rfl rfl (by decide) rfl rfl (fun H locs h => ?_)
  obtain ⟨hP, hD, hS⟩ := h
  rw [kr _ (Option.some.inj hm).symm]
  exact gk_iret C ⟨hP, hD, hS⟩ dX0_first_9
def m_X0_first (x0 : Int64) : Option (Int32) := m_X0_first_0 x0
theorem c_X0_first (l : Launch) (G : gk_G) (x0 : Int64) {rv : Int32} (hm : m_X0_first x0 = some rv) : gk_M l yX0_first wsX0_first rm_X0_first false G [.long x0] [] (some (.int rv)) [] :=
  gk_of (by decide) rfl (Nat.le_of_ble_eq_true rfl) (fun p e s m below meth c A ls C h hl => w_X0_first_0 C hm (fun v0 ez => by cases ez; rfl) h (show lv_has ls 2 [(0, .long x0)] from hl))

/-! ===== ExchangeFamilies.Family.atPlace(JI)I ===== -/
abbrev rm_X0_atPlace : Room := { frames := 5, cells := 0, slots := 0, locals := 234 }
def m_X0_atPlace_B5 (x2 : Int32) (x3 : Int64) (x5 : Int32) : Option ((Int64 × Int32) ⊕ (Int64)) := (if x2 ≤ x5 then some (.inr x3) else some (.inl (x3 &&& (x3 - (1 : Int64)), x5 + 1)))
set_option maxRecDepth 100000 in
set_option maxHeartbeats 4000000 in
theorem w_X0_atPlace_B5 {p : Program} {l : Launch} {e : Env} {s : State} {m : MethodId} {args : Array Value} {below : List Frame} {meth : Method} {c : Code} {G : gk_G} {A : Nat → Prop} {Q : State → Prop} (C : gk_C p s m args meth c cX0_atPlace 6 (some .int) yX0_atPlace wsX0_atPlace false G A) {x2 : Int32} {x3 : Int64} {x5 : Int32} {yy : (Int64 × Int32) ⊕ (Int64)} (hm : m_X0_atPlace_B5 x2 x3 x5 = some yy) (kl : ∀ (x3 : Int64) (x5 : Int32), yy = .inl (x3, x5) → ∀ (H : Heap) (locs : List Loc) (ls : Array Slot), gk_H G A s [] H locs → lv_has ls 6 [(2, .int x2), (3, .long x3), (5, .int x5)] → W p l e rm_X0_atPlace s m args below meth c H locs 0 0 Q (F0 m 5 ls [])) (kx : ∀ (x3 : Int64), yy = .inr x3 → ∀ (H : Heap) (locs : List Loc) (ls : Array Slot), gk_H G A s [] H locs → lv_has ls 6 [(3, .long x3)] → W p l e rm_X0_atPlace s m args below meth c H locs 0 0 Q (F0 m 23 ls [])) {H : Heap} {locs : List Loc} {ls : Array Slot} (h : gk_H G A s [] H locs) (hl : lv_has ls 6 [(2, .int x2), (3, .long x3), (5, .int x5)]) : W p l e rm_X0_atPlace s m args below meth c H locs 0 0 Q (F0 m 5 ls []) := by
  obtain ⟨hx, hb, hml, hr, hown, hnm, hts, hlk, hK, hSt, hA⟩ := id C
  obtain ⟨hP, hD, hS⟩ := h
  unfold m_X0_atPlace_B5 at hm
  refine lv_iload hx hb dX0_atPlace_5 (lv_at hl 2 rfl) ?_
  refine lv_iload_n hx hb dX0_atPlace_7 rfl (lv_at hl 0 rfl) ?_
  refine lv_icmp_ge (tgt := 23) hx hb dX0_atPlace_8 (by decide) (fun c2 => ?_) (fun c2 => ?_)
  · have hm := gk_it c2 hm
    exact kx _ (Option.some.inj hm).symm _ _ _ ⟨hP, hD, hS⟩ (lv_sub hl [1] rfl)
  · have hm := gk_if c2 hm
    refine lv_lload_n hx hb dX0_atPlace_11 rfl (lv_at hl 1 rfl) ?_
    refine lv_lload_n hx hb dX0_atPlace_12 rfl (lv_at hl 1 rfl) ?_
    refine lv_lconst (v := 1) hx hb dX0_atPlace_13 (by decide) ?_
    refine lv_lsub hx hb dX0_atPlace_14 ?_
    refine lv_land hx hb dX0_atPlace_15 ?_
    refine lv_lstore_n (lv' := [(3, .long (x3 &&& (x3 - (1 : Int64)))), (2, .int x2), (5, .int x5)]) hx hb dX0_atPlace_16 rfl hl (by decide) rfl (fun ls hl => ?_)
    refine lv_iinc (v := x5 + 1) (lv' := [(5, .int (x5 + 1)), (3, .long (x3 &&& (x3 - (1 : Int64)))), (2, .int x2)]) hx hb dX0_atPlace_17 hl (k := 2) rfl rfl (by decide) rfl (fun ls hl => ?_)
    refine lv_goto (tgt := 5) hx hb dX0_atPlace_20 (by decide) ?_
    exact kl _ _ (Option.some.inj hm).symm _ _ _ ⟨hP, hD, hS⟩ (lv_sub hl [2, 1, 0] rfl)
set_option maxRecDepth 100000 in
set_option maxHeartbeats 4000000 in
theorem w_X0_atPlace_L5 {p : Program} {l : Launch} {e : Env} {s : State} {m : MethodId} {args : Array Value} {below : List Frame} {meth : Method} {c : Code} {G : gk_G} {A : Nat → Prop} {Q : State → Prop} (C : gk_C p s m args meth c cX0_atPlace 6 (some .int) yX0_atPlace wsX0_atPlace false G A) {x2 : Int32} {x3 : Int64} {x5 : Int32} {k : Nat} {e_x3 : Int64} (hm : gk_lp (fun z => m_X0_atPlace_B5 x2 z.1 z.2) k (x3, x5) = some e_x3) (kx : ∀ (H : Heap) (locs : List Loc) (ls : Array Slot), gk_H G A s [] H locs → lv_has ls 6 [(3, .long e_x3)] → W p l e rm_X0_atPlace s m args below meth c H locs 0 0 Q (F0 m 23 ls [])) {H : Heap} {locs : List Loc} {ls : Array Slot} (h : gk_H G A s [] H locs) (hl : lv_has ls 6 [(2, .int x2), (3, .long x3), (5, .int x5)]) : W p l e rm_X0_atPlace s m args below meth c H locs 0 0 Q (F0 m 5 ls []) :=
  gk_lp_some (P := fun z => ∀ (H : Heap) (locs : List Loc) (ls : Array Slot), gk_H G A s [] H locs → lv_has ls 6 [(2, .int x2), (3, .long z.1), (5, .int z.2)] → W p l e rm_X0_atPlace s m args below meth c H locs 0 0 Q (F0 m 5 ls [])) (E := fun r => (∀ (x3 : Int64), r = x3 → ∀ (H : Heap) (locs : List Loc) (ls : Array Slot), gk_H G A s [] H locs → lv_has ls 6 [(3, .long x3)] → W p l e rm_X0_atPlace s m args below meth c H locs 0 0 Q (F0 m 23 ls []))) (fun z x hf kl ke H locs ls h hl => w_X0_atPlace_B5 C hf (fun v0 v1 ez => kl (v0, v1) ez) (fun v0 ez => ke _ ez v0 rfl) h hl) k (x3, x5) _ hm (fun v0 ez => (by cases ez; exact kx)) _ _ _ h hl
def m_X0_atPlace_0 (x0 : Int64) (x2 : Int32) : Option (Int32) := gk_bd1 (gk_lp (fun z => m_X0_atPlace_B5 x2 z.1 z.2) gk_fu (x0, (0 : Int32))) (fun e3 => gk_bd1 (m_X0_first e3) (fun r4 => some r4))
set_option maxRecDepth 100000 in
set_option maxHeartbeats 4000000 in
theorem w_X0_atPlace_0 {p : Program} {l : Launch} {e : Env} {s : State} {m : MethodId} {args : Array Value} {below : List Frame} {meth : Method} {c : Code} {G : gk_G} {A : Nat → Prop} {Q : State → Prop} (C : gk_C p s m args meth c cX0_atPlace 6 (some .int) yX0_atPlace wsX0_atPlace false G A) {x0 : Int64} {x2 : Int32} {yy : Int32} (hm : m_X0_atPlace_0 x0 x2 = some yy) (kr : ∀ (rv : Int32), yy = rv → Q = MQ below (gk_Q G (some (.int rv)) [] A) args s 0 0 A) {H : Heap} {locs : List Loc} {ls : Array Slot} (h : gk_H G A s [] H locs) (hl : lv_has ls 6 [(0, .long x0), (2, .int x2)]) : W p l e rm_X0_atPlace s m args below meth c H locs 0 0 Q (F0 m 0 ls []) := by
  obtain ⟨hx, hb, hml, hr, hown, hnm, hts, hlk, hK, hSt, hA⟩ := id C
  obtain ⟨hP, hD, hS⟩ := h
  unfold m_X0_atPlace_0 at hm
  refine lv_lload_n hx hb dX0_atPlace_0 rfl (lv_at hl 0 rfl) ?_
  refine lv_lstore_n (lv' := [(3, .long x0), (0, .long x0), (2, .int x2)]) hx hb dX0_atPlace_1 rfl hl (by decide) rfl (fun ls hl => ?_)
  refine lv_iconst (v := 0) hx hb dX0_atPlace_2 (by decide) ?_
  refine lv_istore (lv' := [(5, .int (0 : Int32)), (3, .long x0), (0, .long x0), (2, .int x2)]) hx hb dX0_atPlace_3 hl (by decide) rfl (fun ls hl => ?_)
  obtain ⟨e3, hq, hm⟩ := gk_bd1_some hm
  refine w_X0_atPlace_L5 C hq (fun H locs ls h hl => ?_) ⟨hP, hD, hS⟩ (lv_sub hl [3, 1, 0] rfl)
  obtain ⟨hP, hD, hS⟩ := h
  refine lv_lload_n hx hb dX0_atPlace_23 rfl (lv_at hl 0 rfl) ?_
  obtain ⟨r4, hq, hm⟩ := gk_bd1_some hm
  refine gk_callS (n := 1) (bytes := cX0_first) (maxL := 2) (ret := (some .int)) [] [] [] C ⟨hP, hD, hS⟩ (c_X0_first l G e3 hq) gX0_atPlace_X0_first dX0_atPlace_24 hl.1 [] [] [] rfl ⟨rfl, rfl⟩ ⟨Nat.le_of_ble_eq_true rfl, Nat.le_of_ble_eq_true rfl⟩ ⟨by decide +kernel, by decide +kernel, by decide +kernel⟩ rfl (fun h => by cases h) (Nat.le_of_ble_eq_true rfl) rfl rfl rfl rfl (by decide) rfl rfl (fun H locs h => ?_)
  obtain ⟨hP, hD, hS⟩ := h
  rw [kr _ (Option.some.inj hm).symm]
  exact gk_iret C ⟨hP, hD, hS⟩ dX0_atPlace_27
def m_X0_atPlace (x0 : Int64) (x2 : Int32) : Option (Int32) := m_X0_atPlace_0 x0 x2
theorem c_X0_atPlace (l : Launch) (G : gk_G) (x0 : Int64) (x2 : Int32) {rv : Int32} (hm : m_X0_atPlace x0 x2 = some rv) : gk_M l yX0_atPlace wsX0_atPlace rm_X0_atPlace false G [.long x0, .int x2] [] (some (.int rv)) [] :=
  gk_of (by decide) rfl (Nat.le_of_ble_eq_true rfl) (fun p e s m below meth c A ls C h hl => w_X0_atPlace_0 C hm (fun v0 ez => by cases ez; rfl) h (show lv_has ls 6 [(0, .long x0), (2, .int x2)] from hl))

/-! ===== ExchangeFamilies.Family.sizes(J)I ===== -/
abbrev rm_X0_sizes : Room := { frames := 3, cells := 0, slots := 0, locals := 150 }
def m_X0_sizes_B4 (x0 : Int64) (x2 : Int32) (x3 : Int32) : Option ((Int32 × Int32) ⊕ (Int32)) := (if (64 : Int32) ≤ x3 then some (.inr x2) else gk_bd1 (m_X0_holds x0 x3) (fun r4 => (if r4 = (0 : Int32) then some (.inl (x2, x3 + 1)) else gk_bd1 (m_J6_bitCount_0f7a4 x3) (fun r6 => some (.inl (x2 ||| ((1 : Int32) <<< (r6 &&& 31)), x3 + 1))))))
set_option maxRecDepth 100000 in
set_option maxHeartbeats 4000000 in
theorem w_X0_sizes_B4 {p : Program} {l : Launch} {e : Env} {s : State} {m : MethodId} {args : Array Value} {below : List Frame} {meth : Method} {c : Code} {G : gk_G} {A : Nat → Prop} {Q : State → Prop} (C : gk_C p s m args meth c cX0_sizes 4 (some .int) yX0_sizes wsX0_sizes false G A) {x0 : Int64} {x2 : Int32} {x3 : Int32} {yy : (Int32 × Int32) ⊕ (Int32)} (hm : m_X0_sizes_B4 x0 x2 x3 = some yy) (kl : ∀ (x2 : Int32) (x3 : Int32), yy = .inl (x2, x3) → ∀ (H : Heap) (locs : List Loc) (ls : Array Slot), gk_H G A s [] H locs → lv_has ls 4 [(0, .long x0), (2, .int x2), (3, .int x3)] → W p l e rm_X0_sizes s m args below meth c H locs 0 0 Q (F0 m 4 ls [])) (kx : ∀ (x2 : Int32), yy = .inr x2 → ∀ (H : Heap) (locs : List Loc) (ls : Array Slot), gk_H G A s [] H locs → lv_has ls 4 [(2, .int x2)] → W p l e rm_X0_sizes s m args below meth c H locs 0 0 Q (F0 m 33 ls [])) {H : Heap} {locs : List Loc} {ls : Array Slot} (h : gk_H G A s [] H locs) (hl : lv_has ls 4 [(0, .long x0), (2, .int x2), (3, .int x3)]) : W p l e rm_X0_sizes s m args below meth c H locs 0 0 Q (F0 m 4 ls []) := by
  obtain ⟨hx, hb, hml, hr, hown, hnm, hts, hlk, hK, hSt, hA⟩ := id C
  obtain ⟨hP, hD, hS⟩ := h
  unfold m_X0_sizes_B4 at hm
  refine lv_iload_n hx hb dX0_sizes_4 rfl (lv_at hl 2 rfl) ?_
  refine lv_bipush (v := 64) hx hb dX0_sizes_5 (by decide) ?_
  refine lv_icmp_ge (tgt := 33) hx hb dX0_sizes_7 (by decide) (fun c3 => ?_) (fun c3 => ?_)
  · have hm := gk_it c3 hm
    exact kx _ (Option.some.inj hm).symm _ _ _ ⟨hP, hD, hS⟩ (lv_sub hl [1] rfl)
  · have hm := gk_if c3 hm
    refine lv_lload_n hx hb dX0_sizes_10 rfl (lv_at hl 0 rfl) ?_
    refine lv_iload_n hx hb dX0_sizes_11 rfl (lv_at hl 2 rfl) ?_
    obtain ⟨r4, hq, hm⟩ := gk_bd1_some hm
    refine gk_callS (n := 2) (bytes := cX0_holds) (maxL := 3) (ret := (some .boolean)) [] [] [] C ⟨hP, hD, hS⟩ (c_X0_holds l G x0 x3 hq) gX0_sizes_X0_holds dX0_sizes_12 hl.1 [] [] [] rfl ⟨rfl, rfl⟩ ⟨Nat.le_of_ble_eq_true rfl, Nat.le_of_ble_eq_true rfl⟩ ⟨by decide +kernel, by decide +kernel, by decide +kernel⟩ rfl (fun h => by cases h) (Nat.le_of_ble_eq_true rfl) rfl rfl rfl rfl (by decide) rfl rfl (fun H locs h => ?_)
    obtain ⟨hP, hD, hS⟩ := h
    refine lv_if_eq (tgt := 27) hx hb dX0_sizes_15 (by decide) (fun c5 => ?_) (fun c5 => ?_)
    · have hm := gk_it c5 hm
      refine lv_iinc (v := x3 + 1) (lv' := [(3, .int (x3 + 1)), (0, .long x0), (2, .int x2)]) hx hb dX0_sizes_27 hl (k := 2) rfl rfl (by decide) rfl (fun ls hl => ?_)
      refine lv_goto (tgt := 4) hx hb dX0_sizes_30 (by decide) ?_
      exact kl _ _ (Option.some.inj hm).symm _ _ _ ⟨hP, hD, hS⟩ (lv_sub hl [1, 2, 0] rfl)
    · have hm := gk_if c5 hm
      refine lv_iload_n hx hb dX0_sizes_18 rfl (lv_at hl 1 rfl) ?_
      refine lv_iconst (v := 1) hx hb dX0_sizes_19 (by decide) ?_
      refine lv_iload_n hx hb dX0_sizes_20 rfl (lv_at hl 2 rfl) ?_
      obtain ⟨r6, hq, hm⟩ := gk_bd1_some hm
      refine gk_callS (n := 1) (bytes := cJ6_bitCount_0f7a4) (maxL := 1) (ret := (some .int)) [] [] [.int (1 : Int32), .int x2] C ⟨hP, hD, hS⟩ (c_J6_bitCount_0f7a4 l G x3 hq) gX0_sizes_J6_bitCount_0f7a4 dX0_sizes_21 hl.1 [] [] [] rfl ⟨rfl, rfl⟩ ⟨Nat.le_of_ble_eq_true rfl, Nat.le_of_ble_eq_true rfl⟩ ⟨by decide +kernel, by decide +kernel, by decide +kernel⟩ rfl (fun h => by cases h) (Nat.le_of_ble_eq_true rfl) rfl rfl rfl rfl (by decide) rfl rfl (fun H locs h => ?_)
      obtain ⟨hP, hD, hS⟩ := h
      refine lv_ishl hx hb dX0_sizes_24 ?_
      refine lv_ior hx hb dX0_sizes_25 ?_
      refine lv_istore_n (lv' := [(2, .int (x2 ||| ((1 : Int32) <<< (r6 &&& 31)))), (0, .long x0), (3, .int x3)]) hx hb dX0_sizes_26 rfl hl (by decide) rfl (fun ls hl => ?_)
      refine lv_iinc (v := x3 + 1) (lv' := [(3, .int (x3 + 1)), (2, .int (x2 ||| ((1 : Int32) <<< (r6 &&& 31)))), (0, .long x0)]) hx hb dX0_sizes_27 hl (k := 2) rfl rfl (by decide) rfl (fun ls hl => ?_)
      refine lv_goto (tgt := 4) hx hb dX0_sizes_30 (by decide) ?_
      exact kl _ _ (Option.some.inj hm).symm _ _ _ ⟨hP, hD, hS⟩ (lv_sub hl [2, 1, 0] rfl)
set_option maxRecDepth 100000 in
set_option maxHeartbeats 4000000 in
theorem w_X0_sizes_L4 {p : Program} {l : Launch} {e : Env} {s : State} {m : MethodId} {args : Array Value} {below : List Frame} {meth : Method} {c : Code} {G : gk_G} {A : Nat → Prop} {Q : State → Prop} (C : gk_C p s m args meth c cX0_sizes 4 (some .int) yX0_sizes wsX0_sizes false G A) {x0 : Int64} {x2 : Int32} {x3 : Int32} {k : Nat} {e_x2 : Int32} (hm : gk_lp (fun z => m_X0_sizes_B4 x0 z.1 z.2) k (x2, x3) = some e_x2) (kx : ∀ (H : Heap) (locs : List Loc) (ls : Array Slot), gk_H G A s [] H locs → lv_has ls 4 [(2, .int e_x2)] → W p l e rm_X0_sizes s m args below meth c H locs 0 0 Q (F0 m 33 ls [])) {H : Heap} {locs : List Loc} {ls : Array Slot} (h : gk_H G A s [] H locs) (hl : lv_has ls 4 [(0, .long x0), (2, .int x2), (3, .int x3)]) : W p l e rm_X0_sizes s m args below meth c H locs 0 0 Q (F0 m 4 ls []) :=
  gk_lp_some (P := fun z => ∀ (H : Heap) (locs : List Loc) (ls : Array Slot), gk_H G A s [] H locs → lv_has ls 4 [(0, .long x0), (2, .int z.1), (3, .int z.2)] → W p l e rm_X0_sizes s m args below meth c H locs 0 0 Q (F0 m 4 ls [])) (E := fun r => (∀ (x2 : Int32), r = x2 → ∀ (H : Heap) (locs : List Loc) (ls : Array Slot), gk_H G A s [] H locs → lv_has ls 4 [(2, .int x2)] → W p l e rm_X0_sizes s m args below meth c H locs 0 0 Q (F0 m 33 ls []))) (fun z x hf kl ke H locs ls h hl => w_X0_sizes_B4 C hf (fun v0 v1 ez => kl (v0, v1) ez) (fun v0 ez => ke _ ez v0 rfl) h hl) k (x2, x3) _ hm (fun v0 ez => (by cases ez; exact kx)) _ _ _ h hl
def m_X0_sizes_0 (x0 : Int64) : Option (Int32) := gk_bd1 (gk_lp (fun z => m_X0_sizes_B4 x0 z.1 z.2) gk_fu ((0 : Int32), (0 : Int32))) (fun e7 => some e7)
set_option maxRecDepth 100000 in
set_option maxHeartbeats 4000000 in
theorem w_X0_sizes_0 {p : Program} {l : Launch} {e : Env} {s : State} {m : MethodId} {args : Array Value} {below : List Frame} {meth : Method} {c : Code} {G : gk_G} {A : Nat → Prop} {Q : State → Prop} (C : gk_C p s m args meth c cX0_sizes 4 (some .int) yX0_sizes wsX0_sizes false G A) {x0 : Int64} {yy : Int32} (hm : m_X0_sizes_0 x0 = some yy) (kr : ∀ (rv : Int32), yy = rv → Q = MQ below (gk_Q G (some (.int rv)) [] A) args s 0 0 A) {H : Heap} {locs : List Loc} {ls : Array Slot} (h : gk_H G A s [] H locs) (hl : lv_has ls 4 [(0, .long x0)]) : W p l e rm_X0_sizes s m args below meth c H locs 0 0 Q (F0 m 0 ls []) := by
  obtain ⟨hx, hb, hml, hr, hown, hnm, hts, hlk, hK, hSt, hA⟩ := id C
  obtain ⟨hP, hD, hS⟩ := h
  unfold m_X0_sizes_0 at hm
  refine lv_iconst (v := 0) hx hb dX0_sizes_0 (by decide) ?_
  refine lv_istore_n (lv' := [(2, .int (0 : Int32)), (0, .long x0)]) hx hb dX0_sizes_1 rfl hl (by decide) rfl (fun ls hl => ?_)
  refine lv_iconst (v := 0) hx hb dX0_sizes_2 (by decide) ?_
  refine lv_istore_n (lv' := [(3, .int (0 : Int32)), (2, .int (0 : Int32)), (0, .long x0)]) hx hb dX0_sizes_3 rfl hl (by decide) rfl (fun ls hl => ?_)
  obtain ⟨e7, hq, hm⟩ := gk_bd1_some hm
  refine w_X0_sizes_L4 C hq (fun H locs ls h hl => ?_) ⟨hP, hD, hS⟩ (lv_sub hl [2, 1, 0] rfl)
  obtain ⟨hP, hD, hS⟩ := h
  refine lv_iload_n hx hb dX0_sizes_33 rfl (lv_at hl 0 rfl) ?_
  rw [kr _ (Option.some.inj hm).symm]
  exact gk_iret C ⟨hP, hD, hS⟩ dX0_sizes_34
def m_X0_sizes (x0 : Int64) : Option (Int32) := m_X0_sizes_0 x0
theorem c_X0_sizes (l : Launch) (G : gk_G) (x0 : Int64) {rv : Int32} (hm : m_X0_sizes x0 = some rv) : gk_M l yX0_sizes wsX0_sizes rm_X0_sizes false G [.long x0] [] (some (.int rv)) [] :=
  gk_of (by decide) rfl (Nat.le_of_ble_eq_true rfl) (fun p e s m below meth c A ls C h hl => w_X0_sizes_0 C hm (fun v0 ez => by cases ez; rfl) h (show lv_has ls 4 [(0, .long x0)] from hl))

/-! ===== ExchangeFamilies.Family.isEven(I)Z ===== -/
abbrev rm_X0_isEven : Room := { frames := 1, cells := 0, slots := 0, locals := 64 }
def m_X0_isEven_0 (x0 : Int32) : Option (Int32) := (if (x0 &&& (85 : Int32)) = (0 : Int32) then some (1 : Int32) else (if (x0 &&& ((85 : Int32) ^^^ (-1 : Int32))) = (0 : Int32) then some (1 : Int32) else some (0 : Int32)))
set_option maxRecDepth 100000 in
set_option maxHeartbeats 4000000 in
theorem w_X0_isEven_0 {p : Program} {l : Launch} {e : Env} {s : State} {m : MethodId} {args : Array Value} {below : List Frame} {meth : Method} {c : Code} {G : gk_G} {A : Nat → Prop} {Q : State → Prop} (C : gk_C p s m args meth c cX0_isEven 2 (some .boolean) yX0_isEven wsX0_isEven false G A) {x0 : Int32} {yy : Int32} (hm : m_X0_isEven_0 x0 = some yy) (kr : ∀ (rv : Int32), yy = rv → Q = MQ below (gk_Q G (some (.int rv)) [] A) args s 0 0 A) {H : Heap} {locs : List Loc} {ls : Array Slot} (h : gk_H G A s [] H locs) (hl : lv_has ls 2 [(0, .int x0)]) : W p l e rm_X0_isEven s m args below meth c H locs 0 0 Q (F0 m 0 ls []) := by
  obtain ⟨hx, hb, hml, hr, hown, hnm, hts, hlk, hK, hSt, hA⟩ := id C
  obtain ⟨hP, hD, hS⟩ := h
  unfold m_X0_isEven_0 at hm
  refine lv_bipush (v := 85) hx hb dX0_isEven_0 (by decide) ?_
  refine lv_istore_n (lv' := [(1, .int (85 : Int32)), (0, .int x0)]) hx hb dX0_isEven_2 rfl hl (by decide) rfl (fun ls hl => ?_)
  refine lv_iload_n hx hb dX0_isEven_3 rfl (lv_at hl 1 rfl) ?_
  refine lv_iload_n hx hb dX0_isEven_4 rfl (lv_at hl 0 rfl) ?_
  refine lv_iand hx hb dX0_isEven_5 ?_
  refine lv_if_eq (tgt := 17) hx hb dX0_isEven_6 (by decide) (fun c3 => ?_) (fun c3 => ?_)
  · have hm := gk_it c3 hm
    refine lv_iconst (v := 1) hx hb dX0_isEven_17 (by decide) ?_
    refine lv_goto (tgt := 22) hx hb dX0_isEven_18 (by decide) ?_
    rw [kr _ (Option.some.inj hm).symm]
    exact gk_zret C ⟨hP, hD, hS⟩ rfl dX0_isEven_22
  · have hm := gk_if c3 hm
    refine lv_iload_n hx hb dX0_isEven_9 rfl (lv_at hl 1 rfl) ?_
    refine lv_iload_n hx hb dX0_isEven_10 rfl (lv_at hl 0 rfl) ?_
    refine lv_iconst (v := -1) hx hb dX0_isEven_11 (by decide) ?_
    refine lv_ixor hx hb dX0_isEven_12 ?_
    refine lv_iand hx hb dX0_isEven_13 ?_
    refine lv_if_ne (tgt := 21) hx hb dX0_isEven_14 (by decide) (fun c4 => ?_) (fun c4 => ?_)
    · have hm := gk_if c4 hm
      refine lv_iconst (v := 0) hx hb dX0_isEven_21 (by decide) ?_
      rw [kr _ (Option.some.inj hm).symm]
      exact gk_zret C ⟨hP, hD, hS⟩ rfl dX0_isEven_22
    · have hm := gk_it c4 hm
      refine lv_iconst (v := 1) hx hb dX0_isEven_17 (by decide) ?_
      refine lv_goto (tgt := 22) hx hb dX0_isEven_18 (by decide) ?_
      rw [kr _ (Option.some.inj hm).symm]
      exact gk_zret C ⟨hP, hD, hS⟩ rfl dX0_isEven_22
def m_X0_isEven (x0 : Int32) : Option (Int32) := m_X0_isEven_0 x0
theorem c_X0_isEven (l : Launch) (G : gk_G) (x0 : Int32) {rv : Int32} (hm : m_X0_isEven x0 = some rv) : gk_M l yX0_isEven wsX0_isEven rm_X0_isEven false G [.int x0] [] (some (.int rv)) [] :=
  gk_of (by decide) rfl (Nat.le_of_ble_eq_true rfl) (fun p e s m below meth c A ls C h hl => w_X0_isEven_0 C hm (fun v0 ez => by cases ez; rfl) h (show lv_has ls 2 [(0, .int x0)] from hl))

/-! ===== ExchangeFamilies.Family.loops(JI)I ===== -/
abbrev rm_X0_loops : Room := { frames := 1, cells := 0, slots := 0, locals := 64 }
def m_X0_loops_B5 (x0 : Int64) (x2 : Int32) (x3 : Int32) (x4 : Int32) : Option ((Int32 × Int32) ⊕ (Int32)) := (if x2 ≤ x4 then some (.inr x3) else gk_ix x4 6 ((if (lg_cmp (x0 &&& (gk_hav x4.toNatClampNeg)) (0 : Int64)) = (0 : Int32) then some (.inl (x3 ||| ((1 : Int32) <<< (x4 &&& 31)), x4 + 1)) else some (.inl (x3, x4 + 1)))))
set_option maxRecDepth 100000 in
set_option maxHeartbeats 4000000 in
theorem w_X0_loops_B5 {p : Program} {l : Launch} {e : Env} {s : State} {m : MethodId} {args : Array Value} {below : List Frame} {meth : Method} {c : Code} {G : gk_G} {A : Nat → Prop} {Q : State → Prop} (C : gk_C p s m args meth c cX0_loops 5 (some .int) yX0_loops wsX0_loops true G A) {x0 : Int64} {x2 : Int32} {x3 : Int32} {x4 : Int32} {yy : (Int32 × Int32) ⊕ (Int32)} (hm : m_X0_loops_B5 x0 x2 x3 x4 = some yy) (kl : ∀ (x3 : Int32) (x4 : Int32), yy = .inl (x3, x4) → ∀ (H : Heap) (locs : List Loc) (ls : Array Slot), gk_H G A s [] H locs → lv_has ls 5 [(0, .long x0), (2, .int x2), (3, .int x3), (4, .int x4)] → W p l e rm_X0_loops s m args below meth c H locs 0 0 Q (F0 m 5 ls [])) (kx : ∀ (x3 : Int32), yy = .inr x3 → ∀ (H : Heap) (locs : List Loc) (ls : Array Slot), gk_H G A s [] H locs → lv_has ls 5 [(3, .int x3)] → W p l e rm_X0_loops s m args below meth c H locs 0 0 Q (F0 m 37 ls [])) {H : Heap} {locs : List Loc} {ls : Array Slot} (h : gk_H G A s [] H locs) (hl : lv_has ls 5 [(0, .long x0), (2, .int x2), (3, .int x3), (4, .int x4)]) : W p l e rm_X0_loops s m args below meth c H locs 0 0 Q (F0 m 5 ls []) := by
  obtain ⟨hx, hb, hml, hr, hown, hnm, hts, hlk, hK, hSt, hA⟩ := id C
  obtain ⟨hP, hD, hS⟩ := h
  unfold m_X0_loops_B5 at hm
  refine lv_iload hx hb dX0_loops_5 (lv_at hl 3 rfl) ?_
  refine lv_iload_n hx hb dX0_loops_7 rfl (lv_at hl 1 rfl) ?_
  refine lv_icmp_ge (tgt := 37) hx hb dX0_loops_8 (by decide) (fun c3 => ?_) (fun c3 => ?_)
  · have hm := gk_it c3 hm
    exact kx _ (Option.some.inj hm).symm _ _ _ ⟨hP, hD, hS⟩ (lv_sub hl [2] rfl)
  · have hm := gk_if c3 hm
    refine lv_lload_n hx hb dX0_loops_11 rfl (lv_at hl 0 rfl) ?_
    refine va_getsN (own := RX0) (ref := "ExchangeFamilies") (host := "ExchangeFamilies") hx hb (hSt rfl).1.1 hS hown (va_Nw.use rfl (hSt rfl).2.2.2.1) (fun _ h9 => h9) dX0_loops_12 ?_
    refine lv_iload hx hb dX0_loops_15 (lv_at hl 3 rfl) ?_
    obtain ⟨hi, hm⟩ := gk_ix_some hm
    refine va_tl hx hb (hSt rfl).1.2 hS hi rfl dX0_loops_17 ?_
    refine lv_land hx hb dX0_loops_18 ?_
    refine lv_lconst (v := 0) hx hb dX0_loops_19 (by decide) ?_
    refine W.lcmp hx hb dX0_loops_20 ?_
    refine lv_if_ne (tgt := 31) hx hb dX0_loops_21 (by decide) (fun c4 => ?_) (fun c4 => ?_)
    · have hm := gk_if c4 hm
      refine lv_iinc (v := x4 + 1) (lv' := [(4, .int (x4 + 1)), (0, .long x0), (2, .int x2), (3, .int x3)]) hx hb dX0_loops_31 hl (k := 3) rfl rfl (by decide) rfl (fun ls hl => ?_)
      refine lv_goto (tgt := 5) hx hb dX0_loops_34 (by decide) ?_
      exact kl _ _ (Option.some.inj hm).symm _ _ _ ⟨hP, hD, hS⟩ (lv_sub hl [1, 2, 3, 0] rfl)
    · have hm := gk_it c4 hm
      refine lv_iload_n hx hb dX0_loops_24 rfl (lv_at hl 2 rfl) ?_
      refine lv_iconst (v := 1) hx hb dX0_loops_25 (by decide) ?_
      refine lv_iload hx hb dX0_loops_26 (lv_at hl 3 rfl) ?_
      refine lv_ishl hx hb dX0_loops_28 ?_
      refine lv_ior hx hb dX0_loops_29 ?_
      refine lv_istore_n (lv' := [(3, .int (x3 ||| ((1 : Int32) <<< (x4 &&& 31)))), (0, .long x0), (2, .int x2), (4, .int x4)]) hx hb dX0_loops_30 rfl hl (by decide) rfl (fun ls hl => ?_)
      refine lv_iinc (v := x4 + 1) (lv' := [(4, .int (x4 + 1)), (3, .int (x3 ||| ((1 : Int32) <<< (x4 &&& 31)))), (0, .long x0), (2, .int x2)]) hx hb dX0_loops_31 hl (k := 3) rfl rfl (by decide) rfl (fun ls hl => ?_)
      refine lv_goto (tgt := 5) hx hb dX0_loops_34 (by decide) ?_
      exact kl _ _ (Option.some.inj hm).symm _ _ _ ⟨hP, hD, hS⟩ (lv_sub hl [2, 3, 1, 0] rfl)
set_option maxRecDepth 100000 in
set_option maxHeartbeats 4000000 in
theorem w_X0_loops_L5 {p : Program} {l : Launch} {e : Env} {s : State} {m : MethodId} {args : Array Value} {below : List Frame} {meth : Method} {c : Code} {G : gk_G} {A : Nat → Prop} {Q : State → Prop} (C : gk_C p s m args meth c cX0_loops 5 (some .int) yX0_loops wsX0_loops true G A) {x0 : Int64} {x2 : Int32} {x3 : Int32} {x4 : Int32} {k : Nat} {e_x3 : Int32} (hm : gk_lp (fun z => m_X0_loops_B5 x0 x2 z.1 z.2) k (x3, x4) = some e_x3) (kx : ∀ (H : Heap) (locs : List Loc) (ls : Array Slot), gk_H G A s [] H locs → lv_has ls 5 [(3, .int e_x3)] → W p l e rm_X0_loops s m args below meth c H locs 0 0 Q (F0 m 37 ls [])) {H : Heap} {locs : List Loc} {ls : Array Slot} (h : gk_H G A s [] H locs) (hl : lv_has ls 5 [(0, .long x0), (2, .int x2), (3, .int x3), (4, .int x4)]) : W p l e rm_X0_loops s m args below meth c H locs 0 0 Q (F0 m 5 ls []) :=
  gk_lp_some (P := fun z => ∀ (H : Heap) (locs : List Loc) (ls : Array Slot), gk_H G A s [] H locs → lv_has ls 5 [(0, .long x0), (2, .int x2), (3, .int z.1), (4, .int z.2)] → W p l e rm_X0_loops s m args below meth c H locs 0 0 Q (F0 m 5 ls [])) (E := fun r => (∀ (x3 : Int32), r = x3 → ∀ (H : Heap) (locs : List Loc) (ls : Array Slot), gk_H G A s [] H locs → lv_has ls 5 [(3, .int x3)] → W p l e rm_X0_loops s m args below meth c H locs 0 0 Q (F0 m 37 ls []))) (fun z x hf kl ke H locs ls h hl => w_X0_loops_B5 C hf (fun v0 v1 ez => kl (v0, v1) ez) (fun v0 ez => ke _ ez v0 rfl) h hl) k (x3, x4) _ hm (fun v0 ez => (by cases ez; exact kx)) _ _ _ h hl
def m_X0_loops_0 (x0 : Int64) (x2 : Int32) : Option (Int32) := gk_bd1 (gk_lp (fun z => m_X0_loops_B5 x0 x2 z.1 z.2) gk_fu ((0 : Int32), (0 : Int32))) (fun e5 => some e5)
set_option maxRecDepth 100000 in
set_option maxHeartbeats 4000000 in
theorem w_X0_loops_0 {p : Program} {l : Launch} {e : Env} {s : State} {m : MethodId} {args : Array Value} {below : List Frame} {meth : Method} {c : Code} {G : gk_G} {A : Nat → Prop} {Q : State → Prop} (C : gk_C p s m args meth c cX0_loops 5 (some .int) yX0_loops wsX0_loops true G A) {x0 : Int64} {x2 : Int32} {yy : Int32} (hm : m_X0_loops_0 x0 x2 = some yy) (kr : ∀ (rv : Int32), yy = rv → Q = MQ below (gk_Q G (some (.int rv)) [] A) args s 0 0 A) {H : Heap} {locs : List Loc} {ls : Array Slot} (h : gk_H G A s [] H locs) (hl : lv_has ls 5 [(0, .long x0), (2, .int x2)]) : W p l e rm_X0_loops s m args below meth c H locs 0 0 Q (F0 m 0 ls []) := by
  obtain ⟨hx, hb, hml, hr, hown, hnm, hts, hlk, hK, hSt, hA⟩ := id C
  obtain ⟨hP, hD, hS⟩ := h
  unfold m_X0_loops_0 at hm
  refine lv_iconst (v := 0) hx hb dX0_loops_0 (by decide) ?_
  refine lv_istore_n (lv' := [(3, .int (0 : Int32)), (0, .long x0), (2, .int x2)]) hx hb dX0_loops_1 rfl hl (by decide) rfl (fun ls hl => ?_)
  refine lv_iconst (v := 0) hx hb dX0_loops_2 (by decide) ?_
  refine lv_istore (lv' := [(4, .int (0 : Int32)), (3, .int (0 : Int32)), (0, .long x0), (2, .int x2)]) hx hb dX0_loops_3 hl (by decide) rfl (fun ls hl => ?_)
  obtain ⟨e5, hq, hm⟩ := gk_bd1_some hm
  refine w_X0_loops_L5 C hq (fun H locs ls h hl => ?_) ⟨hP, hD, hS⟩ (lv_sub hl [2, 3, 1, 0] rfl)
  obtain ⟨hP, hD, hS⟩ := h
  refine lv_iload_n hx hb dX0_loops_37 rfl (lv_at hl 0 rfl) ?_
  rw [kr _ (Option.some.inj hm).symm]
  exact gk_iret C ⟨hP, hD, hS⟩ dX0_loops_38
def m_X0_loops (x0 : Int64) (x2 : Int32) : Option (Int32) := m_X0_loops_0 x0 x2
theorem c_X0_loops (l : Launch) (G : gk_G) (x0 : Int64) (x2 : Int32) {rv : Int32} (hm : m_X0_loops x0 x2 = some rv) : gk_M l yX0_loops wsX0_loops rm_X0_loops true G [.long x0, .int x2] [] (some (.int rv)) [] :=
  gk_of (by decide) rfl (Nat.le_of_ble_eq_true rfl) (fun p e s m below meth c A ls C h hl => w_X0_loops_0 C hm (fun v0 ez => by cases ez; rfl) h (show lv_has ls 5 [(0, .long x0), (2, .int x2)] from hl))

/-! ===== ExchangeFamilies.Family.coloops(JI)I ===== -/
abbrev rm_X0_coloops : Room := { frames := 1, cells := 0, slots := 0, locals := 64 }
theorem k_X0_coloops_0 : Cond.constantLong RX0 19 (-1) ∈ wsX0_coloops := by decide +kernel
def m_X0_coloops_B5 (x0 : Int64) (x2 : Int32) (x3 : Int32) (x4 : Int32) : Option ((Int32 × Int32) ⊕ (Int32)) := (if x2 ≤ x4 then some (.inr x3) else gk_ix x4 6 ((if (lg_cmp (x0 &&& ((gk_hav x4.toNatClampNeg) ^^^ (-1 : Int64))) (0 : Int64)) = (0 : Int32) then some (.inl (x3 ||| ((1 : Int32) <<< (x4 &&& 31)), x4 + 1)) else some (.inl (x3, x4 + 1)))))
set_option maxRecDepth 100000 in
set_option maxHeartbeats 4000000 in
theorem w_X0_coloops_B5 {p : Program} {l : Launch} {e : Env} {s : State} {m : MethodId} {args : Array Value} {below : List Frame} {meth : Method} {c : Code} {G : gk_G} {A : Nat → Prop} {Q : State → Prop} (C : gk_C p s m args meth c cX0_coloops 5 (some .int) yX0_coloops wsX0_coloops true G A) {x0 : Int64} {x2 : Int32} {x3 : Int32} {x4 : Int32} {yy : (Int32 × Int32) ⊕ (Int32)} (hm : m_X0_coloops_B5 x0 x2 x3 x4 = some yy) (kl : ∀ (x3 : Int32) (x4 : Int32), yy = .inl (x3, x4) → ∀ (H : Heap) (locs : List Loc) (ls : Array Slot), gk_H G A s [] H locs → lv_has ls 5 [(0, .long x0), (2, .int x2), (3, .int x3), (4, .int x4)] → W p l e rm_X0_coloops s m args below meth c H locs 0 0 Q (F0 m 5 ls [])) (kx : ∀ (x3 : Int32), yy = .inr x3 → ∀ (H : Heap) (locs : List Loc) (ls : Array Slot), gk_H G A s [] H locs → lv_has ls 5 [(3, .int x3)] → W p l e rm_X0_coloops s m args below meth c H locs 0 0 Q (F0 m 41 ls [])) {H : Heap} {locs : List Loc} {ls : Array Slot} (h : gk_H G A s [] H locs) (hl : lv_has ls 5 [(0, .long x0), (2, .int x2), (3, .int x3), (4, .int x4)]) : W p l e rm_X0_coloops s m args below meth c H locs 0 0 Q (F0 m 5 ls []) := by
  obtain ⟨hx, hb, hml, hr, hown, hnm, hts, hlk, hK, hSt, hA⟩ := id C
  obtain ⟨hP, hD, hS⟩ := h
  unfold m_X0_coloops_B5 at hm
  refine lv_iload hx hb dX0_coloops_5 (lv_at hl 3 rfl) ?_
  refine lv_iload_n hx hb dX0_coloops_7 rfl (lv_at hl 1 rfl) ?_
  refine lv_icmp_ge (tgt := 41) hx hb dX0_coloops_8 (by decide) (fun c3 => ?_) (fun c3 => ?_)
  · have hm := gk_it c3 hm
    exact kx _ (Option.some.inj hm).symm _ _ _ ⟨hP, hD, hS⟩ (lv_sub hl [2] rfl)
  · have hm := gk_if c3 hm
    refine lv_lload_n hx hb dX0_coloops_11 rfl (lv_at hl 0 rfl) ?_
    refine va_getsN (own := RX0) (ref := "ExchangeFamilies") (host := "ExchangeFamilies") hx hb (hSt rfl).1.1 hS hown (va_Nw.use rfl (hSt rfl).2.2.2.1) (fun _ h9 => h9) dX0_coloops_12 ?_
    refine lv_iload hx hb dX0_coloops_15 (lv_at hl 3 rfl) ?_
    obtain ⟨hi, hm⟩ := gk_ix_some hm
    refine va_tl hx hb (hSt rfl).1.2 hS hi rfl dX0_coloops_17 ?_
    refine lv_ldc2 (own := RX0) (v := -1) hx hb hown (hts _ k_X0_coloops_0) dX0_coloops_18 ?_
    refine lv_lxor hx hb dX0_coloops_21 ?_
    refine lv_land hx hb dX0_coloops_22 ?_
    refine lv_lconst (v := 0) hx hb dX0_coloops_23 (by decide) ?_
    refine W.lcmp hx hb dX0_coloops_24 ?_
    refine lv_if_ne (tgt := 35) hx hb dX0_coloops_25 (by decide) (fun c4 => ?_) (fun c4 => ?_)
    · have hm := gk_if c4 hm
      refine lv_iinc (v := x4 + 1) (lv' := [(4, .int (x4 + 1)), (0, .long x0), (2, .int x2), (3, .int x3)]) hx hb dX0_coloops_35 hl (k := 3) rfl rfl (by decide) rfl (fun ls hl => ?_)
      refine lv_goto (tgt := 5) hx hb dX0_coloops_38 (by decide) ?_
      exact kl _ _ (Option.some.inj hm).symm _ _ _ ⟨hP, hD, hS⟩ (lv_sub hl [1, 2, 3, 0] rfl)
    · have hm := gk_it c4 hm
      refine lv_iload_n hx hb dX0_coloops_28 rfl (lv_at hl 2 rfl) ?_
      refine lv_iconst (v := 1) hx hb dX0_coloops_29 (by decide) ?_
      refine lv_iload hx hb dX0_coloops_30 (lv_at hl 3 rfl) ?_
      refine lv_ishl hx hb dX0_coloops_32 ?_
      refine lv_ior hx hb dX0_coloops_33 ?_
      refine lv_istore_n (lv' := [(3, .int (x3 ||| ((1 : Int32) <<< (x4 &&& 31)))), (0, .long x0), (2, .int x2), (4, .int x4)]) hx hb dX0_coloops_34 rfl hl (by decide) rfl (fun ls hl => ?_)
      refine lv_iinc (v := x4 + 1) (lv' := [(4, .int (x4 + 1)), (3, .int (x3 ||| ((1 : Int32) <<< (x4 &&& 31)))), (0, .long x0), (2, .int x2)]) hx hb dX0_coloops_35 hl (k := 3) rfl rfl (by decide) rfl (fun ls hl => ?_)
      refine lv_goto (tgt := 5) hx hb dX0_coloops_38 (by decide) ?_
      exact kl _ _ (Option.some.inj hm).symm _ _ _ ⟨hP, hD, hS⟩ (lv_sub hl [2, 3, 1, 0] rfl)
set_option maxRecDepth 100000 in
set_option maxHeartbeats 4000000 in
theorem w_X0_coloops_L5 {p : Program} {l : Launch} {e : Env} {s : State} {m : MethodId} {args : Array Value} {below : List Frame} {meth : Method} {c : Code} {G : gk_G} {A : Nat → Prop} {Q : State → Prop} (C : gk_C p s m args meth c cX0_coloops 5 (some .int) yX0_coloops wsX0_coloops true G A) {x0 : Int64} {x2 : Int32} {x3 : Int32} {x4 : Int32} {k : Nat} {e_x3 : Int32} (hm : gk_lp (fun z => m_X0_coloops_B5 x0 x2 z.1 z.2) k (x3, x4) = some e_x3) (kx : ∀ (H : Heap) (locs : List Loc) (ls : Array Slot), gk_H G A s [] H locs → lv_has ls 5 [(3, .int e_x3)] → W p l e rm_X0_coloops s m args below meth c H locs 0 0 Q (F0 m 41 ls [])) {H : Heap} {locs : List Loc} {ls : Array Slot} (h : gk_H G A s [] H locs) (hl : lv_has ls 5 [(0, .long x0), (2, .int x2), (3, .int x3), (4, .int x4)]) : W p l e rm_X0_coloops s m args below meth c H locs 0 0 Q (F0 m 5 ls []) :=
  gk_lp_some (P := fun z => ∀ (H : Heap) (locs : List Loc) (ls : Array Slot), gk_H G A s [] H locs → lv_has ls 5 [(0, .long x0), (2, .int x2), (3, .int z.1), (4, .int z.2)] → W p l e rm_X0_coloops s m args below meth c H locs 0 0 Q (F0 m 5 ls [])) (E := fun r => (∀ (x3 : Int32), r = x3 → ∀ (H : Heap) (locs : List Loc) (ls : Array Slot), gk_H G A s [] H locs → lv_has ls 5 [(3, .int x3)] → W p l e rm_X0_coloops s m args below meth c H locs 0 0 Q (F0 m 41 ls []))) (fun z x hf kl ke H locs ls h hl => w_X0_coloops_B5 C hf (fun v0 v1 ez => kl (v0, v1) ez) (fun v0 ez => ke _ ez v0 rfl) h hl) k (x3, x4) _ hm (fun v0 ez => (by cases ez; exact kx)) _ _ _ h hl
def m_X0_coloops_0 (x0 : Int64) (x2 : Int32) : Option (Int32) := gk_bd1 (gk_lp (fun z => m_X0_coloops_B5 x0 x2 z.1 z.2) gk_fu ((0 : Int32), (0 : Int32))) (fun e5 => some e5)
set_option maxRecDepth 100000 in
set_option maxHeartbeats 4000000 in
theorem w_X0_coloops_0 {p : Program} {l : Launch} {e : Env} {s : State} {m : MethodId} {args : Array Value} {below : List Frame} {meth : Method} {c : Code} {G : gk_G} {A : Nat → Prop} {Q : State → Prop} (C : gk_C p s m args meth c cX0_coloops 5 (some .int) yX0_coloops wsX0_coloops true G A) {x0 : Int64} {x2 : Int32} {yy : Int32} (hm : m_X0_coloops_0 x0 x2 = some yy) (kr : ∀ (rv : Int32), yy = rv → Q = MQ below (gk_Q G (some (.int rv)) [] A) args s 0 0 A) {H : Heap} {locs : List Loc} {ls : Array Slot} (h : gk_H G A s [] H locs) (hl : lv_has ls 5 [(0, .long x0), (2, .int x2)]) : W p l e rm_X0_coloops s m args below meth c H locs 0 0 Q (F0 m 0 ls []) := by
  obtain ⟨hx, hb, hml, hr, hown, hnm, hts, hlk, hK, hSt, hA⟩ := id C
  obtain ⟨hP, hD, hS⟩ := h
  unfold m_X0_coloops_0 at hm
  refine lv_iconst (v := 0) hx hb dX0_coloops_0 (by decide) ?_
  refine lv_istore_n (lv' := [(3, .int (0 : Int32)), (0, .long x0), (2, .int x2)]) hx hb dX0_coloops_1 rfl hl (by decide) rfl (fun ls hl => ?_)
  refine lv_iconst (v := 0) hx hb dX0_coloops_2 (by decide) ?_
  refine lv_istore (lv' := [(4, .int (0 : Int32)), (3, .int (0 : Int32)), (0, .long x0), (2, .int x2)]) hx hb dX0_coloops_3 hl (by decide) rfl (fun ls hl => ?_)
  obtain ⟨e5, hq, hm⟩ := gk_bd1_some hm
  refine w_X0_coloops_L5 C hq (fun H locs ls h hl => ?_) ⟨hP, hD, hS⟩ (lv_sub hl [2, 3, 1, 0] rfl)
  obtain ⟨hP, hD, hS⟩ := h
  refine lv_iload_n hx hb dX0_coloops_41 rfl (lv_at hl 0 rfl) ?_
  rw [kr _ (Option.some.inj hm).symm]
  exact gk_iret C ⟨hP, hD, hS⟩ dX0_coloops_42
def m_X0_coloops (x0 : Int64) (x2 : Int32) : Option (Int32) := m_X0_coloops_0 x0 x2
theorem c_X0_coloops (l : Launch) (G : gk_G) (x0 : Int64) (x2 : Int32) {rv : Int32} (hm : m_X0_coloops x0 x2 = some rv) : gk_M l yX0_coloops wsX0_coloops rm_X0_coloops true G [.long x0, .int x2] [] (some (.int rv)) [] :=
  gk_of (by decide) rfl (Nat.le_of_ble_eq_true rfl) (fun p e s m below meth c A ls C h hl => w_X0_coloops_0 C hm (fun v0 ez => by cases ez; rfl) h (show lv_has ls 5 [(0, .long x0), (2, .int x2)] from hl))

/-! ===== ExchangeFamilies.Family.likeAt(II)J ===== -/
abbrev rm_X0_likeAt : Room := { frames := 1, cells := 0, slots := 0, locals := 64 }
theorem k_X0_likeAt_0 : Cond.constantLong RX0 19 (-1) ∈ wsX0_likeAt := by decide +kernel
def m_X0_likeAt_B7 (x0 : Int32) (x1 : Int32) (x2 : Int64) (x4 : Int32) : Option ((Int64 × Int32) ⊕ (Int64)) := (if (6 : Int32) ≤ x4 then some (.inr x2) else (if ((x1 >>> (x4 &&& 31)) &&& (1 : Int32)) = (0 : Int32) then some (.inl (x2, x4 + 1)) else (if ((x0 >>> (x4 &&& 31)) &&& (1 : Int32)) = (0 : Int32) then gk_ix x4 6 (some (.inl (x2 &&& ((gk_hav x4.toNatClampNeg) ^^^ (-1 : Int64)), x4 + 1))) else gk_ix x4 6 (some (.inl (x2 &&& (gk_hav x4.toNatClampNeg), x4 + 1))))))
set_option maxRecDepth 100000 in
set_option maxHeartbeats 4000000 in
theorem w_X0_likeAt_B7 {p : Program} {l : Launch} {e : Env} {s : State} {m : MethodId} {args : Array Value} {below : List Frame} {meth : Method} {c : Code} {G : gk_G} {A : Nat → Prop} {Q : State → Prop} (C : gk_C p s m args meth c cX0_likeAt 5 (some .long) yX0_likeAt wsX0_likeAt true G A) {x0 : Int32} {x1 : Int32} {x2 : Int64} {x4 : Int32} {yy : (Int64 × Int32) ⊕ (Int64)} (hm : m_X0_likeAt_B7 x0 x1 x2 x4 = some yy) (kl : ∀ (x2 : Int64) (x4 : Int32), yy = .inl (x2, x4) → ∀ (H : Heap) (locs : List Loc) (ls : Array Slot), gk_H G A s [] H locs → lv_has ls 5 [(0, .int x0), (1, .int x1), (2, .long x2), (4, .int x4)] → W p l e rm_X0_likeAt s m args below meth c H locs 0 0 Q (F0 m 7 ls [])) (kx : ∀ (x2 : Int64), yy = .inr x2 → ∀ (H : Heap) (locs : List Loc) (ls : Array Slot), gk_H G A s [] H locs → lv_has ls 5 [(2, .long x2)] → W p l e rm_X0_likeAt s m args below meth c H locs 0 0 Q (F0 m 60 ls [])) {H : Heap} {locs : List Loc} {ls : Array Slot} (h : gk_H G A s [] H locs) (hl : lv_has ls 5 [(0, .int x0), (1, .int x1), (2, .long x2), (4, .int x4)]) : W p l e rm_X0_likeAt s m args below meth c H locs 0 0 Q (F0 m 7 ls []) := by
  obtain ⟨hx, hb, hml, hr, hown, hnm, hts, hlk, hK, hSt, hA⟩ := id C
  obtain ⟨hP, hD, hS⟩ := h
  unfold m_X0_likeAt_B7 at hm
  refine lv_iload hx hb dX0_likeAt_7 (lv_at hl 3 rfl) ?_
  refine lv_bipush (v := 6) hx hb dX0_likeAt_9 (by decide) ?_
  refine lv_icmp_ge (tgt := 60) hx hb dX0_likeAt_11 (by decide) (fun c4 => ?_) (fun c4 => ?_)
  · have hm := gk_it c4 hm
    exact kx _ (Option.some.inj hm).symm _ _ _ ⟨hP, hD, hS⟩ (lv_sub hl [2] rfl)
  · have hm := gk_if c4 hm
    refine lv_iload_n hx hb dX0_likeAt_14 rfl (lv_at hl 1 rfl) ?_
    refine lv_iload hx hb dX0_likeAt_15 (lv_at hl 3 rfl) ?_
    refine lv_ishr hx hb dX0_likeAt_17 ?_
    refine lv_iconst (v := 1) hx hb dX0_likeAt_18 (by decide) ?_
    refine lv_iand hx hb dX0_likeAt_19 ?_
    refine lv_if_eq (tgt := 54) hx hb dX0_likeAt_20 (by decide) (fun c5 => ?_) (fun c5 => ?_)
    · have hm := gk_it c5 hm
      refine lv_iinc (v := x4 + 1) (lv' := [(4, .int (x4 + 1)), (0, .int x0), (1, .int x1), (2, .long x2)]) hx hb dX0_likeAt_54 hl (k := 3) rfl rfl (by decide) rfl (fun ls hl => ?_)
      refine lv_goto (tgt := 7) hx hb dX0_likeAt_57 (by decide) ?_
      exact kl _ _ (Option.some.inj hm).symm _ _ _ ⟨hP, hD, hS⟩ (lv_sub hl [1, 2, 3, 0] rfl)
    · have hm := gk_if c5 hm
      refine lv_lload_n hx hb dX0_likeAt_23 rfl (lv_at hl 2 rfl) ?_
      refine lv_iload_n hx hb dX0_likeAt_24 rfl (lv_at hl 0 rfl) ?_
      refine lv_iload hx hb dX0_likeAt_25 (lv_at hl 3 rfl) ?_
      refine lv_ishr hx hb dX0_likeAt_27 ?_
      refine lv_iconst (v := 1) hx hb dX0_likeAt_28 (by decide) ?_
      refine lv_iand hx hb dX0_likeAt_29 ?_
      refine lv_if_eq (tgt := 42) hx hb dX0_likeAt_30 (by decide) (fun c6 => ?_) (fun c6 => ?_)
      · have hm := gk_it c6 hm
        refine va_getsN (own := RX0) (ref := "ExchangeFamilies") (host := "ExchangeFamilies") hx hb (hSt rfl).1.1 hS hown (va_Nw.use rfl (hSt rfl).2.2.2.1) (fun _ h9 => h9) dX0_likeAt_42 ?_
        refine lv_iload hx hb dX0_likeAt_45 (lv_at hl 3 rfl) ?_
        obtain ⟨hi, hm⟩ := gk_ix_some hm
        refine va_tl hx hb (hSt rfl).1.2 hS hi rfl dX0_likeAt_47 ?_
        refine lv_ldc2 (own := RX0) (v := -1) hx hb hown (hts _ k_X0_likeAt_0) dX0_likeAt_48 ?_
        refine lv_lxor hx hb dX0_likeAt_51 ?_
        refine lv_land hx hb dX0_likeAt_52 ?_
        refine lv_lstore_n (lv' := [(2, .long (x2 &&& ((gk_hav x4.toNatClampNeg) ^^^ (-1 : Int64)))), (0, .int x0), (1, .int x1), (4, .int x4)]) hx hb dX0_likeAt_53 rfl hl (by decide) rfl (fun ls hl => ?_)
        refine lv_iinc (v := x4 + 1) (lv' := [(4, .int (x4 + 1)), (2, .long (x2 &&& ((gk_hav x4.toNatClampNeg) ^^^ (-1 : Int64)))), (0, .int x0), (1, .int x1)]) hx hb dX0_likeAt_54 hl (k := 3) rfl rfl (by decide) rfl (fun ls hl => ?_)
        refine lv_goto (tgt := 7) hx hb dX0_likeAt_57 (by decide) ?_
        exact kl _ _ (Option.some.inj hm).symm _ _ _ ⟨hP, hD, hS⟩ (lv_sub hl [2, 3, 1, 0] rfl)
      · have hm := gk_if c6 hm
        refine va_getsN (own := RX0) (ref := "ExchangeFamilies") (host := "ExchangeFamilies") hx hb (hSt rfl).1.1 hS hown (va_Nw.use rfl (hSt rfl).2.2.2.1) (fun _ h9 => h9) dX0_likeAt_33 ?_
        refine lv_iload hx hb dX0_likeAt_36 (lv_at hl 3 rfl) ?_
        obtain ⟨hi, hm⟩ := gk_ix_some hm
        refine va_tl hx hb (hSt rfl).1.2 hS hi rfl dX0_likeAt_38 ?_
        refine lv_goto (tgt := 52) hx hb dX0_likeAt_39 (by decide) ?_
        refine lv_land hx hb dX0_likeAt_52 ?_
        refine lv_lstore_n (lv' := [(2, .long (x2 &&& (gk_hav x4.toNatClampNeg))), (0, .int x0), (1, .int x1), (4, .int x4)]) hx hb dX0_likeAt_53 rfl hl (by decide) rfl (fun ls hl => ?_)
        refine lv_iinc (v := x4 + 1) (lv' := [(4, .int (x4 + 1)), (2, .long (x2 &&& (gk_hav x4.toNatClampNeg))), (0, .int x0), (1, .int x1)]) hx hb dX0_likeAt_54 hl (k := 3) rfl rfl (by decide) rfl (fun ls hl => ?_)
        refine lv_goto (tgt := 7) hx hb dX0_likeAt_57 (by decide) ?_
        exact kl _ _ (Option.some.inj hm).symm _ _ _ ⟨hP, hD, hS⟩ (lv_sub hl [2, 3, 1, 0] rfl)
set_option maxRecDepth 100000 in
set_option maxHeartbeats 4000000 in
theorem w_X0_likeAt_L7 {p : Program} {l : Launch} {e : Env} {s : State} {m : MethodId} {args : Array Value} {below : List Frame} {meth : Method} {c : Code} {G : gk_G} {A : Nat → Prop} {Q : State → Prop} (C : gk_C p s m args meth c cX0_likeAt 5 (some .long) yX0_likeAt wsX0_likeAt true G A) {x0 : Int32} {x1 : Int32} {x2 : Int64} {x4 : Int32} {k : Nat} {e_x2 : Int64} (hm : gk_lp (fun z => m_X0_likeAt_B7 x0 x1 z.1 z.2) k (x2, x4) = some e_x2) (kx : ∀ (H : Heap) (locs : List Loc) (ls : Array Slot), gk_H G A s [] H locs → lv_has ls 5 [(2, .long e_x2)] → W p l e rm_X0_likeAt s m args below meth c H locs 0 0 Q (F0 m 60 ls [])) {H : Heap} {locs : List Loc} {ls : Array Slot} (h : gk_H G A s [] H locs) (hl : lv_has ls 5 [(0, .int x0), (1, .int x1), (2, .long x2), (4, .int x4)]) : W p l e rm_X0_likeAt s m args below meth c H locs 0 0 Q (F0 m 7 ls []) :=
  gk_lp_some (P := fun z => ∀ (H : Heap) (locs : List Loc) (ls : Array Slot), gk_H G A s [] H locs → lv_has ls 5 [(0, .int x0), (1, .int x1), (2, .long z.1), (4, .int z.2)] → W p l e rm_X0_likeAt s m args below meth c H locs 0 0 Q (F0 m 7 ls [])) (E := fun r => (∀ (x2 : Int64), r = x2 → ∀ (H : Heap) (locs : List Loc) (ls : Array Slot), gk_H G A s [] H locs → lv_has ls 5 [(2, .long x2)] → W p l e rm_X0_likeAt s m args below meth c H locs 0 0 Q (F0 m 60 ls []))) (fun z x hf kl ke H locs ls h hl => w_X0_likeAt_B7 C hf (fun v0 v1 ez => kl (v0, v1) ez) (fun v0 ez => ke _ ez v0 rfl) h hl) k (x2, x4) _ hm (fun v0 ez => (by cases ez; exact kx)) _ _ _ h hl
def m_X0_likeAt_0 (x0 : Int32) (x1 : Int32) : Option (Int64) := gk_bd1 (gk_lp (fun z => m_X0_likeAt_B7 x0 x1 z.1 z.2) gk_fu ((-1 : Int64), (0 : Int32))) (fun e7 => some e7)
set_option maxRecDepth 100000 in
set_option maxHeartbeats 4000000 in
theorem w_X0_likeAt_0 {p : Program} {l : Launch} {e : Env} {s : State} {m : MethodId} {args : Array Value} {below : List Frame} {meth : Method} {c : Code} {G : gk_G} {A : Nat → Prop} {Q : State → Prop} (C : gk_C p s m args meth c cX0_likeAt 5 (some .long) yX0_likeAt wsX0_likeAt true G A) {x0 : Int32} {x1 : Int32} {yy : Int64} (hm : m_X0_likeAt_0 x0 x1 = some yy) (kr : ∀ (rv : Int64), yy = rv → Q = MQ below (gk_Q G (some (.long rv)) [] A) args s 0 0 A) {H : Heap} {locs : List Loc} {ls : Array Slot} (h : gk_H G A s [] H locs) (hl : lv_has ls 5 [(0, .int x0), (1, .int x1)]) : W p l e rm_X0_likeAt s m args below meth c H locs 0 0 Q (F0 m 0 ls []) := by
  obtain ⟨hx, hb, hml, hr, hown, hnm, hts, hlk, hK, hSt, hA⟩ := id C
  obtain ⟨hP, hD, hS⟩ := h
  unfold m_X0_likeAt_0 at hm
  refine lv_ldc2 (own := RX0) (v := -1) hx hb hown (hts _ k_X0_likeAt_0) dX0_likeAt_0 ?_
  refine lv_lstore_n (lv' := [(2, .long (-1 : Int64)), (0, .int x0), (1, .int x1)]) hx hb dX0_likeAt_3 rfl hl (by decide) rfl (fun ls hl => ?_)
  refine lv_iconst (v := 0) hx hb dX0_likeAt_4 (by decide) ?_
  refine lv_istore (lv' := [(4, .int (0 : Int32)), (2, .long (-1 : Int64)), (0, .int x0), (1, .int x1)]) hx hb dX0_likeAt_5 hl (by decide) rfl (fun ls hl => ?_)
  obtain ⟨e7, hq, hm⟩ := gk_bd1_some hm
  refine w_X0_likeAt_L7 C hq (fun H locs ls h hl => ?_) ⟨hP, hD, hS⟩ (lv_sub hl [2, 3, 1, 0] rfl)
  obtain ⟨hP, hD, hS⟩ := h
  refine lv_lload_n hx hb dX0_likeAt_60 rfl (lv_at hl 0 rfl) ?_
  rw [kr _ (Option.some.inj hm).symm]
  exact gk_lret C ⟨hP, hD, hS⟩ dX0_likeAt_61
def m_X0_likeAt (x0 : Int32) (x1 : Int32) : Option (Int64) := m_X0_likeAt_0 x0 x1
theorem c_X0_likeAt (l : Launch) (G : gk_G) (x0 : Int32) (x1 : Int32) {rv : Int64} (hm : m_X0_likeAt x0 x1 = some rv) : gk_M l yX0_likeAt wsX0_likeAt rm_X0_likeAt true G [.int x0, .int x1] [] (some (.long rv)) [] :=
  gk_of (by decide) rfl (Nat.le_of_ble_eq_true rfl) (fun p e s m below meth c A ls C h hl => w_X0_likeAt_0 C hm (fun v0 ez => by cases ez; rfl) h (show lv_has ls 5 [(0, .int x0), (1, .int x1)] from hl))

/-! ===== ExchangeFamilies.Family.partners(JIII)I ===== -/
abbrev rm_X0_partners : Room := { frames := 3, cells := 0, slots := 0, locals := 150 }
def m_X0_partners_B6 (x0 : Int64) (x2 : Int32) (x3 : Int32) (x4 : Int32) (x5 : Int32) (x6 : Int32) : Option ((Int32 × Int32) ⊕ (Int32)) := (if x4 ≤ x6 then some (.inr x5) else gk_bd1 (m_X0_holds x0 (x2 ^^^ (((1 : Int32) <<< (x3 &&& 31)) ||| ((1 : Int32) <<< (x6 &&& 31))))) (fun r4 => (if r4 = (0 : Int32) then some (.inl (x5, x6 + 1)) else some (.inl (x5 ||| ((1 : Int32) <<< (x6 &&& 31)), x6 + 1)))))
set_option maxRecDepth 100000 in
set_option maxHeartbeats 4000000 in
theorem w_X0_partners_B6 {p : Program} {l : Launch} {e : Env} {s : State} {m : MethodId} {args : Array Value} {below : List Frame} {meth : Method} {c : Code} {G : gk_G} {A : Nat → Prop} {Q : State → Prop} (C : gk_C p s m args meth c cX0_partners 7 (some .int) yX0_partners wsX0_partners false G A) {x0 : Int64} {x2 : Int32} {x3 : Int32} {x4 : Int32} {x5 : Int32} {x6 : Int32} {yy : (Int32 × Int32) ⊕ (Int32)} (hm : m_X0_partners_B6 x0 x2 x3 x4 x5 x6 = some yy) (kl : ∀ (x5 : Int32) (x6 : Int32), yy = .inl (x5, x6) → ∀ (H : Heap) (locs : List Loc) (ls : Array Slot), gk_H G A s [] H locs → lv_has ls 7 [(0, .long x0), (2, .int x2), (3, .int x3), (4, .int x4), (5, .int x5), (6, .int x6)] → W p l e rm_X0_partners s m args below meth c H locs 0 0 Q (F0 m 6 ls [])) (kx : ∀ (x5 : Int32), yy = .inr x5 → ∀ (H : Heap) (locs : List Loc) (ls : Array Slot), gk_H G A s [] H locs → lv_has ls 7 [(5, .int x5)] → W p l e rm_X0_partners s m args below meth c H locs 0 0 Q (F0 m 45 ls [])) {H : Heap} {locs : List Loc} {ls : Array Slot} (h : gk_H G A s [] H locs) (hl : lv_has ls 7 [(0, .long x0), (2, .int x2), (3, .int x3), (4, .int x4), (5, .int x5), (6, .int x6)]) : W p l e rm_X0_partners s m args below meth c H locs 0 0 Q (F0 m 6 ls []) := by
  obtain ⟨hx, hb, hml, hr, hown, hnm, hts, hlk, hK, hSt, hA⟩ := id C
  obtain ⟨hP, hD, hS⟩ := h
  unfold m_X0_partners_B6 at hm
  refine lv_iload hx hb dX0_partners_6 (lv_at hl 5 rfl) ?_
  refine lv_iload hx hb dX0_partners_8 (lv_at hl 3 rfl) ?_
  refine lv_icmp_ge (tgt := 45) hx hb dX0_partners_10 (by decide) (fun c3 => ?_) (fun c3 => ?_)
  · have hm := gk_it c3 hm
    exact kx _ (Option.some.inj hm).symm _ _ _ ⟨hP, hD, hS⟩ (lv_sub hl [4] rfl)
  · have hm := gk_if c3 hm
    refine lv_lload_n hx hb dX0_partners_13 rfl (lv_at hl 0 rfl) ?_
    refine lv_iload_n hx hb dX0_partners_14 rfl (lv_at hl 1 rfl) ?_
    refine lv_iconst (v := 1) hx hb dX0_partners_15 (by decide) ?_
    refine lv_iload_n hx hb dX0_partners_16 rfl (lv_at hl 2 rfl) ?_
    refine lv_ishl hx hb dX0_partners_17 ?_
    refine lv_iconst (v := 1) hx hb dX0_partners_18 (by decide) ?_
    refine lv_iload hx hb dX0_partners_19 (lv_at hl 5 rfl) ?_
    refine lv_ishl hx hb dX0_partners_21 ?_
    refine lv_ior hx hb dX0_partners_22 ?_
    refine lv_ixor hx hb dX0_partners_23 ?_
    obtain ⟨r4, hq, hm⟩ := gk_bd1_some hm
    refine gk_callS (n := 2) (bytes := cX0_holds) (maxL := 3) (ret := (some .boolean)) [] [] [] C ⟨hP, hD, hS⟩ (c_X0_holds l G x0 (x2 ^^^ (((1 : Int32) <<< (x3 &&& 31)) ||| ((1 : Int32) <<< (x6 &&& 31)))) hq) gX0_partners_X0_holds dX0_partners_24 hl.1 [] [] [] rfl ⟨rfl, rfl⟩ ⟨Nat.le_of_ble_eq_true rfl, Nat.le_of_ble_eq_true rfl⟩ ⟨by decide +kernel, by decide +kernel, by decide +kernel⟩ rfl (fun h => by cases h) (Nat.le_of_ble_eq_true rfl) rfl rfl rfl rfl (by decide) rfl rfl (fun H locs h => ?_)
    obtain ⟨hP, hD, hS⟩ := h
    refine lv_if_eq (tgt := 39) hx hb dX0_partners_27 (by decide) (fun c5 => ?_) (fun c5 => ?_)
    · have hm := gk_it c5 hm
      refine lv_iinc (v := x6 + 1) (lv' := [(6, .int (x6 + 1)), (0, .long x0), (2, .int x2), (3, .int x3), (4, .int x4), (5, .int x5)]) hx hb dX0_partners_39 hl (k := 5) rfl rfl (by decide) rfl (fun ls hl => ?_)
      refine lv_goto (tgt := 6) hx hb dX0_partners_42 (by decide) ?_
      exact kl _ _ (Option.some.inj hm).symm _ _ _ ⟨hP, hD, hS⟩ (lv_sub hl [1, 2, 3, 4, 5, 0] rfl)
    · have hm := gk_if c5 hm
      refine lv_iload hx hb dX0_partners_30 (lv_at hl 4 rfl) ?_
      refine lv_iconst (v := 1) hx hb dX0_partners_32 (by decide) ?_
      refine lv_iload hx hb dX0_partners_33 (lv_at hl 5 rfl) ?_
      refine lv_ishl hx hb dX0_partners_35 ?_
      refine lv_ior hx hb dX0_partners_36 ?_
      refine lv_istore (lv' := [(5, .int (x5 ||| ((1 : Int32) <<< (x6 &&& 31)))), (0, .long x0), (2, .int x2), (3, .int x3), (4, .int x4), (6, .int x6)]) hx hb dX0_partners_37 hl (by decide) rfl (fun ls hl => ?_)
      refine lv_iinc (v := x6 + 1) (lv' := [(6, .int (x6 + 1)), (5, .int (x5 ||| ((1 : Int32) <<< (x6 &&& 31)))), (0, .long x0), (2, .int x2), (3, .int x3), (4, .int x4)]) hx hb dX0_partners_39 hl (k := 5) rfl rfl (by decide) rfl (fun ls hl => ?_)
      refine lv_goto (tgt := 6) hx hb dX0_partners_42 (by decide) ?_
      exact kl _ _ (Option.some.inj hm).symm _ _ _ ⟨hP, hD, hS⟩ (lv_sub hl [2, 3, 4, 5, 1, 0] rfl)
set_option maxRecDepth 100000 in
set_option maxHeartbeats 4000000 in
theorem w_X0_partners_L6 {p : Program} {l : Launch} {e : Env} {s : State} {m : MethodId} {args : Array Value} {below : List Frame} {meth : Method} {c : Code} {G : gk_G} {A : Nat → Prop} {Q : State → Prop} (C : gk_C p s m args meth c cX0_partners 7 (some .int) yX0_partners wsX0_partners false G A) {x0 : Int64} {x2 : Int32} {x3 : Int32} {x4 : Int32} {x5 : Int32} {x6 : Int32} {k : Nat} {e_x5 : Int32} (hm : gk_lp (fun z => m_X0_partners_B6 x0 x2 x3 x4 z.1 z.2) k (x5, x6) = some e_x5) (kx : ∀ (H : Heap) (locs : List Loc) (ls : Array Slot), gk_H G A s [] H locs → lv_has ls 7 [(5, .int e_x5)] → W p l e rm_X0_partners s m args below meth c H locs 0 0 Q (F0 m 45 ls [])) {H : Heap} {locs : List Loc} {ls : Array Slot} (h : gk_H G A s [] H locs) (hl : lv_has ls 7 [(0, .long x0), (2, .int x2), (3, .int x3), (4, .int x4), (5, .int x5), (6, .int x6)]) : W p l e rm_X0_partners s m args below meth c H locs 0 0 Q (F0 m 6 ls []) :=
  gk_lp_some (P := fun z => ∀ (H : Heap) (locs : List Loc) (ls : Array Slot), gk_H G A s [] H locs → lv_has ls 7 [(0, .long x0), (2, .int x2), (3, .int x3), (4, .int x4), (5, .int z.1), (6, .int z.2)] → W p l e rm_X0_partners s m args below meth c H locs 0 0 Q (F0 m 6 ls [])) (E := fun r => (∀ (x5 : Int32), r = x5 → ∀ (H : Heap) (locs : List Loc) (ls : Array Slot), gk_H G A s [] H locs → lv_has ls 7 [(5, .int x5)] → W p l e rm_X0_partners s m args below meth c H locs 0 0 Q (F0 m 45 ls []))) (fun z x hf kl ke H locs ls h hl => w_X0_partners_B6 C hf (fun v0 v1 ez => kl (v0, v1) ez) (fun v0 ez => ke _ ez v0 rfl) h hl) k (x5, x6) _ hm (fun v0 ez => (by cases ez; exact kx)) _ _ _ h hl
def m_X0_partners_0 (x0 : Int64) (x2 : Int32) (x3 : Int32) (x4 : Int32) : Option (Int32) := gk_bd1 (gk_lp (fun z => m_X0_partners_B6 x0 x2 x3 x4 z.1 z.2) gk_fu ((0 : Int32), (0 : Int32))) (fun e6 => some e6)
set_option maxRecDepth 100000 in
set_option maxHeartbeats 4000000 in
theorem w_X0_partners_0 {p : Program} {l : Launch} {e : Env} {s : State} {m : MethodId} {args : Array Value} {below : List Frame} {meth : Method} {c : Code} {G : gk_G} {A : Nat → Prop} {Q : State → Prop} (C : gk_C p s m args meth c cX0_partners 7 (some .int) yX0_partners wsX0_partners false G A) {x0 : Int64} {x2 : Int32} {x3 : Int32} {x4 : Int32} {yy : Int32} (hm : m_X0_partners_0 x0 x2 x3 x4 = some yy) (kr : ∀ (rv : Int32), yy = rv → Q = MQ below (gk_Q G (some (.int rv)) [] A) args s 0 0 A) {H : Heap} {locs : List Loc} {ls : Array Slot} (h : gk_H G A s [] H locs) (hl : lv_has ls 7 [(0, .long x0), (2, .int x2), (3, .int x3), (4, .int x4)]) : W p l e rm_X0_partners s m args below meth c H locs 0 0 Q (F0 m 0 ls []) := by
  obtain ⟨hx, hb, hml, hr, hown, hnm, hts, hlk, hK, hSt, hA⟩ := id C
  obtain ⟨hP, hD, hS⟩ := h
  unfold m_X0_partners_0 at hm
  refine lv_iconst (v := 0) hx hb dX0_partners_0 (by decide) ?_
  refine lv_istore (lv' := [(5, .int (0 : Int32)), (0, .long x0), (2, .int x2), (3, .int x3), (4, .int x4)]) hx hb dX0_partners_1 hl (by decide) rfl (fun ls hl => ?_)
  refine lv_iconst (v := 0) hx hb dX0_partners_3 (by decide) ?_
  refine lv_istore (lv' := [(6, .int (0 : Int32)), (5, .int (0 : Int32)), (0, .long x0), (2, .int x2), (3, .int x3), (4, .int x4)]) hx hb dX0_partners_4 hl (by decide) rfl (fun ls hl => ?_)
  obtain ⟨e6, hq, hm⟩ := gk_bd1_some hm
  refine w_X0_partners_L6 C hq (fun H locs ls h hl => ?_) ⟨hP, hD, hS⟩ (lv_sub hl [2, 3, 4, 5, 1, 0] rfl)
  obtain ⟨hP, hD, hS⟩ := h
  refine lv_iload hx hb dX0_partners_45 (lv_at hl 0 rfl) ?_
  rw [kr _ (Option.some.inj hm).symm]
  exact gk_iret C ⟨hP, hD, hS⟩ dX0_partners_47
def m_X0_partners (x0 : Int64) (x2 : Int32) (x3 : Int32) (x4 : Int32) : Option (Int32) := m_X0_partners_0 x0 x2 x3 x4
theorem c_X0_partners (l : Launch) (G : gk_G) (x0 : Int64) (x2 : Int32) (x3 : Int32) (x4 : Int32) {rv : Int32} (hm : m_X0_partners x0 x2 x3 x4 = some rv) : gk_M l yX0_partners wsX0_partners rm_X0_partners false G [.long x0, .int x2, .int x3, .int x4] [] (some (.int rv)) [] :=
  gk_of (by decide) rfl (Nat.le_of_ble_eq_true rfl) (fun p e s m below meth c A ls C h hl => w_X0_partners_0 C hm (fun v0 ez => by cases ez; rfl) h (show lv_has ls 7 [(0, .long x0), (2, .int x2), (3, .int x3), (4, .int x4)] from hl))

/-! ===== ExchangeFamilies.Family.unmet(JIII)J ===== -/
abbrev rm_X0_unmet : Room := { frames := 5, cells := 0, slots := 0, locals := 240 }
def m_X0_unmet_0 (x0 : Int64) (x2 : Int32) (x3 : Int32) (x4 : Int32) : Option (Int64) := gk_bd1 (m_X0_partners x0 x2 x3 x4) (fun r2 => (if ((r2 >>> (x3 &&& 31)) &&& (1 : Int32)) = (0 : Int32) then gk_bd1 (m_X0_likeAt (x2 ^^^ ((1 : Int32) <<< (x3 &&& 31))) (r2 ||| ((1 : Int32) <<< (x3 &&& 31)))) (fun r4 => some (x0 &&& r4)) else some (0 : Int64)))
set_option maxRecDepth 100000 in
set_option maxHeartbeats 4000000 in
theorem w_X0_unmet_0 {p : Program} {l : Launch} {e : Env} {s : State} {m : MethodId} {args : Array Value} {below : List Frame} {meth : Method} {c : Code} {G : gk_G} {A : Nat → Prop} {Q : State → Prop} (C : gk_C p s m args meth c cX0_unmet 6 (some .long) yX0_unmet wsX0_unmet true G A) {x0 : Int64} {x2 : Int32} {x3 : Int32} {x4 : Int32} {yy : Int64} (hm : m_X0_unmet_0 x0 x2 x3 x4 = some yy) (kr : ∀ (rv : Int64), yy = rv → Q = MQ below (gk_Q G (some (.long rv)) [] A) args s 0 0 A) {H : Heap} {locs : List Loc} {ls : Array Slot} (h : gk_H G A s [] H locs) (hl : lv_has ls 6 [(0, .long x0), (2, .int x2), (3, .int x3), (4, .int x4)]) : W p l e rm_X0_unmet s m args below meth c H locs 0 0 Q (F0 m 0 ls []) := by
  obtain ⟨hx, hb, hml, hr, hown, hnm, hts, hlk, hK, hSt, hA⟩ := id C
  obtain ⟨hP, hD, hS⟩ := h
  unfold m_X0_unmet_0 at hm
  refine lv_lload_n hx hb dX0_unmet_0 rfl (lv_at hl 0 rfl) ?_
  refine lv_iload_n hx hb dX0_unmet_1 rfl (lv_at hl 1 rfl) ?_
  refine lv_iload_n hx hb dX0_unmet_2 rfl (lv_at hl 2 rfl) ?_
  refine lv_iload hx hb dX0_unmet_3 (lv_at hl 3 rfl) ?_
  obtain ⟨r2, hq, hm⟩ := gk_bd1_some hm
  refine gk_callS (n := 4) (bytes := cX0_partners) (maxL := 7) (ret := (some .int)) [] [] [] C ⟨hP, hD, hS⟩ (c_X0_partners l G x0 x2 x3 x4 hq) gX0_unmet_X0_partners dX0_unmet_5 hl.1 [] [] [] rfl ⟨rfl, rfl⟩ ⟨Nat.le_of_ble_eq_true rfl, Nat.le_of_ble_eq_true rfl⟩ ⟨by decide +kernel, by decide +kernel, by decide +kernel⟩ rfl (fun h => by cases h) (Nat.le_of_ble_eq_true rfl) rfl rfl rfl rfl (by decide) rfl rfl (fun H locs h => ?_)
  obtain ⟨hP, hD, hS⟩ := h
  refine lv_istore (lv' := [(5, .int r2), (0, .long x0), (2, .int x2), (3, .int x3), (4, .int x4)]) hx hb dX0_unmet_8 hl (by decide) rfl (fun ls hl => ?_)
  refine lv_iload hx hb dX0_unmet_10 (lv_at hl 0 rfl) ?_
  refine lv_iload_n hx hb dX0_unmet_12 rfl (lv_at hl 3 rfl) ?_
  refine lv_ishr hx hb dX0_unmet_13 ?_
  refine lv_iconst (v := 1) hx hb dX0_unmet_14 (by decide) ?_
  refine lv_iand hx hb dX0_unmet_15 ?_
  refine lv_if_eq (tgt := 21) hx hb dX0_unmet_16 (by decide) (fun c3 => ?_) (fun c3 => ?_)
  · have hm := gk_it c3 hm
    refine lv_lload_n hx hb dX0_unmet_21 rfl (lv_at hl 1 rfl) ?_
    refine lv_iload_n hx hb dX0_unmet_22 rfl (lv_at hl 2 rfl) ?_
    refine lv_iconst (v := 1) hx hb dX0_unmet_23 (by decide) ?_
    refine lv_iload_n hx hb dX0_unmet_24 rfl (lv_at hl 3 rfl) ?_
    refine lv_ishl hx hb dX0_unmet_25 ?_
    refine lv_ixor hx hb dX0_unmet_26 ?_
    refine lv_iload hx hb dX0_unmet_27 (lv_at hl 0 rfl) ?_
    refine lv_iconst (v := 1) hx hb dX0_unmet_29 (by decide) ?_
    refine lv_iload_n hx hb dX0_unmet_30 rfl (lv_at hl 3 rfl) ?_
    refine lv_ishl hx hb dX0_unmet_31 ?_
    refine lv_ior hx hb dX0_unmet_32 ?_
    obtain ⟨r4, hq, hm⟩ := gk_bd1_some hm
    refine gk_callS (n := 2) (bytes := cX0_likeAt) (maxL := 5) (ret := (some .long)) [] [] [.long x0] C ⟨hP, hD, hS⟩ (c_X0_likeAt l G (x2 ^^^ ((1 : Int32) <<< (x3 &&& 31))) (r2 ||| ((1 : Int32) <<< (x3 &&& 31))) hq) gX0_unmet_X0_likeAt dX0_unmet_33 hl.1 [] [] [] rfl ⟨rfl, rfl⟩ ⟨Nat.le_of_ble_eq_true rfl, Nat.le_of_ble_eq_true rfl⟩ ⟨by decide +kernel, by decide +kernel, by decide +kernel⟩ rfl (fun h => h) (Nat.le_of_ble_eq_true rfl) rfl rfl rfl rfl (by decide) rfl rfl (fun H locs h => ?_)
    obtain ⟨hP, hD, hS⟩ := h
    refine lv_land hx hb dX0_unmet_36 ?_
    rw [kr _ (Option.some.inj hm).symm]
    exact gk_lret C ⟨hP, hD, hS⟩ dX0_unmet_37
  · have hm := gk_if c3 hm
    refine lv_lconst (v := 0) hx hb dX0_unmet_19 (by decide) ?_
    rw [kr _ (Option.some.inj hm).symm]
    exact gk_lret C ⟨hP, hD, hS⟩ dX0_unmet_20
def m_X0_unmet (x0 : Int64) (x2 : Int32) (x3 : Int32) (x4 : Int32) : Option (Int64) := m_X0_unmet_0 x0 x2 x3 x4
theorem c_X0_unmet (l : Launch) (G : gk_G) (x0 : Int64) (x2 : Int32) (x3 : Int32) (x4 : Int32) {rv : Int64} (hm : m_X0_unmet x0 x2 x3 x4 = some rv) : gk_M l yX0_unmet wsX0_unmet rm_X0_unmet true G [.long x0, .int x2, .int x3, .int x4] [] (some (.long rv)) [] :=
  gk_of (by decide) rfl (Nat.le_of_ble_eq_true rfl) (fun p e s m below meth c A ls C h hl => w_X0_unmet_0 C hm (fun v0 ez => by cases ez; rfl) h (show lv_has ls 6 [(0, .long x0), (2, .int x2), (3, .int x3), (4, .int x4)] from hl))

/-! ===== ExchangeFamilies.Family.unmetByAny(JII)J ===== -/
abbrev rm_X0_unmetByAny : Room := { frames := 7, cells := 0, slots := 0, locals := 329 }
def m_X0_unmetByAny_B6 (x0 : Int64) (x2 : Int32) (x3 : Int32) (x4 : Int64) (x6 : Int32) : Option ((Int64 × Int32) ⊕ (Int64)) := (if x3 ≤ x6 then some (.inr x4) else gk_bd1 (m_X0_unmet x0 x2 x6 x3) (fun r3 => some (.inl (x4 ||| r3, x6 + 1))))
set_option maxRecDepth 100000 in
set_option maxHeartbeats 4000000 in
theorem w_X0_unmetByAny_B6 {p : Program} {l : Launch} {e : Env} {s : State} {m : MethodId} {args : Array Value} {below : List Frame} {meth : Method} {c : Code} {G : gk_G} {A : Nat → Prop} {Q : State → Prop} (C : gk_C p s m args meth c cX0_unmetByAny 7 (some .long) yX0_unmetByAny wsX0_unmetByAny true G A) {x0 : Int64} {x2 : Int32} {x3 : Int32} {x4 : Int64} {x6 : Int32} {yy : (Int64 × Int32) ⊕ (Int64)} (hm : m_X0_unmetByAny_B6 x0 x2 x3 x4 x6 = some yy) (kl : ∀ (x4 : Int64) (x6 : Int32), yy = .inl (x4, x6) → ∀ (H : Heap) (locs : List Loc) (ls : Array Slot), gk_H G A s [] H locs → lv_has ls 7 [(0, .long x0), (2, .int x2), (3, .int x3), (4, .long x4), (6, .int x6)] → W p l e rm_X0_unmetByAny s m args below meth c H locs 0 0 Q (F0 m 6 ls [])) (kx : ∀ (x4 : Int64), yy = .inr x4 → ∀ (H : Heap) (locs : List Loc) (ls : Array Slot), gk_H G A s [] H locs → lv_has ls 7 [(4, .long x4)] → W p l e rm_X0_unmetByAny s m args below meth c H locs 0 0 Q (F0 m 31 ls [])) {H : Heap} {locs : List Loc} {ls : Array Slot} (h : gk_H G A s [] H locs) (hl : lv_has ls 7 [(0, .long x0), (2, .int x2), (3, .int x3), (4, .long x4), (6, .int x6)]) : W p l e rm_X0_unmetByAny s m args below meth c H locs 0 0 Q (F0 m 6 ls []) := by
  obtain ⟨hx, hb, hml, hr, hown, hnm, hts, hlk, hK, hSt, hA⟩ := id C
  obtain ⟨hP, hD, hS⟩ := h
  unfold m_X0_unmetByAny_B6 at hm
  refine lv_iload hx hb dX0_unmetByAny_6 (lv_at hl 4 rfl) ?_
  refine lv_iload_n hx hb dX0_unmetByAny_8 rfl (lv_at hl 2 rfl) ?_
  refine lv_icmp_ge (tgt := 31) hx hb dX0_unmetByAny_9 (by decide) (fun c2 => ?_) (fun c2 => ?_)
  · have hm := gk_it c2 hm
    exact kx _ (Option.some.inj hm).symm _ _ _ ⟨hP, hD, hS⟩ (lv_sub hl [3] rfl)
  · have hm := gk_if c2 hm
    refine lv_lload hx hb dX0_unmetByAny_12 (lv_at hl 3 rfl) ?_
    refine lv_lload_n hx hb dX0_unmetByAny_14 rfl (lv_at hl 0 rfl) ?_
    refine lv_iload_n hx hb dX0_unmetByAny_15 rfl (lv_at hl 1 rfl) ?_
    refine lv_iload hx hb dX0_unmetByAny_16 (lv_at hl 4 rfl) ?_
    refine lv_iload_n hx hb dX0_unmetByAny_18 rfl (lv_at hl 2 rfl) ?_
    obtain ⟨r3, hq, hm⟩ := gk_bd1_some hm
    refine gk_callS (n := 4) (bytes := cX0_unmet) (maxL := 6) (ret := (some .long)) [] [] [.long x4] C ⟨hP, hD, hS⟩ (c_X0_unmet l G x0 x2 x6 x3 hq) gX0_unmetByAny_X0_unmet dX0_unmetByAny_19 hl.1 [] [] [] rfl ⟨rfl, rfl⟩ ⟨Nat.le_of_ble_eq_true rfl, Nat.le_of_ble_eq_true rfl⟩ ⟨by decide +kernel, by decide +kernel, by decide +kernel⟩ rfl (fun h => h) (Nat.le_of_ble_eq_true rfl) rfl rfl rfl rfl (by decide) rfl rfl (fun H locs h => ?_)
    obtain ⟨hP, hD, hS⟩ := h
    refine lv_lor hx hb dX0_unmetByAny_22 ?_
    refine lv_lstore (lv' := [(4, .long (x4 ||| r3)), (0, .long x0), (2, .int x2), (3, .int x3), (6, .int x6)]) hx hb dX0_unmetByAny_23 hl (by decide) rfl (fun ls hl => ?_)
    refine lv_iinc (v := x6 + 1) (lv' := [(6, .int (x6 + 1)), (4, .long (x4 ||| r3)), (0, .long x0), (2, .int x2), (3, .int x3)]) hx hb dX0_unmetByAny_25 hl (k := 4) rfl rfl (by decide) rfl (fun ls hl => ?_)
    refine lv_goto (tgt := 6) hx hb dX0_unmetByAny_28 (by decide) ?_
    exact kl _ _ (Option.some.inj hm).symm _ _ _ ⟨hP, hD, hS⟩ (lv_sub hl [2, 3, 4, 1, 0] rfl)
set_option maxRecDepth 100000 in
set_option maxHeartbeats 4000000 in
theorem w_X0_unmetByAny_L6 {p : Program} {l : Launch} {e : Env} {s : State} {m : MethodId} {args : Array Value} {below : List Frame} {meth : Method} {c : Code} {G : gk_G} {A : Nat → Prop} {Q : State → Prop} (C : gk_C p s m args meth c cX0_unmetByAny 7 (some .long) yX0_unmetByAny wsX0_unmetByAny true G A) {x0 : Int64} {x2 : Int32} {x3 : Int32} {x4 : Int64} {x6 : Int32} {k : Nat} {e_x4 : Int64} (hm : gk_lp (fun z => m_X0_unmetByAny_B6 x0 x2 x3 z.1 z.2) k (x4, x6) = some e_x4) (kx : ∀ (H : Heap) (locs : List Loc) (ls : Array Slot), gk_H G A s [] H locs → lv_has ls 7 [(4, .long e_x4)] → W p l e rm_X0_unmetByAny s m args below meth c H locs 0 0 Q (F0 m 31 ls [])) {H : Heap} {locs : List Loc} {ls : Array Slot} (h : gk_H G A s [] H locs) (hl : lv_has ls 7 [(0, .long x0), (2, .int x2), (3, .int x3), (4, .long x4), (6, .int x6)]) : W p l e rm_X0_unmetByAny s m args below meth c H locs 0 0 Q (F0 m 6 ls []) :=
  gk_lp_some (P := fun z => ∀ (H : Heap) (locs : List Loc) (ls : Array Slot), gk_H G A s [] H locs → lv_has ls 7 [(0, .long x0), (2, .int x2), (3, .int x3), (4, .long z.1), (6, .int z.2)] → W p l e rm_X0_unmetByAny s m args below meth c H locs 0 0 Q (F0 m 6 ls [])) (E := fun r => (∀ (x4 : Int64), r = x4 → ∀ (H : Heap) (locs : List Loc) (ls : Array Slot), gk_H G A s [] H locs → lv_has ls 7 [(4, .long x4)] → W p l e rm_X0_unmetByAny s m args below meth c H locs 0 0 Q (F0 m 31 ls []))) (fun z x hf kl ke H locs ls h hl => w_X0_unmetByAny_B6 C hf (fun v0 v1 ez => kl (v0, v1) ez) (fun v0 ez => ke _ ez v0 rfl) h hl) k (x4, x6) _ hm (fun v0 ez => (by cases ez; exact kx)) _ _ _ h hl
def m_X0_unmetByAny_0 (x0 : Int64) (x2 : Int32) (x3 : Int32) : Option (Int64) := gk_bd1 (gk_lp (fun z => m_X0_unmetByAny_B6 x0 x2 x3 z.1 z.2) gk_fu ((0 : Int64), (0 : Int32))) (fun e4 => some e4)
set_option maxRecDepth 100000 in
set_option maxHeartbeats 4000000 in
theorem w_X0_unmetByAny_0 {p : Program} {l : Launch} {e : Env} {s : State} {m : MethodId} {args : Array Value} {below : List Frame} {meth : Method} {c : Code} {G : gk_G} {A : Nat → Prop} {Q : State → Prop} (C : gk_C p s m args meth c cX0_unmetByAny 7 (some .long) yX0_unmetByAny wsX0_unmetByAny true G A) {x0 : Int64} {x2 : Int32} {x3 : Int32} {yy : Int64} (hm : m_X0_unmetByAny_0 x0 x2 x3 = some yy) (kr : ∀ (rv : Int64), yy = rv → Q = MQ below (gk_Q G (some (.long rv)) [] A) args s 0 0 A) {H : Heap} {locs : List Loc} {ls : Array Slot} (h : gk_H G A s [] H locs) (hl : lv_has ls 7 [(0, .long x0), (2, .int x2), (3, .int x3)]) : W p l e rm_X0_unmetByAny s m args below meth c H locs 0 0 Q (F0 m 0 ls []) := by
  obtain ⟨hx, hb, hml, hr, hown, hnm, hts, hlk, hK, hSt, hA⟩ := id C
  obtain ⟨hP, hD, hS⟩ := h
  unfold m_X0_unmetByAny_0 at hm
  refine lv_lconst (v := 0) hx hb dX0_unmetByAny_0 (by decide) ?_
  refine lv_lstore (lv' := [(4, .long (0 : Int64)), (0, .long x0), (2, .int x2), (3, .int x3)]) hx hb dX0_unmetByAny_1 hl (by decide) rfl (fun ls hl => ?_)
  refine lv_iconst (v := 0) hx hb dX0_unmetByAny_3 (by decide) ?_
  refine lv_istore (lv' := [(6, .int (0 : Int32)), (4, .long (0 : Int64)), (0, .long x0), (2, .int x2), (3, .int x3)]) hx hb dX0_unmetByAny_4 hl (by decide) rfl (fun ls hl => ?_)
  obtain ⟨e4, hq, hm⟩ := gk_bd1_some hm
  refine w_X0_unmetByAny_L6 C hq (fun H locs ls h hl => ?_) ⟨hP, hD, hS⟩ (lv_sub hl [2, 3, 4, 1, 0] rfl)
  obtain ⟨hP, hD, hS⟩ := h
  refine lv_lload hx hb dX0_unmetByAny_31 (lv_at hl 0 rfl) ?_
  rw [kr _ (Option.some.inj hm).symm]
  exact gk_lret C ⟨hP, hD, hS⟩ dX0_unmetByAny_33
def m_X0_unmetByAny (x0 : Int64) (x2 : Int32) (x3 : Int32) : Option (Int64) := m_X0_unmetByAny_0 x0 x2 x3
theorem c_X0_unmetByAny (l : Launch) (G : gk_G) (x0 : Int64) (x2 : Int32) (x3 : Int32) {rv : Int64} (hm : m_X0_unmetByAny x0 x2 x3 = some rv) : gk_M l yX0_unmetByAny wsX0_unmetByAny rm_X0_unmetByAny true G [.long x0, .int x2, .int x3] [] (some (.long rv)) [] :=
  gk_of (by decide) rfl (Nat.le_of_ble_eq_true rfl) (fun p e s m below meth c A ls C h hl => w_X0_unmetByAny_0 C hm (fun v0 ez => by cases ez; rfl) h (show lv_has ls 7 [(0, .long x0), (2, .int x2), (3, .int x3)] from hl))

/-! ===== ExchangeFamilies.Family.firstStuck(JI)I ===== -/
abbrev rm_X0_firstStuck : Room := { frames := 9, cells := 0, slots := 0, locals := 419 }
def m_X0_firstStuck_B2 (x0 : Int64) (x2 : Int32) (x3 : Int32) : Option ((Int32) ⊕ ((Int32) ⊕ (Unit))) := (if ((1 : Int32) <<< (x2 &&& 31)) ≤ x3 then some (.inr (.inr ())) else gk_bd1 (m_X0_holds x0 x3) (fun r5 => (if r5 = (0 : Int32) then some (.inl (x3 + 1)) else gk_bd1 (m_X0_unmetByAny x0 x3 x2) (fun r7 => (if (lg_cmp r7 (0 : Int64)) = (0 : Int32) then some (.inl (x3 + 1)) else some (.inr (.inl x3)))))))
set_option maxRecDepth 100000 in
set_option maxHeartbeats 4000000 in
theorem w_X0_firstStuck_B2 {p : Program} {l : Launch} {e : Env} {s : State} {m : MethodId} {args : Array Value} {below : List Frame} {meth : Method} {c : Code} {G : gk_G} {A : Nat → Prop} {Q : State → Prop} (C : gk_C p s m args meth c cX0_firstStuck 4 (some .int) yX0_firstStuck wsX0_firstStuck true G A) {x0 : Int64} {x2 : Int32} {x3 : Int32} {yy : (Int32) ⊕ ((Int32) ⊕ (Unit))} (hm : m_X0_firstStuck_B2 x0 x2 x3 = some yy) (kl : ∀ (x3 : Int32), yy = .inl x3 → ∀ (H : Heap) (locs : List Loc) (ls : Array Slot), gk_H G A s [] H locs → lv_has ls 4 [(0, .long x0), (2, .int x2), (3, .int x3)] → W p l e rm_X0_firstStuck s m args below meth c H locs 0 0 Q (F0 m 2 ls [])) (kx : yy = .inr (.inr ()) → ∀ (H : Heap) (locs : List Loc) (ls : Array Slot), gk_H G A s [] H locs → lv_has ls 4 [] → W p l e rm_X0_firstStuck s m args below meth c H locs 0 0 Q (F0 m 36 ls [])) (kr : ∀ (rv : Int32), yy = .inr (.inl rv) → Q = MQ below (gk_Q G (some (.int rv)) [] A) args s 0 0 A) {H : Heap} {locs : List Loc} {ls : Array Slot} (h : gk_H G A s [] H locs) (hl : lv_has ls 4 [(0, .long x0), (2, .int x2), (3, .int x3)]) : W p l e rm_X0_firstStuck s m args below meth c H locs 0 0 Q (F0 m 2 ls []) := by
  obtain ⟨hx, hb, hml, hr, hown, hnm, hts, hlk, hK, hSt, hA⟩ := id C
  obtain ⟨hP, hD, hS⟩ := h
  unfold m_X0_firstStuck_B2 at hm
  refine lv_iload_n hx hb dX0_firstStuck_2 rfl (lv_at hl 2 rfl) ?_
  refine lv_iconst (v := 1) hx hb dX0_firstStuck_3 (by decide) ?_
  refine lv_iload_n hx hb dX0_firstStuck_4 rfl (lv_at hl 1 rfl) ?_
  refine lv_ishl hx hb dX0_firstStuck_5 ?_
  refine lv_icmp_ge (tgt := 36) hx hb dX0_firstStuck_6 (by decide) (fun c4 => ?_) (fun c4 => ?_)
  · have hm := gk_it c4 hm
    exact kx (Option.some.inj hm).symm _ _ _ ⟨hP, hD, hS⟩ (lv_sub hl [] rfl)
  · have hm := gk_if c4 hm
    refine lv_lload_n hx hb dX0_firstStuck_9 rfl (lv_at hl 0 rfl) ?_
    refine lv_iload_n hx hb dX0_firstStuck_10 rfl (lv_at hl 2 rfl) ?_
    obtain ⟨r5, hq, hm⟩ := gk_bd1_some hm
    refine gk_callS (n := 2) (bytes := cX0_holds) (maxL := 3) (ret := (some .boolean)) [] [] [] C ⟨hP, hD, hS⟩ (c_X0_holds l G x0 x3 hq) gX0_firstStuck_X0_holds dX0_firstStuck_11 hl.1 [] [] [] rfl ⟨rfl, rfl⟩ ⟨Nat.le_of_ble_eq_true rfl, Nat.le_of_ble_eq_true rfl⟩ ⟨by decide +kernel, by decide +kernel, by decide +kernel⟩ rfl (fun h => by cases h) (Nat.le_of_ble_eq_true rfl) rfl rfl rfl rfl (by decide) rfl rfl (fun H locs h => ?_)
    obtain ⟨hP, hD, hS⟩ := h
    refine lv_if_eq (tgt := 30) hx hb dX0_firstStuck_14 (by decide) (fun c6 => ?_) (fun c6 => ?_)
    · have hm := gk_it c6 hm
      refine lv_iinc (v := x3 + 1) (lv' := [(3, .int (x3 + 1)), (0, .long x0), (2, .int x2)]) hx hb dX0_firstStuck_30 hl (k := 2) rfl rfl (by decide) rfl (fun ls hl => ?_)
      refine lv_goto (tgt := 2) hx hb dX0_firstStuck_33 (by decide) ?_
      exact kl _ (Option.some.inj hm).symm _ _ _ ⟨hP, hD, hS⟩ (lv_sub hl [1, 2, 0] rfl)
    · have hm := gk_if c6 hm
      refine lv_lload_n hx hb dX0_firstStuck_17 rfl (lv_at hl 0 rfl) ?_
      refine lv_iload_n hx hb dX0_firstStuck_18 rfl (lv_at hl 2 rfl) ?_
      refine lv_iload_n hx hb dX0_firstStuck_19 rfl (lv_at hl 1 rfl) ?_
      obtain ⟨r7, hq, hm⟩ := gk_bd1_some hm
      refine gk_callS (n := 3) (bytes := cX0_unmetByAny) (maxL := 7) (ret := (some .long)) [] [] [] C ⟨hP, hD, hS⟩ (c_X0_unmetByAny l G x0 x3 x2 hq) gX0_firstStuck_X0_unmetByAny dX0_firstStuck_20 hl.1 [] [] [] rfl ⟨rfl, rfl⟩ ⟨Nat.le_of_ble_eq_true rfl, Nat.le_of_ble_eq_true rfl⟩ ⟨by decide +kernel, by decide +kernel, by decide +kernel⟩ rfl (fun h => h) (Nat.le_of_ble_eq_true rfl) rfl rfl rfl rfl (by decide) rfl rfl (fun H locs h => ?_)
      obtain ⟨hP, hD, hS⟩ := h
      refine lv_lconst (v := 0) hx hb dX0_firstStuck_23 (by decide) ?_
      refine W.lcmp hx hb dX0_firstStuck_24 ?_
      refine lv_if_eq (tgt := 30) hx hb dX0_firstStuck_25 (by decide) (fun c8 => ?_) (fun c8 => ?_)
      · have hm := gk_it c8 hm
        refine lv_iinc (v := x3 + 1) (lv' := [(3, .int (x3 + 1)), (0, .long x0), (2, .int x2)]) hx hb dX0_firstStuck_30 hl (k := 2) rfl rfl (by decide) rfl (fun ls hl => ?_)
        refine lv_goto (tgt := 2) hx hb dX0_firstStuck_33 (by decide) ?_
        exact kl _ (Option.some.inj hm).symm _ _ _ ⟨hP, hD, hS⟩ (lv_sub hl [1, 2, 0] rfl)
      · have hm := gk_if c8 hm
        refine lv_iload_n hx hb dX0_firstStuck_28 rfl (lv_at hl 2 rfl) ?_
        rw [kr _ (Option.some.inj hm).symm]
        exact gk_iret C ⟨hP, hD, hS⟩ dX0_firstStuck_29
set_option maxRecDepth 100000 in
set_option maxHeartbeats 4000000 in
theorem w_X0_firstStuck_L2 {p : Program} {l : Launch} {e : Env} {s : State} {m : MethodId} {args : Array Value} {below : List Frame} {meth : Method} {c : Code} {G : gk_G} {A : Nat → Prop} {Q : State → Prop} (C : gk_C p s m args meth c cX0_firstStuck 4 (some .int) yX0_firstStuck wsX0_firstStuck true G A) {x0 : Int64} {x2 : Int32} {x3 : Int32} {k : Nat} (hm : gk_lp (fun z => m_X0_firstStuck_B2 x0 x2 z) k x3 = some (.inr ())) (kx : ∀ (H : Heap) (locs : List Loc) (ls : Array Slot), gk_H G A s [] H locs → lv_has ls 4 [] → W p l e rm_X0_firstStuck s m args below meth c H locs 0 0 Q (F0 m 36 ls [])) {H : Heap} {locs : List Loc} {ls : Array Slot} (h : gk_H G A s [] H locs) (hl : lv_has ls 4 [(0, .long x0), (2, .int x2), (3, .int x3)]) : W p l e rm_X0_firstStuck s m args below meth c H locs 0 0 Q (F0 m 2 ls []) :=
  gk_lp_some (P := fun z => ∀ (H : Heap) (locs : List Loc) (ls : Array Slot), gk_H G A s [] H locs → lv_has ls 4 [(0, .long x0), (2, .int x2), (3, .int z)] → W p l e rm_X0_firstStuck s m args below meth c H locs 0 0 Q (F0 m 2 ls [])) (E := fun r => (r = .inr () → ∀ (H : Heap) (locs : List Loc) (ls : Array Slot), gk_H G A s [] H locs → lv_has ls 4 [] → W p l e rm_X0_firstStuck s m args below meth c H locs 0 0 Q (F0 m 36 ls [])) ∧ (∀ (rv : Int32), r = .inl rv → Q = MQ below (gk_Q G (some (.int rv)) [] A) args s 0 0 A)) (fun z x hf kl ke H locs ls h hl => w_X0_firstStuck_B2 C hf (fun v0 ez => kl v0 ez) (fun ez => (ke _ ez).1 rfl) (fun v0 ez => (ke _ ez).2 v0 rfl) h hl) k x3 _ hm (⟨fun ez => (by cases ez; exact kx), fun v0 ez => (by cases ez)⟩) _ _ _ h hl
set_option maxRecDepth 100000 in
set_option maxHeartbeats 4000000 in
theorem w_X0_firstStuck_L2r {p : Program} {l : Launch} {e : Env} {s : State} {m : MethodId} {args : Array Value} {below : List Frame} {meth : Method} {c : Code} {G : gk_G} {A : Nat → Prop} {Q : State → Prop} (C : gk_C p s m args meth c cX0_firstStuck 4 (some .int) yX0_firstStuck wsX0_firstStuck true G A) {x0 : Int64} {x2 : Int32} {x3 : Int32} {k : Nat} {rv : Int32} (hm : gk_lp (fun z => m_X0_firstStuck_B2 x0 x2 z) k x3 = some (.inl rv)) (kr : Q = MQ below (gk_Q G (some (.int rv)) [] A) args s 0 0 A) {H : Heap} {locs : List Loc} {ls : Array Slot} (h : gk_H G A s [] H locs) (hl : lv_has ls 4 [(0, .long x0), (2, .int x2), (3, .int x3)]) : W p l e rm_X0_firstStuck s m args below meth c H locs 0 0 Q (F0 m 2 ls []) :=
  gk_lp_some (P := fun z => ∀ (H : Heap) (locs : List Loc) (ls : Array Slot), gk_H G A s [] H locs → lv_has ls 4 [(0, .long x0), (2, .int x2), (3, .int z)] → W p l e rm_X0_firstStuck s m args below meth c H locs 0 0 Q (F0 m 2 ls [])) (E := fun r => (r = .inr () → ∀ (H : Heap) (locs : List Loc) (ls : Array Slot), gk_H G A s [] H locs → lv_has ls 4 [] → W p l e rm_X0_firstStuck s m args below meth c H locs 0 0 Q (F0 m 36 ls [])) ∧ (∀ (rv : Int32), r = .inl rv → Q = MQ below (gk_Q G (some (.int rv)) [] A) args s 0 0 A)) (fun z x hf kl ke H locs ls h hl => w_X0_firstStuck_B2 C hf (fun v0 ez => kl v0 ez) (fun ez => (ke _ ez).1 rfl) (fun v0 ez => (ke _ ez).2 v0 rfl) h hl) k x3 _ hm (⟨fun ez => (by cases ez), fun v0 ez => (by cases ez; exact kr)⟩) _ _ _ h hl
def m_X0_firstStuck_0 (x0 : Int64) (x2 : Int32) : Option (Int32) := gk_bs0 (gk_lp (fun z => m_X0_firstStuck_B2 x0 x2 z) gk_fu (0 : Int32)) (fun r => some r) (some (-1 : Int32))
set_option maxRecDepth 100000 in
set_option maxHeartbeats 4000000 in
theorem w_X0_firstStuck_0 {p : Program} {l : Launch} {e : Env} {s : State} {m : MethodId} {args : Array Value} {below : List Frame} {meth : Method} {c : Code} {G : gk_G} {A : Nat → Prop} {Q : State → Prop} (C : gk_C p s m args meth c cX0_firstStuck 4 (some .int) yX0_firstStuck wsX0_firstStuck true G A) {x0 : Int64} {x2 : Int32} {yy : Int32} (hm : m_X0_firstStuck_0 x0 x2 = some yy) (kr : ∀ (rv : Int32), yy = rv → Q = MQ below (gk_Q G (some (.int rv)) [] A) args s 0 0 A) {H : Heap} {locs : List Loc} {ls : Array Slot} (h : gk_H G A s [] H locs) (hl : lv_has ls 4 [(0, .long x0), (2, .int x2)]) : W p l e rm_X0_firstStuck s m args below meth c H locs 0 0 Q (F0 m 0 ls []) := by
  obtain ⟨hx, hb, hml, hr, hown, hnm, hts, hlk, hK, hSt, hA⟩ := id C
  obtain ⟨hP, hD, hS⟩ := h
  unfold m_X0_firstStuck_0 at hm
  refine lv_iconst (v := 0) hx hb dX0_firstStuck_0 (by decide) ?_
  refine lv_istore_n (lv' := [(3, .int (0 : Int32)), (0, .long x0), (2, .int x2)]) hx hb dX0_firstStuck_1 rfl hl (by decide) rfl (fun ls hl => ?_)
  rcases gk_bs0_some hm with ⟨r9, hq, hm⟩ | ⟨hq, hm⟩
  · exact w_X0_firstStuck_L2r C hq (kr _ (Option.some.inj hm).symm) ⟨hP, hD, hS⟩ (lv_sub hl [1, 2, 0] rfl)
  refine w_X0_firstStuck_L2 C hq (fun H locs ls h hl => ?_) ⟨hP, hD, hS⟩ (lv_sub hl [1, 2, 0] rfl)
  obtain ⟨hP, hD, hS⟩ := h
  refine lv_iconst (v := -1) hx hb dX0_firstStuck_36 (by decide) ?_
  rw [kr _ (Option.some.inj hm).symm]
  exact gk_iret C ⟨hP, hD, hS⟩ dX0_firstStuck_37
def m_X0_firstStuck (x0 : Int64) (x2 : Int32) : Option (Int32) := m_X0_firstStuck_0 x0 x2
theorem c_X0_firstStuck (l : Launch) (G : gk_G) (x0 : Int64) (x2 : Int32) {rv : Int32} (hm : m_X0_firstStuck x0 x2 = some rv) : gk_M l yX0_firstStuck wsX0_firstStuck rm_X0_firstStuck true G [.long x0, .int x2] [] (some (.int rv)) [] :=
  gk_of (by decide) rfl (Nat.le_of_ble_eq_true rfl) (fun p e s m below meth c A ls C h hl => w_X0_firstStuck_0 C hm (fun v0 ez => by cases ez; rfl) h (show lv_has ls 4 [(0, .long x0), (2, .int x2)] from hl))

/-! ===== ExchangeFamilies.Family.firstUnmet(JII)I ===== -/
abbrev rm_X0_firstUnmet : Room := { frames := 9, cells := 0, slots := 0, locals := 419 }
def m_X0_firstUnmet_0 (x0 : Int64) (x2 : Int32) (x3 : Int32) : Option (Int32) := gk_bd1 (m_X0_unmetByAny x0 x2 x3) (fun r1 => gk_bd1 (m_X0_first r1) (fun r2 => some r2))
set_option maxRecDepth 100000 in
set_option maxHeartbeats 4000000 in
theorem w_X0_firstUnmet_0 {p : Program} {l : Launch} {e : Env} {s : State} {m : MethodId} {args : Array Value} {below : List Frame} {meth : Method} {c : Code} {G : gk_G} {A : Nat → Prop} {Q : State → Prop} (C : gk_C p s m args meth c cX0_firstUnmet 4 (some .int) yX0_firstUnmet wsX0_firstUnmet true G A) {x0 : Int64} {x2 : Int32} {x3 : Int32} {yy : Int32} (hm : m_X0_firstUnmet_0 x0 x2 x3 = some yy) (kr : ∀ (rv : Int32), yy = rv → Q = MQ below (gk_Q G (some (.int rv)) [] A) args s 0 0 A) {H : Heap} {locs : List Loc} {ls : Array Slot} (h : gk_H G A s [] H locs) (hl : lv_has ls 4 [(0, .long x0), (2, .int x2), (3, .int x3)]) : W p l e rm_X0_firstUnmet s m args below meth c H locs 0 0 Q (F0 m 0 ls []) := by
  obtain ⟨hx, hb, hml, hr, hown, hnm, hts, hlk, hK, hSt, hA⟩ := id C
  obtain ⟨hP, hD, hS⟩ := h
  unfold m_X0_firstUnmet_0 at hm
  refine lv_lload_n hx hb dX0_firstUnmet_0 rfl (lv_at hl 0 rfl) ?_
  refine lv_iload_n hx hb dX0_firstUnmet_1 rfl (lv_at hl 1 rfl) ?_
  refine lv_iload_n hx hb dX0_firstUnmet_2 rfl (lv_at hl 2 rfl) ?_
  obtain ⟨r1, hq, hm⟩ := gk_bd1_some hm
  refine gk_callS (n := 3) (bytes := cX0_unmetByAny) (maxL := 7) (ret := (some .long)) [] [] [] C ⟨hP, hD, hS⟩ (c_X0_unmetByAny l G x0 x2 x3 hq) gX0_firstUnmet_X0_unmetByAny dX0_firstUnmet_3 hl.1 [] [] [] rfl ⟨rfl, rfl⟩ ⟨Nat.le_of_ble_eq_true rfl, Nat.le_of_ble_eq_true rfl⟩ ⟨by decide +kernel, by decide +kernel, by decide +kernel⟩ rfl (fun h => h) (Nat.le_of_ble_eq_true rfl) rfl rfl rfl rfl (by decide) rfl rfl (fun H locs h => ?_)
  obtain ⟨hP, hD, hS⟩ := h
  obtain ⟨r2, hq, hm⟩ := gk_bd1_some hm
  refine gk_callS (n := 1) (bytes := cX0_first) (maxL := 2) (ret := (some .int)) [] [] [] C ⟨hP, hD, hS⟩ (c_X0_first l G r1 hq) gX0_firstUnmet_X0_first dX0_firstUnmet_6 hl.1 [] [] [] rfl ⟨rfl, rfl⟩ ⟨Nat.le_of_ble_eq_true rfl, Nat.le_of_ble_eq_true rfl⟩ ⟨by decide +kernel, by decide +kernel, by decide +kernel⟩ rfl (fun h => by cases h) (Nat.le_of_ble_eq_true rfl) rfl rfl rfl rfl (by decide) rfl rfl (fun H locs h => ?_)
  obtain ⟨hP, hD, hS⟩ := h
  rw [kr _ (Option.some.inj hm).symm]
  exact gk_iret C ⟨hP, hD, hS⟩ dX0_firstUnmet_9
def m_X0_firstUnmet (x0 : Int64) (x2 : Int32) (x3 : Int32) : Option (Int32) := m_X0_firstUnmet_0 x0 x2 x3
theorem c_X0_firstUnmet (l : Launch) (G : gk_G) (x0 : Int64) (x2 : Int32) (x3 : Int32) {rv : Int32} (hm : m_X0_firstUnmet x0 x2 x3 = some rv) : gk_M l yX0_firstUnmet wsX0_firstUnmet rm_X0_firstUnmet true G [.long x0, .int x2, .int x3] [] (some (.int rv)) [] :=
  gk_of (by decide) rfl (Nat.le_of_ble_eq_true rfl) (fun p e s m below meth c A ls C h hl => w_X0_firstUnmet_0 C hm (fun v0 ez => by cases ez; rfl) h (show lv_has ls 4 [(0, .long x0), (2, .int x2), (3, .int x3)] from hl))

/-! ===== ExchangeFamilies.Family.firstLonePoint(JIII)I ===== -/
abbrev rm_X0_firstLonePoint : Room := { frames := 7, cells := 0, slots := 0, locals := 329 }
def m_X0_firstLonePoint_B3 (x0 : Int64) (x2 : Int32) (x3 : Int32) (x4 : Int32) (x5 : Int32) : Option ((Int32) ⊕ ((Int32) ⊕ (Unit))) := (if x4 ≤ x5 then some (.inr (.inr ())) else gk_bd1 (m_X0_unmet x0 x2 x5 x4) (fun r4 => gk_bd1 (m_X0_holds r4 x3) (fun r5 => (if r5 = (0 : Int32) then some (.inl (x5 + 1)) else some (.inr (.inl x5))))))
set_option maxRecDepth 100000 in
set_option maxHeartbeats 4000000 in
theorem w_X0_firstLonePoint_B3 {p : Program} {l : Launch} {e : Env} {s : State} {m : MethodId} {args : Array Value} {below : List Frame} {meth : Method} {c : Code} {G : gk_G} {A : Nat → Prop} {Q : State → Prop} (C : gk_C p s m args meth c cX0_firstLonePoint 6 (some .int) yX0_firstLonePoint wsX0_firstLonePoint true G A) {x0 : Int64} {x2 : Int32} {x3 : Int32} {x4 : Int32} {x5 : Int32} {yy : (Int32) ⊕ ((Int32) ⊕ (Unit))} (hm : m_X0_firstLonePoint_B3 x0 x2 x3 x4 x5 = some yy) (kl : ∀ (x5 : Int32), yy = .inl x5 → ∀ (H : Heap) (locs : List Loc) (ls : Array Slot), gk_H G A s [] H locs → lv_has ls 6 [(0, .long x0), (2, .int x2), (3, .int x3), (4, .int x4), (5, .int x5)] → W p l e rm_X0_firstLonePoint s m args below meth c H locs 0 0 Q (F0 m 3 ls [])) (kx : yy = .inr (.inr ()) → ∀ (H : Heap) (locs : List Loc) (ls : Array Slot), gk_H G A s [] H locs → lv_has ls 6 [] → W p l e rm_X0_firstLonePoint s m args below meth c H locs 0 0 Q (F0 m 35 ls [])) (kr : ∀ (rv : Int32), yy = .inr (.inl rv) → Q = MQ below (gk_Q G (some (.int rv)) [] A) args s 0 0 A) {H : Heap} {locs : List Loc} {ls : Array Slot} (h : gk_H G A s [] H locs) (hl : lv_has ls 6 [(0, .long x0), (2, .int x2), (3, .int x3), (4, .int x4), (5, .int x5)]) : W p l e rm_X0_firstLonePoint s m args below meth c H locs 0 0 Q (F0 m 3 ls []) := by
  obtain ⟨hx, hb, hml, hr, hown, hnm, hts, hlk, hK, hSt, hA⟩ := id C
  obtain ⟨hP, hD, hS⟩ := h
  unfold m_X0_firstLonePoint_B3 at hm
  refine lv_iload hx hb dX0_firstLonePoint_3 (lv_at hl 4 rfl) ?_
  refine lv_iload hx hb dX0_firstLonePoint_5 (lv_at hl 3 rfl) ?_
  refine lv_icmp_ge (tgt := 35) hx hb dX0_firstLonePoint_7 (by decide) (fun c3 => ?_) (fun c3 => ?_)
  · have hm := gk_it c3 hm
    exact kx (Option.some.inj hm).symm _ _ _ ⟨hP, hD, hS⟩ (lv_sub hl [] rfl)
  · have hm := gk_if c3 hm
    refine lv_lload_n hx hb dX0_firstLonePoint_10 rfl (lv_at hl 0 rfl) ?_
    refine lv_iload_n hx hb dX0_firstLonePoint_11 rfl (lv_at hl 1 rfl) ?_
    refine lv_iload hx hb dX0_firstLonePoint_12 (lv_at hl 4 rfl) ?_
    refine lv_iload hx hb dX0_firstLonePoint_14 (lv_at hl 3 rfl) ?_
    obtain ⟨r4, hq, hm⟩ := gk_bd1_some hm
    refine gk_callS (n := 4) (bytes := cX0_unmet) (maxL := 6) (ret := (some .long)) [] [] [] C ⟨hP, hD, hS⟩ (c_X0_unmet l G x0 x2 x5 x4 hq) gX0_firstLonePoint_X0_unmet dX0_firstLonePoint_16 hl.1 [] [] [] rfl ⟨rfl, rfl⟩ ⟨Nat.le_of_ble_eq_true rfl, Nat.le_of_ble_eq_true rfl⟩ ⟨by decide +kernel, by decide +kernel, by decide +kernel⟩ rfl (fun h => h) (Nat.le_of_ble_eq_true rfl) rfl rfl rfl rfl (by decide) rfl rfl (fun H locs h => ?_)
    obtain ⟨hP, hD, hS⟩ := h
    refine lv_iload_n hx hb dX0_firstLonePoint_19 rfl (lv_at hl 2 rfl) ?_
    obtain ⟨r5, hq, hm⟩ := gk_bd1_some hm
    refine gk_callS (n := 2) (bytes := cX0_holds) (maxL := 3) (ret := (some .boolean)) [] [] [] C ⟨hP, hD, hS⟩ (c_X0_holds l G r4 x3 hq) gX0_firstLonePoint_X0_holds dX0_firstLonePoint_20 hl.1 [] [] [] rfl ⟨rfl, rfl⟩ ⟨Nat.le_of_ble_eq_true rfl, Nat.le_of_ble_eq_true rfl⟩ ⟨by decide +kernel, by decide +kernel, by decide +kernel⟩ rfl (fun h => by cases h) (Nat.le_of_ble_eq_true rfl) rfl rfl rfl rfl (by decide) rfl rfl (fun H locs h => ?_)
    obtain ⟨hP, hD, hS⟩ := h
    refine lv_if_eq (tgt := 29) hx hb dX0_firstLonePoint_23 (by decide) (fun c6 => ?_) (fun c6 => ?_)
    · have hm := gk_it c6 hm
      refine lv_iinc (v := x5 + 1) (lv' := [(5, .int (x5 + 1)), (0, .long x0), (2, .int x2), (3, .int x3), (4, .int x4)]) hx hb dX0_firstLonePoint_29 hl (k := 4) rfl rfl (by decide) rfl (fun ls hl => ?_)
      refine lv_goto (tgt := 3) hx hb dX0_firstLonePoint_32 (by decide) ?_
      exact kl _ (Option.some.inj hm).symm _ _ _ ⟨hP, hD, hS⟩ (lv_sub hl [1, 2, 3, 4, 0] rfl)
    · have hm := gk_if c6 hm
      refine lv_iload hx hb dX0_firstLonePoint_26 (lv_at hl 4 rfl) ?_
      rw [kr _ (Option.some.inj hm).symm]
      exact gk_iret C ⟨hP, hD, hS⟩ dX0_firstLonePoint_28
set_option maxRecDepth 100000 in
set_option maxHeartbeats 4000000 in
theorem w_X0_firstLonePoint_L3 {p : Program} {l : Launch} {e : Env} {s : State} {m : MethodId} {args : Array Value} {below : List Frame} {meth : Method} {c : Code} {G : gk_G} {A : Nat → Prop} {Q : State → Prop} (C : gk_C p s m args meth c cX0_firstLonePoint 6 (some .int) yX0_firstLonePoint wsX0_firstLonePoint true G A) {x0 : Int64} {x2 : Int32} {x3 : Int32} {x4 : Int32} {x5 : Int32} {k : Nat} (hm : gk_lp (fun z => m_X0_firstLonePoint_B3 x0 x2 x3 x4 z) k x5 = some (.inr ())) (kx : ∀ (H : Heap) (locs : List Loc) (ls : Array Slot), gk_H G A s [] H locs → lv_has ls 6 [] → W p l e rm_X0_firstLonePoint s m args below meth c H locs 0 0 Q (F0 m 35 ls [])) {H : Heap} {locs : List Loc} {ls : Array Slot} (h : gk_H G A s [] H locs) (hl : lv_has ls 6 [(0, .long x0), (2, .int x2), (3, .int x3), (4, .int x4), (5, .int x5)]) : W p l e rm_X0_firstLonePoint s m args below meth c H locs 0 0 Q (F0 m 3 ls []) :=
  gk_lp_some (P := fun z => ∀ (H : Heap) (locs : List Loc) (ls : Array Slot), gk_H G A s [] H locs → lv_has ls 6 [(0, .long x0), (2, .int x2), (3, .int x3), (4, .int x4), (5, .int z)] → W p l e rm_X0_firstLonePoint s m args below meth c H locs 0 0 Q (F0 m 3 ls [])) (E := fun r => (r = .inr () → ∀ (H : Heap) (locs : List Loc) (ls : Array Slot), gk_H G A s [] H locs → lv_has ls 6 [] → W p l e rm_X0_firstLonePoint s m args below meth c H locs 0 0 Q (F0 m 35 ls [])) ∧ (∀ (rv : Int32), r = .inl rv → Q = MQ below (gk_Q G (some (.int rv)) [] A) args s 0 0 A)) (fun z x hf kl ke H locs ls h hl => w_X0_firstLonePoint_B3 C hf (fun v0 ez => kl v0 ez) (fun ez => (ke _ ez).1 rfl) (fun v0 ez => (ke _ ez).2 v0 rfl) h hl) k x5 _ hm (⟨fun ez => (by cases ez; exact kx), fun v0 ez => (by cases ez)⟩) _ _ _ h hl
set_option maxRecDepth 100000 in
set_option maxHeartbeats 4000000 in
theorem w_X0_firstLonePoint_L3r {p : Program} {l : Launch} {e : Env} {s : State} {m : MethodId} {args : Array Value} {below : List Frame} {meth : Method} {c : Code} {G : gk_G} {A : Nat → Prop} {Q : State → Prop} (C : gk_C p s m args meth c cX0_firstLonePoint 6 (some .int) yX0_firstLonePoint wsX0_firstLonePoint true G A) {x0 : Int64} {x2 : Int32} {x3 : Int32} {x4 : Int32} {x5 : Int32} {k : Nat} {rv : Int32} (hm : gk_lp (fun z => m_X0_firstLonePoint_B3 x0 x2 x3 x4 z) k x5 = some (.inl rv)) (kr : Q = MQ below (gk_Q G (some (.int rv)) [] A) args s 0 0 A) {H : Heap} {locs : List Loc} {ls : Array Slot} (h : gk_H G A s [] H locs) (hl : lv_has ls 6 [(0, .long x0), (2, .int x2), (3, .int x3), (4, .int x4), (5, .int x5)]) : W p l e rm_X0_firstLonePoint s m args below meth c H locs 0 0 Q (F0 m 3 ls []) :=
  gk_lp_some (P := fun z => ∀ (H : Heap) (locs : List Loc) (ls : Array Slot), gk_H G A s [] H locs → lv_has ls 6 [(0, .long x0), (2, .int x2), (3, .int x3), (4, .int x4), (5, .int z)] → W p l e rm_X0_firstLonePoint s m args below meth c H locs 0 0 Q (F0 m 3 ls [])) (E := fun r => (r = .inr () → ∀ (H : Heap) (locs : List Loc) (ls : Array Slot), gk_H G A s [] H locs → lv_has ls 6 [] → W p l e rm_X0_firstLonePoint s m args below meth c H locs 0 0 Q (F0 m 35 ls [])) ∧ (∀ (rv : Int32), r = .inl rv → Q = MQ below (gk_Q G (some (.int rv)) [] A) args s 0 0 A)) (fun z x hf kl ke H locs ls h hl => w_X0_firstLonePoint_B3 C hf (fun v0 ez => kl v0 ez) (fun ez => (ke _ ez).1 rfl) (fun v0 ez => (ke _ ez).2 v0 rfl) h hl) k x5 _ hm (⟨fun ez => (by cases ez), fun v0 ez => (by cases ez; exact kr)⟩) _ _ _ h hl
def m_X0_firstLonePoint_0 (x0 : Int64) (x2 : Int32) (x3 : Int32) (x4 : Int32) : Option (Int32) := gk_bs0 (gk_lp (fun z => m_X0_firstLonePoint_B3 x0 x2 x3 x4 z) gk_fu (0 : Int32)) (fun r => some r) (some (-1 : Int32))
set_option maxRecDepth 100000 in
set_option maxHeartbeats 4000000 in
theorem w_X0_firstLonePoint_0 {p : Program} {l : Launch} {e : Env} {s : State} {m : MethodId} {args : Array Value} {below : List Frame} {meth : Method} {c : Code} {G : gk_G} {A : Nat → Prop} {Q : State → Prop} (C : gk_C p s m args meth c cX0_firstLonePoint 6 (some .int) yX0_firstLonePoint wsX0_firstLonePoint true G A) {x0 : Int64} {x2 : Int32} {x3 : Int32} {x4 : Int32} {yy : Int32} (hm : m_X0_firstLonePoint_0 x0 x2 x3 x4 = some yy) (kr : ∀ (rv : Int32), yy = rv → Q = MQ below (gk_Q G (some (.int rv)) [] A) args s 0 0 A) {H : Heap} {locs : List Loc} {ls : Array Slot} (h : gk_H G A s [] H locs) (hl : lv_has ls 6 [(0, .long x0), (2, .int x2), (3, .int x3), (4, .int x4)]) : W p l e rm_X0_firstLonePoint s m args below meth c H locs 0 0 Q (F0 m 0 ls []) := by
  obtain ⟨hx, hb, hml, hr, hown, hnm, hts, hlk, hK, hSt, hA⟩ := id C
  obtain ⟨hP, hD, hS⟩ := h
  unfold m_X0_firstLonePoint_0 at hm
  refine lv_iconst (v := 0) hx hb dX0_firstLonePoint_0 (by decide) ?_
  refine lv_istore (lv' := [(5, .int (0 : Int32)), (0, .long x0), (2, .int x2), (3, .int x3), (4, .int x4)]) hx hb dX0_firstLonePoint_1 hl (by decide) rfl (fun ls hl => ?_)
  rcases gk_bs0_some hm with ⟨r7, hq, hm⟩ | ⟨hq, hm⟩
  · exact w_X0_firstLonePoint_L3r C hq (kr _ (Option.some.inj hm).symm) ⟨hP, hD, hS⟩ (lv_sub hl [1, 2, 3, 4, 0] rfl)
  refine w_X0_firstLonePoint_L3 C hq (fun H locs ls h hl => ?_) ⟨hP, hD, hS⟩ (lv_sub hl [1, 2, 3, 4, 0] rfl)
  obtain ⟨hP, hD, hS⟩ := h
  refine lv_iconst (v := -1) hx hb dX0_firstLonePoint_35 (by decide) ?_
  rw [kr _ (Option.some.inj hm).symm]
  exact gk_iret C ⟨hP, hD, hS⟩ dX0_firstLonePoint_36
def m_X0_firstLonePoint (x0 : Int64) (x2 : Int32) (x3 : Int32) (x4 : Int32) : Option (Int32) := m_X0_firstLonePoint_0 x0 x2 x3 x4
theorem c_X0_firstLonePoint (l : Launch) (G : gk_G) (x0 : Int64) (x2 : Int32) (x3 : Int32) (x4 : Int32) {rv : Int32} (hm : m_X0_firstLonePoint x0 x2 x3 x4 = some rv) : gk_M l yX0_firstLonePoint wsX0_firstLonePoint rm_X0_firstLonePoint true G [.long x0, .int x2, .int x3, .int x4] [] (some (.int rv)) [] :=
  gk_of (by decide) rfl (Nat.le_of_ble_eq_true rfl) (fun p e s m below meth c A ls C h hl => w_X0_firstLonePoint_0 C hm (fun v0 ez => by cases ez; rfl) h (show lv_has ls 6 [(0, .long x0), (2, .int x2), (3, .int x3), (4, .int x4)] from hl))

/-! ===== ExchangeFamilies.Family.isExchanging(JI)Z ===== -/
abbrev rm_X0_isExchanging : Room := { frames := 11, cells := 0, slots := 0, locals := 506 }
def m_X0_isExchanging_0 (x0 : Int64) (x2 : Int32) : Option (Int32) := (if (lg_cmp x0 (0 : Int64)) = (0 : Int32) then some (0 : Int32) else gk_bd1 (m_X0_firstStuck x0 x2) (fun r4 => (if r4 = (-1 : Int32) then some (1 : Int32) else some (0 : Int32))))
set_option maxRecDepth 100000 in
set_option maxHeartbeats 4000000 in
theorem w_X0_isExchanging_0 {p : Program} {l : Launch} {e : Env} {s : State} {m : MethodId} {args : Array Value} {below : List Frame} {meth : Method} {c : Code} {G : gk_G} {A : Nat → Prop} {Q : State → Prop} (C : gk_C p s m args meth c cX0_isExchanging 3 (some .boolean) yX0_isExchanging wsX0_isExchanging true G A) {x0 : Int64} {x2 : Int32} {yy : Int32} (hm : m_X0_isExchanging_0 x0 x2 = some yy) (kr : ∀ (rv : Int32), yy = rv → Q = MQ below (gk_Q G (some (.int rv)) [] A) args s 0 0 A) {H : Heap} {locs : List Loc} {ls : Array Slot} (h : gk_H G A s [] H locs) (hl : lv_has ls 3 [(0, .long x0), (2, .int x2)]) : W p l e rm_X0_isExchanging s m args below meth c H locs 0 0 Q (F0 m 0 ls []) := by
  obtain ⟨hx, hb, hml, hr, hown, hnm, hts, hlk, hK, hSt, hA⟩ := id C
  obtain ⟨hP, hD, hS⟩ := h
  unfold m_X0_isExchanging_0 at hm
  refine lv_lload_n hx hb dX0_isExchanging_0 rfl (lv_at hl 0 rfl) ?_
  refine lv_lconst (v := 0) hx hb dX0_isExchanging_1 (by decide) ?_
  refine W.lcmp hx hb dX0_isExchanging_2 ?_
  refine lv_if_eq (tgt := 19) hx hb dX0_isExchanging_3 (by decide) (fun c3 => ?_) (fun c3 => ?_)
  · have hm := gk_it c3 hm
    refine lv_iconst (v := 0) hx hb dX0_isExchanging_19 (by decide) ?_
    rw [kr _ (Option.some.inj hm).symm]
    exact gk_zret C ⟨hP, hD, hS⟩ rfl dX0_isExchanging_20
  · have hm := gk_if c3 hm
    refine lv_lload_n hx hb dX0_isExchanging_6 rfl (lv_at hl 0 rfl) ?_
    refine lv_iload_n hx hb dX0_isExchanging_7 rfl (lv_at hl 1 rfl) ?_
    obtain ⟨r4, hq, hm⟩ := gk_bd1_some hm
    refine gk_callS (n := 2) (bytes := cX0_firstStuck) (maxL := 4) (ret := (some .int)) [] [] [] C ⟨hP, hD, hS⟩ (c_X0_firstStuck l G x0 x2 hq) gX0_isExchanging_X0_firstStuck dX0_isExchanging_8 hl.1 [] [] [] rfl ⟨rfl, rfl⟩ ⟨Nat.le_of_ble_eq_true rfl, Nat.le_of_ble_eq_true rfl⟩ ⟨by decide +kernel, by decide +kernel, by decide +kernel⟩ rfl (fun h => h) (Nat.le_of_ble_eq_true rfl) rfl rfl rfl rfl (by decide) rfl rfl (fun H locs h => ?_)
    obtain ⟨hP, hD, hS⟩ := h
    refine lv_iconst (v := -1) hx hb dX0_isExchanging_11 (by decide) ?_
    refine lv_icmp_ne (tgt := 19) hx hb dX0_isExchanging_12 (by decide) (fun c5 => ?_) (fun c5 => ?_)
    · have hm := gk_if c5 hm
      refine lv_iconst (v := 0) hx hb dX0_isExchanging_19 (by decide) ?_
      rw [kr _ (Option.some.inj hm).symm]
      exact gk_zret C ⟨hP, hD, hS⟩ rfl dX0_isExchanging_20
    · have hm := gk_it c5 hm
      refine lv_iconst (v := 1) hx hb dX0_isExchanging_15 (by decide) ?_
      refine lv_goto (tgt := 20) hx hb dX0_isExchanging_16 (by decide) ?_
      rw [kr _ (Option.some.inj hm).symm]
      exact gk_zret C ⟨hP, hD, hS⟩ rfl dX0_isExchanging_20
def m_X0_isExchanging (x0 : Int64) (x2 : Int32) : Option (Int32) := m_X0_isExchanging_0 x0 x2
theorem c_X0_isExchanging (l : Launch) (G : gk_G) (x0 : Int64) (x2 : Int32) {rv : Int32} (hm : m_X0_isExchanging x0 x2 = some rv) : gk_M l yX0_isExchanging wsX0_isExchanging rm_X0_isExchanging true G [.long x0, .int x2] [] (some (.int rv)) [] :=
  gk_of (by decide) rfl (Nat.le_of_ble_eq_true rfl) (fun p e s m below meth c A ls C h hl => w_X0_isExchanging_0 C hm (fun v0 ez => by cases ez; rfl) h (show lv_has ls 3 [(0, .long x0), (2, .int x2)] from hl))

/-! ===== ExchangeFamilies.Family.changedByOne(JI)J ===== -/
abbrev rm_X0_changedByOne : Room := { frames := 3, cells := 0, slots := 0, locals := 154 }
def m_X0_changedByOne_B5 (x0 : Int64) (x2 : Int32) (x3 : Int64) (x5 : Int32) : Option ((Int64 × Int32) ⊕ (Int64)) := (if x2 ≤ x5 then some (.inr x3) else gk_bd1 (m_X0_twistedByOne x0 x5) (fun r3 => some (.inl (x3 ||| r3, x5 + 1))))
set_option maxRecDepth 100000 in
set_option maxHeartbeats 4000000 in
theorem w_X0_changedByOne_B5 {p : Program} {l : Launch} {e : Env} {s : State} {m : MethodId} {args : Array Value} {below : List Frame} {meth : Method} {c : Code} {G : gk_G} {A : Nat → Prop} {Q : State → Prop} (C : gk_C p s m args meth c cX0_changedByOne 6 (some .long) yX0_changedByOne wsX0_changedByOne true G A) {x0 : Int64} {x2 : Int32} {x3 : Int64} {x5 : Int32} {yy : (Int64 × Int32) ⊕ (Int64)} (hm : m_X0_changedByOne_B5 x0 x2 x3 x5 = some yy) (kl : ∀ (x3 : Int64) (x5 : Int32), yy = .inl (x3, x5) → ∀ (H : Heap) (locs : List Loc) (ls : Array Slot), gk_H G A s [] H locs → lv_has ls 6 [(0, .long x0), (2, .int x2), (3, .long x3), (5, .int x5)] → W p l e rm_X0_changedByOne s m args below meth c H locs 0 0 Q (F0 m 5 ls [])) (kx : ∀ (x3 : Int64), yy = .inr x3 → ∀ (H : Heap) (locs : List Loc) (ls : Array Slot), gk_H G A s [] H locs → lv_has ls 6 [(3, .long x3)] → W p l e rm_X0_changedByOne s m args below meth c H locs 0 0 Q (F0 m 26 ls [])) {H : Heap} {locs : List Loc} {ls : Array Slot} (h : gk_H G A s [] H locs) (hl : lv_has ls 6 [(0, .long x0), (2, .int x2), (3, .long x3), (5, .int x5)]) : W p l e rm_X0_changedByOne s m args below meth c H locs 0 0 Q (F0 m 5 ls []) := by
  obtain ⟨hx, hb, hml, hr, hown, hnm, hts, hlk, hK, hSt, hA⟩ := id C
  obtain ⟨hP, hD, hS⟩ := h
  unfold m_X0_changedByOne_B5 at hm
  refine lv_iload hx hb dX0_changedByOne_5 (lv_at hl 3 rfl) ?_
  refine lv_iload_n hx hb dX0_changedByOne_7 rfl (lv_at hl 1 rfl) ?_
  refine lv_icmp_ge (tgt := 26) hx hb dX0_changedByOne_8 (by decide) (fun c2 => ?_) (fun c2 => ?_)
  · have hm := gk_it c2 hm
    exact kx _ (Option.some.inj hm).symm _ _ _ ⟨hP, hD, hS⟩ (lv_sub hl [2] rfl)
  · have hm := gk_if c2 hm
    refine lv_lload_n hx hb dX0_changedByOne_11 rfl (lv_at hl 2 rfl) ?_
    refine lv_lload_n hx hb dX0_changedByOne_12 rfl (lv_at hl 0 rfl) ?_
    refine lv_iload hx hb dX0_changedByOne_13 (lv_at hl 3 rfl) ?_
    obtain ⟨r3, hq, hm⟩ := gk_bd1_some hm
    refine gk_callS (n := 2) (bytes := cX0_twistedByOne) (maxL := 7) (ret := (some .long)) [] [] [.long x3] C ⟨hP, hD, hS⟩ (c_X0_twistedByOne l G x0 x5 hq) gX0_changedByOne_X0_twistedByOne dX0_changedByOne_15 hl.1 [] [] [] rfl ⟨rfl, rfl⟩ ⟨Nat.le_of_ble_eq_true rfl, Nat.le_of_ble_eq_true rfl⟩ ⟨by decide +kernel, by decide +kernel, by decide +kernel⟩ rfl (fun h => h) (Nat.le_of_ble_eq_true rfl) rfl rfl rfl rfl (by decide) rfl rfl (fun H locs h => ?_)
    obtain ⟨hP, hD, hS⟩ := h
    refine lv_lor hx hb dX0_changedByOne_18 ?_
    refine lv_lstore_n (lv' := [(3, .long (x3 ||| r3)), (0, .long x0), (2, .int x2), (5, .int x5)]) hx hb dX0_changedByOne_19 rfl hl (by decide) rfl (fun ls hl => ?_)
    refine lv_iinc (v := x5 + 1) (lv' := [(5, .int (x5 + 1)), (3, .long (x3 ||| r3)), (0, .long x0), (2, .int x2)]) hx hb dX0_changedByOne_20 hl (k := 3) rfl rfl (by decide) rfl (fun ls hl => ?_)
    refine lv_goto (tgt := 5) hx hb dX0_changedByOne_23 (by decide) ?_
    exact kl _ _ (Option.some.inj hm).symm _ _ _ ⟨hP, hD, hS⟩ (lv_sub hl [2, 3, 1, 0] rfl)
set_option maxRecDepth 100000 in
set_option maxHeartbeats 4000000 in
theorem w_X0_changedByOne_L5 {p : Program} {l : Launch} {e : Env} {s : State} {m : MethodId} {args : Array Value} {below : List Frame} {meth : Method} {c : Code} {G : gk_G} {A : Nat → Prop} {Q : State → Prop} (C : gk_C p s m args meth c cX0_changedByOne 6 (some .long) yX0_changedByOne wsX0_changedByOne true G A) {x0 : Int64} {x2 : Int32} {x3 : Int64} {x5 : Int32} {k : Nat} {e_x3 : Int64} (hm : gk_lp (fun z => m_X0_changedByOne_B5 x0 x2 z.1 z.2) k (x3, x5) = some e_x3) (kx : ∀ (H : Heap) (locs : List Loc) (ls : Array Slot), gk_H G A s [] H locs → lv_has ls 6 [(3, .long e_x3)] → W p l e rm_X0_changedByOne s m args below meth c H locs 0 0 Q (F0 m 26 ls [])) {H : Heap} {locs : List Loc} {ls : Array Slot} (h : gk_H G A s [] H locs) (hl : lv_has ls 6 [(0, .long x0), (2, .int x2), (3, .long x3), (5, .int x5)]) : W p l e rm_X0_changedByOne s m args below meth c H locs 0 0 Q (F0 m 5 ls []) :=
  gk_lp_some (P := fun z => ∀ (H : Heap) (locs : List Loc) (ls : Array Slot), gk_H G A s [] H locs → lv_has ls 6 [(0, .long x0), (2, .int x2), (3, .long z.1), (5, .int z.2)] → W p l e rm_X0_changedByOne s m args below meth c H locs 0 0 Q (F0 m 5 ls [])) (E := fun r => (∀ (x3 : Int64), r = x3 → ∀ (H : Heap) (locs : List Loc) (ls : Array Slot), gk_H G A s [] H locs → lv_has ls 6 [(3, .long x3)] → W p l e rm_X0_changedByOne s m args below meth c H locs 0 0 Q (F0 m 26 ls []))) (fun z x hf kl ke H locs ls h hl => w_X0_changedByOne_B5 C hf (fun v0 v1 ez => kl (v0, v1) ez) (fun v0 ez => ke _ ez v0 rfl) h hl) k (x3, x5) _ hm (fun v0 ez => (by cases ez; exact kx)) _ _ _ h hl
def m_X0_changedByOne_0 (x0 : Int64) (x2 : Int32) : Option (Int64) := gk_bd1 (gk_lp (fun z => m_X0_changedByOne_B5 x0 x2 z.1 z.2) gk_fu (x0, (0 : Int32))) (fun e4 => some e4)
set_option maxRecDepth 100000 in
set_option maxHeartbeats 4000000 in
theorem w_X0_changedByOne_0 {p : Program} {l : Launch} {e : Env} {s : State} {m : MethodId} {args : Array Value} {below : List Frame} {meth : Method} {c : Code} {G : gk_G} {A : Nat → Prop} {Q : State → Prop} (C : gk_C p s m args meth c cX0_changedByOne 6 (some .long) yX0_changedByOne wsX0_changedByOne true G A) {x0 : Int64} {x2 : Int32} {yy : Int64} (hm : m_X0_changedByOne_0 x0 x2 = some yy) (kr : ∀ (rv : Int64), yy = rv → Q = MQ below (gk_Q G (some (.long rv)) [] A) args s 0 0 A) {H : Heap} {locs : List Loc} {ls : Array Slot} (h : gk_H G A s [] H locs) (hl : lv_has ls 6 [(0, .long x0), (2, .int x2)]) : W p l e rm_X0_changedByOne s m args below meth c H locs 0 0 Q (F0 m 0 ls []) := by
  obtain ⟨hx, hb, hml, hr, hown, hnm, hts, hlk, hK, hSt, hA⟩ := id C
  obtain ⟨hP, hD, hS⟩ := h
  unfold m_X0_changedByOne_0 at hm
  refine lv_lload_n hx hb dX0_changedByOne_0 rfl (lv_at hl 0 rfl) ?_
  refine lv_lstore_n (lv' := [(3, .long x0), (0, .long x0), (2, .int x2)]) hx hb dX0_changedByOne_1 rfl hl (by decide) rfl (fun ls hl => ?_)
  refine lv_iconst (v := 0) hx hb dX0_changedByOne_2 (by decide) ?_
  refine lv_istore (lv' := [(5, .int (0 : Int32)), (3, .long x0), (0, .long x0), (2, .int x2)]) hx hb dX0_changedByOne_3 hl (by decide) rfl (fun ls hl => ?_)
  obtain ⟨e4, hq, hm⟩ := gk_bd1_some hm
  refine w_X0_changedByOne_L5 C hq (fun H locs ls h hl => ?_) ⟨hP, hD, hS⟩ (lv_sub hl [2, 3, 1, 0] rfl)
  obtain ⟨hP, hD, hS⟩ := h
  refine lv_lload_n hx hb dX0_changedByOne_26 rfl (lv_at hl 0 rfl) ?_
  rw [kr _ (Option.some.inj hm).symm]
  exact gk_lret C ⟨hP, hD, hS⟩ dX0_changedByOne_27
def m_X0_changedByOne (x0 : Int64) (x2 : Int32) : Option (Int64) := m_X0_changedByOne_0 x0 x2
theorem c_X0_changedByOne (l : Launch) (G : gk_G) (x0 : Int64) (x2 : Int32) {rv : Int64} (hm : m_X0_changedByOne x0 x2 = some rv) : gk_M l yX0_changedByOne wsX0_changedByOne rm_X0_changedByOne true G [.long x0, .int x2] [] (some (.long rv)) [] :=
  gk_of (by decide) rfl (Nat.le_of_ble_eq_true rfl) (fun p e s m below meth c A ls C h hl => w_X0_changedByOne_0 C hm (fun v0 ez => by cases ez; rfl) h (show lv_has ls 6 [(0, .long x0), (2, .int x2)] from hl))

/-! ===== ExchangeFamilies.Family.changedByTwo(JI)J ===== -/
abbrev rm_X0_changedByTwo : Room := { frames := 5, cells := 0, slots := 0, locals := 243 }
def m_X0_changedByTwo_0 (x0 : Int64) (x2 : Int32) : Option (Int64) := gk_bd1 (m_X0_changedByOne x0 x2) (fun r1 => gk_bd1 (m_X0_changedByOne r1 x2) (fun r2 => some r2))
set_option maxRecDepth 100000 in
set_option maxHeartbeats 4000000 in
theorem w_X0_changedByTwo_0 {p : Program} {l : Launch} {e : Env} {s : State} {m : MethodId} {args : Array Value} {below : List Frame} {meth : Method} {c : Code} {G : gk_G} {A : Nat → Prop} {Q : State → Prop} (C : gk_C p s m args meth c cX0_changedByTwo 5 (some .long) yX0_changedByTwo wsX0_changedByTwo true G A) {x0 : Int64} {x2 : Int32} {yy : Int64} (hm : m_X0_changedByTwo_0 x0 x2 = some yy) (kr : ∀ (rv : Int64), yy = rv → Q = MQ below (gk_Q G (some (.long rv)) [] A) args s 0 0 A) {H : Heap} {locs : List Loc} {ls : Array Slot} (h : gk_H G A s [] H locs) (hl : lv_has ls 5 [(0, .long x0), (2, .int x2)]) : W p l e rm_X0_changedByTwo s m args below meth c H locs 0 0 Q (F0 m 0 ls []) := by
  obtain ⟨hx, hb, hml, hr, hown, hnm, hts, hlk, hK, hSt, hA⟩ := id C
  obtain ⟨hP, hD, hS⟩ := h
  unfold m_X0_changedByTwo_0 at hm
  refine lv_lload_n hx hb dX0_changedByTwo_0 rfl (lv_at hl 0 rfl) ?_
  refine lv_iload_n hx hb dX0_changedByTwo_1 rfl (lv_at hl 1 rfl) ?_
  obtain ⟨r1, hq, hm⟩ := gk_bd1_some hm
  refine gk_callS (n := 2) (bytes := cX0_changedByOne) (maxL := 6) (ret := (some .long)) [] [] [] C ⟨hP, hD, hS⟩ (c_X0_changedByOne l G x0 x2 hq) gX0_changedByTwo_X0_changedByOne dX0_changedByTwo_2 hl.1 [] [] [] rfl ⟨rfl, rfl⟩ ⟨Nat.le_of_ble_eq_true rfl, Nat.le_of_ble_eq_true rfl⟩ ⟨by decide +kernel, by decide +kernel, by decide +kernel⟩ rfl (fun h => h) (Nat.le_of_ble_eq_true rfl) rfl rfl rfl rfl (by decide) rfl rfl (fun H locs h => ?_)
  obtain ⟨hP, hD, hS⟩ := h
  refine lv_lstore_n (lv' := [(3, .long r1), (0, .long x0), (2, .int x2)]) hx hb dX0_changedByTwo_5 rfl hl (by decide) rfl (fun ls hl => ?_)
  refine lv_lload_n hx hb dX0_changedByTwo_6 rfl (lv_at hl 0 rfl) ?_
  refine lv_iload_n hx hb dX0_changedByTwo_7 rfl (lv_at hl 2 rfl) ?_
  obtain ⟨r2, hq, hm⟩ := gk_bd1_some hm
  refine gk_callS (n := 2) (bytes := cX0_changedByOne) (maxL := 6) (ret := (some .long)) [] [] [] C ⟨hP, hD, hS⟩ (c_X0_changedByOne l G r1 x2 hq) gX0_changedByTwo_X0_changedByOne dX0_changedByTwo_8 hl.1 [] [] [] rfl ⟨rfl, rfl⟩ ⟨Nat.le_of_ble_eq_true rfl, Nat.le_of_ble_eq_true rfl⟩ ⟨by decide +kernel, by decide +kernel, by decide +kernel⟩ rfl (fun h => h) (Nat.le_of_ble_eq_true rfl) rfl rfl rfl rfl (by decide) rfl rfl (fun H locs h => ?_)
  obtain ⟨hP, hD, hS⟩ := h
  rw [kr _ (Option.some.inj hm).symm]
  exact gk_lret C ⟨hP, hD, hS⟩ dX0_changedByTwo_11
def m_X0_changedByTwo (x0 : Int64) (x2 : Int32) : Option (Int64) := m_X0_changedByTwo_0 x0 x2
theorem c_X0_changedByTwo (l : Launch) (G : gk_G) (x0 : Int64) (x2 : Int32) {rv : Int64} (hm : m_X0_changedByTwo x0 x2 = some rv) : gk_M l yX0_changedByTwo wsX0_changedByTwo rm_X0_changedByTwo true G [.long x0, .int x2] [] (some (.long rv)) [] :=
  gk_of (by decide) rfl (Nat.le_of_ble_eq_true rfl) (fun p e s m below meth c A ls C h hl => w_X0_changedByTwo_0 C hm (fun v0 ez => by cases ez; rfl) h (show lv_has ls 5 [(0, .long x0), (2, .int x2)] from hl))

/-! ===== ExchangeFamilies.Family.exchangesBetween(JIII)I ===== -/
abbrev rm_X0_exchangesBetween : Room := { frames := 7, cells := 0, slots := 0, locals := 331 }
def m_X0_exchangesBetween_B8 (x0 : Int64) (x3 : Int32) (x4 : Int32) (x5 : Int64) (x7 : Int32) : Option ((Int64 × Int32) ⊕ ((Int32) ⊕ (Unit))) := (if (64 : Int32) ≤ x7 then some (.inr (.inr ())) else gk_bd1 (m_X0_holds x5 x3) (fun r4 => (if r4 = (0 : Int32) then gk_bd1 (m_X0_changedByTwo x5 x4) (fun r6 => some (.inl (x5 ||| (x0 &&& r6), x7 + 1))) else some (.inr (.inl x7)))))
set_option maxRecDepth 100000 in
set_option maxHeartbeats 4000000 in
theorem w_X0_exchangesBetween_B8 {p : Program} {l : Launch} {e : Env} {s : State} {m : MethodId} {args : Array Value} {below : List Frame} {meth : Method} {c : Code} {G : gk_G} {A : Nat → Prop} {Q : State → Prop} (C : gk_C p s m args meth c cX0_exchangesBetween 8 (some .int) yX0_exchangesBetween wsX0_exchangesBetween true G A) {x0 : Int64} {x3 : Int32} {x4 : Int32} {x5 : Int64} {x7 : Int32} {yy : (Int64 × Int32) ⊕ ((Int32) ⊕ (Unit))} (hm : m_X0_exchangesBetween_B8 x0 x3 x4 x5 x7 = some yy) (kl : ∀ (x5 : Int64) (x7 : Int32), yy = .inl (x5, x7) → ∀ (H : Heap) (locs : List Loc) (ls : Array Slot), gk_H G A s [] H locs → lv_has ls 8 [(0, .long x0), (3, .int x3), (4, .int x4), (5, .long x5), (7, .int x7)] → W p l e rm_X0_exchangesBetween s m args below meth c H locs 0 0 Q (F0 m 8 ls [])) (kx : yy = .inr (.inr ()) → ∀ (H : Heap) (locs : List Loc) (ls : Array Slot), gk_H G A s [] H locs → lv_has ls 8 [] → W p l e rm_X0_exchangesBetween s m args below meth c H locs 0 0 Q (F0 m 47 ls [])) (kr : ∀ (rv : Int32), yy = .inr (.inl rv) → Q = MQ below (gk_Q G (some (.int rv)) [] A) args s 0 0 A) {H : Heap} {locs : List Loc} {ls : Array Slot} (h : gk_H G A s [] H locs) (hl : lv_has ls 8 [(0, .long x0), (3, .int x3), (4, .int x4), (5, .long x5), (7, .int x7)]) : W p l e rm_X0_exchangesBetween s m args below meth c H locs 0 0 Q (F0 m 8 ls []) := by
  obtain ⟨hx, hb, hml, hr, hown, hnm, hts, hlk, hK, hSt, hA⟩ := id C
  obtain ⟨hP, hD, hS⟩ := h
  unfold m_X0_exchangesBetween_B8 at hm
  refine lv_iload hx hb dX0_exchangesBetween_8 (lv_at hl 4 rfl) ?_
  refine lv_bipush (v := 64) hx hb dX0_exchangesBetween_10 (by decide) ?_
  refine lv_icmp_ge (tgt := 47) hx hb dX0_exchangesBetween_12 (by decide) (fun c3 => ?_) (fun c3 => ?_)
  · have hm := gk_it c3 hm
    exact kx (Option.some.inj hm).symm _ _ _ ⟨hP, hD, hS⟩ (lv_sub hl [] rfl)
  · have hm := gk_if c3 hm
    refine lv_lload hx hb dX0_exchangesBetween_15 (lv_at hl 3 rfl) ?_
    refine lv_iload_n hx hb dX0_exchangesBetween_17 rfl (lv_at hl 1 rfl) ?_
    obtain ⟨r4, hq, hm⟩ := gk_bd1_some hm
    refine gk_callS (n := 2) (bytes := cX0_holds) (maxL := 3) (ret := (some .boolean)) [] [] [] C ⟨hP, hD, hS⟩ (c_X0_holds l G x5 x3 hq) gX0_exchangesBetween_X0_holds dX0_exchangesBetween_18 hl.1 [] [] [] rfl ⟨rfl, rfl⟩ ⟨Nat.le_of_ble_eq_true rfl, Nat.le_of_ble_eq_true rfl⟩ ⟨by decide +kernel, by decide +kernel, by decide +kernel⟩ rfl (fun h => by cases h) (Nat.le_of_ble_eq_true rfl) rfl rfl rfl rfl (by decide) rfl rfl (fun H locs h => ?_)
    obtain ⟨hP, hD, hS⟩ := h
    refine lv_if_eq (tgt := 27) hx hb dX0_exchangesBetween_21 (by decide) (fun c5 => ?_) (fun c5 => ?_)
    · have hm := gk_it c5 hm
      refine lv_lload hx hb dX0_exchangesBetween_27 (lv_at hl 3 rfl) ?_
      refine lv_lload_n hx hb dX0_exchangesBetween_29 rfl (lv_at hl 0 rfl) ?_
      refine lv_lload hx hb dX0_exchangesBetween_30 (lv_at hl 3 rfl) ?_
      refine lv_iload hx hb dX0_exchangesBetween_32 (lv_at hl 2 rfl) ?_
      obtain ⟨r6, hq, hm⟩ := gk_bd1_some hm
      refine gk_callS (n := 2) (bytes := cX0_changedByTwo) (maxL := 5) (ret := (some .long)) [] [] [.long x0, .long x5] C ⟨hP, hD, hS⟩ (c_X0_changedByTwo l G x5 x4 hq) gX0_exchangesBetween_X0_changedByTwo dX0_exchangesBetween_34 hl.1 [] [] [] rfl ⟨rfl, rfl⟩ ⟨Nat.le_of_ble_eq_true rfl, Nat.le_of_ble_eq_true rfl⟩ ⟨by decide +kernel, by decide +kernel, by decide +kernel⟩ rfl (fun h => h) (Nat.le_of_ble_eq_true rfl) rfl rfl rfl rfl (by decide) rfl rfl (fun H locs h => ?_)
      obtain ⟨hP, hD, hS⟩ := h
      refine lv_land hx hb dX0_exchangesBetween_37 ?_
      refine lv_lor hx hb dX0_exchangesBetween_38 ?_
      refine lv_lstore (lv' := [(5, .long (x5 ||| (x0 &&& r6))), (0, .long x0), (3, .int x3), (4, .int x4), (7, .int x7)]) hx hb dX0_exchangesBetween_39 hl (by decide) rfl (fun ls hl => ?_)
      refine lv_iinc (v := x7 + 1) (lv' := [(7, .int (x7 + 1)), (5, .long (x5 ||| (x0 &&& r6))), (0, .long x0), (3, .int x3), (4, .int x4)]) hx hb dX0_exchangesBetween_41 hl (k := 4) rfl rfl (by decide) rfl (fun ls hl => ?_)
      refine lv_goto (tgt := 8) hx hb dX0_exchangesBetween_44 (by decide) ?_
      exact kl _ _ (Option.some.inj hm).symm _ _ _ ⟨hP, hD, hS⟩ (lv_sub hl [2, 3, 4, 1, 0] rfl)
    · have hm := gk_if c5 hm
      refine lv_iload hx hb dX0_exchangesBetween_24 (lv_at hl 4 rfl) ?_
      rw [kr _ (Option.some.inj hm).symm]
      exact gk_iret C ⟨hP, hD, hS⟩ dX0_exchangesBetween_26
set_option maxRecDepth 100000 in
set_option maxHeartbeats 4000000 in
theorem w_X0_exchangesBetween_L8 {p : Program} {l : Launch} {e : Env} {s : State} {m : MethodId} {args : Array Value} {below : List Frame} {meth : Method} {c : Code} {G : gk_G} {A : Nat → Prop} {Q : State → Prop} (C : gk_C p s m args meth c cX0_exchangesBetween 8 (some .int) yX0_exchangesBetween wsX0_exchangesBetween true G A) {x0 : Int64} {x3 : Int32} {x4 : Int32} {x5 : Int64} {x7 : Int32} {k : Nat} (hm : gk_lp (fun z => m_X0_exchangesBetween_B8 x0 x3 x4 z.1 z.2) k (x5, x7) = some (.inr ())) (kx : ∀ (H : Heap) (locs : List Loc) (ls : Array Slot), gk_H G A s [] H locs → lv_has ls 8 [] → W p l e rm_X0_exchangesBetween s m args below meth c H locs 0 0 Q (F0 m 47 ls [])) {H : Heap} {locs : List Loc} {ls : Array Slot} (h : gk_H G A s [] H locs) (hl : lv_has ls 8 [(0, .long x0), (3, .int x3), (4, .int x4), (5, .long x5), (7, .int x7)]) : W p l e rm_X0_exchangesBetween s m args below meth c H locs 0 0 Q (F0 m 8 ls []) :=
  gk_lp_some (P := fun z => ∀ (H : Heap) (locs : List Loc) (ls : Array Slot), gk_H G A s [] H locs → lv_has ls 8 [(0, .long x0), (3, .int x3), (4, .int x4), (5, .long z.1), (7, .int z.2)] → W p l e rm_X0_exchangesBetween s m args below meth c H locs 0 0 Q (F0 m 8 ls [])) (E := fun r => (r = .inr () → ∀ (H : Heap) (locs : List Loc) (ls : Array Slot), gk_H G A s [] H locs → lv_has ls 8 [] → W p l e rm_X0_exchangesBetween s m args below meth c H locs 0 0 Q (F0 m 47 ls [])) ∧ (∀ (rv : Int32), r = .inl rv → Q = MQ below (gk_Q G (some (.int rv)) [] A) args s 0 0 A)) (fun z x hf kl ke H locs ls h hl => w_X0_exchangesBetween_B8 C hf (fun v0 v1 ez => kl (v0, v1) ez) (fun ez => (ke _ ez).1 rfl) (fun v0 ez => (ke _ ez).2 v0 rfl) h hl) k (x5, x7) _ hm (⟨fun ez => (by cases ez; exact kx), fun v0 ez => (by cases ez)⟩) _ _ _ h hl
set_option maxRecDepth 100000 in
set_option maxHeartbeats 4000000 in
theorem w_X0_exchangesBetween_L8r {p : Program} {l : Launch} {e : Env} {s : State} {m : MethodId} {args : Array Value} {below : List Frame} {meth : Method} {c : Code} {G : gk_G} {A : Nat → Prop} {Q : State → Prop} (C : gk_C p s m args meth c cX0_exchangesBetween 8 (some .int) yX0_exchangesBetween wsX0_exchangesBetween true G A) {x0 : Int64} {x3 : Int32} {x4 : Int32} {x5 : Int64} {x7 : Int32} {k : Nat} {rv : Int32} (hm : gk_lp (fun z => m_X0_exchangesBetween_B8 x0 x3 x4 z.1 z.2) k (x5, x7) = some (.inl rv)) (kr : Q = MQ below (gk_Q G (some (.int rv)) [] A) args s 0 0 A) {H : Heap} {locs : List Loc} {ls : Array Slot} (h : gk_H G A s [] H locs) (hl : lv_has ls 8 [(0, .long x0), (3, .int x3), (4, .int x4), (5, .long x5), (7, .int x7)]) : W p l e rm_X0_exchangesBetween s m args below meth c H locs 0 0 Q (F0 m 8 ls []) :=
  gk_lp_some (P := fun z => ∀ (H : Heap) (locs : List Loc) (ls : Array Slot), gk_H G A s [] H locs → lv_has ls 8 [(0, .long x0), (3, .int x3), (4, .int x4), (5, .long z.1), (7, .int z.2)] → W p l e rm_X0_exchangesBetween s m args below meth c H locs 0 0 Q (F0 m 8 ls [])) (E := fun r => (r = .inr () → ∀ (H : Heap) (locs : List Loc) (ls : Array Slot), gk_H G A s [] H locs → lv_has ls 8 [] → W p l e rm_X0_exchangesBetween s m args below meth c H locs 0 0 Q (F0 m 47 ls [])) ∧ (∀ (rv : Int32), r = .inl rv → Q = MQ below (gk_Q G (some (.int rv)) [] A) args s 0 0 A)) (fun z x hf kl ke H locs ls h hl => w_X0_exchangesBetween_B8 C hf (fun v0 v1 ez => kl (v0, v1) ez) (fun ez => (ke _ ez).1 rfl) (fun v0 ez => (ke _ ez).2 v0 rfl) h hl) k (x5, x7) _ hm (⟨fun ez => (by cases ez), fun v0 ez => (by cases ez; exact kr)⟩) _ _ _ h hl
def m_X0_exchangesBetween_0 (x0 : Int64) (x2 : Int32) (x3 : Int32) (x4 : Int32) : Option (Int32) := gk_bs0 (gk_lp (fun z => m_X0_exchangesBetween_B8 x0 x3 x4 z.1 z.2) gk_fu ((1 : Int64) <<< (x2.toInt64 &&& 63), (0 : Int32))) (fun r => some r) (some (-1 : Int32))
set_option maxRecDepth 100000 in
set_option maxHeartbeats 4000000 in
theorem w_X0_exchangesBetween_0 {p : Program} {l : Launch} {e : Env} {s : State} {m : MethodId} {args : Array Value} {below : List Frame} {meth : Method} {c : Code} {G : gk_G} {A : Nat → Prop} {Q : State → Prop} (C : gk_C p s m args meth c cX0_exchangesBetween 8 (some .int) yX0_exchangesBetween wsX0_exchangesBetween true G A) {x0 : Int64} {x2 : Int32} {x3 : Int32} {x4 : Int32} {yy : Int32} (hm : m_X0_exchangesBetween_0 x0 x2 x3 x4 = some yy) (kr : ∀ (rv : Int32), yy = rv → Q = MQ below (gk_Q G (some (.int rv)) [] A) args s 0 0 A) {H : Heap} {locs : List Loc} {ls : Array Slot} (h : gk_H G A s [] H locs) (hl : lv_has ls 8 [(0, .long x0), (2, .int x2), (3, .int x3), (4, .int x4)]) : W p l e rm_X0_exchangesBetween s m args below meth c H locs 0 0 Q (F0 m 0 ls []) := by
  obtain ⟨hx, hb, hml, hr, hown, hnm, hts, hlk, hK, hSt, hA⟩ := id C
  obtain ⟨hP, hD, hS⟩ := h
  unfold m_X0_exchangesBetween_0 at hm
  refine lv_lconst (v := 1) hx hb dX0_exchangesBetween_0 (by decide) ?_
  refine lv_iload_n hx hb dX0_exchangesBetween_1 rfl (lv_at hl 1 rfl) ?_
  refine lv_lshl hx hb dX0_exchangesBetween_2 rfl ?_
  refine lv_lstore (lv' := [(5, .long ((1 : Int64) <<< (x2.toInt64 &&& 63))), (0, .long x0), (2, .int x2), (3, .int x3), (4, .int x4)]) hx hb dX0_exchangesBetween_3 hl (by decide) rfl (fun ls hl => ?_)
  refine lv_iconst (v := 0) hx hb dX0_exchangesBetween_5 (by decide) ?_
  refine lv_istore (lv' := [(7, .int (0 : Int32)), (5, .long ((1 : Int64) <<< (x2.toInt64 &&& 63))), (0, .long x0), (2, .int x2), (3, .int x3), (4, .int x4)]) hx hb dX0_exchangesBetween_6 hl (by decide) rfl (fun ls hl => ?_)
  rcases gk_bs0_some hm with ⟨r7, hq, hm⟩ | ⟨hq, hm⟩
  · exact w_X0_exchangesBetween_L8r C hq (kr _ (Option.some.inj hm).symm) ⟨hP, hD, hS⟩ (lv_sub hl [2, 4, 5, 1, 0] rfl)
  refine w_X0_exchangesBetween_L8 C hq (fun H locs ls h hl => ?_) ⟨hP, hD, hS⟩ (lv_sub hl [2, 4, 5, 1, 0] rfl)
  obtain ⟨hP, hD, hS⟩ := h
  refine lv_iconst (v := -1) hx hb dX0_exchangesBetween_47 (by decide) ?_
  rw [kr _ (Option.some.inj hm).symm]
  exact gk_iret C ⟨hP, hD, hS⟩ dX0_exchangesBetween_48
def m_X0_exchangesBetween (x0 : Int64) (x2 : Int32) (x3 : Int32) (x4 : Int32) : Option (Int32) := m_X0_exchangesBetween_0 x0 x2 x3 x4
theorem c_X0_exchangesBetween (l : Launch) (G : gk_G) (x0 : Int64) (x2 : Int32) (x3 : Int32) (x4 : Int32) {rv : Int32} (hm : m_X0_exchangesBetween x0 x2 x3 x4 = some rv) : gk_M l yX0_exchangesBetween wsX0_exchangesBetween rm_X0_exchangesBetween true G [.long x0, .int x2, .int x3, .int x4] [] (some (.int rv)) [] :=
  gk_of (by decide) rfl (Nat.le_of_ble_eq_true rfl) (fun p e s m below meth c A ls C h hl => w_X0_exchangesBetween_0 C hm (fun v0 ez => by cases ez; rfl) h (show lv_has ls 8 [(0, .long x0), (2, .int x2), (3, .int x3), (4, .int x4)] from hl))

/-! ===== ExchangeFamilies.Family.leastTwist(JJI)I ===== -/
abbrev rm_X0_leastTwist : Room := { frames := 5, cells := 0, slots := 0, locals := 243 }
def m_X0_leastTwist_B3 (x0 : Int64) (x2 : Int64) (x4 : Int32) (x5 : Int32) : Option ((Int32) ⊕ ((Int32) ⊕ (Unit))) := (if ((1 : Int32) <<< (x4 &&& 31)) ≤ x5 then some (.inr (.inr ())) else gk_bd1 (m_X0_twisted x0 x5) (fun r4 => (if (lg_cmp r4 x2) = (0 : Int32) then some (.inr (.inl x5)) else some (.inl (x5 + 1)))))
set_option maxRecDepth 100000 in
set_option maxHeartbeats 4000000 in
theorem w_X0_leastTwist_B3 {p : Program} {l : Launch} {e : Env} {s : State} {m : MethodId} {args : Array Value} {below : List Frame} {meth : Method} {c : Code} {G : gk_G} {A : Nat → Prop} {Q : State → Prop} (C : gk_C p s m args meth c cX0_leastTwist 6 (some .int) yX0_leastTwist wsX0_leastTwist true G A) {x0 : Int64} {x2 : Int64} {x4 : Int32} {x5 : Int32} {yy : (Int32) ⊕ ((Int32) ⊕ (Unit))} (hm : m_X0_leastTwist_B3 x0 x2 x4 x5 = some yy) (kl : ∀ (x5 : Int32), yy = .inl x5 → ∀ (H : Heap) (locs : List Loc) (ls : Array Slot), gk_H G A s [] H locs → lv_has ls 6 [(0, .long x0), (2, .long x2), (4, .int x4), (5, .int x5)] → W p l e rm_X0_leastTwist s m args below meth c H locs 0 0 Q (F0 m 3 ls [])) (kx : yy = .inr (.inr ()) → ∀ (H : Heap) (locs : List Loc) (ls : Array Slot), gk_H G A s [] H locs → lv_has ls 6 [] → W p l e rm_X0_leastTwist s m args below meth c H locs 0 0 Q (F0 m 32 ls [])) (kr : ∀ (rv : Int32), yy = .inr (.inl rv) → Q = MQ below (gk_Q G (some (.int rv)) [] A) args s 0 0 A) {H : Heap} {locs : List Loc} {ls : Array Slot} (h : gk_H G A s [] H locs) (hl : lv_has ls 6 [(0, .long x0), (2, .long x2), (4, .int x4), (5, .int x5)]) : W p l e rm_X0_leastTwist s m args below meth c H locs 0 0 Q (F0 m 3 ls []) := by
  obtain ⟨hx, hb, hml, hr, hown, hnm, hts, hlk, hK, hSt, hA⟩ := id C
  obtain ⟨hP, hD, hS⟩ := h
  unfold m_X0_leastTwist_B3 at hm
  refine lv_iload hx hb dX0_leastTwist_3 (lv_at hl 3 rfl) ?_
  refine lv_iconst (v := 1) hx hb dX0_leastTwist_5 (by decide) ?_
  refine lv_iload hx hb dX0_leastTwist_6 (lv_at hl 2 rfl) ?_
  refine lv_ishl hx hb dX0_leastTwist_8 ?_
  refine lv_icmp_ge (tgt := 32) hx hb dX0_leastTwist_9 (by decide) (fun c3 => ?_) (fun c3 => ?_)
  · have hm := gk_it c3 hm
    exact kx (Option.some.inj hm).symm _ _ _ ⟨hP, hD, hS⟩ (lv_sub hl [] rfl)
  · have hm := gk_if c3 hm
    refine lv_lload_n hx hb dX0_leastTwist_12 rfl (lv_at hl 0 rfl) ?_
    refine lv_iload hx hb dX0_leastTwist_13 (lv_at hl 3 rfl) ?_
    obtain ⟨r4, hq, hm⟩ := gk_bd1_some hm
    refine gk_callS (n := 2) (bytes := cX0_twisted) (maxL := 6) (ret := (some .long)) [] [] [] C ⟨hP, hD, hS⟩ (c_X0_twisted l G x0 x5 hq) gX0_leastTwist_X0_twisted dX0_leastTwist_15 hl.1 [] [] [] rfl ⟨rfl, rfl⟩ ⟨Nat.le_of_ble_eq_true rfl, Nat.le_of_ble_eq_true rfl⟩ ⟨by decide +kernel, by decide +kernel, by decide +kernel⟩ rfl (fun h => h) (Nat.le_of_ble_eq_true rfl) rfl rfl rfl rfl (by decide) rfl rfl (fun H locs h => ?_)
    obtain ⟨hP, hD, hS⟩ := h
    refine lv_lload_n hx hb dX0_leastTwist_18 rfl (lv_at hl 1 rfl) ?_
    refine W.lcmp hx hb dX0_leastTwist_19 ?_
    refine lv_if_ne (tgt := 26) hx hb dX0_leastTwist_20 (by decide) (fun c5 => ?_) (fun c5 => ?_)
    · have hm := gk_if c5 hm
      refine lv_iinc (v := x5 + 1) (lv' := [(5, .int (x5 + 1)), (0, .long x0), (2, .long x2), (4, .int x4)]) hx hb dX0_leastTwist_26 hl (k := 3) rfl rfl (by decide) rfl (fun ls hl => ?_)
      refine lv_goto (tgt := 3) hx hb dX0_leastTwist_29 (by decide) ?_
      exact kl _ (Option.some.inj hm).symm _ _ _ ⟨hP, hD, hS⟩ (lv_sub hl [1, 2, 3, 0] rfl)
    · have hm := gk_it c5 hm
      refine lv_iload hx hb dX0_leastTwist_23 (lv_at hl 3 rfl) ?_
      rw [kr _ (Option.some.inj hm).symm]
      exact gk_iret C ⟨hP, hD, hS⟩ dX0_leastTwist_25
set_option maxRecDepth 100000 in
set_option maxHeartbeats 4000000 in
theorem w_X0_leastTwist_L3 {p : Program} {l : Launch} {e : Env} {s : State} {m : MethodId} {args : Array Value} {below : List Frame} {meth : Method} {c : Code} {G : gk_G} {A : Nat → Prop} {Q : State → Prop} (C : gk_C p s m args meth c cX0_leastTwist 6 (some .int) yX0_leastTwist wsX0_leastTwist true G A) {x0 : Int64} {x2 : Int64} {x4 : Int32} {x5 : Int32} {k : Nat} (hm : gk_lp (fun z => m_X0_leastTwist_B3 x0 x2 x4 z) k x5 = some (.inr ())) (kx : ∀ (H : Heap) (locs : List Loc) (ls : Array Slot), gk_H G A s [] H locs → lv_has ls 6 [] → W p l e rm_X0_leastTwist s m args below meth c H locs 0 0 Q (F0 m 32 ls [])) {H : Heap} {locs : List Loc} {ls : Array Slot} (h : gk_H G A s [] H locs) (hl : lv_has ls 6 [(0, .long x0), (2, .long x2), (4, .int x4), (5, .int x5)]) : W p l e rm_X0_leastTwist s m args below meth c H locs 0 0 Q (F0 m 3 ls []) :=
  gk_lp_some (P := fun z => ∀ (H : Heap) (locs : List Loc) (ls : Array Slot), gk_H G A s [] H locs → lv_has ls 6 [(0, .long x0), (2, .long x2), (4, .int x4), (5, .int z)] → W p l e rm_X0_leastTwist s m args below meth c H locs 0 0 Q (F0 m 3 ls [])) (E := fun r => (r = .inr () → ∀ (H : Heap) (locs : List Loc) (ls : Array Slot), gk_H G A s [] H locs → lv_has ls 6 [] → W p l e rm_X0_leastTwist s m args below meth c H locs 0 0 Q (F0 m 32 ls [])) ∧ (∀ (rv : Int32), r = .inl rv → Q = MQ below (gk_Q G (some (.int rv)) [] A) args s 0 0 A)) (fun z x hf kl ke H locs ls h hl => w_X0_leastTwist_B3 C hf (fun v0 ez => kl v0 ez) (fun ez => (ke _ ez).1 rfl) (fun v0 ez => (ke _ ez).2 v0 rfl) h hl) k x5 _ hm (⟨fun ez => (by cases ez; exact kx), fun v0 ez => (by cases ez)⟩) _ _ _ h hl
set_option maxRecDepth 100000 in
set_option maxHeartbeats 4000000 in
theorem w_X0_leastTwist_L3r {p : Program} {l : Launch} {e : Env} {s : State} {m : MethodId} {args : Array Value} {below : List Frame} {meth : Method} {c : Code} {G : gk_G} {A : Nat → Prop} {Q : State → Prop} (C : gk_C p s m args meth c cX0_leastTwist 6 (some .int) yX0_leastTwist wsX0_leastTwist true G A) {x0 : Int64} {x2 : Int64} {x4 : Int32} {x5 : Int32} {k : Nat} {rv : Int32} (hm : gk_lp (fun z => m_X0_leastTwist_B3 x0 x2 x4 z) k x5 = some (.inl rv)) (kr : Q = MQ below (gk_Q G (some (.int rv)) [] A) args s 0 0 A) {H : Heap} {locs : List Loc} {ls : Array Slot} (h : gk_H G A s [] H locs) (hl : lv_has ls 6 [(0, .long x0), (2, .long x2), (4, .int x4), (5, .int x5)]) : W p l e rm_X0_leastTwist s m args below meth c H locs 0 0 Q (F0 m 3 ls []) :=
  gk_lp_some (P := fun z => ∀ (H : Heap) (locs : List Loc) (ls : Array Slot), gk_H G A s [] H locs → lv_has ls 6 [(0, .long x0), (2, .long x2), (4, .int x4), (5, .int z)] → W p l e rm_X0_leastTwist s m args below meth c H locs 0 0 Q (F0 m 3 ls [])) (E := fun r => (r = .inr () → ∀ (H : Heap) (locs : List Loc) (ls : Array Slot), gk_H G A s [] H locs → lv_has ls 6 [] → W p l e rm_X0_leastTwist s m args below meth c H locs 0 0 Q (F0 m 32 ls [])) ∧ (∀ (rv : Int32), r = .inl rv → Q = MQ below (gk_Q G (some (.int rv)) [] A) args s 0 0 A)) (fun z x hf kl ke H locs ls h hl => w_X0_leastTwist_B3 C hf (fun v0 ez => kl v0 ez) (fun ez => (ke _ ez).1 rfl) (fun v0 ez => (ke _ ez).2 v0 rfl) h hl) k x5 _ hm (⟨fun ez => (by cases ez), fun v0 ez => (by cases ez; exact kr)⟩) _ _ _ h hl
def m_X0_leastTwist_0 (x0 : Int64) (x2 : Int64) (x4 : Int32) : Option (Int32) := gk_bs0 (gk_lp (fun z => m_X0_leastTwist_B3 x0 x2 x4 z) gk_fu (0 : Int32)) (fun r => some r) (some (-1 : Int32))
set_option maxRecDepth 100000 in
set_option maxHeartbeats 4000000 in
theorem w_X0_leastTwist_0 {p : Program} {l : Launch} {e : Env} {s : State} {m : MethodId} {args : Array Value} {below : List Frame} {meth : Method} {c : Code} {G : gk_G} {A : Nat → Prop} {Q : State → Prop} (C : gk_C p s m args meth c cX0_leastTwist 6 (some .int) yX0_leastTwist wsX0_leastTwist true G A) {x0 : Int64} {x2 : Int64} {x4 : Int32} {yy : Int32} (hm : m_X0_leastTwist_0 x0 x2 x4 = some yy) (kr : ∀ (rv : Int32), yy = rv → Q = MQ below (gk_Q G (some (.int rv)) [] A) args s 0 0 A) {H : Heap} {locs : List Loc} {ls : Array Slot} (h : gk_H G A s [] H locs) (hl : lv_has ls 6 [(0, .long x0), (2, .long x2), (4, .int x4)]) : W p l e rm_X0_leastTwist s m args below meth c H locs 0 0 Q (F0 m 0 ls []) := by
  obtain ⟨hx, hb, hml, hr, hown, hnm, hts, hlk, hK, hSt, hA⟩ := id C
  obtain ⟨hP, hD, hS⟩ := h
  unfold m_X0_leastTwist_0 at hm
  refine lv_iconst (v := 0) hx hb dX0_leastTwist_0 (by decide) ?_
  refine lv_istore (lv' := [(5, .int (0 : Int32)), (0, .long x0), (2, .long x2), (4, .int x4)]) hx hb dX0_leastTwist_1 hl (by decide) rfl (fun ls hl => ?_)
  rcases gk_bs0_some hm with ⟨r6, hq, hm⟩ | ⟨hq, hm⟩
  · exact w_X0_leastTwist_L3r C hq (kr _ (Option.some.inj hm).symm) ⟨hP, hD, hS⟩ (lv_sub hl [1, 2, 3, 0] rfl)
  refine w_X0_leastTwist_L3 C hq (fun H locs ls h hl => ?_) ⟨hP, hD, hS⟩ (lv_sub hl [1, 2, 3, 0] rfl)
  obtain ⟨hP, hD, hS⟩ := h
  refine lv_iconst (v := -1) hx hb dX0_leastTwist_32 (by decide) ?_
  rw [kr _ (Option.some.inj hm).symm]
  exact gk_iret C ⟨hP, hD, hS⟩ dX0_leastTwist_33
def m_X0_leastTwist (x0 : Int64) (x2 : Int64) (x4 : Int32) : Option (Int32) := m_X0_leastTwist_0 x0 x2 x4
theorem c_X0_leastTwist (l : Launch) (G : gk_G) (x0 : Int64) (x2 : Int64) (x4 : Int32) {rv : Int32} (hm : m_X0_leastTwist x0 x2 x4 = some rv) : gk_M l yX0_leastTwist wsX0_leastTwist rm_X0_leastTwist true G [.long x0, .long x2, .int x4] [] (some (.int rv)) [] :=
  gk_of (by decide) rfl (Nat.le_of_ble_eq_true rfl) (fun p e s m below meth c A ls C h hl => w_X0_leastTwist_0 C hm (fun v0 ez => by cases ez; rfl) h (show lv_has ls 6 [(0, .long x0), (2, .long x2), (4, .int x4)] from hl))

/-! ===== ExchangeFamilies.Family.swapped(JII)J ===== -/
abbrev rm_X0_swapped : Room := { frames := 1, cells := 0, slots := 0, locals := 64 }
theorem k_X0_swapped_0 : Cond.constantLong RX0 19 (-1) ∈ wsX0_swapped := by decide +kernel
def m_X0_swapped_0 (x0 : Int64) (x2 : Int32) (x3 : Int32) : Option (Int64) := (if x2 = x3 then some x0 else gk_ix x2 6 (gk_ix x3 6 (gk_ix x3 6 (gk_ix x2 6 (some (((x0 &&& ((((gk_hav x2.toNatClampNeg) &&& ((gk_hav x3.toNatClampNeg) ^^^ (-1 : Int64))) ||| ((gk_hav x3.toNatClampNeg) &&& ((gk_hav x2.toNatClampNeg) ^^^ (-1 : Int64)))) ^^^ (-1 : Int64))) ||| ((x0 &&& ((gk_hav x2.toNatClampNeg) &&& ((gk_hav x3.toNatClampNeg) ^^^ (-1 : Int64)))) <<< ((((1 : Int32) <<< (x3 &&& 31)) - ((1 : Int32) <<< (x2 &&& 31))).toInt64 &&& 63))) ||| (((x0 &&& ((gk_hav x3.toNatClampNeg) &&& ((gk_hav x2.toNatClampNeg) ^^^ (-1 : Int64)))).toUInt64 >>> ((((1 : Int32) <<< (x3 &&& 31)) - ((1 : Int32) <<< (x2 &&& 31))).toInt64.toUInt64 &&& Int64.toUInt64 63)).toInt64)))))))
set_option maxRecDepth 100000 in
set_option maxHeartbeats 4000000 in
theorem w_X0_swapped_0 {p : Program} {l : Launch} {e : Env} {s : State} {m : MethodId} {args : Array Value} {below : List Frame} {meth : Method} {c : Code} {G : gk_G} {A : Nat → Prop} {Q : State → Prop} (C : gk_C p s m args meth c cX0_swapped 11 (some .long) yX0_swapped wsX0_swapped true G A) {x0 : Int64} {x2 : Int32} {x3 : Int32} {yy : Int64} (hm : m_X0_swapped_0 x0 x2 x3 = some yy) (kr : ∀ (rv : Int64), yy = rv → Q = MQ below (gk_Q G (some (.long rv)) [] A) args s 0 0 A) {H : Heap} {locs : List Loc} {ls : Array Slot} (h : gk_H G A s [] H locs) (hl : lv_has ls 11 [(0, .long x0), (2, .int x2), (3, .int x3)]) : W p l e rm_X0_swapped s m args below meth c H locs 0 0 Q (F0 m 0 ls []) := by
  obtain ⟨hx, hb, hml, hr, hown, hnm, hts, hlk, hK, hSt, hA⟩ := id C
  obtain ⟨hP, hD, hS⟩ := h
  unfold m_X0_swapped_0 at hm
  refine lv_iload_n hx hb dX0_swapped_0 rfl (lv_at hl 1 rfl) ?_
  refine lv_iload_n hx hb dX0_swapped_1 rfl (lv_at hl 2 rfl) ?_
  refine lv_icmp_ne (tgt := 7) hx hb dX0_swapped_2 (by decide) (fun c2 => ?_) (fun c2 => ?_)
  · have hm := gk_if c2 hm
    refine va_getsN (own := RX0) (ref := "ExchangeFamilies") (host := "ExchangeFamilies") hx hb (hSt rfl).1.1 hS hown (va_Nw.use rfl (hSt rfl).2.2.2.1) (fun _ h9 => h9) dX0_swapped_7 ?_
    refine lv_iload_n hx hb dX0_swapped_10 rfl (lv_at hl 1 rfl) ?_
    obtain ⟨hi, hm⟩ := gk_ix_some hm
    refine va_tl hx hb (hSt rfl).1.2 hS hi rfl dX0_swapped_11 ?_
    refine va_getsN (own := RX0) (ref := "ExchangeFamilies") (host := "ExchangeFamilies") hx hb (hSt rfl).1.1 hS hown (va_Nw.use rfl (hSt rfl).2.2.2.1) (fun _ h9 => h9) dX0_swapped_12 ?_
    refine lv_iload_n hx hb dX0_swapped_15 rfl (lv_at hl 2 rfl) ?_
    obtain ⟨hi, hm⟩ := gk_ix_some hm
    refine va_tl hx hb (hSt rfl).1.2 hS hi rfl dX0_swapped_16 ?_
    refine lv_ldc2 (own := RX0) (v := -1) hx hb hown (hts _ k_X0_swapped_0) dX0_swapped_17 ?_
    refine lv_lxor hx hb dX0_swapped_20 ?_
    refine lv_land hx hb dX0_swapped_21 ?_
    refine lv_lstore (lv' := [(4, .long ((gk_hav x2.toNatClampNeg) &&& ((gk_hav x3.toNatClampNeg) ^^^ (-1 : Int64)))), (0, .long x0), (2, .int x2), (3, .int x3)]) hx hb dX0_swapped_22 hl (by decide) rfl (fun ls hl => ?_)
    refine va_getsN (own := RX0) (ref := "ExchangeFamilies") (host := "ExchangeFamilies") hx hb (hSt rfl).1.1 hS hown (va_Nw.use rfl (hSt rfl).2.2.2.1) (fun _ h9 => h9) dX0_swapped_24 ?_
    refine lv_iload_n hx hb dX0_swapped_27 rfl (lv_at hl 3 rfl) ?_
    obtain ⟨hi, hm⟩ := gk_ix_some hm
    refine va_tl hx hb (hSt rfl).1.2 hS hi rfl dX0_swapped_28 ?_
    refine va_getsN (own := RX0) (ref := "ExchangeFamilies") (host := "ExchangeFamilies") hx hb (hSt rfl).1.1 hS hown (va_Nw.use rfl (hSt rfl).2.2.2.1) (fun _ h9 => h9) dX0_swapped_29 ?_
    refine lv_iload_n hx hb dX0_swapped_32 rfl (lv_at hl 2 rfl) ?_
    obtain ⟨hi, hm⟩ := gk_ix_some hm
    refine va_tl hx hb (hSt rfl).1.2 hS hi rfl dX0_swapped_33 ?_
    refine lv_ldc2 (own := RX0) (v := -1) hx hb hown (hts _ k_X0_swapped_0) dX0_swapped_34 ?_
    refine lv_lxor hx hb dX0_swapped_37 ?_
    refine lv_land hx hb dX0_swapped_38 ?_
    refine lv_lstore (lv' := [(6, .long ((gk_hav x3.toNatClampNeg) &&& ((gk_hav x2.toNatClampNeg) ^^^ (-1 : Int64)))), (4, .long ((gk_hav x2.toNatClampNeg) &&& ((gk_hav x3.toNatClampNeg) ^^^ (-1 : Int64)))), (0, .long x0), (2, .int x2), (3, .int x3)]) hx hb dX0_swapped_39 hl (by decide) rfl (fun ls hl => ?_)
    refine lv_iconst (v := 1) hx hb dX0_swapped_41 (by decide) ?_
    refine lv_iload_n hx hb dX0_swapped_42 rfl (lv_at hl 4 rfl) ?_
    refine lv_ishl hx hb dX0_swapped_43 ?_
    refine lv_iconst (v := 1) hx hb dX0_swapped_44 (by decide) ?_
    refine lv_iload_n hx hb dX0_swapped_45 rfl (lv_at hl 3 rfl) ?_
    refine lv_ishl hx hb dX0_swapped_46 ?_
    refine lv_isub hx hb dX0_swapped_47 ?_
    refine lv_istore (lv' := [(8, .int (((1 : Int32) <<< (x3 &&& 31)) - ((1 : Int32) <<< (x2 &&& 31)))), (6, .long ((gk_hav x3.toNatClampNeg) &&& ((gk_hav x2.toNatClampNeg) ^^^ (-1 : Int64)))), (4, .long ((gk_hav x2.toNatClampNeg) &&& ((gk_hav x3.toNatClampNeg) ^^^ (-1 : Int64)))), (0, .long x0), (2, .int x2), (3, .int x3)]) hx hb dX0_swapped_48 hl (by decide) rfl (fun ls hl => ?_)
    refine lv_lload_n hx hb dX0_swapped_50 rfl (lv_at hl 3 rfl) ?_
    refine lv_lload hx hb dX0_swapped_51 (lv_at hl 2 rfl) ?_
    refine lv_lload hx hb dX0_swapped_53 (lv_at hl 1 rfl) ?_
    refine lv_lor hx hb dX0_swapped_55 ?_
    refine lv_ldc2 (own := RX0) (v := -1) hx hb hown (hts _ k_X0_swapped_0) dX0_swapped_56 ?_
    refine lv_lxor hx hb dX0_swapped_59 ?_
    refine lv_land hx hb dX0_swapped_60 ?_
    refine lv_lstore (lv' := [(9, .long (x0 &&& ((((gk_hav x2.toNatClampNeg) &&& ((gk_hav x3.toNatClampNeg) ^^^ (-1 : Int64))) ||| ((gk_hav x3.toNatClampNeg) &&& ((gk_hav x2.toNatClampNeg) ^^^ (-1 : Int64)))) ^^^ (-1 : Int64)))), (8, .int (((1 : Int32) <<< (x3 &&& 31)) - ((1 : Int32) <<< (x2 &&& 31)))), (6, .long ((gk_hav x3.toNatClampNeg) &&& ((gk_hav x2.toNatClampNeg) ^^^ (-1 : Int64)))), (4, .long ((gk_hav x2.toNatClampNeg) &&& ((gk_hav x3.toNatClampNeg) ^^^ (-1 : Int64)))), (0, .long x0), (2, .int x2), (3, .int x3)]) hx hb dX0_swapped_61 hl (by decide) rfl (fun ls hl => ?_)
    refine lv_lload hx hb dX0_swapped_63 (lv_at hl 0 rfl) ?_
    refine lv_lload_n hx hb dX0_swapped_65 rfl (lv_at hl 4 rfl) ?_
    refine lv_lload hx hb dX0_swapped_66 (lv_at hl 3 rfl) ?_
    refine lv_land hx hb dX0_swapped_68 ?_
    refine lv_iload hx hb dX0_swapped_69 (lv_at hl 1 rfl) ?_
    refine lv_lshl hx hb dX0_swapped_71 rfl ?_
    refine lv_lor hx hb dX0_swapped_72 ?_
    refine lv_lload_n hx hb dX0_swapped_73 rfl (lv_at hl 4 rfl) ?_
    refine lv_lload hx hb dX0_swapped_74 (lv_at hl 2 rfl) ?_
    refine lv_land hx hb dX0_swapped_76 ?_
    refine lv_iload hx hb dX0_swapped_77 (lv_at hl 1 rfl) ?_
    refine lv_lushr hx hb dX0_swapped_79 rfl ?_
    refine lv_lor hx hb dX0_swapped_80 ?_
    rw [kr _ (Option.some.inj hm).symm]
    exact gk_lret C ⟨hP, hD, hS⟩ dX0_swapped_81
  · have hm := gk_it c2 hm
    refine lv_lload_n hx hb dX0_swapped_5 rfl (lv_at hl 0 rfl) ?_
    rw [kr _ (Option.some.inj hm).symm]
    exact gk_lret C ⟨hP, hD, hS⟩ dX0_swapped_6
def m_X0_swapped (x0 : Int64) (x2 : Int32) (x3 : Int32) : Option (Int64) := m_X0_swapped_0 x0 x2 x3
theorem c_X0_swapped (l : Launch) (G : gk_G) (x0 : Int64) (x2 : Int32) (x3 : Int32) {rv : Int64} (hm : m_X0_swapped x0 x2 x3 = some rv) : gk_M l yX0_swapped wsX0_swapped rm_X0_swapped true G [.long x0, .int x2, .int x3] [] (some (.long rv)) [] :=
  gk_of (by decide) rfl (Nat.le_of_ble_eq_true rfl) (fun p e s m below meth c A ls C h hl => w_X0_swapped_0 C hm (fun v0 ez => by cases ez; rfl) h (show lv_has ls 11 [(0, .long x0), (2, .int x2), (3, .int x3)] from hl))

/-! ===== ExchangeFamilies.Family.areAlike(JJII)Z ===== -/
abbrev rm_X0_areAlike (d : Nat) : Room := { frames := d + 3, cells := 0, slots := 0, locals := d * 26 + 158 }
def m_X0_areAlike_B21 (rf : Int64 → Int64 → Int32 → Int32 → Option (Int32)) (x0 : Int64) (x2 : Int64) (x4 : Int32) (x5 : Int32) (x6 : Int32) : Option ((Int32) ⊕ ((Int32) ⊕ (Unit))) := (if x5 ≤ x6 then some (.inr (.inr ())) else gk_bd1 (m_X0_swapped x0 x4 x6) (fun r8 => gk_bd1 (rf r8 x2 (x4 + (1 : Int32)) x5) (fun r9 => (if r9 = (0 : Int32) then some (.inl (x6 + 1)) else some (.inr (.inl (1 : Int32)))))))
set_option maxRecDepth 100000 in
set_option maxHeartbeats 4000000 in
theorem w_X0_areAlike_B21 {p : Program} {l : Launch} {e : Env} {s : State} {m : MethodId} {args : Array Value} {below : List Frame} {meth : Method} {c : Code} {G : gk_G} {A : Nat → Prop} {Q : State → Prop} {d : Nat} {rf : Int64 → Int64 → Int32 → Int32 → Option (Int32)} (hrec : ∀  (x0 : Int64) (x2 : Int64) (x4 : Int32) (x5 : Int32) (rv : Int32), rf  x0 x2 x4 x5 = some rv → gk_M l yX0_areAlike wsX0_areAlike (rm_X0_areAlike d) true G [.long x0, .long x2, .int x4, .int x5] [] (some (.int rv)) []) (C : gk_C p s m args meth c cX0_areAlike 7 (some .boolean) yX0_areAlike wsX0_areAlike true G A) {x0 : Int64} {x2 : Int64} {x4 : Int32} {x5 : Int32} {x6 : Int32} {yy : (Int32) ⊕ ((Int32) ⊕ (Unit))} (hm : m_X0_areAlike_B21 rf x0 x2 x4 x5 x6 = some yy) (kl : ∀ (x6 : Int32), yy = .inl x6 → ∀ (H : Heap) (locs : List Loc) (ls : Array Slot), gk_H G A s [] H locs → lv_has ls 7 [(0, .long x0), (2, .long x2), (4, .int x4), (5, .int x5), (6, .int x6)] → W p l e (rm_X0_areAlike (d + 1)) s m args below meth c H locs 0 0 Q (F0 m 21 ls [])) (kx : yy = .inr (.inr ()) → ∀ (H : Heap) (locs : List Loc) (ls : Array Slot), gk_H G A s [] H locs → lv_has ls 7 [] → W p l e (rm_X0_areAlike (d + 1)) s m args below meth c H locs 0 0 Q (F0 m 57 ls [])) (kr : ∀ (rv : Int32), yy = .inr (.inl rv) → Q = MQ below (gk_Q G (some (.int rv)) [] A) args s 0 0 A) {H : Heap} {locs : List Loc} {ls : Array Slot} (h : gk_H G A s [] H locs) (hl : lv_has ls 7 [(0, .long x0), (2, .long x2), (4, .int x4), (5, .int x5), (6, .int x6)]) : W p l e (rm_X0_areAlike (d + 1)) s m args below meth c H locs 0 0 Q (F0 m 21 ls []) := by
  obtain ⟨hx, hb, hml, hr, hown, hnm, hts, hlk, hK, hSt, hA⟩ := id C
  obtain ⟨hP, hD, hS⟩ := h
  unfold m_X0_areAlike_B21 at hm
  refine lv_iload hx hb dX0_areAlike_21 (lv_at hl 4 rfl) ?_
  refine lv_iload hx hb dX0_areAlike_23 (lv_at hl 3 rfl) ?_
  refine lv_icmp_ge (tgt := 57) hx hb dX0_areAlike_25 (by decide) (fun c7 => ?_) (fun c7 => ?_)
  · have hm := gk_it c7 hm
    exact kx (Option.some.inj hm).symm _ _ _ ⟨hP, hD, hS⟩ (lv_sub hl [] rfl)
  · have hm := gk_if c7 hm
    refine lv_lload_n hx hb dX0_areAlike_28 rfl (lv_at hl 0 rfl) ?_
    refine lv_iload hx hb dX0_areAlike_29 (lv_at hl 2 rfl) ?_
    refine lv_iload hx hb dX0_areAlike_31 (lv_at hl 4 rfl) ?_
    obtain ⟨r8, hq, hm⟩ := gk_bd1_some hm
    refine gk_callS (n := 3) (bytes := cX0_swapped) (maxL := 11) (ret := (some .long)) [] [] [] C ⟨hP, hD, hS⟩ (c_X0_swapped l G x0 x4 x6 hq) gX0_areAlike_X0_swapped dX0_areAlike_33 hl.1 [] [] [] rfl ⟨rfl, rfl⟩ (by simp only [rm_X0_areAlike, rm_X0_swapped]; omega) ⟨by decide +kernel, by decide +kernel, by decide +kernel⟩ rfl (fun h => h) (Nat.le_of_ble_eq_true rfl) rfl rfl rfl rfl (by decide) rfl rfl (fun H locs h => ?_)
    obtain ⟨hP, hD, hS⟩ := h
    refine lv_lload_n hx hb dX0_areAlike_36 rfl (lv_at hl 1 rfl) ?_
    refine lv_iload hx hb dX0_areAlike_37 (lv_at hl 2 rfl) ?_
    refine lv_iconst (v := 1) hx hb dX0_areAlike_39 (by decide) ?_
    refine lv_iadd hx hb dX0_areAlike_40 ?_
    refine lv_iload hx hb dX0_areAlike_41 (lv_at hl 3 rfl) ?_
    obtain ⟨r9, hq, hm⟩ := gk_bd1_some hm
    refine gk_callS (n := 4) (bytes := cX0_areAlike) (maxL := 7) (ret := (some .boolean)) [] [] [] C ⟨hP, hD, hS⟩ (hrec r8 x2 (x4 + (1 : Int32)) x5 r9 hq) gX0_areAlike_X0_areAlike dX0_areAlike_43 hl.1 [] [] [] rfl ⟨rfl, rfl⟩ (by simp only [rm_X0_areAlike]; omega) ⟨by decide +kernel, by decide +kernel, by decide +kernel⟩ rfl (fun h => h) (Nat.le_of_ble_eq_true rfl) rfl rfl rfl rfl (by decide) rfl rfl (fun H locs h => ?_)
    obtain ⟨hP, hD, hS⟩ := h
    refine lv_if_eq (tgt := 51) hx hb dX0_areAlike_46 (by decide) (fun c10 => ?_) (fun c10 => ?_)
    · have hm := gk_it c10 hm
      refine lv_iinc (v := x6 + 1) (lv' := [(6, .int (x6 + 1)), (0, .long x0), (2, .long x2), (4, .int x4), (5, .int x5)]) hx hb dX0_areAlike_51 hl (k := 4) rfl rfl (by decide) rfl (fun ls hl => ?_)
      refine lv_goto (tgt := 21) hx hb dX0_areAlike_54 (by decide) ?_
      exact kl _ (Option.some.inj hm).symm _ _ _ ⟨hP, hD, hS⟩ (lv_sub hl [1, 2, 3, 4, 0] rfl)
    · have hm := gk_if c10 hm
      refine lv_iconst (v := 1) hx hb dX0_areAlike_49 (by decide) ?_
      rw [kr _ (Option.some.inj hm).symm]
      exact gk_zret C ⟨hP, hD, hS⟩ rfl dX0_areAlike_50
set_option maxRecDepth 100000 in
set_option maxHeartbeats 4000000 in
theorem w_X0_areAlike_L21 {p : Program} {l : Launch} {e : Env} {s : State} {m : MethodId} {args : Array Value} {below : List Frame} {meth : Method} {c : Code} {G : gk_G} {A : Nat → Prop} {Q : State → Prop} {d : Nat} {rf : Int64 → Int64 → Int32 → Int32 → Option (Int32)} (hrec : ∀  (x0 : Int64) (x2 : Int64) (x4 : Int32) (x5 : Int32) (rv : Int32), rf  x0 x2 x4 x5 = some rv → gk_M l yX0_areAlike wsX0_areAlike (rm_X0_areAlike d) true G [.long x0, .long x2, .int x4, .int x5] [] (some (.int rv)) []) (C : gk_C p s m args meth c cX0_areAlike 7 (some .boolean) yX0_areAlike wsX0_areAlike true G A) {x0 : Int64} {x2 : Int64} {x4 : Int32} {x5 : Int32} {x6 : Int32} {k : Nat} (hm : gk_lp (fun z => m_X0_areAlike_B21 rf x0 x2 x4 x5 z) k x6 = some (.inr ())) (kx : ∀ (H : Heap) (locs : List Loc) (ls : Array Slot), gk_H G A s [] H locs → lv_has ls 7 [] → W p l e (rm_X0_areAlike (d + 1)) s m args below meth c H locs 0 0 Q (F0 m 57 ls [])) {H : Heap} {locs : List Loc} {ls : Array Slot} (h : gk_H G A s [] H locs) (hl : lv_has ls 7 [(0, .long x0), (2, .long x2), (4, .int x4), (5, .int x5), (6, .int x6)]) : W p l e (rm_X0_areAlike (d + 1)) s m args below meth c H locs 0 0 Q (F0 m 21 ls []) :=
  gk_lp_some (P := fun z => ∀ (H : Heap) (locs : List Loc) (ls : Array Slot), gk_H G A s [] H locs → lv_has ls 7 [(0, .long x0), (2, .long x2), (4, .int x4), (5, .int x5), (6, .int z)] → W p l e (rm_X0_areAlike (d + 1)) s m args below meth c H locs 0 0 Q (F0 m 21 ls [])) (E := fun r => (r = .inr () → ∀ (H : Heap) (locs : List Loc) (ls : Array Slot), gk_H G A s [] H locs → lv_has ls 7 [] → W p l e (rm_X0_areAlike (d + 1)) s m args below meth c H locs 0 0 Q (F0 m 57 ls [])) ∧ (∀ (rv : Int32), r = .inl rv → Q = MQ below (gk_Q G (some (.int rv)) [] A) args s 0 0 A)) (fun z x hf kl ke H locs ls h hl => w_X0_areAlike_B21 hrec C hf (fun v0 ez => kl v0 ez) (fun ez => (ke _ ez).1 rfl) (fun v0 ez => (ke _ ez).2 v0 rfl) h hl) k x6 _ hm (⟨fun ez => (by cases ez; exact kx), fun v0 ez => (by cases ez)⟩) _ _ _ h hl
set_option maxRecDepth 100000 in
set_option maxHeartbeats 4000000 in
theorem w_X0_areAlike_L21r {p : Program} {l : Launch} {e : Env} {s : State} {m : MethodId} {args : Array Value} {below : List Frame} {meth : Method} {c : Code} {G : gk_G} {A : Nat → Prop} {Q : State → Prop} {d : Nat} {rf : Int64 → Int64 → Int32 → Int32 → Option (Int32)} (hrec : ∀  (x0 : Int64) (x2 : Int64) (x4 : Int32) (x5 : Int32) (rv : Int32), rf  x0 x2 x4 x5 = some rv → gk_M l yX0_areAlike wsX0_areAlike (rm_X0_areAlike d) true G [.long x0, .long x2, .int x4, .int x5] [] (some (.int rv)) []) (C : gk_C p s m args meth c cX0_areAlike 7 (some .boolean) yX0_areAlike wsX0_areAlike true G A) {x0 : Int64} {x2 : Int64} {x4 : Int32} {x5 : Int32} {x6 : Int32} {k : Nat} {rv : Int32} (hm : gk_lp (fun z => m_X0_areAlike_B21 rf x0 x2 x4 x5 z) k x6 = some (.inl rv)) (kr : Q = MQ below (gk_Q G (some (.int rv)) [] A) args s 0 0 A) {H : Heap} {locs : List Loc} {ls : Array Slot} (h : gk_H G A s [] H locs) (hl : lv_has ls 7 [(0, .long x0), (2, .long x2), (4, .int x4), (5, .int x5), (6, .int x6)]) : W p l e (rm_X0_areAlike (d + 1)) s m args below meth c H locs 0 0 Q (F0 m 21 ls []) :=
  gk_lp_some (P := fun z => ∀ (H : Heap) (locs : List Loc) (ls : Array Slot), gk_H G A s [] H locs → lv_has ls 7 [(0, .long x0), (2, .long x2), (4, .int x4), (5, .int x5), (6, .int z)] → W p l e (rm_X0_areAlike (d + 1)) s m args below meth c H locs 0 0 Q (F0 m 21 ls [])) (E := fun r => (r = .inr () → ∀ (H : Heap) (locs : List Loc) (ls : Array Slot), gk_H G A s [] H locs → lv_has ls 7 [] → W p l e (rm_X0_areAlike (d + 1)) s m args below meth c H locs 0 0 Q (F0 m 57 ls [])) ∧ (∀ (rv : Int32), r = .inl rv → Q = MQ below (gk_Q G (some (.int rv)) [] A) args s 0 0 A)) (fun z x hf kl ke H locs ls h hl => w_X0_areAlike_B21 hrec C hf (fun v0 ez => kl v0 ez) (fun ez => (ke _ ez).1 rfl) (fun v0 ez => (ke _ ez).2 v0 rfl) h hl) k x6 _ hm (⟨fun ez => (by cases ez), fun v0 ez => (by cases ez; exact kr)⟩) _ _ _ h hl
def m_X0_areAlike_0 (rf : Int64 → Int64 → Int32 → Int32 → Option (Int32)) (x0 : Int64) (x2 : Int64) (x4 : Int32) (x5 : Int32) : Option (Int32) := (if (lg_cmp x0 x2) = (0 : Int32) then some (1 : Int32) else (if x4 < x5 then gk_bs0 (gk_lp (fun z => m_X0_areAlike_B21 rf x0 x2 x4 x5 z) gk_fu x4) (fun r => some r) (some (0 : Int32)) else some (0 : Int32)))
set_option maxRecDepth 100000 in
set_option maxHeartbeats 4000000 in
theorem w_X0_areAlike_0 {p : Program} {l : Launch} {e : Env} {s : State} {m : MethodId} {args : Array Value} {below : List Frame} {meth : Method} {c : Code} {G : gk_G} {A : Nat → Prop} {Q : State → Prop} {d : Nat} {rf : Int64 → Int64 → Int32 → Int32 → Option (Int32)} (hrec : ∀  (x0 : Int64) (x2 : Int64) (x4 : Int32) (x5 : Int32) (rv : Int32), rf  x0 x2 x4 x5 = some rv → gk_M l yX0_areAlike wsX0_areAlike (rm_X0_areAlike d) true G [.long x0, .long x2, .int x4, .int x5] [] (some (.int rv)) []) (C : gk_C p s m args meth c cX0_areAlike 7 (some .boolean) yX0_areAlike wsX0_areAlike true G A) {x0 : Int64} {x2 : Int64} {x4 : Int32} {x5 : Int32} {yy : Int32} (hm : m_X0_areAlike_0 rf x0 x2 x4 x5 = some yy) (kr : ∀ (rv : Int32), yy = rv → Q = MQ below (gk_Q G (some (.int rv)) [] A) args s 0 0 A) {H : Heap} {locs : List Loc} {ls : Array Slot} (h : gk_H G A s [] H locs) (hl : lv_has ls 7 [(0, .long x0), (2, .long x2), (4, .int x4), (5, .int x5)]) : W p l e (rm_X0_areAlike (d + 1)) s m args below meth c H locs 0 0 Q (F0 m 0 ls []) := by
  obtain ⟨hx, hb, hml, hr, hown, hnm, hts, hlk, hK, hSt, hA⟩ := id C
  obtain ⟨hP, hD, hS⟩ := h
  unfold m_X0_areAlike_0 at hm
  refine lv_lload_n hx hb dX0_areAlike_0 rfl (lv_at hl 0 rfl) ?_
  refine lv_lload_n hx hb dX0_areAlike_1 rfl (lv_at hl 1 rfl) ?_
  refine W.lcmp hx hb dX0_areAlike_2 ?_
  refine lv_if_ne (tgt := 8) hx hb dX0_areAlike_3 (by decide) (fun c5 => ?_) (fun c5 => ?_)
  · have hm := gk_if c5 hm
    refine lv_iload hx hb dX0_areAlike_8 (lv_at hl 2 rfl) ?_
    refine lv_iload hx hb dX0_areAlike_10 (lv_at hl 3 rfl) ?_
    refine lv_icmp_lt (tgt := 17) hx hb dX0_areAlike_12 (by decide) (fun c6 => ?_) (fun c6 => ?_)
    · have hm := gk_it c6 hm
      refine lv_iload hx hb dX0_areAlike_17 (lv_at hl 2 rfl) ?_
      refine lv_istore (lv' := [(6, .int x4), (0, .long x0), (2, .long x2), (4, .int x4), (5, .int x5)]) hx hb dX0_areAlike_19 hl (by decide) rfl (fun ls hl => ?_)
      rcases gk_bs0_some hm with ⟨r11, hq, hm⟩ | ⟨hq, hm⟩
      · exact w_X0_areAlike_L21r hrec C hq (kr _ (Option.some.inj hm).symm) ⟨hP, hD, hS⟩ (lv_sub hl [1, 2, 3, 4, 0] rfl)
      refine w_X0_areAlike_L21 hrec C hq (fun H locs ls h hl => ?_) ⟨hP, hD, hS⟩ (lv_sub hl [1, 2, 3, 4, 0] rfl)
      obtain ⟨hP, hD, hS⟩ := h
      refine lv_iconst (v := 0) hx hb dX0_areAlike_57 (by decide) ?_
      rw [kr _ (Option.some.inj hm).symm]
      exact gk_zret C ⟨hP, hD, hS⟩ rfl dX0_areAlike_58
    · have hm := gk_if c6 hm
      refine lv_iconst (v := 0) hx hb dX0_areAlike_15 (by decide) ?_
      rw [kr _ (Option.some.inj hm).symm]
      exact gk_zret C ⟨hP, hD, hS⟩ rfl dX0_areAlike_16
  · have hm := gk_it c5 hm
    refine lv_iconst (v := 1) hx hb dX0_areAlike_6 (by decide) ?_
    rw [kr _ (Option.some.inj hm).symm]
    exact gk_zret C ⟨hP, hD, hS⟩ rfl dX0_areAlike_7
def m_X0_areAlike : Nat → Int64 → Int64 → Int32 → Int32 → Option (Int32)
  | 0, _, _, _, _ => none
  | d + 1, x0, x2, x4, x5 => m_X0_areAlike_0 (m_X0_areAlike d) x0 x2 x4 x5
theorem c_X0_areAlike_rec (l : Launch) (G : gk_G) : ∀ (d : Nat), ∀  (x0 : Int64) (x2 : Int64) (x4 : Int32) (x5 : Int32) (rv : Int32), m_X0_areAlike d  x0 x2 x4 x5 = some rv → gk_M l yX0_areAlike wsX0_areAlike (rm_X0_areAlike d) true G [.long x0, .long x2, .int x4, .int x5] [] (some (.int rv)) []
  | 0 => by
    intros
    rename_i hm
    cases hm
  | d + 1 => by
    intro x0 x2 x4 x5 rv hm
    refine gk_of (by decide) rfl (Nat.le_of_ble_eq_true rfl) (fun p e s m below meth c A ls C h hl => w_X0_areAlike_0 (rf := m_X0_areAlike d) (c_X0_areAlike_rec l G d) C hm (fun v0 ez => by cases ez; rfl) h (show lv_has ls 7 [(0, .long x0), (2, .long x2), (4, .int x4), (5, .int x5)] from hl))
theorem c_X0_areAlike (l : Launch) (G : gk_G) (x0 : Int64) (x2 : Int64) (x4 : Int32) (x5 : Int32) (d : Nat) {rv : Int32} (hm : m_X0_areAlike d x0 x2 x4 x5 = some rv) : gk_M l yX0_areAlike wsX0_areAlike (rm_X0_areAlike d) true G [.long x0, .long x2, .int x4, .int x5] [] (some (.int rv)) [] := c_X0_areAlike_rec l G d x0 x2 x4 x5 rv hm

