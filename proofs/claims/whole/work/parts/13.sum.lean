/-! ===== ExchangeFamilies.Sums.rowsOver(I)I ===== -/
abbrev rm_X3_rowsOver : Room := { frames := 1, cells := 0, slots := 0, locals := 64 }
def m_X3_rowsOver_B4 (x0 : Int32) (x1 : Int32) (x2 : Int32) : Option ((Int32 × Int32) ⊕ (Int32)) := (if x0 ≤ x2 then some (.inr x1) else some (.inl (x1 * (3 : Int32), x2 + 1)))
set_option maxRecDepth 100000 in
set_option maxHeartbeats 4000000 in
theorem w_X3_rowsOver_B4 {p : Program} {l : Launch} {e : Env} {s : State} {m : MethodId} {args : Array Value} {below : List Frame} {meth : Method} {c : Code} {G : gk_G} {A : Nat → Prop} {Q : State → Prop} (C : gk_C p s m args meth c cX3_rowsOver 3 (some .int) yX3_rowsOver wsX3_rowsOver false G A) {x0 : Int32} {x1 : Int32} {x2 : Int32} {yy : (Int32 × Int32) ⊕ (Int32)} (hm : m_X3_rowsOver_B4 x0 x1 x2 = some yy) (kl : ∀ (x1 : Int32) (x2 : Int32), yy = .inl (x1, x2) → ∀ (H : Heap) (locs : List Loc) (ls : Array Slot), gk_H G A s [] H locs → lv_has ls 3 [(0, .int x0), (1, .int x1), (2, .int x2)] → W p l e rm_X3_rowsOver s m args below meth c H locs 0 0 Q (F0 m 4 ls [])) (kx : ∀ (x1 : Int32), yy = .inr x1 → ∀ (H : Heap) (locs : List Loc) (ls : Array Slot), gk_H G A s [] H locs → lv_has ls 3 [(1, .int x1)] → W p l e rm_X3_rowsOver s m args below meth c H locs 0 0 Q (F0 m 19 ls [])) {H : Heap} {locs : List Loc} {ls : Array Slot} (h : gk_H G A s [] H locs) (hl : lv_has ls 3 [(0, .int x0), (1, .int x1), (2, .int x2)]) : W p l e rm_X3_rowsOver s m args below meth c H locs 0 0 Q (F0 m 4 ls []) := by
  obtain ⟨hx, hb, hml, hr, hown, hnm, hts, hlk, hK, hSt, hA⟩ := id C
  obtain ⟨hP, hD, hS⟩ := h
  unfold m_X3_rowsOver_B4 at hm
  refine lv_iload_n hx hb dX3_rowsOver_4 rfl (lv_at hl 2 rfl) ?_
  refine lv_iload_n hx hb dX3_rowsOver_5 rfl (lv_at hl 0 rfl) ?_
  refine lv_icmp_ge (tgt := 19) hx hb dX3_rowsOver_6 (by decide) (fun c2 => ?_) (fun c2 => ?_)
  · have hm := gk_it c2 hm
    exact kx _ (Option.some.inj hm).symm _ _ _ ⟨hP, hD, hS⟩ (lv_sub hl [1] rfl)
  · have hm := gk_if c2 hm
    refine lv_iload_n hx hb dX3_rowsOver_9 rfl (lv_at hl 1 rfl) ?_
    refine lv_iconst (v := 3) hx hb dX3_rowsOver_10 (by decide) ?_
    refine lv_imul hx hb dX3_rowsOver_11 ?_
    refine lv_istore_n (lv' := [(1, .int (x1 * (3 : Int32))), (0, .int x0), (2, .int x2)]) hx hb dX3_rowsOver_12 rfl hl (by decide) rfl (fun ls hl => ?_)
    refine lv_iinc (v := x2 + 1) (lv' := [(2, .int (x2 + 1)), (1, .int (x1 * (3 : Int32))), (0, .int x0)]) hx hb dX3_rowsOver_13 hl (k := 2) rfl rfl (by decide) rfl (fun ls hl => ?_)
    refine lv_goto (tgt := 4) hx hb dX3_rowsOver_16 (by decide) ?_
    exact kl _ _ (Option.some.inj hm).symm _ _ _ ⟨hP, hD, hS⟩ (lv_sub hl [2, 1, 0] rfl)
set_option maxRecDepth 100000 in
set_option maxHeartbeats 4000000 in
theorem w_X3_rowsOver_L4 {p : Program} {l : Launch} {e : Env} {s : State} {m : MethodId} {args : Array Value} {below : List Frame} {meth : Method} {c : Code} {G : gk_G} {A : Nat → Prop} {Q : State → Prop} (C : gk_C p s m args meth c cX3_rowsOver 3 (some .int) yX3_rowsOver wsX3_rowsOver false G A) {x0 : Int32} {x1 : Int32} {x2 : Int32} {k : Nat} {e_x1 : Int32} (hm : gk_lp (fun z => m_X3_rowsOver_B4 x0 z.1 z.2) k (x1, x2) = some e_x1) (kx : ∀ (H : Heap) (locs : List Loc) (ls : Array Slot), gk_H G A s [] H locs → lv_has ls 3 [(1, .int e_x1)] → W p l e rm_X3_rowsOver s m args below meth c H locs 0 0 Q (F0 m 19 ls [])) {H : Heap} {locs : List Loc} {ls : Array Slot} (h : gk_H G A s [] H locs) (hl : lv_has ls 3 [(0, .int x0), (1, .int x1), (2, .int x2)]) : W p l e rm_X3_rowsOver s m args below meth c H locs 0 0 Q (F0 m 4 ls []) :=
  gk_lp_some (P := fun z => ∀ (H : Heap) (locs : List Loc) (ls : Array Slot), gk_H G A s [] H locs → lv_has ls 3 [(0, .int x0), (1, .int z.1), (2, .int z.2)] → W p l e rm_X3_rowsOver s m args below meth c H locs 0 0 Q (F0 m 4 ls [])) (E := fun r => (∀ (x1 : Int32), r = x1 → ∀ (H : Heap) (locs : List Loc) (ls : Array Slot), gk_H G A s [] H locs → lv_has ls 3 [(1, .int x1)] → W p l e rm_X3_rowsOver s m args below meth c H locs 0 0 Q (F0 m 19 ls []))) (fun z x hf kl ke H locs ls h hl => w_X3_rowsOver_B4 C hf (fun v0 v1 ez => kl (v0, v1) ez) (fun v0 ez => ke _ ez v0 rfl) h hl) k (x1, x2) _ hm (fun v0 ez => (by cases ez; exact kx)) _ _ _ h hl
def m_X3_rowsOver_0 (x0 : Int32) : Option (Int32) := gk_bd1 (gk_lp (fun z => m_X3_rowsOver_B4 x0 z.1 z.2) gk_fu ((1 : Int32), (0 : Int32))) (fun e3 => some e3)
set_option maxRecDepth 100000 in
set_option maxHeartbeats 4000000 in
theorem w_X3_rowsOver_0 {p : Program} {l : Launch} {e : Env} {s : State} {m : MethodId} {args : Array Value} {below : List Frame} {meth : Method} {c : Code} {G : gk_G} {A : Nat → Prop} {Q : State → Prop} (C : gk_C p s m args meth c cX3_rowsOver 3 (some .int) yX3_rowsOver wsX3_rowsOver false G A) {x0 : Int32} {yy : Int32} (hm : m_X3_rowsOver_0 x0 = some yy) (kr : ∀ (rv : Int32), yy = rv → Q = MQ below (gk_Q G (some (.int rv)) [] A) args s 0 0 A) {H : Heap} {locs : List Loc} {ls : Array Slot} (h : gk_H G A s [] H locs) (hl : lv_has ls 3 [(0, .int x0)]) : W p l e rm_X3_rowsOver s m args below meth c H locs 0 0 Q (F0 m 0 ls []) := by
  obtain ⟨hx, hb, hml, hr, hown, hnm, hts, hlk, hK, hSt, hA⟩ := id C
  obtain ⟨hP, hD, hS⟩ := h
  unfold m_X3_rowsOver_0 at hm
  refine lv_iconst (v := 1) hx hb dX3_rowsOver_0 (by decide) ?_
  refine lv_istore_n (lv' := [(1, .int (1 : Int32)), (0, .int x0)]) hx hb dX3_rowsOver_1 rfl hl (by decide) rfl (fun ls hl => ?_)
  refine lv_iconst (v := 0) hx hb dX3_rowsOver_2 (by decide) ?_
  refine lv_istore_n (lv' := [(2, .int (0 : Int32)), (1, .int (1 : Int32)), (0, .int x0)]) hx hb dX3_rowsOver_3 rfl hl (by decide) rfl (fun ls hl => ?_)
  obtain ⟨e3, hq, hm⟩ := gk_bd1_some hm
  refine w_X3_rowsOver_L4 C hq (fun H locs ls h hl => ?_) ⟨hP, hD, hS⟩ (lv_sub hl [2, 1, 0] rfl)
  obtain ⟨hP, hD, hS⟩ := h
  refine lv_iload_n hx hb dX3_rowsOver_19 rfl (lv_at hl 0 rfl) ?_
  rw [kr _ (Option.some.inj hm).symm]
  exact gk_iret C ⟨hP, hD, hS⟩ dX3_rowsOver_20
def m_X3_rowsOver (x0 : Int32) : Option (Int32) := m_X3_rowsOver_0 x0
theorem c_X3_rowsOver (l : Launch) (G : gk_G) (x0 : Int32) {rv : Int32} (hm : m_X3_rowsOver x0 = some rv) : gk_M l yX3_rowsOver wsX3_rowsOver rm_X3_rowsOver false G [.int x0] [] (some (.int rv)) [] :=
  gk_of (by decide) rfl (Nat.le_of_ble_eq_true rfl) (fun p e s m below meth c A ls C h hl => w_X3_rowsOver_0 C hm (fun v0 ez => by cases ez; rfl) h (show lv_has ls 3 [(0, .int x0)] from hl))

/-! ===== ExchangeFamilies.Sums.addAll(IJ)V ===== -/
abbrev rm_X3_addAll : Room := { frames := 3, cells := 0, slots := 0, locals := 150 }
theorem k_X3_addAll_0 : ∀ w ∈ u_ws RX3 TX3 3, w ∈ wsX3_addAll := by decide +kernel
theorem k_X3_addAll_1 : Cond.fieldLink RX3 9 "ExchangeFamilies$Sums" "n" "I" ∈ wsX3_addAll := by decide +kernel
theorem k_X3_addAll_2 : Cond.fieldLink RX3 15 "ExchangeFamilies$Sums" "boths" "[J" ∈ wsX3_addAll := by decide +kernel
def m_X3_addAll_B3 (f_n : Int32) (x1 : Int32) (x2 : Int64) (x4 : Int32) (f_boths : (Nat → Int64)) : Option ((Int32 × (Nat → Int64)) ⊕ ((Nat → Int64))) := (if ((1 : Int32) <<< (f_n &&& 31)) ≤ x4 then some (.inr f_boths) else gk_bd1 (m_X0_holds x2 x4) (fun r4 => (if r4 = (0 : Int32) then some (.inl (x4 + 1, f_boths)) else gk_ix (x1 ||| x4) 64 (gk_ix (x1 ||| x4) 64 (some (.inl (x4 + 1, vp_updL f_boths (x1 ||| x4).toNatClampNeg ((f_boths (x1 ||| x4).toNatClampNeg) ||| ((1 : Int64) <<< ((x1 &&& x4).toInt64 &&& 63))))))))))
set_option maxRecDepth 100000 in
set_option maxHeartbeats 4000000 in
theorem w_X3_addAll_B3 {p : Program} {l : Launch} {e : Env} {s : State} {m : MethodId} {args : Array Value} {below : List Frame} {meth : Method} {c : Code} {G : gk_G} {A : Nat → Prop} {Q : State → Prop} {a0 a1 a2 : Nat} (C : gk_C p s m args meth c cX3_addAll 5 none yX3_addAll wsX3_addAll false G A) {f_n : Int32} {x1 : Int32} {x2 : Int64} {x4 : Int32} {f_boths : (Nat → Int64)} {yy : (Int32 × (Nat → Int64)) ⊕ ((Nat → Int64))} (hm : m_X3_addAll_B3 f_n x1 x2 x4 f_boths = some yy) (kl : ∀ (x4 : Int32) (f_boths : (Nat → Int64)), yy = .inl (x4, f_boths) → ∀ (H : Heap) (locs : List Loc) (ls : Array Slot), gk_H G A s [(a0, .inr (2, [.int f_n, .ref a1, .ref a2])), (a1, gk_J G 64 f_boths)] H locs → lv_has ls 5 [(0, .ref a0), (1, .int x1), (2, .long x2), (4, .int x4)] → W p l e rm_X3_addAll s m args below meth c H locs 0 0 Q (F0 m 3 ls [])) (kx : ∀ (f_boths : (Nat → Int64)), yy = .inr f_boths → ∀ (H : Heap) (locs : List Loc) (ls : Array Slot), gk_H G A s [(a0, .inr (2, [.int f_n, .ref a1, .ref a2])), (a1, gk_J G 64 f_boths)] H locs → lv_has ls 5 [] → W p l e rm_X3_addAll s m args below meth c H locs 0 0 Q (F0 m 47 ls [])) {H : Heap} {locs : List Loc} {ls : Array Slot} (h : gk_H G A s [(a0, .inr (2, [.int f_n, .ref a1, .ref a2])), (a1, gk_J G 64 f_boths)] H locs) (hl : lv_has ls 5 [(0, .ref a0), (1, .int x1), (2, .long x2), (4, .int x4)]) : W p l e rm_X3_addAll s m args below meth c H locs 0 0 Q (F0 m 3 ls []) := by
  obtain ⟨hx, hb, hml, hr, hown, hnm, hts, hlk, hK, hSt, hA⟩ := id C
  obtain ⟨hP, hD, hS⟩ := h
  unfold m_X3_addAll_B3 at hm
  refine lv_iload hx hb dX3_addAll_3 (lv_at hl 3 rfl) ?_
  refine lv_iconst (v := 1) hx hb dX3_addAll_5 (by decide) ?_
  refine lv_aload_n hx hb dX3_addAll_6 rfl (lv_at hl 0 rfl) ?_
  refine va_get (D := G.1) (cl := vwCl) (own := RX3) (ref := "ExchangeFamilies$Sums") (ci := 2) (v := .int f_n) (C := RX3) (T := TX3) (N := 3) hx hb hts k_X3_addAll_0 hown hK hP 0 rfl rfl 0 (by decide) (hts _ k_X3_addAll_1) (fun _ h9 => h9) rfl dX3_addAll_7 ?_
  refine lv_ishl hx hb dX3_addAll_10 ?_
  refine lv_icmp_ge (tgt := 47) hx hb dX3_addAll_11 (by decide) (fun c3 => ?_) (fun c3 => ?_)
  · have hm := gk_it c3 hm
    exact kx _ (Option.some.inj hm).symm _ _ _ ⟨hP, hD, hS⟩ (lv_sub hl [] rfl)
  · have hm := gk_if c3 hm
    refine lv_lload_n hx hb dX3_addAll_14 rfl (lv_at hl 2 rfl) ?_
    refine lv_iload hx hb dX3_addAll_15 (lv_at hl 3 rfl) ?_
    obtain ⟨r4, hq, hm⟩ := gk_bd1_some hm
    refine gk_callS (n := 2) (bytes := cX0_holds) (maxL := 3) (ret := (some .boolean)) [(a0, .inr (2, [.int f_n, .ref a1, .ref a2])), (a1, gk_J G 64 f_boths)] [(a0, .inr (2, [.int f_n, .ref a1, .ref a2])), (a1, gk_J G 64 f_boths)] [] C ⟨hP, hD, hS⟩ (c_X0_holds l G x2 x4 hq) gX3_addAll_X0_holds dX3_addAll_17 hl.1 [] [0, 1] [0, 1] rfl ⟨rfl, rfl⟩ ⟨Nat.le_of_ble_eq_true rfl, Nat.le_of_ble_eq_true rfl⟩ ⟨by decide +kernel, by decide +kernel, by decide +kernel⟩ rfl (fun h => by cases h) (Nat.le_of_ble_eq_true rfl) rfl rfl rfl rfl (by decide) rfl rfl (fun H locs h => ?_)
    obtain ⟨hP, hD, hS⟩ := h
    refine lv_if_eq (tgt := 41) hx hb dX3_addAll_20 (by decide) (fun c5 => ?_) (fun c5 => ?_)
    · have hm := gk_it c5 hm
      refine lv_iinc (v := x4 + 1) (lv' := [(4, .int (x4 + 1)), (0, .ref a0), (1, .int x1), (2, .long x2)]) hx hb dX3_addAll_41 hl (k := 3) rfl rfl (by decide) rfl (fun ls hl => ?_)
      refine lv_goto (tgt := 3) hx hb dX3_addAll_44 (by decide) ?_
      exact kl _ _ (Option.some.inj hm).symm _ _ _ ⟨hP, hD, hS⟩ (lv_sub hl [1, 2, 3, 0] rfl)
    · have hm := gk_if c5 hm
      refine lv_aload_n hx hb dX3_addAll_23 rfl (lv_at hl 0 rfl) ?_
      refine va_get (D := G.1) (cl := vwCl) (own := RX3) (ref := "ExchangeFamilies$Sums") (ci := 2) (v := .ref a1) (C := RX3) (T := TX3) (N := 3) hx hb hts k_X3_addAll_0 hown hK hP 0 rfl rfl 1 (by decide) (hts _ k_X3_addAll_2) (fun _ h9 => h9) rfl dX3_addAll_24 ?_
      refine lv_iload_n hx hb dX3_addAll_27 rfl (lv_at hl 1 rfl) ?_
      refine lv_iload hx hb dX3_addAll_28 (lv_at hl 3 rfl) ?_
      refine lv_ior hx hb dX3_addAll_30 ?_
      refine lv_dup2_11 hx hb dX3_addAll_31 rfl rfl ?_
      obtain ⟨hi, hm⟩ := gk_ix_some hm
      refine va_lald hx hb hK hP 1 1 rfl rfl hi dX3_addAll_32 ?_
      refine lv_lconst (v := 1) hx hb dX3_addAll_33 (by decide) ?_
      refine lv_iload_n hx hb dX3_addAll_34 rfl (lv_at hl 1 rfl) ?_
      refine lv_iload hx hb dX3_addAll_35 (lv_at hl 3 rfl) ?_
      refine lv_iand hx hb dX3_addAll_37 ?_
      refine lv_lshl hx hb dX3_addAll_38 rfl ?_
      refine lv_lor hx hb dX3_addAll_39 ?_
      obtain ⟨hi, hm⟩ := gk_ix_some hm
      refine va_last hx hb hK hP hD hS 1 1 rfl rfl hi dX3_addAll_40 (fun H locs hP hD hS => ?_)
      have hP : va_P G.1 vwCl [(a0, .inr (2, [.int f_n, .ref a1, .ref a2])), (a1, gk_J G 64 (vp_updL f_boths (x1 ||| x4).toNatClampNeg ((f_boths (x1 ||| x4).toNatClampNeg) ||| ((1 : Int64) <<< ((x1 &&& x4).toInt64 &&& 63)))))] H := hP
      have hD : va_D A [(a0, .inr (2, [.int f_n, .ref a1, .ref a2])), (a1, gk_J G 64 (vp_updL f_boths (x1 ||| x4).toNatClampNeg ((f_boths (x1 ||| x4).toNatClampNeg) ||| ((1 : Int64) <<< ((x1 &&& x4).toInt64 &&& 63)))))] := hD
      refine lv_iinc (v := x4 + 1) (lv' := [(4, .int (x4 + 1)), (0, .ref a0), (1, .int x1), (2, .long x2)]) hx hb dX3_addAll_41 hl (k := 3) rfl rfl (by decide) rfl (fun ls hl => ?_)
      refine lv_goto (tgt := 3) hx hb dX3_addAll_44 (by decide) ?_
      exact kl _ _ (Option.some.inj hm).symm _ _ _ ⟨hP, hD, hS⟩ (lv_sub hl [1, 2, 3, 0] rfl)
set_option maxRecDepth 100000 in
set_option maxHeartbeats 4000000 in
theorem w_X3_addAll_L3 {p : Program} {l : Launch} {e : Env} {s : State} {m : MethodId} {args : Array Value} {below : List Frame} {meth : Method} {c : Code} {G : gk_G} {A : Nat → Prop} {Q : State → Prop} {a0 a1 a2 : Nat} (C : gk_C p s m args meth c cX3_addAll 5 none yX3_addAll wsX3_addAll false G A) {f_n : Int32} {x1 : Int32} {x2 : Int64} {x4 : Int32} {f_boths : (Nat → Int64)} {k : Nat} {e_f_boths : (Nat → Int64)} (hm : gk_lp (fun z => m_X3_addAll_B3 f_n x1 x2 z.1 z.2) k (x4, f_boths) = some e_f_boths) (kx : ∀ (H : Heap) (locs : List Loc) (ls : Array Slot), gk_H G A s [(a0, .inr (2, [.int f_n, .ref a1, .ref a2])), (a1, gk_J G 64 e_f_boths)] H locs → lv_has ls 5 [] → W p l e rm_X3_addAll s m args below meth c H locs 0 0 Q (F0 m 47 ls [])) {H : Heap} {locs : List Loc} {ls : Array Slot} (h : gk_H G A s [(a0, .inr (2, [.int f_n, .ref a1, .ref a2])), (a1, gk_J G 64 f_boths)] H locs) (hl : lv_has ls 5 [(0, .ref a0), (1, .int x1), (2, .long x2), (4, .int x4)]) : W p l e rm_X3_addAll s m args below meth c H locs 0 0 Q (F0 m 3 ls []) :=
  gk_lp_some (P := fun z => ∀ (H : Heap) (locs : List Loc) (ls : Array Slot), gk_H G A s [(a0, .inr (2, [.int f_n, .ref a1, .ref a2])), (a1, gk_J G 64 z.2)] H locs → lv_has ls 5 [(0, .ref a0), (1, .int x1), (2, .long x2), (4, .int z.1)] → W p l e rm_X3_addAll s m args below meth c H locs 0 0 Q (F0 m 3 ls [])) (E := fun r => (∀ (f_boths : (Nat → Int64)), r = f_boths → ∀ (H : Heap) (locs : List Loc) (ls : Array Slot), gk_H G A s [(a0, .inr (2, [.int f_n, .ref a1, .ref a2])), (a1, gk_J G 64 f_boths)] H locs → lv_has ls 5 [] → W p l e rm_X3_addAll s m args below meth c H locs 0 0 Q (F0 m 47 ls []))) (fun z x hf kl ke H locs ls h hl => w_X3_addAll_B3 C hf (fun v0 v1 ez => kl (v0, v1) ez) (fun v0 ez => ke _ ez v0 rfl) h hl) k (x4, f_boths) _ hm (fun v0 ez => (by cases ez; exact kx)) _ _ _ h hl
def m_X3_addAll_0 (f_n : Int32) (f_boths : (Nat → Int64)) (x1 : Int32) (x2 : Int64) : Option ((Nat → Int64)) := gk_bd1 (gk_lp (fun z => m_X3_addAll_B3 f_n x1 x2 z.1 z.2) gk_fu ((0 : Int32), f_boths)) (fun e6 => some e6)
set_option maxRecDepth 100000 in
set_option maxHeartbeats 4000000 in
theorem w_X3_addAll_0 {p : Program} {l : Launch} {e : Env} {s : State} {m : MethodId} {args : Array Value} {below : List Frame} {meth : Method} {c : Code} {G : gk_G} {A : Nat → Prop} {Q : State → Prop} {a0 a1 a2 : Nat} (C : gk_C p s m args meth c cX3_addAll 5 none yX3_addAll wsX3_addAll false G A) {f_n : Int32} {f_boths : (Nat → Int64)} {x1 : Int32} {x2 : Int64} {yy : (Nat → Int64)} (hm : m_X3_addAll_0 f_n f_boths x1 x2 = some yy) (kr : ∀ (g_boths : (Nat → Int64)), yy = g_boths → Q = MQ below (gk_Q G none [(a0, .inr (2, [.int f_n, .ref a1, .ref a2])), (a1, gk_J G 64 g_boths)] A) args s 0 0 A) {H : Heap} {locs : List Loc} {ls : Array Slot} (h : gk_H G A s [(a0, .inr (2, [.int f_n, .ref a1, .ref a2])), (a1, gk_J G 64 f_boths)] H locs) (hl : lv_has ls 5 [(0, .ref a0), (1, .int x1), (2, .long x2)]) : W p l e rm_X3_addAll s m args below meth c H locs 0 0 Q (F0 m 0 ls []) := by
  obtain ⟨hx, hb, hml, hr, hown, hnm, hts, hlk, hK, hSt, hA⟩ := id C
  obtain ⟨hP, hD, hS⟩ := h
  unfold m_X3_addAll_0 at hm
  refine lv_iconst (v := 0) hx hb dX3_addAll_0 (by decide) ?_
  refine lv_istore (lv' := [(4, .int (0 : Int32)), (0, .ref a0), (1, .int x1), (2, .long x2)]) hx hb dX3_addAll_1 hl (by decide) rfl (fun ls hl => ?_)
  obtain ⟨e6, hq, hm⟩ := gk_bd1_some hm
  refine w_X3_addAll_L3 C hq (fun H locs ls h hl => ?_) ⟨hP, hD, hS⟩ (lv_sub hl [1, 2, 3, 0] rfl)
  obtain ⟨hP, hD, hS⟩ := h
  rw [kr _ (Option.some.inj hm).symm]
  exact gk_vret C ⟨hP, hD, hS⟩ dX3_addAll_47
def m_X3_addAll (f_n : Int32) (f_boths : (Nat → Int64)) (x1 : Int32) (x2 : Int64) : Option ((Nat → Int64)) := m_X3_addAll_0 f_n f_boths x1 x2
theorem c_X3_addAll (l : Launch) (G : gk_G) (a0 a1 a2 : Nat) (f_n : Int32) (f_boths : (Nat → Int64)) (x1 : Int32) (x2 : Int64) {g_boths : (Nat → Int64)} (hm : m_X3_addAll f_n f_boths x1 x2 = some g_boths) : gk_M l yX3_addAll wsX3_addAll rm_X3_addAll false G [.ref a0, .int x1, .long x2] [(a0, .inr (2, [.int f_n, .ref a1, .ref a2])), (a1, gk_J G 64 f_boths)] none [(a0, .inr (2, [.int f_n, .ref a1, .ref a2])), (a1, gk_J G 64 g_boths)] :=
  gk_of (by decide) rfl (Nat.le_of_ble_eq_true rfl) (fun p e s m below meth c A ls C h hl => w_X3_addAll_0 C hm (fun v0 ez => by cases ez; rfl) h (show lv_has ls 5 [(0, .ref a0), (1, .int x1), (2, .long x2)] from hl))

/-! ===== ExchangeFamilies.Sums.fill(JJI)V ===== -/
abbrev rm_X3_fill : Room := { frames := 5, cells := 0, slots := 0, locals := 238 }
theorem k_X3_fill_0 : ∀ w ∈ u_ws RX3 TX3 3, w ∈ wsX3_fill := by decide +kernel
theorem k_X3_fill_1 : Cond.fieldLink RX3 9 "ExchangeFamilies$Sums" "n" "I" ∈ wsX3_fill := by decide +kernel
theorem k_X3_fill_2 : Cond.fieldLink RX3 15 "ExchangeFamilies$Sums" "boths" "[J" ∈ wsX3_fill := by decide +kernel
def m_X3_fill_B17 (f_n : Int32) (x1 : Int64) (x3 : Int64) (x6 : Int32) (f_boths : (Nat → Int64)) : Option ((Int32 × (Nat → Int64)) ⊕ ((Nat → Int64))) := (if ((1 : Int32) <<< (f_n &&& 31)) ≤ x6 then some (.inr f_boths) else gk_bd1 (m_X0_holds x1 x6) (fun r5 => (if r5 = (0 : Int32) then some (.inl (x6 + 1, f_boths)) else gk_bd1 (m_X3_addAll f_n f_boths x6 x3) (fun r7 => some (.inl (x6 + 1, r7))))))
set_option maxRecDepth 100000 in
set_option maxHeartbeats 4000000 in
theorem w_X3_fill_B17 {p : Program} {l : Launch} {e : Env} {s : State} {m : MethodId} {args : Array Value} {below : List Frame} {meth : Method} {c : Code} {G : gk_G} {A : Nat → Prop} {Q : State → Prop} {a0 a1 a2 : Nat} (C : gk_C p s m args meth c cX3_fill 7 none yX3_fill wsX3_fill false G A) {f_n : Int32} {x1 : Int64} {x3 : Int64} {x6 : Int32} {f_boths : (Nat → Int64)} {yy : (Int32 × (Nat → Int64)) ⊕ ((Nat → Int64))} (hm : m_X3_fill_B17 f_n x1 x3 x6 f_boths = some yy) (kl : ∀ (x6 : Int32) (f_boths : (Nat → Int64)), yy = .inl (x6, f_boths) → ∀ (H : Heap) (locs : List Loc) (ls : Array Slot), gk_H G A s [(a0, .inr (2, [.int f_n, .ref a1, .ref a2])), (a1, gk_J G 64 f_boths)] H locs → lv_has ls 7 [(0, .ref a0), (1, .long x1), (3, .long x3), (6, .int x6)] → W p l e rm_X3_fill s m args below meth c H locs 0 0 Q (F0 m 17 ls [])) (kx : ∀ (f_boths : (Nat → Int64)), yy = .inr f_boths → ∀ (H : Heap) (locs : List Loc) (ls : Array Slot), gk_H G A s [(a0, .inr (2, [.int f_n, .ref a1, .ref a2])), (a1, gk_J G 64 f_boths)] H locs → lv_has ls 7 [] → W p l e rm_X3_fill s m args below meth c H locs 0 0 Q (F0 m 50 ls [])) {H : Heap} {locs : List Loc} {ls : Array Slot} (h : gk_H G A s [(a0, .inr (2, [.int f_n, .ref a1, .ref a2])), (a1, gk_J G 64 f_boths)] H locs) (hl : lv_has ls 7 [(0, .ref a0), (1, .long x1), (3, .long x3), (6, .int x6)]) : W p l e rm_X3_fill s m args below meth c H locs 0 0 Q (F0 m 17 ls []) := by
  obtain ⟨hx, hb, hml, hr, hown, hnm, hts, hlk, hK, hSt, hA⟩ := id C
  obtain ⟨hP, hD, hS⟩ := h
  unfold m_X3_fill_B17 at hm
  refine lv_iload hx hb dX3_fill_17 (lv_at hl 3 rfl) ?_
  refine lv_iconst (v := 1) hx hb dX3_fill_19 (by decide) ?_
  refine lv_aload_n hx hb dX3_fill_20 rfl (lv_at hl 0 rfl) ?_
  refine va_get (D := G.1) (cl := vwCl) (own := RX3) (ref := "ExchangeFamilies$Sums") (ci := 2) (v := .int f_n) (C := RX3) (T := TX3) (N := 3) hx hb hts k_X3_fill_0 hown hK hP 0 rfl rfl 0 (by decide) (hts _ k_X3_fill_1) (fun _ h9 => h9) rfl dX3_fill_21 ?_
  refine lv_ishl hx hb dX3_fill_24 ?_
  refine lv_icmp_ge (tgt := 50) hx hb dX3_fill_25 (by decide) (fun c4 => ?_) (fun c4 => ?_)
  · have hm := gk_it c4 hm
    exact kx _ (Option.some.inj hm).symm _ _ _ ⟨hP, hD, hS⟩ (lv_sub hl [] rfl)
  · have hm := gk_if c4 hm
    refine lv_lload_n hx hb dX3_fill_28 rfl (lv_at hl 1 rfl) ?_
    refine lv_iload hx hb dX3_fill_29 (lv_at hl 3 rfl) ?_
    obtain ⟨r5, hq, hm⟩ := gk_bd1_some hm
    refine gk_callS (n := 2) (bytes := cX0_holds) (maxL := 3) (ret := (some .boolean)) [(a0, .inr (2, [.int f_n, .ref a1, .ref a2])), (a1, gk_J G 64 f_boths)] [(a0, .inr (2, [.int f_n, .ref a1, .ref a2])), (a1, gk_J G 64 f_boths)] [] C ⟨hP, hD, hS⟩ (c_X0_holds l G x1 x6 hq) gX3_fill_X0_holds dX3_fill_31 hl.1 [] [0, 1] [0, 1] rfl ⟨rfl, rfl⟩ ⟨Nat.le_of_ble_eq_true rfl, Nat.le_of_ble_eq_true rfl⟩ ⟨by decide +kernel, by decide +kernel, by decide +kernel⟩ rfl (fun h => by cases h) (Nat.le_of_ble_eq_true rfl) rfl rfl rfl rfl (by decide) rfl rfl (fun H locs h => ?_)
    obtain ⟨hP, hD, hS⟩ := h
    refine lv_if_eq (tgt := 44) hx hb dX3_fill_34 (by decide) (fun c6 => ?_) (fun c6 => ?_)
    · have hm := gk_it c6 hm
      refine lv_iinc (v := x6 + 1) (lv' := [(6, .int (x6 + 1)), (0, .ref a0), (1, .long x1), (3, .long x3)]) hx hb dX3_fill_44 hl (k := 3) rfl rfl (by decide) rfl (fun ls hl => ?_)
      refine lv_goto (tgt := 17) hx hb dX3_fill_47 (by decide) ?_
      exact kl _ _ (Option.some.inj hm).symm _ _ _ ⟨hP, hD, hS⟩ (lv_sub hl [1, 2, 3, 0] rfl)
    · have hm := gk_if c6 hm
      refine lv_aload_n hx hb dX3_fill_37 rfl (lv_at hl 0 rfl) ?_
      refine lv_iload hx hb dX3_fill_38 (lv_at hl 3 rfl) ?_
      refine lv_lload_n hx hb dX3_fill_40 rfl (lv_at hl 2 rfl) ?_
      obtain ⟨r7, hq, hm⟩ := gk_bd1_some hm
      refine gk_callV (n := 2) (bytes := cX3_addAll) (maxL := 5) (ret := none) (Cn := RX3) (T := TX3) (N := 3) [] [(a0, .inr (2, [.int f_n, .ref a1, .ref a2])), (a1, gk_J G 64 r7)] [] C ⟨hP, hD, hS⟩ (c_X3_addAll l G a0 a1 a2 f_n f_boths x6 x3 hq) gX3_fill_X3_addAll dX3_fill_41 hl.1 [0, 1] [] [0, 1] rfl rfl ⟨rfl, rfl⟩ ⟨Nat.le_of_ble_eq_true rfl, Nat.le_of_ble_eq_true rfl⟩ ⟨rfl, by decide +kernel, by decide +kernel, by decide +kernel⟩ rfl (fun h => by cases h) (Nat.le_of_ble_eq_true rfl) rfl rfl rfl rfl (by decide) rfl rfl (fun H locs h => ?_)
      obtain ⟨hP, hD, hS⟩ := h
      refine lv_iinc (v := x6 + 1) (lv' := [(6, .int (x6 + 1)), (0, .ref a0), (1, .long x1), (3, .long x3)]) hx hb dX3_fill_44 hl (k := 3) rfl rfl (by decide) rfl (fun ls hl => ?_)
      refine lv_goto (tgt := 17) hx hb dX3_fill_47 (by decide) ?_
      exact kl _ _ (Option.some.inj hm).symm _ _ _ ⟨hP, hD, hS⟩ (lv_sub hl [1, 2, 3, 0] rfl)
set_option maxRecDepth 100000 in
set_option maxHeartbeats 4000000 in
theorem w_X3_fill_L17 {p : Program} {l : Launch} {e : Env} {s : State} {m : MethodId} {args : Array Value} {below : List Frame} {meth : Method} {c : Code} {G : gk_G} {A : Nat → Prop} {Q : State → Prop} {a0 a1 a2 : Nat} (C : gk_C p s m args meth c cX3_fill 7 none yX3_fill wsX3_fill false G A) {f_n : Int32} {x1 : Int64} {x3 : Int64} {x6 : Int32} {f_boths : (Nat → Int64)} {k : Nat} {e_f_boths : (Nat → Int64)} (hm : gk_lp (fun z => m_X3_fill_B17 f_n x1 x3 z.1 z.2) k (x6, f_boths) = some e_f_boths) (kx : ∀ (H : Heap) (locs : List Loc) (ls : Array Slot), gk_H G A s [(a0, .inr (2, [.int f_n, .ref a1, .ref a2])), (a1, gk_J G 64 e_f_boths)] H locs → lv_has ls 7 [] → W p l e rm_X3_fill s m args below meth c H locs 0 0 Q (F0 m 50 ls [])) {H : Heap} {locs : List Loc} {ls : Array Slot} (h : gk_H G A s [(a0, .inr (2, [.int f_n, .ref a1, .ref a2])), (a1, gk_J G 64 f_boths)] H locs) (hl : lv_has ls 7 [(0, .ref a0), (1, .long x1), (3, .long x3), (6, .int x6)]) : W p l e rm_X3_fill s m args below meth c H locs 0 0 Q (F0 m 17 ls []) :=
  gk_lp_some (P := fun z => ∀ (H : Heap) (locs : List Loc) (ls : Array Slot), gk_H G A s [(a0, .inr (2, [.int f_n, .ref a1, .ref a2])), (a1, gk_J G 64 z.2)] H locs → lv_has ls 7 [(0, .ref a0), (1, .long x1), (3, .long x3), (6, .int z.1)] → W p l e rm_X3_fill s m args below meth c H locs 0 0 Q (F0 m 17 ls [])) (E := fun r => (∀ (f_boths : (Nat → Int64)), r = f_boths → ∀ (H : Heap) (locs : List Loc) (ls : Array Slot), gk_H G A s [(a0, .inr (2, [.int f_n, .ref a1, .ref a2])), (a1, gk_J G 64 f_boths)] H locs → lv_has ls 7 [] → W p l e rm_X3_fill s m args below meth c H locs 0 0 Q (F0 m 50 ls []))) (fun z x hf kl ke H locs ls h hl => w_X3_fill_B17 C hf (fun v0 v1 ez => kl (v0, v1) ez) (fun v0 ez => ke _ ez v0 rfl) h hl) k (x6, f_boths) _ hm (fun v0 ez => (by cases ez; exact kx)) _ _ _ h hl
def m_X3_fill_0 (f_n : Int32) (f_boths : (Nat → Int64)) (x1 : Int64) (x3 : Int64) (x5 : Int32) : Option (Int32 × (Nat → Int64)) := gk_bd1 (m_J7_fill_d0a16 64 f_boths (0 : Int64)) (fun r3 => gk_bd1 (gk_lp (fun z => m_X3_fill_B17 x5 x1 x3 z.1 z.2) gk_fu ((0 : Int32), r3)) (fun e8 => some (x5, e8)))
set_option maxRecDepth 100000 in
set_option maxHeartbeats 4000000 in
theorem w_X3_fill_0 {p : Program} {l : Launch} {e : Env} {s : State} {m : MethodId} {args : Array Value} {below : List Frame} {meth : Method} {c : Code} {G : gk_G} {A : Nat → Prop} {Q : State → Prop} {a0 a1 a2 : Nat} (C : gk_C p s m args meth c cX3_fill 7 none yX3_fill wsX3_fill false G A) {f_n : Int32} {f_boths : (Nat → Int64)} {x1 : Int64} {x3 : Int64} {x5 : Int32} {yy : Int32 × (Nat → Int64)} (hm : m_X3_fill_0 f_n f_boths x1 x3 x5 = some yy) (kr : ∀ (g_n : Int32) (g_boths : (Nat → Int64)), yy = (g_n, g_boths) → Q = MQ below (gk_Q G none [(a0, .inr (2, [.int g_n, .ref a1, .ref a2])), (a1, gk_J G 64 g_boths)] A) args s 0 0 A) {H : Heap} {locs : List Loc} {ls : Array Slot} (h : gk_H G A s [(a0, .inr (2, [.int f_n, .ref a1, .ref a2])), (a1, gk_J G 64 f_boths)] H locs) (hl : lv_has ls 7 [(0, .ref a0), (1, .long x1), (3, .long x3), (5, .int x5)]) : W p l e rm_X3_fill s m args below meth c H locs 0 0 Q (F0 m 0 ls []) := by
  obtain ⟨hx, hb, hml, hr, hown, hnm, hts, hlk, hK, hSt, hA⟩ := id C
  obtain ⟨hP, hD, hS⟩ := h
  unfold m_X3_fill_0 at hm
  refine lv_aload_n hx hb dX3_fill_0 rfl (lv_at hl 0 rfl) ?_
  refine lv_iload hx hb dX3_fill_1 (lv_at hl 3 rfl) ?_
  refine va_put (D := G.1) (cl := vwCl) (own := RX3) (ref := "ExchangeFamilies$Sums") (ci := 2) (v := .int x5) (ty := .int) (C := RX3) (T := TX3) (N := 3) hx hb hts k_X3_fill_0 tyX3 tyX3_ok nmX3 hown hK hP hD hS 0 rfl rfl 0 (by decide) (hts _ k_X3_fill_1) (fun _ h9 => h9) rfl (by decide +kernel) rfl rfl (Nat.le_of_ble_eq_true rfl) dX3_fill_3 (fun H locs hP hD hS => ?_)
  have hP : va_P G.1 vwCl [(a0, .inr (2, [.int x5, .ref a1, .ref a2])), (a1, gk_J G 64 f_boths)] H := hP
  have hD : va_D A [(a0, .inr (2, [.int x5, .ref a1, .ref a2])), (a1, gk_J G 64 f_boths)] := hD
  refine lv_aload_n hx hb dX3_fill_6 rfl (lv_at hl 0 rfl) ?_
  refine va_get (D := G.1) (cl := vwCl) (own := RX3) (ref := "ExchangeFamilies$Sums") (ci := 2) (v := .ref a1) (C := RX3) (T := TX3) (N := 3) hx hb hts k_X3_fill_0 hown hK hP 0 rfl rfl 1 (by decide) (hts _ k_X3_fill_2) (fun _ h9 => h9) rfl dX3_fill_7 ?_
  refine lv_lconst (v := 0) hx hb dX3_fill_10 (by decide) ?_
  obtain ⟨r3, hq, hm⟩ := gk_bd1_some hm
  refine gk_callS (n := 2) (bytes := cJ7_fill_d0a16) (maxL := 5) (ret := none) [(a0, .inr (2, [.int x5, .ref a1, .ref a2]))] [(a0, .inr (2, [.int x5, .ref a1, .ref a2])), (a1, gk_J G 64 r3)] [] C ⟨hP, hD, hS⟩ (c_J7_fill_d0a16 l G a1 64 f_boths (0 : Int64) hq) gX3_fill_J7_fill_d0a16 dX3_fill_11 hl.1 [1] [0] [0, 1] rfl ⟨rfl, rfl⟩ ⟨Nat.le_of_ble_eq_true rfl, Nat.le_of_ble_eq_true rfl⟩ ⟨by decide +kernel, by decide +kernel, by decide +kernel⟩ rfl (fun h => by cases h) (Nat.le_of_ble_eq_true rfl) rfl rfl rfl rfl (by decide) rfl rfl (fun H locs h => ?_)
  obtain ⟨hP, hD, hS⟩ := h
  refine lv_iconst (v := 0) hx hb dX3_fill_14 (by decide) ?_
  refine lv_istore (lv' := [(6, .int (0 : Int32)), (0, .ref a0), (1, .long x1), (3, .long x3), (5, .int x5)]) hx hb dX3_fill_15 hl (by decide) rfl (fun ls hl => ?_)
  obtain ⟨e8, hq, hm⟩ := gk_bd1_some hm
  refine w_X3_fill_L17 C hq (fun H locs ls h hl => ?_) ⟨hP, hD, hS⟩ (lv_sub hl [1, 2, 3, 0] rfl)
  obtain ⟨hP, hD, hS⟩ := h
  rw [kr _ _ (Option.some.inj hm).symm]
  exact gk_vret C ⟨hP, hD, hS⟩ dX3_fill_50
def m_X3_fill (f_n : Int32) (f_boths : (Nat → Int64)) (x1 : Int64) (x3 : Int64) (x5 : Int32) : Option (Int32 × (Nat → Int64)) := m_X3_fill_0 f_n f_boths x1 x3 x5
theorem c_X3_fill (l : Launch) (G : gk_G) (a0 a1 a2 : Nat) (f_n : Int32) (f_boths : (Nat → Int64)) (x1 : Int64) (x3 : Int64) (x5 : Int32) {g_n : Int32} {g_boths : (Nat → Int64)} (hm : m_X3_fill f_n f_boths x1 x3 x5 = some (g_n, g_boths)) : gk_M l yX3_fill wsX3_fill rm_X3_fill false G [.ref a0, .long x1, .long x3, .int x5] [(a0, .inr (2, [.int f_n, .ref a1, .ref a2])), (a1, gk_J G 64 f_boths)] none [(a0, .inr (2, [.int g_n, .ref a1, .ref a2])), (a1, gk_J G 64 g_boths)] :=
  gk_of (by decide) rfl (Nat.le_of_ble_eq_true rfl) (fun p e s m below meth c A ls C h hl => w_X3_fill_0 C hm (fun v0 v1 ez => by cases ez; rfl) h (show lv_has ls 7 [(0, .ref a0), (1, .long x1), (3, .long x3), (5, .int x5)] from hl))

/-! ===== ExchangeFamilies.Sums.holdsRow(II)Z ===== -/
abbrev rm_X3_holdsRow : Room := { frames := 3, cells := 0, slots := 0, locals := 150 }
theorem k_X3_holdsRow_0 : ∀ w ∈ u_ws RX3 TX3 3, w ∈ wsX3_holdsRow := by decide +kernel
theorem k_X3_holdsRow_1 : Cond.fieldLink RX3 15 "ExchangeFamilies$Sums" "boths" "[J" ∈ wsX3_holdsRow := by decide +kernel
def m_X3_holdsRow_0 (f_boths : (Nat → Int64)) (x1 : Int32) (x2 : Int32) : Option (Int32) := gk_ix x1 64 (gk_bd1 (m_X0_holds (f_boths x1.toNatClampNeg) x2) (fun r1 => gk_bo r1 (some r1)))
set_option maxRecDepth 100000 in
set_option maxHeartbeats 4000000 in
theorem w_X3_holdsRow_0 {p : Program} {l : Launch} {e : Env} {s : State} {m : MethodId} {args : Array Value} {below : List Frame} {meth : Method} {c : Code} {G : gk_G} {A : Nat → Prop} {Q : State → Prop} {a0 a1 a2 : Nat} (C : gk_C p s m args meth c cX3_holdsRow 3 (some .boolean) yX3_holdsRow wsX3_holdsRow false G A) {f_boths : (Nat → Int64)} {x1 : Int32} {x2 : Int32} {f_n : Int32} {yy : Int32} (hm : m_X3_holdsRow_0 f_boths x1 x2 = some yy) (kr : ∀ (rv : Int32), yy = rv → Q = MQ below (gk_Q G (some (.int rv)) [(a0, .inr (2, [.int f_n, .ref a1, .ref a2])), (a1, gk_J G 64 f_boths)] A) args s 0 0 A) {H : Heap} {locs : List Loc} {ls : Array Slot} (h : gk_H G A s [(a0, .inr (2, [.int f_n, .ref a1, .ref a2])), (a1, gk_J G 64 f_boths)] H locs) (hl : lv_has ls 3 [(0, .ref a0), (1, .int x1), (2, .int x2)]) : W p l e rm_X3_holdsRow s m args below meth c H locs 0 0 Q (F0 m 0 ls []) := by
  obtain ⟨hx, hb, hml, hr, hown, hnm, hts, hlk, hK, hSt, hA⟩ := id C
  obtain ⟨hP, hD, hS⟩ := h
  unfold m_X3_holdsRow_0 at hm
  refine lv_aload_n hx hb dX3_holdsRow_0 rfl (lv_at hl 0 rfl) ?_
  refine va_get (D := G.1) (cl := vwCl) (own := RX3) (ref := "ExchangeFamilies$Sums") (ci := 2) (v := .ref a1) (C := RX3) (T := TX3) (N := 3) hx hb hts k_X3_holdsRow_0 hown hK hP 0 rfl rfl 1 (by decide) (hts _ k_X3_holdsRow_1) (fun _ h9 => h9) rfl dX3_holdsRow_1 ?_
  refine lv_iload_n hx hb dX3_holdsRow_4 rfl (lv_at hl 1 rfl) ?_
  obtain ⟨hi, hm⟩ := gk_ix_some hm
  refine va_lald hx hb hK hP 1 1 rfl rfl hi dX3_holdsRow_5 ?_
  refine lv_iload_n hx hb dX3_holdsRow_6 rfl (lv_at hl 2 rfl) ?_
  obtain ⟨r1, hq, hm⟩ := gk_bd1_some hm
  refine gk_callS (n := 2) (bytes := cX0_holds) (maxL := 3) (ret := (some .boolean)) [(a0, .inr (2, [.int f_n, .ref a1, .ref a2])), (a1, gk_J G 64 f_boths)] [(a0, .inr (2, [.int f_n, .ref a1, .ref a2])), (a1, gk_J G 64 f_boths)] [] C ⟨hP, hD, hS⟩ (c_X0_holds l G (f_boths x1.toNatClampNeg) x2 hq) gX3_holdsRow_X0_holds dX3_holdsRow_7 hl.1 [] [0, 1] [0, 1] rfl ⟨rfl, rfl⟩ ⟨Nat.le_of_ble_eq_true rfl, Nat.le_of_ble_eq_true rfl⟩ ⟨by decide +kernel, by decide +kernel, by decide +kernel⟩ rfl (fun h => by cases h) (Nat.le_of_ble_eq_true rfl) rfl rfl rfl rfl (by decide) rfl rfl (fun H locs h => ?_)
  obtain ⟨hP, hD, hS⟩ := h
  obtain ⟨hv, hm⟩ := gk_bo_some hm
  rw [kr _ (Option.some.inj hm).symm]
  exact gk_zret C ⟨hP, hD, hS⟩ hv dX3_holdsRow_10
def m_X3_holdsRow (f_boths : (Nat → Int64)) (x1 : Int32) (x2 : Int32) : Option (Int32) := m_X3_holdsRow_0 f_boths x1 x2
theorem c_X3_holdsRow (l : Launch) (G : gk_G) (a0 a1 a2 : Nat) (f_n : Int32) (f_boths : (Nat → Int64)) (x1 : Int32) (x2 : Int32) {rv : Int32} (hm : m_X3_holdsRow f_boths x1 x2 = some rv) : gk_M l yX3_holdsRow wsX3_holdsRow rm_X3_holdsRow false G [.ref a0, .int x1, .int x2] [(a0, .inr (2, [.int f_n, .ref a1, .ref a2])), (a1, gk_J G 64 f_boths)] (some (.int rv)) [(a0, .inr (2, [.int f_n, .ref a1, .ref a2])), (a1, gk_J G 64 f_boths)] :=
  gk_of (by decide) rfl (Nat.le_of_ble_eq_true rfl) (fun p e s m below meth c A ls C h hl => w_X3_holdsRow_0 C hm (fun v0 ez => by cases ez; rfl) h (show lv_has ls 3 [(0, .ref a0), (1, .int x1), (2, .int x2)] from hl))

/-! ===== ExchangeFamilies.Sums.holdsNumber(I)Z ===== -/
abbrev rm_X3_holdsNumber : Room := { frames := 5, cells := 0, slots := 0, locals := 236 }
theorem k_X3_holdsNumber_0 : ∀ w ∈ u_ws RX3 TX3 3, w ∈ wsX3_holdsNumber := by decide +kernel
theorem k_X3_holdsNumber_1 : Cond.fieldLink RX3 9 "ExchangeFamilies$Sums" "n" "I" ∈ wsX3_holdsNumber := by decide +kernel
def m_X3_holdsNumber_J46 (f_n : Int32) (f_boths : (Nat → Int64)) (x3 : Int32) (x4 : Int32) (x5 : Int32) (x6 : Int32) (s0 : Int32) (s1 : Int32) : Option ((Int32 × Int32 × Int32 × Int32) ⊕ (Int32 × Int32)) := (if x6 = (2 : Int32) then some (.inl (s0 ||| s1, x3 ||| ((1 : Int32) <<< (x5 &&& 31)), x4, x5 + 1)) else some (.inl (s0 ||| s1, x3 ||| (0 : Int32), x4, x5 + 1)))
set_option maxRecDepth 100000 in
set_option maxHeartbeats 4000000 in
theorem w_X3_holdsNumber_J46 {p : Program} {l : Launch} {e : Env} {s : State} {m : MethodId} {args : Array Value} {below : List Frame} {meth : Method} {c : Code} {G : gk_G} {A : Nat → Prop} {Q : State → Prop} {a0 a1 a2 : Nat} (C : gk_C p s m args meth c cX3_holdsNumber 7 (some .boolean) yX3_holdsNumber wsX3_holdsNumber false G A) {f_n : Int32} {f_boths : (Nat → Int64)} {x3 : Int32} {x4 : Int32} {x5 : Int32} {x6 : Int32} {s0 : Int32} {s1 : Int32} {yy : (Int32 × Int32 × Int32 × Int32) ⊕ (Int32 × Int32)} (hm : m_X3_holdsNumber_J46 f_n f_boths x3 x4 x5 x6 s0 s1 = some yy) (kl : ∀ (x2 : Int32) (x3 : Int32) (x4 : Int32) (x5 : Int32), yy = .inl (x2, x3, x4, x5) → ∀ (H : Heap) (locs : List Loc) (ls : Array Slot), gk_H G A s [(a0, .inr (2, [.int f_n, .ref a1, .ref a2])), (a1, gk_J G 64 f_boths)] H locs → lv_has ls 7 [(0, .ref a0), (2, .int x2), (3, .int x3), (4, .int x4), (5, .int x5)] → W p l e rm_X3_holdsNumber s m args below meth c H locs 0 0 Q (F0 m 10 ls [])) (kx : ∀ (x2 : Int32) (x3 : Int32), yy = .inr (x2, x3) → ∀ (H : Heap) (locs : List Loc) (ls : Array Slot), gk_H G A s [(a0, .inr (2, [.int f_n, .ref a1, .ref a2])), (a1, gk_J G 64 f_boths)] H locs → lv_has ls 7 [(0, .ref a0), (2, .int x2), (3, .int x3)] → W p l e rm_X3_holdsNumber s m args below meth c H locs 0 0 Q (F0 m 71 ls [])) {H : Heap} {locs : List Loc} {ls : Array Slot} (h : gk_H G A s [(a0, .inr (2, [.int f_n, .ref a1, .ref a2])), (a1, gk_J G 64 f_boths)] H locs) (hl : lv_has ls 7 [(0, .ref a0), (3, .int x3), (4, .int x4), (5, .int x5), (6, .int x6)]) : W p l e rm_X3_holdsNumber s m args below meth c H locs 0 0 Q (F0 m 46 ls [.int s1, .int s0]) := by
  obtain ⟨hx, hb, hml, hr, hown, hnm, hts, hlk, hK, hSt, hA⟩ := id C
  obtain ⟨hP, hD, hS⟩ := h
  unfold m_X3_holdsNumber_J46 at hm
  refine lv_ior hx hb dX3_holdsNumber_46 ?_
  refine lv_istore_n (lv' := [(2, .int (s0 ||| s1)), (0, .ref a0), (3, .int x3), (4, .int x4), (5, .int x5), (6, .int x6)]) hx hb dX3_holdsNumber_47 rfl hl (by decide) rfl (fun ls hl => ?_)
  refine lv_iload_n hx hb dX3_holdsNumber_48 rfl (lv_at hl 2 rfl) ?_
  refine lv_iload hx hb dX3_holdsNumber_49 (lv_at hl 5 rfl) ?_
  refine lv_iconst (v := 2) hx hb dX3_holdsNumber_51 (by decide) ?_
  refine lv_icmp_ne (tgt := 62) hx hb dX3_holdsNumber_52 (by decide) (fun c6 => ?_) (fun c6 => ?_)
  · have hm := gk_if c6 hm
    refine lv_iconst (v := 0) hx hb dX3_holdsNumber_62 (by decide) ?_
    refine lv_ior hx hb dX3_holdsNumber_63 ?_
    refine lv_istore_n (lv' := [(3, .int (x3 ||| (0 : Int32))), (2, .int (s0 ||| s1)), (0, .ref a0), (4, .int x4), (5, .int x5), (6, .int x6)]) hx hb dX3_holdsNumber_64 rfl hl (by decide) rfl (fun ls hl => ?_)
    refine lv_iinc (v := x5 + 1) (lv' := [(5, .int (x5 + 1)), (3, .int (x3 ||| (0 : Int32))), (2, .int (s0 ||| s1)), (0, .ref a0), (4, .int x4), (6, .int x6)]) hx hb dX3_holdsNumber_65 hl (k := 4) rfl rfl (by decide) rfl (fun ls hl => ?_)
    refine lv_goto (tgt := 10) hx hb dX3_holdsNumber_68 (by decide) ?_
    exact kl _ _ _ _ (Option.some.inj hm).symm _ _ _ ⟨hP, hD, hS⟩ (lv_sub hl [3, 2, 1, 4, 0] rfl)
  · have hm := gk_it c6 hm
    refine lv_iconst (v := 1) hx hb dX3_holdsNumber_55 (by decide) ?_
    refine lv_iload hx hb dX3_holdsNumber_56 (lv_at hl 4 rfl) ?_
    refine lv_ishl hx hb dX3_holdsNumber_58 ?_
    refine lv_goto (tgt := 63) hx hb dX3_holdsNumber_59 (by decide) ?_
    refine lv_ior hx hb dX3_holdsNumber_63 ?_
    refine lv_istore_n (lv' := [(3, .int (x3 ||| ((1 : Int32) <<< (x5 &&& 31)))), (2, .int (s0 ||| s1)), (0, .ref a0), (4, .int x4), (5, .int x5), (6, .int x6)]) hx hb dX3_holdsNumber_64 rfl hl (by decide) rfl (fun ls hl => ?_)
    refine lv_iinc (v := x5 + 1) (lv' := [(5, .int (x5 + 1)), (3, .int (x3 ||| ((1 : Int32) <<< (x5 &&& 31)))), (2, .int (s0 ||| s1)), (0, .ref a0), (4, .int x4), (6, .int x6)]) hx hb dX3_holdsNumber_65 hl (k := 4) rfl rfl (by decide) rfl (fun ls hl => ?_)
    refine lv_goto (tgt := 10) hx hb dX3_holdsNumber_68 (by decide) ?_
    exact kl _ _ _ _ (Option.some.inj hm).symm _ _ _ ⟨hP, hD, hS⟩ (lv_sub hl [3, 2, 1, 4, 0] rfl)
def m_X3_holdsNumber_B10 (f_n : Int32) (f_boths : (Nat → Int64)) (x2 : Int32) (x3 : Int32) (x4 : Int32) (x5 : Int32) : Option ((Int32 × Int32 × Int32 × Int32) ⊕ (Int32 × Int32)) := (if f_n ≤ x5 then some (.inr (x2, x3)) else gk_nz (3 : Int32) (gk_nz (3 : Int32) ((if (x4 - x4 / (3 : Int32) * (3 : Int32)) < (1 : Int32) then m_X3_holdsNumber_J46 f_n f_boths x3 (x4 / (3 : Int32)) x5 (x4 - x4 / (3 : Int32) * (3 : Int32)) x2 (0 : Int32) else m_X3_holdsNumber_J46 f_n f_boths x3 (x4 / (3 : Int32)) x5 (x4 - x4 / (3 : Int32) * (3 : Int32)) x2 ((1 : Int32) <<< (x5 &&& 31))))))
set_option maxRecDepth 100000 in
set_option maxHeartbeats 4000000 in
theorem w_X3_holdsNumber_B10 {p : Program} {l : Launch} {e : Env} {s : State} {m : MethodId} {args : Array Value} {below : List Frame} {meth : Method} {c : Code} {G : gk_G} {A : Nat → Prop} {Q : State → Prop} {a0 a1 a2 : Nat} (C : gk_C p s m args meth c cX3_holdsNumber 7 (some .boolean) yX3_holdsNumber wsX3_holdsNumber false G A) {f_n : Int32} {f_boths : (Nat → Int64)} {x2 : Int32} {x3 : Int32} {x4 : Int32} {x5 : Int32} {yy : (Int32 × Int32 × Int32 × Int32) ⊕ (Int32 × Int32)} (hm : m_X3_holdsNumber_B10 f_n f_boths x2 x3 x4 x5 = some yy) (kl : ∀ (x2 : Int32) (x3 : Int32) (x4 : Int32) (x5 : Int32), yy = .inl (x2, x3, x4, x5) → ∀ (H : Heap) (locs : List Loc) (ls : Array Slot), gk_H G A s [(a0, .inr (2, [.int f_n, .ref a1, .ref a2])), (a1, gk_J G 64 f_boths)] H locs → lv_has ls 7 [(0, .ref a0), (2, .int x2), (3, .int x3), (4, .int x4), (5, .int x5)] → W p l e rm_X3_holdsNumber s m args below meth c H locs 0 0 Q (F0 m 10 ls [])) (kx : ∀ (x2 : Int32) (x3 : Int32), yy = .inr (x2, x3) → ∀ (H : Heap) (locs : List Loc) (ls : Array Slot), gk_H G A s [(a0, .inr (2, [.int f_n, .ref a1, .ref a2])), (a1, gk_J G 64 f_boths)] H locs → lv_has ls 7 [(0, .ref a0), (2, .int x2), (3, .int x3)] → W p l e rm_X3_holdsNumber s m args below meth c H locs 0 0 Q (F0 m 71 ls [])) {H : Heap} {locs : List Loc} {ls : Array Slot} (h : gk_H G A s [(a0, .inr (2, [.int f_n, .ref a1, .ref a2])), (a1, gk_J G 64 f_boths)] H locs) (hl : lv_has ls 7 [(0, .ref a0), (2, .int x2), (3, .int x3), (4, .int x4), (5, .int x5)]) : W p l e rm_X3_holdsNumber s m args below meth c H locs 0 0 Q (F0 m 10 ls []) := by
  obtain ⟨hx, hb, hml, hr, hown, hnm, hts, hlk, hK, hSt, hA⟩ := id C
  obtain ⟨hP, hD, hS⟩ := h
  unfold m_X3_holdsNumber_B10 at hm
  refine lv_iload hx hb dX3_holdsNumber_10 (lv_at hl 4 rfl) ?_
  refine lv_aload_n hx hb dX3_holdsNumber_12 rfl (lv_at hl 0 rfl) ?_
  refine va_get (D := G.1) (cl := vwCl) (own := RX3) (ref := "ExchangeFamilies$Sums") (ci := 2) (v := .int f_n) (C := RX3) (T := TX3) (N := 3) hx hb hts k_X3_holdsNumber_0 hown hK hP 0 rfl rfl 0 (by decide) (hts _ k_X3_holdsNumber_1) (fun _ h9 => h9) rfl dX3_holdsNumber_13 ?_
  refine lv_icmp_ge (tgt := 71) hx hb dX3_holdsNumber_16 (by decide) (fun c4 => ?_) (fun c4 => ?_)
  · have hm := gk_it c4 hm
    exact kx _ _ (Option.some.inj hm).symm _ _ _ ⟨hP, hD, hS⟩ (lv_sub hl [0, 1, 2] rfl)
  · have hm := gk_if c4 hm
    refine lv_iload hx hb dX3_holdsNumber_19 (lv_at hl 3 rfl) ?_
    refine lv_iconst (v := 3) hx hb dX3_holdsNumber_21 (by decide) ?_
    obtain ⟨hz, hm⟩ := gk_nz_some hm
    refine lv_irem hx hb dX3_holdsNumber_22 hz ?_
    refine lv_istore (lv' := [(6, .int (x4 - x4 / (3 : Int32) * (3 : Int32))), (0, .ref a0), (2, .int x2), (3, .int x3), (4, .int x4), (5, .int x5)]) hx hb dX3_holdsNumber_23 hl (by decide) rfl (fun ls hl => ?_)
    refine lv_iload hx hb dX3_holdsNumber_25 (lv_at hl 4 rfl) ?_
    refine lv_iconst (v := 3) hx hb dX3_holdsNumber_27 (by decide) ?_
    obtain ⟨hz, hm⟩ := gk_nz_some hm
    refine lv_idiv hx hb dX3_holdsNumber_28 hz ?_
    refine lv_istore (lv' := [(4, .int (x4 / (3 : Int32))), (6, .int (x4 - x4 / (3 : Int32) * (3 : Int32))), (0, .ref a0), (2, .int x2), (3, .int x3), (5, .int x5)]) hx hb dX3_holdsNumber_29 hl (by decide) rfl (fun ls hl => ?_)
    refine lv_iload_n hx hb dX3_holdsNumber_31 rfl (lv_at hl 3 rfl) ?_
    refine lv_iload hx hb dX3_holdsNumber_32 (lv_at hl 1 rfl) ?_
    refine lv_iconst (v := 1) hx hb dX3_holdsNumber_34 (by decide) ?_
    refine lv_icmp_lt (tgt := 45) hx hb dX3_holdsNumber_35 (by decide) (fun c5 => ?_) (fun c5 => ?_)
    · have hm := gk_it c5 hm
      refine lv_iconst (v := 0) hx hb dX3_holdsNumber_45 (by decide) ?_
      exact w_X3_holdsNumber_J46 C hm kl kx ⟨hP, hD, hS⟩ (lv_sub hl [2, 4, 0, 5, 1] rfl)
    · have hm := gk_if c5 hm
      refine lv_iconst (v := 1) hx hb dX3_holdsNumber_38 (by decide) ?_
      refine lv_iload hx hb dX3_holdsNumber_39 (lv_at hl 5 rfl) ?_
      refine lv_ishl hx hb dX3_holdsNumber_41 ?_
      refine lv_goto (tgt := 46) hx hb dX3_holdsNumber_42 (by decide) ?_
      exact w_X3_holdsNumber_J46 C hm kl kx ⟨hP, hD, hS⟩ (lv_sub hl [2, 4, 0, 5, 1] rfl)
set_option maxRecDepth 100000 in
set_option maxHeartbeats 4000000 in
theorem w_X3_holdsNumber_L10 {p : Program} {l : Launch} {e : Env} {s : State} {m : MethodId} {args : Array Value} {below : List Frame} {meth : Method} {c : Code} {G : gk_G} {A : Nat → Prop} {Q : State → Prop} {a0 a1 a2 : Nat} (C : gk_C p s m args meth c cX3_holdsNumber 7 (some .boolean) yX3_holdsNumber wsX3_holdsNumber false G A) {f_n : Int32} {f_boths : (Nat → Int64)} {x2 : Int32} {x3 : Int32} {x4 : Int32} {x5 : Int32} {k : Nat} {e_x2 : Int32} {e_x3 : Int32} (hm : gk_lp (fun z => m_X3_holdsNumber_B10 f_n f_boths z.1 z.2.1 z.2.2.1 z.2.2.2) k (x2, x3, x4, x5) = some (e_x2, e_x3)) (kx : ∀ (H : Heap) (locs : List Loc) (ls : Array Slot), gk_H G A s [(a0, .inr (2, [.int f_n, .ref a1, .ref a2])), (a1, gk_J G 64 f_boths)] H locs → lv_has ls 7 [(0, .ref a0), (2, .int e_x2), (3, .int e_x3)] → W p l e rm_X3_holdsNumber s m args below meth c H locs 0 0 Q (F0 m 71 ls [])) {H : Heap} {locs : List Loc} {ls : Array Slot} (h : gk_H G A s [(a0, .inr (2, [.int f_n, .ref a1, .ref a2])), (a1, gk_J G 64 f_boths)] H locs) (hl : lv_has ls 7 [(0, .ref a0), (2, .int x2), (3, .int x3), (4, .int x4), (5, .int x5)]) : W p l e rm_X3_holdsNumber s m args below meth c H locs 0 0 Q (F0 m 10 ls []) :=
  gk_lp_some (P := fun z => ∀ (H : Heap) (locs : List Loc) (ls : Array Slot), gk_H G A s [(a0, .inr (2, [.int f_n, .ref a1, .ref a2])), (a1, gk_J G 64 f_boths)] H locs → lv_has ls 7 [(0, .ref a0), (2, .int z.1), (3, .int z.2.1), (4, .int z.2.2.1), (5, .int z.2.2.2)] → W p l e rm_X3_holdsNumber s m args below meth c H locs 0 0 Q (F0 m 10 ls [])) (E := fun r => (∀ (x2 : Int32) (x3 : Int32), r = (x2, x3) → ∀ (H : Heap) (locs : List Loc) (ls : Array Slot), gk_H G A s [(a0, .inr (2, [.int f_n, .ref a1, .ref a2])), (a1, gk_J G 64 f_boths)] H locs → lv_has ls 7 [(0, .ref a0), (2, .int x2), (3, .int x3)] → W p l e rm_X3_holdsNumber s m args below meth c H locs 0 0 Q (F0 m 71 ls []))) (fun z x hf kl ke H locs ls h hl => w_X3_holdsNumber_B10 C hf (fun v0 v1 v2 v3 ez => kl (v0, v1, v2, v3) ez) (fun v0 v1 ez => ke _ ez v0 v1 rfl) h hl) k (x2, x3, x4, x5) _ hm (fun v0 v1 ez => (by cases ez; exact kx)) _ _ _ h hl
def m_X3_holdsNumber_0 (f_n : Int32) (f_boths : (Nat → Int64)) (x1 : Int32) : Option (Int32) := gk_bd2 (gk_lp (fun z => m_X3_holdsNumber_B10 f_n f_boths z.1 z.2.1 z.2.2.1 z.2.2.2) gk_fu ((0 : Int32), (0 : Int32), x1, (0 : Int32))) (fun e7 e8 => gk_bd1 (m_X3_holdsRow f_boths e7 e8) (fun r9 => gk_bo r9 (some r9)))
set_option maxRecDepth 100000 in
set_option maxHeartbeats 4000000 in
theorem w_X3_holdsNumber_0 {p : Program} {l : Launch} {e : Env} {s : State} {m : MethodId} {args : Array Value} {below : List Frame} {meth : Method} {c : Code} {G : gk_G} {A : Nat → Prop} {Q : State → Prop} {a0 a1 a2 : Nat} (C : gk_C p s m args meth c cX3_holdsNumber 7 (some .boolean) yX3_holdsNumber wsX3_holdsNumber false G A) {f_n : Int32} {f_boths : (Nat → Int64)} {x1 : Int32} {yy : Int32} (hm : m_X3_holdsNumber_0 f_n f_boths x1 = some yy) (kr : ∀ (rv : Int32), yy = rv → Q = MQ below (gk_Q G (some (.int rv)) [(a0, .inr (2, [.int f_n, .ref a1, .ref a2])), (a1, gk_J G 64 f_boths)] A) args s 0 0 A) {H : Heap} {locs : List Loc} {ls : Array Slot} (h : gk_H G A s [(a0, .inr (2, [.int f_n, .ref a1, .ref a2])), (a1, gk_J G 64 f_boths)] H locs) (hl : lv_has ls 7 [(0, .ref a0), (1, .int x1)]) : W p l e rm_X3_holdsNumber s m args below meth c H locs 0 0 Q (F0 m 0 ls []) := by
  obtain ⟨hx, hb, hml, hr, hown, hnm, hts, hlk, hK, hSt, hA⟩ := id C
  obtain ⟨hP, hD, hS⟩ := h
  unfold m_X3_holdsNumber_0 at hm
  refine lv_iconst (v := 0) hx hb dX3_holdsNumber_0 (by decide) ?_
  refine lv_istore_n (lv' := [(2, .int (0 : Int32)), (0, .ref a0), (1, .int x1)]) hx hb dX3_holdsNumber_1 rfl hl (by decide) rfl (fun ls hl => ?_)
  refine lv_iconst (v := 0) hx hb dX3_holdsNumber_2 (by decide) ?_
  refine lv_istore_n (lv' := [(3, .int (0 : Int32)), (2, .int (0 : Int32)), (0, .ref a0), (1, .int x1)]) hx hb dX3_holdsNumber_3 rfl hl (by decide) rfl (fun ls hl => ?_)
  refine lv_iload_n hx hb dX3_holdsNumber_4 rfl (lv_at hl 3 rfl) ?_
  refine lv_istore (lv' := [(4, .int x1), (3, .int (0 : Int32)), (2, .int (0 : Int32)), (0, .ref a0), (1, .int x1)]) hx hb dX3_holdsNumber_5 hl (by decide) rfl (fun ls hl => ?_)
  refine lv_iconst (v := 0) hx hb dX3_holdsNumber_7 (by decide) ?_
  refine lv_istore (lv' := [(5, .int (0 : Int32)), (4, .int x1), (3, .int (0 : Int32)), (2, .int (0 : Int32)), (0, .ref a0), (1, .int x1)]) hx hb dX3_holdsNumber_8 hl (by decide) rfl (fun ls hl => ?_)
  obtain ⟨e7, e8, hq, hm⟩ := gk_bd2_some hm
  refine w_X3_holdsNumber_L10 C hq (fun H locs ls h hl => ?_) ⟨hP, hD, hS⟩ (lv_sub hl [4, 3, 2, 1, 0] rfl)
  obtain ⟨hP, hD, hS⟩ := h
  refine lv_aload_n hx hb dX3_holdsNumber_71 rfl (lv_at hl 0 rfl) ?_
  refine lv_iload_n hx hb dX3_holdsNumber_72 rfl (lv_at hl 1 rfl) ?_
  refine lv_iload_n hx hb dX3_holdsNumber_73 rfl (lv_at hl 2 rfl) ?_
  obtain ⟨r9, hq, hm⟩ := gk_bd1_some hm
  refine gk_callV (n := 2) (bytes := cX3_holdsRow) (maxL := 3) (ret := (some .boolean)) (Cn := RX3) (T := TX3) (N := 3) [] [(a0, .inr (2, [.int f_n, .ref a1, .ref a2])), (a1, gk_J G 64 f_boths)] [] C ⟨hP, hD, hS⟩ (c_X3_holdsRow l G a0 a1 a2 f_n f_boths e7 e8 hq) gX3_holdsNumber_X3_holdsRow dX3_holdsNumber_74 hl.1 [0, 1] [] [0, 1] rfl rfl ⟨rfl, rfl⟩ ⟨Nat.le_of_ble_eq_true rfl, Nat.le_of_ble_eq_true rfl⟩ ⟨rfl, by decide +kernel, by decide +kernel, by decide +kernel⟩ rfl (fun h => by cases h) (Nat.le_of_ble_eq_true rfl) rfl rfl rfl rfl (by decide) rfl rfl (fun H locs h => ?_)
  obtain ⟨hP, hD, hS⟩ := h
  obtain ⟨hv, hm⟩ := gk_bo_some hm
  rw [kr _ (Option.some.inj hm).symm]
  exact gk_zret C ⟨hP, hD, hS⟩ hv dX3_holdsNumber_77
def m_X3_holdsNumber (f_n : Int32) (f_boths : (Nat → Int64)) (x1 : Int32) : Option (Int32) := m_X3_holdsNumber_0 f_n f_boths x1
theorem c_X3_holdsNumber (l : Launch) (G : gk_G) (a0 a1 a2 : Nat) (f_n : Int32) (f_boths : (Nat → Int64)) (x1 : Int32) {rv : Int32} (hm : m_X3_holdsNumber f_n f_boths x1 = some rv) : gk_M l yX3_holdsNumber wsX3_holdsNumber rm_X3_holdsNumber false G [.ref a0, .int x1] [(a0, .inr (2, [.int f_n, .ref a1, .ref a2])), (a1, gk_J G 64 f_boths)] (some (.int rv)) [(a0, .inr (2, [.int f_n, .ref a1, .ref a2])), (a1, gk_J G 64 f_boths)] :=
  gk_of (by decide) rfl (Nat.le_of_ble_eq_true rfl) (fun p e s m below meth c A ls C h hl => w_X3_holdsNumber_0 C hm (fun v0 ez => by cases ez; rfl) h (show lv_has ls 7 [(0, .ref a0), (1, .int x1)] from hl))

/-! ===== ExchangeFamilies.Sums.howMany()I ===== -/
abbrev rm_X3_howMany : Room := { frames := 3, cells := 0, slots := 0, locals := 149 }
theorem k_X3_howMany_0 : ∀ w ∈ u_ws RX3 TX3 3, w ∈ wsX3_howMany := by decide +kernel
theorem k_X3_howMany_1 : Cond.fieldLink RX3 15 "ExchangeFamilies$Sums" "boths" "[J" ∈ wsX3_howMany := by decide +kernel
def m_X3_howMany_B13 (f_boths : (Nat → Int64)) (x3 : Int32) (x1 : Int32) (x4 : Int32) : Option ((Int32 × Int32) ⊕ (Int32)) := (if x3 ≤ x4 then some (.inr x1) else gk_ix x4 64 (gk_bd1 (m_J13_bitCount_95d88 (f_boths x4.toNatClampNeg)) (fun r3 => some (.inl (x1 + r3, x4 + 1)))))
set_option maxRecDepth 100000 in
set_option maxHeartbeats 4000000 in
theorem w_X3_howMany_B13 {p : Program} {l : Launch} {e : Env} {s : State} {m : MethodId} {args : Array Value} {below : List Frame} {meth : Method} {c : Code} {G : gk_G} {A : Nat → Prop} {Q : State → Prop} {a0 a1 a2 : Nat} (C : gk_C p s m args meth c cX3_howMany 7 (some .int) yX3_howMany wsX3_howMany false G A) {f_boths : (Nat → Int64)} {x3 : Int32} {x1 : Int32} {x4 : Int32} {f_n : Int32} {yy : (Int32 × Int32) ⊕ (Int32)} (hm : m_X3_howMany_B13 f_boths x3 x1 x4 = some yy) (kl : ∀ (x1 : Int32) (x4 : Int32), yy = .inl (x1, x4) → ∀ (H : Heap) (locs : List Loc) (ls : Array Slot), gk_H G A s [(a0, .inr (2, [.int f_n, .ref a1, .ref a2])), (a1, gk_J G 64 f_boths)] H locs → lv_has ls 7 [(1, .int x1), (2, .ref a1), (3, .int x3), (4, .int x4)] → W p l e rm_X3_howMany s m args below meth c H locs 0 0 Q (F0 m 13 ls [])) (kx : ∀ (x1 : Int32), yy = .inr x1 → ∀ (H : Heap) (locs : List Loc) (ls : Array Slot), gk_H G A s [(a0, .inr (2, [.int f_n, .ref a1, .ref a2])), (a1, gk_J G 64 f_boths)] H locs → lv_has ls 7 [(1, .int x1)] → W p l e rm_X3_howMany s m args below meth c H locs 0 0 Q (F0 m 39 ls [])) {H : Heap} {locs : List Loc} {ls : Array Slot} (h : gk_H G A s [(a0, .inr (2, [.int f_n, .ref a1, .ref a2])), (a1, gk_J G 64 f_boths)] H locs) (hl : lv_has ls 7 [(1, .int x1), (2, .ref a1), (3, .int x3), (4, .int x4)]) : W p l e rm_X3_howMany s m args below meth c H locs 0 0 Q (F0 m 13 ls []) := by
  obtain ⟨hx, hb, hml, hr, hown, hnm, hts, hlk, hK, hSt, hA⟩ := id C
  obtain ⟨hP, hD, hS⟩ := h
  unfold m_X3_howMany_B13 at hm
  refine lv_iload hx hb dX3_howMany_13 (lv_at hl 3 rfl) ?_
  refine lv_iload_n hx hb dX3_howMany_15 rfl (lv_at hl 2 rfl) ?_
  refine lv_icmp_ge (tgt := 39) hx hb dX3_howMany_16 (by decide) (fun c2 => ?_) (fun c2 => ?_)
  · have hm := gk_it c2 hm
    exact kx _ (Option.some.inj hm).symm _ _ _ ⟨hP, hD, hS⟩ (lv_sub hl [0] rfl)
  · have hm := gk_if c2 hm
    refine lv_aload_n hx hb dX3_howMany_19 rfl (lv_at hl 1 rfl) ?_
    refine lv_iload hx hb dX3_howMany_20 (lv_at hl 3 rfl) ?_
    obtain ⟨hi, hm⟩ := gk_ix_some hm
    refine va_lald hx hb hK hP 1 1 rfl rfl hi dX3_howMany_22 ?_
    refine lv_lstore (lv' := [(5, .long (f_boths x4.toNatClampNeg)), (1, .int x1), (2, .ref a1), (3, .int x3), (4, .int x4)]) hx hb dX3_howMany_23 hl (by decide) rfl (fun ls hl => ?_)
    refine lv_iload_n hx hb dX3_howMany_25 rfl (lv_at hl 1 rfl) ?_
    refine lv_lload hx hb dX3_howMany_26 (lv_at hl 0 rfl) ?_
    obtain ⟨r3, hq, hm⟩ := gk_bd1_some hm
    refine gk_callS (n := 1) (bytes := cJ13_bitCount_95d88) (maxL := 2) (ret := (some .int)) [(a0, .inr (2, [.int f_n, .ref a1, .ref a2])), (a1, gk_J G 64 f_boths)] [(a0, .inr (2, [.int f_n, .ref a1, .ref a2])), (a1, gk_J G 64 f_boths)] [.int x1] C ⟨hP, hD, hS⟩ (c_J13_bitCount_95d88 l G (f_boths x4.toNatClampNeg) hq) gX3_howMany_J13_bitCount_95d88 dX3_howMany_28 hl.1 [] [0, 1] [0, 1] rfl ⟨rfl, rfl⟩ ⟨Nat.le_of_ble_eq_true rfl, Nat.le_of_ble_eq_true rfl⟩ ⟨by decide +kernel, by decide +kernel, by decide +kernel⟩ rfl (fun h => by cases h) (Nat.le_of_ble_eq_true rfl) rfl rfl rfl rfl (by decide) rfl rfl (fun H locs h => ?_)
    obtain ⟨hP, hD, hS⟩ := h
    refine lv_iadd hx hb dX3_howMany_31 ?_
    refine lv_istore_n (lv' := [(1, .int (x1 + r3)), (5, .long (f_boths x4.toNatClampNeg)), (2, .ref a1), (3, .int x3), (4, .int x4)]) hx hb dX3_howMany_32 rfl hl (by decide) rfl (fun ls hl => ?_)
    refine lv_iinc (v := x4 + 1) (lv' := [(4, .int (x4 + 1)), (1, .int (x1 + r3)), (5, .long (f_boths x4.toNatClampNeg)), (2, .ref a1), (3, .int x3)]) hx hb dX3_howMany_33 hl (k := 4) rfl rfl (by decide) rfl (fun ls hl => ?_)
    refine lv_goto (tgt := 13) hx hb dX3_howMany_36 (by decide) ?_
    exact kl _ _ (Option.some.inj hm).symm _ _ _ ⟨hP, hD, hS⟩ (lv_sub hl [1, 3, 4, 0] rfl)
set_option maxRecDepth 100000 in
set_option maxHeartbeats 4000000 in
theorem w_X3_howMany_L13 {p : Program} {l : Launch} {e : Env} {s : State} {m : MethodId} {args : Array Value} {below : List Frame} {meth : Method} {c : Code} {G : gk_G} {A : Nat → Prop} {Q : State → Prop} {a0 a1 a2 : Nat} (C : gk_C p s m args meth c cX3_howMany 7 (some .int) yX3_howMany wsX3_howMany false G A) {f_boths : (Nat → Int64)} {x3 : Int32} {x1 : Int32} {x4 : Int32} {f_n : Int32} {k : Nat} {e_x1 : Int32} (hm : gk_lp (fun z => m_X3_howMany_B13 f_boths x3 z.1 z.2) k (x1, x4) = some e_x1) (kx : ∀ (H : Heap) (locs : List Loc) (ls : Array Slot), gk_H G A s [(a0, .inr (2, [.int f_n, .ref a1, .ref a2])), (a1, gk_J G 64 f_boths)] H locs → lv_has ls 7 [(1, .int e_x1)] → W p l e rm_X3_howMany s m args below meth c H locs 0 0 Q (F0 m 39 ls [])) {H : Heap} {locs : List Loc} {ls : Array Slot} (h : gk_H G A s [(a0, .inr (2, [.int f_n, .ref a1, .ref a2])), (a1, gk_J G 64 f_boths)] H locs) (hl : lv_has ls 7 [(1, .int x1), (2, .ref a1), (3, .int x3), (4, .int x4)]) : W p l e rm_X3_howMany s m args below meth c H locs 0 0 Q (F0 m 13 ls []) :=
  gk_lp_some (P := fun z => ∀ (H : Heap) (locs : List Loc) (ls : Array Slot), gk_H G A s [(a0, .inr (2, [.int f_n, .ref a1, .ref a2])), (a1, gk_J G 64 f_boths)] H locs → lv_has ls 7 [(1, .int z.1), (2, .ref a1), (3, .int x3), (4, .int z.2)] → W p l e rm_X3_howMany s m args below meth c H locs 0 0 Q (F0 m 13 ls [])) (E := fun r => (∀ (x1 : Int32), r = x1 → ∀ (H : Heap) (locs : List Loc) (ls : Array Slot), gk_H G A s [(a0, .inr (2, [.int f_n, .ref a1, .ref a2])), (a1, gk_J G 64 f_boths)] H locs → lv_has ls 7 [(1, .int x1)] → W p l e rm_X3_howMany s m args below meth c H locs 0 0 Q (F0 m 39 ls []))) (fun z x hf kl ke H locs ls h hl => w_X3_howMany_B13 C hf (fun v0 v1 ez => kl (v0, v1) ez) (fun v0 ez => ke _ ez v0 rfl) h hl) k (x1, x4) _ hm (fun v0 ez => (by cases ez; exact kx)) _ _ _ h hl
def m_X3_howMany_0 (f_boths : (Nat → Int64)) : Option (Int32) := gk_bd1 (gk_lp (fun z => m_X3_howMany_B13 f_boths (Int32.ofNat 64) z.1 z.2) gk_fu ((0 : Int32), (0 : Int32))) (fun e4 => some e4)
set_option maxRecDepth 100000 in
set_option maxHeartbeats 4000000 in
theorem w_X3_howMany_0 {p : Program} {l : Launch} {e : Env} {s : State} {m : MethodId} {args : Array Value} {below : List Frame} {meth : Method} {c : Code} {G : gk_G} {A : Nat → Prop} {Q : State → Prop} {a0 a1 a2 : Nat} (C : gk_C p s m args meth c cX3_howMany 7 (some .int) yX3_howMany wsX3_howMany false G A) {f_boths : (Nat → Int64)} {f_n : Int32} {yy : Int32} (hm : m_X3_howMany_0 f_boths = some yy) (kr : ∀ (rv : Int32), yy = rv → Q = MQ below (gk_Q G (some (.int rv)) [(a0, .inr (2, [.int f_n, .ref a1, .ref a2])), (a1, gk_J G 64 f_boths)] A) args s 0 0 A) {H : Heap} {locs : List Loc} {ls : Array Slot} (h : gk_H G A s [(a0, .inr (2, [.int f_n, .ref a1, .ref a2])), (a1, gk_J G 64 f_boths)] H locs) (hl : lv_has ls 7 [(0, .ref a0)]) : W p l e rm_X3_howMany s m args below meth c H locs 0 0 Q (F0 m 0 ls []) := by
  obtain ⟨hx, hb, hml, hr, hown, hnm, hts, hlk, hK, hSt, hA⟩ := id C
  obtain ⟨hP, hD, hS⟩ := h
  unfold m_X3_howMany_0 at hm
  refine lv_iconst (v := 0) hx hb dX3_howMany_0 (by decide) ?_
  refine lv_istore_n (lv' := [(1, .int (0 : Int32)), (0, .ref a0)]) hx hb dX3_howMany_1 rfl hl (by decide) rfl (fun ls hl => ?_)
  refine lv_aload_n hx hb dX3_howMany_2 rfl (lv_at hl 1 rfl) ?_
  refine va_get (D := G.1) (cl := vwCl) (own := RX3) (ref := "ExchangeFamilies$Sums") (ci := 2) (v := .ref a1) (C := RX3) (T := TX3) (N := 3) hx hb hts k_X3_howMany_0 hown hK hP 0 rfl rfl 1 (by decide) (hts _ k_X3_howMany_1) (fun _ h9 => h9) rfl dX3_howMany_3 ?_
  refine lv_astore_n (lv' := [(2, .ref a1), (1, .int (0 : Int32)), (0, .ref a0)]) hx hb dX3_howMany_6 rfl hl (by decide) rfl (fun ls hl => ?_)
  refine lv_aload_n hx hb dX3_howMany_7 rfl (lv_at hl 0 rfl) ?_
  refine va_alen hx hb hK hP 1 1 rfl rfl rfl dX3_howMany_8 ?_
  refine lv_istore_n (lv' := [(3, .int (Int32.ofNat 64)), (2, .ref a1), (1, .int (0 : Int32)), (0, .ref a0)]) hx hb dX3_howMany_9 rfl hl (by decide) rfl (fun ls hl => ?_)
  refine lv_iconst (v := 0) hx hb dX3_howMany_10 (by decide) ?_
  refine lv_istore (lv' := [(4, .int (0 : Int32)), (3, .int (Int32.ofNat 64)), (2, .ref a1), (1, .int (0 : Int32)), (0, .ref a0)]) hx hb dX3_howMany_11 hl (by decide) rfl (fun ls hl => ?_)
  obtain ⟨e4, hq, hm⟩ := gk_bd1_some hm
  refine w_X3_howMany_L13 C hq (fun H locs ls h hl => ?_) ⟨hP, hD, hS⟩ (lv_sub hl [3, 2, 1, 0] rfl)
  obtain ⟨hP, hD, hS⟩ := h
  refine lv_iload_n hx hb dX3_howMany_39 rfl (lv_at hl 0 rfl) ?_
  rw [kr _ (Option.some.inj hm).symm]
  exact gk_iret C ⟨hP, hD, hS⟩ dX3_howMany_40
def m_X3_howMany (f_boths : (Nat → Int64)) : Option (Int32) := m_X3_howMany_0 f_boths
theorem c_X3_howMany (l : Launch) (G : gk_G) (a0 a1 a2 : Nat) (f_n : Int32) (f_boths : (Nat → Int64)) {rv : Int32} (hm : m_X3_howMany f_boths = some rv) : gk_M l yX3_howMany wsX3_howMany rm_X3_howMany false G [.ref a0] [(a0, .inr (2, [.int f_n, .ref a1, .ref a2])), (a1, gk_J G 64 f_boths)] (some (.int rv)) [(a0, .inr (2, [.int f_n, .ref a1, .ref a2])), (a1, gk_J G 64 f_boths)] :=
  gk_of (by decide) rfl (Nat.le_of_ble_eq_true rfl) (fun p e s m below meth c A ls C h hl => w_X3_howMany_0 C hm (fun v0 ez => by cases ez; rfl) h (show lv_has ls 7 [(0, .ref a0)] from hl))

/-! ===== ExchangeFamilies.Sums.least()I ===== -/
abbrev rm_X3_least : Room := { frames := 5, cells := 0, slots := 0, locals := 236 }
theorem k_X3_least_0 : ∀ w ∈ u_ws RX3 TX3 3, w ∈ wsX3_least := by decide +kernel
theorem k_X3_least_1 : Cond.fieldLink RX3 9 "ExchangeFamilies$Sums" "n" "I" ∈ wsX3_least := by decide +kernel
theorem k_X3_least_2 : Cond.fieldLink RX3 19 "ExchangeFamilies$Sums" "ternary" "[I" ∈ wsX3_least := by decide +kernel
def m_X3_least_B16 (f_n : Int32) (f_boths : (Nat → Int64)) (f_ternary : (Nat → Int32)) (x2 : Int32) (x1 : Int32) (x3 : Int32) : Option ((Int32 × Int32) ⊕ (Int32)) := (if x2 < x3 then some (.inr x1) else gk_ix x2 64 (gk_ix x3 64 (gk_bd1 (m_X3_holdsRow f_boths x2 x3) (fun r8 => (if r8 = (0 : Int32) then some (.inl (x1, x3 + 1)) else (if x1 = (-1 : Int32) then some (.inl ((f_ternary x2.toNatClampNeg) + (f_ternary x3.toNatClampNeg), x3 + 1)) else (if x1 ≤ ((f_ternary x2.toNatClampNeg) + (f_ternary x3.toNatClampNeg)) then some (.inl (x1, x3 + 1)) else some (.inl ((f_ternary x2.toNatClampNeg) + (f_ternary x3.toNatClampNeg), x3 + 1)))))))))
set_option maxRecDepth 100000 in
set_option maxHeartbeats 4000000 in
theorem w_X3_least_B16 {p : Program} {l : Launch} {e : Env} {s : State} {m : MethodId} {args : Array Value} {below : List Frame} {meth : Method} {c : Code} {G : gk_G} {A : Nat → Prop} {Q : State → Prop} {a0 a1 a2 : Nat} (C : gk_C p s m args meth c cX3_least 5 (some .int) yX3_least wsX3_least false G A) {f_n : Int32} {f_boths : (Nat → Int64)} {f_ternary : (Nat → Int32)} {x2 : Int32} {x1 : Int32} {x3 : Int32} {yy : (Int32 × Int32) ⊕ (Int32)} (hm : m_X3_least_B16 f_n f_boths f_ternary x2 x1 x3 = some yy) (kl : ∀ (x1 : Int32) (x3 : Int32), yy = .inl (x1, x3) → ∀ (H : Heap) (locs : List Loc) (ls : Array Slot), gk_H G A s [(a0, .inr (2, [.int f_n, .ref a1, .ref a2])), (a1, gk_J G 64 f_boths), (a2, gk_I G 64 f_ternary)] H locs → lv_has ls 5 [(0, .ref a0), (1, .int x1), (2, .int x2), (3, .int x3)] → W p l e rm_X3_least s m args below meth c H locs 0 0 Q (F0 m 16 ls [])) (kx : ∀ (x1 : Int32), yy = .inr x1 → ∀ (H : Heap) (locs : List Loc) (ls : Array Slot), gk_H G A s [(a0, .inr (2, [.int f_n, .ref a1, .ref a2])), (a1, gk_J G 64 f_boths), (a2, gk_I G 64 f_ternary)] H locs → lv_has ls 5 [(0, .ref a0), (1, .int x1), (2, .int x2)] → W p l e rm_X3_least s m args below meth c H locs 0 0 Q (F0 m 65 ls [])) {H : Heap} {locs : List Loc} {ls : Array Slot} (h : gk_H G A s [(a0, .inr (2, [.int f_n, .ref a1, .ref a2])), (a1, gk_J G 64 f_boths), (a2, gk_I G 64 f_ternary)] H locs) (hl : lv_has ls 5 [(0, .ref a0), (1, .int x1), (2, .int x2), (3, .int x3)]) : W p l e rm_X3_least s m args below meth c H locs 0 0 Q (F0 m 16 ls []) := by
  obtain ⟨hx, hb, hml, hr, hown, hnm, hts, hlk, hK, hSt, hA⟩ := id C
  obtain ⟨hP, hD, hS⟩ := h
  unfold m_X3_least_B16 at hm
  refine lv_iload_n hx hb dX3_least_16 rfl (lv_at hl 3 rfl) ?_
  refine lv_iload_n hx hb dX3_least_17 rfl (lv_at hl 2 rfl) ?_
  refine lv_icmp_gt (tgt := 65) hx hb dX3_least_18 (by decide) (fun c7 => ?_) (fun c7 => ?_)
  · have hm := gk_it c7 hm
    exact kx _ (Option.some.inj hm).symm _ _ _ ⟨hP, hD, hS⟩ (lv_sub hl [0, 1, 2] rfl)
  · have hm := gk_if c7 hm
    refine lv_aload_n hx hb dX3_least_21 rfl (lv_at hl 0 rfl) ?_
    refine va_get (D := G.1) (cl := vwCl) (own := RX3) (ref := "ExchangeFamilies$Sums") (ci := 2) (v := .ref a2) (C := RX3) (T := TX3) (N := 3) hx hb hts k_X3_least_0 hown hK hP 0 rfl rfl 2 (by decide) (hts _ k_X3_least_2) (fun _ h9 => h9) rfl dX3_least_22 ?_
    refine lv_iload_n hx hb dX3_least_25 rfl (lv_at hl 2 rfl) ?_
    obtain ⟨hi, hm⟩ := gk_ix_some hm
    refine va_iald hx hb hK hP 2 0 rfl rfl hi dX3_least_26 ?_
    refine lv_aload_n hx hb dX3_least_27 rfl (lv_at hl 0 rfl) ?_
    refine va_get (D := G.1) (cl := vwCl) (own := RX3) (ref := "ExchangeFamilies$Sums") (ci := 2) (v := .ref a2) (C := RX3) (T := TX3) (N := 3) hx hb hts k_X3_least_0 hown hK hP 0 rfl rfl 2 (by decide) (hts _ k_X3_least_2) (fun _ h9 => h9) rfl dX3_least_28 ?_
    refine lv_iload_n hx hb dX3_least_31 rfl (lv_at hl 3 rfl) ?_
    obtain ⟨hi, hm⟩ := gk_ix_some hm
    refine va_iald hx hb hK hP 2 0 rfl rfl hi dX3_least_32 ?_
    refine lv_iadd hx hb dX3_least_33 ?_
    refine lv_istore (lv' := [(4, .int ((f_ternary x2.toNatClampNeg) + (f_ternary x3.toNatClampNeg))), (0, .ref a0), (1, .int x1), (2, .int x2), (3, .int x3)]) hx hb dX3_least_34 hl (by decide) rfl (fun ls hl => ?_)
    refine lv_aload_n hx hb dX3_least_36 rfl (lv_at hl 1 rfl) ?_
    refine lv_iload_n hx hb dX3_least_37 rfl (lv_at hl 3 rfl) ?_
    refine lv_iload_n hx hb dX3_least_38 rfl (lv_at hl 4 rfl) ?_
    obtain ⟨r8, hq, hm⟩ := gk_bd1_some hm
    refine gk_callV (n := 2) (bytes := cX3_holdsRow) (maxL := 3) (ret := (some .boolean)) (Cn := RX3) (T := TX3) (N := 3) [(a2, gk_I G 64 f_ternary)] [(a0, .inr (2, [.int f_n, .ref a1, .ref a2])), (a1, gk_J G 64 f_boths), (a2, gk_I G 64 f_ternary)] [] C ⟨hP, hD, hS⟩ (c_X3_holdsRow l G a0 a1 a2 f_n f_boths x2 x3 hq) gX3_least_X3_holdsRow dX3_least_39 hl.1 [0, 1] [2] [1, 2, 0] rfl rfl ⟨rfl, rfl⟩ ⟨Nat.le_of_ble_eq_true rfl, Nat.le_of_ble_eq_true rfl⟩ ⟨rfl, by decide +kernel, by decide +kernel, by decide +kernel⟩ rfl (fun h => by cases h) (Nat.le_of_ble_eq_true rfl) rfl rfl rfl rfl (by decide) rfl rfl (fun H locs h => ?_)
    obtain ⟨hP, hD, hS⟩ := h
    refine lv_if_eq (tgt := 59) hx hb dX3_least_42 (by decide) (fun c9 => ?_) (fun c9 => ?_)
    · have hm := gk_it c9 hm
      refine lv_iinc (v := x3 + 1) (lv' := [(3, .int (x3 + 1)), (4, .int ((f_ternary x2.toNatClampNeg) + (f_ternary x3.toNatClampNeg))), (0, .ref a0), (1, .int x1), (2, .int x2)]) hx hb dX3_least_59 hl (k := 4) rfl rfl (by decide) rfl (fun ls hl => ?_)
      refine lv_goto (tgt := 16) hx hb dX3_least_62 (by decide) ?_
      exact kl _ _ (Option.some.inj hm).symm _ _ _ ⟨hP, hD, hS⟩ (lv_sub hl [2, 3, 4, 0] rfl)
    · have hm := gk_if c9 hm
      refine lv_iload_n hx hb dX3_least_45 rfl (lv_at hl 2 rfl) ?_
      refine lv_iconst (v := -1) hx hb dX3_least_46 (by decide) ?_
      refine lv_icmp_eq (tgt := 56) hx hb dX3_least_47 (by decide) (fun c10 => ?_) (fun c10 => ?_)
      · have hm := gk_it c10 hm
        refine lv_iload hx hb dX3_least_56 (lv_at hl 0 rfl) ?_
        refine lv_istore_n (lv' := [(1, .int ((f_ternary x2.toNatClampNeg) + (f_ternary x3.toNatClampNeg))), (4, .int ((f_ternary x2.toNatClampNeg) + (f_ternary x3.toNatClampNeg))), (0, .ref a0), (2, .int x2), (3, .int x3)]) hx hb dX3_least_58 rfl hl (by decide) rfl (fun ls hl => ?_)
        refine lv_iinc (v := x3 + 1) (lv' := [(3, .int (x3 + 1)), (1, .int ((f_ternary x2.toNatClampNeg) + (f_ternary x3.toNatClampNeg))), (4, .int ((f_ternary x2.toNatClampNeg) + (f_ternary x3.toNatClampNeg))), (0, .ref a0), (2, .int x2)]) hx hb dX3_least_59 hl (k := 4) rfl rfl (by decide) rfl (fun ls hl => ?_)
        refine lv_goto (tgt := 16) hx hb dX3_least_62 (by decide) ?_
        exact kl _ _ (Option.some.inj hm).symm _ _ _ ⟨hP, hD, hS⟩ (lv_sub hl [3, 1, 4, 0] rfl)
      · have hm := gk_if c10 hm
        refine lv_iload hx hb dX3_least_50 (lv_at hl 0 rfl) ?_
        refine lv_iload_n hx hb dX3_least_52 rfl (lv_at hl 2 rfl) ?_
        refine lv_icmp_ge (tgt := 59) hx hb dX3_least_53 (by decide) (fun c11 => ?_) (fun c11 => ?_)
        · have hm := gk_it c11 hm
          refine lv_iinc (v := x3 + 1) (lv' := [(3, .int (x3 + 1)), (4, .int ((f_ternary x2.toNatClampNeg) + (f_ternary x3.toNatClampNeg))), (0, .ref a0), (1, .int x1), (2, .int x2)]) hx hb dX3_least_59 hl (k := 4) rfl rfl (by decide) rfl (fun ls hl => ?_)
          refine lv_goto (tgt := 16) hx hb dX3_least_62 (by decide) ?_
          exact kl _ _ (Option.some.inj hm).symm _ _ _ ⟨hP, hD, hS⟩ (lv_sub hl [2, 3, 4, 0] rfl)
        · have hm := gk_if c11 hm
          refine lv_iload hx hb dX3_least_56 (lv_at hl 0 rfl) ?_
          refine lv_istore_n (lv' := [(1, .int ((f_ternary x2.toNatClampNeg) + (f_ternary x3.toNatClampNeg))), (4, .int ((f_ternary x2.toNatClampNeg) + (f_ternary x3.toNatClampNeg))), (0, .ref a0), (2, .int x2), (3, .int x3)]) hx hb dX3_least_58 rfl hl (by decide) rfl (fun ls hl => ?_)
          refine lv_iinc (v := x3 + 1) (lv' := [(3, .int (x3 + 1)), (1, .int ((f_ternary x2.toNatClampNeg) + (f_ternary x3.toNatClampNeg))), (4, .int ((f_ternary x2.toNatClampNeg) + (f_ternary x3.toNatClampNeg))), (0, .ref a0), (2, .int x2)]) hx hb dX3_least_59 hl (k := 4) rfl rfl (by decide) rfl (fun ls hl => ?_)
          refine lv_goto (tgt := 16) hx hb dX3_least_62 (by decide) ?_
          exact kl _ _ (Option.some.inj hm).symm _ _ _ ⟨hP, hD, hS⟩ (lv_sub hl [3, 1, 4, 0] rfl)
set_option maxRecDepth 100000 in
set_option maxHeartbeats 4000000 in
theorem w_X3_least_L16 {p : Program} {l : Launch} {e : Env} {s : State} {m : MethodId} {args : Array Value} {below : List Frame} {meth : Method} {c : Code} {G : gk_G} {A : Nat → Prop} {Q : State → Prop} {a0 a1 a2 : Nat} (C : gk_C p s m args meth c cX3_least 5 (some .int) yX3_least wsX3_least false G A) {f_n : Int32} {f_boths : (Nat → Int64)} {f_ternary : (Nat → Int32)} {x2 : Int32} {x1 : Int32} {x3 : Int32} {k : Nat} {e_x1 : Int32} (hm : gk_lp (fun z => m_X3_least_B16 f_n f_boths f_ternary x2 z.1 z.2) k (x1, x3) = some e_x1) (kx : ∀ (H : Heap) (locs : List Loc) (ls : Array Slot), gk_H G A s [(a0, .inr (2, [.int f_n, .ref a1, .ref a2])), (a1, gk_J G 64 f_boths), (a2, gk_I G 64 f_ternary)] H locs → lv_has ls 5 [(0, .ref a0), (1, .int e_x1), (2, .int x2)] → W p l e rm_X3_least s m args below meth c H locs 0 0 Q (F0 m 65 ls [])) {H : Heap} {locs : List Loc} {ls : Array Slot} (h : gk_H G A s [(a0, .inr (2, [.int f_n, .ref a1, .ref a2])), (a1, gk_J G 64 f_boths), (a2, gk_I G 64 f_ternary)] H locs) (hl : lv_has ls 5 [(0, .ref a0), (1, .int x1), (2, .int x2), (3, .int x3)]) : W p l e rm_X3_least s m args below meth c H locs 0 0 Q (F0 m 16 ls []) :=
  gk_lp_some (P := fun z => ∀ (H : Heap) (locs : List Loc) (ls : Array Slot), gk_H G A s [(a0, .inr (2, [.int f_n, .ref a1, .ref a2])), (a1, gk_J G 64 f_boths), (a2, gk_I G 64 f_ternary)] H locs → lv_has ls 5 [(0, .ref a0), (1, .int z.1), (2, .int x2), (3, .int z.2)] → W p l e rm_X3_least s m args below meth c H locs 0 0 Q (F0 m 16 ls [])) (E := fun r => (∀ (x1 : Int32), r = x1 → ∀ (H : Heap) (locs : List Loc) (ls : Array Slot), gk_H G A s [(a0, .inr (2, [.int f_n, .ref a1, .ref a2])), (a1, gk_J G 64 f_boths), (a2, gk_I G 64 f_ternary)] H locs → lv_has ls 5 [(0, .ref a0), (1, .int x1), (2, .int x2)] → W p l e rm_X3_least s m args below meth c H locs 0 0 Q (F0 m 65 ls []))) (fun z x hf kl ke H locs ls h hl => w_X3_least_B16 C hf (fun v0 v1 ez => kl (v0, v1) ez) (fun v0 ez => ke _ ez v0 rfl) h hl) k (x1, x3) _ hm (fun v0 ez => (by cases ez; exact kx)) _ _ _ h hl
def m_X3_least_B4 (f_n : Int32) (f_boths : (Nat → Int64)) (f_ternary : (Nat → Int32)) (x1 : Int32) (x2 : Int32) : Option ((Int32 × Int32) ⊕ (Int32)) := (if ((1 : Int32) <<< (f_n &&& 31)) ≤ x2 then some (.inr x1) else gk_bd1 (gk_lp (fun z => m_X3_least_B16 f_n f_boths f_ternary x2 z.1 z.2) gk_fu (x1, (0 : Int32))) (fun e12 => some (.inl (e12, x2 + 1))))
set_option maxRecDepth 100000 in
set_option maxHeartbeats 4000000 in
theorem w_X3_least_B4 {p : Program} {l : Launch} {e : Env} {s : State} {m : MethodId} {args : Array Value} {below : List Frame} {meth : Method} {c : Code} {G : gk_G} {A : Nat → Prop} {Q : State → Prop} {a0 a1 a2 : Nat} (C : gk_C p s m args meth c cX3_least 5 (some .int) yX3_least wsX3_least false G A) {f_n : Int32} {f_boths : (Nat → Int64)} {f_ternary : (Nat → Int32)} {x1 : Int32} {x2 : Int32} {yy : (Int32 × Int32) ⊕ (Int32)} (hm : m_X3_least_B4 f_n f_boths f_ternary x1 x2 = some yy) (kl : ∀ (x1 : Int32) (x2 : Int32), yy = .inl (x1, x2) → ∀ (H : Heap) (locs : List Loc) (ls : Array Slot), gk_H G A s [(a0, .inr (2, [.int f_n, .ref a1, .ref a2])), (a1, gk_J G 64 f_boths), (a2, gk_I G 64 f_ternary)] H locs → lv_has ls 5 [(0, .ref a0), (1, .int x1), (2, .int x2)] → W p l e rm_X3_least s m args below meth c H locs 0 0 Q (F0 m 4 ls [])) (kx : ∀ (x1 : Int32), yy = .inr x1 → ∀ (H : Heap) (locs : List Loc) (ls : Array Slot), gk_H G A s [(a0, .inr (2, [.int f_n, .ref a1, .ref a2])), (a1, gk_J G 64 f_boths), (a2, gk_I G 64 f_ternary)] H locs → lv_has ls 5 [(1, .int x1)] → W p l e rm_X3_least s m args below meth c H locs 0 0 Q (F0 m 71 ls [])) {H : Heap} {locs : List Loc} {ls : Array Slot} (h : gk_H G A s [(a0, .inr (2, [.int f_n, .ref a1, .ref a2])), (a1, gk_J G 64 f_boths), (a2, gk_I G 64 f_ternary)] H locs) (hl : lv_has ls 5 [(0, .ref a0), (1, .int x1), (2, .int x2)]) : W p l e rm_X3_least s m args below meth c H locs 0 0 Q (F0 m 4 ls []) := by
  obtain ⟨hx, hb, hml, hr, hown, hnm, hts, hlk, hK, hSt, hA⟩ := id C
  obtain ⟨hP, hD, hS⟩ := h
  unfold m_X3_least_B4 at hm
  refine lv_iload_n hx hb dX3_least_4 rfl (lv_at hl 2 rfl) ?_
  refine lv_iconst (v := 1) hx hb dX3_least_5 (by decide) ?_
  refine lv_aload_n hx hb dX3_least_6 rfl (lv_at hl 0 rfl) ?_
  refine va_get (D := G.1) (cl := vwCl) (own := RX3) (ref := "ExchangeFamilies$Sums") (ci := 2) (v := .int f_n) (C := RX3) (T := TX3) (N := 3) hx hb hts k_X3_least_0 hown hK hP 0 rfl rfl 0 (by decide) (hts _ k_X3_least_1) (fun _ h9 => h9) rfl dX3_least_7 ?_
  refine lv_ishl hx hb dX3_least_10 ?_
  refine lv_icmp_ge (tgt := 71) hx hb dX3_least_11 (by decide) (fun c6 => ?_) (fun c6 => ?_)
  · have hm := gk_it c6 hm
    exact kx _ (Option.some.inj hm).symm _ _ _ ⟨hP, hD, hS⟩ (lv_sub hl [1] rfl)
  · have hm := gk_if c6 hm
    refine lv_iconst (v := 0) hx hb dX3_least_14 (by decide) ?_
    refine lv_istore_n (lv' := [(3, .int (0 : Int32)), (0, .ref a0), (1, .int x1), (2, .int x2)]) hx hb dX3_least_15 rfl hl (by decide) rfl (fun ls hl => ?_)
    obtain ⟨e12, hq, hm⟩ := gk_bd1_some hm
    refine w_X3_least_L16 C hq (fun H locs ls h hl => ?_) ⟨hP, hD, hS⟩ (lv_sub hl [1, 2, 3, 0] rfl)
    obtain ⟨hP, hD, hS⟩ := h
    refine lv_iinc (v := x2 + 1) (lv' := [(2, .int (x2 + 1)), (0, .ref a0), (1, .int e12)]) hx hb dX3_least_65 hl (k := 2) rfl rfl (by decide) rfl (fun ls hl => ?_)
    refine lv_goto (tgt := 4) hx hb dX3_least_68 (by decide) ?_
    exact kl _ _ (Option.some.inj hm).symm _ _ _ ⟨hP, hD, hS⟩ (lv_sub hl [1, 2, 0] rfl)
set_option maxRecDepth 100000 in
set_option maxHeartbeats 4000000 in
theorem w_X3_least_L4 {p : Program} {l : Launch} {e : Env} {s : State} {m : MethodId} {args : Array Value} {below : List Frame} {meth : Method} {c : Code} {G : gk_G} {A : Nat → Prop} {Q : State → Prop} {a0 a1 a2 : Nat} (C : gk_C p s m args meth c cX3_least 5 (some .int) yX3_least wsX3_least false G A) {f_n : Int32} {f_boths : (Nat → Int64)} {f_ternary : (Nat → Int32)} {x1 : Int32} {x2 : Int32} {k : Nat} {e_x1 : Int32} (hm : gk_lp (fun z => m_X3_least_B4 f_n f_boths f_ternary z.1 z.2) k (x1, x2) = some e_x1) (kx : ∀ (H : Heap) (locs : List Loc) (ls : Array Slot), gk_H G A s [(a0, .inr (2, [.int f_n, .ref a1, .ref a2])), (a1, gk_J G 64 f_boths), (a2, gk_I G 64 f_ternary)] H locs → lv_has ls 5 [(1, .int e_x1)] → W p l e rm_X3_least s m args below meth c H locs 0 0 Q (F0 m 71 ls [])) {H : Heap} {locs : List Loc} {ls : Array Slot} (h : gk_H G A s [(a0, .inr (2, [.int f_n, .ref a1, .ref a2])), (a1, gk_J G 64 f_boths), (a2, gk_I G 64 f_ternary)] H locs) (hl : lv_has ls 5 [(0, .ref a0), (1, .int x1), (2, .int x2)]) : W p l e rm_X3_least s m args below meth c H locs 0 0 Q (F0 m 4 ls []) :=
  gk_lp_some (P := fun z => ∀ (H : Heap) (locs : List Loc) (ls : Array Slot), gk_H G A s [(a0, .inr (2, [.int f_n, .ref a1, .ref a2])), (a1, gk_J G 64 f_boths), (a2, gk_I G 64 f_ternary)] H locs → lv_has ls 5 [(0, .ref a0), (1, .int z.1), (2, .int z.2)] → W p l e rm_X3_least s m args below meth c H locs 0 0 Q (F0 m 4 ls [])) (E := fun r => (∀ (x1 : Int32), r = x1 → ∀ (H : Heap) (locs : List Loc) (ls : Array Slot), gk_H G A s [(a0, .inr (2, [.int f_n, .ref a1, .ref a2])), (a1, gk_J G 64 f_boths), (a2, gk_I G 64 f_ternary)] H locs → lv_has ls 5 [(1, .int x1)] → W p l e rm_X3_least s m args below meth c H locs 0 0 Q (F0 m 71 ls []))) (fun z x hf kl ke H locs ls h hl => w_X3_least_B4 C hf (fun v0 v1 ez => kl (v0, v1) ez) (fun v0 ez => ke _ ez v0 rfl) h hl) k (x1, x2) _ hm (fun v0 ez => (by cases ez; exact kx)) _ _ _ h hl
def m_X3_least_0 (f_n : Int32) (f_boths : (Nat → Int64)) (f_ternary : (Nat → Int32)) : Option (Int32) := gk_bd1 (gk_lp (fun z => m_X3_least_B4 f_n f_boths f_ternary z.1 z.2) gk_fu ((-1 : Int32), (0 : Int32))) (fun e13 => some e13)
set_option maxRecDepth 100000 in
set_option maxHeartbeats 4000000 in
theorem w_X3_least_0 {p : Program} {l : Launch} {e : Env} {s : State} {m : MethodId} {args : Array Value} {below : List Frame} {meth : Method} {c : Code} {G : gk_G} {A : Nat → Prop} {Q : State → Prop} {a0 a1 a2 : Nat} (C : gk_C p s m args meth c cX3_least 5 (some .int) yX3_least wsX3_least false G A) {f_n : Int32} {f_boths : (Nat → Int64)} {f_ternary : (Nat → Int32)} {yy : Int32} (hm : m_X3_least_0 f_n f_boths f_ternary = some yy) (kr : ∀ (rv : Int32), yy = rv → Q = MQ below (gk_Q G (some (.int rv)) [(a0, .inr (2, [.int f_n, .ref a1, .ref a2])), (a1, gk_J G 64 f_boths), (a2, gk_I G 64 f_ternary)] A) args s 0 0 A) {H : Heap} {locs : List Loc} {ls : Array Slot} (h : gk_H G A s [(a0, .inr (2, [.int f_n, .ref a1, .ref a2])), (a1, gk_J G 64 f_boths), (a2, gk_I G 64 f_ternary)] H locs) (hl : lv_has ls 5 [(0, .ref a0)]) : W p l e rm_X3_least s m args below meth c H locs 0 0 Q (F0 m 0 ls []) := by
  obtain ⟨hx, hb, hml, hr, hown, hnm, hts, hlk, hK, hSt, hA⟩ := id C
  obtain ⟨hP, hD, hS⟩ := h
  unfold m_X3_least_0 at hm
  refine lv_iconst (v := -1) hx hb dX3_least_0 (by decide) ?_
  refine lv_istore_n (lv' := [(1, .int (-1 : Int32)), (0, .ref a0)]) hx hb dX3_least_1 rfl hl (by decide) rfl (fun ls hl => ?_)
  refine lv_iconst (v := 0) hx hb dX3_least_2 (by decide) ?_
  refine lv_istore_n (lv' := [(2, .int (0 : Int32)), (1, .int (-1 : Int32)), (0, .ref a0)]) hx hb dX3_least_3 rfl hl (by decide) rfl (fun ls hl => ?_)
  obtain ⟨e13, hq, hm⟩ := gk_bd1_some hm
  refine w_X3_least_L4 C hq (fun H locs ls h hl => ?_) ⟨hP, hD, hS⟩ (lv_sub hl [2, 1, 0] rfl)
  obtain ⟨hP, hD, hS⟩ := h
  refine lv_iload_n hx hb dX3_least_71 rfl (lv_at hl 0 rfl) ?_
  rw [kr _ (Option.some.inj hm).symm]
  exact gk_iret C ⟨hP, hD, hS⟩ dX3_least_72
def m_X3_least (f_n : Int32) (f_boths : (Nat → Int64)) (f_ternary : (Nat → Int32)) : Option (Int32) := m_X3_least_0 f_n f_boths f_ternary
theorem c_X3_least (l : Launch) (G : gk_G) (a0 a1 a2 : Nat) (f_n : Int32) (f_boths : (Nat → Int64)) (f_ternary : (Nat → Int32)) {rv : Int32} (hm : m_X3_least f_n f_boths f_ternary = some rv) : gk_M l yX3_least wsX3_least rm_X3_least false G [.ref a0] [(a0, .inr (2, [.int f_n, .ref a1, .ref a2])), (a1, gk_J G 64 f_boths), (a2, gk_I G 64 f_ternary)] (some (.int rv)) [(a0, .inr (2, [.int f_n, .ref a1, .ref a2])), (a1, gk_J G 64 f_boths), (a2, gk_I G 64 f_ternary)] :=
  gk_of (by decide) rfl (Nat.le_of_ble_eq_true rfl) (fun p e s m below meth c A ls C h hl => w_X3_least_0 C hm (fun v0 ez => by cases ez; rfl) h (show lv_has ls 5 [(0, .ref a0)] from hl))

/-! ===== ExchangeFamilies.Sums.greatest()I ===== -/
abbrev rm_X3_greatest : Room := { frames := 5, cells := 0, slots := 0, locals := 236 }
theorem k_X3_greatest_0 : ∀ w ∈ u_ws RX3 TX3 3, w ∈ wsX3_greatest := by decide +kernel
theorem k_X3_greatest_1 : Cond.fieldLink RX3 9 "ExchangeFamilies$Sums" "n" "I" ∈ wsX3_greatest := by decide +kernel
theorem k_X3_greatest_2 : Cond.fieldLink RX3 19 "ExchangeFamilies$Sums" "ternary" "[I" ∈ wsX3_greatest := by decide +kernel
theorem k_X3_greatest_3 : Cond.methodLink RX3 53 Lib.Math.max.name ∈ wsX3_greatest := by decide +kernel
theorem k_X3_greatest_4 : Cond.static Lib.Math.max.name ∈ wsX3_greatest := by decide +kernel
theorem k_X3_greatest_5 : Cond.initialized "java/lang/Math" ∈ wsX3_greatest := by decide +kernel
theorem k_X3_greatest_6 : Cond.code Lib.Math.max.name Lib.Math.max.code 2 (some .int) ∈ wsX3_greatest := by decide +kernel
def m_X3_greatest_B16 (f_n : Int32) (f_boths : (Nat → Int64)) (f_ternary : (Nat → Int32)) (x2 : Int32) (x1 : Int32) (x3 : Int32) : Option ((Int32 × Int32) ⊕ (Int32)) := (if x2 < x3 then some (.inr x1) else gk_bd1 (m_X3_holdsRow f_boths x2 x3) (fun r6 => (if r6 = (0 : Int32) then some (.inl (x1, x3 + 1)) else gk_ix x2 64 (gk_ix x3 64 (some (.inl (if x1 < ((f_ternary x2.toNatClampNeg) + (f_ternary x3.toNatClampNeg)) then ((f_ternary x2.toNatClampNeg) + (f_ternary x3.toNatClampNeg)) else x1, x3 + 1)))))))
set_option maxRecDepth 100000 in
set_option maxHeartbeats 4000000 in
theorem w_X3_greatest_B16 {p : Program} {l : Launch} {e : Env} {s : State} {m : MethodId} {args : Array Value} {below : List Frame} {meth : Method} {c : Code} {G : gk_G} {A : Nat → Prop} {Q : State → Prop} {a0 a1 a2 : Nat} (C : gk_C p s m args meth c cX3_greatest 4 (some .int) yX3_greatest wsX3_greatest false G A) {f_n : Int32} {f_boths : (Nat → Int64)} {f_ternary : (Nat → Int32)} {x2 : Int32} {x1 : Int32} {x3 : Int32} {yy : (Int32 × Int32) ⊕ (Int32)} (hm : m_X3_greatest_B16 f_n f_boths f_ternary x2 x1 x3 = some yy) (kl : ∀ (x1 : Int32) (x3 : Int32), yy = .inl (x1, x3) → ∀ (H : Heap) (locs : List Loc) (ls : Array Slot), gk_H G A s [(a0, .inr (2, [.int f_n, .ref a1, .ref a2])), (a1, gk_J G 64 f_boths), (a2, gk_I G 64 f_ternary)] H locs → lv_has ls 4 [(0, .ref a0), (1, .int x1), (2, .int x2), (3, .int x3)] → W p l e rm_X3_greatest s m args below meth c H locs 0 0 Q (F0 m 16 ls [])) (kx : ∀ (x1 : Int32), yy = .inr x1 → ∀ (H : Heap) (locs : List Loc) (ls : Array Slot), gk_H G A s [(a0, .inr (2, [.int f_n, .ref a1, .ref a2])), (a1, gk_J G 64 f_boths), (a2, gk_I G 64 f_ternary)] H locs → lv_has ls 4 [(0, .ref a0), (1, .int x1), (2, .int x2)] → W p l e rm_X3_greatest s m args below meth c H locs 0 0 Q (F0 m 54 ls [])) {H : Heap} {locs : List Loc} {ls : Array Slot} (h : gk_H G A s [(a0, .inr (2, [.int f_n, .ref a1, .ref a2])), (a1, gk_J G 64 f_boths), (a2, gk_I G 64 f_ternary)] H locs) (hl : lv_has ls 4 [(0, .ref a0), (1, .int x1), (2, .int x2), (3, .int x3)]) : W p l e rm_X3_greatest s m args below meth c H locs 0 0 Q (F0 m 16 ls []) := by
  obtain ⟨hx, hb, hml, hr, hown, hnm, hts, hlk, hK, hSt, hA⟩ := id C
  obtain ⟨hP, hD, hS⟩ := h
  unfold m_X3_greatest_B16 at hm
  refine lv_iload_n hx hb dX3_greatest_16 rfl (lv_at hl 3 rfl) ?_
  refine lv_iload_n hx hb dX3_greatest_17 rfl (lv_at hl 2 rfl) ?_
  refine lv_icmp_gt (tgt := 54) hx hb dX3_greatest_18 (by decide) (fun c5 => ?_) (fun c5 => ?_)
  · have hm := gk_it c5 hm
    exact kx _ (Option.some.inj hm).symm _ _ _ ⟨hP, hD, hS⟩ (lv_sub hl [0, 1, 2] rfl)
  · have hm := gk_if c5 hm
    refine lv_aload_n hx hb dX3_greatest_21 rfl (lv_at hl 0 rfl) ?_
    refine lv_iload_n hx hb dX3_greatest_22 rfl (lv_at hl 2 rfl) ?_
    refine lv_iload_n hx hb dX3_greatest_23 rfl (lv_at hl 3 rfl) ?_
    obtain ⟨r6, hq, hm⟩ := gk_bd1_some hm
    refine gk_callV (n := 2) (bytes := cX3_holdsRow) (maxL := 3) (ret := (some .boolean)) (Cn := RX3) (T := TX3) (N := 3) [(a2, gk_I G 64 f_ternary)] [(a0, .inr (2, [.int f_n, .ref a1, .ref a2])), (a1, gk_J G 64 f_boths), (a2, gk_I G 64 f_ternary)] [] C ⟨hP, hD, hS⟩ (c_X3_holdsRow l G a0 a1 a2 f_n f_boths x2 x3 hq) gX3_greatest_X3_holdsRow dX3_greatest_24 hl.1 [0, 1] [2] [1, 2, 0] rfl rfl ⟨rfl, rfl⟩ ⟨Nat.le_of_ble_eq_true rfl, Nat.le_of_ble_eq_true rfl⟩ ⟨rfl, by decide +kernel, by decide +kernel, by decide +kernel⟩ rfl (fun h => by cases h) (Nat.le_of_ble_eq_true rfl) rfl rfl rfl rfl (by decide) rfl rfl (fun H locs h => ?_)
    obtain ⟨hP, hD, hS⟩ := h
    refine lv_if_eq (tgt := 48) hx hb dX3_greatest_27 (by decide) (fun c7 => ?_) (fun c7 => ?_)
    · have hm := gk_it c7 hm
      refine lv_iinc (v := x3 + 1) (lv' := [(3, .int (x3 + 1)), (0, .ref a0), (1, .int x1), (2, .int x2)]) hx hb dX3_greatest_48 hl (k := 3) rfl rfl (by decide) rfl (fun ls hl => ?_)
      refine lv_goto (tgt := 16) hx hb dX3_greatest_51 (by decide) ?_
      exact kl _ _ (Option.some.inj hm).symm _ _ _ ⟨hP, hD, hS⟩ (lv_sub hl [1, 2, 3, 0] rfl)
    · have hm := gk_if c7 hm
      refine lv_iload_n hx hb dX3_greatest_30 rfl (lv_at hl 1 rfl) ?_
      refine lv_aload_n hx hb dX3_greatest_31 rfl (lv_at hl 0 rfl) ?_
      refine va_get (D := G.1) (cl := vwCl) (own := RX3) (ref := "ExchangeFamilies$Sums") (ci := 2) (v := .ref a2) (C := RX3) (T := TX3) (N := 3) hx hb hts k_X3_greatest_0 hown hK hP 0 rfl rfl 2 (by decide) (hts _ k_X3_greatest_2) (fun _ h9 => h9) rfl dX3_greatest_32 ?_
      refine lv_iload_n hx hb dX3_greatest_35 rfl (lv_at hl 2 rfl) ?_
      obtain ⟨hi, hm⟩ := gk_ix_some hm
      refine va_iald hx hb hK hP 2 0 rfl rfl hi dX3_greatest_36 ?_
      refine lv_aload_n hx hb dX3_greatest_37 rfl (lv_at hl 0 rfl) ?_
      refine va_get (D := G.1) (cl := vwCl) (own := RX3) (ref := "ExchangeFamilies$Sums") (ci := 2) (v := .ref a2) (C := RX3) (T := TX3) (N := 3) hx hb hts k_X3_greatest_0 hown hK hP 0 rfl rfl 2 (by decide) (hts _ k_X3_greatest_2) (fun _ h9 => h9) rfl dX3_greatest_38 ?_
      refine lv_iload_n hx hb dX3_greatest_41 rfl (lv_at hl 3 rfl) ?_
      obtain ⟨hi, hm⟩ := gk_ix_some hm
      refine va_iald hx hb hK hP 2 0 rfl rfl hi dX3_greatest_42 ?_
      refine lv_iadd hx hb dX3_greatest_43 ?_
      refine va_mmax (own := RX3) hx hb (by rw [hml]; exact hl.1.symm) hown (hts _ k_X3_greatest_3) (hts _ k_X3_greatest_4) (hts _ k_X3_greatest_5) (hts _ k_X3_greatest_6) (Nat.le_of_ble_eq_true rfl) (Nat.le_of_ble_eq_true rfl) (Nat.zero_le _) (Nat.zero_le _) dX3_greatest_44 ?_
      refine lv_istore_n (lv' := [(1, .int (if x1 < ((f_ternary x2.toNatClampNeg) + (f_ternary x3.toNatClampNeg)) then ((f_ternary x2.toNatClampNeg) + (f_ternary x3.toNatClampNeg)) else x1)), (0, .ref a0), (2, .int x2), (3, .int x3)]) hx hb dX3_greatest_47 rfl hl (by decide) rfl (fun ls hl => ?_)
      refine lv_iinc (v := x3 + 1) (lv' := [(3, .int (x3 + 1)), (1, .int (if x1 < ((f_ternary x2.toNatClampNeg) + (f_ternary x3.toNatClampNeg)) then ((f_ternary x2.toNatClampNeg) + (f_ternary x3.toNatClampNeg)) else x1)), (0, .ref a0), (2, .int x2)]) hx hb dX3_greatest_48 hl (k := 3) rfl rfl (by decide) rfl (fun ls hl => ?_)
      refine lv_goto (tgt := 16) hx hb dX3_greatest_51 (by decide) ?_
      exact kl _ _ (Option.some.inj hm).symm _ _ _ ⟨hP, hD, hS⟩ (lv_sub hl [2, 1, 3, 0] rfl)
set_option maxRecDepth 100000 in
set_option maxHeartbeats 4000000 in
theorem w_X3_greatest_L16 {p : Program} {l : Launch} {e : Env} {s : State} {m : MethodId} {args : Array Value} {below : List Frame} {meth : Method} {c : Code} {G : gk_G} {A : Nat → Prop} {Q : State → Prop} {a0 a1 a2 : Nat} (C : gk_C p s m args meth c cX3_greatest 4 (some .int) yX3_greatest wsX3_greatest false G A) {f_n : Int32} {f_boths : (Nat → Int64)} {f_ternary : (Nat → Int32)} {x2 : Int32} {x1 : Int32} {x3 : Int32} {k : Nat} {e_x1 : Int32} (hm : gk_lp (fun z => m_X3_greatest_B16 f_n f_boths f_ternary x2 z.1 z.2) k (x1, x3) = some e_x1) (kx : ∀ (H : Heap) (locs : List Loc) (ls : Array Slot), gk_H G A s [(a0, .inr (2, [.int f_n, .ref a1, .ref a2])), (a1, gk_J G 64 f_boths), (a2, gk_I G 64 f_ternary)] H locs → lv_has ls 4 [(0, .ref a0), (1, .int e_x1), (2, .int x2)] → W p l e rm_X3_greatest s m args below meth c H locs 0 0 Q (F0 m 54 ls [])) {H : Heap} {locs : List Loc} {ls : Array Slot} (h : gk_H G A s [(a0, .inr (2, [.int f_n, .ref a1, .ref a2])), (a1, gk_J G 64 f_boths), (a2, gk_I G 64 f_ternary)] H locs) (hl : lv_has ls 4 [(0, .ref a0), (1, .int x1), (2, .int x2), (3, .int x3)]) : W p l e rm_X3_greatest s m args below meth c H locs 0 0 Q (F0 m 16 ls []) :=
  gk_lp_some (P := fun z => ∀ (H : Heap) (locs : List Loc) (ls : Array Slot), gk_H G A s [(a0, .inr (2, [.int f_n, .ref a1, .ref a2])), (a1, gk_J G 64 f_boths), (a2, gk_I G 64 f_ternary)] H locs → lv_has ls 4 [(0, .ref a0), (1, .int z.1), (2, .int x2), (3, .int z.2)] → W p l e rm_X3_greatest s m args below meth c H locs 0 0 Q (F0 m 16 ls [])) (E := fun r => (∀ (x1 : Int32), r = x1 → ∀ (H : Heap) (locs : List Loc) (ls : Array Slot), gk_H G A s [(a0, .inr (2, [.int f_n, .ref a1, .ref a2])), (a1, gk_J G 64 f_boths), (a2, gk_I G 64 f_ternary)] H locs → lv_has ls 4 [(0, .ref a0), (1, .int x1), (2, .int x2)] → W p l e rm_X3_greatest s m args below meth c H locs 0 0 Q (F0 m 54 ls []))) (fun z x hf kl ke H locs ls h hl => w_X3_greatest_B16 C hf (fun v0 v1 ez => kl (v0, v1) ez) (fun v0 ez => ke _ ez v0 rfl) h hl) k (x1, x3) _ hm (fun v0 ez => (by cases ez; exact kx)) _ _ _ h hl
def m_X3_greatest_B4 (f_n : Int32) (f_boths : (Nat → Int64)) (f_ternary : (Nat → Int32)) (x1 : Int32) (x2 : Int32) : Option ((Int32 × Int32) ⊕ (Int32)) := (if ((1 : Int32) <<< (f_n &&& 31)) ≤ x2 then some (.inr x1) else gk_bd1 (gk_lp (fun z => m_X3_greatest_B16 f_n f_boths f_ternary x2 z.1 z.2) gk_fu (x1, (0 : Int32))) (fun e8 => some (.inl (e8, x2 + 1))))
set_option maxRecDepth 100000 in
set_option maxHeartbeats 4000000 in
theorem w_X3_greatest_B4 {p : Program} {l : Launch} {e : Env} {s : State} {m : MethodId} {args : Array Value} {below : List Frame} {meth : Method} {c : Code} {G : gk_G} {A : Nat → Prop} {Q : State → Prop} {a0 a1 a2 : Nat} (C : gk_C p s m args meth c cX3_greatest 4 (some .int) yX3_greatest wsX3_greatest false G A) {f_n : Int32} {f_boths : (Nat → Int64)} {f_ternary : (Nat → Int32)} {x1 : Int32} {x2 : Int32} {yy : (Int32 × Int32) ⊕ (Int32)} (hm : m_X3_greatest_B4 f_n f_boths f_ternary x1 x2 = some yy) (kl : ∀ (x1 : Int32) (x2 : Int32), yy = .inl (x1, x2) → ∀ (H : Heap) (locs : List Loc) (ls : Array Slot), gk_H G A s [(a0, .inr (2, [.int f_n, .ref a1, .ref a2])), (a1, gk_J G 64 f_boths), (a2, gk_I G 64 f_ternary)] H locs → lv_has ls 4 [(0, .ref a0), (1, .int x1), (2, .int x2)] → W p l e rm_X3_greatest s m args below meth c H locs 0 0 Q (F0 m 4 ls [])) (kx : ∀ (x1 : Int32), yy = .inr x1 → ∀ (H : Heap) (locs : List Loc) (ls : Array Slot), gk_H G A s [(a0, .inr (2, [.int f_n, .ref a1, .ref a2])), (a1, gk_J G 64 f_boths), (a2, gk_I G 64 f_ternary)] H locs → lv_has ls 4 [(1, .int x1)] → W p l e rm_X3_greatest s m args below meth c H locs 0 0 Q (F0 m 60 ls [])) {H : Heap} {locs : List Loc} {ls : Array Slot} (h : gk_H G A s [(a0, .inr (2, [.int f_n, .ref a1, .ref a2])), (a1, gk_J G 64 f_boths), (a2, gk_I G 64 f_ternary)] H locs) (hl : lv_has ls 4 [(0, .ref a0), (1, .int x1), (2, .int x2)]) : W p l e rm_X3_greatest s m args below meth c H locs 0 0 Q (F0 m 4 ls []) := by
  obtain ⟨hx, hb, hml, hr, hown, hnm, hts, hlk, hK, hSt, hA⟩ := id C
  obtain ⟨hP, hD, hS⟩ := h
  unfold m_X3_greatest_B4 at hm
  refine lv_iload_n hx hb dX3_greatest_4 rfl (lv_at hl 2 rfl) ?_
  refine lv_iconst (v := 1) hx hb dX3_greatest_5 (by decide) ?_
  refine lv_aload_n hx hb dX3_greatest_6 rfl (lv_at hl 0 rfl) ?_
  refine va_get (D := G.1) (cl := vwCl) (own := RX3) (ref := "ExchangeFamilies$Sums") (ci := 2) (v := .int f_n) (C := RX3) (T := TX3) (N := 3) hx hb hts k_X3_greatest_0 hown hK hP 0 rfl rfl 0 (by decide) (hts _ k_X3_greatest_1) (fun _ h9 => h9) rfl dX3_greatest_7 ?_
  refine lv_ishl hx hb dX3_greatest_10 ?_
  refine lv_icmp_ge (tgt := 60) hx hb dX3_greatest_11 (by decide) (fun c4 => ?_) (fun c4 => ?_)
  · have hm := gk_it c4 hm
    exact kx _ (Option.some.inj hm).symm _ _ _ ⟨hP, hD, hS⟩ (lv_sub hl [1] rfl)
  · have hm := gk_if c4 hm
    refine lv_iconst (v := 0) hx hb dX3_greatest_14 (by decide) ?_
    refine lv_istore_n (lv' := [(3, .int (0 : Int32)), (0, .ref a0), (1, .int x1), (2, .int x2)]) hx hb dX3_greatest_15 rfl hl (by decide) rfl (fun ls hl => ?_)
    obtain ⟨e8, hq, hm⟩ := gk_bd1_some hm
    refine w_X3_greatest_L16 C hq (fun H locs ls h hl => ?_) ⟨hP, hD, hS⟩ (lv_sub hl [1, 2, 3, 0] rfl)
    obtain ⟨hP, hD, hS⟩ := h
    refine lv_iinc (v := x2 + 1) (lv' := [(2, .int (x2 + 1)), (0, .ref a0), (1, .int e8)]) hx hb dX3_greatest_54 hl (k := 2) rfl rfl (by decide) rfl (fun ls hl => ?_)
    refine lv_goto (tgt := 4) hx hb dX3_greatest_57 (by decide) ?_
    exact kl _ _ (Option.some.inj hm).symm _ _ _ ⟨hP, hD, hS⟩ (lv_sub hl [1, 2, 0] rfl)
set_option maxRecDepth 100000 in
set_option maxHeartbeats 4000000 in
theorem w_X3_greatest_L4 {p : Program} {l : Launch} {e : Env} {s : State} {m : MethodId} {args : Array Value} {below : List Frame} {meth : Method} {c : Code} {G : gk_G} {A : Nat → Prop} {Q : State → Prop} {a0 a1 a2 : Nat} (C : gk_C p s m args meth c cX3_greatest 4 (some .int) yX3_greatest wsX3_greatest false G A) {f_n : Int32} {f_boths : (Nat → Int64)} {f_ternary : (Nat → Int32)} {x1 : Int32} {x2 : Int32} {k : Nat} {e_x1 : Int32} (hm : gk_lp (fun z => m_X3_greatest_B4 f_n f_boths f_ternary z.1 z.2) k (x1, x2) = some e_x1) (kx : ∀ (H : Heap) (locs : List Loc) (ls : Array Slot), gk_H G A s [(a0, .inr (2, [.int f_n, .ref a1, .ref a2])), (a1, gk_J G 64 f_boths), (a2, gk_I G 64 f_ternary)] H locs → lv_has ls 4 [(1, .int e_x1)] → W p l e rm_X3_greatest s m args below meth c H locs 0 0 Q (F0 m 60 ls [])) {H : Heap} {locs : List Loc} {ls : Array Slot} (h : gk_H G A s [(a0, .inr (2, [.int f_n, .ref a1, .ref a2])), (a1, gk_J G 64 f_boths), (a2, gk_I G 64 f_ternary)] H locs) (hl : lv_has ls 4 [(0, .ref a0), (1, .int x1), (2, .int x2)]) : W p l e rm_X3_greatest s m args below meth c H locs 0 0 Q (F0 m 4 ls []) :=
  gk_lp_some (P := fun z => ∀ (H : Heap) (locs : List Loc) (ls : Array Slot), gk_H G A s [(a0, .inr (2, [.int f_n, .ref a1, .ref a2])), (a1, gk_J G 64 f_boths), (a2, gk_I G 64 f_ternary)] H locs → lv_has ls 4 [(0, .ref a0), (1, .int z.1), (2, .int z.2)] → W p l e rm_X3_greatest s m args below meth c H locs 0 0 Q (F0 m 4 ls [])) (E := fun r => (∀ (x1 : Int32), r = x1 → ∀ (H : Heap) (locs : List Loc) (ls : Array Slot), gk_H G A s [(a0, .inr (2, [.int f_n, .ref a1, .ref a2])), (a1, gk_J G 64 f_boths), (a2, gk_I G 64 f_ternary)] H locs → lv_has ls 4 [(1, .int x1)] → W p l e rm_X3_greatest s m args below meth c H locs 0 0 Q (F0 m 60 ls []))) (fun z x hf kl ke H locs ls h hl => w_X3_greatest_B4 C hf (fun v0 v1 ez => kl (v0, v1) ez) (fun v0 ez => ke _ ez v0 rfl) h hl) k (x1, x2) _ hm (fun v0 ez => (by cases ez; exact kx)) _ _ _ h hl
def m_X3_greatest_0 (f_n : Int32) (f_boths : (Nat → Int64)) (f_ternary : (Nat → Int32)) : Option (Int32) := gk_bd1 (gk_lp (fun z => m_X3_greatest_B4 f_n f_boths f_ternary z.1 z.2) gk_fu ((-1 : Int32), (0 : Int32))) (fun e9 => some e9)
set_option maxRecDepth 100000 in
set_option maxHeartbeats 4000000 in
theorem w_X3_greatest_0 {p : Program} {l : Launch} {e : Env} {s : State} {m : MethodId} {args : Array Value} {below : List Frame} {meth : Method} {c : Code} {G : gk_G} {A : Nat → Prop} {Q : State → Prop} {a0 a1 a2 : Nat} (C : gk_C p s m args meth c cX3_greatest 4 (some .int) yX3_greatest wsX3_greatest false G A) {f_n : Int32} {f_boths : (Nat → Int64)} {f_ternary : (Nat → Int32)} {yy : Int32} (hm : m_X3_greatest_0 f_n f_boths f_ternary = some yy) (kr : ∀ (rv : Int32), yy = rv → Q = MQ below (gk_Q G (some (.int rv)) [(a0, .inr (2, [.int f_n, .ref a1, .ref a2])), (a1, gk_J G 64 f_boths), (a2, gk_I G 64 f_ternary)] A) args s 0 0 A) {H : Heap} {locs : List Loc} {ls : Array Slot} (h : gk_H G A s [(a0, .inr (2, [.int f_n, .ref a1, .ref a2])), (a1, gk_J G 64 f_boths), (a2, gk_I G 64 f_ternary)] H locs) (hl : lv_has ls 4 [(0, .ref a0)]) : W p l e rm_X3_greatest s m args below meth c H locs 0 0 Q (F0 m 0 ls []) := by
  obtain ⟨hx, hb, hml, hr, hown, hnm, hts, hlk, hK, hSt, hA⟩ := id C
  obtain ⟨hP, hD, hS⟩ := h
  unfold m_X3_greatest_0 at hm
  refine lv_iconst (v := -1) hx hb dX3_greatest_0 (by decide) ?_
  refine lv_istore_n (lv' := [(1, .int (-1 : Int32)), (0, .ref a0)]) hx hb dX3_greatest_1 rfl hl (by decide) rfl (fun ls hl => ?_)
  refine lv_iconst (v := 0) hx hb dX3_greatest_2 (by decide) ?_
  refine lv_istore_n (lv' := [(2, .int (0 : Int32)), (1, .int (-1 : Int32)), (0, .ref a0)]) hx hb dX3_greatest_3 rfl hl (by decide) rfl (fun ls hl => ?_)
  obtain ⟨e9, hq, hm⟩ := gk_bd1_some hm
  refine w_X3_greatest_L4 C hq (fun H locs ls h hl => ?_) ⟨hP, hD, hS⟩ (lv_sub hl [2, 1, 0] rfl)
  obtain ⟨hP, hD, hS⟩ := h
  refine lv_iload_n hx hb dX3_greatest_60 rfl (lv_at hl 0 rfl) ?_
  rw [kr _ (Option.some.inj hm).symm]
  exact gk_iret C ⟨hP, hD, hS⟩ dX3_greatest_61
def m_X3_greatest (f_n : Int32) (f_boths : (Nat → Int64)) (f_ternary : (Nat → Int32)) : Option (Int32) := m_X3_greatest_0 f_n f_boths f_ternary
theorem c_X3_greatest (l : Launch) (G : gk_G) (a0 a1 a2 : Nat) (f_n : Int32) (f_boths : (Nat → Int64)) (f_ternary : (Nat → Int32)) {rv : Int32} (hm : m_X3_greatest f_n f_boths f_ternary = some rv) : gk_M l yX3_greatest wsX3_greatest rm_X3_greatest false G [.ref a0] [(a0, .inr (2, [.int f_n, .ref a1, .ref a2])), (a1, gk_J G 64 f_boths), (a2, gk_I G 64 f_ternary)] (some (.int rv)) [(a0, .inr (2, [.int f_n, .ref a1, .ref a2])), (a1, gk_J G 64 f_boths), (a2, gk_I G 64 f_ternary)] :=
  gk_of (by decide) rfl (Nat.le_of_ble_eq_true rfl) (fun p e s m below meth c A ls C h hl => w_X3_greatest_0 C hm (fun v0 ez => by cases ez; rfl) h (show lv_has ls 4 [(0, .ref a0)] from hl))

/-! ===== ExchangeFamilies.Sums.holdsOneWithout(IIII)Z ===== -/
abbrev rm_X3_holdsOneWithout : Room := { frames := 3, cells := 0, slots := 0, locals := 152 }
theorem k_X3_holdsOneWithout_0 : ∀ w ∈ u_ws RX3 TX3 3, w ∈ wsX3_holdsOneWithout := by decide +kernel
theorem k_X3_holdsOneWithout_1 : Cond.fieldLink RX3 9 "ExchangeFamilies$Sums" "n" "I" ∈ wsX3_holdsOneWithout := by decide +kernel
theorem k_X3_holdsOneWithout_2 : Cond.fieldLink RX3 15 "ExchangeFamilies$Sums" "boths" "[J" ∈ wsX3_holdsOneWithout := by decide +kernel
def m_X3_holdsOneWithout_B35 (f_n : Int32) (f_boths : (Nat → Int64)) (x1 : Int32) (x5 : Int32) (x7 : Int64) (x9 : Int32) : Option ((Int32) ⊕ ((Int32) ⊕ (Unit))) := (if ((1 : Int32) <<< (f_n &&& 31)) ≤ x9 then some (.inr (.inr ())) else (if ((x9 ^^^ x1) &&& x5) = (0 : Int32) then gk_ix x9 64 ((if (lg_cmp ((f_boths x9.toNatClampNeg) &&& x7) (0 : Int64)) = (0 : Int32) then some (.inl (x9 + 1)) else some (.inr (.inl (1 : Int32))))) else some (.inl (x9 + 1))))
set_option maxRecDepth 100000 in
set_option maxHeartbeats 4000000 in
theorem w_X3_holdsOneWithout_B35 {p : Program} {l : Launch} {e : Env} {s : State} {m : MethodId} {args : Array Value} {below : List Frame} {meth : Method} {c : Code} {G : gk_G} {A : Nat → Prop} {Q : State → Prop} {a0 a1 a2 : Nat} (C : gk_C p s m args meth c cX3_holdsOneWithout 10 (some .boolean) yX3_holdsOneWithout wsX3_holdsOneWithout true G A) {f_n : Int32} {f_boths : (Nat → Int64)} {x1 : Int32} {x5 : Int32} {x7 : Int64} {x9 : Int32} {yy : (Int32) ⊕ ((Int32) ⊕ (Unit))} (hm : m_X3_holdsOneWithout_B35 f_n f_boths x1 x5 x7 x9 = some yy) (kl : ∀ (x9 : Int32), yy = .inl x9 → ∀ (H : Heap) (locs : List Loc) (ls : Array Slot), gk_H G A s [(a0, .inr (2, [.int f_n, .ref a1, .ref a2])), (a1, gk_J G 64 f_boths)] H locs → lv_has ls 10 [(0, .ref a0), (1, .int x1), (5, .int x5), (7, .long x7), (9, .int x9)] → W p l e rm_X3_holdsOneWithout s m args below meth c H locs 0 0 Q (F0 m 35 ls [])) (kx : yy = .inr (.inr ()) → ∀ (H : Heap) (locs : List Loc) (ls : Array Slot), gk_H G A s [(a0, .inr (2, [.int f_n, .ref a1, .ref a2])), (a1, gk_J G 64 f_boths)] H locs → lv_has ls 10 [] → W p l e rm_X3_holdsOneWithout s m args below meth c H locs 0 0 Q (F0 m 79 ls [])) (kr : ∀ (rv : Int32), yy = .inr (.inl rv) → Q = MQ below (gk_Q G (some (.int rv)) [(a0, .inr (2, [.int f_n, .ref a1, .ref a2])), (a1, gk_J G 64 f_boths)] A) args s 0 0 A) {H : Heap} {locs : List Loc} {ls : Array Slot} (h : gk_H G A s [(a0, .inr (2, [.int f_n, .ref a1, .ref a2])), (a1, gk_J G 64 f_boths)] H locs) (hl : lv_has ls 10 [(0, .ref a0), (1, .int x1), (5, .int x5), (7, .long x7), (9, .int x9)]) : W p l e rm_X3_holdsOneWithout s m args below meth c H locs 0 0 Q (F0 m 35 ls []) := by
  obtain ⟨hx, hb, hml, hr, hown, hnm, hts, hlk, hK, hSt, hA⟩ := id C
  obtain ⟨hP, hD, hS⟩ := h
  unfold m_X3_holdsOneWithout_B35 at hm
  refine lv_iload hx hb dX3_holdsOneWithout_35 (lv_at hl 4 rfl) ?_
  refine lv_iconst (v := 1) hx hb dX3_holdsOneWithout_37 (by decide) ?_
  refine lv_aload_n hx hb dX3_holdsOneWithout_38 rfl (lv_at hl 0 rfl) ?_
  refine va_get (D := G.1) (cl := vwCl) (own := RX3) (ref := "ExchangeFamilies$Sums") (ci := 2) (v := .int f_n) (C := RX3) (T := TX3) (N := 3) hx hb hts k_X3_holdsOneWithout_0 hown hK hP 0 rfl rfl 0 (by decide) (hts _ k_X3_holdsOneWithout_1) (fun _ h9 => h9) rfl dX3_holdsOneWithout_39 ?_
  refine lv_ishl hx hb dX3_holdsOneWithout_42 ?_
  refine lv_icmp_ge (tgt := 79) hx hb dX3_holdsOneWithout_43 (by decide) (fun c5 => ?_) (fun c5 => ?_)
  · have hm := gk_it c5 hm
    exact kx (Option.some.inj hm).symm _ _ _ ⟨hP, hD, hS⟩ (lv_sub hl [] rfl)
  · have hm := gk_if c5 hm
    refine lv_iload hx hb dX3_holdsOneWithout_46 (lv_at hl 4 rfl) ?_
    refine lv_iload_n hx hb dX3_holdsOneWithout_48 rfl (lv_at hl 1 rfl) ?_
    refine lv_ixor hx hb dX3_holdsOneWithout_49 ?_
    refine lv_iload hx hb dX3_holdsOneWithout_50 (lv_at hl 2 rfl) ?_
    refine lv_iand hx hb dX3_holdsOneWithout_52 ?_
    refine lv_if_ne (tgt := 73) hx hb dX3_holdsOneWithout_53 (by decide) (fun c6 => ?_) (fun c6 => ?_)
    · have hm := gk_if c6 hm
      refine lv_iinc (v := x9 + 1) (lv' := [(9, .int (x9 + 1)), (0, .ref a0), (1, .int x1), (5, .int x5), (7, .long x7)]) hx hb dX3_holdsOneWithout_73 hl (k := 4) rfl rfl (by decide) rfl (fun ls hl => ?_)
      refine lv_goto (tgt := 35) hx hb dX3_holdsOneWithout_76 (by decide) ?_
      exact kl _ (Option.some.inj hm).symm _ _ _ ⟨hP, hD, hS⟩ (lv_sub hl [1, 2, 3, 4, 0] rfl)
    · have hm := gk_it c6 hm
      refine lv_aload_n hx hb dX3_holdsOneWithout_56 rfl (lv_at hl 0 rfl) ?_
      refine va_get (D := G.1) (cl := vwCl) (own := RX3) (ref := "ExchangeFamilies$Sums") (ci := 2) (v := .ref a1) (C := RX3) (T := TX3) (N := 3) hx hb hts k_X3_holdsOneWithout_0 hown hK hP 0 rfl rfl 1 (by decide) (hts _ k_X3_holdsOneWithout_2) (fun _ h9 => h9) rfl dX3_holdsOneWithout_57 ?_
      refine lv_iload hx hb dX3_holdsOneWithout_60 (lv_at hl 4 rfl) ?_
      obtain ⟨hi, hm⟩ := gk_ix_some hm
      refine va_lald hx hb hK hP 1 1 rfl rfl hi dX3_holdsOneWithout_62 ?_
      refine lv_lload hx hb dX3_holdsOneWithout_63 (lv_at hl 3 rfl) ?_
      refine lv_land hx hb dX3_holdsOneWithout_65 ?_
      refine lv_lconst (v := 0) hx hb dX3_holdsOneWithout_66 (by decide) ?_
      refine W.lcmp hx hb dX3_holdsOneWithout_67 ?_
      refine lv_if_eq (tgt := 73) hx hb dX3_holdsOneWithout_68 (by decide) (fun c7 => ?_) (fun c7 => ?_)
      · have hm := gk_it c7 hm
        refine lv_iinc (v := x9 + 1) (lv' := [(9, .int (x9 + 1)), (0, .ref a0), (1, .int x1), (5, .int x5), (7, .long x7)]) hx hb dX3_holdsOneWithout_73 hl (k := 4) rfl rfl (by decide) rfl (fun ls hl => ?_)
        refine lv_goto (tgt := 35) hx hb dX3_holdsOneWithout_76 (by decide) ?_
        exact kl _ (Option.some.inj hm).symm _ _ _ ⟨hP, hD, hS⟩ (lv_sub hl [1, 2, 3, 4, 0] rfl)
      · have hm := gk_if c7 hm
        refine lv_iconst (v := 1) hx hb dX3_holdsOneWithout_71 (by decide) ?_
        rw [kr _ (Option.some.inj hm).symm]
        exact gk_zret C ⟨hP, hD, hS⟩ rfl dX3_holdsOneWithout_72
set_option maxRecDepth 100000 in
set_option maxHeartbeats 4000000 in
theorem w_X3_holdsOneWithout_L35 {p : Program} {l : Launch} {e : Env} {s : State} {m : MethodId} {args : Array Value} {below : List Frame} {meth : Method} {c : Code} {G : gk_G} {A : Nat → Prop} {Q : State → Prop} {a0 a1 a2 : Nat} (C : gk_C p s m args meth c cX3_holdsOneWithout 10 (some .boolean) yX3_holdsOneWithout wsX3_holdsOneWithout true G A) {f_n : Int32} {f_boths : (Nat → Int64)} {x1 : Int32} {x5 : Int32} {x7 : Int64} {x9 : Int32} {k : Nat} (hm : gk_lp (fun z => m_X3_holdsOneWithout_B35 f_n f_boths x1 x5 x7 z) k x9 = some (.inr ())) (kx : ∀ (H : Heap) (locs : List Loc) (ls : Array Slot), gk_H G A s [(a0, .inr (2, [.int f_n, .ref a1, .ref a2])), (a1, gk_J G 64 f_boths)] H locs → lv_has ls 10 [] → W p l e rm_X3_holdsOneWithout s m args below meth c H locs 0 0 Q (F0 m 79 ls [])) {H : Heap} {locs : List Loc} {ls : Array Slot} (h : gk_H G A s [(a0, .inr (2, [.int f_n, .ref a1, .ref a2])), (a1, gk_J G 64 f_boths)] H locs) (hl : lv_has ls 10 [(0, .ref a0), (1, .int x1), (5, .int x5), (7, .long x7), (9, .int x9)]) : W p l e rm_X3_holdsOneWithout s m args below meth c H locs 0 0 Q (F0 m 35 ls []) :=
  gk_lp_some (P := fun z => ∀ (H : Heap) (locs : List Loc) (ls : Array Slot), gk_H G A s [(a0, .inr (2, [.int f_n, .ref a1, .ref a2])), (a1, gk_J G 64 f_boths)] H locs → lv_has ls 10 [(0, .ref a0), (1, .int x1), (5, .int x5), (7, .long x7), (9, .int z)] → W p l e rm_X3_holdsOneWithout s m args below meth c H locs 0 0 Q (F0 m 35 ls [])) (E := fun r => (r = .inr () → ∀ (H : Heap) (locs : List Loc) (ls : Array Slot), gk_H G A s [(a0, .inr (2, [.int f_n, .ref a1, .ref a2])), (a1, gk_J G 64 f_boths)] H locs → lv_has ls 10 [] → W p l e rm_X3_holdsOneWithout s m args below meth c H locs 0 0 Q (F0 m 79 ls [])) ∧ (∀ (rv : Int32), r = .inl rv → Q = MQ below (gk_Q G (some (.int rv)) [(a0, .inr (2, [.int f_n, .ref a1, .ref a2])), (a1, gk_J G 64 f_boths)] A) args s 0 0 A)) (fun z x hf kl ke H locs ls h hl => w_X3_holdsOneWithout_B35 C hf (fun v0 ez => kl v0 ez) (fun ez => (ke _ ez).1 rfl) (fun v0 ez => (ke _ ez).2 v0 rfl) h hl) k x9 _ hm (⟨fun ez => (by cases ez; exact kx), fun v0 ez => (by cases ez)⟩) _ _ _ h hl
set_option maxRecDepth 100000 in
set_option maxHeartbeats 4000000 in
theorem w_X3_holdsOneWithout_L35r {p : Program} {l : Launch} {e : Env} {s : State} {m : MethodId} {args : Array Value} {below : List Frame} {meth : Method} {c : Code} {G : gk_G} {A : Nat → Prop} {Q : State → Prop} {a0 a1 a2 : Nat} (C : gk_C p s m args meth c cX3_holdsOneWithout 10 (some .boolean) yX3_holdsOneWithout wsX3_holdsOneWithout true G A) {f_n : Int32} {f_boths : (Nat → Int64)} {x1 : Int32} {x5 : Int32} {x7 : Int64} {x9 : Int32} {k : Nat} {rv : Int32} (hm : gk_lp (fun z => m_X3_holdsOneWithout_B35 f_n f_boths x1 x5 x7 z) k x9 = some (.inl rv)) (kr : Q = MQ below (gk_Q G (some (.int rv)) [(a0, .inr (2, [.int f_n, .ref a1, .ref a2])), (a1, gk_J G 64 f_boths)] A) args s 0 0 A) {H : Heap} {locs : List Loc} {ls : Array Slot} (h : gk_H G A s [(a0, .inr (2, [.int f_n, .ref a1, .ref a2])), (a1, gk_J G 64 f_boths)] H locs) (hl : lv_has ls 10 [(0, .ref a0), (1, .int x1), (5, .int x5), (7, .long x7), (9, .int x9)]) : W p l e rm_X3_holdsOneWithout s m args below meth c H locs 0 0 Q (F0 m 35 ls []) :=
  gk_lp_some (P := fun z => ∀ (H : Heap) (locs : List Loc) (ls : Array Slot), gk_H G A s [(a0, .inr (2, [.int f_n, .ref a1, .ref a2])), (a1, gk_J G 64 f_boths)] H locs → lv_has ls 10 [(0, .ref a0), (1, .int x1), (5, .int x5), (7, .long x7), (9, .int z)] → W p l e rm_X3_holdsOneWithout s m args below meth c H locs 0 0 Q (F0 m 35 ls [])) (E := fun r => (r = .inr () → ∀ (H : Heap) (locs : List Loc) (ls : Array Slot), gk_H G A s [(a0, .inr (2, [.int f_n, .ref a1, .ref a2])), (a1, gk_J G 64 f_boths)] H locs → lv_has ls 10 [] → W p l e rm_X3_holdsOneWithout s m args below meth c H locs 0 0 Q (F0 m 79 ls [])) ∧ (∀ (rv : Int32), r = .inl rv → Q = MQ below (gk_Q G (some (.int rv)) [(a0, .inr (2, [.int f_n, .ref a1, .ref a2])), (a1, gk_J G 64 f_boths)] A) args s 0 0 A)) (fun z x hf kl ke H locs ls h hl => w_X3_holdsOneWithout_B35 C hf (fun v0 ez => kl v0 ez) (fun ez => (ke _ ez).1 rfl) (fun v0 ez => (ke _ ez).2 v0 rfl) h hl) k x9 _ hm (⟨fun ez => (by cases ez), fun v0 ez => (by cases ez; exact kr)⟩) _ _ _ h hl
def m_X3_holdsOneWithout_0 (f_n : Int32) (f_boths : (Nat → Int64)) (x1 : Int32) (x2 : Int32) (x3 : Int32) (x4 : Int32) : Option (Int32) := gk_bd1 (m_X0_likeAt x2 ((x3 &&& (x2 ^^^ (-1 : Int32))) ||| (x4 &&& x2))) (fun r4 => gk_bs0 (gk_lp (fun z => m_X3_holdsOneWithout_B35 f_n f_boths x1 ((x3 &&& (x1 ^^^ (-1 : Int32))) ||| (x4 &&& x1)) r4 z) gk_fu (0 : Int32)) (fun r => some r) (some (0 : Int32)))
set_option maxRecDepth 100000 in
set_option maxHeartbeats 4000000 in
theorem w_X3_holdsOneWithout_0 {p : Program} {l : Launch} {e : Env} {s : State} {m : MethodId} {args : Array Value} {below : List Frame} {meth : Method} {c : Code} {G : gk_G} {A : Nat → Prop} {Q : State → Prop} {a0 a1 a2 : Nat} (C : gk_C p s m args meth c cX3_holdsOneWithout 10 (some .boolean) yX3_holdsOneWithout wsX3_holdsOneWithout true G A) {f_n : Int32} {f_boths : (Nat → Int64)} {x1 : Int32} {x2 : Int32} {x3 : Int32} {x4 : Int32} {yy : Int32} (hm : m_X3_holdsOneWithout_0 f_n f_boths x1 x2 x3 x4 = some yy) (kr : ∀ (rv : Int32), yy = rv → Q = MQ below (gk_Q G (some (.int rv)) [(a0, .inr (2, [.int f_n, .ref a1, .ref a2])), (a1, gk_J G 64 f_boths)] A) args s 0 0 A) {H : Heap} {locs : List Loc} {ls : Array Slot} (h : gk_H G A s [(a0, .inr (2, [.int f_n, .ref a1, .ref a2])), (a1, gk_J G 64 f_boths)] H locs) (hl : lv_has ls 10 [(0, .ref a0), (1, .int x1), (2, .int x2), (3, .int x3), (4, .int x4)]) : W p l e rm_X3_holdsOneWithout s m args below meth c H locs 0 0 Q (F0 m 0 ls []) := by
  obtain ⟨hx, hb, hml, hr, hown, hnm, hts, hlk, hK, hSt, hA⟩ := id C
  obtain ⟨hP, hD, hS⟩ := h
  unfold m_X3_holdsOneWithout_0 at hm
  refine lv_iload_n hx hb dX3_holdsOneWithout_0 rfl (lv_at hl 3 rfl) ?_
  refine lv_iload_n hx hb dX3_holdsOneWithout_1 rfl (lv_at hl 1 rfl) ?_
  refine lv_iconst (v := -1) hx hb dX3_holdsOneWithout_2 (by decide) ?_
  refine lv_ixor hx hb dX3_holdsOneWithout_3 ?_
  refine lv_iand hx hb dX3_holdsOneWithout_4 ?_
  refine lv_iload hx hb dX3_holdsOneWithout_5 (lv_at hl 4 rfl) ?_
  refine lv_iload_n hx hb dX3_holdsOneWithout_7 rfl (lv_at hl 1 rfl) ?_
  refine lv_iand hx hb dX3_holdsOneWithout_8 ?_
  refine lv_ior hx hb dX3_holdsOneWithout_9 ?_
  refine lv_istore (lv' := [(5, .int ((x3 &&& (x1 ^^^ (-1 : Int32))) ||| (x4 &&& x1))), (0, .ref a0), (1, .int x1), (2, .int x2), (3, .int x3), (4, .int x4)]) hx hb dX3_holdsOneWithout_10 hl (by decide) rfl (fun ls hl => ?_)
  refine lv_iload_n hx hb dX3_holdsOneWithout_12 rfl (lv_at hl 4 rfl) ?_
  refine lv_iload_n hx hb dX3_holdsOneWithout_13 rfl (lv_at hl 3 rfl) ?_
  refine lv_iconst (v := -1) hx hb dX3_holdsOneWithout_14 (by decide) ?_
  refine lv_ixor hx hb dX3_holdsOneWithout_15 ?_
  refine lv_iand hx hb dX3_holdsOneWithout_16 ?_
  refine lv_iload hx hb dX3_holdsOneWithout_17 (lv_at hl 5 rfl) ?_
  refine lv_iload_n hx hb dX3_holdsOneWithout_19 rfl (lv_at hl 3 rfl) ?_
  refine lv_iand hx hb dX3_holdsOneWithout_20 ?_
  refine lv_ior hx hb dX3_holdsOneWithout_21 ?_
  refine lv_istore (lv' := [(6, .int ((x3 &&& (x2 ^^^ (-1 : Int32))) ||| (x4 &&& x2))), (5, .int ((x3 &&& (x1 ^^^ (-1 : Int32))) ||| (x4 &&& x1))), (0, .ref a0), (1, .int x1), (2, .int x2), (3, .int x3), (4, .int x4)]) hx hb dX3_holdsOneWithout_22 hl (by decide) rfl (fun ls hl => ?_)
  refine lv_iload_n hx hb dX3_holdsOneWithout_24 rfl (lv_at hl 4 rfl) ?_
  refine lv_iload hx hb dX3_holdsOneWithout_25 (lv_at hl 0 rfl) ?_
  obtain ⟨r4, hq, hm⟩ := gk_bd1_some hm
  refine gk_callS (n := 2) (bytes := cX0_likeAt) (maxL := 5) (ret := (some .long)) [(a0, .inr (2, [.int f_n, .ref a1, .ref a2])), (a1, gk_J G 64 f_boths)] [(a0, .inr (2, [.int f_n, .ref a1, .ref a2])), (a1, gk_J G 64 f_boths)] [] C ⟨hP, hD, hS⟩ (c_X0_likeAt l G x2 ((x3 &&& (x2 ^^^ (-1 : Int32))) ||| (x4 &&& x2)) hq) gX3_holdsOneWithout_X0_likeAt dX3_holdsOneWithout_27 hl.1 [] [0, 1] [0, 1] rfl ⟨rfl, rfl⟩ ⟨Nat.le_of_ble_eq_true rfl, Nat.le_of_ble_eq_true rfl⟩ ⟨by decide +kernel, by decide +kernel, by decide +kernel⟩ rfl (fun h => h) (Nat.le_of_ble_eq_true rfl) rfl rfl rfl rfl (by decide) rfl rfl (fun H locs h => ?_)
  obtain ⟨hP, hD, hS⟩ := h
  refine lv_lstore (lv' := [(7, .long r4), (6, .int ((x3 &&& (x2 ^^^ (-1 : Int32))) ||| (x4 &&& x2))), (5, .int ((x3 &&& (x1 ^^^ (-1 : Int32))) ||| (x4 &&& x1))), (0, .ref a0), (1, .int x1), (2, .int x2), (3, .int x3), (4, .int x4)]) hx hb dX3_holdsOneWithout_30 hl (by decide) rfl (fun ls hl => ?_)
  refine lv_iconst (v := 0) hx hb dX3_holdsOneWithout_32 (by decide) ?_
  refine lv_istore (lv' := [(9, .int (0 : Int32)), (7, .long r4), (6, .int ((x3 &&& (x2 ^^^ (-1 : Int32))) ||| (x4 &&& x2))), (5, .int ((x3 &&& (x1 ^^^ (-1 : Int32))) ||| (x4 &&& x1))), (0, .ref a0), (1, .int x1), (2, .int x2), (3, .int x3), (4, .int x4)]) hx hb dX3_holdsOneWithout_33 hl (by decide) rfl (fun ls hl => ?_)
  rcases gk_bs0_some hm with ⟨r8, hq, hm⟩ | ⟨hq, hm⟩
  · exact w_X3_holdsOneWithout_L35r C hq (kr _ (Option.some.inj hm).symm) ⟨hP, hD, hS⟩ (lv_sub hl [4, 5, 3, 1, 0] rfl)
  refine w_X3_holdsOneWithout_L35 C hq (fun H locs ls h hl => ?_) ⟨hP, hD, hS⟩ (lv_sub hl [4, 5, 3, 1, 0] rfl)
  obtain ⟨hP, hD, hS⟩ := h
  refine lv_iconst (v := 0) hx hb dX3_holdsOneWithout_79 (by decide) ?_
  rw [kr _ (Option.some.inj hm).symm]
  exact gk_zret C ⟨hP, hD, hS⟩ rfl dX3_holdsOneWithout_80
def m_X3_holdsOneWithout (f_n : Int32) (f_boths : (Nat → Int64)) (x1 : Int32) (x2 : Int32) (x3 : Int32) (x4 : Int32) : Option (Int32) := m_X3_holdsOneWithout_0 f_n f_boths x1 x2 x3 x4
theorem c_X3_holdsOneWithout (l : Launch) (G : gk_G) (a0 a1 a2 : Nat) (f_n : Int32) (f_boths : (Nat → Int64)) (x1 : Int32) (x2 : Int32) (x3 : Int32) (x4 : Int32) {rv : Int32} (hm : m_X3_holdsOneWithout f_n f_boths x1 x2 x3 x4 = some rv) : gk_M l yX3_holdsOneWithout wsX3_holdsOneWithout rm_X3_holdsOneWithout true G [.ref a0, .int x1, .int x2, .int x3, .int x4] [(a0, .inr (2, [.int f_n, .ref a1, .ref a2])), (a1, gk_J G 64 f_boths)] (some (.int rv)) [(a0, .inr (2, [.int f_n, .ref a1, .ref a2])), (a1, gk_J G 64 f_boths)] :=
  gk_of (by decide) rfl (Nat.le_of_ble_eq_true rfl) (fun p e s m below meth c A ls C h hl => w_X3_holdsOneWithout_0 C hm (fun v0 ez => by cases ez; rfl) h (show lv_has ls 10 [(0, .ref a0), (1, .int x1), (2, .int x2), (3, .int x3), (4, .int x4)] from hl))

/-! ===== ExchangeFamilies.Sums.stepDownMakesOne(III)Z ===== -/
abbrev rm_X3_stepDownMakesOne : Room := { frames := 5, cells := 0, slots := 0, locals := 236 }
def m_X3_stepDownMakesOne_0 (f_boths : (Nat → Int64)) (x1 : Int32) (x2 : Int32) (x3 : Int32) : Option (Int32) := (if (x2 &&& ((1 : Int32) <<< (x3 &&& 31))) = (0 : Int32) then (if (x1 &&& ((1 : Int32) <<< (x3 &&& 31))) = (0 : Int32) then some (0 : Int32) else gk_bd1 (m_X3_holdsRow f_boths (x1 &&& (((1 : Int32) <<< (x3 &&& 31)) ^^^ (-1 : Int32))) x2) (fun r6 => (if r6 = (0 : Int32) then some (0 : Int32) else some (1 : Int32)))) else gk_bd1 (m_X3_holdsRow f_boths x1 (x2 &&& (((1 : Int32) <<< (x3 &&& 31)) ^^^ (-1 : Int32)))) (fun r8 => gk_bo r8 (some r8)))
set_option maxRecDepth 100000 in
set_option maxHeartbeats 4000000 in
theorem w_X3_stepDownMakesOne_0 {p : Program} {l : Launch} {e : Env} {s : State} {m : MethodId} {args : Array Value} {below : List Frame} {meth : Method} {c : Code} {G : gk_G} {A : Nat → Prop} {Q : State → Prop} {a0 a1 a2 : Nat} (C : gk_C p s m args meth c cX3_stepDownMakesOne 5 (some .boolean) yX3_stepDownMakesOne wsX3_stepDownMakesOne false G A) {f_boths : (Nat → Int64)} {x1 : Int32} {x2 : Int32} {x3 : Int32} {f_n : Int32} {yy : Int32} (hm : m_X3_stepDownMakesOne_0 f_boths x1 x2 x3 = some yy) (kr : ∀ (rv : Int32), yy = rv → Q = MQ below (gk_Q G (some (.int rv)) [(a0, .inr (2, [.int f_n, .ref a1, .ref a2])), (a1, gk_J G 64 f_boths)] A) args s 0 0 A) {H : Heap} {locs : List Loc} {ls : Array Slot} (h : gk_H G A s [(a0, .inr (2, [.int f_n, .ref a1, .ref a2])), (a1, gk_J G 64 f_boths)] H locs) (hl : lv_has ls 5 [(0, .ref a0), (1, .int x1), (2, .int x2), (3, .int x3)]) : W p l e rm_X3_stepDownMakesOne s m args below meth c H locs 0 0 Q (F0 m 0 ls []) := by
  obtain ⟨hx, hb, hml, hr, hown, hnm, hts, hlk, hK, hSt, hA⟩ := id C
  obtain ⟨hP, hD, hS⟩ := h
  unfold m_X3_stepDownMakesOne_0 at hm
  refine lv_iconst (v := 1) hx hb dX3_stepDownMakesOne_0 (by decide) ?_
  refine lv_iload_n hx hb dX3_stepDownMakesOne_1 rfl (lv_at hl 3 rfl) ?_
  refine lv_ishl hx hb dX3_stepDownMakesOne_2 ?_
  refine lv_istore (lv' := [(4, .int ((1 : Int32) <<< (x3 &&& 31))), (0, .ref a0), (1, .int x1), (2, .int x2), (3, .int x3)]) hx hb dX3_stepDownMakesOne_3 hl (by decide) rfl (fun ls hl => ?_)
  refine lv_iload_n hx hb dX3_stepDownMakesOne_5 rfl (lv_at hl 3 rfl) ?_
  refine lv_iload hx hb dX3_stepDownMakesOne_6 (lv_at hl 0 rfl) ?_
  refine lv_iand hx hb dX3_stepDownMakesOne_8 ?_
  refine lv_if_eq (tgt := 24) hx hb dX3_stepDownMakesOne_9 (by decide) (fun c4 => ?_) (fun c4 => ?_)
  · have hm := gk_it c4 hm
    refine lv_iload_n hx hb dX3_stepDownMakesOne_24 rfl (lv_at hl 2 rfl) ?_
    refine lv_iload hx hb dX3_stepDownMakesOne_25 (lv_at hl 0 rfl) ?_
    refine lv_iand hx hb dX3_stepDownMakesOne_27 ?_
    refine lv_if_eq (tgt := 49) hx hb dX3_stepDownMakesOne_28 (by decide) (fun c5 => ?_) (fun c5 => ?_)
    · have hm := gk_it c5 hm
      refine lv_iconst (v := 0) hx hb dX3_stepDownMakesOne_49 (by decide) ?_
      rw [kr _ (Option.some.inj hm).symm]
      exact gk_zret C ⟨hP, hD, hS⟩ rfl dX3_stepDownMakesOne_50
    · have hm := gk_if c5 hm
      refine lv_aload_n hx hb dX3_stepDownMakesOne_31 rfl (lv_at hl 1 rfl) ?_
      refine lv_iload_n hx hb dX3_stepDownMakesOne_32 rfl (lv_at hl 2 rfl) ?_
      refine lv_iload hx hb dX3_stepDownMakesOne_33 (lv_at hl 0 rfl) ?_
      refine lv_iconst (v := -1) hx hb dX3_stepDownMakesOne_35 (by decide) ?_
      refine lv_ixor hx hb dX3_stepDownMakesOne_36 ?_
      refine lv_iand hx hb dX3_stepDownMakesOne_37 ?_
      refine lv_iload_n hx hb dX3_stepDownMakesOne_38 rfl (lv_at hl 3 rfl) ?_
      obtain ⟨r6, hq, hm⟩ := gk_bd1_some hm
      refine gk_callV (n := 2) (bytes := cX3_holdsRow) (maxL := 3) (ret := (some .boolean)) (Cn := RX3) (T := TX3) (N := 3) [] [(a0, .inr (2, [.int f_n, .ref a1, .ref a2])), (a1, gk_J G 64 f_boths)] [] C ⟨hP, hD, hS⟩ (c_X3_holdsRow l G a0 a1 a2 f_n f_boths (x1 &&& (((1 : Int32) <<< (x3 &&& 31)) ^^^ (-1 : Int32))) x2 hq) gX3_stepDownMakesOne_X3_holdsRow dX3_stepDownMakesOne_39 hl.1 [0, 1] [] [0, 1] rfl rfl ⟨rfl, rfl⟩ ⟨Nat.le_of_ble_eq_true rfl, Nat.le_of_ble_eq_true rfl⟩ ⟨rfl, by decide +kernel, by decide +kernel, by decide +kernel⟩ rfl (fun h => by cases h) (Nat.le_of_ble_eq_true rfl) rfl rfl rfl rfl (by decide) rfl rfl (fun H locs h => ?_)
      obtain ⟨hP, hD, hS⟩ := h
      refine lv_if_eq (tgt := 49) hx hb dX3_stepDownMakesOne_42 (by decide) (fun c7 => ?_) (fun c7 => ?_)
      · have hm := gk_it c7 hm
        refine lv_iconst (v := 0) hx hb dX3_stepDownMakesOne_49 (by decide) ?_
        rw [kr _ (Option.some.inj hm).symm]
        exact gk_zret C ⟨hP, hD, hS⟩ rfl dX3_stepDownMakesOne_50
      · have hm := gk_if c7 hm
        refine lv_iconst (v := 1) hx hb dX3_stepDownMakesOne_45 (by decide) ?_
        refine lv_goto (tgt := 50) hx hb dX3_stepDownMakesOne_46 (by decide) ?_
        rw [kr _ (Option.some.inj hm).symm]
        exact gk_zret C ⟨hP, hD, hS⟩ rfl dX3_stepDownMakesOne_50
  · have hm := gk_if c4 hm
    refine lv_aload_n hx hb dX3_stepDownMakesOne_12 rfl (lv_at hl 1 rfl) ?_
    refine lv_iload_n hx hb dX3_stepDownMakesOne_13 rfl (lv_at hl 2 rfl) ?_
    refine lv_iload_n hx hb dX3_stepDownMakesOne_14 rfl (lv_at hl 3 rfl) ?_
    refine lv_iload hx hb dX3_stepDownMakesOne_15 (lv_at hl 0 rfl) ?_
    refine lv_iconst (v := -1) hx hb dX3_stepDownMakesOne_17 (by decide) ?_
    refine lv_ixor hx hb dX3_stepDownMakesOne_18 ?_
    refine lv_iand hx hb dX3_stepDownMakesOne_19 ?_
    obtain ⟨r8, hq, hm⟩ := gk_bd1_some hm
    refine gk_callV (n := 2) (bytes := cX3_holdsRow) (maxL := 3) (ret := (some .boolean)) (Cn := RX3) (T := TX3) (N := 3) [] [(a0, .inr (2, [.int f_n, .ref a1, .ref a2])), (a1, gk_J G 64 f_boths)] [] C ⟨hP, hD, hS⟩ (c_X3_holdsRow l G a0 a1 a2 f_n f_boths x1 (x2 &&& (((1 : Int32) <<< (x3 &&& 31)) ^^^ (-1 : Int32))) hq) gX3_stepDownMakesOne_X3_holdsRow dX3_stepDownMakesOne_20 hl.1 [0, 1] [] [0, 1] rfl rfl ⟨rfl, rfl⟩ ⟨Nat.le_of_ble_eq_true rfl, Nat.le_of_ble_eq_true rfl⟩ ⟨rfl, by decide +kernel, by decide +kernel, by decide +kernel⟩ rfl (fun h => by cases h) (Nat.le_of_ble_eq_true rfl) rfl rfl rfl rfl (by decide) rfl rfl (fun H locs h => ?_)
    obtain ⟨hP, hD, hS⟩ := h
    obtain ⟨hv, hm⟩ := gk_bo_some hm
    rw [kr _ (Option.some.inj hm).symm]
    exact gk_zret C ⟨hP, hD, hS⟩ hv dX3_stepDownMakesOne_23
def m_X3_stepDownMakesOne (f_boths : (Nat → Int64)) (x1 : Int32) (x2 : Int32) (x3 : Int32) : Option (Int32) := m_X3_stepDownMakesOne_0 f_boths x1 x2 x3
theorem c_X3_stepDownMakesOne (l : Launch) (G : gk_G) (a0 a1 a2 : Nat) (f_n : Int32) (f_boths : (Nat → Int64)) (x1 : Int32) (x2 : Int32) (x3 : Int32) {rv : Int32} (hm : m_X3_stepDownMakesOne f_boths x1 x2 x3 = some rv) : gk_M l yX3_stepDownMakesOne wsX3_stepDownMakesOne rm_X3_stepDownMakesOne false G [.ref a0, .int x1, .int x2, .int x3] [(a0, .inr (2, [.int f_n, .ref a1, .ref a2])), (a1, gk_J G 64 f_boths)] (some (.int rv)) [(a0, .inr (2, [.int f_n, .ref a1, .ref a2])), (a1, gk_J G 64 f_boths)] :=
  gk_of (by decide) rfl (Nat.le_of_ble_eq_true rfl) (fun p e s m below meth c A ls C h hl => w_X3_stepDownMakesOne_0 C hm (fun v0 ez => by cases ez; rfl) h (show lv_has ls 5 [(0, .ref a0), (1, .int x1), (2, .int x2), (3, .int x3)] from hl))

/-! ===== ExchangeFamilies.Sums.stepUpMakesOne(III)Z ===== -/
abbrev rm_X3_stepUpMakesOne : Room := { frames := 5, cells := 0, slots := 0, locals := 236 }
def m_X3_stepUpMakesOne_0 (f_boths : (Nat → Int64)) (x1 : Int32) (x2 : Int32) (x3 : Int32) : Option (Int32) := (if (x1 &&& ((1 : Int32) <<< (x3 &&& 31))) = (0 : Int32) then gk_bd1 (m_X3_holdsRow f_boths (x1 ||| ((1 : Int32) <<< (x3 &&& 31))) x2) (fun r8 => gk_bo r8 (some r8)) else (if (x2 &&& ((1 : Int32) <<< (x3 &&& 31))) = (0 : Int32) then gk_bd1 (m_X3_holdsRow f_boths x1 (x2 ||| ((1 : Int32) <<< (x3 &&& 31)))) (fun r6 => (if r6 = (0 : Int32) then some (0 : Int32) else some (1 : Int32))) else some (0 : Int32)))
set_option maxRecDepth 100000 in
set_option maxHeartbeats 4000000 in
theorem w_X3_stepUpMakesOne_0 {p : Program} {l : Launch} {e : Env} {s : State} {m : MethodId} {args : Array Value} {below : List Frame} {meth : Method} {c : Code} {G : gk_G} {A : Nat → Prop} {Q : State → Prop} {a0 a1 a2 : Nat} (C : gk_C p s m args meth c cX3_stepUpMakesOne 5 (some .boolean) yX3_stepUpMakesOne wsX3_stepUpMakesOne false G A) {f_boths : (Nat → Int64)} {x1 : Int32} {x2 : Int32} {x3 : Int32} {f_n : Int32} {yy : Int32} (hm : m_X3_stepUpMakesOne_0 f_boths x1 x2 x3 = some yy) (kr : ∀ (rv : Int32), yy = rv → Q = MQ below (gk_Q G (some (.int rv)) [(a0, .inr (2, [.int f_n, .ref a1, .ref a2])), (a1, gk_J G 64 f_boths)] A) args s 0 0 A) {H : Heap} {locs : List Loc} {ls : Array Slot} (h : gk_H G A s [(a0, .inr (2, [.int f_n, .ref a1, .ref a2])), (a1, gk_J G 64 f_boths)] H locs) (hl : lv_has ls 5 [(0, .ref a0), (1, .int x1), (2, .int x2), (3, .int x3)]) : W p l e rm_X3_stepUpMakesOne s m args below meth c H locs 0 0 Q (F0 m 0 ls []) := by
  obtain ⟨hx, hb, hml, hr, hown, hnm, hts, hlk, hK, hSt, hA⟩ := id C
  obtain ⟨hP, hD, hS⟩ := h
  unfold m_X3_stepUpMakesOne_0 at hm
  refine lv_iconst (v := 1) hx hb dX3_stepUpMakesOne_0 (by decide) ?_
  refine lv_iload_n hx hb dX3_stepUpMakesOne_1 rfl (lv_at hl 3 rfl) ?_
  refine lv_ishl hx hb dX3_stepUpMakesOne_2 ?_
  refine lv_istore (lv' := [(4, .int ((1 : Int32) <<< (x3 &&& 31))), (0, .ref a0), (1, .int x1), (2, .int x2), (3, .int x3)]) hx hb dX3_stepUpMakesOne_3 hl (by decide) rfl (fun ls hl => ?_)
  refine lv_iload_n hx hb dX3_stepUpMakesOne_5 rfl (lv_at hl 2 rfl) ?_
  refine lv_iload hx hb dX3_stepUpMakesOne_6 (lv_at hl 0 rfl) ?_
  refine lv_iand hx hb dX3_stepUpMakesOne_8 ?_
  refine lv_if_ne (tgt := 22) hx hb dX3_stepUpMakesOne_9 (by decide) (fun c4 => ?_) (fun c4 => ?_)
  · have hm := gk_if c4 hm
    refine lv_iload_n hx hb dX3_stepUpMakesOne_22 rfl (lv_at hl 3 rfl) ?_
    refine lv_iload hx hb dX3_stepUpMakesOne_23 (lv_at hl 0 rfl) ?_
    refine lv_iand hx hb dX3_stepUpMakesOne_25 ?_
    refine lv_if_ne (tgt := 45) hx hb dX3_stepUpMakesOne_26 (by decide) (fun c5 => ?_) (fun c5 => ?_)
    · have hm := gk_if c5 hm
      refine lv_iconst (v := 0) hx hb dX3_stepUpMakesOne_45 (by decide) ?_
      rw [kr _ (Option.some.inj hm).symm]
      exact gk_zret C ⟨hP, hD, hS⟩ rfl dX3_stepUpMakesOne_46
    · have hm := gk_it c5 hm
      refine lv_aload_n hx hb dX3_stepUpMakesOne_29 rfl (lv_at hl 1 rfl) ?_
      refine lv_iload_n hx hb dX3_stepUpMakesOne_30 rfl (lv_at hl 2 rfl) ?_
      refine lv_iload_n hx hb dX3_stepUpMakesOne_31 rfl (lv_at hl 3 rfl) ?_
      refine lv_iload hx hb dX3_stepUpMakesOne_32 (lv_at hl 0 rfl) ?_
      refine lv_ior hx hb dX3_stepUpMakesOne_34 ?_
      obtain ⟨r6, hq, hm⟩ := gk_bd1_some hm
      refine gk_callV (n := 2) (bytes := cX3_holdsRow) (maxL := 3) (ret := (some .boolean)) (Cn := RX3) (T := TX3) (N := 3) [] [(a0, .inr (2, [.int f_n, .ref a1, .ref a2])), (a1, gk_J G 64 f_boths)] [] C ⟨hP, hD, hS⟩ (c_X3_holdsRow l G a0 a1 a2 f_n f_boths x1 (x2 ||| ((1 : Int32) <<< (x3 &&& 31))) hq) gX3_stepUpMakesOne_X3_holdsRow dX3_stepUpMakesOne_35 hl.1 [0, 1] [] [0, 1] rfl rfl ⟨rfl, rfl⟩ ⟨Nat.le_of_ble_eq_true rfl, Nat.le_of_ble_eq_true rfl⟩ ⟨rfl, by decide +kernel, by decide +kernel, by decide +kernel⟩ rfl (fun h => by cases h) (Nat.le_of_ble_eq_true rfl) rfl rfl rfl rfl (by decide) rfl rfl (fun H locs h => ?_)
      obtain ⟨hP, hD, hS⟩ := h
      refine lv_if_eq (tgt := 45) hx hb dX3_stepUpMakesOne_38 (by decide) (fun c7 => ?_) (fun c7 => ?_)
      · have hm := gk_it c7 hm
        refine lv_iconst (v := 0) hx hb dX3_stepUpMakesOne_45 (by decide) ?_
        rw [kr _ (Option.some.inj hm).symm]
        exact gk_zret C ⟨hP, hD, hS⟩ rfl dX3_stepUpMakesOne_46
      · have hm := gk_if c7 hm
        refine lv_iconst (v := 1) hx hb dX3_stepUpMakesOne_41 (by decide) ?_
        refine lv_goto (tgt := 46) hx hb dX3_stepUpMakesOne_42 (by decide) ?_
        rw [kr _ (Option.some.inj hm).symm]
        exact gk_zret C ⟨hP, hD, hS⟩ rfl dX3_stepUpMakesOne_46
  · have hm := gk_it c4 hm
    refine lv_aload_n hx hb dX3_stepUpMakesOne_12 rfl (lv_at hl 1 rfl) ?_
    refine lv_iload_n hx hb dX3_stepUpMakesOne_13 rfl (lv_at hl 2 rfl) ?_
    refine lv_iload hx hb dX3_stepUpMakesOne_14 (lv_at hl 0 rfl) ?_
    refine lv_ior hx hb dX3_stepUpMakesOne_16 ?_
    refine lv_iload_n hx hb dX3_stepUpMakesOne_17 rfl (lv_at hl 3 rfl) ?_
    obtain ⟨r8, hq, hm⟩ := gk_bd1_some hm
    refine gk_callV (n := 2) (bytes := cX3_holdsRow) (maxL := 3) (ret := (some .boolean)) (Cn := RX3) (T := TX3) (N := 3) [] [(a0, .inr (2, [.int f_n, .ref a1, .ref a2])), (a1, gk_J G 64 f_boths)] [] C ⟨hP, hD, hS⟩ (c_X3_holdsRow l G a0 a1 a2 f_n f_boths (x1 ||| ((1 : Int32) <<< (x3 &&& 31))) x2 hq) gX3_stepUpMakesOne_X3_holdsRow dX3_stepUpMakesOne_18 hl.1 [0, 1] [] [0, 1] rfl rfl ⟨rfl, rfl⟩ ⟨Nat.le_of_ble_eq_true rfl, Nat.le_of_ble_eq_true rfl⟩ ⟨rfl, by decide +kernel, by decide +kernel, by decide +kernel⟩ rfl (fun h => by cases h) (Nat.le_of_ble_eq_true rfl) rfl rfl rfl rfl (by decide) rfl rfl (fun H locs h => ?_)
    obtain ⟨hP, hD, hS⟩ := h
    obtain ⟨hv, hm⟩ := gk_bo_some hm
    rw [kr _ (Option.some.inj hm).symm]
    exact gk_zret C ⟨hP, hD, hS⟩ hv dX3_stepUpMakesOne_21
def m_X3_stepUpMakesOne (f_boths : (Nat → Int64)) (x1 : Int32) (x2 : Int32) (x3 : Int32) : Option (Int32) := m_X3_stepUpMakesOne_0 f_boths x1 x2 x3
theorem c_X3_stepUpMakesOne (l : Launch) (G : gk_G) (a0 a1 a2 : Nat) (f_n : Int32) (f_boths : (Nat → Int64)) (x1 : Int32) (x2 : Int32) (x3 : Int32) {rv : Int32} (hm : m_X3_stepUpMakesOne f_boths x1 x2 x3 = some rv) : gk_M l yX3_stepUpMakesOne wsX3_stepUpMakesOne rm_X3_stepUpMakesOne false G [.ref a0, .int x1, .int x2, .int x3] [(a0, .inr (2, [.int f_n, .ref a1, .ref a2])), (a1, gk_J G 64 f_boths)] (some (.int rv)) [(a0, .inr (2, [.int f_n, .ref a1, .ref a2])), (a1, gk_J G 64 f_boths)] :=
  gk_of (by decide) rfl (Nat.le_of_ble_eq_true rfl) (fun p e s m below meth c A ls C h hl => w_X3_stepUpMakesOne_0 C hm (fun v0 ez => by cases ez; rfl) h (show lv_has ls 5 [(0, .ref a0), (1, .int x1), (2, .int x2), (3, .int x3)] from hl))

/-! ===== ExchangeFamilies.Sums.leavesOne(II)Z ===== -/
abbrev rm_X3_leavesOne : Room := { frames := 7, cells := 0, slots := 0, locals := 324 }
theorem k_X3_leavesOne_0 : ∀ w ∈ u_ws RX3 TX3 3, w ∈ wsX3_leavesOne := by decide +kernel
theorem k_X3_leavesOne_1 : Cond.fieldLink RX3 9 "ExchangeFamilies$Sums" "n" "I" ∈ wsX3_leavesOne := by decide +kernel
def m_X3_leavesOne_J37 (f_n : Int32) (f_boths : (Nat → Int64)) (x1 : Int32) (x2 : Int32) (x4 : Int32) (x5 : Int32) (s0 : Int32) (s1 : Int32) : Option ((Int32 × Int32 × Int32) ⊕ (Int32 × Int32)) := gk_bd1 (m_X3_stepDownMakesOne f_boths x1 x2 x5) (fun r9 => (if r9 = (0 : Int32) then some (.inl (s0 ||| s1, x4 ||| (0 : Int32), x5 + 1)) else some (.inl (s0 ||| s1, x4 ||| ((1 : Int32) <<< (x5 &&& 31)), x5 + 1))))
set_option maxRecDepth 100000 in
set_option maxHeartbeats 4000000 in
theorem w_X3_leavesOne_J37 {p : Program} {l : Launch} {e : Env} {s : State} {m : MethodId} {args : Array Value} {below : List Frame} {meth : Method} {c : Code} {G : gk_G} {A : Nat → Prop} {Q : State → Prop} {a0 a1 a2 : Nat} (C : gk_C p s m args meth c cX3_leavesOne 6 (some .boolean) yX3_leavesOne wsX3_leavesOne true G A) {f_n : Int32} {f_boths : (Nat → Int64)} {x1 : Int32} {x2 : Int32} {x4 : Int32} {x5 : Int32} {s0 : Int32} {s1 : Int32} {yy : (Int32 × Int32 × Int32) ⊕ (Int32 × Int32)} (hm : m_X3_leavesOne_J37 f_n f_boths x1 x2 x4 x5 s0 s1 = some yy) (kl : ∀ (x3 : Int32) (x4 : Int32) (x5 : Int32), yy = .inl (x3, x4, x5) → ∀ (H : Heap) (locs : List Loc) (ls : Array Slot), gk_H G A s [(a0, .inr (2, [.int f_n, .ref a1, .ref a2])), (a1, gk_J G 64 f_boths)] H locs → lv_has ls 6 [(0, .ref a0), (1, .int x1), (2, .int x2), (3, .int x3), (4, .int x4), (5, .int x5)] → W p l e rm_X3_leavesOne s m args below meth c H locs 0 0 Q (F0 m 8 ls [])) (kx : ∀ (x3 : Int32) (x4 : Int32), yy = .inr (x3, x4) → ∀ (H : Heap) (locs : List Loc) (ls : Array Slot), gk_H G A s [(a0, .inr (2, [.int f_n, .ref a1, .ref a2])), (a1, gk_J G 64 f_boths)] H locs → lv_has ls 6 [(0, .ref a0), (1, .int x1), (2, .int x2), (3, .int x3), (4, .int x4)] → W p l e rm_X3_leavesOne s m args below meth c H locs 0 0 Q (F0 m 69 ls [])) {H : Heap} {locs : List Loc} {ls : Array Slot} (h : gk_H G A s [(a0, .inr (2, [.int f_n, .ref a1, .ref a2])), (a1, gk_J G 64 f_boths)] H locs) (hl : lv_has ls 6 [(0, .ref a0), (1, .int x1), (2, .int x2), (4, .int x4), (5, .int x5)]) : W p l e rm_X3_leavesOne s m args below meth c H locs 0 0 Q (F0 m 37 ls [.int s1, .int s0]) := by
  obtain ⟨hx, hb, hml, hr, hown, hnm, hts, hlk, hK, hSt, hA⟩ := id C
  obtain ⟨hP, hD, hS⟩ := h
  unfold m_X3_leavesOne_J37 at hm
  refine lv_ior hx hb dX3_leavesOne_37 ?_
  refine lv_istore_n (lv' := [(3, .int (s0 ||| s1)), (0, .ref a0), (1, .int x1), (2, .int x2), (4, .int x4), (5, .int x5)]) hx hb dX3_leavesOne_38 rfl hl (by decide) rfl (fun ls hl => ?_)
  refine lv_iload hx hb dX3_leavesOne_39 (lv_at hl 4 rfl) ?_
  refine lv_aload_n hx hb dX3_leavesOne_41 rfl (lv_at hl 1 rfl) ?_
  refine lv_iload_n hx hb dX3_leavesOne_42 rfl (lv_at hl 2 rfl) ?_
  refine lv_iload_n hx hb dX3_leavesOne_43 rfl (lv_at hl 3 rfl) ?_
  refine lv_iload hx hb dX3_leavesOne_44 (lv_at hl 5 rfl) ?_
  obtain ⟨r9, hq, hm⟩ := gk_bd1_some hm
  refine gk_callV (n := 3) (bytes := cX3_stepDownMakesOne) (maxL := 5) (ret := (some .boolean)) (Cn := RX3) (T := TX3) (N := 3) [] [(a0, .inr (2, [.int f_n, .ref a1, .ref a2])), (a1, gk_J G 64 f_boths)] [.int x4] C ⟨hP, hD, hS⟩ (c_X3_stepDownMakesOne l G a0 a1 a2 f_n f_boths x1 x2 x5 hq) gX3_leavesOne_X3_stepDownMakesOne dX3_leavesOne_46 hl.1 [0, 1] [] [0, 1] rfl rfl ⟨rfl, rfl⟩ ⟨Nat.le_of_ble_eq_true rfl, Nat.le_of_ble_eq_true rfl⟩ ⟨rfl, by decide +kernel, by decide +kernel, by decide +kernel⟩ rfl (fun h => by cases h) (Nat.le_of_ble_eq_true rfl) rfl rfl rfl rfl (by decide) rfl rfl (fun H locs h => ?_)
  obtain ⟨hP, hD, hS⟩ := h
  refine lv_if_eq (tgt := 59) hx hb dX3_leavesOne_49 (by decide) (fun c10 => ?_) (fun c10 => ?_)
  · have hm := gk_it c10 hm
    refine lv_iconst (v := 0) hx hb dX3_leavesOne_59 (by decide) ?_
    refine lv_ior hx hb dX3_leavesOne_60 ?_
    refine lv_istore (lv' := [(4, .int (x4 ||| (0 : Int32))), (3, .int (s0 ||| s1)), (0, .ref a0), (1, .int x1), (2, .int x2), (5, .int x5)]) hx hb dX3_leavesOne_61 hl (by decide) rfl (fun ls hl => ?_)
    refine lv_iinc (v := x5 + 1) (lv' := [(5, .int (x5 + 1)), (4, .int (x4 ||| (0 : Int32))), (3, .int (s0 ||| s1)), (0, .ref a0), (1, .int x1), (2, .int x2)]) hx hb dX3_leavesOne_63 hl (k := 5) rfl rfl (by decide) rfl (fun ls hl => ?_)
    refine lv_goto (tgt := 8) hx hb dX3_leavesOne_66 (by decide) ?_
    exact kl _ _ _ (Option.some.inj hm).symm _ _ _ ⟨hP, hD, hS⟩ (lv_sub hl [3, 4, 5, 2, 1, 0] rfl)
  · have hm := gk_if c10 hm
    refine lv_iconst (v := 1) hx hb dX3_leavesOne_52 (by decide) ?_
    refine lv_iload hx hb dX3_leavesOne_53 (lv_at hl 5 rfl) ?_
    refine lv_ishl hx hb dX3_leavesOne_55 ?_
    refine lv_goto (tgt := 60) hx hb dX3_leavesOne_56 (by decide) ?_
    refine lv_ior hx hb dX3_leavesOne_60 ?_
    refine lv_istore (lv' := [(4, .int (x4 ||| ((1 : Int32) <<< (x5 &&& 31)))), (3, .int (s0 ||| s1)), (0, .ref a0), (1, .int x1), (2, .int x2), (5, .int x5)]) hx hb dX3_leavesOne_61 hl (by decide) rfl (fun ls hl => ?_)
    refine lv_iinc (v := x5 + 1) (lv' := [(5, .int (x5 + 1)), (4, .int (x4 ||| ((1 : Int32) <<< (x5 &&& 31)))), (3, .int (s0 ||| s1)), (0, .ref a0), (1, .int x1), (2, .int x2)]) hx hb dX3_leavesOne_63 hl (k := 5) rfl rfl (by decide) rfl (fun ls hl => ?_)
    refine lv_goto (tgt := 8) hx hb dX3_leavesOne_66 (by decide) ?_
    exact kl _ _ _ (Option.some.inj hm).symm _ _ _ ⟨hP, hD, hS⟩ (lv_sub hl [3, 4, 5, 2, 1, 0] rfl)
def m_X3_leavesOne_B8 (f_n : Int32) (f_boths : (Nat → Int64)) (x1 : Int32) (x2 : Int32) (x3 : Int32) (x4 : Int32) (x5 : Int32) : Option ((Int32 × Int32 × Int32) ⊕ (Int32 × Int32)) := (if f_n ≤ x5 then some (.inr (x3, x4)) else gk_bd1 (m_X3_stepUpMakesOne f_boths x1 x2 x5) (fun r7 => (if r7 = (0 : Int32) then m_X3_leavesOne_J37 f_n f_boths x1 x2 x4 x5 x3 (0 : Int32) else m_X3_leavesOne_J37 f_n f_boths x1 x2 x4 x5 x3 ((1 : Int32) <<< (x5 &&& 31)))))
set_option maxRecDepth 100000 in
set_option maxHeartbeats 4000000 in
theorem w_X3_leavesOne_B8 {p : Program} {l : Launch} {e : Env} {s : State} {m : MethodId} {args : Array Value} {below : List Frame} {meth : Method} {c : Code} {G : gk_G} {A : Nat → Prop} {Q : State → Prop} {a0 a1 a2 : Nat} (C : gk_C p s m args meth c cX3_leavesOne 6 (some .boolean) yX3_leavesOne wsX3_leavesOne true G A) {f_n : Int32} {f_boths : (Nat → Int64)} {x1 : Int32} {x2 : Int32} {x3 : Int32} {x4 : Int32} {x5 : Int32} {yy : (Int32 × Int32 × Int32) ⊕ (Int32 × Int32)} (hm : m_X3_leavesOne_B8 f_n f_boths x1 x2 x3 x4 x5 = some yy) (kl : ∀ (x3 : Int32) (x4 : Int32) (x5 : Int32), yy = .inl (x3, x4, x5) → ∀ (H : Heap) (locs : List Loc) (ls : Array Slot), gk_H G A s [(a0, .inr (2, [.int f_n, .ref a1, .ref a2])), (a1, gk_J G 64 f_boths)] H locs → lv_has ls 6 [(0, .ref a0), (1, .int x1), (2, .int x2), (3, .int x3), (4, .int x4), (5, .int x5)] → W p l e rm_X3_leavesOne s m args below meth c H locs 0 0 Q (F0 m 8 ls [])) (kx : ∀ (x3 : Int32) (x4 : Int32), yy = .inr (x3, x4) → ∀ (H : Heap) (locs : List Loc) (ls : Array Slot), gk_H G A s [(a0, .inr (2, [.int f_n, .ref a1, .ref a2])), (a1, gk_J G 64 f_boths)] H locs → lv_has ls 6 [(0, .ref a0), (1, .int x1), (2, .int x2), (3, .int x3), (4, .int x4)] → W p l e rm_X3_leavesOne s m args below meth c H locs 0 0 Q (F0 m 69 ls [])) {H : Heap} {locs : List Loc} {ls : Array Slot} (h : gk_H G A s [(a0, .inr (2, [.int f_n, .ref a1, .ref a2])), (a1, gk_J G 64 f_boths)] H locs) (hl : lv_has ls 6 [(0, .ref a0), (1, .int x1), (2, .int x2), (3, .int x3), (4, .int x4), (5, .int x5)]) : W p l e rm_X3_leavesOne s m args below meth c H locs 0 0 Q (F0 m 8 ls []) := by
  obtain ⟨hx, hb, hml, hr, hown, hnm, hts, hlk, hK, hSt, hA⟩ := id C
  obtain ⟨hP, hD, hS⟩ := h
  unfold m_X3_leavesOne_B8 at hm
  refine lv_iload hx hb dX3_leavesOne_8 (lv_at hl 5 rfl) ?_
  refine lv_aload_n hx hb dX3_leavesOne_10 rfl (lv_at hl 0 rfl) ?_
  refine va_get (D := G.1) (cl := vwCl) (own := RX3) (ref := "ExchangeFamilies$Sums") (ci := 2) (v := .int f_n) (C := RX3) (T := TX3) (N := 3) hx hb hts k_X3_leavesOne_0 hown hK hP 0 rfl rfl 0 (by decide) (hts _ k_X3_leavesOne_1) (fun _ h9 => h9) rfl dX3_leavesOne_11 ?_
  refine lv_icmp_ge (tgt := 69) hx hb dX3_leavesOne_14 (by decide) (fun c6 => ?_) (fun c6 => ?_)
  · have hm := gk_it c6 hm
    exact kx _ _ (Option.some.inj hm).symm _ _ _ ⟨hP, hD, hS⟩ (lv_sub hl [0, 1, 2, 3, 4] rfl)
  · have hm := gk_if c6 hm
    refine lv_iload_n hx hb dX3_leavesOne_17 rfl (lv_at hl 3 rfl) ?_
    refine lv_aload_n hx hb dX3_leavesOne_18 rfl (lv_at hl 0 rfl) ?_
    refine lv_iload_n hx hb dX3_leavesOne_19 rfl (lv_at hl 1 rfl) ?_
    refine lv_iload_n hx hb dX3_leavesOne_20 rfl (lv_at hl 2 rfl) ?_
    refine lv_iload hx hb dX3_leavesOne_21 (lv_at hl 5 rfl) ?_
    obtain ⟨r7, hq, hm⟩ := gk_bd1_some hm
    refine gk_callV (n := 3) (bytes := cX3_stepUpMakesOne) (maxL := 5) (ret := (some .boolean)) (Cn := RX3) (T := TX3) (N := 3) [] [(a0, .inr (2, [.int f_n, .ref a1, .ref a2])), (a1, gk_J G 64 f_boths)] [.int x3] C ⟨hP, hD, hS⟩ (c_X3_stepUpMakesOne l G a0 a1 a2 f_n f_boths x1 x2 x5 hq) gX3_leavesOne_X3_stepUpMakesOne dX3_leavesOne_23 hl.1 [0, 1] [] [0, 1] rfl rfl ⟨rfl, rfl⟩ ⟨Nat.le_of_ble_eq_true rfl, Nat.le_of_ble_eq_true rfl⟩ ⟨rfl, by decide +kernel, by decide +kernel, by decide +kernel⟩ rfl (fun h => by cases h) (Nat.le_of_ble_eq_true rfl) rfl rfl rfl rfl (by decide) rfl rfl (fun H locs h => ?_)
    obtain ⟨hP, hD, hS⟩ := h
    refine lv_if_eq (tgt := 36) hx hb dX3_leavesOne_26 (by decide) (fun c8 => ?_) (fun c8 => ?_)
    · have hm := gk_it c8 hm
      refine lv_iconst (v := 0) hx hb dX3_leavesOne_36 (by decide) ?_
      exact w_X3_leavesOne_J37 C hm kl kx ⟨hP, hD, hS⟩ (lv_sub hl [0, 1, 2, 4, 5] rfl)
    · have hm := gk_if c8 hm
      refine lv_iconst (v := 1) hx hb dX3_leavesOne_29 (by decide) ?_
      refine lv_iload hx hb dX3_leavesOne_30 (lv_at hl 5 rfl) ?_
      refine lv_ishl hx hb dX3_leavesOne_32 ?_
      refine lv_goto (tgt := 37) hx hb dX3_leavesOne_33 (by decide) ?_
      exact w_X3_leavesOne_J37 C hm kl kx ⟨hP, hD, hS⟩ (lv_sub hl [0, 1, 2, 4, 5] rfl)
set_option maxRecDepth 100000 in
set_option maxHeartbeats 4000000 in
theorem w_X3_leavesOne_L8 {p : Program} {l : Launch} {e : Env} {s : State} {m : MethodId} {args : Array Value} {below : List Frame} {meth : Method} {c : Code} {G : gk_G} {A : Nat → Prop} {Q : State → Prop} {a0 a1 a2 : Nat} (C : gk_C p s m args meth c cX3_leavesOne 6 (some .boolean) yX3_leavesOne wsX3_leavesOne true G A) {f_n : Int32} {f_boths : (Nat → Int64)} {x1 : Int32} {x2 : Int32} {x3 : Int32} {x4 : Int32} {x5 : Int32} {k : Nat} {e_x3 : Int32} {e_x4 : Int32} (hm : gk_lp (fun z => m_X3_leavesOne_B8 f_n f_boths x1 x2 z.1 z.2.1 z.2.2) k (x3, x4, x5) = some (e_x3, e_x4)) (kx : ∀ (H : Heap) (locs : List Loc) (ls : Array Slot), gk_H G A s [(a0, .inr (2, [.int f_n, .ref a1, .ref a2])), (a1, gk_J G 64 f_boths)] H locs → lv_has ls 6 [(0, .ref a0), (1, .int x1), (2, .int x2), (3, .int e_x3), (4, .int e_x4)] → W p l e rm_X3_leavesOne s m args below meth c H locs 0 0 Q (F0 m 69 ls [])) {H : Heap} {locs : List Loc} {ls : Array Slot} (h : gk_H G A s [(a0, .inr (2, [.int f_n, .ref a1, .ref a2])), (a1, gk_J G 64 f_boths)] H locs) (hl : lv_has ls 6 [(0, .ref a0), (1, .int x1), (2, .int x2), (3, .int x3), (4, .int x4), (5, .int x5)]) : W p l e rm_X3_leavesOne s m args below meth c H locs 0 0 Q (F0 m 8 ls []) :=
  gk_lp_some (P := fun z => ∀ (H : Heap) (locs : List Loc) (ls : Array Slot), gk_H G A s [(a0, .inr (2, [.int f_n, .ref a1, .ref a2])), (a1, gk_J G 64 f_boths)] H locs → lv_has ls 6 [(0, .ref a0), (1, .int x1), (2, .int x2), (3, .int z.1), (4, .int z.2.1), (5, .int z.2.2)] → W p l e rm_X3_leavesOne s m args below meth c H locs 0 0 Q (F0 m 8 ls [])) (E := fun r => (∀ (x3 : Int32) (x4 : Int32), r = (x3, x4) → ∀ (H : Heap) (locs : List Loc) (ls : Array Slot), gk_H G A s [(a0, .inr (2, [.int f_n, .ref a1, .ref a2])), (a1, gk_J G 64 f_boths)] H locs → lv_has ls 6 [(0, .ref a0), (1, .int x1), (2, .int x2), (3, .int x3), (4, .int x4)] → W p l e rm_X3_leavesOne s m args below meth c H locs 0 0 Q (F0 m 69 ls []))) (fun z x hf kl ke H locs ls h hl => w_X3_leavesOne_B8 C hf (fun v0 v1 v2 ez => kl (v0, v1, v2) ez) (fun v0 v1 ez => ke _ ez v0 v1 rfl) h hl) k (x3, x4, x5) _ hm (fun v0 v1 ez => (by cases ez; exact kx)) _ _ _ h hl
def m_X3_leavesOne_J69 (f_n : Int32) (f_boths : (Nat → Int64)) (x1 : Int32) (x2 : Int32) (x3 : Int32) (x4 : Int32) : Option (Int32) := (if (x3 ||| x4) = (0 : Int32) then some (0 : Int32) else gk_bd1 (m_X3_holdsOneWithout f_n f_boths x1 x2 x3 x4) (fun r14 => (if r14 = (0 : Int32) then some (0 : Int32) else some (1 : Int32))))
set_option maxRecDepth 100000 in
set_option maxHeartbeats 4000000 in
theorem w_X3_leavesOne_J69 {p : Program} {l : Launch} {e : Env} {s : State} {m : MethodId} {args : Array Value} {below : List Frame} {meth : Method} {c : Code} {G : gk_G} {A : Nat → Prop} {Q : State → Prop} {a0 a1 a2 : Nat} (C : gk_C p s m args meth c cX3_leavesOne 6 (some .boolean) yX3_leavesOne wsX3_leavesOne true G A) {f_n : Int32} {f_boths : (Nat → Int64)} {x1 : Int32} {x2 : Int32} {x3 : Int32} {x4 : Int32} {yy : Int32} (hm : m_X3_leavesOne_J69 f_n f_boths x1 x2 x3 x4 = some yy) (kr : ∀ (rv : Int32), yy = rv → Q = MQ below (gk_Q G (some (.int rv)) [(a0, .inr (2, [.int f_n, .ref a1, .ref a2])), (a1, gk_J G 64 f_boths)] A) args s 0 0 A) {H : Heap} {locs : List Loc} {ls : Array Slot} (h : gk_H G A s [(a0, .inr (2, [.int f_n, .ref a1, .ref a2])), (a1, gk_J G 64 f_boths)] H locs) (hl : lv_has ls 6 [(0, .ref a0), (1, .int x1), (2, .int x2), (3, .int x3), (4, .int x4)]) : W p l e rm_X3_leavesOne s m args below meth c H locs 0 0 Q (F0 m 69 ls []) := by
  obtain ⟨hx, hb, hml, hr, hown, hnm, hts, hlk, hK, hSt, hA⟩ := id C
  obtain ⟨hP, hD, hS⟩ := h
  unfold m_X3_leavesOne_J69 at hm
  refine lv_iload_n hx hb dX3_leavesOne_69 rfl (lv_at hl 3 rfl) ?_
  refine lv_iload hx hb dX3_leavesOne_70 (lv_at hl 4 rfl) ?_
  refine lv_ior hx hb dX3_leavesOne_72 ?_
  refine lv_if_eq (tgt := 92) hx hb dX3_leavesOne_73 (by decide) (fun c13 => ?_) (fun c13 => ?_)
  · have hm := gk_it c13 hm
    refine lv_iconst (v := 0) hx hb dX3_leavesOne_92 (by decide) ?_
    rw [kr _ (Option.some.inj hm).symm]
    exact gk_zret C ⟨hP, hD, hS⟩ rfl dX3_leavesOne_93
  · have hm := gk_if c13 hm
    refine lv_aload_n hx hb dX3_leavesOne_76 rfl (lv_at hl 0 rfl) ?_
    refine lv_iload_n hx hb dX3_leavesOne_77 rfl (lv_at hl 1 rfl) ?_
    refine lv_iload_n hx hb dX3_leavesOne_78 rfl (lv_at hl 2 rfl) ?_
    refine lv_iload_n hx hb dX3_leavesOne_79 rfl (lv_at hl 3 rfl) ?_
    refine lv_iload hx hb dX3_leavesOne_80 (lv_at hl 4 rfl) ?_
    obtain ⟨r14, hq, hm⟩ := gk_bd1_some hm
    refine gk_callV (n := 4) (bytes := cX3_holdsOneWithout) (maxL := 10) (ret := (some .boolean)) (Cn := RX3) (T := TX3) (N := 3) [] [(a0, .inr (2, [.int f_n, .ref a1, .ref a2])), (a1, gk_J G 64 f_boths)] [] C ⟨hP, hD, hS⟩ (c_X3_holdsOneWithout l G a0 a1 a2 f_n f_boths x1 x2 x3 x4 hq) gX3_leavesOne_X3_holdsOneWithout dX3_leavesOne_82 hl.1 [0, 1] [] [0, 1] rfl rfl ⟨rfl, rfl⟩ ⟨Nat.le_of_ble_eq_true rfl, Nat.le_of_ble_eq_true rfl⟩ ⟨rfl, by decide +kernel, by decide +kernel, by decide +kernel⟩ rfl (fun h => h) (Nat.le_of_ble_eq_true rfl) rfl rfl rfl rfl (by decide) rfl rfl (fun H locs h => ?_)
    obtain ⟨hP, hD, hS⟩ := h
    refine lv_if_eq (tgt := 92) hx hb dX3_leavesOne_85 (by decide) (fun c15 => ?_) (fun c15 => ?_)
    · have hm := gk_it c15 hm
      refine lv_iconst (v := 0) hx hb dX3_leavesOne_92 (by decide) ?_
      rw [kr _ (Option.some.inj hm).symm]
      exact gk_zret C ⟨hP, hD, hS⟩ rfl dX3_leavesOne_93
    · have hm := gk_if c15 hm
      refine lv_iconst (v := 1) hx hb dX3_leavesOne_88 (by decide) ?_
      refine lv_goto (tgt := 93) hx hb dX3_leavesOne_89 (by decide) ?_
      rw [kr _ (Option.some.inj hm).symm]
      exact gk_zret C ⟨hP, hD, hS⟩ rfl dX3_leavesOne_93
def m_X3_leavesOne_0 (f_n : Int32) (f_boths : (Nat → Int64)) (x1 : Int32) (x2 : Int32) : Option (Int32) := gk_bd2 (gk_lp (fun z => m_X3_leavesOne_B8 f_n f_boths x1 x2 z.1 z.2.1 z.2.2) gk_fu ((0 : Int32), (0 : Int32), (0 : Int32))) (fun e11 e12 => m_X3_leavesOne_J69 f_n f_boths x1 x2 e11 e12)
set_option maxRecDepth 100000 in
set_option maxHeartbeats 4000000 in
theorem w_X3_leavesOne_0 {p : Program} {l : Launch} {e : Env} {s : State} {m : MethodId} {args : Array Value} {below : List Frame} {meth : Method} {c : Code} {G : gk_G} {A : Nat → Prop} {Q : State → Prop} {a0 a1 a2 : Nat} (C : gk_C p s m args meth c cX3_leavesOne 6 (some .boolean) yX3_leavesOne wsX3_leavesOne true G A) {f_n : Int32} {f_boths : (Nat → Int64)} {x1 : Int32} {x2 : Int32} {yy : Int32} (hm : m_X3_leavesOne_0 f_n f_boths x1 x2 = some yy) (kr : ∀ (rv : Int32), yy = rv → Q = MQ below (gk_Q G (some (.int rv)) [(a0, .inr (2, [.int f_n, .ref a1, .ref a2])), (a1, gk_J G 64 f_boths)] A) args s 0 0 A) {H : Heap} {locs : List Loc} {ls : Array Slot} (h : gk_H G A s [(a0, .inr (2, [.int f_n, .ref a1, .ref a2])), (a1, gk_J G 64 f_boths)] H locs) (hl : lv_has ls 6 [(0, .ref a0), (1, .int x1), (2, .int x2)]) : W p l e rm_X3_leavesOne s m args below meth c H locs 0 0 Q (F0 m 0 ls []) := by
  obtain ⟨hx, hb, hml, hr, hown, hnm, hts, hlk, hK, hSt, hA⟩ := id C
  obtain ⟨hP, hD, hS⟩ := h
  unfold m_X3_leavesOne_0 at hm
  refine lv_iconst (v := 0) hx hb dX3_leavesOne_0 (by decide) ?_
  refine lv_istore_n (lv' := [(3, .int (0 : Int32)), (0, .ref a0), (1, .int x1), (2, .int x2)]) hx hb dX3_leavesOne_1 rfl hl (by decide) rfl (fun ls hl => ?_)
  refine lv_iconst (v := 0) hx hb dX3_leavesOne_2 (by decide) ?_
  refine lv_istore (lv' := [(4, .int (0 : Int32)), (3, .int (0 : Int32)), (0, .ref a0), (1, .int x1), (2, .int x2)]) hx hb dX3_leavesOne_3 hl (by decide) rfl (fun ls hl => ?_)
  refine lv_iconst (v := 0) hx hb dX3_leavesOne_5 (by decide) ?_
  refine lv_istore (lv' := [(5, .int (0 : Int32)), (4, .int (0 : Int32)), (3, .int (0 : Int32)), (0, .ref a0), (1, .int x1), (2, .int x2)]) hx hb dX3_leavesOne_6 hl (by decide) rfl (fun ls hl => ?_)
  obtain ⟨e11, e12, hq, hm⟩ := gk_bd2_some hm
  refine w_X3_leavesOne_L8 C hq (fun H locs ls h hl => ?_) ⟨hP, hD, hS⟩ (lv_sub hl [3, 4, 5, 2, 1, 0] rfl)
  obtain ⟨hP, hD, hS⟩ := h
  exact w_X3_leavesOne_J69 C hm kr ⟨hP, hD, hS⟩ (lv_sub hl [0, 1, 2, 3, 4] rfl)
def m_X3_leavesOne (f_n : Int32) (f_boths : (Nat → Int64)) (x1 : Int32) (x2 : Int32) : Option (Int32) := m_X3_leavesOne_0 f_n f_boths x1 x2
theorem c_X3_leavesOne (l : Launch) (G : gk_G) (a0 a1 a2 : Nat) (f_n : Int32) (f_boths : (Nat → Int64)) (x1 : Int32) (x2 : Int32) {rv : Int32} (hm : m_X3_leavesOne f_n f_boths x1 x2 = some rv) : gk_M l yX3_leavesOne wsX3_leavesOne rm_X3_leavesOne true G [.ref a0, .int x1, .int x2] [(a0, .inr (2, [.int f_n, .ref a1, .ref a2])), (a1, gk_J G 64 f_boths)] (some (.int rv)) [(a0, .inr (2, [.int f_n, .ref a1, .ref a2])), (a1, gk_J G 64 f_boths)] :=
  gk_of (by decide) rfl (Nat.le_of_ble_eq_true rfl) (fun p e s m below meth c A ls C h hl => w_X3_leavesOne_0 C hm (fun v0 ez => by cases ez; rfl) h (show lv_has ls 6 [(0, .ref a0), (1, .int x1), (2, .int x2)] from hl))

/-! ===== ExchangeFamilies.Sums.areSprung()Z ===== -/
abbrev rm_X3_areSprung : Room := { frames := 9, cells := 0, slots := 0, locals := 413 }
theorem k_X3_areSprung_0 : ∀ w ∈ u_ws RX3 TX3 3, w ∈ wsX3_areSprung := by decide +kernel
theorem k_X3_areSprung_1 : Cond.fieldLink RX3 9 "ExchangeFamilies$Sums" "n" "I" ∈ wsX3_areSprung := by decide +kernel
theorem k_X3_areSprung_2 : Cond.fieldLink RX3 15 "ExchangeFamilies$Sums" "boths" "[J" ∈ wsX3_areSprung := by decide +kernel
def m_X3_areSprung_B37 (f_n : Int32) (f_boths : (Nat → Int64)) (x1 : Int32) (x2 : Int32) (x3 : Int32) : Option ((Int32) ⊕ ((Int32) ⊕ (Unit))) := (if x2 < x3 then some (.inr (.inr ())) else (if (x3 &&& (x2 ^^^ (-1 : Int32))) = (0 : Int32) then gk_bd1 (m_X3_holdsRow f_boths x2 x3) (fun r12 => (if r12 = (0 : Int32) then gk_bd1 (m_X3_leavesOne f_n f_boths x2 x3) (fun r14 => (if r14 = (0 : Int32) then some (.inl (x3 + 1)) else some (.inr (.inl (0 : Int32))))) else some (.inl (x3 + 1)))) else some (.inl (x3 + 1))))
set_option maxRecDepth 100000 in
set_option maxHeartbeats 4000000 in
theorem w_X3_areSprung_B37 {p : Program} {l : Launch} {e : Env} {s : State} {m : MethodId} {args : Array Value} {below : List Frame} {meth : Method} {c : Code} {G : gk_G} {A : Nat → Prop} {Q : State → Prop} {a0 a1 a2 : Nat} (C : gk_C p s m args meth c cX3_areSprung 4 (some .boolean) yX3_areSprung wsX3_areSprung true G A) {f_n : Int32} {f_boths : (Nat → Int64)} {x1 : Int32} {x2 : Int32} {x3 : Int32} {yy : (Int32) ⊕ ((Int32) ⊕ (Unit))} (hm : m_X3_areSprung_B37 f_n f_boths x1 x2 x3 = some yy) (kl : ∀ (x3 : Int32), yy = .inl x3 → ∀ (H : Heap) (locs : List Loc) (ls : Array Slot), gk_H G A s [(a0, .inr (2, [.int f_n, .ref a1, .ref a2])), (a1, gk_J G 64 f_boths)] H locs → lv_has ls 4 [(0, .ref a0), (1, .int x1), (2, .int x2), (3, .int x3)] → W p l e rm_X3_areSprung s m args below meth c H locs 0 0 Q (F0 m 37 ls [])) (kx : yy = .inr (.inr ()) → ∀ (H : Heap) (locs : List Loc) (ls : Array Slot), gk_H G A s [(a0, .inr (2, [.int f_n, .ref a1, .ref a2])), (a1, gk_J G 64 f_boths)] H locs → lv_has ls 4 [(0, .ref a0), (1, .int x1), (2, .int x2)] → W p l e rm_X3_areSprung s m args below meth c H locs 0 0 Q (F0 m 76 ls [])) (kr : ∀ (rv : Int32), yy = .inr (.inl rv) → Q = MQ below (gk_Q G (some (.int rv)) [(a0, .inr (2, [.int f_n, .ref a1, .ref a2])), (a1, gk_J G 64 f_boths)] A) args s 0 0 A) {H : Heap} {locs : List Loc} {ls : Array Slot} (h : gk_H G A s [(a0, .inr (2, [.int f_n, .ref a1, .ref a2])), (a1, gk_J G 64 f_boths)] H locs) (hl : lv_has ls 4 [(0, .ref a0), (1, .int x1), (2, .int x2), (3, .int x3)]) : W p l e rm_X3_areSprung s m args below meth c H locs 0 0 Q (F0 m 37 ls []) := by
  obtain ⟨hx, hb, hml, hr, hown, hnm, hts, hlk, hK, hSt, hA⟩ := id C
  obtain ⟨hP, hD, hS⟩ := h
  unfold m_X3_areSprung_B37 at hm
  refine lv_iload_n hx hb dX3_areSprung_37 rfl (lv_at hl 3 rfl) ?_
  refine lv_iload_n hx hb dX3_areSprung_38 rfl (lv_at hl 2 rfl) ?_
  refine lv_icmp_gt (tgt := 76) hx hb dX3_areSprung_39 (by decide) (fun c10 => ?_) (fun c10 => ?_)
  · have hm := gk_it c10 hm
    exact kx (Option.some.inj hm).symm _ _ _ ⟨hP, hD, hS⟩ (lv_sub hl [0, 1, 2] rfl)
  · have hm := gk_if c10 hm
    refine lv_iload_n hx hb dX3_areSprung_42 rfl (lv_at hl 3 rfl) ?_
    refine lv_iload_n hx hb dX3_areSprung_43 rfl (lv_at hl 2 rfl) ?_
    refine lv_iconst (v := -1) hx hb dX3_areSprung_44 (by decide) ?_
    refine lv_ixor hx hb dX3_areSprung_45 ?_
    refine lv_iand hx hb dX3_areSprung_46 ?_
    refine lv_if_ne (tgt := 70) hx hb dX3_areSprung_47 (by decide) (fun c11 => ?_) (fun c11 => ?_)
    · have hm := gk_if c11 hm
      refine lv_iinc (v := x3 + 1) (lv' := [(3, .int (x3 + 1)), (0, .ref a0), (1, .int x1), (2, .int x2)]) hx hb dX3_areSprung_70 hl (k := 3) rfl rfl (by decide) rfl (fun ls hl => ?_)
      refine lv_goto (tgt := 37) hx hb dX3_areSprung_73 (by decide) ?_
      exact kl _ (Option.some.inj hm).symm _ _ _ ⟨hP, hD, hS⟩ (lv_sub hl [1, 2, 3, 0] rfl)
    · have hm := gk_it c11 hm
      refine lv_aload_n hx hb dX3_areSprung_50 rfl (lv_at hl 0 rfl) ?_
      refine lv_iload_n hx hb dX3_areSprung_51 rfl (lv_at hl 2 rfl) ?_
      refine lv_iload_n hx hb dX3_areSprung_52 rfl (lv_at hl 3 rfl) ?_
      obtain ⟨r12, hq, hm⟩ := gk_bd1_some hm
      refine gk_callV (n := 2) (bytes := cX3_holdsRow) (maxL := 3) (ret := (some .boolean)) (Cn := RX3) (T := TX3) (N := 3) [] [(a0, .inr (2, [.int f_n, .ref a1, .ref a2])), (a1, gk_J G 64 f_boths)] [] C ⟨hP, hD, hS⟩ (c_X3_holdsRow l G a0 a1 a2 f_n f_boths x2 x3 hq) gX3_areSprung_X3_holdsRow dX3_areSprung_53 hl.1 [0, 1] [] [0, 1] rfl rfl ⟨rfl, rfl⟩ ⟨Nat.le_of_ble_eq_true rfl, Nat.le_of_ble_eq_true rfl⟩ ⟨rfl, by decide +kernel, by decide +kernel, by decide +kernel⟩ rfl (fun h => by cases h) (Nat.le_of_ble_eq_true rfl) rfl rfl rfl rfl (by decide) rfl rfl (fun H locs h => ?_)
      obtain ⟨hP, hD, hS⟩ := h
      refine lv_if_ne (tgt := 70) hx hb dX3_areSprung_56 (by decide) (fun c13 => ?_) (fun c13 => ?_)
      · have hm := gk_if c13 hm
        refine lv_iinc (v := x3 + 1) (lv' := [(3, .int (x3 + 1)), (0, .ref a0), (1, .int x1), (2, .int x2)]) hx hb dX3_areSprung_70 hl (k := 3) rfl rfl (by decide) rfl (fun ls hl => ?_)
        refine lv_goto (tgt := 37) hx hb dX3_areSprung_73 (by decide) ?_
        exact kl _ (Option.some.inj hm).symm _ _ _ ⟨hP, hD, hS⟩ (lv_sub hl [1, 2, 3, 0] rfl)
      · have hm := gk_it c13 hm
        refine lv_aload_n hx hb dX3_areSprung_59 rfl (lv_at hl 0 rfl) ?_
        refine lv_iload_n hx hb dX3_areSprung_60 rfl (lv_at hl 2 rfl) ?_
        refine lv_iload_n hx hb dX3_areSprung_61 rfl (lv_at hl 3 rfl) ?_
        obtain ⟨r14, hq, hm⟩ := gk_bd1_some hm
        refine gk_callV (n := 2) (bytes := cX3_leavesOne) (maxL := 6) (ret := (some .boolean)) (Cn := RX3) (T := TX3) (N := 3) [] [(a0, .inr (2, [.int f_n, .ref a1, .ref a2])), (a1, gk_J G 64 f_boths)] [] C ⟨hP, hD, hS⟩ (c_X3_leavesOne l G a0 a1 a2 f_n f_boths x2 x3 hq) gX3_areSprung_X3_leavesOne dX3_areSprung_62 hl.1 [0, 1] [] [0, 1] rfl rfl ⟨rfl, rfl⟩ ⟨Nat.le_of_ble_eq_true rfl, Nat.le_of_ble_eq_true rfl⟩ ⟨rfl, by decide +kernel, by decide +kernel, by decide +kernel⟩ rfl (fun h => h) (Nat.le_of_ble_eq_true rfl) rfl rfl rfl rfl (by decide) rfl rfl (fun H locs h => ?_)
        obtain ⟨hP, hD, hS⟩ := h
        refine lv_if_eq (tgt := 70) hx hb dX3_areSprung_65 (by decide) (fun c15 => ?_) (fun c15 => ?_)
        · have hm := gk_it c15 hm
          refine lv_iinc (v := x3 + 1) (lv' := [(3, .int (x3 + 1)), (0, .ref a0), (1, .int x1), (2, .int x2)]) hx hb dX3_areSprung_70 hl (k := 3) rfl rfl (by decide) rfl (fun ls hl => ?_)
          refine lv_goto (tgt := 37) hx hb dX3_areSprung_73 (by decide) ?_
          exact kl _ (Option.some.inj hm).symm _ _ _ ⟨hP, hD, hS⟩ (lv_sub hl [1, 2, 3, 0] rfl)
        · have hm := gk_if c15 hm
          refine lv_iconst (v := 0) hx hb dX3_areSprung_68 (by decide) ?_
          rw [kr _ (Option.some.inj hm).symm]
          exact gk_zret C ⟨hP, hD, hS⟩ rfl dX3_areSprung_69
set_option maxRecDepth 100000 in
set_option maxHeartbeats 4000000 in
theorem w_X3_areSprung_L37 {p : Program} {l : Launch} {e : Env} {s : State} {m : MethodId} {args : Array Value} {below : List Frame} {meth : Method} {c : Code} {G : gk_G} {A : Nat → Prop} {Q : State → Prop} {a0 a1 a2 : Nat} (C : gk_C p s m args meth c cX3_areSprung 4 (some .boolean) yX3_areSprung wsX3_areSprung true G A) {f_n : Int32} {f_boths : (Nat → Int64)} {x1 : Int32} {x2 : Int32} {x3 : Int32} {k : Nat} (hm : gk_lp (fun z => m_X3_areSprung_B37 f_n f_boths x1 x2 z) k x3 = some (.inr ())) (kx : ∀ (H : Heap) (locs : List Loc) (ls : Array Slot), gk_H G A s [(a0, .inr (2, [.int f_n, .ref a1, .ref a2])), (a1, gk_J G 64 f_boths)] H locs → lv_has ls 4 [(0, .ref a0), (1, .int x1), (2, .int x2)] → W p l e rm_X3_areSprung s m args below meth c H locs 0 0 Q (F0 m 76 ls [])) {H : Heap} {locs : List Loc} {ls : Array Slot} (h : gk_H G A s [(a0, .inr (2, [.int f_n, .ref a1, .ref a2])), (a1, gk_J G 64 f_boths)] H locs) (hl : lv_has ls 4 [(0, .ref a0), (1, .int x1), (2, .int x2), (3, .int x3)]) : W p l e rm_X3_areSprung s m args below meth c H locs 0 0 Q (F0 m 37 ls []) :=
  gk_lp_some (P := fun z => ∀ (H : Heap) (locs : List Loc) (ls : Array Slot), gk_H G A s [(a0, .inr (2, [.int f_n, .ref a1, .ref a2])), (a1, gk_J G 64 f_boths)] H locs → lv_has ls 4 [(0, .ref a0), (1, .int x1), (2, .int x2), (3, .int z)] → W p l e rm_X3_areSprung s m args below meth c H locs 0 0 Q (F0 m 37 ls [])) (E := fun r => (r = .inr () → ∀ (H : Heap) (locs : List Loc) (ls : Array Slot), gk_H G A s [(a0, .inr (2, [.int f_n, .ref a1, .ref a2])), (a1, gk_J G 64 f_boths)] H locs → lv_has ls 4 [(0, .ref a0), (1, .int x1), (2, .int x2)] → W p l e rm_X3_areSprung s m args below meth c H locs 0 0 Q (F0 m 76 ls [])) ∧ (∀ (rv : Int32), r = .inl rv → Q = MQ below (gk_Q G (some (.int rv)) [(a0, .inr (2, [.int f_n, .ref a1, .ref a2])), (a1, gk_J G 64 f_boths)] A) args s 0 0 A)) (fun z x hf kl ke H locs ls h hl => w_X3_areSprung_B37 C hf (fun v0 ez => kl v0 ez) (fun ez => (ke _ ez).1 rfl) (fun v0 ez => (ke _ ez).2 v0 rfl) h hl) k x3 _ hm (⟨fun ez => (by cases ez; exact kx), fun v0 ez => (by cases ez)⟩) _ _ _ h hl
set_option maxRecDepth 100000 in
set_option maxHeartbeats 4000000 in
theorem w_X3_areSprung_L37r {p : Program} {l : Launch} {e : Env} {s : State} {m : MethodId} {args : Array Value} {below : List Frame} {meth : Method} {c : Code} {G : gk_G} {A : Nat → Prop} {Q : State → Prop} {a0 a1 a2 : Nat} (C : gk_C p s m args meth c cX3_areSprung 4 (some .boolean) yX3_areSprung wsX3_areSprung true G A) {f_n : Int32} {f_boths : (Nat → Int64)} {x1 : Int32} {x2 : Int32} {x3 : Int32} {k : Nat} {rv : Int32} (hm : gk_lp (fun z => m_X3_areSprung_B37 f_n f_boths x1 x2 z) k x3 = some (.inl rv)) (kr : Q = MQ below (gk_Q G (some (.int rv)) [(a0, .inr (2, [.int f_n, .ref a1, .ref a2])), (a1, gk_J G 64 f_boths)] A) args s 0 0 A) {H : Heap} {locs : List Loc} {ls : Array Slot} (h : gk_H G A s [(a0, .inr (2, [.int f_n, .ref a1, .ref a2])), (a1, gk_J G 64 f_boths)] H locs) (hl : lv_has ls 4 [(0, .ref a0), (1, .int x1), (2, .int x2), (3, .int x3)]) : W p l e rm_X3_areSprung s m args below meth c H locs 0 0 Q (F0 m 37 ls []) :=
  gk_lp_some (P := fun z => ∀ (H : Heap) (locs : List Loc) (ls : Array Slot), gk_H G A s [(a0, .inr (2, [.int f_n, .ref a1, .ref a2])), (a1, gk_J G 64 f_boths)] H locs → lv_has ls 4 [(0, .ref a0), (1, .int x1), (2, .int x2), (3, .int z)] → W p l e rm_X3_areSprung s m args below meth c H locs 0 0 Q (F0 m 37 ls [])) (E := fun r => (r = .inr () → ∀ (H : Heap) (locs : List Loc) (ls : Array Slot), gk_H G A s [(a0, .inr (2, [.int f_n, .ref a1, .ref a2])), (a1, gk_J G 64 f_boths)] H locs → lv_has ls 4 [(0, .ref a0), (1, .int x1), (2, .int x2)] → W p l e rm_X3_areSprung s m args below meth c H locs 0 0 Q (F0 m 76 ls [])) ∧ (∀ (rv : Int32), r = .inl rv → Q = MQ below (gk_Q G (some (.int rv)) [(a0, .inr (2, [.int f_n, .ref a1, .ref a2])), (a1, gk_J G 64 f_boths)] A) args s 0 0 A)) (fun z x hf kl ke H locs ls h hl => w_X3_areSprung_B37 C hf (fun v0 ez => kl v0 ez) (fun ez => (ke _ ez).1 rfl) (fun v0 ez => (ke _ ez).2 v0 rfl) h hl) k x3 _ hm (⟨fun ez => (by cases ez), fun v0 ez => (by cases ez; exact kr)⟩) _ _ _ h hl
def m_X3_areSprung_B4 (f_n : Int32) (f_boths : (Nat → Int64)) (x1 : Int32) (x2 : Int32) : Option ((Int32 × Int32) ⊕ ((Int32) ⊕ (Int32))) := (if ((1 : Int32) <<< (f_n &&& 31)) ≤ x2 then some (.inr (.inr x1)) else (if x1 = (0 : Int32) then gk_ix x2 64 ((if (lg_cmp (f_boths x2.toNatClampNeg) (0 : Int64)) = (0 : Int32) then gk_bs0 (gk_lp (fun z => m_X3_areSprung_B37 f_n f_boths (0 : Int32) x2 z) gk_fu (0 : Int32)) (fun r => some (.inr (.inl r))) (some (.inl ((0 : Int32), x2 + 1))) else gk_bs0 (gk_lp (fun z => m_X3_areSprung_B37 f_n f_boths (1 : Int32) x2 z) gk_fu (0 : Int32)) (fun r => some (.inr (.inl r))) (some (.inl ((1 : Int32), x2 + 1))))) else gk_bs0 (gk_lp (fun z => m_X3_areSprung_B37 f_n f_boths (1 : Int32) x2 z) gk_fu (0 : Int32)) (fun r => some (.inr (.inl r))) (some (.inl ((1 : Int32), x2 + 1)))))
set_option maxRecDepth 100000 in
set_option maxHeartbeats 4000000 in
theorem w_X3_areSprung_B4 {p : Program} {l : Launch} {e : Env} {s : State} {m : MethodId} {args : Array Value} {below : List Frame} {meth : Method} {c : Code} {G : gk_G} {A : Nat → Prop} {Q : State → Prop} {a0 a1 a2 : Nat} (C : gk_C p s m args meth c cX3_areSprung 4 (some .boolean) yX3_areSprung wsX3_areSprung true G A) {f_n : Int32} {f_boths : (Nat → Int64)} {x1 : Int32} {x2 : Int32} {yy : (Int32 × Int32) ⊕ ((Int32) ⊕ (Int32))} (hm : m_X3_areSprung_B4 f_n f_boths x1 x2 = some yy) (kl : ∀ (x1 : Int32) (x2 : Int32), yy = .inl (x1, x2) → ∀ (H : Heap) (locs : List Loc) (ls : Array Slot), gk_H G A s [(a0, .inr (2, [.int f_n, .ref a1, .ref a2])), (a1, gk_J G 64 f_boths)] H locs → lv_has ls 4 [(0, .ref a0), (1, .int x1), (2, .int x2)] → W p l e rm_X3_areSprung s m args below meth c H locs 0 0 Q (F0 m 4 ls [])) (kx : ∀ (x1 : Int32), yy = .inr (.inr x1) → ∀ (H : Heap) (locs : List Loc) (ls : Array Slot), gk_H G A s [(a0, .inr (2, [.int f_n, .ref a1, .ref a2])), (a1, gk_J G 64 f_boths)] H locs → lv_has ls 4 [(1, .int x1)] → W p l e rm_X3_areSprung s m args below meth c H locs 0 0 Q (F0 m 82 ls [])) (kr : ∀ (rv : Int32), yy = .inr (.inl rv) → Q = MQ below (gk_Q G (some (.int rv)) [(a0, .inr (2, [.int f_n, .ref a1, .ref a2])), (a1, gk_J G 64 f_boths)] A) args s 0 0 A) {H : Heap} {locs : List Loc} {ls : Array Slot} (h : gk_H G A s [(a0, .inr (2, [.int f_n, .ref a1, .ref a2])), (a1, gk_J G 64 f_boths)] H locs) (hl : lv_has ls 4 [(0, .ref a0), (1, .int x1), (2, .int x2)]) : W p l e rm_X3_areSprung s m args below meth c H locs 0 0 Q (F0 m 4 ls []) := by
  obtain ⟨hx, hb, hml, hr, hown, hnm, hts, hlk, hK, hSt, hA⟩ := id C
  obtain ⟨hP, hD, hS⟩ := h
  unfold m_X3_areSprung_B4 at hm
  refine lv_iload_n hx hb dX3_areSprung_4 rfl (lv_at hl 2 rfl) ?_
  refine lv_iconst (v := 1) hx hb dX3_areSprung_5 (by decide) ?_
  refine lv_aload_n hx hb dX3_areSprung_6 rfl (lv_at hl 0 rfl) ?_
  refine va_get (D := G.1) (cl := vwCl) (own := RX3) (ref := "ExchangeFamilies$Sums") (ci := 2) (v := .int f_n) (C := RX3) (T := TX3) (N := 3) hx hb hts k_X3_areSprung_0 hown hK hP 0 rfl rfl 0 (by decide) (hts _ k_X3_areSprung_1) (fun _ h9 => h9) rfl dX3_areSprung_7 ?_
  refine lv_ishl hx hb dX3_areSprung_10 ?_
  refine lv_icmp_ge (tgt := 82) hx hb dX3_areSprung_11 (by decide) (fun c8 => ?_) (fun c8 => ?_)
  · have hm := gk_it c8 hm
    exact kx _ (Option.some.inj hm).symm _ _ _ ⟨hP, hD, hS⟩ (lv_sub hl [1] rfl)
  · have hm := gk_if c8 hm
    refine lv_iload_n hx hb dX3_areSprung_14 rfl (lv_at hl 1 rfl) ?_
    refine lv_if_ne (tgt := 29) hx hb dX3_areSprung_15 (by decide) (fun c9 => ?_) (fun c9 => ?_)
    · have hm := gk_if c9 hm
      refine lv_iconst (v := 1) hx hb dX3_areSprung_29 (by decide) ?_
      refine lv_goto (tgt := 34) hx hb dX3_areSprung_30 (by decide) ?_
      refine lv_istore_n (lv' := [(1, .int (1 : Int32)), (0, .ref a0), (2, .int x2)]) hx hb dX3_areSprung_34 rfl hl (by decide) rfl (fun ls hl => ?_)
      refine lv_iconst (v := 0) hx hb dX3_areSprung_35 (by decide) ?_
      refine lv_istore_n (lv' := [(3, .int (0 : Int32)), (1, .int (1 : Int32)), (0, .ref a0), (2, .int x2)]) hx hb dX3_areSprung_36 rfl hl (by decide) rfl (fun ls hl => ?_)
      rcases gk_bs0_some hm with ⟨r16, hq, hm⟩ | ⟨hq, hm⟩
      · exact w_X3_areSprung_L37r C hq (kr _ (Option.some.inj hm).symm) ⟨hP, hD, hS⟩ (lv_sub hl [2, 1, 3, 0] rfl)
      refine w_X3_areSprung_L37 C hq (fun H locs ls h hl => ?_) ⟨hP, hD, hS⟩ (lv_sub hl [2, 1, 3, 0] rfl)
      obtain ⟨hP, hD, hS⟩ := h
      refine lv_iinc (v := x2 + 1) (lv' := [(2, .int (x2 + 1)), (0, .ref a0), (1, .int (1 : Int32))]) hx hb dX3_areSprung_76 hl (k := 2) rfl rfl (by decide) rfl (fun ls hl => ?_)
      refine lv_goto (tgt := 4) hx hb dX3_areSprung_79 (by decide) ?_
      exact kl _ _ (Option.some.inj hm).symm _ _ _ ⟨hP, hD, hS⟩ (lv_sub hl [1, 2, 0] rfl)
    · have hm := gk_it c9 hm
      refine lv_aload_n hx hb dX3_areSprung_18 rfl (lv_at hl 0 rfl) ?_
      refine va_get (D := G.1) (cl := vwCl) (own := RX3) (ref := "ExchangeFamilies$Sums") (ci := 2) (v := .ref a1) (C := RX3) (T := TX3) (N := 3) hx hb hts k_X3_areSprung_0 hown hK hP 0 rfl rfl 1 (by decide) (hts _ k_X3_areSprung_2) (fun _ h9 => h9) rfl dX3_areSprung_19 ?_
      refine lv_iload_n hx hb dX3_areSprung_22 rfl (lv_at hl 2 rfl) ?_
      obtain ⟨hi, hm⟩ := gk_ix_some hm
      refine va_lald hx hb hK hP 1 1 rfl rfl hi dX3_areSprung_23 ?_
      refine lv_lconst (v := 0) hx hb dX3_areSprung_24 (by decide) ?_
      refine W.lcmp hx hb dX3_areSprung_25 ?_
      refine lv_if_eq (tgt := 33) hx hb dX3_areSprung_26 (by decide) (fun c17 => ?_) (fun c17 => ?_)
      · have hm := gk_it c17 hm
        refine lv_iconst (v := 0) hx hb dX3_areSprung_33 (by decide) ?_
        refine lv_istore_n (lv' := [(1, .int (0 : Int32)), (0, .ref a0), (2, .int x2)]) hx hb dX3_areSprung_34 rfl hl (by decide) rfl (fun ls hl => ?_)
        refine lv_iconst (v := 0) hx hb dX3_areSprung_35 (by decide) ?_
        refine lv_istore_n (lv' := [(3, .int (0 : Int32)), (1, .int (0 : Int32)), (0, .ref a0), (2, .int x2)]) hx hb dX3_areSprung_36 rfl hl (by decide) rfl (fun ls hl => ?_)
        rcases gk_bs0_some hm with ⟨r18, hq, hm⟩ | ⟨hq, hm⟩
        · exact w_X3_areSprung_L37r C hq (kr _ (Option.some.inj hm).symm) ⟨hP, hD, hS⟩ (lv_sub hl [2, 1, 3, 0] rfl)
        refine w_X3_areSprung_L37 C hq (fun H locs ls h hl => ?_) ⟨hP, hD, hS⟩ (lv_sub hl [2, 1, 3, 0] rfl)
        obtain ⟨hP, hD, hS⟩ := h
        refine lv_iinc (v := x2 + 1) (lv' := [(2, .int (x2 + 1)), (0, .ref a0), (1, .int (0 : Int32))]) hx hb dX3_areSprung_76 hl (k := 2) rfl rfl (by decide) rfl (fun ls hl => ?_)
        refine lv_goto (tgt := 4) hx hb dX3_areSprung_79 (by decide) ?_
        exact kl _ _ (Option.some.inj hm).symm _ _ _ ⟨hP, hD, hS⟩ (lv_sub hl [1, 2, 0] rfl)
      · have hm := gk_if c17 hm
        refine lv_iconst (v := 1) hx hb dX3_areSprung_29 (by decide) ?_
        refine lv_goto (tgt := 34) hx hb dX3_areSprung_30 (by decide) ?_
        refine lv_istore_n (lv' := [(1, .int (1 : Int32)), (0, .ref a0), (2, .int x2)]) hx hb dX3_areSprung_34 rfl hl (by decide) rfl (fun ls hl => ?_)
        refine lv_iconst (v := 0) hx hb dX3_areSprung_35 (by decide) ?_
        refine lv_istore_n (lv' := [(3, .int (0 : Int32)), (1, .int (1 : Int32)), (0, .ref a0), (2, .int x2)]) hx hb dX3_areSprung_36 rfl hl (by decide) rfl (fun ls hl => ?_)
        rcases gk_bs0_some hm with ⟨r19, hq, hm⟩ | ⟨hq, hm⟩
        · exact w_X3_areSprung_L37r C hq (kr _ (Option.some.inj hm).symm) ⟨hP, hD, hS⟩ (lv_sub hl [2, 1, 3, 0] rfl)
        refine w_X3_areSprung_L37 C hq (fun H locs ls h hl => ?_) ⟨hP, hD, hS⟩ (lv_sub hl [2, 1, 3, 0] rfl)
        obtain ⟨hP, hD, hS⟩ := h
        refine lv_iinc (v := x2 + 1) (lv' := [(2, .int (x2 + 1)), (0, .ref a0), (1, .int (1 : Int32))]) hx hb dX3_areSprung_76 hl (k := 2) rfl rfl (by decide) rfl (fun ls hl => ?_)
        refine lv_goto (tgt := 4) hx hb dX3_areSprung_79 (by decide) ?_
        exact kl _ _ (Option.some.inj hm).symm _ _ _ ⟨hP, hD, hS⟩ (lv_sub hl [1, 2, 0] rfl)
set_option maxRecDepth 100000 in
set_option maxHeartbeats 4000000 in
theorem w_X3_areSprung_L4 {p : Program} {l : Launch} {e : Env} {s : State} {m : MethodId} {args : Array Value} {below : List Frame} {meth : Method} {c : Code} {G : gk_G} {A : Nat → Prop} {Q : State → Prop} {a0 a1 a2 : Nat} (C : gk_C p s m args meth c cX3_areSprung 4 (some .boolean) yX3_areSprung wsX3_areSprung true G A) {f_n : Int32} {f_boths : (Nat → Int64)} {x1 : Int32} {x2 : Int32} {k : Nat} {e_x1 : Int32} (hm : gk_lp (fun z => m_X3_areSprung_B4 f_n f_boths z.1 z.2) k (x1, x2) = some (.inr e_x1)) (kx : ∀ (H : Heap) (locs : List Loc) (ls : Array Slot), gk_H G A s [(a0, .inr (2, [.int f_n, .ref a1, .ref a2])), (a1, gk_J G 64 f_boths)] H locs → lv_has ls 4 [(1, .int e_x1)] → W p l e rm_X3_areSprung s m args below meth c H locs 0 0 Q (F0 m 82 ls [])) {H : Heap} {locs : List Loc} {ls : Array Slot} (h : gk_H G A s [(a0, .inr (2, [.int f_n, .ref a1, .ref a2])), (a1, gk_J G 64 f_boths)] H locs) (hl : lv_has ls 4 [(0, .ref a0), (1, .int x1), (2, .int x2)]) : W p l e rm_X3_areSprung s m args below meth c H locs 0 0 Q (F0 m 4 ls []) :=
  gk_lp_some (P := fun z => ∀ (H : Heap) (locs : List Loc) (ls : Array Slot), gk_H G A s [(a0, .inr (2, [.int f_n, .ref a1, .ref a2])), (a1, gk_J G 64 f_boths)] H locs → lv_has ls 4 [(0, .ref a0), (1, .int z.1), (2, .int z.2)] → W p l e rm_X3_areSprung s m args below meth c H locs 0 0 Q (F0 m 4 ls [])) (E := fun r => (∀ (x1 : Int32), r = .inr x1 → ∀ (H : Heap) (locs : List Loc) (ls : Array Slot), gk_H G A s [(a0, .inr (2, [.int f_n, .ref a1, .ref a2])), (a1, gk_J G 64 f_boths)] H locs → lv_has ls 4 [(1, .int x1)] → W p l e rm_X3_areSprung s m args below meth c H locs 0 0 Q (F0 m 82 ls [])) ∧ (∀ (rv : Int32), r = .inl rv → Q = MQ below (gk_Q G (some (.int rv)) [(a0, .inr (2, [.int f_n, .ref a1, .ref a2])), (a1, gk_J G 64 f_boths)] A) args s 0 0 A)) (fun z x hf kl ke H locs ls h hl => w_X3_areSprung_B4 C hf (fun v0 v1 ez => kl (v0, v1) ez) (fun v0 ez => (ke _ ez).1 v0 rfl) (fun v0 ez => (ke _ ez).2 v0 rfl) h hl) k (x1, x2) _ hm (⟨fun v0 ez => (by cases ez; exact kx), fun v0 ez => (by cases ez)⟩) _ _ _ h hl
set_option maxRecDepth 100000 in
set_option maxHeartbeats 4000000 in
theorem w_X3_areSprung_L4r {p : Program} {l : Launch} {e : Env} {s : State} {m : MethodId} {args : Array Value} {below : List Frame} {meth : Method} {c : Code} {G : gk_G} {A : Nat → Prop} {Q : State → Prop} {a0 a1 a2 : Nat} (C : gk_C p s m args meth c cX3_areSprung 4 (some .boolean) yX3_areSprung wsX3_areSprung true G A) {f_n : Int32} {f_boths : (Nat → Int64)} {x1 : Int32} {x2 : Int32} {k : Nat} {rv : Int32} (hm : gk_lp (fun z => m_X3_areSprung_B4 f_n f_boths z.1 z.2) k (x1, x2) = some (.inl rv)) (kr : Q = MQ below (gk_Q G (some (.int rv)) [(a0, .inr (2, [.int f_n, .ref a1, .ref a2])), (a1, gk_J G 64 f_boths)] A) args s 0 0 A) {H : Heap} {locs : List Loc} {ls : Array Slot} (h : gk_H G A s [(a0, .inr (2, [.int f_n, .ref a1, .ref a2])), (a1, gk_J G 64 f_boths)] H locs) (hl : lv_has ls 4 [(0, .ref a0), (1, .int x1), (2, .int x2)]) : W p l e rm_X3_areSprung s m args below meth c H locs 0 0 Q (F0 m 4 ls []) :=
  gk_lp_some (P := fun z => ∀ (H : Heap) (locs : List Loc) (ls : Array Slot), gk_H G A s [(a0, .inr (2, [.int f_n, .ref a1, .ref a2])), (a1, gk_J G 64 f_boths)] H locs → lv_has ls 4 [(0, .ref a0), (1, .int z.1), (2, .int z.2)] → W p l e rm_X3_areSprung s m args below meth c H locs 0 0 Q (F0 m 4 ls [])) (E := fun r => (∀ (x1 : Int32), r = .inr x1 → ∀ (H : Heap) (locs : List Loc) (ls : Array Slot), gk_H G A s [(a0, .inr (2, [.int f_n, .ref a1, .ref a2])), (a1, gk_J G 64 f_boths)] H locs → lv_has ls 4 [(1, .int x1)] → W p l e rm_X3_areSprung s m args below meth c H locs 0 0 Q (F0 m 82 ls [])) ∧ (∀ (rv : Int32), r = .inl rv → Q = MQ below (gk_Q G (some (.int rv)) [(a0, .inr (2, [.int f_n, .ref a1, .ref a2])), (a1, gk_J G 64 f_boths)] A) args s 0 0 A)) (fun z x hf kl ke H locs ls h hl => w_X3_areSprung_B4 C hf (fun v0 v1 ez => kl (v0, v1) ez) (fun v0 ez => (ke _ ez).1 v0 rfl) (fun v0 ez => (ke _ ez).2 v0 rfl) h hl) k (x1, x2) _ hm (⟨fun v0 ez => (by cases ez), fun v0 ez => (by cases ez; exact kr)⟩) _ _ _ h hl
def m_X3_areSprung_0 (f_n : Int32) (f_boths : (Nat → Int64)) : Option (Int32) := gk_bs1 (gk_lp (fun z => m_X3_areSprung_B4 f_n f_boths z.1 z.2) gk_fu ((0 : Int32), (0 : Int32))) (fun r => some r) (fun e20 => gk_bo e20 (some e20))
set_option maxRecDepth 100000 in
set_option maxHeartbeats 4000000 in
theorem w_X3_areSprung_0 {p : Program} {l : Launch} {e : Env} {s : State} {m : MethodId} {args : Array Value} {below : List Frame} {meth : Method} {c : Code} {G : gk_G} {A : Nat → Prop} {Q : State → Prop} {a0 a1 a2 : Nat} (C : gk_C p s m args meth c cX3_areSprung 4 (some .boolean) yX3_areSprung wsX3_areSprung true G A) {f_n : Int32} {f_boths : (Nat → Int64)} {yy : Int32} (hm : m_X3_areSprung_0 f_n f_boths = some yy) (kr : ∀ (rv : Int32), yy = rv → Q = MQ below (gk_Q G (some (.int rv)) [(a0, .inr (2, [.int f_n, .ref a1, .ref a2])), (a1, gk_J G 64 f_boths)] A) args s 0 0 A) {H : Heap} {locs : List Loc} {ls : Array Slot} (h : gk_H G A s [(a0, .inr (2, [.int f_n, .ref a1, .ref a2])), (a1, gk_J G 64 f_boths)] H locs) (hl : lv_has ls 4 [(0, .ref a0)]) : W p l e rm_X3_areSprung s m args below meth c H locs 0 0 Q (F0 m 0 ls []) := by
  obtain ⟨hx, hb, hml, hr, hown, hnm, hts, hlk, hK, hSt, hA⟩ := id C
  obtain ⟨hP, hD, hS⟩ := h
  unfold m_X3_areSprung_0 at hm
  refine lv_iconst (v := 0) hx hb dX3_areSprung_0 (by decide) ?_
  refine lv_istore_n (lv' := [(1, .int (0 : Int32)), (0, .ref a0)]) hx hb dX3_areSprung_1 rfl hl (by decide) rfl (fun ls hl => ?_)
  refine lv_iconst (v := 0) hx hb dX3_areSprung_2 (by decide) ?_
  refine lv_istore_n (lv' := [(2, .int (0 : Int32)), (1, .int (0 : Int32)), (0, .ref a0)]) hx hb dX3_areSprung_3 rfl hl (by decide) rfl (fun ls hl => ?_)
  rcases gk_bs1_some hm with ⟨r21, hq, hm⟩ | ⟨e20, hq, hm⟩
  · exact w_X3_areSprung_L4r C hq (kr _ (Option.some.inj hm).symm) ⟨hP, hD, hS⟩ (lv_sub hl [2, 1, 0] rfl)
  refine w_X3_areSprung_L4 C hq (fun H locs ls h hl => ?_) ⟨hP, hD, hS⟩ (lv_sub hl [2, 1, 0] rfl)
  obtain ⟨hP, hD, hS⟩ := h
  refine lv_iload_n hx hb dX3_areSprung_82 rfl (lv_at hl 0 rfl) ?_
  obtain ⟨hv, hm⟩ := gk_bo_some hm
  rw [kr _ (Option.some.inj hm).symm]
  exact gk_zret C ⟨hP, hD, hS⟩ hv dX3_areSprung_83
def m_X3_areSprung (f_n : Int32) (f_boths : (Nat → Int64)) : Option (Int32) := m_X3_areSprung_0 f_n f_boths
theorem c_X3_areSprung (l : Launch) (G : gk_G) (a0 a1 a2 : Nat) (f_n : Int32) (f_boths : (Nat → Int64)) {rv : Int32} (hm : m_X3_areSprung f_n f_boths = some rv) : gk_M l yX3_areSprung wsX3_areSprung rm_X3_areSprung true G [.ref a0] [(a0, .inr (2, [.int f_n, .ref a1, .ref a2])), (a1, gk_J G 64 f_boths)] (some (.int rv)) [(a0, .inr (2, [.int f_n, .ref a1, .ref a2])), (a1, gk_J G 64 f_boths)] :=
  gk_of (by decide) rfl (Nat.le_of_ble_eq_true rfl) (fun p e s m below meth c A ls C h hl => w_X3_areSprung_0 C hm (fun v0 ez => by cases ez; rfl) h (show lv_has ls 4 [(0, .ref a0)] from hl))

