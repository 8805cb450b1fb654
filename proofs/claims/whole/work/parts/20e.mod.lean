/-! ===== ExchangeFamiliesModel.jumps(III)I ===== -/
abbrev rm_X6_jumps : Room := { frames := 9, cells := 0, slots := 0, locals := 416 }
theorem k_X6_jumps_0 : Cond.constantLong RX6 215 (3) ∈ wsX6_jumps := by decide +kernel
theorem k_X6_jumps_1 : ∀ w ∈ u_ws RX6 TX6 25, w ∈ wsX6_jumps := by decide +kernel
theorem k_X6_jumps_2 : Cond.fieldLink RX6 19 "ExchangeFamiliesModel" "kind" "[I" ∈ wsX6_jumps := by decide +kernel
theorem k_X6_jumps_3 : Cond.fieldLink RX6 202 "ExchangeFamiliesModel" "rows" "I" ∈ wsX6_jumps := by decide +kernel
theorem k_X6_jumps_4 : Cond.fieldLink RX6 74 "ExchangeFamiliesModel" "jump" "[Z" ∈ wsX6_jumps := by decide +kernel
def m_X6_jumps_B88 (f_n : Int32) (f_rows : Int32) (f_members : (Nat → Int64)) (f_kind : (Nat → Int32)) (f_jump : (Nat → Int32)) (x3 : Int32) (x4 : Int32) (x5 : Int32) (x6 : Int32) (x7 : Int32) : Option ((Int32 × Int32 × Int32 × Int32) ⊕ (Int32 × Int32 × Int32)) := (if f_rows ≤ x7 then some (.inr (x4, x5, x6)) else gk_ix x7 729 ((if (f_jump x7.toNatClampNeg) = (0 : Int32) then some (.inl (x4, x5, x6, x7 + 1)) else (if x5 = (-1 : Int32) then some (.inl (x4 + 1, x7, x7, x7 + 1)) else some (.inl (x4 + 1, x5, x7, x7 + 1))))))
set_option maxRecDepth 100000 in
set_option maxHeartbeats 4000000 in
theorem w_X6_jumps_B88 {p : Program} {l : Launch} {e : Env} {s : State} {m : MethodId} {args : Array Value} {below : List Frame} {meth : Method} {c : Code} {G : gk_G} {A : Nat → Prop} {Q : State → Prop} {a0 a1 a2 a3 a4 a5 a6 a7 a8 a9 a10 a11 a12 a13 a14 a15 a16 a17 a18 a19 a20 a21 : Nat} (C : gk_C p s m args meth c cX6_jumps 8 (some .int) yX6_jumps wsX6_jumps false G A) {f_n : Int32} {f_rows : Int32} {f_members : (Nat → Int64)} {f_kind : (Nat → Int32)} {f_jump : (Nat → Int32)} {x3 : Int32} {x4 : Int32} {x5 : Int32} {x6 : Int32} {x7 : Int32} {f_keptN : Int32} {f_side : Int32} {yy : (Int32 × Int32 × Int32 × Int32) ⊕ (Int32 × Int32 × Int32)} (hm : m_X6_jumps_B88 f_n f_rows f_members f_kind f_jump x3 x4 x5 x6 x7 = some yy) (kl : ∀ (x4 : Int32) (x5 : Int32) (x6 : Int32) (x7 : Int32), yy = .inl (x4, x5, x6, x7) → ∀ (H : Heap) (locs : List Loc) (ls : Array Slot), gk_H G A s [(a0, .inr (5, [.int f_n, .ref a1, .ref a2, .ref a3, .ref a4, .int f_keptN, .ref a5, .ref a6, .ref a7, .ref a8, .ref a9, .ref a10, .ref a11, .ref a12, .ref a13, .ref a14, .ref a15, .ref a16, .int f_side, .ref a17, .ref a18, .ref a19, .int f_rows, .ref a20, .ref a21])), (a1, gk_J G 6 f_members), (a2, gk_I G 6 f_kind), (a19, gk_Z G 729 f_jump)] H locs → lv_has ls 8 [(0, .ref a0), (3, .int x3), (4, .int x4), (5, .int x5), (6, .int x6), (7, .int x7)] → W p l e rm_X6_jumps s m args below meth c H locs 0 0 Q (F0 m 88 ls [])) (kx : ∀ (x4 : Int32) (x5 : Int32) (x6 : Int32), yy = .inr (x4, x5, x6) → ∀ (H : Heap) (locs : List Loc) (ls : Array Slot), gk_H G A s [(a0, .inr (5, [.int f_n, .ref a1, .ref a2, .ref a3, .ref a4, .int f_keptN, .ref a5, .ref a6, .ref a7, .ref a8, .ref a9, .ref a10, .ref a11, .ref a12, .ref a13, .ref a14, .ref a15, .ref a16, .int f_side, .ref a17, .ref a18, .ref a19, .int f_rows, .ref a20, .ref a21])), (a1, gk_J G 6 f_members), (a2, gk_I G 6 f_kind), (a19, gk_Z G 729 f_jump)] H locs → lv_has ls 8 [(3, .int x3), (4, .int x4), (5, .int x5), (6, .int x6)] → W p l e rm_X6_jumps s m args below meth c H locs 0 0 Q (F0 m 138 ls [])) {H : Heap} {locs : List Loc} {ls : Array Slot} (h : gk_H G A s [(a0, .inr (5, [.int f_n, .ref a1, .ref a2, .ref a3, .ref a4, .int f_keptN, .ref a5, .ref a6, .ref a7, .ref a8, .ref a9, .ref a10, .ref a11, .ref a12, .ref a13, .ref a14, .ref a15, .ref a16, .int f_side, .ref a17, .ref a18, .ref a19, .int f_rows, .ref a20, .ref a21])), (a1, gk_J G 6 f_members), (a2, gk_I G 6 f_kind), (a19, gk_Z G 729 f_jump)] H locs) (hl : lv_has ls 8 [(0, .ref a0), (3, .int x3), (4, .int x4), (5, .int x5), (6, .int x6), (7, .int x7)]) : W p l e rm_X6_jumps s m args below meth c H locs 0 0 Q (F0 m 88 ls []) := by
  obtain ⟨hx, hb, hml, hr, hown, hnm, hts, hlk, hK, hSt, hA⟩ := id C
  obtain ⟨hP, hD, hS⟩ := h
  unfold m_X6_jumps_B88 at hm
  refine lv_iload hx hb dX6_jumps_88 (lv_at hl 5 rfl) ?_
  refine lv_aload_n hx hb dX6_jumps_90 rfl (lv_at hl 0 rfl) ?_
  refine va_get (D := G.1) (cl := vwCl) (own := RX6) (ref := "ExchangeFamiliesModel") (ci := 5) (v := .int f_rows) (C := RX6) (T := TX6) (N := 25) hx hb hts k_X6_jumps_1 hown hK hP 0 rfl rfl 22 (by decide) (hts _ k_X6_jumps_3) (fun _ h9 => h9) rfl dX6_jumps_91 ?_
  refine lv_icmp_ge (tgt := 138) hx hb dX6_jumps_94 (by decide) (fun c24 => ?_) (fun c24 => ?_)
  · have hm := gk_it c24 hm
    exact kx _ _ _ (Option.some.inj hm).symm _ _ _ ⟨hP, hD, hS⟩ (lv_sub hl [1, 2, 3, 4] rfl)
  · have hm := gk_if c24 hm
    refine lv_aload_n hx hb dX6_jumps_97 rfl (lv_at hl 0 rfl) ?_
    refine va_get (D := G.1) (cl := vwCl) (own := RX6) (ref := "ExchangeFamiliesModel") (ci := 5) (v := .ref a19) (C := RX6) (T := TX6) (N := 25) hx hb hts k_X6_jumps_1 hown hK hP 0 rfl rfl 21 (by decide) (hts _ k_X6_jumps_4) (fun _ h9 => h9) rfl dX6_jumps_98 ?_
    refine lv_iload hx hb dX6_jumps_101 (lv_at hl 5 rfl) ?_
    obtain ⟨hi, hm⟩ := gk_ix_some hm
    refine va_zald hx hb hK hP 3 2 rfl rfl hi dX6_jumps_103 ?_
    refine lv_if_ne (tgt := 110) hx hb dX6_jumps_104 (by decide) (fun c25 => ?_) (fun c25 => ?_)
    · have hm := gk_if c25 hm
      refine lv_iinc (v := x4 + 1) (lv' := [(4, .int (x4 + 1)), (0, .ref a0), (3, .int x3), (5, .int x5), (6, .int x6), (7, .int x7)]) hx hb dX6_jumps_110 hl (k := 2) rfl rfl (by decide) rfl (fun ls hl => ?_)
      refine lv_iload hx hb dX6_jumps_113 (lv_at hl 3 rfl) ?_
      refine lv_iconst (v := -1) hx hb dX6_jumps_115 (by decide) ?_
      refine lv_icmp_ne (tgt := 124) hx hb dX6_jumps_116 (by decide) (fun c26 => ?_) (fun c26 => ?_)
      · have hm := gk_if c26 hm
        refine lv_iload hx hb dX6_jumps_124 (lv_at hl 3 rfl) ?_
        refine lv_istore (lv' := [(5, .int x5), (4, .int (x4 + 1)), (0, .ref a0), (3, .int x3), (6, .int x6), (7, .int x7)]) hx hb dX6_jumps_126 hl (by decide) rfl (fun ls hl => ?_)
        refine lv_iload hx hb dX6_jumps_128 (lv_at hl 5 rfl) ?_
        refine lv_istore (lv' := [(6, .int x7), (5, .int x5), (4, .int (x4 + 1)), (0, .ref a0), (3, .int x3), (7, .int x7)]) hx hb dX6_jumps_130 hl (by decide) rfl (fun ls hl => ?_)
        refine lv_iinc (v := x7 + 1) (lv' := [(7, .int (x7 + 1)), (6, .int x7), (5, .int x5), (4, .int (x4 + 1)), (0, .ref a0), (3, .int x3)]) hx hb dX6_jumps_132 hl (k := 5) rfl rfl (by decide) rfl (fun ls hl => ?_)
        refine lv_goto (tgt := 88) hx hb dX6_jumps_135 (by decide) ?_
        exact kl _ _ _ _ (Option.some.inj hm).symm _ _ _ ⟨hP, hD, hS⟩ (lv_sub hl [4, 5, 3, 2, 1, 0] rfl)
      · have hm := gk_it c26 hm
        refine lv_iload hx hb dX6_jumps_119 (lv_at hl 5 rfl) ?_
        refine lv_goto (tgt := 126) hx hb dX6_jumps_121 (by decide) ?_
        refine lv_istore (lv' := [(5, .int x7), (4, .int (x4 + 1)), (0, .ref a0), (3, .int x3), (6, .int x6), (7, .int x7)]) hx hb dX6_jumps_126 hl (by decide) rfl (fun ls hl => ?_)
        refine lv_iload hx hb dX6_jumps_128 (lv_at hl 5 rfl) ?_
        refine lv_istore (lv' := [(6, .int x7), (5, .int x7), (4, .int (x4 + 1)), (0, .ref a0), (3, .int x3), (7, .int x7)]) hx hb dX6_jumps_130 hl (by decide) rfl (fun ls hl => ?_)
        refine lv_iinc (v := x7 + 1) (lv' := [(7, .int (x7 + 1)), (6, .int x7), (5, .int x7), (4, .int (x4 + 1)), (0, .ref a0), (3, .int x3)]) hx hb dX6_jumps_132 hl (k := 5) rfl rfl (by decide) rfl (fun ls hl => ?_)
        refine lv_goto (tgt := 88) hx hb dX6_jumps_135 (by decide) ?_
        exact kl _ _ _ _ (Option.some.inj hm).symm _ _ _ ⟨hP, hD, hS⟩ (lv_sub hl [4, 5, 3, 2, 1, 0] rfl)
    · have hm := gk_it c25 hm
      refine lv_goto (tgt := 132) hx hb dX6_jumps_107 (by decide) ?_
      refine lv_iinc (v := x7 + 1) (lv' := [(7, .int (x7 + 1)), (0, .ref a0), (3, .int x3), (4, .int x4), (5, .int x5), (6, .int x6)]) hx hb dX6_jumps_132 hl (k := 5) rfl rfl (by decide) rfl (fun ls hl => ?_)
      refine lv_goto (tgt := 88) hx hb dX6_jumps_135 (by decide) ?_
      exact kl _ _ _ _ (Option.some.inj hm).symm _ _ _ ⟨hP, hD, hS⟩ (lv_sub hl [1, 2, 3, 4, 5, 0] rfl)
set_option maxRecDepth 100000 in
set_option maxHeartbeats 4000000 in
theorem w_X6_jumps_L88 {p : Program} {l : Launch} {e : Env} {s : State} {m : MethodId} {args : Array Value} {below : List Frame} {meth : Method} {c : Code} {G : gk_G} {A : Nat → Prop} {Q : State → Prop} {a0 a1 a2 a3 a4 a5 a6 a7 a8 a9 a10 a11 a12 a13 a14 a15 a16 a17 a18 a19 a20 a21 : Nat} (C : gk_C p s m args meth c cX6_jumps 8 (some .int) yX6_jumps wsX6_jumps false G A) {f_n : Int32} {f_rows : Int32} {f_members : (Nat → Int64)} {f_kind : (Nat → Int32)} {f_jump : (Nat → Int32)} {x3 : Int32} {x4 : Int32} {x5 : Int32} {x6 : Int32} {x7 : Int32} {f_keptN : Int32} {f_side : Int32} {k : Nat} {e_x4 : Int32} {e_x5 : Int32} {e_x6 : Int32} (hm : gk_lp (fun z => m_X6_jumps_B88 f_n f_rows f_members f_kind f_jump x3 z.1 z.2.1 z.2.2.1 z.2.2.2) k (x4, x5, x6, x7) = some (e_x4, e_x5, e_x6)) (kx : ∀ (H : Heap) (locs : List Loc) (ls : Array Slot), gk_H G A s [(a0, .inr (5, [.int f_n, .ref a1, .ref a2, .ref a3, .ref a4, .int f_keptN, .ref a5, .ref a6, .ref a7, .ref a8, .ref a9, .ref a10, .ref a11, .ref a12, .ref a13, .ref a14, .ref a15, .ref a16, .int f_side, .ref a17, .ref a18, .ref a19, .int f_rows, .ref a20, .ref a21])), (a1, gk_J G 6 f_members), (a2, gk_I G 6 f_kind), (a19, gk_Z G 729 f_jump)] H locs → lv_has ls 8 [(3, .int x3), (4, .int e_x4), (5, .int e_x5), (6, .int e_x6)] → W p l e rm_X6_jumps s m args below meth c H locs 0 0 Q (F0 m 138 ls [])) {H : Heap} {locs : List Loc} {ls : Array Slot} (h : gk_H G A s [(a0, .inr (5, [.int f_n, .ref a1, .ref a2, .ref a3, .ref a4, .int f_keptN, .ref a5, .ref a6, .ref a7, .ref a8, .ref a9, .ref a10, .ref a11, .ref a12, .ref a13, .ref a14, .ref a15, .ref a16, .int f_side, .ref a17, .ref a18, .ref a19, .int f_rows, .ref a20, .ref a21])), (a1, gk_J G 6 f_members), (a2, gk_I G 6 f_kind), (a19, gk_Z G 729 f_jump)] H locs) (hl : lv_has ls 8 [(0, .ref a0), (3, .int x3), (4, .int x4), (5, .int x5), (6, .int x6), (7, .int x7)]) : W p l e rm_X6_jumps s m args below meth c H locs 0 0 Q (F0 m 88 ls []) :=
  gk_lp_some (P := fun z => ∀ (H : Heap) (locs : List Loc) (ls : Array Slot), gk_H G A s [(a0, .inr (5, [.int f_n, .ref a1, .ref a2, .ref a3, .ref a4, .int f_keptN, .ref a5, .ref a6, .ref a7, .ref a8, .ref a9, .ref a10, .ref a11, .ref a12, .ref a13, .ref a14, .ref a15, .ref a16, .int f_side, .ref a17, .ref a18, .ref a19, .int f_rows, .ref a20, .ref a21])), (a1, gk_J G 6 f_members), (a2, gk_I G 6 f_kind), (a19, gk_Z G 729 f_jump)] H locs → lv_has ls 8 [(0, .ref a0), (3, .int x3), (4, .int z.1), (5, .int z.2.1), (6, .int z.2.2.1), (7, .int z.2.2.2)] → W p l e rm_X6_jumps s m args below meth c H locs 0 0 Q (F0 m 88 ls [])) (E := fun r => (∀ (x4 : Int32) (x5 : Int32) (x6 : Int32), r = (x4, x5, x6) → ∀ (H : Heap) (locs : List Loc) (ls : Array Slot), gk_H G A s [(a0, .inr (5, [.int f_n, .ref a1, .ref a2, .ref a3, .ref a4, .int f_keptN, .ref a5, .ref a6, .ref a7, .ref a8, .ref a9, .ref a10, .ref a11, .ref a12, .ref a13, .ref a14, .ref a15, .ref a16, .int f_side, .ref a17, .ref a18, .ref a19, .int f_rows, .ref a20, .ref a21])), (a1, gk_J G 6 f_members), (a2, gk_I G 6 f_kind), (a19, gk_Z G 729 f_jump)] H locs → lv_has ls 8 [(3, .int x3), (4, .int x4), (5, .int x5), (6, .int x6)] → W p l e rm_X6_jumps s m args below meth c H locs 0 0 Q (F0 m 138 ls []))) (fun z x hf kl ke H locs ls h hl => w_X6_jumps_B88 C hf (fun v0 v1 v2 v3 ez => kl (v0, v1, v2, v3) ez) (fun v0 v1 v2 ez => ke _ ez v0 v1 v2 rfl) h hl) k (x4, x5, x6, x7) _ hm (fun v0 v1 v2 ez => (by cases ez; exact kx)) _ _ _ h hl
def m_X6_jumps_J138 (f_n : Int32) (f_rows : Int32) (f_members : (Nat → Int64)) (f_kind : (Nat → Int32)) (f_jump : (Nat → Int32)) (x3 : Int32) (x4 : Int32) (x5 : Int32) (x6 : Int32) : Option (Int32 × Int32 × (Nat → Int32)) := (if x3 = (0 : Int32) then some (x4, f_rows, f_jump) else (if x3 = (2 : Int32) then some (x5, f_rows, f_jump) else some (x6, f_rows, f_jump)))
set_option maxRecDepth 100000 in
set_option maxHeartbeats 4000000 in
theorem w_X6_jumps_J138 {p : Program} {l : Launch} {e : Env} {s : State} {m : MethodId} {args : Array Value} {below : List Frame} {meth : Method} {c : Code} {G : gk_G} {A : Nat → Prop} {Q : State → Prop} {a0 a1 a2 a3 a4 a5 a6 a7 a8 a9 a10 a11 a12 a13 a14 a15 a16 a17 a18 a19 a20 a21 : Nat} (C : gk_C p s m args meth c cX6_jumps 8 (some .int) yX6_jumps wsX6_jumps false G A) {f_n : Int32} {f_rows : Int32} {f_members : (Nat → Int64)} {f_kind : (Nat → Int32)} {f_jump : (Nat → Int32)} {x3 : Int32} {x4 : Int32} {x5 : Int32} {x6 : Int32} {f_keptN : Int32} {f_side : Int32} {yy : Int32 × Int32 × (Nat → Int32)} (hm : m_X6_jumps_J138 f_n f_rows f_members f_kind f_jump x3 x4 x5 x6 = some yy) (kr : ∀ (rv : Int32) (g_rows : Int32) (g_jump : (Nat → Int32)), yy = (rv, g_rows, g_jump) → Q = MQ below (gk_Q G (some (.int rv)) [(a0, .inr (5, [.int f_n, .ref a1, .ref a2, .ref a3, .ref a4, .int f_keptN, .ref a5, .ref a6, .ref a7, .ref a8, .ref a9, .ref a10, .ref a11, .ref a12, .ref a13, .ref a14, .ref a15, .ref a16, .int f_side, .ref a17, .ref a18, .ref a19, .int g_rows, .ref a20, .ref a21])), (a1, gk_J G 6 f_members), (a2, gk_I G 6 f_kind), (a19, gk_Z G 729 g_jump)] A) args s 0 0 A) {H : Heap} {locs : List Loc} {ls : Array Slot} (h : gk_H G A s [(a0, .inr (5, [.int f_n, .ref a1, .ref a2, .ref a3, .ref a4, .int f_keptN, .ref a5, .ref a6, .ref a7, .ref a8, .ref a9, .ref a10, .ref a11, .ref a12, .ref a13, .ref a14, .ref a15, .ref a16, .int f_side, .ref a17, .ref a18, .ref a19, .int f_rows, .ref a20, .ref a21])), (a1, gk_J G 6 f_members), (a2, gk_I G 6 f_kind), (a19, gk_Z G 729 f_jump)] H locs) (hl : lv_has ls 8 [(3, .int x3), (4, .int x4), (5, .int x5), (6, .int x6)]) : W p l e rm_X6_jumps s m args below meth c H locs 0 0 Q (F0 m 138 ls []) := by
  obtain ⟨hx, hb, hml, hr, hown, hnm, hts, hlk, hK, hSt, hA⟩ := id C
  obtain ⟨hP, hD, hS⟩ := h
  unfold m_X6_jumps_J138 at hm
  refine lv_iload_n hx hb dX6_jumps_138 rfl (lv_at hl 0 rfl) ?_
  refine lv_if_ne (tgt := 147) hx hb dX6_jumps_139 (by decide) (fun c30 => ?_) (fun c30 => ?_)
  · have hm := gk_if c30 hm
    refine lv_iload_n hx hb dX6_jumps_147 rfl (lv_at hl 0 rfl) ?_
    refine lv_iconst (v := 2) hx hb dX6_jumps_148 (by decide) ?_
    refine lv_icmp_ne (tgt := 157) hx hb dX6_jumps_149 (by decide) (fun c31 => ?_) (fun c31 => ?_)
    · have hm := gk_if c31 hm
      refine lv_iload hx hb dX6_jumps_157 (lv_at hl 3 rfl) ?_
      rw [kr _ _ _ (Option.some.inj hm).symm]
      exact gk_iret C ⟨hP, hD, hS⟩ dX6_jumps_159
    · have hm := gk_it c31 hm
      refine lv_iload hx hb dX6_jumps_152 (lv_at hl 2 rfl) ?_
      refine lv_goto (tgt := 159) hx hb dX6_jumps_154 (by decide) ?_
      rw [kr _ _ _ (Option.some.inj hm).symm]
      exact gk_iret C ⟨hP, hD, hS⟩ dX6_jumps_159
  · have hm := gk_it c30 hm
    refine lv_iload hx hb dX6_jumps_142 (lv_at hl 1 rfl) ?_
    refine lv_goto (tgt := 159) hx hb dX6_jumps_144 (by decide) ?_
    rw [kr _ _ _ (Option.some.inj hm).symm]
    exact gk_iret C ⟨hP, hD, hS⟩ dX6_jumps_159
def m_X6_jumps_0 (f_n : Int32) (f_rows : Int32) (f_members : (Nat → Int64)) (f_kind : (Nat → Int32)) (f_jump : (Nat → Int32)) (x1 : Int32) (x2 : Int32) (x3 : Int32) : Option (Int32 × Int32 × (Nat → Int32)) := gk_bd1 (m_X6_isFamily x1) (fun r13 => (if r13 = (0 : Int32) then some ((-2 : Int32), f_rows, f_jump) else gk_bd1 (m_X6_isFamily x2) (fun r15 => (if r15 = (0 : Int32) then some ((-2 : Int32), f_rows, f_jump) else gk_bd1 (m_X6_isIn x3.toInt64 (0 : Int64) (3 : Int64)) (fun r17 => (if r17 = (0 : Int32) then some ((-2 : Int32), f_rows, f_jump) else gk_ix x1 6 ((if (f_kind x1.toNatClampNeg) = (-1 : Int32) then some ((-11 : Int32), f_rows, f_jump) else gk_ix x2 6 ((if (f_kind x2.toNatClampNeg) = (-1 : Int32) then some ((-11 : Int32), f_rows, f_jump) else gk_bd2 (m_X6_finds f_n f_rows f_members f_jump x1 x2) (fun r21 r22 => (if x3 = (1 : Int32) then gk_bd1 (m_X6_areSprung f_n r21 r22) (fun r32 => (if r32 = (0 : Int32) then some ((0 : Int32), r21, r22) else some ((1 : Int32), r21, r22))) else gk_bd3 (gk_lp (fun z => m_X6_jumps_B88 f_n r21 f_members f_kind r22 x3 z.1 z.2.1 z.2.2.1 z.2.2.2) gk_fu ((0 : Int32), (-1 : Int32), (-1 : Int32), (0 : Int32))) (fun e27 e28 e29 => m_X6_jumps_J138 f_n r21 f_members f_kind r22 x3 e27 e28 e29)))))))))))))
set_option maxRecDepth 100000 in
set_option maxHeartbeats 4000000 in
theorem w_X6_jumps_0 {p : Program} {l : Launch} {e : Env} {s : State} {m : MethodId} {args : Array Value} {below : List Frame} {meth : Method} {c : Code} {G : gk_G} {A : Nat → Prop} {Q : State → Prop} {a0 a1 a2 a3 a4 a5 a6 a7 a8 a9 a10 a11 a12 a13 a14 a15 a16 a17 a18 a19 a20 a21 : Nat} (C : gk_C p s m args meth c cX6_jumps 8 (some .int) yX6_jumps wsX6_jumps false G A) {f_n : Int32} {f_rows : Int32} {f_members : (Nat → Int64)} {f_kind : (Nat → Int32)} {f_jump : (Nat → Int32)} {x1 : Int32} {x2 : Int32} {x3 : Int32} {f_keptN : Int32} {f_side : Int32} {yy : Int32 × Int32 × (Nat → Int32)} (hm : m_X6_jumps_0 f_n f_rows f_members f_kind f_jump x1 x2 x3 = some yy) (kr : ∀ (rv : Int32) (g_rows : Int32) (g_jump : (Nat → Int32)), yy = (rv, g_rows, g_jump) → Q = MQ below (gk_Q G (some (.int rv)) [(a0, .inr (5, [.int f_n, .ref a1, .ref a2, .ref a3, .ref a4, .int f_keptN, .ref a5, .ref a6, .ref a7, .ref a8, .ref a9, .ref a10, .ref a11, .ref a12, .ref a13, .ref a14, .ref a15, .ref a16, .int f_side, .ref a17, .ref a18, .ref a19, .int g_rows, .ref a20, .ref a21])), (a1, gk_J G 6 f_members), (a2, gk_I G 6 f_kind), (a19, gk_Z G 729 g_jump)] A) args s 0 0 A) {H : Heap} {locs : List Loc} {ls : Array Slot} (h : gk_H G A s [(a0, .inr (5, [.int f_n, .ref a1, .ref a2, .ref a3, .ref a4, .int f_keptN, .ref a5, .ref a6, .ref a7, .ref a8, .ref a9, .ref a10, .ref a11, .ref a12, .ref a13, .ref a14, .ref a15, .ref a16, .int f_side, .ref a17, .ref a18, .ref a19, .int f_rows, .ref a20, .ref a21])), (a1, gk_J G 6 f_members), (a2, gk_I G 6 f_kind), (a19, gk_Z G 729 f_jump)] H locs) (hl : lv_has ls 8 [(0, .ref a0), (1, .int x1), (2, .int x2), (3, .int x3)]) : W p l e rm_X6_jumps s m args below meth c H locs 0 0 Q (F0 m 0 ls []) := by
  obtain ⟨hx, hb, hml, hr, hown, hnm, hts, hlk, hK, hSt, hA⟩ := id C
  obtain ⟨hP, hD, hS⟩ := h
  unfold m_X6_jumps_0 at hm
  refine lv_iload_n hx hb dX6_jumps_0 rfl (lv_at hl 1 rfl) ?_
  obtain ⟨r13, hq, hm⟩ := gk_bd1_some hm
  refine gk_callS (n := 1) (bytes := cX6_isFamily) (maxL := 1) (ret := (some .boolean)) [(a0, .inr (5, [.int f_n, .ref a1, .ref a2, .ref a3, .ref a4, .int f_keptN, .ref a5, .ref a6, .ref a7, .ref a8, .ref a9, .ref a10, .ref a11, .ref a12, .ref a13, .ref a14, .ref a15, .ref a16, .int f_side, .ref a17, .ref a18, .ref a19, .int f_rows, .ref a20, .ref a21])), (a1, gk_J G 6 f_members), (a2, gk_I G 6 f_kind), (a19, gk_Z G 729 f_jump)] [(a0, .inr (5, [.int f_n, .ref a1, .ref a2, .ref a3, .ref a4, .int f_keptN, .ref a5, .ref a6, .ref a7, .ref a8, .ref a9, .ref a10, .ref a11, .ref a12, .ref a13, .ref a14, .ref a15, .ref a16, .int f_side, .ref a17, .ref a18, .ref a19, .int f_rows, .ref a20, .ref a21])), (a1, gk_J G 6 f_members), (a2, gk_I G 6 f_kind), (a19, gk_Z G 729 f_jump)] [] C ⟨hP, hD, hS⟩ (c_X6_isFamily l G x1 hq) gX6_jumps_X6_isFamily dX6_jumps_1 hl.1 [] [0, 1, 2, 3] [0, 1, 2, 3] rfl ⟨rfl, rfl⟩ ⟨Nat.le_of_ble_eq_true rfl, Nat.le_of_ble_eq_true rfl⟩ ⟨by decide +kernel, by decide +kernel, by decide +kernel⟩ rfl (fun h => by cases h) (Nat.le_of_ble_eq_true rfl) rfl rfl rfl rfl (by decide) rfl rfl (fun H locs h => ?_)
  obtain ⟨hP, hD, hS⟩ := h
  refine lv_if_eq (tgt := 26) hx hb dX6_jumps_4 (by decide) (fun c14 => ?_) (fun c14 => ?_)
  · have hm := gk_it c14 hm
    refine lv_bipush (v := -2) hx hb dX6_jumps_26 (by decide) ?_
    rw [kr _ _ _ (Option.some.inj hm).symm]
    exact gk_iret C ⟨hP, hD, hS⟩ dX6_jumps_28
  · have hm := gk_if c14 hm
    refine lv_iload_n hx hb dX6_jumps_7 rfl (lv_at hl 2 rfl) ?_
    obtain ⟨r15, hq, hm⟩ := gk_bd1_some hm
    refine gk_callS (n := 1) (bytes := cX6_isFamily) (maxL := 1) (ret := (some .boolean)) [(a0, .inr (5, [.int f_n, .ref a1, .ref a2, .ref a3, .ref a4, .int f_keptN, .ref a5, .ref a6, .ref a7, .ref a8, .ref a9, .ref a10, .ref a11, .ref a12, .ref a13, .ref a14, .ref a15, .ref a16, .int f_side, .ref a17, .ref a18, .ref a19, .int f_rows, .ref a20, .ref a21])), (a1, gk_J G 6 f_members), (a2, gk_I G 6 f_kind), (a19, gk_Z G 729 f_jump)] [(a0, .inr (5, [.int f_n, .ref a1, .ref a2, .ref a3, .ref a4, .int f_keptN, .ref a5, .ref a6, .ref a7, .ref a8, .ref a9, .ref a10, .ref a11, .ref a12, .ref a13, .ref a14, .ref a15, .ref a16, .int f_side, .ref a17, .ref a18, .ref a19, .int f_rows, .ref a20, .ref a21])), (a1, gk_J G 6 f_members), (a2, gk_I G 6 f_kind), (a19, gk_Z G 729 f_jump)] [] C ⟨hP, hD, hS⟩ (c_X6_isFamily l G x2 hq) gX6_jumps_X6_isFamily dX6_jumps_8 hl.1 [] [0, 1, 2, 3] [0, 1, 2, 3] rfl ⟨rfl, rfl⟩ ⟨Nat.le_of_ble_eq_true rfl, Nat.le_of_ble_eq_true rfl⟩ ⟨by decide +kernel, by decide +kernel, by decide +kernel⟩ rfl (fun h => by cases h) (Nat.le_of_ble_eq_true rfl) rfl rfl rfl rfl (by decide) rfl rfl (fun H locs h => ?_)
    obtain ⟨hP, hD, hS⟩ := h
    refine lv_if_eq (tgt := 26) hx hb dX6_jumps_11 (by decide) (fun c16 => ?_) (fun c16 => ?_)
    · have hm := gk_it c16 hm
      refine lv_bipush (v := -2) hx hb dX6_jumps_26 (by decide) ?_
      rw [kr _ _ _ (Option.some.inj hm).symm]
      exact gk_iret C ⟨hP, hD, hS⟩ dX6_jumps_28
    · have hm := gk_if c16 hm
      refine lv_iload_n hx hb dX6_jumps_14 rfl (lv_at hl 3 rfl) ?_
      refine lv_i2l hx hb dX6_jumps_15 rfl ?_
      refine lv_lconst (v := 0) hx hb dX6_jumps_16 (by decide) ?_
      refine lv_ldc2 (own := RX6) (v := 3) hx hb hown (hts _ k_X6_jumps_0) dX6_jumps_17 ?_
      obtain ⟨r17, hq, hm⟩ := gk_bd1_some hm
      refine gk_callS (n := 3) (bytes := cX6_isIn) (maxL := 6) (ret := (some .boolean)) [(a0, .inr (5, [.int f_n, .ref a1, .ref a2, .ref a3, .ref a4, .int f_keptN, .ref a5, .ref a6, .ref a7, .ref a8, .ref a9, .ref a10, .ref a11, .ref a12, .ref a13, .ref a14, .ref a15, .ref a16, .int f_side, .ref a17, .ref a18, .ref a19, .int f_rows, .ref a20, .ref a21])), (a1, gk_J G 6 f_members), (a2, gk_I G 6 f_kind), (a19, gk_Z G 729 f_jump)] [(a0, .inr (5, [.int f_n, .ref a1, .ref a2, .ref a3, .ref a4, .int f_keptN, .ref a5, .ref a6, .ref a7, .ref a8, .ref a9, .ref a10, .ref a11, .ref a12, .ref a13, .ref a14, .ref a15, .ref a16, .int f_side, .ref a17, .ref a18, .ref a19, .int f_rows, .ref a20, .ref a21])), (a1, gk_J G 6 f_members), (a2, gk_I G 6 f_kind), (a19, gk_Z G 729 f_jump)] [] C ⟨hP, hD, hS⟩ (c_X6_isIn l G x3.toInt64 (0 : Int64) (3 : Int64) hq) gX6_jumps_X6_isIn dX6_jumps_20 hl.1 [] [0, 1, 2, 3] [0, 1, 2, 3] rfl ⟨rfl, rfl⟩ ⟨Nat.le_of_ble_eq_true rfl, Nat.le_of_ble_eq_true rfl⟩ ⟨by decide +kernel, by decide +kernel, by decide +kernel⟩ rfl (fun h => by cases h) (Nat.le_of_ble_eq_true rfl) rfl rfl rfl rfl (by decide) rfl rfl (fun H locs h => ?_)
      obtain ⟨hP, hD, hS⟩ := h
      refine lv_if_ne (tgt := 29) hx hb dX6_jumps_23 (by decide) (fun c18 => ?_) (fun c18 => ?_)
      · have hm := gk_if c18 hm
        refine lv_aload_n hx hb dX6_jumps_29 rfl (lv_at hl 0 rfl) ?_
        refine va_get (D := G.1) (cl := vwCl) (own := RX6) (ref := "ExchangeFamiliesModel") (ci := 5) (v := .ref a2) (C := RX6) (T := TX6) (N := 25) hx hb hts k_X6_jumps_1 hown hK hP 0 rfl rfl 2 (by decide) (hts _ k_X6_jumps_2) (fun _ h9 => h9) rfl dX6_jumps_30 ?_
        refine lv_iload_n hx hb dX6_jumps_33 rfl (lv_at hl 1 rfl) ?_
        obtain ⟨hi, hm⟩ := gk_ix_some hm
        refine va_iald hx hb hK hP 2 0 rfl rfl hi dX6_jumps_34 ?_
        refine lv_iconst (v := -1) hx hb dX6_jumps_35 (by decide) ?_
        refine lv_icmp_eq (tgt := 49) hx hb dX6_jumps_36 (by decide) (fun c19 => ?_) (fun c19 => ?_)
        · have hm := gk_it c19 hm
          refine lv_bipush (v := -11) hx hb dX6_jumps_49 (by decide) ?_
          rw [kr _ _ _ (Option.some.inj hm).symm]
          exact gk_iret C ⟨hP, hD, hS⟩ dX6_jumps_51
        · have hm := gk_if c19 hm
          refine lv_aload_n hx hb dX6_jumps_39 rfl (lv_at hl 0 rfl) ?_
          refine va_get (D := G.1) (cl := vwCl) (own := RX6) (ref := "ExchangeFamiliesModel") (ci := 5) (v := .ref a2) (C := RX6) (T := TX6) (N := 25) hx hb hts k_X6_jumps_1 hown hK hP 0 rfl rfl 2 (by decide) (hts _ k_X6_jumps_2) (fun _ h9 => h9) rfl dX6_jumps_40 ?_
          refine lv_iload_n hx hb dX6_jumps_43 rfl (lv_at hl 2 rfl) ?_
          obtain ⟨hi, hm⟩ := gk_ix_some hm
          refine va_iald hx hb hK hP 2 0 rfl rfl hi dX6_jumps_44 ?_
          refine lv_iconst (v := -1) hx hb dX6_jumps_45 (by decide) ?_
          refine lv_icmp_ne (tgt := 52) hx hb dX6_jumps_46 (by decide) (fun c20 => ?_) (fun c20 => ?_)
          · have hm := gk_if c20 hm
            refine lv_aload_n hx hb dX6_jumps_52 rfl (lv_at hl 0 rfl) ?_
            refine lv_iload_n hx hb dX6_jumps_53 rfl (lv_at hl 1 rfl) ?_
            refine lv_iload_n hx hb dX6_jumps_54 rfl (lv_at hl 2 rfl) ?_
            obtain ⟨r21, r22, hq, hm⟩ := gk_bd2_some hm
            refine gk_callV (n := 2) (bytes := cX6_finds) (maxL := 5) (ret := none) (Cn := RX6) (T := TX6) (N := 25) [(a2, gk_I G 6 f_kind)] [(a0, .inr (5, [.int f_n, .ref a1, .ref a2, .ref a3, .ref a4, .int f_keptN, .ref a5, .ref a6, .ref a7, .ref a8, .ref a9, .ref a10, .ref a11, .ref a12, .ref a13, .ref a14, .ref a15, .ref a16, .int f_side, .ref a17, .ref a18, .ref a19, .int r21, .ref a20, .ref a21])), (a1, gk_J G 6 f_members), (a2, gk_I G 6 f_kind), (a19, gk_Z G 729 r22)] [] C ⟨hP, hD, hS⟩ (c_X6_finds l G a0 a1 a2 a3 a4 a5 a6 a7 a8 a9 a10 a11 a12 a13 a14 a15 a16 a17 a18 a19 a20 a21 f_n f_keptN f_side f_rows f_members f_jump x1 x2 hq) gX6_jumps_X6_finds dX6_jumps_55 hl.1 [0, 1, 3] [2] [1, 2, 0, 3] rfl rfl ⟨rfl, rfl⟩ ⟨Nat.le_of_ble_eq_true rfl, Nat.le_of_ble_eq_true rfl⟩ ⟨rfl, by decide +kernel, by decide +kernel, by decide +kernel⟩ rfl (fun h => by cases h) (Nat.le_of_ble_eq_true rfl) rfl rfl rfl rfl (by decide) rfl rfl (fun H locs h => ?_)
            obtain ⟨hP, hD, hS⟩ := h
            refine lv_iload_n hx hb dX6_jumps_58 rfl (lv_at hl 3 rfl) ?_
            refine lv_iconst (v := 1) hx hb dX6_jumps_59 (by decide) ?_
            refine lv_icmp_ne (tgt := 76) hx hb dX6_jumps_60 (by decide) (fun c23 => ?_) (fun c23 => ?_)
            · have hm := gk_if c23 hm
              refine lv_iconst (v := 0) hx hb dX6_jumps_76 (by decide) ?_
              refine lv_istore (lv' := [(4, .int (0 : Int32)), (0, .ref a0), (1, .int x1), (2, .int x2), (3, .int x3)]) hx hb dX6_jumps_77 hl (by decide) rfl (fun ls hl => ?_)
              refine lv_iconst (v := -1) hx hb dX6_jumps_79 (by decide) ?_
              refine lv_istore (lv' := [(5, .int (-1 : Int32)), (4, .int (0 : Int32)), (0, .ref a0), (1, .int x1), (2, .int x2), (3, .int x3)]) hx hb dX6_jumps_80 hl (by decide) rfl (fun ls hl => ?_)
              refine lv_iconst (v := -1) hx hb dX6_jumps_82 (by decide) ?_
              refine lv_istore (lv' := [(6, .int (-1 : Int32)), (5, .int (-1 : Int32)), (4, .int (0 : Int32)), (0, .ref a0), (1, .int x1), (2, .int x2), (3, .int x3)]) hx hb dX6_jumps_83 hl (by decide) rfl (fun ls hl => ?_)
              refine lv_iconst (v := 0) hx hb dX6_jumps_85 (by decide) ?_
              refine lv_istore (lv' := [(7, .int (0 : Int32)), (6, .int (-1 : Int32)), (5, .int (-1 : Int32)), (4, .int (0 : Int32)), (0, .ref a0), (1, .int x1), (2, .int x2), (3, .int x3)]) hx hb dX6_jumps_86 hl (by decide) rfl (fun ls hl => ?_)
              obtain ⟨e27, e28, e29, hq, hm⟩ := gk_bd3_some hm
              refine w_X6_jumps_L88 C hq (fun H locs ls h hl => ?_) ⟨hP, hD, hS⟩ (lv_sub hl [4, 7, 3, 2, 1, 0] rfl)
              obtain ⟨hP, hD, hS⟩ := h
              exact w_X6_jumps_J138 C hm kr ⟨hP, hD, hS⟩ (lv_sub hl [0, 1, 2, 3] rfl)
            · have hm := gk_it c23 hm
              refine lv_aload_n hx hb dX6_jumps_63 rfl (lv_at hl 0 rfl) ?_
              obtain ⟨r32, hq, hm⟩ := gk_bd1_some hm
              refine gk_callV (n := 0) (bytes := cX6_areSprung) (maxL := 6) (ret := (some .boolean)) (Cn := RX6) (T := TX6) (N := 25) [(a1, gk_J G 6 f_members), (a2, gk_I G 6 f_kind)] [(a0, .inr (5, [.int f_n, .ref a1, .ref a2, .ref a3, .ref a4, .int f_keptN, .ref a5, .ref a6, .ref a7, .ref a8, .ref a9, .ref a10, .ref a11, .ref a12, .ref a13, .ref a14, .ref a15, .ref a16, .int f_side, .ref a17, .ref a18, .ref a19, .int r21, .ref a20, .ref a21])), (a1, gk_J G 6 f_members), (a2, gk_I G 6 f_kind), (a19, gk_Z G 729 r22)] [] C ⟨hP, hD, hS⟩ (c_X6_areSprung l G a0 a1 a2 a3 a4 a5 a6 a7 a8 a9 a10 a11 a12 a13 a14 a15 a16 a17 a18 a19 a20 a21 f_n f_keptN f_side r21 r22 hq) gX6_jumps_X6_areSprung dX6_jumps_64 hl.1 [0, 3] [1, 2] [2, 0, 1, 3] rfl rfl ⟨rfl, rfl⟩ ⟨Nat.le_of_ble_eq_true rfl, Nat.le_of_ble_eq_true rfl⟩ ⟨rfl, by decide +kernel, by decide +kernel, by decide +kernel⟩ rfl (fun h => by cases h) (Nat.le_of_ble_eq_true rfl) rfl rfl rfl rfl (by decide) rfl rfl (fun H locs h => ?_)
              obtain ⟨hP, hD, hS⟩ := h
              refine lv_if_eq (tgt := 74) hx hb dX6_jumps_67 (by decide) (fun c33 => ?_) (fun c33 => ?_)
              · have hm := gk_it c33 hm
                refine lv_iconst (v := 0) hx hb dX6_jumps_74 (by decide) ?_
                rw [kr _ _ _ (Option.some.inj hm).symm]
                exact gk_iret C ⟨hP, hD, hS⟩ dX6_jumps_75
              · have hm := gk_if c33 hm
                refine lv_iconst (v := 1) hx hb dX6_jumps_70 (by decide) ?_
                refine lv_goto (tgt := 75) hx hb dX6_jumps_71 (by decide) ?_
                rw [kr _ _ _ (Option.some.inj hm).symm]
                exact gk_iret C ⟨hP, hD, hS⟩ dX6_jumps_75
          · have hm := gk_it c20 hm
            refine lv_bipush (v := -11) hx hb dX6_jumps_49 (by decide) ?_
            rw [kr _ _ _ (Option.some.inj hm).symm]
            exact gk_iret C ⟨hP, hD, hS⟩ dX6_jumps_51
      · have hm := gk_it c18 hm
        refine lv_bipush (v := -2) hx hb dX6_jumps_26 (by decide) ?_
        rw [kr _ _ _ (Option.some.inj hm).symm]
        exact gk_iret C ⟨hP, hD, hS⟩ dX6_jumps_28
def m_X6_jumps (f_n : Int32) (f_rows : Int32) (f_members : (Nat → Int64)) (f_kind : (Nat → Int32)) (f_jump : (Nat → Int32)) (x1 : Int32) (x2 : Int32) (x3 : Int32) : Option (Int32 × Int32 × (Nat → Int32)) := m_X6_jumps_0 f_n f_rows f_members f_kind f_jump x1 x2 x3
theorem c_X6_jumps (l : Launch) (G : gk_G) (a0 a1 a2 a3 a4 a5 a6 a7 a8 a9 a10 a11 a12 a13 a14 a15 a16 a17 a18 a19 a20 a21 : Nat) (f_n : Int32) (f_keptN : Int32) (f_side : Int32) (f_rows : Int32) (f_members : (Nat → Int64)) (f_kind : (Nat → Int32)) (f_jump : (Nat → Int32)) (x1 : Int32) (x2 : Int32) (x3 : Int32) {rv : Int32} {g_rows : Int32} {g_jump : (Nat → Int32)} (hm : m_X6_jumps f_n f_rows f_members f_kind f_jump x1 x2 x3 = some (rv, g_rows, g_jump)) : gk_M l yX6_jumps wsX6_jumps rm_X6_jumps false G [.ref a0, .int x1, .int x2, .int x3] [(a0, .inr (5, [.int f_n, .ref a1, .ref a2, .ref a3, .ref a4, .int f_keptN, .ref a5, .ref a6, .ref a7, .ref a8, .ref a9, .ref a10, .ref a11, .ref a12, .ref a13, .ref a14, .ref a15, .ref a16, .int f_side, .ref a17, .ref a18, .ref a19, .int f_rows, .ref a20, .ref a21])), (a1, gk_J G 6 f_members), (a2, gk_I G 6 f_kind), (a19, gk_Z G 729 f_jump)] (some (.int rv)) [(a0, .inr (5, [.int f_n, .ref a1, .ref a2, .ref a3, .ref a4, .int f_keptN, .ref a5, .ref a6, .ref a7, .ref a8, .ref a9, .ref a10, .ref a11, .ref a12, .ref a13, .ref a14, .ref a15, .ref a16, .int f_side, .ref a17, .ref a18, .ref a19, .int g_rows, .ref a20, .ref a21])), (a1, gk_J G 6 f_members), (a2, gk_I G 6 f_kind), (a19, gk_Z G 729 g_jump)] :=
  gk_of (by decide) rfl (Nat.le_of_ble_eq_true rfl) (fun p e s m below meth c A ls C h hl => w_X6_jumps_0 C hm (fun v0 v1 v2 ez => by cases ez; rfl) h (show lv_has ls 8 [(0, .ref a0), (1, .int x1), (2, .int x2), (3, .int x3)] from hl))

/-! ===== ExchangeFamiliesModel.jump(III)I ===== -/
abbrev rm_X6_jump : Room := { frames := 7, cells := 0, slots := 0, locals := 324 }
theorem k_X6_jump_0 : ∀ w ∈ u_ws RX6 TX6 25, w ∈ wsX6_jump := by decide +kernel
theorem k_X6_jump_1 : Cond.fieldLink RX6 9 "ExchangeFamiliesModel" "n" "I" ∈ wsX6_jump := by decide +kernel
theorem k_X6_jump_2 : Cond.fieldLink RX6 19 "ExchangeFamiliesModel" "kind" "[I" ∈ wsX6_jump := by decide +kernel
theorem k_X6_jump_3 : Cond.fieldLink RX6 74 "ExchangeFamiliesModel" "jump" "[Z" ∈ wsX6_jump := by decide +kernel
def m_X6_jump_0 (f_n : Int32) (f_rows : Int32) (f_members : (Nat → Int64)) (f_kind : (Nat → Int32)) (f_jump : (Nat → Int32)) (x1 : Int32) (x2 : Int32) (x3 : Int32) : Option (Int32 × Int32 × (Nat → Int32)) := gk_bd1 (m_X6_isFamily x1) (fun r7 => (if r7 = (0 : Int32) then some ((-2 : Int32), f_rows, f_jump) else gk_bd1 (m_X6_isFamily x2) (fun r9 => (if r9 = (0 : Int32) then some ((-2 : Int32), f_rows, f_jump) else gk_bd1 (m_X6_three f_n) (fun r11 => gk_bd1 (m_X6_isIn x3.toInt64 (0 : Int64) ((r11 - (1 : Int32)).toInt64)) (fun r12 => (if r12 = (0 : Int32) then some ((-2 : Int32), f_rows, f_jump) else gk_ix x1 6 ((if (f_kind x1.toNatClampNeg) = (-1 : Int32) then some ((-11 : Int32), f_rows, f_jump) else gk_ix x2 6 ((if (f_kind x2.toNatClampNeg) = (-1 : Int32) then some ((-11 : Int32), f_rows, f_jump) else gk_bd2 (m_X6_finds f_n f_rows f_members f_jump x1 x2) (fun r16 r17 => gk_ix x3 729 ((if (r17 x3.toNatClampNeg) = (0 : Int32) then some ((0 : Int32), r16, r17) else some ((1 : Int32), r16, r17)))))))))))))))
set_option maxRecDepth 100000 in
set_option maxHeartbeats 4000000 in
theorem w_X6_jump_0 {p : Program} {l : Launch} {e : Env} {s : State} {m : MethodId} {args : Array Value} {below : List Frame} {meth : Method} {c : Code} {G : gk_G} {A : Nat → Prop} {Q : State → Prop} {a0 a1 a2 a3 a4 a5 a6 a7 a8 a9 a10 a11 a12 a13 a14 a15 a16 a17 a18 a19 a20 a21 : Nat} (C : gk_C p s m args meth c cX6_jump 4 (some .int) yX6_jump wsX6_jump false G A) {f_n : Int32} {f_rows : Int32} {f_members : (Nat → Int64)} {f_kind : (Nat → Int32)} {f_jump : (Nat → Int32)} {x1 : Int32} {x2 : Int32} {x3 : Int32} {f_keptN : Int32} {f_side : Int32} {yy : Int32 × Int32 × (Nat → Int32)} (hm : m_X6_jump_0 f_n f_rows f_members f_kind f_jump x1 x2 x3 = some yy) (kr : ∀ (rv : Int32) (g_rows : Int32) (g_jump : (Nat → Int32)), yy = (rv, g_rows, g_jump) → Q = MQ below (gk_Q G (some (.int rv)) [(a0, .inr (5, [.int f_n, .ref a1, .ref a2, .ref a3, .ref a4, .int f_keptN, .ref a5, .ref a6, .ref a7, .ref a8, .ref a9, .ref a10, .ref a11, .ref a12, .ref a13, .ref a14, .ref a15, .ref a16, .int f_side, .ref a17, .ref a18, .ref a19, .int g_rows, .ref a20, .ref a21])), (a1, gk_J G 6 f_members), (a2, gk_I G 6 f_kind), (a19, gk_Z G 729 g_jump)] A) args s 0 0 A) {H : Heap} {locs : List Loc} {ls : Array Slot} (h : gk_H G A s [(a0, .inr (5, [.int f_n, .ref a1, .ref a2, .ref a3, .ref a4, .int f_keptN, .ref a5, .ref a6, .ref a7, .ref a8, .ref a9, .ref a10, .ref a11, .ref a12, .ref a13, .ref a14, .ref a15, .ref a16, .int f_side, .ref a17, .ref a18, .ref a19, .int f_rows, .ref a20, .ref a21])), (a1, gk_J G 6 f_members), (a2, gk_I G 6 f_kind), (a19, gk_Z G 729 f_jump)] H locs) (hl : lv_has ls 4 [(0, .ref a0), (1, .int x1), (2, .int x2), (3, .int x3)]) : W p l e rm_X6_jump s m args below meth c H locs 0 0 Q (F0 m 0 ls []) := by
  obtain ⟨hx, hb, hml, hr, hown, hnm, hts, hlk, hK, hSt, hA⟩ := id C
  obtain ⟨hP, hD, hS⟩ := h
  unfold m_X6_jump_0 at hm
  refine lv_iload_n hx hb dX6_jump_0 rfl (lv_at hl 1 rfl) ?_
  obtain ⟨r7, hq, hm⟩ := gk_bd1_some hm
  refine gk_callS (n := 1) (bytes := cX6_isFamily) (maxL := 1) (ret := (some .boolean)) [(a0, .inr (5, [.int f_n, .ref a1, .ref a2, .ref a3, .ref a4, .int f_keptN, .ref a5, .ref a6, .ref a7, .ref a8, .ref a9, .ref a10, .ref a11, .ref a12, .ref a13, .ref a14, .ref a15, .ref a16, .int f_side, .ref a17, .ref a18, .ref a19, .int f_rows, .ref a20, .ref a21])), (a1, gk_J G 6 f_members), (a2, gk_I G 6 f_kind), (a19, gk_Z G 729 f_jump)] [(a0, .inr (5, [.int f_n, .ref a1, .ref a2, .ref a3, .ref a4, .int f_keptN, .ref a5, .ref a6, .ref a7, .ref a8, .ref a9, .ref a10, .ref a11, .ref a12, .ref a13, .ref a14, .ref a15, .ref a16, .int f_side, .ref a17, .ref a18, .ref a19, .int f_rows, .ref a20, .ref a21])), (a1, gk_J G 6 f_members), (a2, gk_I G 6 f_kind), (a19, gk_Z G 729 f_jump)] [] C ⟨hP, hD, hS⟩ (c_X6_isFamily l G x1 hq) gX6_jump_X6_isFamily dX6_jump_1 hl.1 [] [0, 1, 2, 3] [0, 1, 2, 3] rfl ⟨rfl, rfl⟩ ⟨Nat.le_of_ble_eq_true rfl, Nat.le_of_ble_eq_true rfl⟩ ⟨by decide +kernel, by decide +kernel, by decide +kernel⟩ rfl (fun h => by cases h) (Nat.le_of_ble_eq_true rfl) rfl rfl rfl rfl (by decide) rfl rfl (fun H locs h => ?_)
  obtain ⟨hP, hD, hS⟩ := h
  refine lv_if_eq (tgt := 33) hx hb dX6_jump_4 (by decide) (fun c8 => ?_) (fun c8 => ?_)
  · have hm := gk_it c8 hm
    refine lv_bipush (v := -2) hx hb dX6_jump_33 (by decide) ?_
    rw [kr _ _ _ (Option.some.inj hm).symm]
    exact gk_iret C ⟨hP, hD, hS⟩ dX6_jump_35
  · have hm := gk_if c8 hm
    refine lv_iload_n hx hb dX6_jump_7 rfl (lv_at hl 2 rfl) ?_
    obtain ⟨r9, hq, hm⟩ := gk_bd1_some hm
    refine gk_callS (n := 1) (bytes := cX6_isFamily) (maxL := 1) (ret := (some .boolean)) [(a0, .inr (5, [.int f_n, .ref a1, .ref a2, .ref a3, .ref a4, .int f_keptN, .ref a5, .ref a6, .ref a7, .ref a8, .ref a9, .ref a10, .ref a11, .ref a12, .ref a13, .ref a14, .ref a15, .ref a16, .int f_side, .ref a17, .ref a18, .ref a19, .int f_rows, .ref a20, .ref a21])), (a1, gk_J G 6 f_members), (a2, gk_I G 6 f_kind), (a19, gk_Z G 729 f_jump)] [(a0, .inr (5, [.int f_n, .ref a1, .ref a2, .ref a3, .ref a4, .int f_keptN, .ref a5, .ref a6, .ref a7, .ref a8, .ref a9, .ref a10, .ref a11, .ref a12, .ref a13, .ref a14, .ref a15, .ref a16, .int f_side, .ref a17, .ref a18, .ref a19, .int f_rows, .ref a20, .ref a21])), (a1, gk_J G 6 f_members), (a2, gk_I G 6 f_kind), (a19, gk_Z G 729 f_jump)] [] C ⟨hP, hD, hS⟩ (c_X6_isFamily l G x2 hq) gX6_jump_X6_isFamily dX6_jump_8 hl.1 [] [0, 1, 2, 3] [0, 1, 2, 3] rfl ⟨rfl, rfl⟩ ⟨Nat.le_of_ble_eq_true rfl, Nat.le_of_ble_eq_true rfl⟩ ⟨by decide +kernel, by decide +kernel, by decide +kernel⟩ rfl (fun h => by cases h) (Nat.le_of_ble_eq_true rfl) rfl rfl rfl rfl (by decide) rfl rfl (fun H locs h => ?_)
    obtain ⟨hP, hD, hS⟩ := h
    refine lv_if_eq (tgt := 33) hx hb dX6_jump_11 (by decide) (fun c10 => ?_) (fun c10 => ?_)
    · have hm := gk_it c10 hm
      refine lv_bipush (v := -2) hx hb dX6_jump_33 (by decide) ?_
      rw [kr _ _ _ (Option.some.inj hm).symm]
      exact gk_iret C ⟨hP, hD, hS⟩ dX6_jump_35
    · have hm := gk_if c10 hm
      refine lv_iload_n hx hb dX6_jump_14 rfl (lv_at hl 3 rfl) ?_
      refine lv_i2l hx hb dX6_jump_15 rfl ?_
      refine lv_lconst (v := 0) hx hb dX6_jump_16 (by decide) ?_
      refine lv_aload_n hx hb dX6_jump_17 rfl (lv_at hl 0 rfl) ?_
      refine va_get (D := G.1) (cl := vwCl) (own := RX6) (ref := "ExchangeFamiliesModel") (ci := 5) (v := .int f_n) (C := RX6) (T := TX6) (N := 25) hx hb hts k_X6_jump_0 hown hK hP 0 rfl rfl 0 (by decide) (hts _ k_X6_jump_1) (fun _ h9 => h9) rfl dX6_jump_18 ?_
      obtain ⟨r11, hq, hm⟩ := gk_bd1_some hm
      refine gk_callS (n := 1) (bytes := cX6_three) (maxL := 3) (ret := (some .int)) [(a0, .inr (5, [.int f_n, .ref a1, .ref a2, .ref a3, .ref a4, .int f_keptN, .ref a5, .ref a6, .ref a7, .ref a8, .ref a9, .ref a10, .ref a11, .ref a12, .ref a13, .ref a14, .ref a15, .ref a16, .int f_side, .ref a17, .ref a18, .ref a19, .int f_rows, .ref a20, .ref a21])), (a1, gk_J G 6 f_members), (a2, gk_I G 6 f_kind), (a19, gk_Z G 729 f_jump)] [(a0, .inr (5, [.int f_n, .ref a1, .ref a2, .ref a3, .ref a4, .int f_keptN, .ref a5, .ref a6, .ref a7, .ref a8, .ref a9, .ref a10, .ref a11, .ref a12, .ref a13, .ref a14, .ref a15, .ref a16, .int f_side, .ref a17, .ref a18, .ref a19, .int f_rows, .ref a20, .ref a21])), (a1, gk_J G 6 f_members), (a2, gk_I G 6 f_kind), (a19, gk_Z G 729 f_jump)] [.long (0 : Int64), .long x3.toInt64] C ⟨hP, hD, hS⟩ (c_X6_three l G f_n hq) gX6_jump_X6_three dX6_jump_21 hl.1 [] [0, 1, 2, 3] [0, 1, 2, 3] rfl ⟨rfl, rfl⟩ ⟨Nat.le_of_ble_eq_true rfl, Nat.le_of_ble_eq_true rfl⟩ ⟨by decide +kernel, by decide +kernel, by decide +kernel⟩ rfl (fun h => by cases h) (Nat.le_of_ble_eq_true rfl) rfl rfl rfl rfl (by decide) rfl rfl (fun H locs h => ?_)
      obtain ⟨hP, hD, hS⟩ := h
      refine lv_iconst (v := 1) hx hb dX6_jump_24 (by decide) ?_
      refine lv_isub hx hb dX6_jump_25 ?_
      refine lv_i2l hx hb dX6_jump_26 rfl ?_
      obtain ⟨r12, hq, hm⟩ := gk_bd1_some hm
      refine gk_callS (n := 3) (bytes := cX6_isIn) (maxL := 6) (ret := (some .boolean)) [(a0, .inr (5, [.int f_n, .ref a1, .ref a2, .ref a3, .ref a4, .int f_keptN, .ref a5, .ref a6, .ref a7, .ref a8, .ref a9, .ref a10, .ref a11, .ref a12, .ref a13, .ref a14, .ref a15, .ref a16, .int f_side, .ref a17, .ref a18, .ref a19, .int f_rows, .ref a20, .ref a21])), (a1, gk_J G 6 f_members), (a2, gk_I G 6 f_kind), (a19, gk_Z G 729 f_jump)] [(a0, .inr (5, [.int f_n, .ref a1, .ref a2, .ref a3, .ref a4, .int f_keptN, .ref a5, .ref a6, .ref a7, .ref a8, .ref a9, .ref a10, .ref a11, .ref a12, .ref a13, .ref a14, .ref a15, .ref a16, .int f_side, .ref a17, .ref a18, .ref a19, .int f_rows, .ref a20, .ref a21])), (a1, gk_J G 6 f_members), (a2, gk_I G 6 f_kind), (a19, gk_Z G 729 f_jump)] [] C ⟨hP, hD, hS⟩ (c_X6_isIn l G x3.toInt64 (0 : Int64) ((r11 - (1 : Int32)).toInt64) hq) gX6_jump_X6_isIn dX6_jump_27 hl.1 [] [0, 1, 2, 3] [0, 1, 2, 3] rfl ⟨rfl, rfl⟩ ⟨Nat.le_of_ble_eq_true rfl, Nat.le_of_ble_eq_true rfl⟩ ⟨by decide +kernel, by decide +kernel, by decide +kernel⟩ rfl (fun h => by cases h) (Nat.le_of_ble_eq_true rfl) rfl rfl rfl rfl (by decide) rfl rfl (fun H locs h => ?_)
      obtain ⟨hP, hD, hS⟩ := h
      refine lv_if_ne (tgt := 36) hx hb dX6_jump_30 (by decide) (fun c13 => ?_) (fun c13 => ?_)
      · have hm := gk_if c13 hm
        refine lv_aload_n hx hb dX6_jump_36 rfl (lv_at hl 0 rfl) ?_
        refine va_get (D := G.1) (cl := vwCl) (own := RX6) (ref := "ExchangeFamiliesModel") (ci := 5) (v := .ref a2) (C := RX6) (T := TX6) (N := 25) hx hb hts k_X6_jump_0 hown hK hP 0 rfl rfl 2 (by decide) (hts _ k_X6_jump_2) (fun _ h9 => h9) rfl dX6_jump_37 ?_
        refine lv_iload_n hx hb dX6_jump_40 rfl (lv_at hl 1 rfl) ?_
        obtain ⟨hi, hm⟩ := gk_ix_some hm
        refine va_iald hx hb hK hP 2 0 rfl rfl hi dX6_jump_41 ?_
        refine lv_iconst (v := -1) hx hb dX6_jump_42 (by decide) ?_
        refine lv_icmp_eq (tgt := 56) hx hb dX6_jump_43 (by decide) (fun c14 => ?_) (fun c14 => ?_)
        · have hm := gk_it c14 hm
          refine lv_bipush (v := -11) hx hb dX6_jump_56 (by decide) ?_
          rw [kr _ _ _ (Option.some.inj hm).symm]
          exact gk_iret C ⟨hP, hD, hS⟩ dX6_jump_58
        · have hm := gk_if c14 hm
          refine lv_aload_n hx hb dX6_jump_46 rfl (lv_at hl 0 rfl) ?_
          refine va_get (D := G.1) (cl := vwCl) (own := RX6) (ref := "ExchangeFamiliesModel") (ci := 5) (v := .ref a2) (C := RX6) (T := TX6) (N := 25) hx hb hts k_X6_jump_0 hown hK hP 0 rfl rfl 2 (by decide) (hts _ k_X6_jump_2) (fun _ h9 => h9) rfl dX6_jump_47 ?_
          refine lv_iload_n hx hb dX6_jump_50 rfl (lv_at hl 2 rfl) ?_
          obtain ⟨hi, hm⟩ := gk_ix_some hm
          refine va_iald hx hb hK hP 2 0 rfl rfl hi dX6_jump_51 ?_
          refine lv_iconst (v := -1) hx hb dX6_jump_52 (by decide) ?_
          refine lv_icmp_ne (tgt := 59) hx hb dX6_jump_53 (by decide) (fun c15 => ?_) (fun c15 => ?_)
          · have hm := gk_if c15 hm
            refine lv_aload_n hx hb dX6_jump_59 rfl (lv_at hl 0 rfl) ?_
            refine lv_iload_n hx hb dX6_jump_60 rfl (lv_at hl 1 rfl) ?_
            refine lv_iload_n hx hb dX6_jump_61 rfl (lv_at hl 2 rfl) ?_
            obtain ⟨r16, r17, hq, hm⟩ := gk_bd2_some hm
            refine gk_callV (n := 2) (bytes := cX6_finds) (maxL := 5) (ret := none) (Cn := RX6) (T := TX6) (N := 25) [(a2, gk_I G 6 f_kind)] [(a0, .inr (5, [.int f_n, .ref a1, .ref a2, .ref a3, .ref a4, .int f_keptN, .ref a5, .ref a6, .ref a7, .ref a8, .ref a9, .ref a10, .ref a11, .ref a12, .ref a13, .ref a14, .ref a15, .ref a16, .int f_side, .ref a17, .ref a18, .ref a19, .int r16, .ref a20, .ref a21])), (a1, gk_J G 6 f_members), (a2, gk_I G 6 f_kind), (a19, gk_Z G 729 r17)] [] C ⟨hP, hD, hS⟩ (c_X6_finds l G a0 a1 a2 a3 a4 a5 a6 a7 a8 a9 a10 a11 a12 a13 a14 a15 a16 a17 a18 a19 a20 a21 f_n f_keptN f_side f_rows f_members f_jump x1 x2 hq) gX6_jump_X6_finds dX6_jump_62 hl.1 [0, 1, 3] [2] [1, 2, 0, 3] rfl rfl ⟨rfl, rfl⟩ ⟨Nat.le_of_ble_eq_true rfl, Nat.le_of_ble_eq_true rfl⟩ ⟨rfl, by decide +kernel, by decide +kernel, by decide +kernel⟩ rfl (fun h => by cases h) (Nat.le_of_ble_eq_true rfl) rfl rfl rfl rfl (by decide) rfl rfl (fun H locs h => ?_)
            obtain ⟨hP, hD, hS⟩ := h
            refine lv_aload_n hx hb dX6_jump_65 rfl (lv_at hl 0 rfl) ?_
            refine va_get (D := G.1) (cl := vwCl) (own := RX6) (ref := "ExchangeFamiliesModel") (ci := 5) (v := .ref a19) (C := RX6) (T := TX6) (N := 25) hx hb hts k_X6_jump_0 hown hK hP 0 rfl rfl 21 (by decide) (hts _ k_X6_jump_3) (fun _ h9 => h9) rfl dX6_jump_66 ?_
            refine lv_iload_n hx hb dX6_jump_69 rfl (lv_at hl 3 rfl) ?_
            obtain ⟨hi, hm⟩ := gk_ix_some hm
            refine va_zald hx hb hK hP 3 2 rfl rfl hi dX6_jump_70 ?_
            refine lv_if_eq (tgt := 78) hx hb dX6_jump_71 (by decide) (fun c18 => ?_) (fun c18 => ?_)
            · have hm := gk_it c18 hm
              refine lv_iconst (v := 0) hx hb dX6_jump_78 (by decide) ?_
              rw [kr _ _ _ (Option.some.inj hm).symm]
              exact gk_iret C ⟨hP, hD, hS⟩ dX6_jump_79
            · have hm := gk_if c18 hm
              refine lv_iconst (v := 1) hx hb dX6_jump_74 (by decide) ?_
              refine lv_goto (tgt := 79) hx hb dX6_jump_75 (by decide) ?_
              rw [kr _ _ _ (Option.some.inj hm).symm]
              exact gk_iret C ⟨hP, hD, hS⟩ dX6_jump_79
          · have hm := gk_it c15 hm
            refine lv_bipush (v := -11) hx hb dX6_jump_56 (by decide) ?_
            rw [kr _ _ _ (Option.some.inj hm).symm]
            exact gk_iret C ⟨hP, hD, hS⟩ dX6_jump_58
      · have hm := gk_it c13 hm
        refine lv_bipush (v := -2) hx hb dX6_jump_33 (by decide) ?_
        rw [kr _ _ _ (Option.some.inj hm).symm]
        exact gk_iret C ⟨hP, hD, hS⟩ dX6_jump_35
def m_X6_jump (f_n : Int32) (f_rows : Int32) (f_members : (Nat → Int64)) (f_kind : (Nat → Int32)) (f_jump : (Nat → Int32)) (x1 : Int32) (x2 : Int32) (x3 : Int32) : Option (Int32 × Int32 × (Nat → Int32)) := m_X6_jump_0 f_n f_rows f_members f_kind f_jump x1 x2 x3
theorem c_X6_jump (l : Launch) (G : gk_G) (a0 a1 a2 a3 a4 a5 a6 a7 a8 a9 a10 a11 a12 a13 a14 a15 a16 a17 a18 a19 a20 a21 : Nat) (f_n : Int32) (f_keptN : Int32) (f_side : Int32) (f_rows : Int32) (f_members : (Nat → Int64)) (f_kind : (Nat → Int32)) (f_jump : (Nat → Int32)) (x1 : Int32) (x2 : Int32) (x3 : Int32) {rv : Int32} {g_rows : Int32} {g_jump : (Nat → Int32)} (hm : m_X6_jump f_n f_rows f_members f_kind f_jump x1 x2 x3 = some (rv, g_rows, g_jump)) : gk_M l yX6_jump wsX6_jump rm_X6_jump false G [.ref a0, .int x1, .int x2, .int x3] [(a0, .inr (5, [.int f_n, .ref a1, .ref a2, .ref a3, .ref a4, .int f_keptN, .ref a5, .ref a6, .ref a7, .ref a8, .ref a9, .ref a10, .ref a11, .ref a12, .ref a13, .ref a14, .ref a15, .ref a16, .int f_side, .ref a17, .ref a18, .ref a19, .int f_rows, .ref a20, .ref a21])), (a1, gk_J G 6 f_members), (a2, gk_I G 6 f_kind), (a19, gk_Z G 729 f_jump)] (some (.int rv)) [(a0, .inr (5, [.int f_n, .ref a1, .ref a2, .ref a3, .ref a4, .int f_keptN, .ref a5, .ref a6, .ref a7, .ref a8, .ref a9, .ref a10, .ref a11, .ref a12, .ref a13, .ref a14, .ref a15, .ref a16, .int f_side, .ref a17, .ref a18, .ref a19, .int g_rows, .ref a20, .ref a21])), (a1, gk_J G 6 f_members), (a2, gk_I G 6 f_kind), (a19, gk_Z G 729 g_jump)] :=
  gk_of (by decide) rfl (Nat.le_of_ble_eq_true rfl) (fun p e s m below meth c A ls C h hl => w_X6_jump_0 C hm (fun v0 v1 v2 ez => by cases ez; rfl) h (show lv_has ls 4 [(0, .ref a0), (1, .int x1), (2, .int x2), (3, .int x3)] from hl))

/-! ===== ExchangeFamiliesModel.twistTo(II)I ===== -/
abbrev rm_X6_twistTo : Room := { frames := 3, cells := 0, slots := 0, locals := 154 }
theorem k_X6_twistTo_0 : ∀ w ∈ u_ws RX6 TX6 25, w ∈ wsX6_twistTo := by decide +kernel
theorem k_X6_twistTo_1 : Cond.fieldLink RX6 9 "ExchangeFamiliesModel" "n" "I" ∈ wsX6_twistTo := by decide +kernel
theorem k_X6_twistTo_2 : Cond.fieldLink RX6 15 "ExchangeFamiliesModel" "members" "[J" ∈ wsX6_twistTo := by decide +kernel
def m_X6_twistTo_B2 (f_n : Int32) (f_members : (Nat → Int64)) (x1 : Int32) (x2 : Int32) (x3 : Int32) : Option ((Int32) ⊕ ((Int32) ⊕ (Unit))) := (if ((1 : Int32) <<< (f_n &&& 31)) ≤ x3 then some (.inr (.inr ())) else gk_ix x1 6 (gk_bd1 (m_X6_twisted f_n (f_members x1.toNatClampNeg) x3) (fun r4 => gk_ix x2 6 ((if (lg_cmp r4 (f_members x2.toNatClampNeg)) = (0 : Int32) then some (.inr (.inl x3)) else some (.inl (x3 + 1)))))))
set_option maxRecDepth 100000 in
set_option maxHeartbeats 4000000 in
theorem w_X6_twistTo_B2 {p : Program} {l : Launch} {e : Env} {s : State} {m : MethodId} {args : Array Value} {below : List Frame} {meth : Method} {c : Code} {G : gk_G} {A : Nat → Prop} {Q : State → Prop} {a0 a1 a2 a3 a4 a5 a6 a7 a8 a9 a10 a11 a12 a13 a14 a15 a16 a17 a18 a19 a20 a21 : Nat} (C : gk_C p s m args meth c cX6_twistTo 4 (some .int) yX6_twistTo wsX6_twistTo false G A) {f_n : Int32} {f_members : (Nat → Int64)} {x1 : Int32} {x2 : Int32} {x3 : Int32} {f_keptN : Int32} {f_side : Int32} {f_rows : Int32} {yy : (Int32) ⊕ ((Int32) ⊕ (Unit))} (hm : m_X6_twistTo_B2 f_n f_members x1 x2 x3 = some yy) (kl : ∀ (x3 : Int32), yy = .inl x3 → ∀ (H : Heap) (locs : List Loc) (ls : Array Slot), gk_H G A s [(a0, .inr (5, [.int f_n, .ref a1, .ref a2, .ref a3, .ref a4, .int f_keptN, .ref a5, .ref a6, .ref a7, .ref a8, .ref a9, .ref a10, .ref a11, .ref a12, .ref a13, .ref a14, .ref a15, .ref a16, .int f_side, .ref a17, .ref a18, .ref a19, .int f_rows, .ref a20, .ref a21])), (a1, gk_J G 6 f_members)] H locs → lv_has ls 4 [(0, .ref a0), (1, .int x1), (2, .int x2), (3, .int x3)] → W p l e rm_X6_twistTo s m args below meth c H locs 0 0 Q (F0 m 2 ls [])) (kx : yy = .inr (.inr ()) → ∀ (H : Heap) (locs : List Loc) (ls : Array Slot), gk_H G A s [(a0, .inr (5, [.int f_n, .ref a1, .ref a2, .ref a3, .ref a4, .int f_keptN, .ref a5, .ref a6, .ref a7, .ref a8, .ref a9, .ref a10, .ref a11, .ref a12, .ref a13, .ref a14, .ref a15, .ref a16, .int f_side, .ref a17, .ref a18, .ref a19, .int f_rows, .ref a20, .ref a21])), (a1, gk_J G 6 f_members)] H locs → lv_has ls 4 [] → W p l e rm_X6_twistTo s m args below meth c H locs 0 0 Q (F0 m 41 ls [])) (kr : ∀ (rv : Int32), yy = .inr (.inl rv) → Q = MQ below (gk_Q G (some (.int rv)) [(a0, .inr (5, [.int f_n, .ref a1, .ref a2, .ref a3, .ref a4, .int f_keptN, .ref a5, .ref a6, .ref a7, .ref a8, .ref a9, .ref a10, .ref a11, .ref a12, .ref a13, .ref a14, .ref a15, .ref a16, .int f_side, .ref a17, .ref a18, .ref a19, .int f_rows, .ref a20, .ref a21])), (a1, gk_J G 6 f_members)] A) args s 0 0 A) {H : Heap} {locs : List Loc} {ls : Array Slot} (h : gk_H G A s [(a0, .inr (5, [.int f_n, .ref a1, .ref a2, .ref a3, .ref a4, .int f_keptN, .ref a5, .ref a6, .ref a7, .ref a8, .ref a9, .ref a10, .ref a11, .ref a12, .ref a13, .ref a14, .ref a15, .ref a16, .int f_side, .ref a17, .ref a18, .ref a19, .int f_rows, .ref a20, .ref a21])), (a1, gk_J G 6 f_members)] H locs) (hl : lv_has ls 4 [(0, .ref a0), (1, .int x1), (2, .int x2), (3, .int x3)]) : W p l e rm_X6_twistTo s m args below meth c H locs 0 0 Q (F0 m 2 ls []) := by
  obtain ⟨hx, hb, hml, hr, hown, hnm, hts, hlk, hK, hSt, hA⟩ := id C
  obtain ⟨hP, hD, hS⟩ := h
  unfold m_X6_twistTo_B2 at hm
  refine lv_iload_n hx hb dX6_twistTo_2 rfl (lv_at hl 3 rfl) ?_
  refine lv_iconst (v := 1) hx hb dX6_twistTo_3 (by decide) ?_
  refine lv_aload_n hx hb dX6_twistTo_4 rfl (lv_at hl 0 rfl) ?_
  refine va_get (D := G.1) (cl := vwCl) (own := RX6) (ref := "ExchangeFamiliesModel") (ci := 5) (v := .int f_n) (C := RX6) (T := TX6) (N := 25) hx hb hts k_X6_twistTo_0 hown hK hP 0 rfl rfl 0 (by decide) (hts _ k_X6_twistTo_1) (fun _ h9 => h9) rfl dX6_twistTo_5 ?_
  refine lv_ishl hx hb dX6_twistTo_8 ?_
  refine lv_icmp_ge (tgt := 41) hx hb dX6_twistTo_9 (by decide) (fun c3 => ?_) (fun c3 => ?_)
  · have hm := gk_it c3 hm
    exact kx (Option.some.inj hm).symm _ _ _ ⟨hP, hD, hS⟩ (lv_sub hl [] rfl)
  · have hm := gk_if c3 hm
    refine lv_aload_n hx hb dX6_twistTo_12 rfl (lv_at hl 0 rfl) ?_
    refine lv_aload_n hx hb dX6_twistTo_13 rfl (lv_at hl 0 rfl) ?_
    refine va_get (D := G.1) (cl := vwCl) (own := RX6) (ref := "ExchangeFamiliesModel") (ci := 5) (v := .ref a1) (C := RX6) (T := TX6) (N := 25) hx hb hts k_X6_twistTo_0 hown hK hP 0 rfl rfl 1 (by decide) (hts _ k_X6_twistTo_2) (fun _ h9 => h9) rfl dX6_twistTo_14 ?_
    refine lv_iload_n hx hb dX6_twistTo_17 rfl (lv_at hl 1 rfl) ?_
    obtain ⟨hi, hm⟩ := gk_ix_some hm
    refine va_lald hx hb hK hP 1 1 rfl rfl hi dX6_twistTo_18 ?_
    refine lv_iload_n hx hb dX6_twistTo_19 rfl (lv_at hl 3 rfl) ?_
    obtain ⟨r4, hq, hm⟩ := gk_bd1_some hm
    refine gk_callV (n := 2) (bytes := cX6_twisted) (maxL := 7) (ret := (some .long)) (Cn := RX6) (T := TX6) (N := 25) [(a1, gk_J G 6 f_members)] [(a0, .inr (5, [.int f_n, .ref a1, .ref a2, .ref a3, .ref a4, .int f_keptN, .ref a5, .ref a6, .ref a7, .ref a8, .ref a9, .ref a10, .ref a11, .ref a12, .ref a13, .ref a14, .ref a15, .ref a16, .int f_side, .ref a17, .ref a18, .ref a19, .int f_rows, .ref a20, .ref a21])), (a1, gk_J G 6 f_members)] [] C ⟨hP, hD, hS⟩ (c_X6_twisted l G a0 a1 a2 a3 a4 a5 a6 a7 a8 a9 a10 a11 a12 a13 a14 a15 a16 a17 a18 a19 a20 a21 f_n f_keptN f_side f_rows (f_members x1.toNatClampNeg) x3 hq) gX6_twistTo_X6_twisted dX6_twistTo_20 hl.1 [0] [1] [1, 0] rfl rfl ⟨rfl, rfl⟩ ⟨Nat.le_of_ble_eq_true rfl, Nat.le_of_ble_eq_true rfl⟩ ⟨rfl, by decide +kernel, by decide +kernel, by decide +kernel⟩ rfl (fun h => by cases h) (Nat.le_of_ble_eq_true rfl) rfl rfl rfl rfl (by decide) rfl rfl (fun H locs h => ?_)
    obtain ⟨hP, hD, hS⟩ := h
    refine lv_aload_n hx hb dX6_twistTo_23 rfl (lv_at hl 0 rfl) ?_
    refine va_get (D := G.1) (cl := vwCl) (own := RX6) (ref := "ExchangeFamiliesModel") (ci := 5) (v := .ref a1) (C := RX6) (T := TX6) (N := 25) hx hb hts k_X6_twistTo_0 hown hK hP 0 rfl rfl 1 (by decide) (hts _ k_X6_twistTo_2) (fun _ h9 => h9) rfl dX6_twistTo_24 ?_
    refine lv_iload_n hx hb dX6_twistTo_27 rfl (lv_at hl 2 rfl) ?_
    obtain ⟨hi, hm⟩ := gk_ix_some hm
    refine va_lald hx hb hK hP 1 1 rfl rfl hi dX6_twistTo_28 ?_
    refine W.lcmp hx hb dX6_twistTo_29 ?_
    refine lv_if_ne (tgt := 35) hx hb dX6_twistTo_30 (by decide) (fun c5 => ?_) (fun c5 => ?_)
    · have hm := gk_if c5 hm
      refine lv_iinc (v := x3 + 1) (lv' := [(3, .int (x3 + 1)), (0, .ref a0), (1, .int x1), (2, .int x2)]) hx hb dX6_twistTo_35 hl (k := 3) rfl rfl (by decide) rfl (fun ls hl => ?_)
      refine lv_goto (tgt := 2) hx hb dX6_twistTo_38 (by decide) ?_
      exact kl _ (Option.some.inj hm).symm _ _ _ ⟨hP, hD, hS⟩ (lv_sub hl [1, 2, 3, 0] rfl)
    · have hm := gk_it c5 hm
      refine lv_iload_n hx hb dX6_twistTo_33 rfl (lv_at hl 3 rfl) ?_
      rw [kr _ (Option.some.inj hm).symm]
      exact gk_iret C ⟨hP, hD, hS⟩ dX6_twistTo_34
set_option maxRecDepth 100000 in
set_option maxHeartbeats 4000000 in
theorem w_X6_twistTo_L2 {p : Program} {l : Launch} {e : Env} {s : State} {m : MethodId} {args : Array Value} {below : List Frame} {meth : Method} {c : Code} {G : gk_G} {A : Nat → Prop} {Q : State → Prop} {a0 a1 a2 a3 a4 a5 a6 a7 a8 a9 a10 a11 a12 a13 a14 a15 a16 a17 a18 a19 a20 a21 : Nat} (C : gk_C p s m args meth c cX6_twistTo 4 (some .int) yX6_twistTo wsX6_twistTo false G A) {f_n : Int32} {f_members : (Nat → Int64)} {x1 : Int32} {x2 : Int32} {x3 : Int32} {f_keptN : Int32} {f_side : Int32} {f_rows : Int32} {k : Nat} (hm : gk_lp (fun z => m_X6_twistTo_B2 f_n f_members x1 x2 z) k x3 = some (.inr ())) (kx : ∀ (H : Heap) (locs : List Loc) (ls : Array Slot), gk_H G A s [(a0, .inr (5, [.int f_n, .ref a1, .ref a2, .ref a3, .ref a4, .int f_keptN, .ref a5, .ref a6, .ref a7, .ref a8, .ref a9, .ref a10, .ref a11, .ref a12, .ref a13, .ref a14, .ref a15, .ref a16, .int f_side, .ref a17, .ref a18, .ref a19, .int f_rows, .ref a20, .ref a21])), (a1, gk_J G 6 f_members)] H locs → lv_has ls 4 [] → W p l e rm_X6_twistTo s m args below meth c H locs 0 0 Q (F0 m 41 ls [])) {H : Heap} {locs : List Loc} {ls : Array Slot} (h : gk_H G A s [(a0, .inr (5, [.int f_n, .ref a1, .ref a2, .ref a3, .ref a4, .int f_keptN, .ref a5, .ref a6, .ref a7, .ref a8, .ref a9, .ref a10, .ref a11, .ref a12, .ref a13, .ref a14, .ref a15, .ref a16, .int f_side, .ref a17, .ref a18, .ref a19, .int f_rows, .ref a20, .ref a21])), (a1, gk_J G 6 f_members)] H locs) (hl : lv_has ls 4 [(0, .ref a0), (1, .int x1), (2, .int x2), (3, .int x3)]) : W p l e rm_X6_twistTo s m args below meth c H locs 0 0 Q (F0 m 2 ls []) :=
  gk_lp_some (P := fun z => ∀ (H : Heap) (locs : List Loc) (ls : Array Slot), gk_H G A s [(a0, .inr (5, [.int f_n, .ref a1, .ref a2, .ref a3, .ref a4, .int f_keptN, .ref a5, .ref a6, .ref a7, .ref a8, .ref a9, .ref a10, .ref a11, .ref a12, .ref a13, .ref a14, .ref a15, .ref a16, .int f_side, .ref a17, .ref a18, .ref a19, .int f_rows, .ref a20, .ref a21])), (a1, gk_J G 6 f_members)] H locs → lv_has ls 4 [(0, .ref a0), (1, .int x1), (2, .int x2), (3, .int z)] → W p l e rm_X6_twistTo s m args below meth c H locs 0 0 Q (F0 m 2 ls [])) (E := fun r => (r = .inr () → ∀ (H : Heap) (locs : List Loc) (ls : Array Slot), gk_H G A s [(a0, .inr (5, [.int f_n, .ref a1, .ref a2, .ref a3, .ref a4, .int f_keptN, .ref a5, .ref a6, .ref a7, .ref a8, .ref a9, .ref a10, .ref a11, .ref a12, .ref a13, .ref a14, .ref a15, .ref a16, .int f_side, .ref a17, .ref a18, .ref a19, .int f_rows, .ref a20, .ref a21])), (a1, gk_J G 6 f_members)] H locs → lv_has ls 4 [] → W p l e rm_X6_twistTo s m args below meth c H locs 0 0 Q (F0 m 41 ls [])) ∧ (∀ (rv : Int32), r = .inl rv → Q = MQ below (gk_Q G (some (.int rv)) [(a0, .inr (5, [.int f_n, .ref a1, .ref a2, .ref a3, .ref a4, .int f_keptN, .ref a5, .ref a6, .ref a7, .ref a8, .ref a9, .ref a10, .ref a11, .ref a12, .ref a13, .ref a14, .ref a15, .ref a16, .int f_side, .ref a17, .ref a18, .ref a19, .int f_rows, .ref a20, .ref a21])), (a1, gk_J G 6 f_members)] A) args s 0 0 A)) (fun z x hf kl ke H locs ls h hl => w_X6_twistTo_B2 C hf (fun v0 ez => kl v0 ez) (fun ez => (ke _ ez).1 rfl) (fun v0 ez => (ke _ ez).2 v0 rfl) h hl) k x3 _ hm (⟨fun ez => (by cases ez; exact kx), fun v0 ez => (by cases ez)⟩) _ _ _ h hl
set_option maxRecDepth 100000 in
set_option maxHeartbeats 4000000 in
theorem w_X6_twistTo_L2r {p : Program} {l : Launch} {e : Env} {s : State} {m : MethodId} {args : Array Value} {below : List Frame} {meth : Method} {c : Code} {G : gk_G} {A : Nat → Prop} {Q : State → Prop} {a0 a1 a2 a3 a4 a5 a6 a7 a8 a9 a10 a11 a12 a13 a14 a15 a16 a17 a18 a19 a20 a21 : Nat} (C : gk_C p s m args meth c cX6_twistTo 4 (some .int) yX6_twistTo wsX6_twistTo false G A) {f_n : Int32} {f_members : (Nat → Int64)} {x1 : Int32} {x2 : Int32} {x3 : Int32} {f_keptN : Int32} {f_side : Int32} {f_rows : Int32} {k : Nat} {rv : Int32} (hm : gk_lp (fun z => m_X6_twistTo_B2 f_n f_members x1 x2 z) k x3 = some (.inl rv)) (kr : Q = MQ below (gk_Q G (some (.int rv)) [(a0, .inr (5, [.int f_n, .ref a1, .ref a2, .ref a3, .ref a4, .int f_keptN, .ref a5, .ref a6, .ref a7, .ref a8, .ref a9, .ref a10, .ref a11, .ref a12, .ref a13, .ref a14, .ref a15, .ref a16, .int f_side, .ref a17, .ref a18, .ref a19, .int f_rows, .ref a20, .ref a21])), (a1, gk_J G 6 f_members)] A) args s 0 0 A) {H : Heap} {locs : List Loc} {ls : Array Slot} (h : gk_H G A s [(a0, .inr (5, [.int f_n, .ref a1, .ref a2, .ref a3, .ref a4, .int f_keptN, .ref a5, .ref a6, .ref a7, .ref a8, .ref a9, .ref a10, .ref a11, .ref a12, .ref a13, .ref a14, .ref a15, .ref a16, .int f_side, .ref a17, .ref a18, .ref a19, .int f_rows, .ref a20, .ref a21])), (a1, gk_J G 6 f_members)] H locs) (hl : lv_has ls 4 [(0, .ref a0), (1, .int x1), (2, .int x2), (3, .int x3)]) : W p l e rm_X6_twistTo s m args below meth c H locs 0 0 Q (F0 m 2 ls []) :=
  gk_lp_some (P := fun z => ∀ (H : Heap) (locs : List Loc) (ls : Array Slot), gk_H G A s [(a0, .inr (5, [.int f_n, .ref a1, .ref a2, .ref a3, .ref a4, .int f_keptN, .ref a5, .ref a6, .ref a7, .ref a8, .ref a9, .ref a10, .ref a11, .ref a12, .ref a13, .ref a14, .ref a15, .ref a16, .int f_side, .ref a17, .ref a18, .ref a19, .int f_rows, .ref a20, .ref a21])), (a1, gk_J G 6 f_members)] H locs → lv_has ls 4 [(0, .ref a0), (1, .int x1), (2, .int x2), (3, .int z)] → W p l e rm_X6_twistTo s m args below meth c H locs 0 0 Q (F0 m 2 ls [])) (E := fun r => (r = .inr () → ∀ (H : Heap) (locs : List Loc) (ls : Array Slot), gk_H G A s [(a0, .inr (5, [.int f_n, .ref a1, .ref a2, .ref a3, .ref a4, .int f_keptN, .ref a5, .ref a6, .ref a7, .ref a8, .ref a9, .ref a10, .ref a11, .ref a12, .ref a13, .ref a14, .ref a15, .ref a16, .int f_side, .ref a17, .ref a18, .ref a19, .int f_rows, .ref a20, .ref a21])), (a1, gk_J G 6 f_members)] H locs → lv_has ls 4 [] → W p l e rm_X6_twistTo s m args below meth c H locs 0 0 Q (F0 m 41 ls [])) ∧ (∀ (rv : Int32), r = .inl rv → Q = MQ below (gk_Q G (some (.int rv)) [(a0, .inr (5, [.int f_n, .ref a1, .ref a2, .ref a3, .ref a4, .int f_keptN, .ref a5, .ref a6, .ref a7, .ref a8, .ref a9, .ref a10, .ref a11, .ref a12, .ref a13, .ref a14, .ref a15, .ref a16, .int f_side, .ref a17, .ref a18, .ref a19, .int f_rows, .ref a20, .ref a21])), (a1, gk_J G 6 f_members)] A) args s 0 0 A)) (fun z x hf kl ke H locs ls h hl => w_X6_twistTo_B2 C hf (fun v0 ez => kl v0 ez) (fun ez => (ke _ ez).1 rfl) (fun v0 ez => (ke _ ez).2 v0 rfl) h hl) k x3 _ hm (⟨fun ez => (by cases ez), fun v0 ez => (by cases ez; exact kr)⟩) _ _ _ h hl
def m_X6_twistTo_0 (f_n : Int32) (f_members : (Nat → Int64)) (x1 : Int32) (x2 : Int32) : Option (Int32) := gk_bs0 (gk_lp (fun z => m_X6_twistTo_B2 f_n f_members x1 x2 z) gk_fu (0 : Int32)) (fun r => some r) (some (-1 : Int32))
set_option maxRecDepth 100000 in
set_option maxHeartbeats 4000000 in
theorem w_X6_twistTo_0 {p : Program} {l : Launch} {e : Env} {s : State} {m : MethodId} {args : Array Value} {below : List Frame} {meth : Method} {c : Code} {G : gk_G} {A : Nat → Prop} {Q : State → Prop} {a0 a1 a2 a3 a4 a5 a6 a7 a8 a9 a10 a11 a12 a13 a14 a15 a16 a17 a18 a19 a20 a21 : Nat} (C : gk_C p s m args meth c cX6_twistTo 4 (some .int) yX6_twistTo wsX6_twistTo false G A) {f_n : Int32} {f_members : (Nat → Int64)} {x1 : Int32} {x2 : Int32} {f_keptN : Int32} {f_side : Int32} {f_rows : Int32} {yy : Int32} (hm : m_X6_twistTo_0 f_n f_members x1 x2 = some yy) (kr : ∀ (rv : Int32), yy = rv → Q = MQ below (gk_Q G (some (.int rv)) [(a0, .inr (5, [.int f_n, .ref a1, .ref a2, .ref a3, .ref a4, .int f_keptN, .ref a5, .ref a6, .ref a7, .ref a8, .ref a9, .ref a10, .ref a11, .ref a12, .ref a13, .ref a14, .ref a15, .ref a16, .int f_side, .ref a17, .ref a18, .ref a19, .int f_rows, .ref a20, .ref a21])), (a1, gk_J G 6 f_members)] A) args s 0 0 A) {H : Heap} {locs : List Loc} {ls : Array Slot} (h : gk_H G A s [(a0, .inr (5, [.int f_n, .ref a1, .ref a2, .ref a3, .ref a4, .int f_keptN, .ref a5, .ref a6, .ref a7, .ref a8, .ref a9, .ref a10, .ref a11, .ref a12, .ref a13, .ref a14, .ref a15, .ref a16, .int f_side, .ref a17, .ref a18, .ref a19, .int f_rows, .ref a20, .ref a21])), (a1, gk_J G 6 f_members)] H locs) (hl : lv_has ls 4 [(0, .ref a0), (1, .int x1), (2, .int x2)]) : W p l e rm_X6_twistTo s m args below meth c H locs 0 0 Q (F0 m 0 ls []) := by
  obtain ⟨hx, hb, hml, hr, hown, hnm, hts, hlk, hK, hSt, hA⟩ := id C
  obtain ⟨hP, hD, hS⟩ := h
  unfold m_X6_twistTo_0 at hm
  refine lv_iconst (v := 0) hx hb dX6_twistTo_0 (by decide) ?_
  refine lv_istore_n (lv' := [(3, .int (0 : Int32)), (0, .ref a0), (1, .int x1), (2, .int x2)]) hx hb dX6_twistTo_1 rfl hl (by decide) rfl (fun ls hl => ?_)
  rcases gk_bs0_some hm with ⟨r6, hq, hm⟩ | ⟨hq, hm⟩
  · exact w_X6_twistTo_L2r C hq (kr _ (Option.some.inj hm).symm) ⟨hP, hD, hS⟩ (lv_sub hl [1, 2, 3, 0] rfl)
  refine w_X6_twistTo_L2 C hq (fun H locs ls h hl => ?_) ⟨hP, hD, hS⟩ (lv_sub hl [1, 2, 3, 0] rfl)
  obtain ⟨hP, hD, hS⟩ := h
  refine lv_iconst (v := -1) hx hb dX6_twistTo_41 (by decide) ?_
  rw [kr _ (Option.some.inj hm).symm]
  exact gk_iret C ⟨hP, hD, hS⟩ dX6_twistTo_42
def m_X6_twistTo (f_n : Int32) (f_members : (Nat → Int64)) (x1 : Int32) (x2 : Int32) : Option (Int32) := m_X6_twistTo_0 f_n f_members x1 x2
theorem c_X6_twistTo (l : Launch) (G : gk_G) (a0 a1 a2 a3 a4 a5 a6 a7 a8 a9 a10 a11 a12 a13 a14 a15 a16 a17 a18 a19 a20 a21 : Nat) (f_n : Int32) (f_keptN : Int32) (f_side : Int32) (f_rows : Int32) (f_members : (Nat → Int64)) (x1 : Int32) (x2 : Int32) {rv : Int32} (hm : m_X6_twistTo f_n f_members x1 x2 = some rv) : gk_M l yX6_twistTo wsX6_twistTo rm_X6_twistTo false G [.ref a0, .int x1, .int x2] [(a0, .inr (5, [.int f_n, .ref a1, .ref a2, .ref a3, .ref a4, .int f_keptN, .ref a5, .ref a6, .ref a7, .ref a8, .ref a9, .ref a10, .ref a11, .ref a12, .ref a13, .ref a14, .ref a15, .ref a16, .int f_side, .ref a17, .ref a18, .ref a19, .int f_rows, .ref a20, .ref a21])), (a1, gk_J G 6 f_members)] (some (.int rv)) [(a0, .inr (5, [.int f_n, .ref a1, .ref a2, .ref a3, .ref a4, .int f_keptN, .ref a5, .ref a6, .ref a7, .ref a8, .ref a9, .ref a10, .ref a11, .ref a12, .ref a13, .ref a14, .ref a15, .ref a16, .int f_side, .ref a17, .ref a18, .ref a19, .int f_rows, .ref a20, .ref a21])), (a1, gk_J G 6 f_members)] :=
  gk_of (by decide) rfl (Nat.le_of_ble_eq_true rfl) (fun p e s m below meth c A ls C h hl => w_X6_twistTo_0 C hm (fun v0 ez => by cases ez; rfl) h (show lv_has ls 4 [(0, .ref a0), (1, .int x1), (2, .int x2)] from hl))

/-! ===== ExchangeFamiliesModel.isRenamed(II)Z ===== -/
abbrev rm_X6_isRenamed : Room := { frames := 3, cells := 0, slots := 0, locals := 150 }
theorem k_X6_isRenamed_0 : ∀ w ∈ u_ws RX6 TX6 25, w ∈ wsX6_isRenamed := by decide +kernel
theorem k_X6_isRenamed_1 : Cond.fieldLink RX6 9 "ExchangeFamiliesModel" "n" "I" ∈ wsX6_isRenamed := by decide +kernel
theorem k_X6_isRenamed_2 : Cond.fieldLink RX6 78 "ExchangeFamiliesModel" "name" "[I" ∈ wsX6_isRenamed := by decide +kernel
def m_X6_isRenamed_B18 (f_n : Int32) (f_members : (Nat → Int64)) (f_name : (Nat → Int32)) (x1 : Int32) (x2 : Int32) (x3 : Int32) (x4 : Int32) (x5 : Int32) : Option ((Int32 × Int32) ⊕ (Int32)) := (if f_n ≤ x5 then some (.inr x4) else gk_ix x5 6 (some (.inl (x4 ||| (((x3 >>> (x5 &&& 31)) &&& (1 : Int32)) <<< ((f_name x5.toNatClampNeg) &&& 31)), x5 + 1))))
set_option maxRecDepth 100000 in
set_option maxHeartbeats 4000000 in
theorem w_X6_isRenamed_B18 {p : Program} {l : Launch} {e : Env} {s : State} {m : MethodId} {args : Array Value} {below : List Frame} {meth : Method} {c : Code} {G : gk_G} {A : Nat → Prop} {Q : State → Prop} {a0 a1 a2 a3 a4 a5 a6 a7 a8 a9 a10 a11 a12 a13 a14 a15 a16 a17 a18 a19 a20 a21 : Nat} (C : gk_C p s m args meth c cX6_isRenamed 6 (some .boolean) yX6_isRenamed wsX6_isRenamed false G A) {f_n : Int32} {f_members : (Nat → Int64)} {f_name : (Nat → Int32)} {x1 : Int32} {x2 : Int32} {x3 : Int32} {x4 : Int32} {x5 : Int32} {f_keptN : Int32} {f_side : Int32} {f_rows : Int32} {yy : (Int32 × Int32) ⊕ (Int32)} (hm : m_X6_isRenamed_B18 f_n f_members f_name x1 x2 x3 x4 x5 = some yy) (kl : ∀ (x4 : Int32) (x5 : Int32), yy = .inl (x4, x5) → ∀ (H : Heap) (locs : List Loc) (ls : Array Slot), gk_H G A s [(a0, .inr (5, [.int f_n, .ref a1, .ref a2, .ref a3, .ref a4, .int f_keptN, .ref a5, .ref a6, .ref a7, .ref a8, .ref a9, .ref a10, .ref a11, .ref a12, .ref a13, .ref a14, .ref a15, .ref a16, .int f_side, .ref a17, .ref a18, .ref a19, .int f_rows, .ref a20, .ref a21])), (a1, gk_J G 6 f_members), (a20, gk_I G 6 f_name)] H locs → lv_has ls 6 [(0, .ref a0), (1, .int x1), (2, .int x2), (3, .int x3), (4, .int x4), (5, .int x5)] → W p l e rm_X6_isRenamed s m args below meth c H locs 0 0 Q (F0 m 18 ls [])) (kx : ∀ (x4 : Int32), yy = .inr x4 → ∀ (H : Heap) (locs : List Loc) (ls : Array Slot), gk_H G A s [(a0, .inr (5, [.int f_n, .ref a1, .ref a2, .ref a3, .ref a4, .int f_keptN, .ref a5, .ref a6, .ref a7, .ref a8, .ref a9, .ref a10, .ref a11, .ref a12, .ref a13, .ref a14, .ref a15, .ref a16, .int f_side, .ref a17, .ref a18, .ref a19, .int f_rows, .ref a20, .ref a21])), (a1, gk_J G 6 f_members), (a20, gk_I G 6 f_name)] H locs → lv_has ls 6 [(0, .ref a0), (1, .int x1), (2, .int x2), (3, .int x3), (4, .int x4)] → W p l e rm_X6_isRenamed s m args below meth c H locs 0 0 Q (F0 m 52 ls [])) {H : Heap} {locs : List Loc} {ls : Array Slot} (h : gk_H G A s [(a0, .inr (5, [.int f_n, .ref a1, .ref a2, .ref a3, .ref a4, .int f_keptN, .ref a5, .ref a6, .ref a7, .ref a8, .ref a9, .ref a10, .ref a11, .ref a12, .ref a13, .ref a14, .ref a15, .ref a16, .int f_side, .ref a17, .ref a18, .ref a19, .int f_rows, .ref a20, .ref a21])), (a1, gk_J G 6 f_members), (a20, gk_I G 6 f_name)] H locs) (hl : lv_has ls 6 [(0, .ref a0), (1, .int x1), (2, .int x2), (3, .int x3), (4, .int x4), (5, .int x5)]) : W p l e rm_X6_isRenamed s m args below meth c H locs 0 0 Q (F0 m 18 ls []) := by
  obtain ⟨hx, hb, hml, hr, hown, hnm, hts, hlk, hK, hSt, hA⟩ := id C
  obtain ⟨hP, hD, hS⟩ := h
  unfold m_X6_isRenamed_B18 at hm
  refine lv_iload hx hb dX6_isRenamed_18 (lv_at hl 5 rfl) ?_
  refine lv_aload_n hx hb dX6_isRenamed_20 rfl (lv_at hl 0 rfl) ?_
  refine va_get (D := G.1) (cl := vwCl) (own := RX6) (ref := "ExchangeFamiliesModel") (ci := 5) (v := .int f_n) (C := RX6) (T := TX6) (N := 25) hx hb hts k_X6_isRenamed_0 hown hK hP 0 rfl rfl 0 (by decide) (hts _ k_X6_isRenamed_1) (fun _ h9 => h9) rfl dX6_isRenamed_21 ?_
  refine lv_icmp_ge (tgt := 52) hx hb dX6_isRenamed_24 (by decide) (fun c5 => ?_) (fun c5 => ?_)
  · have hm := gk_it c5 hm
    exact kx _ (Option.some.inj hm).symm _ _ _ ⟨hP, hD, hS⟩ (lv_sub hl [0, 1, 2, 3, 4] rfl)
  · have hm := gk_if c5 hm
    refine lv_iload hx hb dX6_isRenamed_27 (lv_at hl 4 rfl) ?_
    refine lv_iload_n hx hb dX6_isRenamed_29 rfl (lv_at hl 3 rfl) ?_
    refine lv_iload hx hb dX6_isRenamed_30 (lv_at hl 5 rfl) ?_
    refine lv_ishr hx hb dX6_isRenamed_32 ?_
    refine lv_iconst (v := 1) hx hb dX6_isRenamed_33 (by decide) ?_
    refine lv_iand hx hb dX6_isRenamed_34 ?_
    refine lv_aload_n hx hb dX6_isRenamed_35 rfl (lv_at hl 0 rfl) ?_
    refine va_get (D := G.1) (cl := vwCl) (own := RX6) (ref := "ExchangeFamiliesModel") (ci := 5) (v := .ref a20) (C := RX6) (T := TX6) (N := 25) hx hb hts k_X6_isRenamed_0 hown hK hP 0 rfl rfl 23 (by decide) (hts _ k_X6_isRenamed_2) (fun _ h9 => h9) rfl dX6_isRenamed_36 ?_
    refine lv_iload hx hb dX6_isRenamed_39 (lv_at hl 5 rfl) ?_
    obtain ⟨hi, hm⟩ := gk_ix_some hm
    refine va_iald hx hb hK hP 2 0 rfl rfl hi dX6_isRenamed_41 ?_
    refine lv_ishl hx hb dX6_isRenamed_42 ?_
    refine lv_ior hx hb dX6_isRenamed_43 ?_
    refine lv_istore (lv' := [(4, .int (x4 ||| (((x3 >>> (x5 &&& 31)) &&& (1 : Int32)) <<< ((f_name x5.toNatClampNeg) &&& 31)))), (0, .ref a0), (1, .int x1), (2, .int x2), (3, .int x3), (5, .int x5)]) hx hb dX6_isRenamed_44 hl (by decide) rfl (fun ls hl => ?_)
    refine lv_iinc (v := x5 + 1) (lv' := [(5, .int (x5 + 1)), (4, .int (x4 ||| (((x3 >>> (x5 &&& 31)) &&& (1 : Int32)) <<< ((f_name x5.toNatClampNeg) &&& 31)))), (0, .ref a0), (1, .int x1), (2, .int x2), (3, .int x3)]) hx hb dX6_isRenamed_46 hl (k := 5) rfl rfl (by decide) rfl (fun ls hl => ?_)
    refine lv_goto (tgt := 18) hx hb dX6_isRenamed_49 (by decide) ?_
    exact kl _ _ (Option.some.inj hm).symm _ _ _ ⟨hP, hD, hS⟩ (lv_sub hl [2, 3, 4, 5, 1, 0] rfl)
set_option maxRecDepth 100000 in
set_option maxHeartbeats 4000000 in
theorem w_X6_isRenamed_L18 {p : Program} {l : Launch} {e : Env} {s : State} {m : MethodId} {args : Array Value} {below : List Frame} {meth : Method} {c : Code} {G : gk_G} {A : Nat → Prop} {Q : State → Prop} {a0 a1 a2 a3 a4 a5 a6 a7 a8 a9 a10 a11 a12 a13 a14 a15 a16 a17 a18 a19 a20 a21 : Nat} (C : gk_C p s m args meth c cX6_isRenamed 6 (some .boolean) yX6_isRenamed wsX6_isRenamed false G A) {f_n : Int32} {f_members : (Nat → Int64)} {f_name : (Nat → Int32)} {x1 : Int32} {x2 : Int32} {x3 : Int32} {x4 : Int32} {x5 : Int32} {f_keptN : Int32} {f_side : Int32} {f_rows : Int32} {k : Nat} {e_x4 : Int32} (hm : gk_lp (fun z => m_X6_isRenamed_B18 f_n f_members f_name x1 x2 x3 z.1 z.2) k (x4, x5) = some e_x4) (kx : ∀ (H : Heap) (locs : List Loc) (ls : Array Slot), gk_H G A s [(a0, .inr (5, [.int f_n, .ref a1, .ref a2, .ref a3, .ref a4, .int f_keptN, .ref a5, .ref a6, .ref a7, .ref a8, .ref a9, .ref a10, .ref a11, .ref a12, .ref a13, .ref a14, .ref a15, .ref a16, .int f_side, .ref a17, .ref a18, .ref a19, .int f_rows, .ref a20, .ref a21])), (a1, gk_J G 6 f_members), (a20, gk_I G 6 f_name)] H locs → lv_has ls 6 [(0, .ref a0), (1, .int x1), (2, .int x2), (3, .int x3), (4, .int e_x4)] → W p l e rm_X6_isRenamed s m args below meth c H locs 0 0 Q (F0 m 52 ls [])) {H : Heap} {locs : List Loc} {ls : Array Slot} (h : gk_H G A s [(a0, .inr (5, [.int f_n, .ref a1, .ref a2, .ref a3, .ref a4, .int f_keptN, .ref a5, .ref a6, .ref a7, .ref a8, .ref a9, .ref a10, .ref a11, .ref a12, .ref a13, .ref a14, .ref a15, .ref a16, .int f_side, .ref a17, .ref a18, .ref a19, .int f_rows, .ref a20, .ref a21])), (a1, gk_J G 6 f_members), (a20, gk_I G 6 f_name)] H locs) (hl : lv_has ls 6 [(0, .ref a0), (1, .int x1), (2, .int x2), (3, .int x3), (4, .int x4), (5, .int x5)]) : W p l e rm_X6_isRenamed s m args below meth c H locs 0 0 Q (F0 m 18 ls []) :=
  gk_lp_some (P := fun z => ∀ (H : Heap) (locs : List Loc) (ls : Array Slot), gk_H G A s [(a0, .inr (5, [.int f_n, .ref a1, .ref a2, .ref a3, .ref a4, .int f_keptN, .ref a5, .ref a6, .ref a7, .ref a8, .ref a9, .ref a10, .ref a11, .ref a12, .ref a13, .ref a14, .ref a15, .ref a16, .int f_side, .ref a17, .ref a18, .ref a19, .int f_rows, .ref a20, .ref a21])), (a1, gk_J G 6 f_members), (a20, gk_I G 6 f_name)] H locs → lv_has ls 6 [(0, .ref a0), (1, .int x1), (2, .int x2), (3, .int x3), (4, .int z.1), (5, .int z.2)] → W p l e rm_X6_isRenamed s m args below meth c H locs 0 0 Q (F0 m 18 ls [])) (E := fun r => (∀ (x4 : Int32), r = x4 → ∀ (H : Heap) (locs : List Loc) (ls : Array Slot), gk_H G A s [(a0, .inr (5, [.int f_n, .ref a1, .ref a2, .ref a3, .ref a4, .int f_keptN, .ref a5, .ref a6, .ref a7, .ref a8, .ref a9, .ref a10, .ref a11, .ref a12, .ref a13, .ref a14, .ref a15, .ref a16, .int f_side, .ref a17, .ref a18, .ref a19, .int f_rows, .ref a20, .ref a21])), (a1, gk_J G 6 f_members), (a20, gk_I G 6 f_name)] H locs → lv_has ls 6 [(0, .ref a0), (1, .int x1), (2, .int x2), (3, .int x3), (4, .int x4)] → W p l e rm_X6_isRenamed s m args below meth c H locs 0 0 Q (F0 m 52 ls []))) (fun z x hf kl ke H locs ls h hl => w_X6_isRenamed_B18 C hf (fun v0 v1 ez => kl (v0, v1) ez) (fun v0 ez => ke _ ez v0 rfl) h hl) k (x4, x5) _ hm (fun v0 ez => (by cases ez; exact kx)) _ _ _ h hl
def m_X6_isRenamed_J52 (f_n : Int32) (f_members : (Nat → Int64)) (f_name : (Nat → Int32)) (x1 : Int32) (x2 : Int32) (x3 : Int32) (x4 : Int32) : Option ((Int32) ⊕ ((Int32) ⊕ (Unit))) := gk_bd1 (m_X6_isMember f_members x1 x3) (fun r7 => gk_bd1 (m_X6_isMember f_members x2 x4) (fun r8 => (if r7 = r8 then some (.inl (x3 + 1)) else some (.inr (.inl (0 : Int32))))))
set_option maxRecDepth 100000 in
set_option maxHeartbeats 4000000 in
theorem w_X6_isRenamed_J52 {p : Program} {l : Launch} {e : Env} {s : State} {m : MethodId} {args : Array Value} {below : List Frame} {meth : Method} {c : Code} {G : gk_G} {A : Nat → Prop} {Q : State → Prop} {a0 a1 a2 a3 a4 a5 a6 a7 a8 a9 a10 a11 a12 a13 a14 a15 a16 a17 a18 a19 a20 a21 : Nat} (C : gk_C p s m args meth c cX6_isRenamed 6 (some .boolean) yX6_isRenamed wsX6_isRenamed false G A) {f_n : Int32} {f_members : (Nat → Int64)} {f_name : (Nat → Int32)} {x1 : Int32} {x2 : Int32} {x3 : Int32} {x4 : Int32} {f_keptN : Int32} {f_side : Int32} {f_rows : Int32} {yy : (Int32) ⊕ ((Int32) ⊕ (Unit))} (hm : m_X6_isRenamed_J52 f_n f_members f_name x1 x2 x3 x4 = some yy) (kl : ∀ (x3 : Int32), yy = .inl x3 → ∀ (H : Heap) (locs : List Loc) (ls : Array Slot), gk_H G A s [(a0, .inr (5, [.int f_n, .ref a1, .ref a2, .ref a3, .ref a4, .int f_keptN, .ref a5, .ref a6, .ref a7, .ref a8, .ref a9, .ref a10, .ref a11, .ref a12, .ref a13, .ref a14, .ref a15, .ref a16, .int f_side, .ref a17, .ref a18, .ref a19, .int f_rows, .ref a20, .ref a21])), (a1, gk_J G 6 f_members), (a20, gk_I G 6 f_name)] H locs → lv_has ls 6 [(0, .ref a0), (1, .int x1), (2, .int x2), (3, .int x3)] → W p l e rm_X6_isRenamed s m args below meth c H locs 0 0 Q (F0 m 2 ls [])) (kx : yy = .inr (.inr ()) → ∀ (H : Heap) (locs : List Loc) (ls : Array Slot), gk_H G A s [(a0, .inr (5, [.int f_n, .ref a1, .ref a2, .ref a3, .ref a4, .int f_keptN, .ref a5, .ref a6, .ref a7, .ref a8, .ref a9, .ref a10, .ref a11, .ref a12, .ref a13, .ref a14, .ref a15, .ref a16, .int f_side, .ref a17, .ref a18, .ref a19, .int f_rows, .ref a20, .ref a21])), (a1, gk_J G 6 f_members), (a20, gk_I G 6 f_name)] H locs → lv_has ls 6 [] → W p l e rm_X6_isRenamed s m args below meth c H locs 0 0 Q (F0 m 76 ls [])) (kr : ∀ (rv : Int32), yy = .inr (.inl rv) → Q = MQ below (gk_Q G (some (.int rv)) [(a0, .inr (5, [.int f_n, .ref a1, .ref a2, .ref a3, .ref a4, .int f_keptN, .ref a5, .ref a6, .ref a7, .ref a8, .ref a9, .ref a10, .ref a11, .ref a12, .ref a13, .ref a14, .ref a15, .ref a16, .int f_side, .ref a17, .ref a18, .ref a19, .int f_rows, .ref a20, .ref a21])), (a1, gk_J G 6 f_members), (a20, gk_I G 6 f_name)] A) args s 0 0 A) {H : Heap} {locs : List Loc} {ls : Array Slot} (h : gk_H G A s [(a0, .inr (5, [.int f_n, .ref a1, .ref a2, .ref a3, .ref a4, .int f_keptN, .ref a5, .ref a6, .ref a7, .ref a8, .ref a9, .ref a10, .ref a11, .ref a12, .ref a13, .ref a14, .ref a15, .ref a16, .int f_side, .ref a17, .ref a18, .ref a19, .int f_rows, .ref a20, .ref a21])), (a1, gk_J G 6 f_members), (a20, gk_I G 6 f_name)] H locs) (hl : lv_has ls 6 [(0, .ref a0), (1, .int x1), (2, .int x2), (3, .int x3), (4, .int x4)]) : W p l e rm_X6_isRenamed s m args below meth c H locs 0 0 Q (F0 m 52 ls []) := by
  obtain ⟨hx, hb, hml, hr, hown, hnm, hts, hlk, hK, hSt, hA⟩ := id C
  obtain ⟨hP, hD, hS⟩ := h
  unfold m_X6_isRenamed_J52 at hm
  refine lv_aload_n hx hb dX6_isRenamed_52 rfl (lv_at hl 0 rfl) ?_
  refine lv_iload_n hx hb dX6_isRenamed_53 rfl (lv_at hl 1 rfl) ?_
  refine lv_iload_n hx hb dX6_isRenamed_54 rfl (lv_at hl 3 rfl) ?_
  obtain ⟨r7, hq, hm⟩ := gk_bd1_some hm
  refine gk_callV (n := 2) (bytes := cX6_isMember) (maxL := 3) (ret := (some .boolean)) (Cn := RX6) (T := TX6) (N := 25) [(a20, gk_I G 6 f_name)] [(a0, .inr (5, [.int f_n, .ref a1, .ref a2, .ref a3, .ref a4, .int f_keptN, .ref a5, .ref a6, .ref a7, .ref a8, .ref a9, .ref a10, .ref a11, .ref a12, .ref a13, .ref a14, .ref a15, .ref a16, .int f_side, .ref a17, .ref a18, .ref a19, .int f_rows, .ref a20, .ref a21])), (a1, gk_J G 6 f_members), (a20, gk_I G 6 f_name)] [] C ⟨hP, hD, hS⟩ (c_X6_isMember l G a0 a1 a2 a3 a4 a5 a6 a7 a8 a9 a10 a11 a12 a13 a14 a15 a16 a17 a18 a19 a20 a21 f_n f_keptN f_side f_rows f_members x1 x3 hq) gX6_isRenamed_X6_isMember dX6_isRenamed_55 hl.1 [0, 1] [2] [1, 2, 0] rfl rfl ⟨rfl, rfl⟩ ⟨Nat.le_of_ble_eq_true rfl, Nat.le_of_ble_eq_true rfl⟩ ⟨rfl, by decide +kernel, by decide +kernel, by decide +kernel⟩ rfl (fun h => by cases h) (Nat.le_of_ble_eq_true rfl) rfl rfl rfl rfl (by decide) rfl rfl (fun H locs h => ?_)
  obtain ⟨hP, hD, hS⟩ := h
  refine lv_aload_n hx hb dX6_isRenamed_58 rfl (lv_at hl 0 rfl) ?_
  refine lv_iload_n hx hb dX6_isRenamed_59 rfl (lv_at hl 2 rfl) ?_
  refine lv_iload hx hb dX6_isRenamed_60 (lv_at hl 4 rfl) ?_
  obtain ⟨r8, hq, hm⟩ := gk_bd1_some hm
  refine gk_callV (n := 2) (bytes := cX6_isMember) (maxL := 3) (ret := (some .boolean)) (Cn := RX6) (T := TX6) (N := 25) [(a20, gk_I G 6 f_name)] [(a0, .inr (5, [.int f_n, .ref a1, .ref a2, .ref a3, .ref a4, .int f_keptN, .ref a5, .ref a6, .ref a7, .ref a8, .ref a9, .ref a10, .ref a11, .ref a12, .ref a13, .ref a14, .ref a15, .ref a16, .int f_side, .ref a17, .ref a18, .ref a19, .int f_rows, .ref a20, .ref a21])), (a1, gk_J G 6 f_members), (a20, gk_I G 6 f_name)] [.int r7] C ⟨hP, hD, hS⟩ (c_X6_isMember l G a0 a1 a2 a3 a4 a5 a6 a7 a8 a9 a10 a11 a12 a13 a14 a15 a16 a17 a18 a19 a20 a21 f_n f_keptN f_side f_rows f_members x2 x4 hq) gX6_isRenamed_X6_isMember dX6_isRenamed_62 hl.1 [0, 1] [2] [1, 2, 0] rfl rfl ⟨rfl, rfl⟩ ⟨Nat.le_of_ble_eq_true rfl, Nat.le_of_ble_eq_true rfl⟩ ⟨rfl, by decide +kernel, by decide +kernel, by decide +kernel⟩ rfl (fun h => by cases h) (Nat.le_of_ble_eq_true rfl) rfl rfl rfl rfl (by decide) rfl rfl (fun H locs h => ?_)
  obtain ⟨hP, hD, hS⟩ := h
  refine lv_icmp_eq (tgt := 70) hx hb dX6_isRenamed_65 (by decide) (fun c9 => ?_) (fun c9 => ?_)
  · have hm := gk_it c9 hm
    refine lv_iinc (v := x3 + 1) (lv' := [(3, .int (x3 + 1)), (0, .ref a0), (1, .int x1), (2, .int x2), (4, .int x4)]) hx hb dX6_isRenamed_70 hl (k := 3) rfl rfl (by decide) rfl (fun ls hl => ?_)
    refine lv_goto (tgt := 2) hx hb dX6_isRenamed_73 (by decide) ?_
    exact kl _ (Option.some.inj hm).symm _ _ _ ⟨hP, hD, hS⟩ (lv_sub hl [1, 2, 3, 0] rfl)
  · have hm := gk_if c9 hm
    refine lv_iconst (v := 0) hx hb dX6_isRenamed_68 (by decide) ?_
    rw [kr _ (Option.some.inj hm).symm]
    exact gk_zret C ⟨hP, hD, hS⟩ rfl dX6_isRenamed_69
def m_X6_isRenamed_B2 (f_n : Int32) (f_members : (Nat → Int64)) (f_name : (Nat → Int32)) (x1 : Int32) (x2 : Int32) (x3 : Int32) : Option ((Int32) ⊕ ((Int32) ⊕ (Unit))) := (if ((1 : Int32) <<< (f_n &&& 31)) ≤ x3 then some (.inr (.inr ())) else gk_bd1 (gk_lp (fun z => m_X6_isRenamed_B18 f_n f_members f_name x1 x2 x3 z.1 z.2) gk_fu ((0 : Int32), (0 : Int32))) (fun e6 => m_X6_isRenamed_J52 f_n f_members f_name x1 x2 x3 e6))
set_option maxRecDepth 100000 in
set_option maxHeartbeats 4000000 in
theorem w_X6_isRenamed_B2 {p : Program} {l : Launch} {e : Env} {s : State} {m : MethodId} {args : Array Value} {below : List Frame} {meth : Method} {c : Code} {G : gk_G} {A : Nat → Prop} {Q : State → Prop} {a0 a1 a2 a3 a4 a5 a6 a7 a8 a9 a10 a11 a12 a13 a14 a15 a16 a17 a18 a19 a20 a21 : Nat} (C : gk_C p s m args meth c cX6_isRenamed 6 (some .boolean) yX6_isRenamed wsX6_isRenamed false G A) {f_n : Int32} {f_members : (Nat → Int64)} {f_name : (Nat → Int32)} {x1 : Int32} {x2 : Int32} {x3 : Int32} {f_keptN : Int32} {f_side : Int32} {f_rows : Int32} {yy : (Int32) ⊕ ((Int32) ⊕ (Unit))} (hm : m_X6_isRenamed_B2 f_n f_members f_name x1 x2 x3 = some yy) (kl : ∀ (x3 : Int32), yy = .inl x3 → ∀ (H : Heap) (locs : List Loc) (ls : Array Slot), gk_H G A s [(a0, .inr (5, [.int f_n, .ref a1, .ref a2, .ref a3, .ref a4, .int f_keptN, .ref a5, .ref a6, .ref a7, .ref a8, .ref a9, .ref a10, .ref a11, .ref a12, .ref a13, .ref a14, .ref a15, .ref a16, .int f_side, .ref a17, .ref a18, .ref a19, .int f_rows, .ref a20, .ref a21])), (a1, gk_J G 6 f_members), (a20, gk_I G 6 f_name)] H locs → lv_has ls 6 [(0, .ref a0), (1, .int x1), (2, .int x2), (3, .int x3)] → W p l e rm_X6_isRenamed s m args below meth c H locs 0 0 Q (F0 m 2 ls [])) (kx : yy = .inr (.inr ()) → ∀ (H : Heap) (locs : List Loc) (ls : Array Slot), gk_H G A s [(a0, .inr (5, [.int f_n, .ref a1, .ref a2, .ref a3, .ref a4, .int f_keptN, .ref a5, .ref a6, .ref a7, .ref a8, .ref a9, .ref a10, .ref a11, .ref a12, .ref a13, .ref a14, .ref a15, .ref a16, .int f_side, .ref a17, .ref a18, .ref a19, .int f_rows, .ref a20, .ref a21])), (a1, gk_J G 6 f_members), (a20, gk_I G 6 f_name)] H locs → lv_has ls 6 [] → W p l e rm_X6_isRenamed s m args below meth c H locs 0 0 Q (F0 m 76 ls [])) (kr : ∀ (rv : Int32), yy = .inr (.inl rv) → Q = MQ below (gk_Q G (some (.int rv)) [(a0, .inr (5, [.int f_n, .ref a1, .ref a2, .ref a3, .ref a4, .int f_keptN, .ref a5, .ref a6, .ref a7, .ref a8, .ref a9, .ref a10, .ref a11, .ref a12, .ref a13, .ref a14, .ref a15, .ref a16, .int f_side, .ref a17, .ref a18, .ref a19, .int f_rows, .ref a20, .ref a21])), (a1, gk_J G 6 f_members), (a20, gk_I G 6 f_name)] A) args s 0 0 A) {H : Heap} {locs : List Loc} {ls : Array Slot} (h : gk_H G A s [(a0, .inr (5, [.int f_n, .ref a1, .ref a2, .ref a3, .ref a4, .int f_keptN, .ref a5, .ref a6, .ref a7, .ref a8, .ref a9, .ref a10, .ref a11, .ref a12, .ref a13, .ref a14, .ref a15, .ref a16, .int f_side, .ref a17, .ref a18, .ref a19, .int f_rows, .ref a20, .ref a21])), (a1, gk_J G 6 f_members), (a20, gk_I G 6 f_name)] H locs) (hl : lv_has ls 6 [(0, .ref a0), (1, .int x1), (2, .int x2), (3, .int x3)]) : W p l e rm_X6_isRenamed s m args below meth c H locs 0 0 Q (F0 m 2 ls []) := by
  obtain ⟨hx, hb, hml, hr, hown, hnm, hts, hlk, hK, hSt, hA⟩ := id C
  obtain ⟨hP, hD, hS⟩ := h
  unfold m_X6_isRenamed_B2 at hm
  refine lv_iload_n hx hb dX6_isRenamed_2 rfl (lv_at hl 3 rfl) ?_
  refine lv_iconst (v := 1) hx hb dX6_isRenamed_3 (by decide) ?_
  refine lv_aload_n hx hb dX6_isRenamed_4 rfl (lv_at hl 0 rfl) ?_
  refine va_get (D := G.1) (cl := vwCl) (own := RX6) (ref := "ExchangeFamiliesModel") (ci := 5) (v := .int f_n) (C := RX6) (T := TX6) (N := 25) hx hb hts k_X6_isRenamed_0 hown hK hP 0 rfl rfl 0 (by decide) (hts _ k_X6_isRenamed_1) (fun _ h9 => h9) rfl dX6_isRenamed_5 ?_
  refine lv_ishl hx hb dX6_isRenamed_8 ?_
  refine lv_icmp_ge (tgt := 76) hx hb dX6_isRenamed_9 (by decide) (fun c4 => ?_) (fun c4 => ?_)
  · have hm := gk_it c4 hm
    exact kx (Option.some.inj hm).symm _ _ _ ⟨hP, hD, hS⟩ (lv_sub hl [] rfl)
  · have hm := gk_if c4 hm
    refine lv_iconst (v := 0) hx hb dX6_isRenamed_12 (by decide) ?_
    refine lv_istore (lv' := [(4, .int (0 : Int32)), (0, .ref a0), (1, .int x1), (2, .int x2), (3, .int x3)]) hx hb dX6_isRenamed_13 hl (by decide) rfl (fun ls hl => ?_)
    refine lv_iconst (v := 0) hx hb dX6_isRenamed_15 (by decide) ?_
    refine lv_istore (lv' := [(5, .int (0 : Int32)), (4, .int (0 : Int32)), (0, .ref a0), (1, .int x1), (2, .int x2), (3, .int x3)]) hx hb dX6_isRenamed_16 hl (by decide) rfl (fun ls hl => ?_)
    obtain ⟨e6, hq, hm⟩ := gk_bd1_some hm
    refine w_X6_isRenamed_L18 C hq (fun H locs ls h hl => ?_) ⟨hP, hD, hS⟩ (lv_sub hl [2, 3, 4, 5, 1, 0] rfl)
    obtain ⟨hP, hD, hS⟩ := h
    exact w_X6_isRenamed_J52 C hm kl kx kr ⟨hP, hD, hS⟩ (lv_sub hl [0, 1, 2, 3, 4] rfl)
set_option maxRecDepth 100000 in
set_option maxHeartbeats 4000000 in
theorem w_X6_isRenamed_L2 {p : Program} {l : Launch} {e : Env} {s : State} {m : MethodId} {args : Array Value} {below : List Frame} {meth : Method} {c : Code} {G : gk_G} {A : Nat → Prop} {Q : State → Prop} {a0 a1 a2 a3 a4 a5 a6 a7 a8 a9 a10 a11 a12 a13 a14 a15 a16 a17 a18 a19 a20 a21 : Nat} (C : gk_C p s m args meth c cX6_isRenamed 6 (some .boolean) yX6_isRenamed wsX6_isRenamed false G A) {f_n : Int32} {f_members : (Nat → Int64)} {f_name : (Nat → Int32)} {x1 : Int32} {x2 : Int32} {x3 : Int32} {f_keptN : Int32} {f_side : Int32} {f_rows : Int32} {k : Nat} (hm : gk_lp (fun z => m_X6_isRenamed_B2 f_n f_members f_name x1 x2 z) k x3 = some (.inr ())) (kx : ∀ (H : Heap) (locs : List Loc) (ls : Array Slot), gk_H G A s [(a0, .inr (5, [.int f_n, .ref a1, .ref a2, .ref a3, .ref a4, .int f_keptN, .ref a5, .ref a6, .ref a7, .ref a8, .ref a9, .ref a10, .ref a11, .ref a12, .ref a13, .ref a14, .ref a15, .ref a16, .int f_side, .ref a17, .ref a18, .ref a19, .int f_rows, .ref a20, .ref a21])), (a1, gk_J G 6 f_members), (a20, gk_I G 6 f_name)] H locs → lv_has ls 6 [] → W p l e rm_X6_isRenamed s m args below meth c H locs 0 0 Q (F0 m 76 ls [])) {H : Heap} {locs : List Loc} {ls : Array Slot} (h : gk_H G A s [(a0, .inr (5, [.int f_n, .ref a1, .ref a2, .ref a3, .ref a4, .int f_keptN, .ref a5, .ref a6, .ref a7, .ref a8, .ref a9, .ref a10, .ref a11, .ref a12, .ref a13, .ref a14, .ref a15, .ref a16, .int f_side, .ref a17, .ref a18, .ref a19, .int f_rows, .ref a20, .ref a21])), (a1, gk_J G 6 f_members), (a20, gk_I G 6 f_name)] H locs) (hl : lv_has ls 6 [(0, .ref a0), (1, .int x1), (2, .int x2), (3, .int x3)]) : W p l e rm_X6_isRenamed s m args below meth c H locs 0 0 Q (F0 m 2 ls []) :=
  gk_lp_some (P := fun z => ∀ (H : Heap) (locs : List Loc) (ls : Array Slot), gk_H G A s [(a0, .inr (5, [.int f_n, .ref a1, .ref a2, .ref a3, .ref a4, .int f_keptN, .ref a5, .ref a6, .ref a7, .ref a8, .ref a9, .ref a10, .ref a11, .ref a12, .ref a13, .ref a14, .ref a15, .ref a16, .int f_side, .ref a17, .ref a18, .ref a19, .int f_rows, .ref a20, .ref a21])), (a1, gk_J G 6 f_members), (a20, gk_I G 6 f_name)] H locs → lv_has ls 6 [(0, .ref a0), (1, .int x1), (2, .int x2), (3, .int z)] → W p l e rm_X6_isRenamed s m args below meth c H locs 0 0 Q (F0 m 2 ls [])) (E := fun r => (r = .inr () → ∀ (H : Heap) (locs : List Loc) (ls : Array Slot), gk_H G A s [(a0, .inr (5, [.int f_n, .ref a1, .ref a2, .ref a3, .ref a4, .int f_keptN, .ref a5, .ref a6, .ref a7, .ref a8, .ref a9, .ref a10, .ref a11, .ref a12, .ref a13, .ref a14, .ref a15, .ref a16, .int f_side, .ref a17, .ref a18, .ref a19, .int f_rows, .ref a20, .ref a21])), (a1, gk_J G 6 f_members), (a20, gk_I G 6 f_name)] H locs → lv_has ls 6 [] → W p l e rm_X6_isRenamed s m args below meth c H locs 0 0 Q (F0 m 76 ls [])) ∧ (∀ (rv : Int32), r = .inl rv → Q = MQ below (gk_Q G (some (.int rv)) [(a0, .inr (5, [.int f_n, .ref a1, .ref a2, .ref a3, .ref a4, .int f_keptN, .ref a5, .ref a6, .ref a7, .ref a8, .ref a9, .ref a10, .ref a11, .ref a12, .ref a13, .ref a14, .ref a15, .ref a16, .int f_side, .ref a17, .ref a18, .ref a19, .int f_rows, .ref a20, .ref a21])), (a1, gk_J G 6 f_members), (a20, gk_I G 6 f_name)] A) args s 0 0 A)) (fun z x hf kl ke H locs ls h hl => w_X6_isRenamed_B2 C hf (fun v0 ez => kl v0 ez) (fun ez => (ke _ ez).1 rfl) (fun v0 ez => (ke _ ez).2 v0 rfl) h hl) k x3 _ hm (⟨fun ez => (by cases ez; exact kx), fun v0 ez => (by cases ez)⟩) _ _ _ h hl
set_option maxRecDepth 100000 in
set_option maxHeartbeats 4000000 in
theorem w_X6_isRenamed_L2r {p : Program} {l : Launch} {e : Env} {s : State} {m : MethodId} {args : Array Value} {below : List Frame} {meth : Method} {c : Code} {G : gk_G} {A : Nat → Prop} {Q : State → Prop} {a0 a1 a2 a3 a4 a5 a6 a7 a8 a9 a10 a11 a12 a13 a14 a15 a16 a17 a18 a19 a20 a21 : Nat} (C : gk_C p s m args meth c cX6_isRenamed 6 (some .boolean) yX6_isRenamed wsX6_isRenamed false G A) {f_n : Int32} {f_members : (Nat → Int64)} {f_name : (Nat → Int32)} {x1 : Int32} {x2 : Int32} {x3 : Int32} {f_keptN : Int32} {f_side : Int32} {f_rows : Int32} {k : Nat} {rv : Int32} (hm : gk_lp (fun z => m_X6_isRenamed_B2 f_n f_members f_name x1 x2 z) k x3 = some (.inl rv)) (kr : Q = MQ below (gk_Q G (some (.int rv)) [(a0, .inr (5, [.int f_n, .ref a1, .ref a2, .ref a3, .ref a4, .int f_keptN, .ref a5, .ref a6, .ref a7, .ref a8, .ref a9, .ref a10, .ref a11, .ref a12, .ref a13, .ref a14, .ref a15, .ref a16, .int f_side, .ref a17, .ref a18, .ref a19, .int f_rows, .ref a20, .ref a21])), (a1, gk_J G 6 f_members), (a20, gk_I G 6 f_name)] A) args s 0 0 A) {H : Heap} {locs : List Loc} {ls : Array Slot} (h : gk_H G A s [(a0, .inr (5, [.int f_n, .ref a1, .ref a2, .ref a3, .ref a4, .int f_keptN, .ref a5, .ref a6, .ref a7, .ref a8, .ref a9, .ref a10, .ref a11, .ref a12, .ref a13, .ref a14, .ref a15, .ref a16, .int f_side, .ref a17, .ref a18, .ref a19, .int f_rows, .ref a20, .ref a21])), (a1, gk_J G 6 f_members), (a20, gk_I G 6 f_name)] H locs) (hl : lv_has ls 6 [(0, .ref a0), (1, .int x1), (2, .int x2), (3, .int x3)]) : W p l e rm_X6_isRenamed s m args below meth c H locs 0 0 Q (F0 m 2 ls []) :=
  gk_lp_some (P := fun z => ∀ (H : Heap) (locs : List Loc) (ls : Array Slot), gk_H G A s [(a0, .inr (5, [.int f_n, .ref a1, .ref a2, .ref a3, .ref a4, .int f_keptN, .ref a5, .ref a6, .ref a7, .ref a8, .ref a9, .ref a10, .ref a11, .ref a12, .ref a13, .ref a14, .ref a15, .ref a16, .int f_side, .ref a17, .ref a18, .ref a19, .int f_rows, .ref a20, .ref a21])), (a1, gk_J G 6 f_members), (a20, gk_I G 6 f_name)] H locs → lv_has ls 6 [(0, .ref a0), (1, .int x1), (2, .int x2), (3, .int z)] → W p l e rm_X6_isRenamed s m args below meth c H locs 0 0 Q (F0 m 2 ls [])) (E := fun r => (r = .inr () → ∀ (H : Heap) (locs : List Loc) (ls : Array Slot), gk_H G A s [(a0, .inr (5, [.int f_n, .ref a1, .ref a2, .ref a3, .ref a4, .int f_keptN, .ref a5, .ref a6, .ref a7, .ref a8, .ref a9, .ref a10, .ref a11, .ref a12, .ref a13, .ref a14, .ref a15, .ref a16, .int f_side, .ref a17, .ref a18, .ref a19, .int f_rows, .ref a20, .ref a21])), (a1, gk_J G 6 f_members), (a20, gk_I G 6 f_name)] H locs → lv_has ls 6 [] → W p l e rm_X6_isRenamed s m args below meth c H locs 0 0 Q (F0 m 76 ls [])) ∧ (∀ (rv : Int32), r = .inl rv → Q = MQ below (gk_Q G (some (.int rv)) [(a0, .inr (5, [.int f_n, .ref a1, .ref a2, .ref a3, .ref a4, .int f_keptN, .ref a5, .ref a6, .ref a7, .ref a8, .ref a9, .ref a10, .ref a11, .ref a12, .ref a13, .ref a14, .ref a15, .ref a16, .int f_side, .ref a17, .ref a18, .ref a19, .int f_rows, .ref a20, .ref a21])), (a1, gk_J G 6 f_members), (a20, gk_I G 6 f_name)] A) args s 0 0 A)) (fun z x hf kl ke H locs ls h hl => w_X6_isRenamed_B2 C hf (fun v0 ez => kl v0 ez) (fun ez => (ke _ ez).1 rfl) (fun v0 ez => (ke _ ez).2 v0 rfl) h hl) k x3 _ hm (⟨fun ez => (by cases ez), fun v0 ez => (by cases ez; exact kr)⟩) _ _ _ h hl
def m_X6_isRenamed_0 (f_n : Int32) (f_members : (Nat → Int64)) (f_name : (Nat → Int32)) (x1 : Int32) (x2 : Int32) : Option (Int32) := gk_bs0 (gk_lp (fun z => m_X6_isRenamed_B2 f_n f_members f_name x1 x2 z) gk_fu (0 : Int32)) (fun r => some r) (some (1 : Int32))
set_option maxRecDepth 100000 in
set_option maxHeartbeats 4000000 in
theorem w_X6_isRenamed_0 {p : Program} {l : Launch} {e : Env} {s : State} {m : MethodId} {args : Array Value} {below : List Frame} {meth : Method} {c : Code} {G : gk_G} {A : Nat → Prop} {Q : State → Prop} {a0 a1 a2 a3 a4 a5 a6 a7 a8 a9 a10 a11 a12 a13 a14 a15 a16 a17 a18 a19 a20 a21 : Nat} (C : gk_C p s m args meth c cX6_isRenamed 6 (some .boolean) yX6_isRenamed wsX6_isRenamed false G A) {f_n : Int32} {f_members : (Nat → Int64)} {f_name : (Nat → Int32)} {x1 : Int32} {x2 : Int32} {f_keptN : Int32} {f_side : Int32} {f_rows : Int32} {yy : Int32} (hm : m_X6_isRenamed_0 f_n f_members f_name x1 x2 = some yy) (kr : ∀ (rv : Int32), yy = rv → Q = MQ below (gk_Q G (some (.int rv)) [(a0, .inr (5, [.int f_n, .ref a1, .ref a2, .ref a3, .ref a4, .int f_keptN, .ref a5, .ref a6, .ref a7, .ref a8, .ref a9, .ref a10, .ref a11, .ref a12, .ref a13, .ref a14, .ref a15, .ref a16, .int f_side, .ref a17, .ref a18, .ref a19, .int f_rows, .ref a20, .ref a21])), (a1, gk_J G 6 f_members), (a20, gk_I G 6 f_name)] A) args s 0 0 A) {H : Heap} {locs : List Loc} {ls : Array Slot} (h : gk_H G A s [(a0, .inr (5, [.int f_n, .ref a1, .ref a2, .ref a3, .ref a4, .int f_keptN, .ref a5, .ref a6, .ref a7, .ref a8, .ref a9, .ref a10, .ref a11, .ref a12, .ref a13, .ref a14, .ref a15, .ref a16, .int f_side, .ref a17, .ref a18, .ref a19, .int f_rows, .ref a20, .ref a21])), (a1, gk_J G 6 f_members), (a20, gk_I G 6 f_name)] H locs) (hl : lv_has ls 6 [(0, .ref a0), (1, .int x1), (2, .int x2)]) : W p l e rm_X6_isRenamed s m args below meth c H locs 0 0 Q (F0 m 0 ls []) := by
  obtain ⟨hx, hb, hml, hr, hown, hnm, hts, hlk, hK, hSt, hA⟩ := id C
  obtain ⟨hP, hD, hS⟩ := h
  unfold m_X6_isRenamed_0 at hm
  refine lv_iconst (v := 0) hx hb dX6_isRenamed_0 (by decide) ?_
  refine lv_istore_n (lv' := [(3, .int (0 : Int32)), (0, .ref a0), (1, .int x1), (2, .int x2)]) hx hb dX6_isRenamed_1 rfl hl (by decide) rfl (fun ls hl => ?_)
  rcases gk_bs0_some hm with ⟨r10, hq, hm⟩ | ⟨hq, hm⟩
  · exact w_X6_isRenamed_L2r C hq (kr _ (Option.some.inj hm).symm) ⟨hP, hD, hS⟩ (lv_sub hl [1, 2, 3, 0] rfl)
  refine w_X6_isRenamed_L2 C hq (fun H locs ls h hl => ?_) ⟨hP, hD, hS⟩ (lv_sub hl [1, 2, 3, 0] rfl)
  obtain ⟨hP, hD, hS⟩ := h
  refine lv_iconst (v := 1) hx hb dX6_isRenamed_76 (by decide) ?_
  rw [kr _ (Option.some.inj hm).symm]
  exact gk_zret C ⟨hP, hD, hS⟩ rfl dX6_isRenamed_77
def m_X6_isRenamed (f_n : Int32) (f_members : (Nat → Int64)) (f_name : (Nat → Int32)) (x1 : Int32) (x2 : Int32) : Option (Int32) := m_X6_isRenamed_0 f_n f_members f_name x1 x2
theorem c_X6_isRenamed (l : Launch) (G : gk_G) (a0 a1 a2 a3 a4 a5 a6 a7 a8 a9 a10 a11 a12 a13 a14 a15 a16 a17 a18 a19 a20 a21 : Nat) (f_n : Int32) (f_keptN : Int32) (f_side : Int32) (f_rows : Int32) (f_members : (Nat → Int64)) (f_name : (Nat → Int32)) (x1 : Int32) (x2 : Int32) {rv : Int32} (hm : m_X6_isRenamed f_n f_members f_name x1 x2 = some rv) : gk_M l yX6_isRenamed wsX6_isRenamed rm_X6_isRenamed false G [.ref a0, .int x1, .int x2] [(a0, .inr (5, [.int f_n, .ref a1, .ref a2, .ref a3, .ref a4, .int f_keptN, .ref a5, .ref a6, .ref a7, .ref a8, .ref a9, .ref a10, .ref a11, .ref a12, .ref a13, .ref a14, .ref a15, .ref a16, .int f_side, .ref a17, .ref a18, .ref a19, .int f_rows, .ref a20, .ref a21])), (a1, gk_J G 6 f_members), (a20, gk_I G 6 f_name)] (some (.int rv)) [(a0, .inr (5, [.int f_n, .ref a1, .ref a2, .ref a3, .ref a4, .int f_keptN, .ref a5, .ref a6, .ref a7, .ref a8, .ref a9, .ref a10, .ref a11, .ref a12, .ref a13, .ref a14, .ref a15, .ref a16, .int f_side, .ref a17, .ref a18, .ref a19, .int f_rows, .ref a20, .ref a21])), (a1, gk_J G 6 f_members), (a20, gk_I G 6 f_name)] :=
  gk_of (by decide) rfl (Nat.le_of_ble_eq_true rfl) (fun p e s m below meth c A ls C h hl => w_X6_isRenamed_0 C hm (fun v0 ez => by cases ez; rfl) h (show lv_has ls 6 [(0, .ref a0), (1, .int x1), (2, .int x2)] from hl))

/-! ===== ExchangeFamiliesModel.areAlike(IIII)Z ===== -/
abbrev rm_X6_areAlike (d : Nat) : Room := { frames := d + 5, cells := 0, slots := 0, locals := d * 25 + 239 }
theorem k_X6_areAlike_0 : ∀ w ∈ u_ws RX6 TX6 25, w ∈ wsX6_areAlike := by decide +kernel
theorem k_X6_areAlike_1 : Cond.fieldLink RX6 9 "ExchangeFamiliesModel" "n" "I" ∈ wsX6_areAlike := by decide +kernel
theorem k_X6_areAlike_2 : Cond.fieldLink RX6 78 "ExchangeFamiliesModel" "name" "[I" ∈ wsX6_areAlike := by decide +kernel
def m_X6_areAlike_B18 (rf : Int32 → (Nat → Int64) → (Nat → Int32) → Int32 → Int32 → Int32 → Int32 → Option (Int32 × (Nat → Int32))) (f_n : Int32) (f_members : (Nat → Int64)) (x1 : Int32) (x2 : Int32) (x3 : Int32) (x4 : Int32) (x5 : Int32) (f_name : (Nat → Int32)) : Option ((Int32 × (Nat → Int32)) ⊕ ((Int32 × (Nat → Int32)) ⊕ ((Nat → Int32)))) := (if f_n ≤ x5 then some (.inr (.inr f_name)) else (if ((x4 >>> (x5 &&& 31)) &&& (1 : Int32)) = (1 : Int32) then some (.inl (x5 + 1, f_name)) else gk_ix x3 6 (gk_bd2 (rf f_n f_members (upd f_name x3.toNatClampNeg x5) x1 x2 (x3 + (1 : Int32)) (x4 ||| ((1 : Int32) <<< (x5 &&& 31)))) (fun r8 r9 => (if r8 = (0 : Int32) then some (.inl (x5 + 1, r9)) else some (.inr (.inl ((1 : Int32), r9))))))))
set_option maxRecDepth 100000 in
set_option maxHeartbeats 4000000 in
theorem w_X6_areAlike_B18 {p : Program} {l : Launch} {e : Env} {s : State} {m : MethodId} {args : Array Value} {below : List Frame} {meth : Method} {c : Code} {G : gk_G} {A : Nat → Prop} {Q : State → Prop} {a0 a1 a2 a3 a4 a5 a6 a7 a8 a9 a10 a11 a12 a13 a14 a15 a16 a17 a18 a19 a20 a21 : Nat} {d : Nat} {rf : Int32 → (Nat → Int64) → (Nat → Int32) → Int32 → Int32 → Int32 → Int32 → Option (Int32 × (Nat → Int32))} (hrec : ∀ (f_n : Int32) (f_keptN : Int32) (f_side : Int32) (f_rows : Int32) (f_members : (Nat → Int64)) (f_name : (Nat → Int32)) (x1 : Int32) (x2 : Int32) (x3 : Int32) (x4 : Int32) (rv : Int32) (g_name : (Nat → Int32)), rf f_n f_members f_name x1 x2 x3 x4 = some (rv, g_name) → gk_M l yX6_areAlike wsX6_areAlike (rm_X6_areAlike d) false G [.ref a0, .int x1, .int x2, .int x3, .int x4] [(a0, .inr (5, [.int f_n, .ref a1, .ref a2, .ref a3, .ref a4, .int f_keptN, .ref a5, .ref a6, .ref a7, .ref a8, .ref a9, .ref a10, .ref a11, .ref a12, .ref a13, .ref a14, .ref a15, .ref a16, .int f_side, .ref a17, .ref a18, .ref a19, .int f_rows, .ref a20, .ref a21])), (a1, gk_J G 6 f_members), (a20, gk_I G 6 f_name)] (some (.int rv)) [(a0, .inr (5, [.int f_n, .ref a1, .ref a2, .ref a3, .ref a4, .int f_keptN, .ref a5, .ref a6, .ref a7, .ref a8, .ref a9, .ref a10, .ref a11, .ref a12, .ref a13, .ref a14, .ref a15, .ref a16, .int f_side, .ref a17, .ref a18, .ref a19, .int f_rows, .ref a20, .ref a21])), (a1, gk_J G 6 f_members), (a20, gk_I G 6 g_name)]) (C : gk_C p s m args meth c cX6_areAlike 6 (some .boolean) yX6_areAlike wsX6_areAlike false G A) {f_n : Int32} {f_members : (Nat → Int64)} {x1 : Int32} {x2 : Int32} {x3 : Int32} {x4 : Int32} {x5 : Int32} {f_name : (Nat → Int32)} {f_keptN : Int32} {f_side : Int32} {f_rows : Int32} {yy : (Int32 × (Nat → Int32)) ⊕ ((Int32 × (Nat → Int32)) ⊕ ((Nat → Int32)))} (hm : m_X6_areAlike_B18 rf f_n f_members x1 x2 x3 x4 x5 f_name = some yy) (kl : ∀ (x5 : Int32) (f_name : (Nat → Int32)), yy = .inl (x5, f_name) → ∀ (H : Heap) (locs : List Loc) (ls : Array Slot), gk_H G A s [(a0, .inr (5, [.int f_n, .ref a1, .ref a2, .ref a3, .ref a4, .int f_keptN, .ref a5, .ref a6, .ref a7, .ref a8, .ref a9, .ref a10, .ref a11, .ref a12, .ref a13, .ref a14, .ref a15, .ref a16, .int f_side, .ref a17, .ref a18, .ref a19, .int f_rows, .ref a20, .ref a21])), (a1, gk_J G 6 f_members), (a20, gk_I G 6 f_name)] H locs → lv_has ls 6 [(0, .ref a0), (1, .int x1), (2, .int x2), (3, .int x3), (4, .int x4), (5, .int x5)] → W p l e (rm_X6_areAlike (d + 1)) s m args below meth c H locs 0 0 Q (F0 m 18 ls [])) (kx : ∀ (f_name : (Nat → Int32)), yy = .inr (.inr f_name) → ∀ (H : Heap) (locs : List Loc) (ls : Array Slot), gk_H G A s [(a0, .inr (5, [.int f_n, .ref a1, .ref a2, .ref a3, .ref a4, .int f_keptN, .ref a5, .ref a6, .ref a7, .ref a8, .ref a9, .ref a10, .ref a11, .ref a12, .ref a13, .ref a14, .ref a15, .ref a16, .int f_side, .ref a17, .ref a18, .ref a19, .int f_rows, .ref a20, .ref a21])), (a1, gk_J G 6 f_members), (a20, gk_I G 6 f_name)] H locs → lv_has ls 6 [] → W p l e (rm_X6_areAlike (d + 1)) s m args below meth c H locs 0 0 Q (F0 m 76 ls [])) (kr : ∀ (rv : Int32) (g_name : (Nat → Int32)), yy = .inr (.inl (rv, g_name)) → Q = MQ below (gk_Q G (some (.int rv)) [(a0, .inr (5, [.int f_n, .ref a1, .ref a2, .ref a3, .ref a4, .int f_keptN, .ref a5, .ref a6, .ref a7, .ref a8, .ref a9, .ref a10, .ref a11, .ref a12, .ref a13, .ref a14, .ref a15, .ref a16, .int f_side, .ref a17, .ref a18, .ref a19, .int f_rows, .ref a20, .ref a21])), (a1, gk_J G 6 f_members), (a20, gk_I G 6 g_name)] A) args s 0 0 A) {H : Heap} {locs : List Loc} {ls : Array Slot} (h : gk_H G A s [(a0, .inr (5, [.int f_n, .ref a1, .ref a2, .ref a3, .ref a4, .int f_keptN, .ref a5, .ref a6, .ref a7, .ref a8, .ref a9, .ref a10, .ref a11, .ref a12, .ref a13, .ref a14, .ref a15, .ref a16, .int f_side, .ref a17, .ref a18, .ref a19, .int f_rows, .ref a20, .ref a21])), (a1, gk_J G 6 f_members), (a20, gk_I G 6 f_name)] H locs) (hl : lv_has ls 6 [(0, .ref a0), (1, .int x1), (2, .int x2), (3, .int x3), (4, .int x4), (5, .int x5)]) : W p l e (rm_X6_areAlike (d + 1)) s m args below meth c H locs 0 0 Q (F0 m 18 ls []) := by
  obtain ⟨hx, hb, hml, hr, hown, hnm, hts, hlk, hK, hSt, hA⟩ := id C
  obtain ⟨hP, hD, hS⟩ := h
  unfold m_X6_areAlike_B18 at hm
  refine lv_iload hx hb dX6_areAlike_18 (lv_at hl 5 rfl) ?_
  refine lv_aload_n hx hb dX6_areAlike_20 rfl (lv_at hl 0 rfl) ?_
  refine va_get (D := G.1) (cl := vwCl) (own := RX6) (ref := "ExchangeFamiliesModel") (ci := 5) (v := .int f_n) (C := RX6) (T := TX6) (N := 25) hx hb hts k_X6_areAlike_0 hown hK hP 0 rfl rfl 0 (by decide) (hts _ k_X6_areAlike_1) (fun _ h9 => h9) rfl dX6_areAlike_21 ?_
  refine lv_icmp_ge (tgt := 76) hx hb dX6_areAlike_24 (by decide) (fun c6 => ?_) (fun c6 => ?_)
  · have hm := gk_it c6 hm
    exact kx _ (Option.some.inj hm).symm _ _ _ ⟨hP, hD, hS⟩ (lv_sub hl [] rfl)
  · have hm := gk_if c6 hm
    refine lv_iload hx hb dX6_areAlike_27 (lv_at hl 4 rfl) ?_
    refine lv_iload hx hb dX6_areAlike_29 (lv_at hl 5 rfl) ?_
    refine lv_ishr hx hb dX6_areAlike_31 ?_
    refine lv_iconst (v := 1) hx hb dX6_areAlike_32 (by decide) ?_
    refine lv_iand hx hb dX6_areAlike_33 ?_
    refine lv_iconst (v := 1) hx hb dX6_areAlike_34 (by decide) ?_
    refine lv_icmp_ne (tgt := 41) hx hb dX6_areAlike_35 (by decide) (fun c7 => ?_) (fun c7 => ?_)
    · have hm := gk_if c7 hm
      refine lv_aload_n hx hb dX6_areAlike_41 rfl (lv_at hl 0 rfl) ?_
      refine va_get (D := G.1) (cl := vwCl) (own := RX6) (ref := "ExchangeFamiliesModel") (ci := 5) (v := .ref a20) (C := RX6) (T := TX6) (N := 25) hx hb hts k_X6_areAlike_0 hown hK hP 0 rfl rfl 23 (by decide) (hts _ k_X6_areAlike_2) (fun _ h9 => h9) rfl dX6_areAlike_42 ?_
      refine lv_iload_n hx hb dX6_areAlike_45 rfl (lv_at hl 3 rfl) ?_
      refine lv_iload hx hb dX6_areAlike_46 (lv_at hl 5 rfl) ?_
      obtain ⟨hi, hm⟩ := gk_ix_some hm
      refine va_iast hx hb hK hP hD hS 2 0 rfl rfl hi dX6_areAlike_48 (fun H locs hP hD hS => ?_)
      have hP : va_P G.1 vwCl [(a0, .inr (5, [.int f_n, .ref a1, .ref a2, .ref a3, .ref a4, .int f_keptN, .ref a5, .ref a6, .ref a7, .ref a8, .ref a9, .ref a10, .ref a11, .ref a12, .ref a13, .ref a14, .ref a15, .ref a16, .int f_side, .ref a17, .ref a18, .ref a19, .int f_rows, .ref a20, .ref a21])), (a1, gk_J G 6 f_members), (a20, gk_I G 6 (upd f_name x3.toNatClampNeg x5))] H := hP
      have hD : va_D A [(a0, .inr (5, [.int f_n, .ref a1, .ref a2, .ref a3, .ref a4, .int f_keptN, .ref a5, .ref a6, .ref a7, .ref a8, .ref a9, .ref a10, .ref a11, .ref a12, .ref a13, .ref a14, .ref a15, .ref a16, .int f_side, .ref a17, .ref a18, .ref a19, .int f_rows, .ref a20, .ref a21])), (a1, gk_J G 6 f_members), (a20, gk_I G 6 (upd f_name x3.toNatClampNeg x5))] := hD
      refine lv_aload_n hx hb dX6_areAlike_49 rfl (lv_at hl 0 rfl) ?_
      refine lv_iload_n hx hb dX6_areAlike_50 rfl (lv_at hl 1 rfl) ?_
      refine lv_iload_n hx hb dX6_areAlike_51 rfl (lv_at hl 2 rfl) ?_
      refine lv_iload_n hx hb dX6_areAlike_52 rfl (lv_at hl 3 rfl) ?_
      refine lv_iconst (v := 1) hx hb dX6_areAlike_53 (by decide) ?_
      refine lv_iadd hx hb dX6_areAlike_54 ?_
      refine lv_iload hx hb dX6_areAlike_55 (lv_at hl 4 rfl) ?_
      refine lv_iconst (v := 1) hx hb dX6_areAlike_57 (by decide) ?_
      refine lv_iload hx hb dX6_areAlike_58 (lv_at hl 5 rfl) ?_
      refine lv_ishl hx hb dX6_areAlike_60 ?_
      refine lv_ior hx hb dX6_areAlike_61 ?_
      obtain ⟨r8, r9, hq, hm⟩ := gk_bd2_some hm
      refine gk_callV (n := 4) (bytes := cX6_areAlike) (maxL := 6) (ret := (some .boolean)) (Cn := RX6) (T := TX6) (N := 25) [] [(a0, .inr (5, [.int f_n, .ref a1, .ref a2, .ref a3, .ref a4, .int f_keptN, .ref a5, .ref a6, .ref a7, .ref a8, .ref a9, .ref a10, .ref a11, .ref a12, .ref a13, .ref a14, .ref a15, .ref a16, .int f_side, .ref a17, .ref a18, .ref a19, .int f_rows, .ref a20, .ref a21])), (a1, gk_J G 6 f_members), (a20, gk_I G 6 r9)] [] C ⟨hP, hD, hS⟩ (hrec f_n f_keptN f_side f_rows f_members (upd f_name x3.toNatClampNeg x5) x1 x2 (x3 + (1 : Int32)) (x4 ||| ((1 : Int32) <<< (x5 &&& 31))) r8 r9 hq) gX6_areAlike_X6_areAlike dX6_areAlike_62 hl.1 [0, 1, 2] [] [0, 1, 2] rfl rfl ⟨rfl, rfl⟩ (by simp only [rm_X6_areAlike]; omega) ⟨rfl, by decide +kernel, by decide +kernel, by decide +kernel⟩ rfl (fun h => by cases h) (Nat.le_of_ble_eq_true rfl) rfl rfl rfl rfl (by decide) rfl rfl (fun H locs h => ?_)
      obtain ⟨hP, hD, hS⟩ := h
      refine lv_if_eq (tgt := 70) hx hb dX6_areAlike_65 (by decide) (fun c10 => ?_) (fun c10 => ?_)
      · have hm := gk_it c10 hm
        refine lv_iinc (v := x5 + 1) (lv' := [(5, .int (x5 + 1)), (0, .ref a0), (1, .int x1), (2, .int x2), (3, .int x3), (4, .int x4)]) hx hb dX6_areAlike_70 hl (k := 5) rfl rfl (by decide) rfl (fun ls hl => ?_)
        refine lv_goto (tgt := 18) hx hb dX6_areAlike_73 (by decide) ?_
        exact kl _ _ (Option.some.inj hm).symm _ _ _ ⟨hP, hD, hS⟩ (lv_sub hl [1, 2, 3, 4, 5, 0] rfl)
      · have hm := gk_if c10 hm
        refine lv_iconst (v := 1) hx hb dX6_areAlike_68 (by decide) ?_
        rw [kr _ _ (Option.some.inj hm).symm]
        exact gk_zret C ⟨hP, hD, hS⟩ rfl dX6_areAlike_69
    · have hm := gk_it c7 hm
      refine lv_goto (tgt := 70) hx hb dX6_areAlike_38 (by decide) ?_
      refine lv_iinc (v := x5 + 1) (lv' := [(5, .int (x5 + 1)), (0, .ref a0), (1, .int x1), (2, .int x2), (3, .int x3), (4, .int x4)]) hx hb dX6_areAlike_70 hl (k := 5) rfl rfl (by decide) rfl (fun ls hl => ?_)
      refine lv_goto (tgt := 18) hx hb dX6_areAlike_73 (by decide) ?_
      exact kl _ _ (Option.some.inj hm).symm _ _ _ ⟨hP, hD, hS⟩ (lv_sub hl [1, 2, 3, 4, 5, 0] rfl)
set_option maxRecDepth 100000 in
set_option maxHeartbeats 4000000 in
theorem w_X6_areAlike_L18 {p : Program} {l : Launch} {e : Env} {s : State} {m : MethodId} {args : Array Value} {below : List Frame} {meth : Method} {c : Code} {G : gk_G} {A : Nat → Prop} {Q : State → Prop} {a0 a1 a2 a3 a4 a5 a6 a7 a8 a9 a10 a11 a12 a13 a14 a15 a16 a17 a18 a19 a20 a21 : Nat} {d : Nat} {rf : Int32 → (Nat → Int64) → (Nat → Int32) → Int32 → Int32 → Int32 → Int32 → Option (Int32 × (Nat → Int32))} (hrec : ∀ (f_n : Int32) (f_keptN : Int32) (f_side : Int32) (f_rows : Int32) (f_members : (Nat → Int64)) (f_name : (Nat → Int32)) (x1 : Int32) (x2 : Int32) (x3 : Int32) (x4 : Int32) (rv : Int32) (g_name : (Nat → Int32)), rf f_n f_members f_name x1 x2 x3 x4 = some (rv, g_name) → gk_M l yX6_areAlike wsX6_areAlike (rm_X6_areAlike d) false G [.ref a0, .int x1, .int x2, .int x3, .int x4] [(a0, .inr (5, [.int f_n, .ref a1, .ref a2, .ref a3, .ref a4, .int f_keptN, .ref a5, .ref a6, .ref a7, .ref a8, .ref a9, .ref a10, .ref a11, .ref a12, .ref a13, .ref a14, .ref a15, .ref a16, .int f_side, .ref a17, .ref a18, .ref a19, .int f_rows, .ref a20, .ref a21])), (a1, gk_J G 6 f_members), (a20, gk_I G 6 f_name)] (some (.int rv)) [(a0, .inr (5, [.int f_n, .ref a1, .ref a2, .ref a3, .ref a4, .int f_keptN, .ref a5, .ref a6, .ref a7, .ref a8, .ref a9, .ref a10, .ref a11, .ref a12, .ref a13, .ref a14, .ref a15, .ref a16, .int f_side, .ref a17, .ref a18, .ref a19, .int f_rows, .ref a20, .ref a21])), (a1, gk_J G 6 f_members), (a20, gk_I G 6 g_name)]) (C : gk_C p s m args meth c cX6_areAlike 6 (some .boolean) yX6_areAlike wsX6_areAlike false G A) {f_n : Int32} {f_members : (Nat → Int64)} {x1 : Int32} {x2 : Int32} {x3 : Int32} {x4 : Int32} {x5 : Int32} {f_name : (Nat → Int32)} {f_keptN : Int32} {f_side : Int32} {f_rows : Int32} {k : Nat} {e_f_name : (Nat → Int32)} (hm : gk_lp (fun z => m_X6_areAlike_B18 rf f_n f_members x1 x2 x3 x4 z.1 z.2) k (x5, f_name) = some (.inr e_f_name)) (kx : ∀ (H : Heap) (locs : List Loc) (ls : Array Slot), gk_H G A s [(a0, .inr (5, [.int f_n, .ref a1, .ref a2, .ref a3, .ref a4, .int f_keptN, .ref a5, .ref a6, .ref a7, .ref a8, .ref a9, .ref a10, .ref a11, .ref a12, .ref a13, .ref a14, .ref a15, .ref a16, .int f_side, .ref a17, .ref a18, .ref a19, .int f_rows, .ref a20, .ref a21])), (a1, gk_J G 6 f_members), (a20, gk_I G 6 e_f_name)] H locs → lv_has ls 6 [] → W p l e (rm_X6_areAlike (d + 1)) s m args below meth c H locs 0 0 Q (F0 m 76 ls [])) {H : Heap} {locs : List Loc} {ls : Array Slot} (h : gk_H G A s [(a0, .inr (5, [.int f_n, .ref a1, .ref a2, .ref a3, .ref a4, .int f_keptN, .ref a5, .ref a6, .ref a7, .ref a8, .ref a9, .ref a10, .ref a11, .ref a12, .ref a13, .ref a14, .ref a15, .ref a16, .int f_side, .ref a17, .ref a18, .ref a19, .int f_rows, .ref a20, .ref a21])), (a1, gk_J G 6 f_members), (a20, gk_I G 6 f_name)] H locs) (hl : lv_has ls 6 [(0, .ref a0), (1, .int x1), (2, .int x2), (3, .int x3), (4, .int x4), (5, .int x5)]) : W p l e (rm_X6_areAlike (d + 1)) s m args below meth c H locs 0 0 Q (F0 m 18 ls []) :=
  gk_lp_some (P := fun z => ∀ (H : Heap) (locs : List Loc) (ls : Array Slot), gk_H G A s [(a0, .inr (5, [.int f_n, .ref a1, .ref a2, .ref a3, .ref a4, .int f_keptN, .ref a5, .ref a6, .ref a7, .ref a8, .ref a9, .ref a10, .ref a11, .ref a12, .ref a13, .ref a14, .ref a15, .ref a16, .int f_side, .ref a17, .ref a18, .ref a19, .int f_rows, .ref a20, .ref a21])), (a1, gk_J G 6 f_members), (a20, gk_I G 6 z.2)] H locs → lv_has ls 6 [(0, .ref a0), (1, .int x1), (2, .int x2), (3, .int x3), (4, .int x4), (5, .int z.1)] → W p l e (rm_X6_areAlike (d + 1)) s m args below meth c H locs 0 0 Q (F0 m 18 ls [])) (E := fun r => (∀ (f_name : (Nat → Int32)), r = .inr f_name → ∀ (H : Heap) (locs : List Loc) (ls : Array Slot), gk_H G A s [(a0, .inr (5, [.int f_n, .ref a1, .ref a2, .ref a3, .ref a4, .int f_keptN, .ref a5, .ref a6, .ref a7, .ref a8, .ref a9, .ref a10, .ref a11, .ref a12, .ref a13, .ref a14, .ref a15, .ref a16, .int f_side, .ref a17, .ref a18, .ref a19, .int f_rows, .ref a20, .ref a21])), (a1, gk_J G 6 f_members), (a20, gk_I G 6 f_name)] H locs → lv_has ls 6 [] → W p l e (rm_X6_areAlike (d + 1)) s m args below meth c H locs 0 0 Q (F0 m 76 ls [])) ∧ (∀ (rv : Int32) (g_name : (Nat → Int32)), r = .inl (rv, g_name) → Q = MQ below (gk_Q G (some (.int rv)) [(a0, .inr (5, [.int f_n, .ref a1, .ref a2, .ref a3, .ref a4, .int f_keptN, .ref a5, .ref a6, .ref a7, .ref a8, .ref a9, .ref a10, .ref a11, .ref a12, .ref a13, .ref a14, .ref a15, .ref a16, .int f_side, .ref a17, .ref a18, .ref a19, .int f_rows, .ref a20, .ref a21])), (a1, gk_J G 6 f_members), (a20, gk_I G 6 g_name)] A) args s 0 0 A)) (fun z x hf kl ke H locs ls h hl => w_X6_areAlike_B18 hrec C hf (fun v0 v1 ez => kl (v0, v1) ez) (fun v0 ez => (ke _ ez).1 v0 rfl) (fun v0 v1 ez => (ke _ ez).2 v0 v1 rfl) h hl) k (x5, f_name) _ hm (⟨fun v0 ez => (by cases ez; exact kx), fun v0 v1 ez => (by cases ez)⟩) _ _ _ h hl
set_option maxRecDepth 100000 in
set_option maxHeartbeats 4000000 in
theorem w_X6_areAlike_L18r {p : Program} {l : Launch} {e : Env} {s : State} {m : MethodId} {args : Array Value} {below : List Frame} {meth : Method} {c : Code} {G : gk_G} {A : Nat → Prop} {Q : State → Prop} {a0 a1 a2 a3 a4 a5 a6 a7 a8 a9 a10 a11 a12 a13 a14 a15 a16 a17 a18 a19 a20 a21 : Nat} {d : Nat} {rf : Int32 → (Nat → Int64) → (Nat → Int32) → Int32 → Int32 → Int32 → Int32 → Option (Int32 × (Nat → Int32))} (hrec : ∀ (f_n : Int32) (f_keptN : Int32) (f_side : Int32) (f_rows : Int32) (f_members : (Nat → Int64)) (f_name : (Nat → Int32)) (x1 : Int32) (x2 : Int32) (x3 : Int32) (x4 : Int32) (rv : Int32) (g_name : (Nat → Int32)), rf f_n f_members f_name x1 x2 x3 x4 = some (rv, g_name) → gk_M l yX6_areAlike wsX6_areAlike (rm_X6_areAlike d) false G [.ref a0, .int x1, .int x2, .int x3, .int x4] [(a0, .inr (5, [.int f_n, .ref a1, .ref a2, .ref a3, .ref a4, .int f_keptN, .ref a5, .ref a6, .ref a7, .ref a8, .ref a9, .ref a10, .ref a11, .ref a12, .ref a13, .ref a14, .ref a15, .ref a16, .int f_side, .ref a17, .ref a18, .ref a19, .int f_rows, .ref a20, .ref a21])), (a1, gk_J G 6 f_members), (a20, gk_I G 6 f_name)] (some (.int rv)) [(a0, .inr (5, [.int f_n, .ref a1, .ref a2, .ref a3, .ref a4, .int f_keptN, .ref a5, .ref a6, .ref a7, .ref a8, .ref a9, .ref a10, .ref a11, .ref a12, .ref a13, .ref a14, .ref a15, .ref a16, .int f_side, .ref a17, .ref a18, .ref a19, .int f_rows, .ref a20, .ref a21])), (a1, gk_J G 6 f_members), (a20, gk_I G 6 g_name)]) (C : gk_C p s m args meth c cX6_areAlike 6 (some .boolean) yX6_areAlike wsX6_areAlike false G A) {f_n : Int32} {f_members : (Nat → Int64)} {x1 : Int32} {x2 : Int32} {x3 : Int32} {x4 : Int32} {x5 : Int32} {f_name : (Nat → Int32)} {f_keptN : Int32} {f_side : Int32} {f_rows : Int32} {k : Nat} {rv : Int32} {g_name : (Nat → Int32)} (hm : gk_lp (fun z => m_X6_areAlike_B18 rf f_n f_members x1 x2 x3 x4 z.1 z.2) k (x5, f_name) = some (.inl (rv, g_name))) (kr : Q = MQ below (gk_Q G (some (.int rv)) [(a0, .inr (5, [.int f_n, .ref a1, .ref a2, .ref a3, .ref a4, .int f_keptN, .ref a5, .ref a6, .ref a7, .ref a8, .ref a9, .ref a10, .ref a11, .ref a12, .ref a13, .ref a14, .ref a15, .ref a16, .int f_side, .ref a17, .ref a18, .ref a19, .int f_rows, .ref a20, .ref a21])), (a1, gk_J G 6 f_members), (a20, gk_I G 6 g_name)] A) args s 0 0 A) {H : Heap} {locs : List Loc} {ls : Array Slot} (h : gk_H G A s [(a0, .inr (5, [.int f_n, .ref a1, .ref a2, .ref a3, .ref a4, .int f_keptN, .ref a5, .ref a6, .ref a7, .ref a8, .ref a9, .ref a10, .ref a11, .ref a12, .ref a13, .ref a14, .ref a15, .ref a16, .int f_side, .ref a17, .ref a18, .ref a19, .int f_rows, .ref a20, .ref a21])), (a1, gk_J G 6 f_members), (a20, gk_I G 6 f_name)] H locs) (hl : lv_has ls 6 [(0, .ref a0), (1, .int x1), (2, .int x2), (3, .int x3), (4, .int x4), (5, .int x5)]) : W p l e (rm_X6_areAlike (d + 1)) s m args below meth c H locs 0 0 Q (F0 m 18 ls []) :=
  gk_lp_some (P := fun z => ∀ (H : Heap) (locs : List Loc) (ls : Array Slot), gk_H G A s [(a0, .inr (5, [.int f_n, .ref a1, .ref a2, .ref a3, .ref a4, .int f_keptN, .ref a5, .ref a6, .ref a7, .ref a8, .ref a9, .ref a10, .ref a11, .ref a12, .ref a13, .ref a14, .ref a15, .ref a16, .int f_side, .ref a17, .ref a18, .ref a19, .int f_rows, .ref a20, .ref a21])), (a1, gk_J G 6 f_members), (a20, gk_I G 6 z.2)] H locs → lv_has ls 6 [(0, .ref a0), (1, .int x1), (2, .int x2), (3, .int x3), (4, .int x4), (5, .int z.1)] → W p l e (rm_X6_areAlike (d + 1)) s m args below meth c H locs 0 0 Q (F0 m 18 ls [])) (E := fun r => (∀ (f_name : (Nat → Int32)), r = .inr f_name → ∀ (H : Heap) (locs : List Loc) (ls : Array Slot), gk_H G A s [(a0, .inr (5, [.int f_n, .ref a1, .ref a2, .ref a3, .ref a4, .int f_keptN, .ref a5, .ref a6, .ref a7, .ref a8, .ref a9, .ref a10, .ref a11, .ref a12, .ref a13, .ref a14, .ref a15, .ref a16, .int f_side, .ref a17, .ref a18, .ref a19, .int f_rows, .ref a20, .ref a21])), (a1, gk_J G 6 f_members), (a20, gk_I G 6 f_name)] H locs → lv_has ls 6 [] → W p l e (rm_X6_areAlike (d + 1)) s m args below meth c H locs 0 0 Q (F0 m 76 ls [])) ∧ (∀ (rv : Int32) (g_name : (Nat → Int32)), r = .inl (rv, g_name) → Q = MQ below (gk_Q G (some (.int rv)) [(a0, .inr (5, [.int f_n, .ref a1, .ref a2, .ref a3, .ref a4, .int f_keptN, .ref a5, .ref a6, .ref a7, .ref a8, .ref a9, .ref a10, .ref a11, .ref a12, .ref a13, .ref a14, .ref a15, .ref a16, .int f_side, .ref a17, .ref a18, .ref a19, .int f_rows, .ref a20, .ref a21])), (a1, gk_J G 6 f_members), (a20, gk_I G 6 g_name)] A) args s 0 0 A)) (fun z x hf kl ke H locs ls h hl => w_X6_areAlike_B18 hrec C hf (fun v0 v1 ez => kl (v0, v1) ez) (fun v0 ez => (ke _ ez).1 v0 rfl) (fun v0 v1 ez => (ke _ ez).2 v0 v1 rfl) h hl) k (x5, f_name) _ hm (⟨fun v0 ez => (by cases ez), fun v0 v1 ez => (by cases ez; exact kr)⟩) _ _ _ h hl
def m_X6_areAlike_0 (rf : Int32 → (Nat → Int64) → (Nat → Int32) → Int32 → Int32 → Int32 → Int32 → Option (Int32 × (Nat → Int32))) (f_n : Int32) (f_members : (Nat → Int64)) (f_name : (Nat → Int32)) (x1 : Int32) (x2 : Int32) (x3 : Int32) (x4 : Int32) : Option (Int32 × (Nat → Int32)) := (if x3 = f_n then gk_bd1 (m_X6_isRenamed f_n f_members f_name x1 x2) (fun r14 => gk_bo r14 (some (r14, f_name))) else gk_bs1 (gk_lp (fun z => m_X6_areAlike_B18 rf f_n f_members x1 x2 x3 x4 z.1 z.2) gk_fu ((0 : Int32), f_name)) (fun r => some r) (fun e11 => some ((0 : Int32), e11)))
set_option maxRecDepth 100000 in
set_option maxHeartbeats 4000000 in
theorem w_X6_areAlike_0 {p : Program} {l : Launch} {e : Env} {s : State} {m : MethodId} {args : Array Value} {below : List Frame} {meth : Method} {c : Code} {G : gk_G} {A : Nat → Prop} {Q : State → Prop} {a0 a1 a2 a3 a4 a5 a6 a7 a8 a9 a10 a11 a12 a13 a14 a15 a16 a17 a18 a19 a20 a21 : Nat} {d : Nat} {rf : Int32 → (Nat → Int64) → (Nat → Int32) → Int32 → Int32 → Int32 → Int32 → Option (Int32 × (Nat → Int32))} (hrec : ∀ (f_n : Int32) (f_keptN : Int32) (f_side : Int32) (f_rows : Int32) (f_members : (Nat → Int64)) (f_name : (Nat → Int32)) (x1 : Int32) (x2 : Int32) (x3 : Int32) (x4 : Int32) (rv : Int32) (g_name : (Nat → Int32)), rf f_n f_members f_name x1 x2 x3 x4 = some (rv, g_name) → gk_M l yX6_areAlike wsX6_areAlike (rm_X6_areAlike d) false G [.ref a0, .int x1, .int x2, .int x3, .int x4] [(a0, .inr (5, [.int f_n, .ref a1, .ref a2, .ref a3, .ref a4, .int f_keptN, .ref a5, .ref a6, .ref a7, .ref a8, .ref a9, .ref a10, .ref a11, .ref a12, .ref a13, .ref a14, .ref a15, .ref a16, .int f_side, .ref a17, .ref a18, .ref a19, .int f_rows, .ref a20, .ref a21])), (a1, gk_J G 6 f_members), (a20, gk_I G 6 f_name)] (some (.int rv)) [(a0, .inr (5, [.int f_n, .ref a1, .ref a2, .ref a3, .ref a4, .int f_keptN, .ref a5, .ref a6, .ref a7, .ref a8, .ref a9, .ref a10, .ref a11, .ref a12, .ref a13, .ref a14, .ref a15, .ref a16, .int f_side, .ref a17, .ref a18, .ref a19, .int f_rows, .ref a20, .ref a21])), (a1, gk_J G 6 f_members), (a20, gk_I G 6 g_name)]) (C : gk_C p s m args meth c cX6_areAlike 6 (some .boolean) yX6_areAlike wsX6_areAlike false G A) {f_n : Int32} {f_members : (Nat → Int64)} {f_name : (Nat → Int32)} {x1 : Int32} {x2 : Int32} {x3 : Int32} {x4 : Int32} {f_keptN : Int32} {f_side : Int32} {f_rows : Int32} {yy : Int32 × (Nat → Int32)} (hm : m_X6_areAlike_0 rf f_n f_members f_name x1 x2 x3 x4 = some yy) (kr : ∀ (rv : Int32) (g_name : (Nat → Int32)), yy = (rv, g_name) → Q = MQ below (gk_Q G (some (.int rv)) [(a0, .inr (5, [.int f_n, .ref a1, .ref a2, .ref a3, .ref a4, .int f_keptN, .ref a5, .ref a6, .ref a7, .ref a8, .ref a9, .ref a10, .ref a11, .ref a12, .ref a13, .ref a14, .ref a15, .ref a16, .int f_side, .ref a17, .ref a18, .ref a19, .int f_rows, .ref a20, .ref a21])), (a1, gk_J G 6 f_members), (a20, gk_I G 6 g_name)] A) args s 0 0 A) {H : Heap} {locs : List Loc} {ls : Array Slot} (h : gk_H G A s [(a0, .inr (5, [.int f_n, .ref a1, .ref a2, .ref a3, .ref a4, .int f_keptN, .ref a5, .ref a6, .ref a7, .ref a8, .ref a9, .ref a10, .ref a11, .ref a12, .ref a13, .ref a14, .ref a15, .ref a16, .int f_side, .ref a17, .ref a18, .ref a19, .int f_rows, .ref a20, .ref a21])), (a1, gk_J G 6 f_members), (a20, gk_I G 6 f_name)] H locs) (hl : lv_has ls 6 [(0, .ref a0), (1, .int x1), (2, .int x2), (3, .int x3), (4, .int x4)]) : W p l e (rm_X6_areAlike (d + 1)) s m args below meth c H locs 0 0 Q (F0 m 0 ls []) := by
  obtain ⟨hx, hb, hml, hr, hown, hnm, hts, hlk, hK, hSt, hA⟩ := id C
  obtain ⟨hP, hD, hS⟩ := h
  unfold m_X6_areAlike_0 at hm
  refine lv_iload_n hx hb dX6_areAlike_0 rfl (lv_at hl 3 rfl) ?_
  refine lv_aload_n hx hb dX6_areAlike_1 rfl (lv_at hl 0 rfl) ?_
  refine va_get (D := G.1) (cl := vwCl) (own := RX6) (ref := "ExchangeFamiliesModel") (ci := 5) (v := .int f_n) (C := RX6) (T := TX6) (N := 25) hx hb hts k_X6_areAlike_0 hown hK hP 0 rfl rfl 0 (by decide) (hts _ k_X6_areAlike_1) (fun _ h9 => h9) rfl dX6_areAlike_2 ?_
  refine lv_icmp_ne (tgt := 15) hx hb dX6_areAlike_5 (by decide) (fun c5 => ?_) (fun c5 => ?_)
  · have hm := gk_if c5 hm
    refine lv_iconst (v := 0) hx hb dX6_areAlike_15 (by decide) ?_
    refine lv_istore (lv' := [(5, .int (0 : Int32)), (0, .ref a0), (1, .int x1), (2, .int x2), (3, .int x3), (4, .int x4)]) hx hb dX6_areAlike_16 hl (by decide) rfl (fun ls hl => ?_)
    rcases gk_bs1_some hm with ⟨⟨r12, r13⟩, hq, hm⟩ | ⟨e11, hq, hm⟩
    · exact w_X6_areAlike_L18r hrec C hq (kr _ _ (Option.some.inj hm).symm) ⟨hP, hD, hS⟩ (lv_sub hl [1, 2, 3, 4, 5, 0] rfl)
    refine w_X6_areAlike_L18 hrec C hq (fun H locs ls h hl => ?_) ⟨hP, hD, hS⟩ (lv_sub hl [1, 2, 3, 4, 5, 0] rfl)
    obtain ⟨hP, hD, hS⟩ := h
    refine lv_iconst (v := 0) hx hb dX6_areAlike_76 (by decide) ?_
    rw [kr _ _ (Option.some.inj hm).symm]
    exact gk_zret C ⟨hP, hD, hS⟩ rfl dX6_areAlike_77
  · have hm := gk_it c5 hm
    refine lv_aload_n hx hb dX6_areAlike_8 rfl (lv_at hl 0 rfl) ?_
    refine lv_iload_n hx hb dX6_areAlike_9 rfl (lv_at hl 1 rfl) ?_
    refine lv_iload_n hx hb dX6_areAlike_10 rfl (lv_at hl 2 rfl) ?_
    obtain ⟨r14, hq, hm⟩ := gk_bd1_some hm
    refine gk_callV (n := 2) (bytes := cX6_isRenamed) (maxL := 6) (ret := (some .boolean)) (Cn := RX6) (T := TX6) (N := 25) [] [(a0, .inr (5, [.int f_n, .ref a1, .ref a2, .ref a3, .ref a4, .int f_keptN, .ref a5, .ref a6, .ref a7, .ref a8, .ref a9, .ref a10, .ref a11, .ref a12, .ref a13, .ref a14, .ref a15, .ref a16, .int f_side, .ref a17, .ref a18, .ref a19, .int f_rows, .ref a20, .ref a21])), (a1, gk_J G 6 f_members), (a20, gk_I G 6 f_name)] [] C ⟨hP, hD, hS⟩ (c_X6_isRenamed l G a0 a1 a2 a3 a4 a5 a6 a7 a8 a9 a10 a11 a12 a13 a14 a15 a16 a17 a18 a19 a20 a21 f_n f_keptN f_side f_rows f_members f_name x1 x2 hq) gX6_areAlike_X6_isRenamed dX6_areAlike_11 hl.1 [0, 1, 2] [] [0, 1, 2] rfl rfl ⟨rfl, rfl⟩ (by simp only [rm_X6_areAlike, rm_X6_isRenamed]; omega) ⟨rfl, by decide +kernel, by decide +kernel, by decide +kernel⟩ rfl (fun h => by cases h) (Nat.le_of_ble_eq_true rfl) rfl rfl rfl rfl (by decide) rfl rfl (fun H locs h => ?_)
    obtain ⟨hP, hD, hS⟩ := h
    obtain ⟨hv, hm⟩ := gk_bo_some hm
    rw [kr _ _ (Option.some.inj hm).symm]
    exact gk_zret C ⟨hP, hD, hS⟩ hv dX6_areAlike_14
def m_X6_areAlike : Nat → Int32 → (Nat → Int64) → (Nat → Int32) → Int32 → Int32 → Int32 → Int32 → Option (Int32 × (Nat → Int32))
  | 0, _, _, _, _, _, _, _ => none
  | d + 1, f_n, f_members, f_name, x1, x2, x3, x4 => m_X6_areAlike_0 (m_X6_areAlike d) f_n f_members f_name x1 x2 x3 x4
theorem c_X6_areAlike_rec (l : Launch) (G : gk_G) (a0 a1 a2 a3 a4 a5 a6 a7 a8 a9 a10 a11 a12 a13 a14 a15 a16 a17 a18 a19 a20 a21 : Nat) : ∀ (d : Nat), ∀ (f_n : Int32) (f_keptN : Int32) (f_side : Int32) (f_rows : Int32) (f_members : (Nat → Int64)) (f_name : (Nat → Int32)) (x1 : Int32) (x2 : Int32) (x3 : Int32) (x4 : Int32) (rv : Int32) (g_name : (Nat → Int32)), m_X6_areAlike d f_n f_members f_name x1 x2 x3 x4 = some (rv, g_name) → gk_M l yX6_areAlike wsX6_areAlike (rm_X6_areAlike d) false G [.ref a0, .int x1, .int x2, .int x3, .int x4] [(a0, .inr (5, [.int f_n, .ref a1, .ref a2, .ref a3, .ref a4, .int f_keptN, .ref a5, .ref a6, .ref a7, .ref a8, .ref a9, .ref a10, .ref a11, .ref a12, .ref a13, .ref a14, .ref a15, .ref a16, .int f_side, .ref a17, .ref a18, .ref a19, .int f_rows, .ref a20, .ref a21])), (a1, gk_J G 6 f_members), (a20, gk_I G 6 f_name)] (some (.int rv)) [(a0, .inr (5, [.int f_n, .ref a1, .ref a2, .ref a3, .ref a4, .int f_keptN, .ref a5, .ref a6, .ref a7, .ref a8, .ref a9, .ref a10, .ref a11, .ref a12, .ref a13, .ref a14, .ref a15, .ref a16, .int f_side, .ref a17, .ref a18, .ref a19, .int f_rows, .ref a20, .ref a21])), (a1, gk_J G 6 f_members), (a20, gk_I G 6 g_name)]
  | 0 => by
    intros
    rename_i hm
    cases hm
  | d + 1 => by
    intro f_n f_keptN f_side f_rows f_members f_name x1 x2 x3 x4 rv g_name hm
    refine gk_of (by decide) rfl (Nat.le_of_ble_eq_true rfl) (fun p e s m below meth c A ls C h hl => w_X6_areAlike_0 (rf := m_X6_areAlike d) (c_X6_areAlike_rec l G a0 a1 a2 a3 a4 a5 a6 a7 a8 a9 a10 a11 a12 a13 a14 a15 a16 a17 a18 a19 a20 a21 d) C hm (fun v0 v1 ez => by cases ez; rfl) h (show lv_has ls 6 [(0, .ref a0), (1, .int x1), (2, .int x2), (3, .int x3), (4, .int x4)] from hl))
theorem c_X6_areAlike (l : Launch) (G : gk_G) (a0 a1 a2 a3 a4 a5 a6 a7 a8 a9 a10 a11 a12 a13 a14 a15 a16 a17 a18 a19 a20 a21 : Nat) (f_n : Int32) (f_keptN : Int32) (f_side : Int32) (f_rows : Int32) (f_members : (Nat → Int64)) (f_name : (Nat → Int32)) (x1 : Int32) (x2 : Int32) (x3 : Int32) (x4 : Int32) (d : Nat) {rv : Int32} {g_name : (Nat → Int32)} (hm : m_X6_areAlike d f_n f_members f_name x1 x2 x3 x4 = some (rv, g_name)) : gk_M l yX6_areAlike wsX6_areAlike (rm_X6_areAlike d) false G [.ref a0, .int x1, .int x2, .int x3, .int x4] [(a0, .inr (5, [.int f_n, .ref a1, .ref a2, .ref a3, .ref a4, .int f_keptN, .ref a5, .ref a6, .ref a7, .ref a8, .ref a9, .ref a10, .ref a11, .ref a12, .ref a13, .ref a14, .ref a15, .ref a16, .int f_side, .ref a17, .ref a18, .ref a19, .int f_rows, .ref a20, .ref a21])), (a1, gk_J G 6 f_members), (a20, gk_I G 6 f_name)] (some (.int rv)) [(a0, .inr (5, [.int f_n, .ref a1, .ref a2, .ref a3, .ref a4, .int f_keptN, .ref a5, .ref a6, .ref a7, .ref a8, .ref a9, .ref a10, .ref a11, .ref a12, .ref a13, .ref a14, .ref a15, .ref a16, .int f_side, .ref a17, .ref a18, .ref a19, .int f_rows, .ref a20, .ref a21])), (a1, gk_J G 6 f_members), (a20, gk_I G 6 g_name)] := c_X6_areAlike_rec l G a0 a1 a2 a3 a4 a5 a6 a7 a8 a9 a10 a11 a12 a13 a14 a15 a16 a17 a18 a19 a20 a21 d f_n f_keptN f_side f_rows f_members f_name x1 x2 x3 x4 rv g_name hm

/-! ===== ExchangeFamiliesModel.same(III)I ===== -/
abbrev rm_X6_same : Room := { frames := 16, cells := 0, slots := 0, locals := 553 }
theorem k_X6_same_0 : Cond.constantLong RX6 146 (2) ∈ wsX6_same := by decide +kernel
theorem k_X6_same_1 : ∀ w ∈ u_ws RX6 TX6 25, w ∈ wsX6_same := by decide +kernel
theorem k_X6_same_2 : Cond.fieldLink RX6 19 "ExchangeFamiliesModel" "kind" "[I" ∈ wsX6_same := by decide +kernel
theorem k_X6_same_3 : Cond.fieldLink RX6 15 "ExchangeFamiliesModel" "members" "[J" ∈ wsX6_same := by decide +kernel
def m_X6_same_0 (f_n : Int32) (f_members : (Nat → Int64)) (f_kind : (Nat → Int32)) (f_name : (Nat → Int32)) (x1 : Int32) (x2 : Int32) (x3 : Int32) : Option (Int32 × (Nat → Int32)) := gk_bd1 (m_X6_isFamily x1) (fun r10 => (if r10 = (0 : Int32) then some ((-2 : Int32), f_name) else gk_bd1 (m_X6_isFamily x2) (fun r12 => (if r12 = (0 : Int32) then some ((-2 : Int32), f_name) else gk_bd1 (m_X6_isIn x3.toInt64 (0 : Int64) (2 : Int64)) (fun r14 => (if r14 = (0 : Int32) then some ((-2 : Int32), f_name) else gk_ix x1 6 ((if (f_kind x1.toNatClampNeg) = (-1 : Int32) then some ((-11 : Int32), f_name) else gk_ix x2 6 ((if (f_kind x2.toNatClampNeg) = (-1 : Int32) then some ((-11 : Int32), f_name) else (if x3 = (1 : Int32) then gk_bd1 (m_X6_twistTo f_n f_members x1 x2) (fun r24 => some (r24, f_name)) else (if x3 = (0 : Int32) then gk_ix x1 6 (gk_ix x2 6 ((if (lg_cmp (f_members x1.toNatClampNeg) (f_members x2.toNatClampNeg)) = (0 : Int32) then some ((1 : Int32), f_name) else some ((0 : Int32), f_name)))) else gk_bd2 (m_X6_areAlike 8 f_n f_members f_name x1 x2 (0 : Int32) (0 : Int32)) (fun r20 r21 => (if r20 = (0 : Int32) then some ((0 : Int32), r21) else some ((1 : Int32), r21)))))))))))))))
set_option maxRecDepth 100000 in
set_option maxHeartbeats 4000000 in
theorem w_X6_same_0 {p : Program} {l : Launch} {e : Env} {s : State} {m : MethodId} {args : Array Value} {below : List Frame} {meth : Method} {c : Code} {G : gk_G} {A : Nat → Prop} {Q : State → Prop} {a0 a1 a2 a3 a4 a5 a6 a7 a8 a9 a10 a11 a12 a13 a14 a15 a16 a17 a18 a19 a20 a21 : Nat} (C : gk_C p s m args meth c cX6_same 4 (some .int) yX6_same wsX6_same false G A) {f_n : Int32} {f_members : (Nat → Int64)} {f_kind : (Nat → Int32)} {f_name : (Nat → Int32)} {x1 : Int32} {x2 : Int32} {x3 : Int32} {f_keptN : Int32} {f_side : Int32} {f_rows : Int32} {yy : Int32 × (Nat → Int32)} (hm : m_X6_same_0 f_n f_members f_kind f_name x1 x2 x3 = some yy) (kr : ∀ (rv : Int32) (g_name : (Nat → Int32)), yy = (rv, g_name) → Q = MQ below (gk_Q G (some (.int rv)) [(a0, .inr (5, [.int f_n, .ref a1, .ref a2, .ref a3, .ref a4, .int f_keptN, .ref a5, .ref a6, .ref a7, .ref a8, .ref a9, .ref a10, .ref a11, .ref a12, .ref a13, .ref a14, .ref a15, .ref a16, .int f_side, .ref a17, .ref a18, .ref a19, .int f_rows, .ref a20, .ref a21])), (a1, gk_J G 6 f_members), (a2, gk_I G 6 f_kind), (a20, gk_I G 6 g_name)] A) args s 0 0 A) {H : Heap} {locs : List Loc} {ls : Array Slot} (h : gk_H G A s [(a0, .inr (5, [.int f_n, .ref a1, .ref a2, .ref a3, .ref a4, .int f_keptN, .ref a5, .ref a6, .ref a7, .ref a8, .ref a9, .ref a10, .ref a11, .ref a12, .ref a13, .ref a14, .ref a15, .ref a16, .int f_side, .ref a17, .ref a18, .ref a19, .int f_rows, .ref a20, .ref a21])), (a1, gk_J G 6 f_members), (a2, gk_I G 6 f_kind), (a20, gk_I G 6 f_name)] H locs) (hl : lv_has ls 4 [(0, .ref a0), (1, .int x1), (2, .int x2), (3, .int x3)]) : W p l e rm_X6_same s m args below meth c H locs 0 0 Q (F0 m 0 ls []) := by
  obtain ⟨hx, hb, hml, hr, hown, hnm, hts, hlk, hK, hSt, hA⟩ := id C
  obtain ⟨hP, hD, hS⟩ := h
  unfold m_X6_same_0 at hm
  refine lv_iload_n hx hb dX6_same_0 rfl (lv_at hl 1 rfl) ?_
  obtain ⟨r10, hq, hm⟩ := gk_bd1_some hm
  refine gk_callS (n := 1) (bytes := cX6_isFamily) (maxL := 1) (ret := (some .boolean)) [(a0, .inr (5, [.int f_n, .ref a1, .ref a2, .ref a3, .ref a4, .int f_keptN, .ref a5, .ref a6, .ref a7, .ref a8, .ref a9, .ref a10, .ref a11, .ref a12, .ref a13, .ref a14, .ref a15, .ref a16, .int f_side, .ref a17, .ref a18, .ref a19, .int f_rows, .ref a20, .ref a21])), (a1, gk_J G 6 f_members), (a2, gk_I G 6 f_kind), (a20, gk_I G 6 f_name)] [(a0, .inr (5, [.int f_n, .ref a1, .ref a2, .ref a3, .ref a4, .int f_keptN, .ref a5, .ref a6, .ref a7, .ref a8, .ref a9, .ref a10, .ref a11, .ref a12, .ref a13, .ref a14, .ref a15, .ref a16, .int f_side, .ref a17, .ref a18, .ref a19, .int f_rows, .ref a20, .ref a21])), (a1, gk_J G 6 f_members), (a2, gk_I G 6 f_kind), (a20, gk_I G 6 f_name)] [] C ⟨hP, hD, hS⟩ (c_X6_isFamily l G x1 hq) gX6_same_X6_isFamily dX6_same_1 hl.1 [] [0, 1, 2, 3] [0, 1, 2, 3] rfl ⟨rfl, rfl⟩ ⟨Nat.le_of_ble_eq_true rfl, Nat.le_of_ble_eq_true rfl⟩ ⟨by decide +kernel, by decide +kernel, by decide +kernel⟩ rfl (fun h => by cases h) (Nat.le_of_ble_eq_true rfl) rfl rfl rfl rfl (by decide) rfl rfl (fun H locs h => ?_)
  obtain ⟨hP, hD, hS⟩ := h
  refine lv_if_eq (tgt := 26) hx hb dX6_same_4 (by decide) (fun c11 => ?_) (fun c11 => ?_)
  · have hm := gk_it c11 hm
    refine lv_bipush (v := -2) hx hb dX6_same_26 (by decide) ?_
    rw [kr _ _ (Option.some.inj hm).symm]
    exact gk_iret C ⟨hP, hD, hS⟩ dX6_same_28
  · have hm := gk_if c11 hm
    refine lv_iload_n hx hb dX6_same_7 rfl (lv_at hl 2 rfl) ?_
    obtain ⟨r12, hq, hm⟩ := gk_bd1_some hm
    refine gk_callS (n := 1) (bytes := cX6_isFamily) (maxL := 1) (ret := (some .boolean)) [(a0, .inr (5, [.int f_n, .ref a1, .ref a2, .ref a3, .ref a4, .int f_keptN, .ref a5, .ref a6, .ref a7, .ref a8, .ref a9, .ref a10, .ref a11, .ref a12, .ref a13, .ref a14, .ref a15, .ref a16, .int f_side, .ref a17, .ref a18, .ref a19, .int f_rows, .ref a20, .ref a21])), (a1, gk_J G 6 f_members), (a2, gk_I G 6 f_kind), (a20, gk_I G 6 f_name)] [(a0, .inr (5, [.int f_n, .ref a1, .ref a2, .ref a3, .ref a4, .int f_keptN, .ref a5, .ref a6, .ref a7, .ref a8, .ref a9, .ref a10, .ref a11, .ref a12, .ref a13, .ref a14, .ref a15, .ref a16, .int f_side, .ref a17, .ref a18, .ref a19, .int f_rows, .ref a20, .ref a21])), (a1, gk_J G 6 f_members), (a2, gk_I G 6 f_kind), (a20, gk_I G 6 f_name)] [] C ⟨hP, hD, hS⟩ (c_X6_isFamily l G x2 hq) gX6_same_X6_isFamily dX6_same_8 hl.1 [] [0, 1, 2, 3] [0, 1, 2, 3] rfl ⟨rfl, rfl⟩ ⟨Nat.le_of_ble_eq_true rfl, Nat.le_of_ble_eq_true rfl⟩ ⟨by decide +kernel, by decide +kernel, by decide +kernel⟩ rfl (fun h => by cases h) (Nat.le_of_ble_eq_true rfl) rfl rfl rfl rfl (by decide) rfl rfl (fun H locs h => ?_)
    obtain ⟨hP, hD, hS⟩ := h
    refine lv_if_eq (tgt := 26) hx hb dX6_same_11 (by decide) (fun c13 => ?_) (fun c13 => ?_)
    · have hm := gk_it c13 hm
      refine lv_bipush (v := -2) hx hb dX6_same_26 (by decide) ?_
      rw [kr _ _ (Option.some.inj hm).symm]
      exact gk_iret C ⟨hP, hD, hS⟩ dX6_same_28
    · have hm := gk_if c13 hm
      refine lv_iload_n hx hb dX6_same_14 rfl (lv_at hl 3 rfl) ?_
      refine lv_i2l hx hb dX6_same_15 rfl ?_
      refine lv_lconst (v := 0) hx hb dX6_same_16 (by decide) ?_
      refine lv_ldc2 (own := RX6) (v := 2) hx hb hown (hts _ k_X6_same_0) dX6_same_17 ?_
      obtain ⟨r14, hq, hm⟩ := gk_bd1_some hm
      refine gk_callS (n := 3) (bytes := cX6_isIn) (maxL := 6) (ret := (some .boolean)) [(a0, .inr (5, [.int f_n, .ref a1, .ref a2, .ref a3, .ref a4, .int f_keptN, .ref a5, .ref a6, .ref a7, .ref a8, .ref a9, .ref a10, .ref a11, .ref a12, .ref a13, .ref a14, .ref a15, .ref a16, .int f_side, .ref a17, .ref a18, .ref a19, .int f_rows, .ref a20, .ref a21])), (a1, gk_J G 6 f_members), (a2, gk_I G 6 f_kind), (a20, gk_I G 6 f_name)] [(a0, .inr (5, [.int f_n, .ref a1, .ref a2, .ref a3, .ref a4, .int f_keptN, .ref a5, .ref a6, .ref a7, .ref a8, .ref a9, .ref a10, .ref a11, .ref a12, .ref a13, .ref a14, .ref a15, .ref a16, .int f_side, .ref a17, .ref a18, .ref a19, .int f_rows, .ref a20, .ref a21])), (a1, gk_J G 6 f_members), (a2, gk_I G 6 f_kind), (a20, gk_I G 6 f_name)] [] C ⟨hP, hD, hS⟩ (c_X6_isIn l G x3.toInt64 (0 : Int64) (2 : Int64) hq) gX6_same_X6_isIn dX6_same_20 hl.1 [] [0, 1, 2, 3] [0, 1, 2, 3] rfl ⟨rfl, rfl⟩ ⟨Nat.le_of_ble_eq_true rfl, Nat.le_of_ble_eq_true rfl⟩ ⟨by decide +kernel, by decide +kernel, by decide +kernel⟩ rfl (fun h => by cases h) (Nat.le_of_ble_eq_true rfl) rfl rfl rfl rfl (by decide) rfl rfl (fun H locs h => ?_)
      obtain ⟨hP, hD, hS⟩ := h
      refine lv_if_ne (tgt := 29) hx hb dX6_same_23 (by decide) (fun c15 => ?_) (fun c15 => ?_)
      · have hm := gk_if c15 hm
        refine lv_aload_n hx hb dX6_same_29 rfl (lv_at hl 0 rfl) ?_
        refine va_get (D := G.1) (cl := vwCl) (own := RX6) (ref := "ExchangeFamiliesModel") (ci := 5) (v := .ref a2) (C := RX6) (T := TX6) (N := 25) hx hb hts k_X6_same_1 hown hK hP 0 rfl rfl 2 (by decide) (hts _ k_X6_same_2) (fun _ h9 => h9) rfl dX6_same_30 ?_
        refine lv_iload_n hx hb dX6_same_33 rfl (lv_at hl 1 rfl) ?_
        obtain ⟨hi, hm⟩ := gk_ix_some hm
        refine va_iald hx hb hK hP 2 0 rfl rfl hi dX6_same_34 ?_
        refine lv_iconst (v := -1) hx hb dX6_same_35 (by decide) ?_
        refine lv_icmp_eq (tgt := 49) hx hb dX6_same_36 (by decide) (fun c16 => ?_) (fun c16 => ?_)
        · have hm := gk_it c16 hm
          refine lv_bipush (v := -11) hx hb dX6_same_49 (by decide) ?_
          rw [kr _ _ (Option.some.inj hm).symm]
          exact gk_iret C ⟨hP, hD, hS⟩ dX6_same_51
        · have hm := gk_if c16 hm
          refine lv_aload_n hx hb dX6_same_39 rfl (lv_at hl 0 rfl) ?_
          refine va_get (D := G.1) (cl := vwCl) (own := RX6) (ref := "ExchangeFamiliesModel") (ci := 5) (v := .ref a2) (C := RX6) (T := TX6) (N := 25) hx hb hts k_X6_same_1 hown hK hP 0 rfl rfl 2 (by decide) (hts _ k_X6_same_2) (fun _ h9 => h9) rfl dX6_same_40 ?_
          refine lv_iload_n hx hb dX6_same_43 rfl (lv_at hl 2 rfl) ?_
          obtain ⟨hi, hm⟩ := gk_ix_some hm
          refine va_iald hx hb hK hP 2 0 rfl rfl hi dX6_same_44 ?_
          refine lv_iconst (v := -1) hx hb dX6_same_45 (by decide) ?_
          refine lv_icmp_ne (tgt := 52) hx hb dX6_same_46 (by decide) (fun c17 => ?_) (fun c17 => ?_)
          · have hm := gk_if c17 hm
            refine lv_iload_n hx hb dX6_same_52 rfl (lv_at hl 3 rfl) ?_
            refine lv_iconst (v := 1) hx hb dX6_same_53 (by decide) ?_
            refine lv_icmp_ne (tgt := 64) hx hb dX6_same_54 (by decide) (fun c18 => ?_) (fun c18 => ?_)
            · have hm := gk_if c18 hm
              refine lv_iload_n hx hb dX6_same_64 rfl (lv_at hl 3 rfl) ?_
              refine lv_if_ne (tgt := 87) hx hb dX6_same_65 (by decide) (fun c19 => ?_) (fun c19 => ?_)
              · have hm := gk_if c19 hm
                refine lv_aload_n hx hb dX6_same_87 rfl (lv_at hl 0 rfl) ?_
                refine lv_iload_n hx hb dX6_same_88 rfl (lv_at hl 1 rfl) ?_
                refine lv_iload_n hx hb dX6_same_89 rfl (lv_at hl 2 rfl) ?_
                refine lv_iconst (v := 0) hx hb dX6_same_90 (by decide) ?_
                refine lv_iconst (v := 0) hx hb dX6_same_91 (by decide) ?_
                obtain ⟨r20, r21, hq, hm⟩ := gk_bd2_some hm
                refine gk_callV (n := 4) (bytes := cX6_areAlike) (maxL := 6) (ret := (some .boolean)) (Cn := RX6) (T := TX6) (N := 25) [(a2, gk_I G 6 f_kind)] [(a0, .inr (5, [.int f_n, .ref a1, .ref a2, .ref a3, .ref a4, .int f_keptN, .ref a5, .ref a6, .ref a7, .ref a8, .ref a9, .ref a10, .ref a11, .ref a12, .ref a13, .ref a14, .ref a15, .ref a16, .int f_side, .ref a17, .ref a18, .ref a19, .int f_rows, .ref a20, .ref a21])), (a1, gk_J G 6 f_members), (a2, gk_I G 6 f_kind), (a20, gk_I G 6 r21)] [] C ⟨hP, hD, hS⟩ (c_X6_areAlike l G a0 a1 a2 a3 a4 a5 a6 a7 a8 a9 a10 a11 a12 a13 a14 a15 a16 a17 a18 a19 a20 a21 f_n f_keptN f_side f_rows f_members f_name x1 x2 (0 : Int32) (0 : Int32) 8 hq) gX6_same_X6_areAlike dX6_same_92 hl.1 [0, 1, 3] [2] [1, 2, 0, 3] rfl rfl ⟨rfl, rfl⟩ ⟨Nat.le_of_ble_eq_true rfl, Nat.le_of_ble_eq_true rfl⟩ ⟨rfl, by decide +kernel, by decide +kernel, by decide +kernel⟩ rfl (fun h => by cases h) (Nat.le_of_ble_eq_true rfl) rfl rfl rfl rfl (by decide) rfl rfl (fun H locs h => ?_)
                obtain ⟨hP, hD, hS⟩ := h
                refine lv_if_eq (tgt := 102) hx hb dX6_same_95 (by decide) (fun c22 => ?_) (fun c22 => ?_)
                · have hm := gk_it c22 hm
                  refine lv_iconst (v := 0) hx hb dX6_same_102 (by decide) ?_
                  rw [kr _ _ (Option.some.inj hm).symm]
                  exact gk_iret C ⟨hP, hD, hS⟩ dX6_same_103
                · have hm := gk_if c22 hm
                  refine lv_iconst (v := 1) hx hb dX6_same_98 (by decide) ?_
                  refine lv_goto (tgt := 103) hx hb dX6_same_99 (by decide) ?_
                  rw [kr _ _ (Option.some.inj hm).symm]
                  exact gk_iret C ⟨hP, hD, hS⟩ dX6_same_103
              · have hm := gk_it c19 hm
                refine lv_aload_n hx hb dX6_same_68 rfl (lv_at hl 0 rfl) ?_
                refine va_get (D := G.1) (cl := vwCl) (own := RX6) (ref := "ExchangeFamiliesModel") (ci := 5) (v := .ref a1) (C := RX6) (T := TX6) (N := 25) hx hb hts k_X6_same_1 hown hK hP 0 rfl rfl 1 (by decide) (hts _ k_X6_same_3) (fun _ h9 => h9) rfl dX6_same_69 ?_
                refine lv_iload_n hx hb dX6_same_72 rfl (lv_at hl 1 rfl) ?_
                obtain ⟨hi, hm⟩ := gk_ix_some hm
                refine va_lald hx hb hK hP 1 1 rfl rfl hi dX6_same_73 ?_
                refine lv_aload_n hx hb dX6_same_74 rfl (lv_at hl 0 rfl) ?_
                refine va_get (D := G.1) (cl := vwCl) (own := RX6) (ref := "ExchangeFamiliesModel") (ci := 5) (v := .ref a1) (C := RX6) (T := TX6) (N := 25) hx hb hts k_X6_same_1 hown hK hP 0 rfl rfl 1 (by decide) (hts _ k_X6_same_3) (fun _ h9 => h9) rfl dX6_same_75 ?_
                refine lv_iload_n hx hb dX6_same_78 rfl (lv_at hl 2 rfl) ?_
                obtain ⟨hi, hm⟩ := gk_ix_some hm
                refine va_lald hx hb hK hP 1 1 rfl rfl hi dX6_same_79 ?_
                refine W.lcmp hx hb dX6_same_80 ?_
                refine lv_if_ne (tgt := 102) hx hb dX6_same_81 (by decide) (fun c23 => ?_) (fun c23 => ?_)
                · have hm := gk_if c23 hm
                  refine lv_iconst (v := 0) hx hb dX6_same_102 (by decide) ?_
                  rw [kr _ _ (Option.some.inj hm).symm]
                  exact gk_iret C ⟨hP, hD, hS⟩ dX6_same_103
                · have hm := gk_it c23 hm
                  refine lv_goto (tgt := 98) hx hb dX6_same_84 (by decide) ?_
                  refine lv_iconst (v := 1) hx hb dX6_same_98 (by decide) ?_
                  refine lv_goto (tgt := 103) hx hb dX6_same_99 (by decide) ?_
                  rw [kr _ _ (Option.some.inj hm).symm]
                  exact gk_iret C ⟨hP, hD, hS⟩ dX6_same_103
            · have hm := gk_it c18 hm
              refine lv_aload_n hx hb dX6_same_57 rfl (lv_at hl 0 rfl) ?_
              refine lv_iload_n hx hb dX6_same_58 rfl (lv_at hl 1 rfl) ?_
              refine lv_iload_n hx hb dX6_same_59 rfl (lv_at hl 2 rfl) ?_
              obtain ⟨r24, hq, hm⟩ := gk_bd1_some hm
              refine gk_callV (n := 2) (bytes := cX6_twistTo) (maxL := 4) (ret := (some .int)) (Cn := RX6) (T := TX6) (N := 25) [(a2, gk_I G 6 f_kind), (a20, gk_I G 6 f_name)] [(a0, .inr (5, [.int f_n, .ref a1, .ref a2, .ref a3, .ref a4, .int f_keptN, .ref a5, .ref a6, .ref a7, .ref a8, .ref a9, .ref a10, .ref a11, .ref a12, .ref a13, .ref a14, .ref a15, .ref a16, .int f_side, .ref a17, .ref a18, .ref a19, .int f_rows, .ref a20, .ref a21])), (a1, gk_J G 6 f_members), (a2, gk_I G 6 f_kind), (a20, gk_I G 6 f_name)] [] C ⟨hP, hD, hS⟩ (c_X6_twistTo l G a0 a1 a2 a3 a4 a5 a6 a7 a8 a9 a10 a11 a12 a13 a14 a15 a16 a17 a18 a19 a20 a21 f_n f_keptN f_side f_rows f_members x1 x2 hq) gX6_same_X6_twistTo dX6_same_60 hl.1 [0, 1] [2, 3] [2, 3, 0, 1] rfl rfl ⟨rfl, rfl⟩ ⟨Nat.le_of_ble_eq_true rfl, Nat.le_of_ble_eq_true rfl⟩ ⟨rfl, by decide +kernel, by decide +kernel, by decide +kernel⟩ rfl (fun h => by cases h) (Nat.le_of_ble_eq_true rfl) rfl rfl rfl rfl (by decide) rfl rfl (fun H locs h => ?_)
              obtain ⟨hP, hD, hS⟩ := h
              rw [kr _ _ (Option.some.inj hm).symm]
              exact gk_iret C ⟨hP, hD, hS⟩ dX6_same_63
          · have hm := gk_it c17 hm
            refine lv_bipush (v := -11) hx hb dX6_same_49 (by decide) ?_
            rw [kr _ _ (Option.some.inj hm).symm]
            exact gk_iret C ⟨hP, hD, hS⟩ dX6_same_51
      · have hm := gk_it c15 hm
        refine lv_bipush (v := -2) hx hb dX6_same_26 (by decide) ?_
        rw [kr _ _ (Option.some.inj hm).symm]
        exact gk_iret C ⟨hP, hD, hS⟩ dX6_same_28
def m_X6_same (f_n : Int32) (f_members : (Nat → Int64)) (f_kind : (Nat → Int32)) (f_name : (Nat → Int32)) (x1 : Int32) (x2 : Int32) (x3 : Int32) : Option (Int32 × (Nat → Int32)) := m_X6_same_0 f_n f_members f_kind f_name x1 x2 x3
theorem c_X6_same (l : Launch) (G : gk_G) (a0 a1 a2 a3 a4 a5 a6 a7 a8 a9 a10 a11 a12 a13 a14 a15 a16 a17 a18 a19 a20 a21 : Nat) (f_n : Int32) (f_keptN : Int32) (f_side : Int32) (f_rows : Int32) (f_members : (Nat → Int64)) (f_kind : (Nat → Int32)) (f_name : (Nat → Int32)) (x1 : Int32) (x2 : Int32) (x3 : Int32) {rv : Int32} {g_name : (Nat → Int32)} (hm : m_X6_same f_n f_members f_kind f_name x1 x2 x3 = some (rv, g_name)) : gk_M l yX6_same wsX6_same rm_X6_same false G [.ref a0, .int x1, .int x2, .int x3] [(a0, .inr (5, [.int f_n, .ref a1, .ref a2, .ref a3, .ref a4, .int f_keptN, .ref a5, .ref a6, .ref a7, .ref a8, .ref a9, .ref a10, .ref a11, .ref a12, .ref a13, .ref a14, .ref a15, .ref a16, .int f_side, .ref a17, .ref a18, .ref a19, .int f_rows, .ref a20, .ref a21])), (a1, gk_J G 6 f_members), (a2, gk_I G 6 f_kind), (a20, gk_I G 6 f_name)] (some (.int rv)) [(a0, .inr (5, [.int f_n, .ref a1, .ref a2, .ref a3, .ref a4, .int f_keptN, .ref a5, .ref a6, .ref a7, .ref a8, .ref a9, .ref a10, .ref a11, .ref a12, .ref a13, .ref a14, .ref a15, .ref a16, .int f_side, .ref a17, .ref a18, .ref a19, .int f_rows, .ref a20, .ref a21])), (a1, gk_J G 6 f_members), (a2, gk_I G 6 f_kind), (a20, gk_I G 6 g_name)] :=
  gk_of (by decide) rfl (Nat.le_of_ble_eq_true rfl) (fun p e s m below meth c A ls C h hl => w_X6_same_0 C hm (fun v0 v1 ez => by cases ez; rfl) h (show lv_has ls 4 [(0, .ref a0), (1, .int x1), (2, .int x2), (3, .int x3)] from hl))

/-! ===== ExchangeFamiliesModel.isRow(I)Z ===== -/
abbrev rm_X6_isRow : Room := { frames := 3, cells := 0, slots := 0, locals := 153 }
theorem k_X6_isRow_0 : Cond.constantLong RX6 215 (3) ∈ wsX6_isRow := by decide +kernel
def m_X6_isRow_0 (x0 : Int32) : Option (Int32) := gk_bd1 (m_X6_isIn x0.toInt64 (0 : Int64) (3 : Int64)) (fun r1 => gk_bo r1 (some r1))
set_option maxRecDepth 100000 in
set_option maxHeartbeats 4000000 in
theorem w_X6_isRow_0 {p : Program} {l : Launch} {e : Env} {s : State} {m : MethodId} {args : Array Value} {below : List Frame} {meth : Method} {c : Code} {G : gk_G} {A : Nat → Prop} {Q : State → Prop} (C : gk_C p s m args meth c cX6_isRow 1 (some .boolean) yX6_isRow wsX6_isRow false G A) {x0 : Int32} {yy : Int32} (hm : m_X6_isRow_0 x0 = some yy) (kr : ∀ (rv : Int32), yy = rv → Q = MQ below (gk_Q G (some (.int rv)) [] A) args s 0 0 A) {H : Heap} {locs : List Loc} {ls : Array Slot} (h : gk_H G A s [] H locs) (hl : lv_has ls 1 [(0, .int x0)]) : W p l e rm_X6_isRow s m args below meth c H locs 0 0 Q (F0 m 0 ls []) := by
  obtain ⟨hx, hb, hml, hr, hown, hnm, hts, hlk, hK, hSt, hA⟩ := id C
  obtain ⟨hP, hD, hS⟩ := h
  unfold m_X6_isRow_0 at hm
  refine lv_iload_n hx hb dX6_isRow_0 rfl (lv_at hl 0 rfl) ?_
  refine lv_i2l hx hb dX6_isRow_1 rfl ?_
  refine lv_lconst (v := 0) hx hb dX6_isRow_2 (by decide) ?_
  refine lv_ldc2 (own := RX6) (v := 3) hx hb hown (hts _ k_X6_isRow_0) dX6_isRow_3 ?_
  obtain ⟨r1, hq, hm⟩ := gk_bd1_some hm
  refine gk_callS (n := 3) (bytes := cX6_isIn) (maxL := 6) (ret := (some .boolean)) [] [] [] C ⟨hP, hD, hS⟩ (c_X6_isIn l G x0.toInt64 (0 : Int64) (3 : Int64) hq) gX6_isRow_X6_isIn dX6_isRow_6 hl.1 [] [] [] rfl ⟨rfl, rfl⟩ ⟨Nat.le_of_ble_eq_true rfl, Nat.le_of_ble_eq_true rfl⟩ ⟨by decide +kernel, by decide +kernel, by decide +kernel⟩ rfl (fun h => by cases h) (Nat.le_of_ble_eq_true rfl) rfl rfl rfl rfl (by decide) rfl rfl (fun H locs h => ?_)
  obtain ⟨hP, hD, hS⟩ := h
  obtain ⟨hv, hm⟩ := gk_bo_some hm
  rw [kr _ (Option.some.inj hm).symm]
  exact gk_zret C ⟨hP, hD, hS⟩ hv dX6_isRow_9
def m_X6_isRow (x0 : Int32) : Option (Int32) := m_X6_isRow_0 x0
theorem c_X6_isRow (l : Launch) (G : gk_G) (x0 : Int32) {rv : Int32} (hm : m_X6_isRow x0 = some rv) : gk_M l yX6_isRow wsX6_isRow rm_X6_isRow false G [.int x0] [] (some (.int rv)) [] :=
  gk_of (by decide) rfl (Nat.le_of_ble_eq_true rfl) (fun p e s m below meth c A ls C h hl => w_X6_isRow_0 C hm (fun v0 ez => by cases ez; rfl) h (show lv_has ls 1 [(0, .int x0)] from hl))

/-! ===== ExchangeFamiliesModel.lays(III)I ===== -/
abbrev rm_X6_lays : Room := { frames := 1, cells := 0, slots := 0, locals := 64 }
theorem k_X6_lays_0 : ∀ w ∈ u_ws RX6 TX6 25, w ∈ wsX6_lays := by decide +kernel
theorem k_X6_lays_1 : Cond.fieldLink RX6 44 "ExchangeFamiliesModel" "sort" "[I" ∈ wsX6_lays := by decide +kernel
theorem k_X6_lays_2 : Cond.fieldLink RX6 47 "ExchangeFamiliesModel" "many" "[I" ∈ wsX6_lays := by decide +kernel
theorem k_X6_lays_3 : Cond.fieldLink RX6 50 "ExchangeFamiliesModel" "items" "[J" ∈ wsX6_lays := by decide +kernel
def m_X6_lays_B17 (f_sort : (Nat → Int32)) (f_many : (Nat → Int32)) (x1 : Int32) (x4 : Int32) (f_items : (Nat → Int64)) : Option ((Int32 × (Nat → Int64)) ⊕ ((Nat → Int64))) := (if (80 : Int32) ≤ x4 then some (.inr f_items) else gk_ix (((80 : Int32) * x1) + x4) 320 (some (.inl (x4 + 1, vp_updL f_items (((80 : Int32) * x1) + x4).toNatClampNeg (0 : Int64)))))
set_option maxRecDepth 100000 in
set_option maxHeartbeats 4000000 in
theorem w_X6_lays_B17 {p : Program} {l : Launch} {e : Env} {s : State} {m : MethodId} {args : Array Value} {below : List Frame} {meth : Method} {c : Code} {G : gk_G} {A : Nat → Prop} {Q : State → Prop} {a0 a1 a2 a3 a4 a5 a6 a7 a8 a9 a10 a11 a12 a13 a14 a15 a16 a17 a18 a19 a20 a21 : Nat} (C : gk_C p s m args meth c cX6_lays 5 (some .int) yX6_lays wsX6_lays false G A) {f_sort : (Nat → Int32)} {f_many : (Nat → Int32)} {x1 : Int32} {x4 : Int32} {f_items : (Nat → Int64)} {f_n : Int32} {f_keptN : Int32} {f_side : Int32} {f_rows : Int32} {yy : (Int32 × (Nat → Int64)) ⊕ ((Nat → Int64))} (hm : m_X6_lays_B17 f_sort f_many x1 x4 f_items = some yy) (kl : ∀ (x4 : Int32) (f_items : (Nat → Int64)), yy = .inl (x4, f_items) → ∀ (H : Heap) (locs : List Loc) (ls : Array Slot), gk_H G A s [(a0, .inr (5, [.int f_n, .ref a1, .ref a2, .ref a3, .ref a4, .int f_keptN, .ref a5, .ref a6, .ref a7, .ref a8, .ref a9, .ref a10, .ref a11, .ref a12, .ref a13, .ref a14, .ref a15, .ref a16, .int f_side, .ref a17, .ref a18, .ref a19, .int f_rows, .ref a20, .ref a21])), (a9, gk_I G 4 f_sort), (a10, gk_I G 4 f_many), (a11, gk_J G 320 f_items)] H locs → lv_has ls 5 [(0, .ref a0), (1, .int x1), (4, .int x4)] → W p l e rm_X6_lays s m args below meth c H locs 0 0 Q (F0 m 17 ls [])) (kx : ∀ (f_items : (Nat → Int64)), yy = .inr f_items → ∀ (H : Heap) (locs : List Loc) (ls : Array Slot), gk_H G A s [(a0, .inr (5, [.int f_n, .ref a1, .ref a2, .ref a3, .ref a4, .int f_keptN, .ref a5, .ref a6, .ref a7, .ref a8, .ref a9, .ref a10, .ref a11, .ref a12, .ref a13, .ref a14, .ref a15, .ref a16, .int f_side, .ref a17, .ref a18, .ref a19, .int f_rows, .ref a20, .ref a21])), (a9, gk_I G 4 f_sort), (a10, gk_I G 4 f_many), (a11, gk_J G 320 f_items)] H locs → lv_has ls 5 [] → W p l e rm_X6_lays s m args below meth c H locs 0 0 Q (F0 m 43 ls [])) {H : Heap} {locs : List Loc} {ls : Array Slot} (h : gk_H G A s [(a0, .inr (5, [.int f_n, .ref a1, .ref a2, .ref a3, .ref a4, .int f_keptN, .ref a5, .ref a6, .ref a7, .ref a8, .ref a9, .ref a10, .ref a11, .ref a12, .ref a13, .ref a14, .ref a15, .ref a16, .int f_side, .ref a17, .ref a18, .ref a19, .int f_rows, .ref a20, .ref a21])), (a9, gk_I G 4 f_sort), (a10, gk_I G 4 f_many), (a11, gk_J G 320 f_items)] H locs) (hl : lv_has ls 5 [(0, .ref a0), (1, .int x1), (4, .int x4)]) : W p l e rm_X6_lays s m args below meth c H locs 0 0 Q (F0 m 17 ls []) := by
  obtain ⟨hx, hb, hml, hr, hown, hnm, hts, hlk, hK, hSt, hA⟩ := id C
  obtain ⟨hP, hD, hS⟩ := h
  unfold m_X6_lays_B17 at hm
  refine lv_iload hx hb dX6_lays_17 (lv_at hl 2 rfl) ?_
  refine lv_bipush (v := 80) hx hb dX6_lays_19 (by decide) ?_
  refine lv_icmp_ge (tgt := 43) hx hb dX6_lays_21 (by decide) (fun c2 => ?_) (fun c2 => ?_)
  · have hm := gk_it c2 hm
    exact kx _ (Option.some.inj hm).symm _ _ _ ⟨hP, hD, hS⟩ (lv_sub hl [] rfl)
  · have hm := gk_if c2 hm
    refine lv_aload_n hx hb dX6_lays_24 rfl (lv_at hl 0 rfl) ?_
    refine va_get (D := G.1) (cl := vwCl) (own := RX6) (ref := "ExchangeFamiliesModel") (ci := 5) (v := .ref a11) (C := RX6) (T := TX6) (N := 25) hx hb hts k_X6_lays_0 hown hK hP 0 rfl rfl 12 (by decide) (hts _ k_X6_lays_3) (fun _ h9 => h9) rfl dX6_lays_25 ?_
    refine lv_bipush (v := 80) hx hb dX6_lays_28 (by decide) ?_
    refine lv_iload_n hx hb dX6_lays_30 rfl (lv_at hl 1 rfl) ?_
    refine lv_imul hx hb dX6_lays_31 ?_
    refine lv_iload hx hb dX6_lays_32 (lv_at hl 2 rfl) ?_
    refine lv_iadd hx hb dX6_lays_34 ?_
    refine lv_lconst (v := 0) hx hb dX6_lays_35 (by decide) ?_
    obtain ⟨hi, hm⟩ := gk_ix_some hm
    refine va_last hx hb hK hP hD hS 3 1 rfl rfl hi dX6_lays_36 (fun H locs hP hD hS => ?_)
    have hP : va_P G.1 vwCl [(a0, .inr (5, [.int f_n, .ref a1, .ref a2, .ref a3, .ref a4, .int f_keptN, .ref a5, .ref a6, .ref a7, .ref a8, .ref a9, .ref a10, .ref a11, .ref a12, .ref a13, .ref a14, .ref a15, .ref a16, .int f_side, .ref a17, .ref a18, .ref a19, .int f_rows, .ref a20, .ref a21])), (a9, gk_I G 4 f_sort), (a10, gk_I G 4 f_many), (a11, gk_J G 320 (vp_updL f_items (((80 : Int32) * x1) + x4).toNatClampNeg (0 : Int64)))] H := hP
    have hD : va_D A [(a0, .inr (5, [.int f_n, .ref a1, .ref a2, .ref a3, .ref a4, .int f_keptN, .ref a5, .ref a6, .ref a7, .ref a8, .ref a9, .ref a10, .ref a11, .ref a12, .ref a13, .ref a14, .ref a15, .ref a16, .int f_side, .ref a17, .ref a18, .ref a19, .int f_rows, .ref a20, .ref a21])), (a9, gk_I G 4 f_sort), (a10, gk_I G 4 f_many), (a11, gk_J G 320 (vp_updL f_items (((80 : Int32) * x1) + x4).toNatClampNeg (0 : Int64)))] := hD
    refine lv_iinc (v := x4 + 1) (lv' := [(4, .int (x4 + 1)), (0, .ref a0), (1, .int x1)]) hx hb dX6_lays_37 hl (k := 2) rfl rfl (by decide) rfl (fun ls hl => ?_)
    refine lv_goto (tgt := 17) hx hb dX6_lays_40 (by decide) ?_
    exact kl _ _ (Option.some.inj hm).symm _ _ _ ⟨hP, hD, hS⟩ (lv_sub hl [1, 2, 0] rfl)
set_option maxRecDepth 100000 in
set_option maxHeartbeats 4000000 in
theorem w_X6_lays_L17 {p : Program} {l : Launch} {e : Env} {s : State} {m : MethodId} {args : Array Value} {below : List Frame} {meth : Method} {c : Code} {G : gk_G} {A : Nat → Prop} {Q : State → Prop} {a0 a1 a2 a3 a4 a5 a6 a7 a8 a9 a10 a11 a12 a13 a14 a15 a16 a17 a18 a19 a20 a21 : Nat} (C : gk_C p s m args meth c cX6_lays 5 (some .int) yX6_lays wsX6_lays false G A) {f_sort : (Nat → Int32)} {f_many : (Nat → Int32)} {x1 : Int32} {x4 : Int32} {f_items : (Nat → Int64)} {f_n : Int32} {f_keptN : Int32} {f_side : Int32} {f_rows : Int32} {k : Nat} {e_f_items : (Nat → Int64)} (hm : gk_lp (fun z => m_X6_lays_B17 f_sort f_many x1 z.1 z.2) k (x4, f_items) = some e_f_items) (kx : ∀ (H : Heap) (locs : List Loc) (ls : Array Slot), gk_H G A s [(a0, .inr (5, [.int f_n, .ref a1, .ref a2, .ref a3, .ref a4, .int f_keptN, .ref a5, .ref a6, .ref a7, .ref a8, .ref a9, .ref a10, .ref a11, .ref a12, .ref a13, .ref a14, .ref a15, .ref a16, .int f_side, .ref a17, .ref a18, .ref a19, .int f_rows, .ref a20, .ref a21])), (a9, gk_I G 4 f_sort), (a10, gk_I G 4 f_many), (a11, gk_J G 320 e_f_items)] H locs → lv_has ls 5 [] → W p l e rm_X6_lays s m args below meth c H locs 0 0 Q (F0 m 43 ls [])) {H : Heap} {locs : List Loc} {ls : Array Slot} (h : gk_H G A s [(a0, .inr (5, [.int f_n, .ref a1, .ref a2, .ref a3, .ref a4, .int f_keptN, .ref a5, .ref a6, .ref a7, .ref a8, .ref a9, .ref a10, .ref a11, .ref a12, .ref a13, .ref a14, .ref a15, .ref a16, .int f_side, .ref a17, .ref a18, .ref a19, .int f_rows, .ref a20, .ref a21])), (a9, gk_I G 4 f_sort), (a10, gk_I G 4 f_many), (a11, gk_J G 320 f_items)] H locs) (hl : lv_has ls 5 [(0, .ref a0), (1, .int x1), (4, .int x4)]) : W p l e rm_X6_lays s m args below meth c H locs 0 0 Q (F0 m 17 ls []) :=
  gk_lp_some (P := fun z => ∀ (H : Heap) (locs : List Loc) (ls : Array Slot), gk_H G A s [(a0, .inr (5, [.int f_n, .ref a1, .ref a2, .ref a3, .ref a4, .int f_keptN, .ref a5, .ref a6, .ref a7, .ref a8, .ref a9, .ref a10, .ref a11, .ref a12, .ref a13, .ref a14, .ref a15, .ref a16, .int f_side, .ref a17, .ref a18, .ref a19, .int f_rows, .ref a20, .ref a21])), (a9, gk_I G 4 f_sort), (a10, gk_I G 4 f_many), (a11, gk_J G 320 z.2)] H locs → lv_has ls 5 [(0, .ref a0), (1, .int x1), (4, .int z.1)] → W p l e rm_X6_lays s m args below meth c H locs 0 0 Q (F0 m 17 ls [])) (E := fun r => (∀ (f_items : (Nat → Int64)), r = f_items → ∀ (H : Heap) (locs : List Loc) (ls : Array Slot), gk_H G A s [(a0, .inr (5, [.int f_n, .ref a1, .ref a2, .ref a3, .ref a4, .int f_keptN, .ref a5, .ref a6, .ref a7, .ref a8, .ref a9, .ref a10, .ref a11, .ref a12, .ref a13, .ref a14, .ref a15, .ref a16, .int f_side, .ref a17, .ref a18, .ref a19, .int f_rows, .ref a20, .ref a21])), (a9, gk_I G 4 f_sort), (a10, gk_I G 4 f_many), (a11, gk_J G 320 f_items)] H locs → lv_has ls 5 [] → W p l e rm_X6_lays s m args below meth c H locs 0 0 Q (F0 m 43 ls []))) (fun z x hf kl ke H locs ls h hl => w_X6_lays_B17 C hf (fun v0 v1 ez => kl (v0, v1) ez) (fun v0 ez => ke _ ez v0 rfl) h hl) k (x4, f_items) _ hm (fun v0 ez => (by cases ez; exact kx)) _ _ _ h hl
def m_X6_lays_0 (f_sort : (Nat → Int32)) (f_many : (Nat → Int32)) (f_items : (Nat → Int64)) (x1 : Int32) (x2 : Int32) (x3 : Int32) : Option (Int32 × (Nat → Int32) × (Nat → Int32) × (Nat → Int64)) := gk_ix x1 4 (gk_ix x1 4 (gk_bd1 (gk_lp (fun z => m_X6_lays_B17 (upd f_sort x1.toNatClampNeg x2) (upd f_many x1.toNatClampNeg x3) x1 z.1 z.2) gk_fu ((0 : Int32), f_items)) (fun e3 => some ((1 : Int32), upd f_sort x1.toNatClampNeg x2, upd f_many x1.toNatClampNeg x3, e3))))
set_option maxRecDepth 100000 in
set_option maxHeartbeats 4000000 in
theorem w_X6_lays_0 {p : Program} {l : Launch} {e : Env} {s : State} {m : MethodId} {args : Array Value} {below : List Frame} {meth : Method} {c : Code} {G : gk_G} {A : Nat → Prop} {Q : State → Prop} {a0 a1 a2 a3 a4 a5 a6 a7 a8 a9 a10 a11 a12 a13 a14 a15 a16 a17 a18 a19 a20 a21 : Nat} (C : gk_C p s m args meth c cX6_lays 5 (some .int) yX6_lays wsX6_lays false G A) {f_sort : (Nat → Int32)} {f_many : (Nat → Int32)} {f_items : (Nat → Int64)} {x1 : Int32} {x2 : Int32} {x3 : Int32} {f_n : Int32} {f_keptN : Int32} {f_side : Int32} {f_rows : Int32} {yy : Int32 × (Nat → Int32) × (Nat → Int32) × (Nat → Int64)} (hm : m_X6_lays_0 f_sort f_many f_items x1 x2 x3 = some yy) (kr : ∀ (rv : Int32) (g_sort : (Nat → Int32)) (g_many : (Nat → Int32)) (g_items : (Nat → Int64)), yy = (rv, g_sort, g_many, g_items) → Q = MQ below (gk_Q G (some (.int rv)) [(a0, .inr (5, [.int f_n, .ref a1, .ref a2, .ref a3, .ref a4, .int f_keptN, .ref a5, .ref a6, .ref a7, .ref a8, .ref a9, .ref a10, .ref a11, .ref a12, .ref a13, .ref a14, .ref a15, .ref a16, .int f_side, .ref a17, .ref a18, .ref a19, .int f_rows, .ref a20, .ref a21])), (a9, gk_I G 4 g_sort), (a10, gk_I G 4 g_many), (a11, gk_J G 320 g_items)] A) args s 0 0 A) {H : Heap} {locs : List Loc} {ls : Array Slot} (h : gk_H G A s [(a0, .inr (5, [.int f_n, .ref a1, .ref a2, .ref a3, .ref a4, .int f_keptN, .ref a5, .ref a6, .ref a7, .ref a8, .ref a9, .ref a10, .ref a11, .ref a12, .ref a13, .ref a14, .ref a15, .ref a16, .int f_side, .ref a17, .ref a18, .ref a19, .int f_rows, .ref a20, .ref a21])), (a9, gk_I G 4 f_sort), (a10, gk_I G 4 f_many), (a11, gk_J G 320 f_items)] H locs) (hl : lv_has ls 5 [(0, .ref a0), (1, .int x1), (2, .int x2), (3, .int x3)]) : W p l e rm_X6_lays s m args below meth c H locs 0 0 Q (F0 m 0 ls []) := by
  obtain ⟨hx, hb, hml, hr, hown, hnm, hts, hlk, hK, hSt, hA⟩ := id C
  obtain ⟨hP, hD, hS⟩ := h
  unfold m_X6_lays_0 at hm
  refine lv_aload_n hx hb dX6_lays_0 rfl (lv_at hl 0 rfl) ?_
  refine va_get (D := G.1) (cl := vwCl) (own := RX6) (ref := "ExchangeFamiliesModel") (ci := 5) (v := .ref a9) (C := RX6) (T := TX6) (N := 25) hx hb hts k_X6_lays_0 hown hK hP 0 rfl rfl 10 (by decide) (hts _ k_X6_lays_1) (fun _ h9 => h9) rfl dX6_lays_1 ?_
  refine lv_iload_n hx hb dX6_lays_4 rfl (lv_at hl 1 rfl) ?_
  refine lv_iload_n hx hb dX6_lays_5 rfl (lv_at hl 2 rfl) ?_
  obtain ⟨hi, hm⟩ := gk_ix_some hm
  refine va_iast hx hb hK hP hD hS 1 0 rfl rfl hi dX6_lays_6 (fun H locs hP hD hS => ?_)
  have hP : va_P G.1 vwCl [(a0, .inr (5, [.int f_n, .ref a1, .ref a2, .ref a3, .ref a4, .int f_keptN, .ref a5, .ref a6, .ref a7, .ref a8, .ref a9, .ref a10, .ref a11, .ref a12, .ref a13, .ref a14, .ref a15, .ref a16, .int f_side, .ref a17, .ref a18, .ref a19, .int f_rows, .ref a20, .ref a21])), (a9, gk_I G 4 (upd f_sort x1.toNatClampNeg x2)), (a10, gk_I G 4 f_many), (a11, gk_J G 320 f_items)] H := hP
  have hD : va_D A [(a0, .inr (5, [.int f_n, .ref a1, .ref a2, .ref a3, .ref a4, .int f_keptN, .ref a5, .ref a6, .ref a7, .ref a8, .ref a9, .ref a10, .ref a11, .ref a12, .ref a13, .ref a14, .ref a15, .ref a16, .int f_side, .ref a17, .ref a18, .ref a19, .int f_rows, .ref a20, .ref a21])), (a9, gk_I G 4 (upd f_sort x1.toNatClampNeg x2)), (a10, gk_I G 4 f_many), (a11, gk_J G 320 f_items)] := hD
  refine lv_aload_n hx hb dX6_lays_7 rfl (lv_at hl 0 rfl) ?_
  refine va_get (D := G.1) (cl := vwCl) (own := RX6) (ref := "ExchangeFamiliesModel") (ci := 5) (v := .ref a10) (C := RX6) (T := TX6) (N := 25) hx hb hts k_X6_lays_0 hown hK hP 0 rfl rfl 11 (by decide) (hts _ k_X6_lays_2) (fun _ h9 => h9) rfl dX6_lays_8 ?_
  refine lv_iload_n hx hb dX6_lays_11 rfl (lv_at hl 1 rfl) ?_
  refine lv_iload_n hx hb dX6_lays_12 rfl (lv_at hl 3 rfl) ?_
  obtain ⟨hi, hm⟩ := gk_ix_some hm
  refine va_iast hx hb hK hP hD hS 2 0 rfl rfl hi dX6_lays_13 (fun H locs hP hD hS => ?_)
  have hP : va_P G.1 vwCl [(a0, .inr (5, [.int f_n, .ref a1, .ref a2, .ref a3, .ref a4, .int f_keptN, .ref a5, .ref a6, .ref a7, .ref a8, .ref a9, .ref a10, .ref a11, .ref a12, .ref a13, .ref a14, .ref a15, .ref a16, .int f_side, .ref a17, .ref a18, .ref a19, .int f_rows, .ref a20, .ref a21])), (a9, gk_I G 4 (upd f_sort x1.toNatClampNeg x2)), (a10, gk_I G 4 (upd f_many x1.toNatClampNeg x3)), (a11, gk_J G 320 f_items)] H := hP
  have hD : va_D A [(a0, .inr (5, [.int f_n, .ref a1, .ref a2, .ref a3, .ref a4, .int f_keptN, .ref a5, .ref a6, .ref a7, .ref a8, .ref a9, .ref a10, .ref a11, .ref a12, .ref a13, .ref a14, .ref a15, .ref a16, .int f_side, .ref a17, .ref a18, .ref a19, .int f_rows, .ref a20, .ref a21])), (a9, gk_I G 4 (upd f_sort x1.toNatClampNeg x2)), (a10, gk_I G 4 (upd f_many x1.toNatClampNeg x3)), (a11, gk_J G 320 f_items)] := hD
  refine lv_iconst (v := 0) hx hb dX6_lays_14 (by decide) ?_
  refine lv_istore (lv' := [(4, .int (0 : Int32)), (0, .ref a0), (1, .int x1), (2, .int x2), (3, .int x3)]) hx hb dX6_lays_15 hl (by decide) rfl (fun ls hl => ?_)
  obtain ⟨e3, hq, hm⟩ := gk_bd1_some hm
  refine w_X6_lays_L17 C hq (fun H locs ls h hl => ?_) ⟨hP, hD, hS⟩ (lv_sub hl [1, 2, 0] rfl)
  obtain ⟨hP, hD, hS⟩ := h
  refine lv_iconst (v := 1) hx hb dX6_lays_43 (by decide) ?_
  rw [kr _ _ _ _ (Option.some.inj hm).symm]
  exact gk_iret C ⟨hP, hD, hS⟩ dX6_lays_44
def m_X6_lays (f_sort : (Nat → Int32)) (f_many : (Nat → Int32)) (f_items : (Nat → Int64)) (x1 : Int32) (x2 : Int32) (x3 : Int32) : Option (Int32 × (Nat → Int32) × (Nat → Int32) × (Nat → Int64)) := m_X6_lays_0 f_sort f_many f_items x1 x2 x3
theorem c_X6_lays (l : Launch) (G : gk_G) (a0 a1 a2 a3 a4 a5 a6 a7 a8 a9 a10 a11 a12 a13 a14 a15 a16 a17 a18 a19 a20 a21 : Nat) (f_n : Int32) (f_keptN : Int32) (f_side : Int32) (f_rows : Int32) (f_sort : (Nat → Int32)) (f_many : (Nat → Int32)) (f_items : (Nat → Int64)) (x1 : Int32) (x2 : Int32) (x3 : Int32) {rv : Int32} {g_sort : (Nat → Int32)} {g_many : (Nat → Int32)} {g_items : (Nat → Int64)} (hm : m_X6_lays f_sort f_many f_items x1 x2 x3 = some (rv, g_sort, g_many, g_items)) : gk_M l yX6_lays wsX6_lays rm_X6_lays false G [.ref a0, .int x1, .int x2, .int x3] [(a0, .inr (5, [.int f_n, .ref a1, .ref a2, .ref a3, .ref a4, .int f_keptN, .ref a5, .ref a6, .ref a7, .ref a8, .ref a9, .ref a10, .ref a11, .ref a12, .ref a13, .ref a14, .ref a15, .ref a16, .int f_side, .ref a17, .ref a18, .ref a19, .int f_rows, .ref a20, .ref a21])), (a9, gk_I G 4 f_sort), (a10, gk_I G 4 f_many), (a11, gk_J G 320 f_items)] (some (.int rv)) [(a0, .inr (5, [.int f_n, .ref a1, .ref a2, .ref a3, .ref a4, .int f_keptN, .ref a5, .ref a6, .ref a7, .ref a8, .ref a9, .ref a10, .ref a11, .ref a12, .ref a13, .ref a14, .ref a15, .ref a16, .int f_side, .ref a17, .ref a18, .ref a19, .int f_rows, .ref a20, .ref a21])), (a9, gk_I G 4 g_sort), (a10, gk_I G 4 g_many), (a11, gk_J G 320 g_items)] :=
  gk_of (by decide) rfl (Nat.le_of_ble_eq_true rfl) (fun p e s m below meth c A ls C h hl => w_X6_lays_0 C hm (fun v0 v1 v2 v3 ez => by cases ez; rfl) h (show lv_has ls 5 [(0, .ref a0), (1, .int x1), (2, .int x2), (3, .int x3)] from hl))

/-! ===== ExchangeFamiliesModel.row(III)I ===== -/
abbrev rm_X6_row : Room := { frames := 5, cells := 0, slots := 0, locals := 237 }
theorem k_X6_row_0 : Cond.constantLong RX6 237 (-1) ∈ wsX6_row := by decide +kernel
theorem k_X6_row_1 : Cond.constantLong RX6 215 (3) ∈ wsX6_row := by decide +kernel
def m_X6_row_J35 (f_sort : (Nat → Int32)) (f_many : (Nat → Int32)) (f_items : (Nat → Int64)) (x1 : Int32) (x2 : Int32) (x3 : Int32) : Option (Int32 × (Nat → Int32) × (Nat → Int32) × (Nat → Int64)) := (if x2 = (-1 : Int32) then gk_bd4 (m_X6_lays f_sort f_many f_items x1 (-1 : Int32) (0 : Int32)) (fun r18 r19 r20 r21 => some (r18, r19, r20, r21)) else (if (0 : Int32) ≤ x3 then gk_bd4 (m_X6_lays f_sort f_many f_items x1 x2 x3) (fun r14 r15 r16 r17 => some (r14, r15, r16, r17)) else some ((-14 : Int32), f_sort, f_many, f_items)))
set_option maxRecDepth 100000 in
set_option maxHeartbeats 4000000 in
theorem w_X6_row_J35 {p : Program} {l : Launch} {e : Env} {s : State} {m : MethodId} {args : Array Value} {below : List Frame} {meth : Method} {c : Code} {G : gk_G} {A : Nat → Prop} {Q : State → Prop} {a0 a1 a2 a3 a4 a5 a6 a7 a8 a9 a10 a11 a12 a13 a14 a15 a16 a17 a18 a19 a20 a21 : Nat} (C : gk_C p s m args meth c cX6_row 4 (some .int) yX6_row wsX6_row false G A) {f_sort : (Nat → Int32)} {f_many : (Nat → Int32)} {f_items : (Nat → Int64)} {x1 : Int32} {x2 : Int32} {x3 : Int32} {f_n : Int32} {f_keptN : Int32} {f_side : Int32} {f_rows : Int32} {yy : Int32 × (Nat → Int32) × (Nat → Int32) × (Nat → Int64)} (hm : m_X6_row_J35 f_sort f_many f_items x1 x2 x3 = some yy) (kr : ∀ (rv : Int32) (g_sort : (Nat → Int32)) (g_many : (Nat → Int32)) (g_items : (Nat → Int64)), yy = (rv, g_sort, g_many, g_items) → Q = MQ below (gk_Q G (some (.int rv)) [(a0, .inr (5, [.int f_n, .ref a1, .ref a2, .ref a3, .ref a4, .int f_keptN, .ref a5, .ref a6, .ref a7, .ref a8, .ref a9, .ref a10, .ref a11, .ref a12, .ref a13, .ref a14, .ref a15, .ref a16, .int f_side, .ref a17, .ref a18, .ref a19, .int f_rows, .ref a20, .ref a21])), (a9, gk_I G 4 g_sort), (a10, gk_I G 4 g_many), (a11, gk_J G 320 g_items)] A) args s 0 0 A) {H : Heap} {locs : List Loc} {ls : Array Slot} (h : gk_H G A s [(a0, .inr (5, [.int f_n, .ref a1, .ref a2, .ref a3, .ref a4, .int f_keptN, .ref a5, .ref a6, .ref a7, .ref a8, .ref a9, .ref a10, .ref a11, .ref a12, .ref a13, .ref a14, .ref a15, .ref a16, .int f_side, .ref a17, .ref a18, .ref a19, .int f_rows, .ref a20, .ref a21])), (a9, gk_I G 4 f_sort), (a10, gk_I G 4 f_many), (a11, gk_J G 320 f_items)] H locs) (hl : lv_has ls 4 [(0, .ref a0), (1, .int x1), (2, .int x2), (3, .int x3)]) : W p l e rm_X6_row s m args below meth c H locs 0 0 Q (F0 m 35 ls []) := by
  obtain ⟨hx, hb, hml, hr, hown, hnm, hts, hlk, hK, hSt, hA⟩ := id C
  obtain ⟨hP, hD, hS⟩ := h
  unfold m_X6_row_J35 at hm
  refine lv_iload_n hx hb dX6_row_35 rfl (lv_at hl 2 rfl) ?_
  refine lv_iconst (v := -1) hx hb dX6_row_36 (by decide) ?_
  refine lv_icmp_ne (tgt := 50) hx hb dX6_row_37 (by decide) (fun c12 => ?_) (fun c12 => ?_)
  · have hm := gk_if c12 hm
    refine lv_iload_n hx hb dX6_row_50 rfl (lv_at hl 3 rfl) ?_
    refine lv_if_ge (tgt := 59) hx hb dX6_row_51 (by decide) (fun c13 => ?_) (fun c13 => ?_)
    · have hm := gk_it c13 hm
      refine lv_aload_n hx hb dX6_row_59 rfl (lv_at hl 0 rfl) ?_
      refine lv_iload_n hx hb dX6_row_60 rfl (lv_at hl 1 rfl) ?_
      refine lv_iload_n hx hb dX6_row_61 rfl (lv_at hl 2 rfl) ?_
      refine lv_iload_n hx hb dX6_row_62 rfl (lv_at hl 3 rfl) ?_
      obtain ⟨r14, r15, r16, r17, hq, hm⟩ := gk_bd4_some hm
      refine gk_callV (n := 3) (bytes := cX6_lays) (maxL := 5) (ret := (some .int)) (Cn := RX6) (T := TX6) (N := 25) [] [(a0, .inr (5, [.int f_n, .ref a1, .ref a2, .ref a3, .ref a4, .int f_keptN, .ref a5, .ref a6, .ref a7, .ref a8, .ref a9, .ref a10, .ref a11, .ref a12, .ref a13, .ref a14, .ref a15, .ref a16, .int f_side, .ref a17, .ref a18, .ref a19, .int f_rows, .ref a20, .ref a21])), (a9, gk_I G 4 r15), (a10, gk_I G 4 r16), (a11, gk_J G 320 r17)] [] C ⟨hP, hD, hS⟩ (c_X6_lays l G a0 a1 a2 a3 a4 a5 a6 a7 a8 a9 a10 a11 a12 a13 a14 a15 a16 a17 a18 a19 a20 a21 f_n f_keptN f_side f_rows f_sort f_many f_items x1 x2 x3 hq) gX6_row_X6_lays dX6_row_63 hl.1 [0, 1, 2, 3] [] [0, 1, 2, 3] rfl rfl ⟨rfl, rfl⟩ ⟨Nat.le_of_ble_eq_true rfl, Nat.le_of_ble_eq_true rfl⟩ ⟨rfl, by decide +kernel, by decide +kernel, by decide +kernel⟩ rfl (fun h => by cases h) (Nat.le_of_ble_eq_true rfl) rfl rfl rfl rfl (by decide) rfl rfl (fun H locs h => ?_)
      obtain ⟨hP, hD, hS⟩ := h
      rw [kr _ _ _ _ (Option.some.inj hm).symm]
      exact gk_iret C ⟨hP, hD, hS⟩ dX6_row_66
    · have hm := gk_if c13 hm
      refine lv_bipush (v := -14) hx hb dX6_row_54 (by decide) ?_
      refine lv_goto (tgt := 66) hx hb dX6_row_56 (by decide) ?_
      rw [kr _ _ _ _ (Option.some.inj hm).symm]
      exact gk_iret C ⟨hP, hD, hS⟩ dX6_row_66
  · have hm := gk_it c12 hm
    refine lv_aload_n hx hb dX6_row_40 rfl (lv_at hl 0 rfl) ?_
    refine lv_iload_n hx hb dX6_row_41 rfl (lv_at hl 1 rfl) ?_
    refine lv_iconst (v := -1) hx hb dX6_row_42 (by decide) ?_
    refine lv_iconst (v := 0) hx hb dX6_row_43 (by decide) ?_
    obtain ⟨r18, r19, r20, r21, hq, hm⟩ := gk_bd4_some hm
    refine gk_callV (n := 3) (bytes := cX6_lays) (maxL := 5) (ret := (some .int)) (Cn := RX6) (T := TX6) (N := 25) [] [(a0, .inr (5, [.int f_n, .ref a1, .ref a2, .ref a3, .ref a4, .int f_keptN, .ref a5, .ref a6, .ref a7, .ref a8, .ref a9, .ref a10, .ref a11, .ref a12, .ref a13, .ref a14, .ref a15, .ref a16, .int f_side, .ref a17, .ref a18, .ref a19, .int f_rows, .ref a20, .ref a21])), (a9, gk_I G 4 r19), (a10, gk_I G 4 r20), (a11, gk_J G 320 r21)] [] C ⟨hP, hD, hS⟩ (c_X6_lays l G a0 a1 a2 a3 a4 a5 a6 a7 a8 a9 a10 a11 a12 a13 a14 a15 a16 a17 a18 a19 a20 a21 f_n f_keptN f_side f_rows f_sort f_many f_items x1 (-1 : Int32) (0 : Int32) hq) gX6_row_X6_lays dX6_row_44 hl.1 [0, 1, 2, 3] [] [0, 1, 2, 3] rfl rfl ⟨rfl, rfl⟩ ⟨Nat.le_of_ble_eq_true rfl, Nat.le_of_ble_eq_true rfl⟩ ⟨rfl, by decide +kernel, by decide +kernel, by decide +kernel⟩ rfl (fun h => by cases h) (Nat.le_of_ble_eq_true rfl) rfl rfl rfl rfl (by decide) rfl rfl (fun H locs h => ?_)
    obtain ⟨hP, hD, hS⟩ := h
    refine lv_goto (tgt := 66) hx hb dX6_row_47 (by decide) ?_
    rw [kr _ _ _ _ (Option.some.inj hm).symm]
    exact gk_iret C ⟨hP, hD, hS⟩ dX6_row_66
def m_X6_row_0 (f_sort : (Nat → Int32)) (f_many : (Nat → Int32)) (f_items : (Nat → Int64)) (x1 : Int32) (x2 : Int32) (x3 : Int32) : Option (Int32 × (Nat → Int32) × (Nat → Int32) × (Nat → Int64)) := gk_bd1 (m_X6_isRow x1) (fun r7 => (if r7 = (0 : Int32) then some ((-2 : Int32), f_sort, f_many, f_items) else gk_bd1 (m_X6_isIn x2.toInt64 (-1 : Int64) (3 : Int64)) (fun r9 => (if r9 = (0 : Int32) then some ((-2 : Int32), f_sort, f_many, f_items) else (if x2 = (-1 : Int32) then m_X6_row_J35 f_sort f_many f_items x1 x2 x3 else (if x3 ≤ (80 : Int32) then m_X6_row_J35 f_sort f_many f_items x1 x2 x3 else some ((-2 : Int32), f_sort, f_many, f_items)))))))
set_option maxRecDepth 100000 in
set_option maxHeartbeats 4000000 in
theorem w_X6_row_0 {p : Program} {l : Launch} {e : Env} {s : State} {m : MethodId} {args : Array Value} {below : List Frame} {meth : Method} {c : Code} {G : gk_G} {A : Nat → Prop} {Q : State → Prop} {a0 a1 a2 a3 a4 a5 a6 a7 a8 a9 a10 a11 a12 a13 a14 a15 a16 a17 a18 a19 a20 a21 : Nat} (C : gk_C p s m args meth c cX6_row 4 (some .int) yX6_row wsX6_row false G A) {f_sort : (Nat → Int32)} {f_many : (Nat → Int32)} {f_items : (Nat → Int64)} {x1 : Int32} {x2 : Int32} {x3 : Int32} {f_n : Int32} {f_keptN : Int32} {f_side : Int32} {f_rows : Int32} {yy : Int32 × (Nat → Int32) × (Nat → Int32) × (Nat → Int64)} (hm : m_X6_row_0 f_sort f_many f_items x1 x2 x3 = some yy) (kr : ∀ (rv : Int32) (g_sort : (Nat → Int32)) (g_many : (Nat → Int32)) (g_items : (Nat → Int64)), yy = (rv, g_sort, g_many, g_items) → Q = MQ below (gk_Q G (some (.int rv)) [(a0, .inr (5, [.int f_n, .ref a1, .ref a2, .ref a3, .ref a4, .int f_keptN, .ref a5, .ref a6, .ref a7, .ref a8, .ref a9, .ref a10, .ref a11, .ref a12, .ref a13, .ref a14, .ref a15, .ref a16, .int f_side, .ref a17, .ref a18, .ref a19, .int f_rows, .ref a20, .ref a21])), (a9, gk_I G 4 g_sort), (a10, gk_I G 4 g_many), (a11, gk_J G 320 g_items)] A) args s 0 0 A) {H : Heap} {locs : List Loc} {ls : Array Slot} (h : gk_H G A s [(a0, .inr (5, [.int f_n, .ref a1, .ref a2, .ref a3, .ref a4, .int f_keptN, .ref a5, .ref a6, .ref a7, .ref a8, .ref a9, .ref a10, .ref a11, .ref a12, .ref a13, .ref a14, .ref a15, .ref a16, .int f_side, .ref a17, .ref a18, .ref a19, .int f_rows, .ref a20, .ref a21])), (a9, gk_I G 4 f_sort), (a10, gk_I G 4 f_many), (a11, gk_J G 320 f_items)] H locs) (hl : lv_has ls 4 [(0, .ref a0), (1, .int x1), (2, .int x2), (3, .int x3)]) : W p l e rm_X6_row s m args below meth c H locs 0 0 Q (F0 m 0 ls []) := by
  obtain ⟨hx, hb, hml, hr, hown, hnm, hts, hlk, hK, hSt, hA⟩ := id C
  obtain ⟨hP, hD, hS⟩ := h
  unfold m_X6_row_0 at hm
  refine lv_iload_n hx hb dX6_row_0 rfl (lv_at hl 1 rfl) ?_
  obtain ⟨r7, hq, hm⟩ := gk_bd1_some hm
  refine gk_callS (n := 1) (bytes := cX6_isRow) (maxL := 1) (ret := (some .boolean)) [(a0, .inr (5, [.int f_n, .ref a1, .ref a2, .ref a3, .ref a4, .int f_keptN, .ref a5, .ref a6, .ref a7, .ref a8, .ref a9, .ref a10, .ref a11, .ref a12, .ref a13, .ref a14, .ref a15, .ref a16, .int f_side, .ref a17, .ref a18, .ref a19, .int f_rows, .ref a20, .ref a21])), (a9, gk_I G 4 f_sort), (a10, gk_I G 4 f_many), (a11, gk_J G 320 f_items)] [(a0, .inr (5, [.int f_n, .ref a1, .ref a2, .ref a3, .ref a4, .int f_keptN, .ref a5, .ref a6, .ref a7, .ref a8, .ref a9, .ref a10, .ref a11, .ref a12, .ref a13, .ref a14, .ref a15, .ref a16, .int f_side, .ref a17, .ref a18, .ref a19, .int f_rows, .ref a20, .ref a21])), (a9, gk_I G 4 f_sort), (a10, gk_I G 4 f_many), (a11, gk_J G 320 f_items)] [] C ⟨hP, hD, hS⟩ (c_X6_isRow l G x1 hq) gX6_row_X6_isRow dX6_row_1 hl.1 [] [0, 1, 2, 3] [0, 1, 2, 3] rfl ⟨rfl, rfl⟩ ⟨Nat.le_of_ble_eq_true rfl, Nat.le_of_ble_eq_true rfl⟩ ⟨by decide +kernel, by decide +kernel, by decide +kernel⟩ rfl (fun h => by cases h) (Nat.le_of_ble_eq_true rfl) rfl rfl rfl rfl (by decide) rfl rfl (fun H locs h => ?_)
  obtain ⟨hP, hD, hS⟩ := h
  refine lv_if_eq (tgt := 32) hx hb dX6_row_4 (by decide) (fun c8 => ?_) (fun c8 => ?_)
  · have hm := gk_it c8 hm
    refine lv_bipush (v := -2) hx hb dX6_row_32 (by decide) ?_
    rw [kr _ _ _ _ (Option.some.inj hm).symm]
    exact gk_iret C ⟨hP, hD, hS⟩ dX6_row_34
  · have hm := gk_if c8 hm
    refine lv_iload_n hx hb dX6_row_7 rfl (lv_at hl 2 rfl) ?_
    refine lv_i2l hx hb dX6_row_8 rfl ?_
    refine lv_ldc2 (own := RX6) (v := -1) hx hb hown (hts _ k_X6_row_0) dX6_row_9 ?_
    refine lv_ldc2 (own := RX6) (v := 3) hx hb hown (hts _ k_X6_row_1) dX6_row_12 ?_
    obtain ⟨r9, hq, hm⟩ := gk_bd1_some hm
    refine gk_callS (n := 3) (bytes := cX6_isIn) (maxL := 6) (ret := (some .boolean)) [(a0, .inr (5, [.int f_n, .ref a1, .ref a2, .ref a3, .ref a4, .int f_keptN, .ref a5, .ref a6, .ref a7, .ref a8, .ref a9, .ref a10, .ref a11, .ref a12, .ref a13, .ref a14, .ref a15, .ref a16, .int f_side, .ref a17, .ref a18, .ref a19, .int f_rows, .ref a20, .ref a21])), (a9, gk_I G 4 f_sort), (a10, gk_I G 4 f_many), (a11, gk_J G 320 f_items)] [(a0, .inr (5, [.int f_n, .ref a1, .ref a2, .ref a3, .ref a4, .int f_keptN, .ref a5, .ref a6, .ref a7, .ref a8, .ref a9, .ref a10, .ref a11, .ref a12, .ref a13, .ref a14, .ref a15, .ref a16, .int f_side, .ref a17, .ref a18, .ref a19, .int f_rows, .ref a20, .ref a21])), (a9, gk_I G 4 f_sort), (a10, gk_I G 4 f_many), (a11, gk_J G 320 f_items)] [] C ⟨hP, hD, hS⟩ (c_X6_isIn l G x2.toInt64 (-1 : Int64) (3 : Int64) hq) gX6_row_X6_isIn dX6_row_15 hl.1 [] [0, 1, 2, 3] [0, 1, 2, 3] rfl ⟨rfl, rfl⟩ ⟨Nat.le_of_ble_eq_true rfl, Nat.le_of_ble_eq_true rfl⟩ ⟨by decide +kernel, by decide +kernel, by decide +kernel⟩ rfl (fun h => by cases h) (Nat.le_of_ble_eq_true rfl) rfl rfl rfl rfl (by decide) rfl rfl (fun H locs h => ?_)
    obtain ⟨hP, hD, hS⟩ := h
    refine lv_if_eq (tgt := 32) hx hb dX6_row_18 (by decide) (fun c10 => ?_) (fun c10 => ?_)
    · have hm := gk_it c10 hm
      refine lv_bipush (v := -2) hx hb dX6_row_32 (by decide) ?_
      rw [kr _ _ _ _ (Option.some.inj hm).symm]
      exact gk_iret C ⟨hP, hD, hS⟩ dX6_row_34
    · have hm := gk_if c10 hm
      refine lv_iload_n hx hb dX6_row_21 rfl (lv_at hl 2 rfl) ?_
      refine lv_iconst (v := -1) hx hb dX6_row_22 (by decide) ?_
      refine lv_icmp_eq (tgt := 35) hx hb dX6_row_23 (by decide) (fun c11 => ?_) (fun c11 => ?_)
      · have hm := gk_it c11 hm
        exact w_X6_row_J35 C hm kr ⟨hP, hD, hS⟩ (lv_sub hl [0, 1, 2, 3] rfl)
      · have hm := gk_if c11 hm
        refine lv_iload_n hx hb dX6_row_26 rfl (lv_at hl 3 rfl) ?_
        refine lv_bipush (v := 80) hx hb dX6_row_27 (by decide) ?_
        refine lv_icmp_le (tgt := 35) hx hb dX6_row_29 (by decide) (fun c22 => ?_) (fun c22 => ?_)
        · have hm := gk_it c22 hm
          exact w_X6_row_J35 C hm kr ⟨hP, hD, hS⟩ (lv_sub hl [0, 1, 2, 3] rfl)
        · have hm := gk_if c22 hm
          refine lv_bipush (v := -2) hx hb dX6_row_32 (by decide) ?_
          rw [kr _ _ _ _ (Option.some.inj hm).symm]
          exact gk_iret C ⟨hP, hD, hS⟩ dX6_row_34
def m_X6_row (f_sort : (Nat → Int32)) (f_many : (Nat → Int32)) (f_items : (Nat → Int64)) (x1 : Int32) (x2 : Int32) (x3 : Int32) : Option (Int32 × (Nat → Int32) × (Nat → Int32) × (Nat → Int64)) := m_X6_row_0 f_sort f_many f_items x1 x2 x3
theorem c_X6_row (l : Launch) (G : gk_G) (a0 a1 a2 a3 a4 a5 a6 a7 a8 a9 a10 a11 a12 a13 a14 a15 a16 a17 a18 a19 a20 a21 : Nat) (f_n : Int32) (f_keptN : Int32) (f_side : Int32) (f_rows : Int32) (f_sort : (Nat → Int32)) (f_many : (Nat → Int32)) (f_items : (Nat → Int64)) (x1 : Int32) (x2 : Int32) (x3 : Int32) {rv : Int32} {g_sort : (Nat → Int32)} {g_many : (Nat → Int32)} {g_items : (Nat → Int64)} (hm : m_X6_row f_sort f_many f_items x1 x2 x3 = some (rv, g_sort, g_many, g_items)) : gk_M l yX6_row wsX6_row rm_X6_row false G [.ref a0, .int x1, .int x2, .int x3] [(a0, .inr (5, [.int f_n, .ref a1, .ref a2, .ref a3, .ref a4, .int f_keptN, .ref a5, .ref a6, .ref a7, .ref a8, .ref a9, .ref a10, .ref a11, .ref a12, .ref a13, .ref a14, .ref a15, .ref a16, .int f_side, .ref a17, .ref a18, .ref a19, .int f_rows, .ref a20, .ref a21])), (a9, gk_I G 4 f_sort), (a10, gk_I G 4 f_many), (a11, gk_J G 320 f_items)] (some (.int rv)) [(a0, .inr (5, [.int f_n, .ref a1, .ref a2, .ref a3, .ref a4, .int f_keptN, .ref a5, .ref a6, .ref a7, .ref a8, .ref a9, .ref a10, .ref a11, .ref a12, .ref a13, .ref a14, .ref a15, .ref a16, .int f_side, .ref a17, .ref a18, .ref a19, .int f_rows, .ref a20, .ref a21])), (a9, gk_I G 4 g_sort), (a10, gk_I G 4 g_many), (a11, gk_J G 320 g_items)] :=
  gk_of (by decide) rfl (Nat.le_of_ble_eq_true rfl) (fun p e s m below meth c A ls C h hl => w_X6_row_0 C hm (fun v0 v1 v2 v3 ez => by cases ez; rfl) h (show lv_has ls 4 [(0, .ref a0), (1, .int x1), (2, .int x2), (3, .int x3)] from hl))

/-! ===== ExchangeFamiliesModel.lowest(IJ)J ===== -/
abbrev rm_X6_lowest : Room := { frames := 1, cells := 0, slots := 0, locals := 64 }
def m_X6_lowest_0 (x0 : Int32) (x1 : Int64) : Option (Int64) := (if x0 = (0 : Int32) then some x1.toInt32.toInt8.toInt32.toInt64 else (if x0 = (1 : Int32) then some x1.toInt32.toInt16.toInt32.toInt64 else (if x0 = (2 : Int32) then some x1.toInt32.toInt64 else some x1)))
set_option maxRecDepth 100000 in
set_option maxHeartbeats 4000000 in
theorem w_X6_lowest_0 {p : Program} {l : Launch} {e : Env} {s : State} {m : MethodId} {args : Array Value} {below : List Frame} {meth : Method} {c : Code} {G : gk_G} {A : Nat → Prop} {Q : State → Prop} (C : gk_C p s m args meth c cX6_lowest 3 (some .long) yX6_lowest wsX6_lowest false G A) {x0 : Int32} {x1 : Int64} {yy : Int64} (hm : m_X6_lowest_0 x0 x1 = some yy) (kr : ∀ (rv : Int64), yy = rv → Q = MQ below (gk_Q G (some (.long rv)) [] A) args s 0 0 A) {H : Heap} {locs : List Loc} {ls : Array Slot} (h : gk_H G A s [] H locs) (hl : lv_has ls 3 [(0, .int x0), (1, .long x1)]) : W p l e rm_X6_lowest s m args below meth c H locs 0 0 Q (F0 m 0 ls []) := by
  obtain ⟨hx, hb, hml, hr, hown, hnm, hts, hlk, hK, hSt, hA⟩ := id C
  obtain ⟨hP, hD, hS⟩ := h
  unfold m_X6_lowest_0 at hm
  refine lv_iload_n hx hb dX6_lowest_0 rfl (lv_at hl 0 rfl) ?_
  refine lv_if_ne (tgt := 11) hx hb dX6_lowest_1 (by decide) (fun c4 => ?_) (fun c4 => ?_)
  · have hm := gk_if c4 hm
    refine lv_iload_n hx hb dX6_lowest_11 rfl (lv_at hl 0 rfl) ?_
    refine lv_iconst (v := 1) hx hb dX6_lowest_12 (by decide) ?_
    refine lv_icmp_ne (tgt := 23) hx hb dX6_lowest_13 (by decide) (fun c5 => ?_) (fun c5 => ?_)
    · have hm := gk_if c5 hm
      refine lv_iload_n hx hb dX6_lowest_23 rfl (lv_at hl 0 rfl) ?_
      refine lv_iconst (v := 2) hx hb dX6_lowest_24 (by decide) ?_
      refine lv_icmp_ne (tgt := 34) hx hb dX6_lowest_25 (by decide) (fun c6 => ?_) (fun c6 => ?_)
      · have hm := gk_if c6 hm
        refine lv_lload_n hx hb dX6_lowest_34 rfl (lv_at hl 1 rfl) ?_
        rw [kr _ (Option.some.inj hm).symm]
        exact gk_lret C ⟨hP, hD, hS⟩ dX6_lowest_35
      · have hm := gk_it c6 hm
        refine lv_lload_n hx hb dX6_lowest_28 rfl (lv_at hl 1 rfl) ?_
        refine lv_l2i hx hb dX6_lowest_29 rfl ?_
        refine lv_i2l hx hb dX6_lowest_30 rfl ?_
        refine lv_goto (tgt := 35) hx hb dX6_lowest_31 (by decide) ?_
        rw [kr _ (Option.some.inj hm).symm]
        exact gk_lret C ⟨hP, hD, hS⟩ dX6_lowest_35
    · have hm := gk_it c5 hm
      refine lv_lload_n hx hb dX6_lowest_16 rfl (lv_at hl 1 rfl) ?_
      refine lv_l2i hx hb dX6_lowest_17 rfl ?_
      refine lv_i2s hx hb dX6_lowest_18 rfl ?_
      refine lv_i2l hx hb dX6_lowest_19 rfl ?_
      refine lv_goto (tgt := 35) hx hb dX6_lowest_20 (by decide) ?_
      rw [kr _ (Option.some.inj hm).symm]
      exact gk_lret C ⟨hP, hD, hS⟩ dX6_lowest_35
  · have hm := gk_it c4 hm
    refine lv_lload_n hx hb dX6_lowest_4 rfl (lv_at hl 1 rfl) ?_
    refine lv_l2i hx hb dX6_lowest_5 rfl ?_
    refine lv_i2b hx hb dX6_lowest_6 rfl ?_
    refine lv_i2l hx hb dX6_lowest_7 rfl ?_
    refine lv_goto (tgt := 35) hx hb dX6_lowest_8 (by decide) ?_
    rw [kr _ (Option.some.inj hm).symm]
    exact gk_lret C ⟨hP, hD, hS⟩ dX6_lowest_35
def m_X6_lowest (x0 : Int32) (x1 : Int64) : Option (Int64) := m_X6_lowest_0 x0 x1
theorem c_X6_lowest (l : Launch) (G : gk_G) (x0 : Int32) (x1 : Int64) {rv : Int64} (hm : m_X6_lowest x0 x1 = some rv) : gk_M l yX6_lowest wsX6_lowest rm_X6_lowest false G [.int x0, .long x1] [] (some (.long rv)) [] :=
  gk_of (by decide) rfl (Nat.le_of_ble_eq_true rfl) (fun p e s m below meth c A ls C h hl => w_X6_lowest_0 C hm (fun v0 ez => by cases ez; rfl) h (show lv_has ls 3 [(0, .int x0), (1, .long x1)] from hl))

/-! ===== ExchangeFamiliesModel.put(IIJ)I ===== -/
abbrev rm_X6_put : Room := { frames := 5, cells := 0, slots := 0, locals := 237 }
theorem k_X6_put_0 : ∀ w ∈ u_ws RX6 TX6 25, w ∈ wsX6_put := by decide +kernel
theorem k_X6_put_1 : Cond.fieldLink RX6 44 "ExchangeFamiliesModel" "sort" "[I" ∈ wsX6_put := by decide +kernel
theorem k_X6_put_2 : Cond.fieldLink RX6 47 "ExchangeFamiliesModel" "many" "[I" ∈ wsX6_put := by decide +kernel
theorem k_X6_put_3 : Cond.fieldLink RX6 50 "ExchangeFamiliesModel" "items" "[J" ∈ wsX6_put := by decide +kernel
def m_X6_put_0 (f_sort : (Nat → Int32)) (f_many : (Nat → Int32)) (f_items : (Nat → Int64)) (x1 : Int32) (x2 : Int32) (x3 : Int64) : Option (Int32 × (Nat → Int64)) := gk_bd1 (m_X6_isRow x1) (fun r4 => (if r4 = (0 : Int32) then some ((-2 : Int32), f_items) else gk_ix x1 4 ((if (f_sort x1.toNatClampNeg) = (-1 : Int32) then some ((-11 : Int32), f_items) else gk_ix x1 4 (gk_bd1 (m_X6_isIn x2.toInt64 (0 : Int64) (((f_many x1.toNatClampNeg) - (1 : Int32)).toInt64)) (fun r7 => (if r7 = (0 : Int32) then some ((-12 : Int32), f_items) else gk_ix x1 4 (gk_bd1 (m_X6_lowest (f_sort x1.toNatClampNeg) x3) (fun r9 => gk_ix (((80 : Int32) * x1) + x2) 320 (some ((1 : Int32), vp_updL f_items (((80 : Int32) * x1) + x2).toNatClampNeg r9)))))))))))
set_option maxRecDepth 100000 in
set_option maxHeartbeats 4000000 in
theorem w_X6_put_0 {p : Program} {l : Launch} {e : Env} {s : State} {m : MethodId} {args : Array Value} {below : List Frame} {meth : Method} {c : Code} {G : gk_G} {A : Nat → Prop} {Q : State → Prop} {a0 a1 a2 a3 a4 a5 a6 a7 a8 a9 a10 a11 a12 a13 a14 a15 a16 a17 a18 a19 a20 a21 : Nat} (C : gk_C p s m args meth c cX6_put 5 (some .int) yX6_put wsX6_put false G A) {f_sort : (Nat → Int32)} {f_many : (Nat → Int32)} {f_items : (Nat → Int64)} {x1 : Int32} {x2 : Int32} {x3 : Int64} {f_n : Int32} {f_keptN : Int32} {f_side : Int32} {f_rows : Int32} {yy : Int32 × (Nat → Int64)} (hm : m_X6_put_0 f_sort f_many f_items x1 x2 x3 = some yy) (kr : ∀ (rv : Int32) (g_items : (Nat → Int64)), yy = (rv, g_items) → Q = MQ below (gk_Q G (some (.int rv)) [(a0, .inr (5, [.int f_n, .ref a1, .ref a2, .ref a3, .ref a4, .int f_keptN, .ref a5, .ref a6, .ref a7, .ref a8, .ref a9, .ref a10, .ref a11, .ref a12, .ref a13, .ref a14, .ref a15, .ref a16, .int f_side, .ref a17, .ref a18, .ref a19, .int f_rows, .ref a20, .ref a21])), (a9, gk_I G 4 f_sort), (a10, gk_I G 4 f_many), (a11, gk_J G 320 g_items)] A) args s 0 0 A) {H : Heap} {locs : List Loc} {ls : Array Slot} (h : gk_H G A s [(a0, .inr (5, [.int f_n, .ref a1, .ref a2, .ref a3, .ref a4, .int f_keptN, .ref a5, .ref a6, .ref a7, .ref a8, .ref a9, .ref a10, .ref a11, .ref a12, .ref a13, .ref a14, .ref a15, .ref a16, .int f_side, .ref a17, .ref a18, .ref a19, .int f_rows, .ref a20, .ref a21])), (a9, gk_I G 4 f_sort), (a10, gk_I G 4 f_many), (a11, gk_J G 320 f_items)] H locs) (hl : lv_has ls 5 [(0, .ref a0), (1, .int x1), (2, .int x2), (3, .long x3)]) : W p l e rm_X6_put s m args below meth c H locs 0 0 Q (F0 m 0 ls []) := by
  obtain ⟨hx, hb, hml, hr, hown, hnm, hts, hlk, hK, hSt, hA⟩ := id C
  obtain ⟨hP, hD, hS⟩ := h
  unfold m_X6_put_0 at hm
  refine lv_iload_n hx hb dX6_put_0 rfl (lv_at hl 1 rfl) ?_
  obtain ⟨r4, hq, hm⟩ := gk_bd1_some hm
  refine gk_callS (n := 1) (bytes := cX6_isRow) (maxL := 1) (ret := (some .boolean)) [(a0, .inr (5, [.int f_n, .ref a1, .ref a2, .ref a3, .ref a4, .int f_keptN, .ref a5, .ref a6, .ref a7, .ref a8, .ref a9, .ref a10, .ref a11, .ref a12, .ref a13, .ref a14, .ref a15, .ref a16, .int f_side, .ref a17, .ref a18, .ref a19, .int f_rows, .ref a20, .ref a21])), (a9, gk_I G 4 f_sort), (a10, gk_I G 4 f_many), (a11, gk_J G 320 f_items)] [(a0, .inr (5, [.int f_n, .ref a1, .ref a2, .ref a3, .ref a4, .int f_keptN, .ref a5, .ref a6, .ref a7, .ref a8, .ref a9, .ref a10, .ref a11, .ref a12, .ref a13, .ref a14, .ref a15, .ref a16, .int f_side, .ref a17, .ref a18, .ref a19, .int f_rows, .ref a20, .ref a21])), (a9, gk_I G 4 f_sort), (a10, gk_I G 4 f_many), (a11, gk_J G 320 f_items)] [] C ⟨hP, hD, hS⟩ (c_X6_isRow l G x1 hq) gX6_put_X6_isRow dX6_put_1 hl.1 [] [0, 1, 2, 3] [0, 1, 2, 3] rfl ⟨rfl, rfl⟩ ⟨Nat.le_of_ble_eq_true rfl, Nat.le_of_ble_eq_true rfl⟩ ⟨by decide +kernel, by decide +kernel, by decide +kernel⟩ rfl (fun h => by cases h) (Nat.le_of_ble_eq_true rfl) rfl rfl rfl rfl (by decide) rfl rfl (fun H locs h => ?_)
  obtain ⟨hP, hD, hS⟩ := h
  refine lv_if_ne (tgt := 10) hx hb dX6_put_4 (by decide) (fun c5 => ?_) (fun c5 => ?_)
  · have hm := gk_if c5 hm
    refine lv_aload_n hx hb dX6_put_10 rfl (lv_at hl 0 rfl) ?_
    refine va_get (D := G.1) (cl := vwCl) (own := RX6) (ref := "ExchangeFamiliesModel") (ci := 5) (v := .ref a9) (C := RX6) (T := TX6) (N := 25) hx hb hts k_X6_put_0 hown hK hP 0 rfl rfl 10 (by decide) (hts _ k_X6_put_1) (fun _ h9 => h9) rfl dX6_put_11 ?_
    refine lv_iload_n hx hb dX6_put_14 rfl (lv_at hl 1 rfl) ?_
    obtain ⟨hi, hm⟩ := gk_ix_some hm
    refine va_iald hx hb hK hP 1 0 rfl rfl hi dX6_put_15 ?_
    refine lv_iconst (v := -1) hx hb dX6_put_16 (by decide) ?_
    refine lv_icmp_ne (tgt := 23) hx hb dX6_put_17 (by decide) (fun c6 => ?_) (fun c6 => ?_)
    · have hm := gk_if c6 hm
      refine lv_iload_n hx hb dX6_put_23 rfl (lv_at hl 2 rfl) ?_
      refine lv_i2l hx hb dX6_put_24 rfl ?_
      refine lv_lconst (v := 0) hx hb dX6_put_25 (by decide) ?_
      refine lv_aload_n hx hb dX6_put_26 rfl (lv_at hl 0 rfl) ?_
      refine va_get (D := G.1) (cl := vwCl) (own := RX6) (ref := "ExchangeFamiliesModel") (ci := 5) (v := .ref a10) (C := RX6) (T := TX6) (N := 25) hx hb hts k_X6_put_0 hown hK hP 0 rfl rfl 11 (by decide) (hts _ k_X6_put_2) (fun _ h9 => h9) rfl dX6_put_27 ?_
      refine lv_iload_n hx hb dX6_put_30 rfl (lv_at hl 1 rfl) ?_
      obtain ⟨hi, hm⟩ := gk_ix_some hm
      refine va_iald hx hb hK hP 2 0 rfl rfl hi dX6_put_31 ?_
      refine lv_iconst (v := 1) hx hb dX6_put_32 (by decide) ?_
      refine lv_isub hx hb dX6_put_33 ?_
      refine lv_i2l hx hb dX6_put_34 rfl ?_
      obtain ⟨r7, hq, hm⟩ := gk_bd1_some hm
      refine gk_callS (n := 3) (bytes := cX6_isIn) (maxL := 6) (ret := (some .boolean)) [(a0, .inr (5, [.int f_n, .ref a1, .ref a2, .ref a3, .ref a4, .int f_keptN, .ref a5, .ref a6, .ref a7, .ref a8, .ref a9, .ref a10, .ref a11, .ref a12, .ref a13, .ref a14, .ref a15, .ref a16, .int f_side, .ref a17, .ref a18, .ref a19, .int f_rows, .ref a20, .ref a21])), (a9, gk_I G 4 f_sort), (a10, gk_I G 4 f_many), (a11, gk_J G 320 f_items)] [(a0, .inr (5, [.int f_n, .ref a1, .ref a2, .ref a3, .ref a4, .int f_keptN, .ref a5, .ref a6, .ref a7, .ref a8, .ref a9, .ref a10, .ref a11, .ref a12, .ref a13, .ref a14, .ref a15, .ref a16, .int f_side, .ref a17, .ref a18, .ref a19, .int f_rows, .ref a20, .ref a21])), (a9, gk_I G 4 f_sort), (a10, gk_I G 4 f_many), (a11, gk_J G 320 f_items)] [] C ⟨hP, hD, hS⟩ (c_X6_isIn l G x2.toInt64 (0 : Int64) (((f_many x1.toNatClampNeg) - (1 : Int32)).toInt64) hq) gX6_put_X6_isIn dX6_put_35 hl.1 [] [0, 1, 2, 3] [0, 1, 2, 3] rfl ⟨rfl, rfl⟩ ⟨Nat.le_of_ble_eq_true rfl, Nat.le_of_ble_eq_true rfl⟩ ⟨by decide +kernel, by decide +kernel, by decide +kernel⟩ rfl (fun h => by cases h) (Nat.le_of_ble_eq_true rfl) rfl rfl rfl rfl (by decide) rfl rfl (fun H locs h => ?_)
      obtain ⟨hP, hD, hS⟩ := h
      refine lv_if_ne (tgt := 44) hx hb dX6_put_38 (by decide) (fun c8 => ?_) (fun c8 => ?_)
      · have hm := gk_if c8 hm
        refine lv_aload_n hx hb dX6_put_44 rfl (lv_at hl 0 rfl) ?_
        refine va_get (D := G.1) (cl := vwCl) (own := RX6) (ref := "ExchangeFamiliesModel") (ci := 5) (v := .ref a11) (C := RX6) (T := TX6) (N := 25) hx hb hts k_X6_put_0 hown hK hP 0 rfl rfl 12 (by decide) (hts _ k_X6_put_3) (fun _ h9 => h9) rfl dX6_put_45 ?_
        refine lv_bipush (v := 80) hx hb dX6_put_48 (by decide) ?_
        refine lv_iload_n hx hb dX6_put_50 rfl (lv_at hl 1 rfl) ?_
        refine lv_imul hx hb dX6_put_51 ?_
        refine lv_iload_n hx hb dX6_put_52 rfl (lv_at hl 2 rfl) ?_
        refine lv_iadd hx hb dX6_put_53 ?_
        refine lv_aload_n hx hb dX6_put_54 rfl (lv_at hl 0 rfl) ?_
        refine va_get (D := G.1) (cl := vwCl) (own := RX6) (ref := "ExchangeFamiliesModel") (ci := 5) (v := .ref a9) (C := RX6) (T := TX6) (N := 25) hx hb hts k_X6_put_0 hown hK hP 0 rfl rfl 10 (by decide) (hts _ k_X6_put_1) (fun _ h9 => h9) rfl dX6_put_55 ?_
        refine lv_iload_n hx hb dX6_put_58 rfl (lv_at hl 1 rfl) ?_
        obtain ⟨hi, hm⟩ := gk_ix_some hm
        refine va_iald hx hb hK hP 1 0 rfl rfl hi dX6_put_59 ?_
        refine lv_lload_n hx hb dX6_put_60 rfl (lv_at hl 3 rfl) ?_
        obtain ⟨r9, hq, hm⟩ := gk_bd1_some hm
        refine gk_callS (n := 2) (bytes := cX6_lowest) (maxL := 3) (ret := (some .long)) [(a0, .inr (5, [.int f_n, .ref a1, .ref a2, .ref a3, .ref a4, .int f_keptN, .ref a5, .ref a6, .ref a7, .ref a8, .ref a9, .ref a10, .ref a11, .ref a12, .ref a13, .ref a14, .ref a15, .ref a16, .int f_side, .ref a17, .ref a18, .ref a19, .int f_rows, .ref a20, .ref a21])), (a9, gk_I G 4 f_sort), (a10, gk_I G 4 f_many), (a11, gk_J G 320 f_items)] [(a0, .inr (5, [.int f_n, .ref a1, .ref a2, .ref a3, .ref a4, .int f_keptN, .ref a5, .ref a6, .ref a7, .ref a8, .ref a9, .ref a10, .ref a11, .ref a12, .ref a13, .ref a14, .ref a15, .ref a16, .int f_side, .ref a17, .ref a18, .ref a19, .int f_rows, .ref a20, .ref a21])), (a9, gk_I G 4 f_sort), (a10, gk_I G 4 f_many), (a11, gk_J G 320 f_items)] [.int (((80 : Int32) * x1) + x2), .ref a11] C ⟨hP, hD, hS⟩ (c_X6_lowest l G (f_sort x1.toNatClampNeg) x3 hq) gX6_put_X6_lowest dX6_put_61 hl.1 [] [0, 1, 2, 3] [0, 1, 2, 3] rfl ⟨rfl, rfl⟩ ⟨Nat.le_of_ble_eq_true rfl, Nat.le_of_ble_eq_true rfl⟩ ⟨by decide +kernel, by decide +kernel, by decide +kernel⟩ rfl (fun h => by cases h) (Nat.le_of_ble_eq_true rfl) rfl rfl rfl rfl (by decide) rfl rfl (fun H locs h => ?_)
        obtain ⟨hP, hD, hS⟩ := h
        obtain ⟨hi, hm⟩ := gk_ix_some hm
        refine va_last hx hb hK hP hD hS 3 1 rfl rfl hi dX6_put_64 (fun H locs hP hD hS => ?_)
        have hP : va_P G.1 vwCl [(a0, .inr (5, [.int f_n, .ref a1, .ref a2, .ref a3, .ref a4, .int f_keptN, .ref a5, .ref a6, .ref a7, .ref a8, .ref a9, .ref a10, .ref a11, .ref a12, .ref a13, .ref a14, .ref a15, .ref a16, .int f_side, .ref a17, .ref a18, .ref a19, .int f_rows, .ref a20, .ref a21])), (a9, gk_I G 4 f_sort), (a10, gk_I G 4 f_many), (a11, gk_J G 320 (vp_updL f_items (((80 : Int32) * x1) + x2).toNatClampNeg r9))] H := hP
        have hD : va_D A [(a0, .inr (5, [.int f_n, .ref a1, .ref a2, .ref a3, .ref a4, .int f_keptN, .ref a5, .ref a6, .ref a7, .ref a8, .ref a9, .ref a10, .ref a11, .ref a12, .ref a13, .ref a14, .ref a15, .ref a16, .int f_side, .ref a17, .ref a18, .ref a19, .int f_rows, .ref a20, .ref a21])), (a9, gk_I G 4 f_sort), (a10, gk_I G 4 f_many), (a11, gk_J G 320 (vp_updL f_items (((80 : Int32) * x1) + x2).toNatClampNeg r9))] := hD
        refine lv_iconst (v := 1) hx hb dX6_put_65 (by decide) ?_
        rw [kr _ _ (Option.some.inj hm).symm]
        exact gk_iret C ⟨hP, hD, hS⟩ dX6_put_66
      · have hm := gk_it c8 hm
        refine lv_bipush (v := -12) hx hb dX6_put_41 (by decide) ?_
        rw [kr _ _ (Option.some.inj hm).symm]
        exact gk_iret C ⟨hP, hD, hS⟩ dX6_put_43
    · have hm := gk_it c6 hm
      refine lv_bipush (v := -11) hx hb dX6_put_20 (by decide) ?_
      rw [kr _ _ (Option.some.inj hm).symm]
      exact gk_iret C ⟨hP, hD, hS⟩ dX6_put_22
  · have hm := gk_it c5 hm
    refine lv_bipush (v := -2) hx hb dX6_put_7 (by decide) ?_
    rw [kr _ _ (Option.some.inj hm).symm]
    exact gk_iret C ⟨hP, hD, hS⟩ dX6_put_9
def m_X6_put (f_sort : (Nat → Int32)) (f_many : (Nat → Int32)) (f_items : (Nat → Int64)) (x1 : Int32) (x2 : Int32) (x3 : Int64) : Option (Int32 × (Nat → Int64)) := m_X6_put_0 f_sort f_many f_items x1 x2 x3
theorem c_X6_put (l : Launch) (G : gk_G) (a0 a1 a2 a3 a4 a5 a6 a7 a8 a9 a10 a11 a12 a13 a14 a15 a16 a17 a18 a19 a20 a21 : Nat) (f_n : Int32) (f_keptN : Int32) (f_side : Int32) (f_rows : Int32) (f_sort : (Nat → Int32)) (f_many : (Nat → Int32)) (f_items : (Nat → Int64)) (x1 : Int32) (x2 : Int32) (x3 : Int64) {rv : Int32} {g_items : (Nat → Int64)} (hm : m_X6_put f_sort f_many f_items x1 x2 x3 = some (rv, g_items)) : gk_M l yX6_put wsX6_put rm_X6_put false G [.ref a0, .int x1, .int x2, .long x3] [(a0, .inr (5, [.int f_n, .ref a1, .ref a2, .ref a3, .ref a4, .int f_keptN, .ref a5, .ref a6, .ref a7, .ref a8, .ref a9, .ref a10, .ref a11, .ref a12, .ref a13, .ref a14, .ref a15, .ref a16, .int f_side, .ref a17, .ref a18, .ref a19, .int f_rows, .ref a20, .ref a21])), (a9, gk_I G 4 f_sort), (a10, gk_I G 4 f_many), (a11, gk_J G 320 f_items)] (some (.int rv)) [(a0, .inr (5, [.int f_n, .ref a1, .ref a2, .ref a3, .ref a4, .int f_keptN, .ref a5, .ref a6, .ref a7, .ref a8, .ref a9, .ref a10, .ref a11, .ref a12, .ref a13, .ref a14, .ref a15, .ref a16, .int f_side, .ref a17, .ref a18, .ref a19, .int f_rows, .ref a20, .ref a21])), (a9, gk_I G 4 f_sort), (a10, gk_I G 4 f_many), (a11, gk_J G 320 g_items)] :=
  gk_of (by decide) rfl (Nat.le_of_ble_eq_true rfl) (fun p e s m below meth c A ls C h hl => w_X6_put_0 C hm (fun v0 v1 ez => by cases ez; rfl) h (show lv_has ls 5 [(0, .ref a0), (1, .int x1), (2, .int x2), (3, .long x3)] from hl))

/-! ===== ExchangeFamiliesModel.get(II)J ===== -/
abbrev rm_X6_get : Room := { frames := 5, cells := 0, slots := 0, locals := 237 }
theorem k_X6_get_0 : Cond.constantLong RX6 246 (-9223372036854775808) ∈ wsX6_get := by decide +kernel
theorem k_X6_get_1 : ∀ w ∈ u_ws RX6 TX6 25, w ∈ wsX6_get := by decide +kernel
theorem k_X6_get_2 : Cond.fieldLink RX6 47 "ExchangeFamiliesModel" "many" "[I" ∈ wsX6_get := by decide +kernel
theorem k_X6_get_3 : Cond.fieldLink RX6 50 "ExchangeFamiliesModel" "items" "[J" ∈ wsX6_get := by decide +kernel
def m_X6_get_0 (f_many : (Nat → Int32)) (f_items : (Nat → Int64)) (x1 : Int32) (x2 : Int32) : Option (Int64) := gk_bd1 (m_X6_isRow x1) (fun r3 => (if r3 = (0 : Int32) then some (-9223372036854775808 : Int64) else gk_ix x1 4 (gk_bd1 (m_X6_isIn x2.toInt64 (0 : Int64) (((f_many x1.toNatClampNeg) - (1 : Int32)).toInt64)) (fun r5 => (if r5 = (0 : Int32) then some (-9223372036854775808 : Int64) else gk_ix (((80 : Int32) * x1) + x2) 320 (some (f_items (((80 : Int32) * x1) + x2).toNatClampNeg)))))))
set_option maxRecDepth 100000 in
set_option maxHeartbeats 4000000 in
theorem w_X6_get_0 {p : Program} {l : Launch} {e : Env} {s : State} {m : MethodId} {args : Array Value} {below : List Frame} {meth : Method} {c : Code} {G : gk_G} {A : Nat → Prop} {Q : State → Prop} {a0 a1 a2 a3 a4 a5 a6 a7 a8 a9 a10 a11 a12 a13 a14 a15 a16 a17 a18 a19 a20 a21 : Nat} (C : gk_C p s m args meth c cX6_get 3 (some .long) yX6_get wsX6_get false G A) {f_many : (Nat → Int32)} {f_items : (Nat → Int64)} {x1 : Int32} {x2 : Int32} {f_n : Int32} {f_keptN : Int32} {f_side : Int32} {f_rows : Int32} {yy : Int64} (hm : m_X6_get_0 f_many f_items x1 x2 = some yy) (kr : ∀ (rv : Int64), yy = rv → Q = MQ below (gk_Q G (some (.long rv)) [(a0, .inr (5, [.int f_n, .ref a1, .ref a2, .ref a3, .ref a4, .int f_keptN, .ref a5, .ref a6, .ref a7, .ref a8, .ref a9, .ref a10, .ref a11, .ref a12, .ref a13, .ref a14, .ref a15, .ref a16, .int f_side, .ref a17, .ref a18, .ref a19, .int f_rows, .ref a20, .ref a21])), (a10, gk_I G 4 f_many), (a11, gk_J G 320 f_items)] A) args s 0 0 A) {H : Heap} {locs : List Loc} {ls : Array Slot} (h : gk_H G A s [(a0, .inr (5, [.int f_n, .ref a1, .ref a2, .ref a3, .ref a4, .int f_keptN, .ref a5, .ref a6, .ref a7, .ref a8, .ref a9, .ref a10, .ref a11, .ref a12, .ref a13, .ref a14, .ref a15, .ref a16, .int f_side, .ref a17, .ref a18, .ref a19, .int f_rows, .ref a20, .ref a21])), (a10, gk_I G 4 f_many), (a11, gk_J G 320 f_items)] H locs) (hl : lv_has ls 3 [(0, .ref a0), (1, .int x1), (2, .int x2)]) : W p l e rm_X6_get s m args below meth c H locs 0 0 Q (F0 m 0 ls []) := by
  obtain ⟨hx, hb, hml, hr, hown, hnm, hts, hlk, hK, hSt, hA⟩ := id C
  obtain ⟨hP, hD, hS⟩ := h
  unfold m_X6_get_0 at hm
  refine lv_iload_n hx hb dX6_get_0 rfl (lv_at hl 1 rfl) ?_
  obtain ⟨r3, hq, hm⟩ := gk_bd1_some hm
  refine gk_callS (n := 1) (bytes := cX6_isRow) (maxL := 1) (ret := (some .boolean)) [(a0, .inr (5, [.int f_n, .ref a1, .ref a2, .ref a3, .ref a4, .int f_keptN, .ref a5, .ref a6, .ref a7, .ref a8, .ref a9, .ref a10, .ref a11, .ref a12, .ref a13, .ref a14, .ref a15, .ref a16, .int f_side, .ref a17, .ref a18, .ref a19, .int f_rows, .ref a20, .ref a21])), (a10, gk_I G 4 f_many), (a11, gk_J G 320 f_items)] [(a0, .inr (5, [.int f_n, .ref a1, .ref a2, .ref a3, .ref a4, .int f_keptN, .ref a5, .ref a6, .ref a7, .ref a8, .ref a9, .ref a10, .ref a11, .ref a12, .ref a13, .ref a14, .ref a15, .ref a16, .int f_side, .ref a17, .ref a18, .ref a19, .int f_rows, .ref a20, .ref a21])), (a10, gk_I G 4 f_many), (a11, gk_J G 320 f_items)] [] C ⟨hP, hD, hS⟩ (c_X6_isRow l G x1 hq) gX6_get_X6_isRow dX6_get_1 hl.1 [] [0, 1, 2] [0, 1, 2] rfl ⟨rfl, rfl⟩ ⟨Nat.le_of_ble_eq_true rfl, Nat.le_of_ble_eq_true rfl⟩ ⟨by decide +kernel, by decide +kernel, by decide +kernel⟩ rfl (fun h => by cases h) (Nat.le_of_ble_eq_true rfl) rfl rfl rfl rfl (by decide) rfl rfl (fun H locs h => ?_)
  obtain ⟨hP, hD, hS⟩ := h
  refine lv_if_eq (tgt := 39) hx hb dX6_get_4 (by decide) (fun c4 => ?_) (fun c4 => ?_)
  · have hm := gk_it c4 hm
    refine lv_ldc2 (own := RX6) (v := -9223372036854775808) hx hb hown (hts _ k_X6_get_0) dX6_get_39 ?_
    rw [kr _ (Option.some.inj hm).symm]
    exact gk_lret C ⟨hP, hD, hS⟩ dX6_get_42
  · have hm := gk_if c4 hm
    refine lv_iload_n hx hb dX6_get_7 rfl (lv_at hl 2 rfl) ?_
    refine lv_i2l hx hb dX6_get_8 rfl ?_
    refine lv_lconst (v := 0) hx hb dX6_get_9 (by decide) ?_
    refine lv_aload_n hx hb dX6_get_10 rfl (lv_at hl 0 rfl) ?_
    refine va_get (D := G.1) (cl := vwCl) (own := RX6) (ref := "ExchangeFamiliesModel") (ci := 5) (v := .ref a10) (C := RX6) (T := TX6) (N := 25) hx hb hts k_X6_get_1 hown hK hP 0 rfl rfl 11 (by decide) (hts _ k_X6_get_2) (fun _ h9 => h9) rfl dX6_get_11 ?_
    refine lv_iload_n hx hb dX6_get_14 rfl (lv_at hl 1 rfl) ?_
    obtain ⟨hi, hm⟩ := gk_ix_some hm
    refine va_iald hx hb hK hP 1 0 rfl rfl hi dX6_get_15 ?_
    refine lv_iconst (v := 1) hx hb dX6_get_16 (by decide) ?_
    refine lv_isub hx hb dX6_get_17 ?_
    refine lv_i2l hx hb dX6_get_18 rfl ?_
    obtain ⟨r5, hq, hm⟩ := gk_bd1_some hm
    refine gk_callS (n := 3) (bytes := cX6_isIn) (maxL := 6) (ret := (some .boolean)) [(a0, .inr (5, [.int f_n, .ref a1, .ref a2, .ref a3, .ref a4, .int f_keptN, .ref a5, .ref a6, .ref a7, .ref a8, .ref a9, .ref a10, .ref a11, .ref a12, .ref a13, .ref a14, .ref a15, .ref a16, .int f_side, .ref a17, .ref a18, .ref a19, .int f_rows, .ref a20, .ref a21])), (a10, gk_I G 4 f_many), (a11, gk_J G 320 f_items)] [(a0, .inr (5, [.int f_n, .ref a1, .ref a2, .ref a3, .ref a4, .int f_keptN, .ref a5, .ref a6, .ref a7, .ref a8, .ref a9, .ref a10, .ref a11, .ref a12, .ref a13, .ref a14, .ref a15, .ref a16, .int f_side, .ref a17, .ref a18, .ref a19, .int f_rows, .ref a20, .ref a21])), (a10, gk_I G 4 f_many), (a11, gk_J G 320 f_items)] [] C ⟨hP, hD, hS⟩ (c_X6_isIn l G x2.toInt64 (0 : Int64) (((f_many x1.toNatClampNeg) - (1 : Int32)).toInt64) hq) gX6_get_X6_isIn dX6_get_19 hl.1 [] [0, 1, 2] [0, 1, 2] rfl ⟨rfl, rfl⟩ ⟨Nat.le_of_ble_eq_true rfl, Nat.le_of_ble_eq_true rfl⟩ ⟨by decide +kernel, by decide +kernel, by decide +kernel⟩ rfl (fun h => by cases h) (Nat.le_of_ble_eq_true rfl) rfl rfl rfl rfl (by decide) rfl rfl (fun H locs h => ?_)
    obtain ⟨hP, hD, hS⟩ := h
    refine lv_if_eq (tgt := 39) hx hb dX6_get_22 (by decide) (fun c6 => ?_) (fun c6 => ?_)
    · have hm := gk_it c6 hm
      refine lv_ldc2 (own := RX6) (v := -9223372036854775808) hx hb hown (hts _ k_X6_get_0) dX6_get_39 ?_
      rw [kr _ (Option.some.inj hm).symm]
      exact gk_lret C ⟨hP, hD, hS⟩ dX6_get_42
    · have hm := gk_if c6 hm
      refine lv_aload_n hx hb dX6_get_25 rfl (lv_at hl 0 rfl) ?_
      refine va_get (D := G.1) (cl := vwCl) (own := RX6) (ref := "ExchangeFamiliesModel") (ci := 5) (v := .ref a11) (C := RX6) (T := TX6) (N := 25) hx hb hts k_X6_get_1 hown hK hP 0 rfl rfl 12 (by decide) (hts _ k_X6_get_3) (fun _ h9 => h9) rfl dX6_get_26 ?_
      refine lv_bipush (v := 80) hx hb dX6_get_29 (by decide) ?_
      refine lv_iload_n hx hb dX6_get_31 rfl (lv_at hl 1 rfl) ?_
      refine lv_imul hx hb dX6_get_32 ?_
      refine lv_iload_n hx hb dX6_get_33 rfl (lv_at hl 2 rfl) ?_
      refine lv_iadd hx hb dX6_get_34 ?_
      obtain ⟨hi, hm⟩ := gk_ix_some hm
      refine va_lald hx hb hK hP 2 1 rfl rfl hi dX6_get_35 ?_
      refine lv_goto (tgt := 42) hx hb dX6_get_36 (by decide) ?_
      rw [kr _ (Option.some.inj hm).symm]
      exact gk_lret C ⟨hP, hD, hS⟩ dX6_get_42
def m_X6_get (f_many : (Nat → Int32)) (f_items : (Nat → Int64)) (x1 : Int32) (x2 : Int32) : Option (Int64) := m_X6_get_0 f_many f_items x1 x2
theorem c_X6_get (l : Launch) (G : gk_G) (a0 a1 a2 a3 a4 a5 a6 a7 a8 a9 a10 a11 a12 a13 a14 a15 a16 a17 a18 a19 a20 a21 : Nat) (f_n : Int32) (f_keptN : Int32) (f_side : Int32) (f_rows : Int32) (f_many : (Nat → Int32)) (f_items : (Nat → Int64)) (x1 : Int32) (x2 : Int32) {rv : Int64} (hm : m_X6_get f_many f_items x1 x2 = some rv) : gk_M l yX6_get wsX6_get rm_X6_get false G [.ref a0, .int x1, .int x2] [(a0, .inr (5, [.int f_n, .ref a1, .ref a2, .ref a3, .ref a4, .int f_keptN, .ref a5, .ref a6, .ref a7, .ref a8, .ref a9, .ref a10, .ref a11, .ref a12, .ref a13, .ref a14, .ref a15, .ref a16, .int f_side, .ref a17, .ref a18, .ref a19, .int f_rows, .ref a20, .ref a21])), (a10, gk_I G 4 f_many), (a11, gk_J G 320 f_items)] (some (.long rv)) [(a0, .inr (5, [.int f_n, .ref a1, .ref a2, .ref a3, .ref a4, .int f_keptN, .ref a5, .ref a6, .ref a7, .ref a8, .ref a9, .ref a10, .ref a11, .ref a12, .ref a13, .ref a14, .ref a15, .ref a16, .int f_side, .ref a17, .ref a18, .ref a19, .int f_rows, .ref a20, .ref a21])), (a10, gk_I G 4 f_many), (a11, gk_J G 320 f_items)] :=
  gk_of (by decide) rfl (Nat.le_of_ble_eq_true rfl) (fun p e s m below meth c A ls C h hl => w_X6_get_0 C hm (fun v0 ez => by cases ez; rfl) h (show lv_has ls 3 [(0, .ref a0), (1, .int x1), (2, .int x2)] from hl))

/-! ===== ExchangeFamiliesModel.copy(IIIII)I ===== -/
abbrev rm_X6_copy : Room := { frames := 5, cells := 0, slots := 0, locals := 237 }
theorem k_X6_copy_0 : ∀ w ∈ u_ws RX6 TX6 25, w ∈ wsX6_copy := by decide +kernel
theorem k_X6_copy_1 : Cond.fieldLink RX6 44 "ExchangeFamiliesModel" "sort" "[I" ∈ wsX6_copy := by decide +kernel
theorem k_X6_copy_2 : Cond.fieldLink RX6 47 "ExchangeFamiliesModel" "many" "[I" ∈ wsX6_copy := by decide +kernel
theorem k_X6_copy_3 : Cond.fieldLink RX6 81 "ExchangeFamiliesModel" "moved" "[J" ∈ wsX6_copy := by decide +kernel
theorem k_X6_copy_4 : Cond.fieldLink RX6 50 "ExchangeFamiliesModel" "items" "[J" ∈ wsX6_copy := by decide +kernel
def m_X6_copy_B113 (f_sort : (Nat → Int32)) (f_many : (Nat → Int32)) (f_items : (Nat → Int64)) (x1 : Int32) (x2 : Int32) (x3 : Int32) (x4 : Int32) (x5 : Int32) (x6 : Int32) (f_moved : (Nat → Int64)) : Option ((Int32 × (Nat → Int64)) ⊕ ((Nat → Int64))) := (if x5 ≤ x6 then some (.inr f_moved) else gk_ix ((((80 : Int32) * x1) + x2) + x6) 320 (gk_ix x6 80 (some (.inl (x6 + 1, vp_updL f_moved x6.toNatClampNeg (f_items ((((80 : Int32) * x1) + x2) + x6).toNatClampNeg))))))
set_option maxRecDepth 100000 in
set_option maxHeartbeats 4000000 in
theorem w_X6_copy_B113 {p : Program} {l : Launch} {e : Env} {s : State} {m : MethodId} {args : Array Value} {below : List Frame} {meth : Method} {c : Code} {G : gk_G} {A : Nat → Prop} {Q : State → Prop} {a0 a1 a2 a3 a4 a5 a6 a7 a8 a9 a10 a11 a12 a13 a14 a15 a16 a17 a18 a19 a20 a21 : Nat} (C : gk_C p s m args meth c cX6_copy 7 (some .int) yX6_copy wsX6_copy false G A) {f_sort : (Nat → Int32)} {f_many : (Nat → Int32)} {f_items : (Nat → Int64)} {x1 : Int32} {x2 : Int32} {x3 : Int32} {x4 : Int32} {x5 : Int32} {x6 : Int32} {f_moved : (Nat → Int64)} {f_n : Int32} {f_keptN : Int32} {f_side : Int32} {f_rows : Int32} {yy : (Int32 × (Nat → Int64)) ⊕ ((Nat → Int64))} (hm : m_X6_copy_B113 f_sort f_many f_items x1 x2 x3 x4 x5 x6 f_moved = some yy) (kl : ∀ (x6 : Int32) (f_moved : (Nat → Int64)), yy = .inl (x6, f_moved) → ∀ (H : Heap) (locs : List Loc) (ls : Array Slot), gk_H G A s [(a0, .inr (5, [.int f_n, .ref a1, .ref a2, .ref a3, .ref a4, .int f_keptN, .ref a5, .ref a6, .ref a7, .ref a8, .ref a9, .ref a10, .ref a11, .ref a12, .ref a13, .ref a14, .ref a15, .ref a16, .int f_side, .ref a17, .ref a18, .ref a19, .int f_rows, .ref a20, .ref a21])), (a9, gk_I G 4 f_sort), (a10, gk_I G 4 f_many), (a11, gk_J G 320 f_items), (a21, gk_J G 80 f_moved)] H locs → lv_has ls 7 [(0, .ref a0), (1, .int x1), (2, .int x2), (3, .int x3), (4, .int x4), (5, .int x5), (6, .int x6)] → W p l e rm_X6_copy s m args below meth c H locs 0 0 Q (F0 m 113 ls [])) (kx : ∀ (f_moved : (Nat → Int64)), yy = .inr f_moved → ∀ (H : Heap) (locs : List Loc) (ls : Array Slot), gk_H G A s [(a0, .inr (5, [.int f_n, .ref a1, .ref a2, .ref a3, .ref a4, .int f_keptN, .ref a5, .ref a6, .ref a7, .ref a8, .ref a9, .ref a10, .ref a11, .ref a12, .ref a13, .ref a14, .ref a15, .ref a16, .int f_side, .ref a17, .ref a18, .ref a19, .int f_rows, .ref a20, .ref a21])), (a9, gk_I G 4 f_sort), (a10, gk_I G 4 f_many), (a11, gk_J G 320 f_items), (a21, gk_J G 80 f_moved)] H locs → lv_has ls 7 [(0, .ref a0), (3, .int x3), (4, .int x4), (5, .int x5)] → W p l e rm_X6_copy s m args below meth c H locs 0 0 Q (F0 m 147 ls [])) {H : Heap} {locs : List Loc} {ls : Array Slot} (h : gk_H G A s [(a0, .inr (5, [.int f_n, .ref a1, .ref a2, .ref a3, .ref a4, .int f_keptN, .ref a5, .ref a6, .ref a7, .ref a8, .ref a9, .ref a10, .ref a11, .ref a12, .ref a13, .ref a14, .ref a15, .ref a16, .int f_side, .ref a17, .ref a18, .ref a19, .int f_rows, .ref a20, .ref a21])), (a9, gk_I G 4 f_sort), (a10, gk_I G 4 f_many), (a11, gk_J G 320 f_items), (a21, gk_J G 80 f_moved)] H locs) (hl : lv_has ls 7 [(0, .ref a0), (1, .int x1), (2, .int x2), (3, .int x3), (4, .int x4), (5, .int x5), (6, .int x6)]) : W p l e rm_X6_copy s m args below meth c H locs 0 0 Q (F0 m 113 ls []) := by
  obtain ⟨hx, hb, hml, hr, hown, hnm, hts, hlk, hK, hSt, hA⟩ := id C
  obtain ⟨hP, hD, hS⟩ := h
  unfold m_X6_copy_B113 at hm
  refine lv_iload hx hb dX6_copy_113 (lv_at hl 6 rfl) ?_
  refine lv_iload hx hb dX6_copy_115 (lv_at hl 5 rfl) ?_
  refine lv_icmp_ge (tgt := 147) hx hb dX6_copy_117 (by decide) (fun c25 => ?_) (fun c25 => ?_)
  · have hm := gk_it c25 hm
    exact kx _ (Option.some.inj hm).symm _ _ _ ⟨hP, hD, hS⟩ (lv_sub hl [0, 3, 4, 5] rfl)
  · have hm := gk_if c25 hm
    refine lv_aload_n hx hb dX6_copy_120 rfl (lv_at hl 0 rfl) ?_
    refine va_get (D := G.1) (cl := vwCl) (own := RX6) (ref := "ExchangeFamiliesModel") (ci := 5) (v := .ref a21) (C := RX6) (T := TX6) (N := 25) hx hb hts k_X6_copy_0 hown hK hP 0 rfl rfl 24 (by decide) (hts _ k_X6_copy_3) (fun _ h9 => h9) rfl dX6_copy_121 ?_
    refine lv_iload hx hb dX6_copy_124 (lv_at hl 6 rfl) ?_
    refine lv_aload_n hx hb dX6_copy_126 rfl (lv_at hl 0 rfl) ?_
    refine va_get (D := G.1) (cl := vwCl) (own := RX6) (ref := "ExchangeFamiliesModel") (ci := 5) (v := .ref a11) (C := RX6) (T := TX6) (N := 25) hx hb hts k_X6_copy_0 hown hK hP 0 rfl rfl 12 (by decide) (hts _ k_X6_copy_4) (fun _ h9 => h9) rfl dX6_copy_127 ?_
    refine lv_bipush (v := 80) hx hb dX6_copy_130 (by decide) ?_
    refine lv_iload_n hx hb dX6_copy_132 rfl (lv_at hl 1 rfl) ?_
    refine lv_imul hx hb dX6_copy_133 ?_
    refine lv_iload_n hx hb dX6_copy_134 rfl (lv_at hl 2 rfl) ?_
    refine lv_iadd hx hb dX6_copy_135 ?_
    refine lv_iload hx hb dX6_copy_136 (lv_at hl 6 rfl) ?_
    refine lv_iadd hx hb dX6_copy_138 ?_
    obtain ⟨hi, hm⟩ := gk_ix_some hm
    refine va_lald hx hb hK hP 3 1 rfl rfl hi dX6_copy_139 ?_
    obtain ⟨hi, hm⟩ := gk_ix_some hm
    refine va_last hx hb hK hP hD hS 4 1 rfl rfl hi dX6_copy_140 (fun H locs hP hD hS => ?_)
    have hP : va_P G.1 vwCl [(a0, .inr (5, [.int f_n, .ref a1, .ref a2, .ref a3, .ref a4, .int f_keptN, .ref a5, .ref a6, .ref a7, .ref a8, .ref a9, .ref a10, .ref a11, .ref a12, .ref a13, .ref a14, .ref a15, .ref a16, .int f_side, .ref a17, .ref a18, .ref a19, .int f_rows, .ref a20, .ref a21])), (a9, gk_I G 4 f_sort), (a10, gk_I G 4 f_many), (a11, gk_J G 320 f_items), (a21, gk_J G 80 (vp_updL f_moved x6.toNatClampNeg (f_items ((((80 : Int32) * x1) + x2) + x6).toNatClampNeg)))] H := hP
    have hD : va_D A [(a0, .inr (5, [.int f_n, .ref a1, .ref a2, .ref a3, .ref a4, .int f_keptN, .ref a5, .ref a6, .ref a7, .ref a8, .ref a9, .ref a10, .ref a11, .ref a12, .ref a13, .ref a14, .ref a15, .ref a16, .int f_side, .ref a17, .ref a18, .ref a19, .int f_rows, .ref a20, .ref a21])), (a9, gk_I G 4 f_sort), (a10, gk_I G 4 f_many), (a11, gk_J G 320 f_items), (a21, gk_J G 80 (vp_updL f_moved x6.toNatClampNeg (f_items ((((80 : Int32) * x1) + x2) + x6).toNatClampNeg)))] := hD
    refine lv_iinc (v := x6 + 1) (lv' := [(6, .int (x6 + 1)), (0, .ref a0), (1, .int x1), (2, .int x2), (3, .int x3), (4, .int x4), (5, .int x5)]) hx hb dX6_copy_141 hl (k := 6) rfl rfl (by decide) rfl (fun ls hl => ?_)
    refine lv_goto (tgt := 113) hx hb dX6_copy_144 (by decide) ?_
    exact kl _ _ (Option.some.inj hm).symm _ _ _ ⟨hP, hD, hS⟩ (lv_sub hl [1, 2, 3, 4, 5, 6, 0] rfl)
set_option maxRecDepth 100000 in
set_option maxHeartbeats 4000000 in
theorem w_X6_copy_L113 {p : Program} {l : Launch} {e : Env} {s : State} {m : MethodId} {args : Array Value} {below : List Frame} {meth : Method} {c : Code} {G : gk_G} {A : Nat → Prop} {Q : State → Prop} {a0 a1 a2 a3 a4 a5 a6 a7 a8 a9 a10 a11 a12 a13 a14 a15 a16 a17 a18 a19 a20 a21 : Nat} (C : gk_C p s m args meth c cX6_copy 7 (some .int) yX6_copy wsX6_copy false G A) {f_sort : (Nat → Int32)} {f_many : (Nat → Int32)} {f_items : (Nat → Int64)} {x1 : Int32} {x2 : Int32} {x3 : Int32} {x4 : Int32} {x5 : Int32} {x6 : Int32} {f_moved : (Nat → Int64)} {f_n : Int32} {f_keptN : Int32} {f_side : Int32} {f_rows : Int32} {k : Nat} {e_f_moved : (Nat → Int64)} (hm : gk_lp (fun z => m_X6_copy_B113 f_sort f_many f_items x1 x2 x3 x4 x5 z.1 z.2) k (x6, f_moved) = some e_f_moved) (kx : ∀ (H : Heap) (locs : List Loc) (ls : Array Slot), gk_H G A s [(a0, .inr (5, [.int f_n, .ref a1, .ref a2, .ref a3, .ref a4, .int f_keptN, .ref a5, .ref a6, .ref a7, .ref a8, .ref a9, .ref a10, .ref a11, .ref a12, .ref a13, .ref a14, .ref a15, .ref a16, .int f_side, .ref a17, .ref a18, .ref a19, .int f_rows, .ref a20, .ref a21])), (a9, gk_I G 4 f_sort), (a10, gk_I G 4 f_many), (a11, gk_J G 320 f_items), (a21, gk_J G 80 e_f_moved)] H locs → lv_has ls 7 [(0, .ref a0), (3, .int x3), (4, .int x4), (5, .int x5)] → W p l e rm_X6_copy s m args below meth c H locs 0 0 Q (F0 m 147 ls [])) {H : Heap} {locs : List Loc} {ls : Array Slot} (h : gk_H G A s [(a0, .inr (5, [.int f_n, .ref a1, .ref a2, .ref a3, .ref a4, .int f_keptN, .ref a5, .ref a6, .ref a7, .ref a8, .ref a9, .ref a10, .ref a11, .ref a12, .ref a13, .ref a14, .ref a15, .ref a16, .int f_side, .ref a17, .ref a18, .ref a19, .int f_rows, .ref a20, .ref a21])), (a9, gk_I G 4 f_sort), (a10, gk_I G 4 f_many), (a11, gk_J G 320 f_items), (a21, gk_J G 80 f_moved)] H locs) (hl : lv_has ls 7 [(0, .ref a0), (1, .int x1), (2, .int x2), (3, .int x3), (4, .int x4), (5, .int x5), (6, .int x6)]) : W p l e rm_X6_copy s m args below meth c H locs 0 0 Q (F0 m 113 ls []) :=
  gk_lp_some (P := fun z => ∀ (H : Heap) (locs : List Loc) (ls : Array Slot), gk_H G A s [(a0, .inr (5, [.int f_n, .ref a1, .ref a2, .ref a3, .ref a4, .int f_keptN, .ref a5, .ref a6, .ref a7, .ref a8, .ref a9, .ref a10, .ref a11, .ref a12, .ref a13, .ref a14, .ref a15, .ref a16, .int f_side, .ref a17, .ref a18, .ref a19, .int f_rows, .ref a20, .ref a21])), (a9, gk_I G 4 f_sort), (a10, gk_I G 4 f_many), (a11, gk_J G 320 f_items), (a21, gk_J G 80 z.2)] H locs → lv_has ls 7 [(0, .ref a0), (1, .int x1), (2, .int x2), (3, .int x3), (4, .int x4), (5, .int x5), (6, .int z.1)] → W p l e rm_X6_copy s m args below meth c H locs 0 0 Q (F0 m 113 ls [])) (E := fun r => (∀ (f_moved : (Nat → Int64)), r = f_moved → ∀ (H : Heap) (locs : List Loc) (ls : Array Slot), gk_H G A s [(a0, .inr (5, [.int f_n, .ref a1, .ref a2, .ref a3, .ref a4, .int f_keptN, .ref a5, .ref a6, .ref a7, .ref a8, .ref a9, .ref a10, .ref a11, .ref a12, .ref a13, .ref a14, .ref a15, .ref a16, .int f_side, .ref a17, .ref a18, .ref a19, .int f_rows, .ref a20, .ref a21])), (a9, gk_I G 4 f_sort), (a10, gk_I G 4 f_many), (a11, gk_J G 320 f_items), (a21, gk_J G 80 f_moved)] H locs → lv_has ls 7 [(0, .ref a0), (3, .int x3), (4, .int x4), (5, .int x5)] → W p l e rm_X6_copy s m args below meth c H locs 0 0 Q (F0 m 147 ls []))) (fun z x hf kl ke H locs ls h hl => w_X6_copy_B113 C hf (fun v0 v1 ez => kl (v0, v1) ez) (fun v0 ez => ke _ ez v0 rfl) h hl) k (x6, f_moved) _ hm (fun v0 ez => (by cases ez; exact kx)) _ _ _ h hl
def m_X6_copy_B150 (f_sort : (Nat → Int32)) (f_many : (Nat → Int32)) (f_moved : (Nat → Int64)) (x3 : Int32) (x4 : Int32) (x5 : Int32) (x6 : Int32) (f_items : (Nat → Int64)) : Option ((Int32 × (Nat → Int64)) ⊕ ((Nat → Int64))) := (if x5 ≤ x6 then some (.inr f_items) else gk_ix x6 80 (gk_ix ((((80 : Int32) * x3) + x4) + x6) 320 (some (.inl (x6 + 1, vp_updL f_items ((((80 : Int32) * x3) + x4) + x6).toNatClampNeg (f_moved x6.toNatClampNeg))))))
set_option maxRecDepth 100000 in
set_option maxHeartbeats 4000000 in
theorem w_X6_copy_B150 {p : Program} {l : Launch} {e : Env} {s : State} {m : MethodId} {args : Array Value} {below : List Frame} {meth : Method} {c : Code} {G : gk_G} {A : Nat → Prop} {Q : State → Prop} {a0 a1 a2 a3 a4 a5 a6 a7 a8 a9 a10 a11 a12 a13 a14 a15 a16 a17 a18 a19 a20 a21 : Nat} (C : gk_C p s m args meth c cX6_copy 7 (some .int) yX6_copy wsX6_copy false G A) {f_sort : (Nat → Int32)} {f_many : (Nat → Int32)} {f_moved : (Nat → Int64)} {x3 : Int32} {x4 : Int32} {x5 : Int32} {x6 : Int32} {f_items : (Nat → Int64)} {f_n : Int32} {f_keptN : Int32} {f_side : Int32} {f_rows : Int32} {yy : (Int32 × (Nat → Int64)) ⊕ ((Nat → Int64))} (hm : m_X6_copy_B150 f_sort f_many f_moved x3 x4 x5 x6 f_items = some yy) (kl : ∀ (x6 : Int32) (f_items : (Nat → Int64)), yy = .inl (x6, f_items) → ∀ (H : Heap) (locs : List Loc) (ls : Array Slot), gk_H G A s [(a0, .inr (5, [.int f_n, .ref a1, .ref a2, .ref a3, .ref a4, .int f_keptN, .ref a5, .ref a6, .ref a7, .ref a8, .ref a9, .ref a10, .ref a11, .ref a12, .ref a13, .ref a14, .ref a15, .ref a16, .int f_side, .ref a17, .ref a18, .ref a19, .int f_rows, .ref a20, .ref a21])), (a9, gk_I G 4 f_sort), (a10, gk_I G 4 f_many), (a11, gk_J G 320 f_items), (a21, gk_J G 80 f_moved)] H locs → lv_has ls 7 [(0, .ref a0), (3, .int x3), (4, .int x4), (5, .int x5), (6, .int x6)] → W p l e rm_X6_copy s m args below meth c H locs 0 0 Q (F0 m 150 ls [])) (kx : ∀ (f_items : (Nat → Int64)), yy = .inr f_items → ∀ (H : Heap) (locs : List Loc) (ls : Array Slot), gk_H G A s [(a0, .inr (5, [.int f_n, .ref a1, .ref a2, .ref a3, .ref a4, .int f_keptN, .ref a5, .ref a6, .ref a7, .ref a8, .ref a9, .ref a10, .ref a11, .ref a12, .ref a13, .ref a14, .ref a15, .ref a16, .int f_side, .ref a17, .ref a18, .ref a19, .int f_rows, .ref a20, .ref a21])), (a9, gk_I G 4 f_sort), (a10, gk_I G 4 f_many), (a11, gk_J G 320 f_items), (a21, gk_J G 80 f_moved)] H locs → lv_has ls 7 [(5, .int x5)] → W p l e rm_X6_copy s m args below meth c H locs 0 0 Q (F0 m 185 ls [])) {H : Heap} {locs : List Loc} {ls : Array Slot} (h : gk_H G A s [(a0, .inr (5, [.int f_n, .ref a1, .ref a2, .ref a3, .ref a4, .int f_keptN, .ref a5, .ref a6, .ref a7, .ref a8, .ref a9, .ref a10, .ref a11, .ref a12, .ref a13, .ref a14, .ref a15, .ref a16, .int f_side, .ref a17, .ref a18, .ref a19, .int f_rows, .ref a20, .ref a21])), (a9, gk_I G 4 f_sort), (a10, gk_I G 4 f_many), (a11, gk_J G 320 f_items), (a21, gk_J G 80 f_moved)] H locs) (hl : lv_has ls 7 [(0, .ref a0), (3, .int x3), (4, .int x4), (5, .int x5), (6, .int x6)]) : W p l e rm_X6_copy s m args below meth c H locs 0 0 Q (F0 m 150 ls []) := by
  obtain ⟨hx, hb, hml, hr, hown, hnm, hts, hlk, hK, hSt, hA⟩ := id C
  obtain ⟨hP, hD, hS⟩ := h
  unfold m_X6_copy_B150 at hm
  refine lv_iload hx hb dX6_copy_150 (lv_at hl 4 rfl) ?_
  refine lv_iload hx hb dX6_copy_152 (lv_at hl 3 rfl) ?_
  refine lv_icmp_ge (tgt := 185) hx hb dX6_copy_154 (by decide) (fun c27 => ?_) (fun c27 => ?_)
  · have hm := gk_it c27 hm
    exact kx _ (Option.some.inj hm).symm _ _ _ ⟨hP, hD, hS⟩ (lv_sub hl [3] rfl)
  · have hm := gk_if c27 hm
    refine lv_aload_n hx hb dX6_copy_157 rfl (lv_at hl 0 rfl) ?_
    refine va_get (D := G.1) (cl := vwCl) (own := RX6) (ref := "ExchangeFamiliesModel") (ci := 5) (v := .ref a11) (C := RX6) (T := TX6) (N := 25) hx hb hts k_X6_copy_0 hown hK hP 0 rfl rfl 12 (by decide) (hts _ k_X6_copy_4) (fun _ h9 => h9) rfl dX6_copy_158 ?_
    refine lv_bipush (v := 80) hx hb dX6_copy_161 (by decide) ?_
    refine lv_iload_n hx hb dX6_copy_163 rfl (lv_at hl 1 rfl) ?_
    refine lv_imul hx hb dX6_copy_164 ?_
    refine lv_iload hx hb dX6_copy_165 (lv_at hl 2 rfl) ?_
    refine lv_iadd hx hb dX6_copy_167 ?_
    refine lv_iload hx hb dX6_copy_168 (lv_at hl 4 rfl) ?_
    refine lv_iadd hx hb dX6_copy_170 ?_
    refine lv_aload_n hx hb dX6_copy_171 rfl (lv_at hl 0 rfl) ?_
    refine va_get (D := G.1) (cl := vwCl) (own := RX6) (ref := "ExchangeFamiliesModel") (ci := 5) (v := .ref a21) (C := RX6) (T := TX6) (N := 25) hx hb hts k_X6_copy_0 hown hK hP 0 rfl rfl 24 (by decide) (hts _ k_X6_copy_3) (fun _ h9 => h9) rfl dX6_copy_172 ?_
    refine lv_iload hx hb dX6_copy_175 (lv_at hl 4 rfl) ?_
    obtain ⟨hi, hm⟩ := gk_ix_some hm
    refine va_lald hx hb hK hP 4 1 rfl rfl hi dX6_copy_177 ?_
    obtain ⟨hi, hm⟩ := gk_ix_some hm
    refine va_last hx hb hK hP hD hS 3 1 rfl rfl hi dX6_copy_178 (fun H locs hP hD hS => ?_)
    have hP : va_P G.1 vwCl [(a0, .inr (5, [.int f_n, .ref a1, .ref a2, .ref a3, .ref a4, .int f_keptN, .ref a5, .ref a6, .ref a7, .ref a8, .ref a9, .ref a10, .ref a11, .ref a12, .ref a13, .ref a14, .ref a15, .ref a16, .int f_side, .ref a17, .ref a18, .ref a19, .int f_rows, .ref a20, .ref a21])), (a9, gk_I G 4 f_sort), (a10, gk_I G 4 f_many), (a11, gk_J G 320 (vp_updL f_items ((((80 : Int32) * x3) + x4) + x6).toNatClampNeg (f_moved x6.toNatClampNeg))), (a21, gk_J G 80 f_moved)] H := hP
    have hD : va_D A [(a0, .inr (5, [.int f_n, .ref a1, .ref a2, .ref a3, .ref a4, .int f_keptN, .ref a5, .ref a6, .ref a7, .ref a8, .ref a9, .ref a10, .ref a11, .ref a12, .ref a13, .ref a14, .ref a15, .ref a16, .int f_side, .ref a17, .ref a18, .ref a19, .int f_rows, .ref a20, .ref a21])), (a9, gk_I G 4 f_sort), (a10, gk_I G 4 f_many), (a11, gk_J G 320 (vp_updL f_items ((((80 : Int32) * x3) + x4) + x6).toNatClampNeg (f_moved x6.toNatClampNeg))), (a21, gk_J G 80 f_moved)] := hD
    refine lv_iinc (v := x6 + 1) (lv' := [(6, .int (x6 + 1)), (0, .ref a0), (3, .int x3), (4, .int x4), (5, .int x5)]) hx hb dX6_copy_179 hl (k := 4) rfl rfl (by decide) rfl (fun ls hl => ?_)
    refine lv_goto (tgt := 150) hx hb dX6_copy_182 (by decide) ?_
    exact kl _ _ (Option.some.inj hm).symm _ _ _ ⟨hP, hD, hS⟩ (lv_sub hl [1, 2, 3, 4, 0] rfl)
set_option maxRecDepth 100000 in
set_option maxHeartbeats 4000000 in
theorem w_X6_copy_L150 {p : Program} {l : Launch} {e : Env} {s : State} {m : MethodId} {args : Array Value} {below : List Frame} {meth : Method} {c : Code} {G : gk_G} {A : Nat → Prop} {Q : State → Prop} {a0 a1 a2 a3 a4 a5 a6 a7 a8 a9 a10 a11 a12 a13 a14 a15 a16 a17 a18 a19 a20 a21 : Nat} (C : gk_C p s m args meth c cX6_copy 7 (some .int) yX6_copy wsX6_copy false G A) {f_sort : (Nat → Int32)} {f_many : (Nat → Int32)} {f_moved : (Nat → Int64)} {x3 : Int32} {x4 : Int32} {x5 : Int32} {x6 : Int32} {f_items : (Nat → Int64)} {f_n : Int32} {f_keptN : Int32} {f_side : Int32} {f_rows : Int32} {k : Nat} {e_f_items : (Nat → Int64)} (hm : gk_lp (fun z => m_X6_copy_B150 f_sort f_many f_moved x3 x4 x5 z.1 z.2) k (x6, f_items) = some e_f_items) (kx : ∀ (H : Heap) (locs : List Loc) (ls : Array Slot), gk_H G A s [(a0, .inr (5, [.int f_n, .ref a1, .ref a2, .ref a3, .ref a4, .int f_keptN, .ref a5, .ref a6, .ref a7, .ref a8, .ref a9, .ref a10, .ref a11, .ref a12, .ref a13, .ref a14, .ref a15, .ref a16, .int f_side, .ref a17, .ref a18, .ref a19, .int f_rows, .ref a20, .ref a21])), (a9, gk_I G 4 f_sort), (a10, gk_I G 4 f_many), (a11, gk_J G 320 e_f_items), (a21, gk_J G 80 f_moved)] H locs → lv_has ls 7 [(5, .int x5)] → W p l e rm_X6_copy s m args below meth c H locs 0 0 Q (F0 m 185 ls [])) {H : Heap} {locs : List Loc} {ls : Array Slot} (h : gk_H G A s [(a0, .inr (5, [.int f_n, .ref a1, .ref a2, .ref a3, .ref a4, .int f_keptN, .ref a5, .ref a6, .ref a7, .ref a8, .ref a9, .ref a10, .ref a11, .ref a12, .ref a13, .ref a14, .ref a15, .ref a16, .int f_side, .ref a17, .ref a18, .ref a19, .int f_rows, .ref a20, .ref a21])), (a9, gk_I G 4 f_sort), (a10, gk_I G 4 f_many), (a11, gk_J G 320 f_items), (a21, gk_J G 80 f_moved)] H locs) (hl : lv_has ls 7 [(0, .ref a0), (3, .int x3), (4, .int x4), (5, .int x5), (6, .int x6)]) : W p l e rm_X6_copy s m args below meth c H locs 0 0 Q (F0 m 150 ls []) :=
  gk_lp_some (P := fun z => ∀ (H : Heap) (locs : List Loc) (ls : Array Slot), gk_H G A s [(a0, .inr (5, [.int f_n, .ref a1, .ref a2, .ref a3, .ref a4, .int f_keptN, .ref a5, .ref a6, .ref a7, .ref a8, .ref a9, .ref a10, .ref a11, .ref a12, .ref a13, .ref a14, .ref a15, .ref a16, .int f_side, .ref a17, .ref a18, .ref a19, .int f_rows, .ref a20, .ref a21])), (a9, gk_I G 4 f_sort), (a10, gk_I G 4 f_many), (a11, gk_J G 320 z.2), (a21, gk_J G 80 f_moved)] H locs → lv_has ls 7 [(0, .ref a0), (3, .int x3), (4, .int x4), (5, .int x5), (6, .int z.1)] → W p l e rm_X6_copy s m args below meth c H locs 0 0 Q (F0 m 150 ls [])) (E := fun r => (∀ (f_items : (Nat → Int64)), r = f_items → ∀ (H : Heap) (locs : List Loc) (ls : Array Slot), gk_H G A s [(a0, .inr (5, [.int f_n, .ref a1, .ref a2, .ref a3, .ref a4, .int f_keptN, .ref a5, .ref a6, .ref a7, .ref a8, .ref a9, .ref a10, .ref a11, .ref a12, .ref a13, .ref a14, .ref a15, .ref a16, .int f_side, .ref a17, .ref a18, .ref a19, .int f_rows, .ref a20, .ref a21])), (a9, gk_I G 4 f_sort), (a10, gk_I G 4 f_many), (a11, gk_J G 320 f_items), (a21, gk_J G 80 f_moved)] H locs → lv_has ls 7 [(5, .int x5)] → W p l e rm_X6_copy s m args below meth c H locs 0 0 Q (F0 m 185 ls []))) (fun z x hf kl ke H locs ls h hl => w_X6_copy_B150 C hf (fun v0 v1 ez => kl (v0, v1) ez) (fun v0 ez => ke _ ez v0 rfl) h hl) k (x6, f_items) _ hm (fun v0 ez => (by cases ez; exact kx)) _ _ _ h hl
def m_X6_copy_0 (f_sort : (Nat → Int32)) (f_many : (Nat → Int32)) (f_items : (Nat → Int64)) (f_moved : (Nat → Int64)) (x1 : Int32) (x2 : Int32) (x3 : Int32) (x4 : Int32) (x5 : Int32) : Option (Int32 × (Nat → Int64) × (Nat → Int64)) := gk_bd1 (m_X6_isRow x1) (fun r13 => (if r13 = (0 : Int32) then some ((-2 : Int32), f_items, f_moved) else gk_bd1 (m_X6_isRow x3) (fun r15 => (if r15 = (0 : Int32) then some ((-2 : Int32), f_items, f_moved) else gk_ix x1 4 ((if (f_sort x1.toNatClampNeg) = (-1 : Int32) then some ((-11 : Int32), f_items, f_moved) else gk_ix x3 4 ((if (f_sort x3.toNatClampNeg) = (-1 : Int32) then some ((-11 : Int32), f_items, f_moved) else gk_ix x1 4 (gk_ix x3 4 ((if (f_sort x1.toNatClampNeg) = (f_sort x3.toNatClampNeg) then (if x5 < (0 : Int32) then some ((-12 : Int32), f_items, f_moved) else (if x2 < (0 : Int32) then some ((-12 : Int32), f_items, f_moved) else (if x4 < (0 : Int32) then some ((-12 : Int32), f_items, f_moved) else gk_ix x1 4 ((if (0 : Int32) < (lg_cmp (x2.toInt64 + x5.toInt64) ((f_many x1.toNatClampNeg).toInt64)) then some ((-12 : Int32), f_items, f_moved) else gk_ix x3 4 ((if (lg_cmp (x4.toInt64 + x5.toInt64) ((f_many x3.toNatClampNeg).toInt64)) ≤ (0 : Int32) then gk_bd1 (gk_lp (fun z => m_X6_copy_B113 f_sort f_many f_items x1 x2 x3 x4 x5 z.1 z.2) gk_fu ((0 : Int32), f_moved)) (fun e26 => gk_bd1 (gk_lp (fun z => m_X6_copy_B150 f_sort f_many e26 x3 x4 x5 z.1 z.2) gk_fu ((0 : Int32), f_items)) (fun e28 => some (x5, e28, e26))) else some ((-12 : Int32), f_items, f_moved)))))))) else some ((-13 : Int32), f_items, f_moved))))))))))))
set_option maxRecDepth 100000 in
set_option maxHeartbeats 4000000 in
theorem w_X6_copy_0 {p : Program} {l : Launch} {e : Env} {s : State} {m : MethodId} {args : Array Value} {below : List Frame} {meth : Method} {c : Code} {G : gk_G} {A : Nat → Prop} {Q : State → Prop} {a0 a1 a2 a3 a4 a5 a6 a7 a8 a9 a10 a11 a12 a13 a14 a15 a16 a17 a18 a19 a20 a21 : Nat} (C : gk_C p s m args meth c cX6_copy 7 (some .int) yX6_copy wsX6_copy false G A) {f_sort : (Nat → Int32)} {f_many : (Nat → Int32)} {f_items : (Nat → Int64)} {f_moved : (Nat → Int64)} {x1 : Int32} {x2 : Int32} {x3 : Int32} {x4 : Int32} {x5 : Int32} {f_n : Int32} {f_keptN : Int32} {f_side : Int32} {f_rows : Int32} {yy : Int32 × (Nat → Int64) × (Nat → Int64)} (hm : m_X6_copy_0 f_sort f_many f_items f_moved x1 x2 x3 x4 x5 = some yy) (kr : ∀ (rv : Int32) (g_items : (Nat → Int64)) (g_moved : (Nat → Int64)), yy = (rv, g_items, g_moved) → Q = MQ below (gk_Q G (some (.int rv)) [(a0, .inr (5, [.int f_n, .ref a1, .ref a2, .ref a3, .ref a4, .int f_keptN, .ref a5, .ref a6, .ref a7, .ref a8, .ref a9, .ref a10, .ref a11, .ref a12, .ref a13, .ref a14, .ref a15, .ref a16, .int f_side, .ref a17, .ref a18, .ref a19, .int f_rows, .ref a20, .ref a21])), (a9, gk_I G 4 f_sort), (a10, gk_I G 4 f_many), (a11, gk_J G 320 g_items), (a21, gk_J G 80 g_moved)] A) args s 0 0 A) {H : Heap} {locs : List Loc} {ls : Array Slot} (h : gk_H G A s [(a0, .inr (5, [.int f_n, .ref a1, .ref a2, .ref a3, .ref a4, .int f_keptN, .ref a5, .ref a6, .ref a7, .ref a8, .ref a9, .ref a10, .ref a11, .ref a12, .ref a13, .ref a14, .ref a15, .ref a16, .int f_side, .ref a17, .ref a18, .ref a19, .int f_rows, .ref a20, .ref a21])), (a9, gk_I G 4 f_sort), (a10, gk_I G 4 f_many), (a11, gk_J G 320 f_items), (a21, gk_J G 80 f_moved)] H locs) (hl : lv_has ls 7 [(0, .ref a0), (1, .int x1), (2, .int x2), (3, .int x3), (4, .int x4), (5, .int x5)]) : W p l e rm_X6_copy s m args below meth c H locs 0 0 Q (F0 m 0 ls []) := by
  obtain ⟨hx, hb, hml, hr, hown, hnm, hts, hlk, hK, hSt, hA⟩ := id C
  obtain ⟨hP, hD, hS⟩ := h
  unfold m_X6_copy_0 at hm
  refine lv_iload_n hx hb dX6_copy_0 rfl (lv_at hl 1 rfl) ?_
  obtain ⟨r13, hq, hm⟩ := gk_bd1_some hm
  refine gk_callS (n := 1) (bytes := cX6_isRow) (maxL := 1) (ret := (some .boolean)) [(a0, .inr (5, [.int f_n, .ref a1, .ref a2, .ref a3, .ref a4, .int f_keptN, .ref a5, .ref a6, .ref a7, .ref a8, .ref a9, .ref a10, .ref a11, .ref a12, .ref a13, .ref a14, .ref a15, .ref a16, .int f_side, .ref a17, .ref a18, .ref a19, .int f_rows, .ref a20, .ref a21])), (a9, gk_I G 4 f_sort), (a10, gk_I G 4 f_many), (a11, gk_J G 320 f_items), (a21, gk_J G 80 f_moved)] [(a0, .inr (5, [.int f_n, .ref a1, .ref a2, .ref a3, .ref a4, .int f_keptN, .ref a5, .ref a6, .ref a7, .ref a8, .ref a9, .ref a10, .ref a11, .ref a12, .ref a13, .ref a14, .ref a15, .ref a16, .int f_side, .ref a17, .ref a18, .ref a19, .int f_rows, .ref a20, .ref a21])), (a9, gk_I G 4 f_sort), (a10, gk_I G 4 f_many), (a11, gk_J G 320 f_items), (a21, gk_J G 80 f_moved)] [] C ⟨hP, hD, hS⟩ (c_X6_isRow l G x1 hq) gX6_copy_X6_isRow dX6_copy_1 hl.1 [] [0, 1, 2, 3, 4] [0, 1, 2, 3, 4] rfl ⟨rfl, rfl⟩ ⟨Nat.le_of_ble_eq_true rfl, Nat.le_of_ble_eq_true rfl⟩ ⟨by decide +kernel, by decide +kernel, by decide +kernel⟩ rfl (fun h => by cases h) (Nat.le_of_ble_eq_true rfl) rfl rfl rfl rfl (by decide) rfl rfl (fun H locs h => ?_)
  obtain ⟨hP, hD, hS⟩ := h
  refine lv_if_eq (tgt := 14) hx hb dX6_copy_4 (by decide) (fun c14 => ?_) (fun c14 => ?_)
  · have hm := gk_it c14 hm
    refine lv_bipush (v := -2) hx hb dX6_copy_14 (by decide) ?_
    rw [kr _ _ _ (Option.some.inj hm).symm]
    exact gk_iret C ⟨hP, hD, hS⟩ dX6_copy_16
  · have hm := gk_if c14 hm
    refine lv_iload_n hx hb dX6_copy_7 rfl (lv_at hl 3 rfl) ?_
    obtain ⟨r15, hq, hm⟩ := gk_bd1_some hm
    refine gk_callS (n := 1) (bytes := cX6_isRow) (maxL := 1) (ret := (some .boolean)) [(a0, .inr (5, [.int f_n, .ref a1, .ref a2, .ref a3, .ref a4, .int f_keptN, .ref a5, .ref a6, .ref a7, .ref a8, .ref a9, .ref a10, .ref a11, .ref a12, .ref a13, .ref a14, .ref a15, .ref a16, .int f_side, .ref a17, .ref a18, .ref a19, .int f_rows, .ref a20, .ref a21])), (a9, gk_I G 4 f_sort), (a10, gk_I G 4 f_many), (a11, gk_J G 320 f_items), (a21, gk_J G 80 f_moved)] [(a0, .inr (5, [.int f_n, .ref a1, .ref a2, .ref a3, .ref a4, .int f_keptN, .ref a5, .ref a6, .ref a7, .ref a8, .ref a9, .ref a10, .ref a11, .ref a12, .ref a13, .ref a14, .ref a15, .ref a16, .int f_side, .ref a17, .ref a18, .ref a19, .int f_rows, .ref a20, .ref a21])), (a9, gk_I G 4 f_sort), (a10, gk_I G 4 f_many), (a11, gk_J G 320 f_items), (a21, gk_J G 80 f_moved)] [] C ⟨hP, hD, hS⟩ (c_X6_isRow l G x3 hq) gX6_copy_X6_isRow dX6_copy_8 hl.1 [] [0, 1, 2, 3, 4] [0, 1, 2, 3, 4] rfl ⟨rfl, rfl⟩ ⟨Nat.le_of_ble_eq_true rfl, Nat.le_of_ble_eq_true rfl⟩ ⟨by decide +kernel, by decide +kernel, by decide +kernel⟩ rfl (fun h => by cases h) (Nat.le_of_ble_eq_true rfl) rfl rfl rfl rfl (by decide) rfl rfl (fun H locs h => ?_)
    obtain ⟨hP, hD, hS⟩ := h
    refine lv_if_ne (tgt := 17) hx hb dX6_copy_11 (by decide) (fun c16 => ?_) (fun c16 => ?_)
    · have hm := gk_if c16 hm
      refine lv_aload_n hx hb dX6_copy_17 rfl (lv_at hl 0 rfl) ?_
      refine va_get (D := G.1) (cl := vwCl) (own := RX6) (ref := "ExchangeFamiliesModel") (ci := 5) (v := .ref a9) (C := RX6) (T := TX6) (N := 25) hx hb hts k_X6_copy_0 hown hK hP 0 rfl rfl 10 (by decide) (hts _ k_X6_copy_1) (fun _ h9 => h9) rfl dX6_copy_18 ?_
      refine lv_iload_n hx hb dX6_copy_21 rfl (lv_at hl 1 rfl) ?_
      obtain ⟨hi, hm⟩ := gk_ix_some hm
      refine va_iald hx hb hK hP 1 0 rfl rfl hi dX6_copy_22 ?_
      refine lv_iconst (v := -1) hx hb dX6_copy_23 (by decide) ?_
      refine lv_icmp_eq (tgt := 37) hx hb dX6_copy_24 (by decide) (fun c17 => ?_) (fun c17 => ?_)
      · have hm := gk_it c17 hm
        refine lv_bipush (v := -11) hx hb dX6_copy_37 (by decide) ?_
        rw [kr _ _ _ (Option.some.inj hm).symm]
        exact gk_iret C ⟨hP, hD, hS⟩ dX6_copy_39
      · have hm := gk_if c17 hm
        refine lv_aload_n hx hb dX6_copy_27 rfl (lv_at hl 0 rfl) ?_
        refine va_get (D := G.1) (cl := vwCl) (own := RX6) (ref := "ExchangeFamiliesModel") (ci := 5) (v := .ref a9) (C := RX6) (T := TX6) (N := 25) hx hb hts k_X6_copy_0 hown hK hP 0 rfl rfl 10 (by decide) (hts _ k_X6_copy_1) (fun _ h9 => h9) rfl dX6_copy_28 ?_
        refine lv_iload_n hx hb dX6_copy_31 rfl (lv_at hl 3 rfl) ?_
        obtain ⟨hi, hm⟩ := gk_ix_some hm
        refine va_iald hx hb hK hP 1 0 rfl rfl hi dX6_copy_32 ?_
        refine lv_iconst (v := -1) hx hb dX6_copy_33 (by decide) ?_
        refine lv_icmp_ne (tgt := 40) hx hb dX6_copy_34 (by decide) (fun c18 => ?_) (fun c18 => ?_)
        · have hm := gk_if c18 hm
          refine lv_aload_n hx hb dX6_copy_40 rfl (lv_at hl 0 rfl) ?_
          refine va_get (D := G.1) (cl := vwCl) (own := RX6) (ref := "ExchangeFamiliesModel") (ci := 5) (v := .ref a9) (C := RX6) (T := TX6) (N := 25) hx hb hts k_X6_copy_0 hown hK hP 0 rfl rfl 10 (by decide) (hts _ k_X6_copy_1) (fun _ h9 => h9) rfl dX6_copy_41 ?_
          refine lv_iload_n hx hb dX6_copy_44 rfl (lv_at hl 1 rfl) ?_
          obtain ⟨hi, hm⟩ := gk_ix_some hm
          refine va_iald hx hb hK hP 1 0 rfl rfl hi dX6_copy_45 ?_
          refine lv_aload_n hx hb dX6_copy_46 rfl (lv_at hl 0 rfl) ?_
          refine va_get (D := G.1) (cl := vwCl) (own := RX6) (ref := "ExchangeFamiliesModel") (ci := 5) (v := .ref a9) (C := RX6) (T := TX6) (N := 25) hx hb hts k_X6_copy_0 hown hK hP 0 rfl rfl 10 (by decide) (hts _ k_X6_copy_1) (fun _ h9 => h9) rfl dX6_copy_47 ?_
          refine lv_iload_n hx hb dX6_copy_50 rfl (lv_at hl 3 rfl) ?_
          obtain ⟨hi, hm⟩ := gk_ix_some hm
          refine va_iald hx hb hK hP 1 0 rfl rfl hi dX6_copy_51 ?_
          refine lv_icmp_eq (tgt := 58) hx hb dX6_copy_52 (by decide) (fun c19 => ?_) (fun c19 => ?_)
          · have hm := gk_it c19 hm
            refine lv_iload hx hb dX6_copy_58 (lv_at hl 5 rfl) ?_
            refine lv_if_lt (tgt := 107) hx hb dX6_copy_60 (by decide) (fun c20 => ?_) (fun c20 => ?_)
            · have hm := gk_it c20 hm
              refine lv_bipush (v := -12) hx hb dX6_copy_107 (by decide) ?_
              rw [kr _ _ _ (Option.some.inj hm).symm]
              exact gk_iret C ⟨hP, hD, hS⟩ dX6_copy_109
            · have hm := gk_if c20 hm
              refine lv_iload_n hx hb dX6_copy_63 rfl (lv_at hl 2 rfl) ?_
              refine lv_if_lt (tgt := 107) hx hb dX6_copy_64 (by decide) (fun c21 => ?_) (fun c21 => ?_)
              · have hm := gk_it c21 hm
                refine lv_bipush (v := -12) hx hb dX6_copy_107 (by decide) ?_
                rw [kr _ _ _ (Option.some.inj hm).symm]
                exact gk_iret C ⟨hP, hD, hS⟩ dX6_copy_109
              · have hm := gk_if c21 hm
                refine lv_iload hx hb dX6_copy_67 (lv_at hl 4 rfl) ?_
                refine lv_if_lt (tgt := 107) hx hb dX6_copy_69 (by decide) (fun c22 => ?_) (fun c22 => ?_)
                · have hm := gk_it c22 hm
                  refine lv_bipush (v := -12) hx hb dX6_copy_107 (by decide) ?_
                  rw [kr _ _ _ (Option.some.inj hm).symm]
                  exact gk_iret C ⟨hP, hD, hS⟩ dX6_copy_109
                · have hm := gk_if c22 hm
                  refine lv_iload_n hx hb dX6_copy_72 rfl (lv_at hl 2 rfl) ?_
                  refine lv_i2l hx hb dX6_copy_73 rfl ?_
                  refine lv_iload hx hb dX6_copy_74 (lv_at hl 5 rfl) ?_
                  refine lv_i2l hx hb dX6_copy_76 rfl ?_
                  refine lv_ladd hx hb dX6_copy_77 ?_
                  refine lv_aload_n hx hb dX6_copy_78 rfl (lv_at hl 0 rfl) ?_
                  refine va_get (D := G.1) (cl := vwCl) (own := RX6) (ref := "ExchangeFamiliesModel") (ci := 5) (v := .ref a10) (C := RX6) (T := TX6) (N := 25) hx hb hts k_X6_copy_0 hown hK hP 0 rfl rfl 11 (by decide) (hts _ k_X6_copy_2) (fun _ h9 => h9) rfl dX6_copy_79 ?_
                  refine lv_iload_n hx hb dX6_copy_82 rfl (lv_at hl 1 rfl) ?_
                  obtain ⟨hi, hm⟩ := gk_ix_some hm
                  refine va_iald hx hb hK hP 2 0 rfl rfl hi dX6_copy_83 ?_
                  refine lv_i2l hx hb dX6_copy_84 rfl ?_
                  refine W.lcmp hx hb dX6_copy_85 ?_
                  refine lv_if_gt (tgt := 107) hx hb dX6_copy_86 (by decide) (fun c23 => ?_) (fun c23 => ?_)
                  · have hm := gk_it c23 hm
                    refine lv_bipush (v := -12) hx hb dX6_copy_107 (by decide) ?_
                    rw [kr _ _ _ (Option.some.inj hm).symm]
                    exact gk_iret C ⟨hP, hD, hS⟩ dX6_copy_109
                  · have hm := gk_if c23 hm
                    refine lv_iload hx hb dX6_copy_89 (lv_at hl 4 rfl) ?_
                    refine lv_i2l hx hb dX6_copy_91 rfl ?_
                    refine lv_iload hx hb dX6_copy_92 (lv_at hl 5 rfl) ?_
                    refine lv_i2l hx hb dX6_copy_94 rfl ?_
                    refine lv_ladd hx hb dX6_copy_95 ?_
                    refine lv_aload_n hx hb dX6_copy_96 rfl (lv_at hl 0 rfl) ?_
                    refine va_get (D := G.1) (cl := vwCl) (own := RX6) (ref := "ExchangeFamiliesModel") (ci := 5) (v := .ref a10) (C := RX6) (T := TX6) (N := 25) hx hb hts k_X6_copy_0 hown hK hP 0 rfl rfl 11 (by decide) (hts _ k_X6_copy_2) (fun _ h9 => h9) rfl dX6_copy_97 ?_
                    refine lv_iload_n hx hb dX6_copy_100 rfl (lv_at hl 3 rfl) ?_
                    obtain ⟨hi, hm⟩ := gk_ix_some hm
                    refine va_iald hx hb hK hP 2 0 rfl rfl hi dX6_copy_101 ?_
                    refine lv_i2l hx hb dX6_copy_102 rfl ?_
                    refine W.lcmp hx hb dX6_copy_103 ?_
                    refine lv_if_le (tgt := 110) hx hb dX6_copy_104 (by decide) (fun c24 => ?_) (fun c24 => ?_)
                    · have hm := gk_it c24 hm
                      refine lv_iconst (v := 0) hx hb dX6_copy_110 (by decide) ?_
                      refine lv_istore (lv' := [(6, .int (0 : Int32)), (0, .ref a0), (1, .int x1), (2, .int x2), (3, .int x3), (4, .int x4), (5, .int x5)]) hx hb dX6_copy_111 hl (by decide) rfl (fun ls hl => ?_)
                      obtain ⟨e26, hq, hm⟩ := gk_bd1_some hm
                      refine w_X6_copy_L113 C hq (fun H locs ls h hl => ?_) ⟨hP, hD, hS⟩ (lv_sub hl [1, 2, 3, 4, 5, 6, 0] rfl)
                      obtain ⟨hP, hD, hS⟩ := h
                      refine lv_iconst (v := 0) hx hb dX6_copy_147 (by decide) ?_
                      refine lv_istore (lv' := [(6, .int (0 : Int32)), (0, .ref a0), (3, .int x3), (4, .int x4), (5, .int x5)]) hx hb dX6_copy_148 hl (by decide) rfl (fun ls hl => ?_)
                      obtain ⟨e28, hq, hm⟩ := gk_bd1_some hm
                      refine w_X6_copy_L150 C hq (fun H locs ls h hl => ?_) ⟨hP, hD, hS⟩ (lv_sub hl [1, 2, 3, 4, 0] rfl)
                      obtain ⟨hP, hD, hS⟩ := h
                      refine lv_iload hx hb dX6_copy_185 (lv_at hl 0 rfl) ?_
                      rw [kr _ _ _ (Option.some.inj hm).symm]
                      exact gk_iret C ⟨hP, hD, hS⟩ dX6_copy_187
                    · have hm := gk_if c24 hm
                      refine lv_bipush (v := -12) hx hb dX6_copy_107 (by decide) ?_
                      rw [kr _ _ _ (Option.some.inj hm).symm]
                      exact gk_iret C ⟨hP, hD, hS⟩ dX6_copy_109
          · have hm := gk_if c19 hm
            refine lv_bipush (v := -13) hx hb dX6_copy_55 (by decide) ?_
            rw [kr _ _ _ (Option.some.inj hm).symm]
            exact gk_iret C ⟨hP, hD, hS⟩ dX6_copy_57
        · have hm := gk_it c18 hm
          refine lv_bipush (v := -11) hx hb dX6_copy_37 (by decide) ?_
          rw [kr _ _ _ (Option.some.inj hm).symm]
          exact gk_iret C ⟨hP, hD, hS⟩ dX6_copy_39
    · have hm := gk_it c16 hm
      refine lv_bipush (v := -2) hx hb dX6_copy_14 (by decide) ?_
      rw [kr _ _ _ (Option.some.inj hm).symm]
      exact gk_iret C ⟨hP, hD, hS⟩ dX6_copy_16
def m_X6_copy (f_sort : (Nat → Int32)) (f_many : (Nat → Int32)) (f_items : (Nat → Int64)) (f_moved : (Nat → Int64)) (x1 : Int32) (x2 : Int32) (x3 : Int32) (x4 : Int32) (x5 : Int32) : Option (Int32 × (Nat → Int64) × (Nat → Int64)) := m_X6_copy_0 f_sort f_many f_items f_moved x1 x2 x3 x4 x5
theorem c_X6_copy (l : Launch) (G : gk_G) (a0 a1 a2 a3 a4 a5 a6 a7 a8 a9 a10 a11 a12 a13 a14 a15 a16 a17 a18 a19 a20 a21 : Nat) (f_n : Int32) (f_keptN : Int32) (f_side : Int32) (f_rows : Int32) (f_sort : (Nat → Int32)) (f_many : (Nat → Int32)) (f_items : (Nat → Int64)) (f_moved : (Nat → Int64)) (x1 : Int32) (x2 : Int32) (x3 : Int32) (x4 : Int32) (x5 : Int32) {rv : Int32} {g_items : (Nat → Int64)} {g_moved : (Nat → Int64)} (hm : m_X6_copy f_sort f_many f_items f_moved x1 x2 x3 x4 x5 = some (rv, g_items, g_moved)) : gk_M l yX6_copy wsX6_copy rm_X6_copy false G [.ref a0, .int x1, .int x2, .int x3, .int x4, .int x5] [(a0, .inr (5, [.int f_n, .ref a1, .ref a2, .ref a3, .ref a4, .int f_keptN, .ref a5, .ref a6, .ref a7, .ref a8, .ref a9, .ref a10, .ref a11, .ref a12, .ref a13, .ref a14, .ref a15, .ref a16, .int f_side, .ref a17, .ref a18, .ref a19, .int f_rows, .ref a20, .ref a21])), (a9, gk_I G 4 f_sort), (a10, gk_I G 4 f_many), (a11, gk_J G 320 f_items), (a21, gk_J G 80 f_moved)] (some (.int rv)) [(a0, .inr (5, [.int f_n, .ref a1, .ref a2, .ref a3, .ref a4, .int f_keptN, .ref a5, .ref a6, .ref a7, .ref a8, .ref a9, .ref a10, .ref a11, .ref a12, .ref a13, .ref a14, .ref a15, .ref a16, .int f_side, .ref a17, .ref a18, .ref a19, .int f_rows, .ref a20, .ref a21])), (a9, gk_I G 4 f_sort), (a10, gk_I G 4 f_many), (a11, gk_J G 320 g_items), (a21, gk_J G 80 g_moved)] :=
  gk_of (by decide) rfl (Nat.le_of_ble_eq_true rfl) (fun p e s m below meth c A ls C h hl => w_X6_copy_0 C hm (fun v0 v1 v2 ez => by cases ez; rfl) h (show lv_has ls 7 [(0, .ref a0), (1, .int x1), (2, .int x2), (3, .int x3), (4, .int x4), (5, .int x5)] from hl))

/-! ===== ExchangeFamiliesModel.lay(II)I ===== -/
abbrev rm_X6_lay : Room := { frames := 5, cells := 0, slots := 0, locals := 240 }
theorem k_X6_lay_0 : ∀ w ∈ u_ws RX6 TX6 25, w ∈ wsX6_lay := by decide +kernel
theorem k_X6_lay_1 : Cond.fieldLink RX6 44 "ExchangeFamiliesModel" "sort" "[I" ∈ wsX6_lay := by decide +kernel
theorem k_X6_lay_2 : Cond.fieldLink RX6 47 "ExchangeFamiliesModel" "many" "[I" ∈ wsX6_lay := by decide +kernel
theorem k_X6_lay_3 : Cond.fieldLink RX6 50 "ExchangeFamiliesModel" "items" "[J" ∈ wsX6_lay := by decide +kernel
theorem k_X6_lay_4 : Cond.fieldLink RX6 9 "ExchangeFamiliesModel" "n" "I" ∈ wsX6_lay := by decide +kernel
def m_X6_lay_B35 (f_n : Int32) (f_members : (Nat → Int64)) (f_kind : (Nat → Int32)) (f_sort : (Nat → Int32)) (f_many : (Nat → Int32)) (f_items : (Nat → Int64)) (x1 : Int32) (x2 : Int32) (x3 : Int64) (x5 : Int32) : Option ((Int64 × Int32) ⊕ (Int64)) := gk_ix x2 4 ((if (f_many x2.toNatClampNeg) ≤ x5 then some (.inr x3) else gk_ix (((80 : Int32) * x2) + x5) 320 (gk_bd1 (m_X6_isIn (f_items (((80 : Int32) * x2) + x5).toNatClampNeg) (0 : Int64) ((((1 : Int32) <<< (f_n &&& 31)) - (1 : Int32)).toInt64)) (fun r12 => (if r12 = (0 : Int32) then some (.inl (x3, x5 + 1)) else some (.inl (x3 ||| ((1 : Int64) <<< (((f_items (((80 : Int32) * x2) + x5).toNatClampNeg).toInt32).toInt64 &&& 63)), x5 + 1)))))))
set_option maxRecDepth 100000 in
set_option maxHeartbeats 4000000 in
theorem w_X6_lay_B35 {p : Program} {l : Launch} {e : Env} {s : State} {m : MethodId} {args : Array Value} {below : List Frame} {meth : Method} {c : Code} {G : gk_G} {A : Nat → Prop} {Q : State → Prop} {a0 a1 a2 a3 a4 a5 a6 a7 a8 a9 a10 a11 a12 a13 a14 a15 a16 a17 a18 a19 a20 a21 : Nat} (C : gk_C p s m args meth c cX6_lay 8 (some .int) yX6_lay wsX6_lay false G A) {f_n : Int32} {f_members : (Nat → Int64)} {f_kind : (Nat → Int32)} {f_sort : (Nat → Int32)} {f_many : (Nat → Int32)} {f_items : (Nat → Int64)} {x1 : Int32} {x2 : Int32} {x3 : Int64} {x5 : Int32} {f_keptN : Int32} {f_side : Int32} {f_rows : Int32} {yy : (Int64 × Int32) ⊕ (Int64)} (hm : m_X6_lay_B35 f_n f_members f_kind f_sort f_many f_items x1 x2 x3 x5 = some yy) (kl : ∀ (x3 : Int64) (x5 : Int32), yy = .inl (x3, x5) → ∀ (H : Heap) (locs : List Loc) (ls : Array Slot), gk_H G A s [(a0, .inr (5, [.int f_n, .ref a1, .ref a2, .ref a3, .ref a4, .int f_keptN, .ref a5, .ref a6, .ref a7, .ref a8, .ref a9, .ref a10, .ref a11, .ref a12, .ref a13, .ref a14, .ref a15, .ref a16, .int f_side, .ref a17, .ref a18, .ref a19, .int f_rows, .ref a20, .ref a21])), (a1, gk_J G 6 f_members), (a2, gk_I G 6 f_kind), (a9, gk_I G 4 f_sort), (a10, gk_I G 4 f_many), (a11, gk_J G 320 f_items)] H locs → lv_has ls 8 [(0, .ref a0), (1, .int x1), (2, .int x2), (3, .long x3), (5, .int x5)] → W p l e rm_X6_lay s m args below meth c H locs 0 0 Q (F0 m 35 ls [])) (kx : ∀ (x3 : Int64), yy = .inr x3 → ∀ (H : Heap) (locs : List Loc) (ls : Array Slot), gk_H G A s [(a0, .inr (5, [.int f_n, .ref a1, .ref a2, .ref a3, .ref a4, .int f_keptN, .ref a5, .ref a6, .ref a7, .ref a8, .ref a9, .ref a10, .ref a11, .ref a12, .ref a13, .ref a14, .ref a15, .ref a16, .int f_side, .ref a17, .ref a18, .ref a19, .int f_rows, .ref a20, .ref a21])), (a1, gk_J G 6 f_members), (a2, gk_I G 6 f_kind), (a9, gk_I G 4 f_sort), (a10, gk_I G 4 f_many), (a11, gk_J G 320 f_items)] H locs → lv_has ls 8 [(0, .ref a0), (1, .int x1), (3, .long x3)] → W p l e rm_X6_lay s m args below meth c H locs 0 0 Q (F0 m 92 ls [])) {H : Heap} {locs : List Loc} {ls : Array Slot} (h : gk_H G A s [(a0, .inr (5, [.int f_n, .ref a1, .ref a2, .ref a3, .ref a4, .int f_keptN, .ref a5, .ref a6, .ref a7, .ref a8, .ref a9, .ref a10, .ref a11, .ref a12, .ref a13, .ref a14, .ref a15, .ref a16, .int f_side, .ref a17, .ref a18, .ref a19, .int f_rows, .ref a20, .ref a21])), (a1, gk_J G 6 f_members), (a2, gk_I G 6 f_kind), (a9, gk_I G 4 f_sort), (a10, gk_I G 4 f_many), (a11, gk_J G 320 f_items)] H locs) (hl : lv_has ls 8 [(0, .ref a0), (1, .int x1), (2, .int x2), (3, .long x3), (5, .int x5)]) : W p l e rm_X6_lay s m args below meth c H locs 0 0 Q (F0 m 35 ls []) := by
  obtain ⟨hx, hb, hml, hr, hown, hnm, hts, hlk, hK, hSt, hA⟩ := id C
  obtain ⟨hP, hD, hS⟩ := h
  unfold m_X6_lay_B35 at hm
  refine lv_iload hx hb dX6_lay_35 (lv_at hl 4 rfl) ?_
  refine lv_aload_n hx hb dX6_lay_37 rfl (lv_at hl 0 rfl) ?_
  refine va_get (D := G.1) (cl := vwCl) (own := RX6) (ref := "ExchangeFamiliesModel") (ci := 5) (v := .ref a10) (C := RX6) (T := TX6) (N := 25) hx hb hts k_X6_lay_0 hown hK hP 0 rfl rfl 11 (by decide) (hts _ k_X6_lay_2) (fun _ h9 => h9) rfl dX6_lay_38 ?_
  refine lv_iload_n hx hb dX6_lay_41 rfl (lv_at hl 2 rfl) ?_
  obtain ⟨hi, hm⟩ := gk_ix_some hm
  refine va_iald hx hb hK hP 4 0 rfl rfl hi dX6_lay_42 ?_
  refine lv_icmp_ge (tgt := 92) hx hb dX6_lay_43 (by decide) (fun c11 => ?_) (fun c11 => ?_)
  · have hm := gk_it c11 hm
    exact kx _ (Option.some.inj hm).symm _ _ _ ⟨hP, hD, hS⟩ (lv_sub hl [0, 1, 3] rfl)
  · have hm := gk_if c11 hm
    refine lv_aload_n hx hb dX6_lay_46 rfl (lv_at hl 0 rfl) ?_
    refine va_get (D := G.1) (cl := vwCl) (own := RX6) (ref := "ExchangeFamiliesModel") (ci := 5) (v := .ref a11) (C := RX6) (T := TX6) (N := 25) hx hb hts k_X6_lay_0 hown hK hP 0 rfl rfl 12 (by decide) (hts _ k_X6_lay_3) (fun _ h9 => h9) rfl dX6_lay_47 ?_
    refine lv_bipush (v := 80) hx hb dX6_lay_50 (by decide) ?_
    refine lv_iload_n hx hb dX6_lay_52 rfl (lv_at hl 2 rfl) ?_
    refine lv_imul hx hb dX6_lay_53 ?_
    refine lv_iload hx hb dX6_lay_54 (lv_at hl 4 rfl) ?_
    refine lv_iadd hx hb dX6_lay_56 ?_
    obtain ⟨hi, hm⟩ := gk_ix_some hm
    refine va_lald hx hb hK hP 5 1 rfl rfl hi dX6_lay_57 ?_
    refine lv_lstore (lv' := [(6, .long (f_items (((80 : Int32) * x2) + x5).toNatClampNeg)), (0, .ref a0), (1, .int x1), (2, .int x2), (3, .long x3), (5, .int x5)]) hx hb dX6_lay_58 hl (by decide) rfl (fun ls hl => ?_)
    refine lv_lload hx hb dX6_lay_60 (lv_at hl 0 rfl) ?_
    refine lv_lconst (v := 0) hx hb dX6_lay_62 (by decide) ?_
    refine lv_iconst (v := 1) hx hb dX6_lay_63 (by decide) ?_
    refine lv_aload_n hx hb dX6_lay_64 rfl (lv_at hl 1 rfl) ?_
    refine va_get (D := G.1) (cl := vwCl) (own := RX6) (ref := "ExchangeFamiliesModel") (ci := 5) (v := .int f_n) (C := RX6) (T := TX6) (N := 25) hx hb hts k_X6_lay_0 hown hK hP 0 rfl rfl 0 (by decide) (hts _ k_X6_lay_4) (fun _ h9 => h9) rfl dX6_lay_65 ?_
    refine lv_ishl hx hb dX6_lay_68 ?_
    refine lv_iconst (v := 1) hx hb dX6_lay_69 (by decide) ?_
    refine lv_isub hx hb dX6_lay_70 ?_
    refine lv_i2l hx hb dX6_lay_71 rfl ?_
    obtain ⟨r12, hq, hm⟩ := gk_bd1_some hm
    refine gk_callS (n := 3) (bytes := cX6_isIn) (maxL := 6) (ret := (some .boolean)) [(a0, .inr (5, [.int f_n, .ref a1, .ref a2, .ref a3, .ref a4, .int f_keptN, .ref a5, .ref a6, .ref a7, .ref a8, .ref a9, .ref a10, .ref a11, .ref a12, .ref a13, .ref a14, .ref a15, .ref a16, .int f_side, .ref a17, .ref a18, .ref a19, .int f_rows, .ref a20, .ref a21])), (a1, gk_J G 6 f_members), (a2, gk_I G 6 f_kind), (a9, gk_I G 4 f_sort), (a10, gk_I G 4 f_many), (a11, gk_J G 320 f_items)] [(a0, .inr (5, [.int f_n, .ref a1, .ref a2, .ref a3, .ref a4, .int f_keptN, .ref a5, .ref a6, .ref a7, .ref a8, .ref a9, .ref a10, .ref a11, .ref a12, .ref a13, .ref a14, .ref a15, .ref a16, .int f_side, .ref a17, .ref a18, .ref a19, .int f_rows, .ref a20, .ref a21])), (a1, gk_J G 6 f_members), (a2, gk_I G 6 f_kind), (a9, gk_I G 4 f_sort), (a10, gk_I G 4 f_many), (a11, gk_J G 320 f_items)] [] C ⟨hP, hD, hS⟩ (c_X6_isIn l G (f_items (((80 : Int32) * x2) + x5).toNatClampNeg) (0 : Int64) ((((1 : Int32) <<< (f_n &&& 31)) - (1 : Int32)).toInt64) hq) gX6_lay_X6_isIn dX6_lay_72 hl.1 [] [0, 1, 2, 3, 4, 5] [0, 1, 2, 3, 4, 5] rfl ⟨rfl, rfl⟩ ⟨Nat.le_of_ble_eq_true rfl, Nat.le_of_ble_eq_true rfl⟩ ⟨by decide +kernel, by decide +kernel, by decide +kernel⟩ rfl (fun h => by cases h) (Nat.le_of_ble_eq_true rfl) rfl rfl rfl rfl (by decide) rfl rfl (fun H locs h => ?_)
    obtain ⟨hP, hD, hS⟩ := h
    refine lv_if_eq (tgt := 86) hx hb dX6_lay_75 (by decide) (fun c13 => ?_) (fun c13 => ?_)
    · have hm := gk_it c13 hm
      refine lv_iinc (v := x5 + 1) (lv' := [(5, .int (x5 + 1)), (6, .long (f_items (((80 : Int32) * x2) + x5).toNatClampNeg)), (0, .ref a0), (1, .int x1), (2, .int x2), (3, .long x3)]) hx hb dX6_lay_86 hl (k := 5) rfl rfl (by decide) rfl (fun ls hl => ?_)
      refine lv_goto (tgt := 35) hx hb dX6_lay_89 (by decide) ?_
      exact kl _ _ (Option.some.inj hm).symm _ _ _ ⟨hP, hD, hS⟩ (lv_sub hl [2, 3, 4, 5, 0] rfl)
    · have hm := gk_if c13 hm
      refine lv_lload_n hx hb dX6_lay_78 rfl (lv_at hl 4 rfl) ?_
      refine lv_lconst (v := 1) hx hb dX6_lay_79 (by decide) ?_
      refine lv_lload hx hb dX6_lay_80 (lv_at hl 0 rfl) ?_
      refine lv_l2i hx hb dX6_lay_82 rfl ?_
      refine lv_lshl hx hb dX6_lay_83 rfl ?_
      refine lv_lor hx hb dX6_lay_84 ?_
      refine lv_lstore_n (lv' := [(3, .long (x3 ||| ((1 : Int64) <<< (((f_items (((80 : Int32) * x2) + x5).toNatClampNeg).toInt32).toInt64 &&& 63)))), (6, .long (f_items (((80 : Int32) * x2) + x5).toNatClampNeg)), (0, .ref a0), (1, .int x1), (2, .int x2), (5, .int x5)]) hx hb dX6_lay_85 rfl hl (by decide) rfl (fun ls hl => ?_)
      refine lv_iinc (v := x5 + 1) (lv' := [(5, .int (x5 + 1)), (3, .long (x3 ||| ((1 : Int64) <<< (((f_items (((80 : Int32) * x2) + x5).toNatClampNeg).toInt32).toInt64 &&& 63)))), (6, .long (f_items (((80 : Int32) * x2) + x5).toNatClampNeg)), (0, .ref a0), (1, .int x1), (2, .int x2)]) hx hb dX6_lay_86 hl (k := 5) rfl rfl (by decide) rfl (fun ls hl => ?_)
      refine lv_goto (tgt := 35) hx hb dX6_lay_89 (by decide) ?_
      exact kl _ _ (Option.some.inj hm).symm _ _ _ ⟨hP, hD, hS⟩ (lv_sub hl [3, 4, 5, 1, 0] rfl)
set_option maxRecDepth 100000 in
set_option maxHeartbeats 4000000 in
theorem w_X6_lay_L35 {p : Program} {l : Launch} {e : Env} {s : State} {m : MethodId} {args : Array Value} {below : List Frame} {meth : Method} {c : Code} {G : gk_G} {A : Nat → Prop} {Q : State → Prop} {a0 a1 a2 a3 a4 a5 a6 a7 a8 a9 a10 a11 a12 a13 a14 a15 a16 a17 a18 a19 a20 a21 : Nat} (C : gk_C p s m args meth c cX6_lay 8 (some .int) yX6_lay wsX6_lay false G A) {f_n : Int32} {f_members : (Nat → Int64)} {f_kind : (Nat → Int32)} {f_sort : (Nat → Int32)} {f_many : (Nat → Int32)} {f_items : (Nat → Int64)} {x1 : Int32} {x2 : Int32} {x3 : Int64} {x5 : Int32} {f_keptN : Int32} {f_side : Int32} {f_rows : Int32} {k : Nat} {e_x3 : Int64} (hm : gk_lp (fun z => m_X6_lay_B35 f_n f_members f_kind f_sort f_many f_items x1 x2 z.1 z.2) k (x3, x5) = some e_x3) (kx : ∀ (H : Heap) (locs : List Loc) (ls : Array Slot), gk_H G A s [(a0, .inr (5, [.int f_n, .ref a1, .ref a2, .ref a3, .ref a4, .int f_keptN, .ref a5, .ref a6, .ref a7, .ref a8, .ref a9, .ref a10, .ref a11, .ref a12, .ref a13, .ref a14, .ref a15, .ref a16, .int f_side, .ref a17, .ref a18, .ref a19, .int f_rows, .ref a20, .ref a21])), (a1, gk_J G 6 f_members), (a2, gk_I G 6 f_kind), (a9, gk_I G 4 f_sort), (a10, gk_I G 4 f_many), (a11, gk_J G 320 f_items)] H locs → lv_has ls 8 [(0, .ref a0), (1, .int x1), (3, .long e_x3)] → W p l e rm_X6_lay s m args below meth c H locs 0 0 Q (F0 m 92 ls [])) {H : Heap} {locs : List Loc} {ls : Array Slot} (h : gk_H G A s [(a0, .inr (5, [.int f_n, .ref a1, .ref a2, .ref a3, .ref a4, .int f_keptN, .ref a5, .ref a6, .ref a7, .ref a8, .ref a9, .ref a10, .ref a11, .ref a12, .ref a13, .ref a14, .ref a15, .ref a16, .int f_side, .ref a17, .ref a18, .ref a19, .int f_rows, .ref a20, .ref a21])), (a1, gk_J G 6 f_members), (a2, gk_I G 6 f_kind), (a9, gk_I G 4 f_sort), (a10, gk_I G 4 f_many), (a11, gk_J G 320 f_items)] H locs) (hl : lv_has ls 8 [(0, .ref a0), (1, .int x1), (2, .int x2), (3, .long x3), (5, .int x5)]) : W p l e rm_X6_lay s m args below meth c H locs 0 0 Q (F0 m 35 ls []) :=
  gk_lp_some (P := fun z => ∀ (H : Heap) (locs : List Loc) (ls : Array Slot), gk_H G A s [(a0, .inr (5, [.int f_n, .ref a1, .ref a2, .ref a3, .ref a4, .int f_keptN, .ref a5, .ref a6, .ref a7, .ref a8, .ref a9, .ref a10, .ref a11, .ref a12, .ref a13, .ref a14, .ref a15, .ref a16, .int f_side, .ref a17, .ref a18, .ref a19, .int f_rows, .ref a20, .ref a21])), (a1, gk_J G 6 f_members), (a2, gk_I G 6 f_kind), (a9, gk_I G 4 f_sort), (a10, gk_I G 4 f_many), (a11, gk_J G 320 f_items)] H locs → lv_has ls 8 [(0, .ref a0), (1, .int x1), (2, .int x2), (3, .long z.1), (5, .int z.2)] → W p l e rm_X6_lay s m args below meth c H locs 0 0 Q (F0 m 35 ls [])) (E := fun r => (∀ (x3 : Int64), r = x3 → ∀ (H : Heap) (locs : List Loc) (ls : Array Slot), gk_H G A s [(a0, .inr (5, [.int f_n, .ref a1, .ref a2, .ref a3, .ref a4, .int f_keptN, .ref a5, .ref a6, .ref a7, .ref a8, .ref a9, .ref a10, .ref a11, .ref a12, .ref a13, .ref a14, .ref a15, .ref a16, .int f_side, .ref a17, .ref a18, .ref a19, .int f_rows, .ref a20, .ref a21])), (a1, gk_J G 6 f_members), (a2, gk_I G 6 f_kind), (a9, gk_I G 4 f_sort), (a10, gk_I G 4 f_many), (a11, gk_J G 320 f_items)] H locs → lv_has ls 8 [(0, .ref a0), (1, .int x1), (3, .long x3)] → W p l e rm_X6_lay s m args below meth c H locs 0 0 Q (F0 m 92 ls []))) (fun z x hf kl ke H locs ls h hl => w_X6_lay_B35 C hf (fun v0 v1 ez => kl (v0, v1) ez) (fun v0 ez => ke _ ez v0 rfl) h hl) k (x3, x5) _ hm (fun v0 ez => (by cases ez; exact kx)) _ _ _ h hl
def m_X6_lay_0 (f_n : Int32) (f_members : (Nat → Int64)) (f_kind : (Nat → Int32)) (f_sort : (Nat → Int32)) (f_many : (Nat → Int32)) (f_items : (Nat → Int64)) (x1 : Int32) (x2 : Int32) : Option (Int32 × (Nat → Int64) × (Nat → Int32)) := gk_bd1 (m_X6_isFamily x1) (fun r6 => (if r6 = (0 : Int32) then some ((-2 : Int32), f_members, f_kind) else gk_bd1 (m_X6_isRow x2) (fun r8 => (if r8 = (0 : Int32) then some ((-2 : Int32), f_members, f_kind) else gk_ix x2 4 ((if (f_sort x2.toNatClampNeg) = (-1 : Int32) then some ((-11 : Int32), f_members, f_kind) else gk_bd1 (gk_lp (fun z => m_X6_lay_B35 f_n f_members f_kind f_sort f_many f_items x1 x2 z.1 z.2) gk_fu ((0 : Int64), (0 : Int32))) (fun e14 => gk_bd3 (m_X6_becomes f_members f_kind x1 (0 : Int32) e14) (fun r15 r16 r17 => some (r15, r16, r17)))))))))
set_option maxRecDepth 100000 in
set_option maxHeartbeats 4000000 in
theorem w_X6_lay_0 {p : Program} {l : Launch} {e : Env} {s : State} {m : MethodId} {args : Array Value} {below : List Frame} {meth : Method} {c : Code} {G : gk_G} {A : Nat → Prop} {Q : State → Prop} {a0 a1 a2 a3 a4 a5 a6 a7 a8 a9 a10 a11 a12 a13 a14 a15 a16 a17 a18 a19 a20 a21 : Nat} (C : gk_C p s m args meth c cX6_lay 8 (some .int) yX6_lay wsX6_lay false G A) {f_n : Int32} {f_members : (Nat → Int64)} {f_kind : (Nat → Int32)} {f_sort : (Nat → Int32)} {f_many : (Nat → Int32)} {f_items : (Nat → Int64)} {x1 : Int32} {x2 : Int32} {f_keptN : Int32} {f_side : Int32} {f_rows : Int32} {yy : Int32 × (Nat → Int64) × (Nat → Int32)} (hm : m_X6_lay_0 f_n f_members f_kind f_sort f_many f_items x1 x2 = some yy) (kr : ∀ (rv : Int32) (g_members : (Nat → Int64)) (g_kind : (Nat → Int32)), yy = (rv, g_members, g_kind) → Q = MQ below (gk_Q G (some (.int rv)) [(a0, .inr (5, [.int f_n, .ref a1, .ref a2, .ref a3, .ref a4, .int f_keptN, .ref a5, .ref a6, .ref a7, .ref a8, .ref a9, .ref a10, .ref a11, .ref a12, .ref a13, .ref a14, .ref a15, .ref a16, .int f_side, .ref a17, .ref a18, .ref a19, .int f_rows, .ref a20, .ref a21])), (a1, gk_J G 6 g_members), (a2, gk_I G 6 g_kind), (a9, gk_I G 4 f_sort), (a10, gk_I G 4 f_many), (a11, gk_J G 320 f_items)] A) args s 0 0 A) {H : Heap} {locs : List Loc} {ls : Array Slot} (h : gk_H G A s [(a0, .inr (5, [.int f_n, .ref a1, .ref a2, .ref a3, .ref a4, .int f_keptN, .ref a5, .ref a6, .ref a7, .ref a8, .ref a9, .ref a10, .ref a11, .ref a12, .ref a13, .ref a14, .ref a15, .ref a16, .int f_side, .ref a17, .ref a18, .ref a19, .int f_rows, .ref a20, .ref a21])), (a1, gk_J G 6 f_members), (a2, gk_I G 6 f_kind), (a9, gk_I G 4 f_sort), (a10, gk_I G 4 f_many), (a11, gk_J G 320 f_items)] H locs) (hl : lv_has ls 8 [(0, .ref a0), (1, .int x1), (2, .int x2)]) : W p l e rm_X6_lay s m args below meth c H locs 0 0 Q (F0 m 0 ls []) := by
  obtain ⟨hx, hb, hml, hr, hown, hnm, hts, hlk, hK, hSt, hA⟩ := id C
  obtain ⟨hP, hD, hS⟩ := h
  unfold m_X6_lay_0 at hm
  refine lv_iload_n hx hb dX6_lay_0 rfl (lv_at hl 1 rfl) ?_
  obtain ⟨r6, hq, hm⟩ := gk_bd1_some hm
  refine gk_callS (n := 1) (bytes := cX6_isFamily) (maxL := 1) (ret := (some .boolean)) [(a0, .inr (5, [.int f_n, .ref a1, .ref a2, .ref a3, .ref a4, .int f_keptN, .ref a5, .ref a6, .ref a7, .ref a8, .ref a9, .ref a10, .ref a11, .ref a12, .ref a13, .ref a14, .ref a15, .ref a16, .int f_side, .ref a17, .ref a18, .ref a19, .int f_rows, .ref a20, .ref a21])), (a1, gk_J G 6 f_members), (a2, gk_I G 6 f_kind), (a9, gk_I G 4 f_sort), (a10, gk_I G 4 f_many), (a11, gk_J G 320 f_items)] [(a0, .inr (5, [.int f_n, .ref a1, .ref a2, .ref a3, .ref a4, .int f_keptN, .ref a5, .ref a6, .ref a7, .ref a8, .ref a9, .ref a10, .ref a11, .ref a12, .ref a13, .ref a14, .ref a15, .ref a16, .int f_side, .ref a17, .ref a18, .ref a19, .int f_rows, .ref a20, .ref a21])), (a1, gk_J G 6 f_members), (a2, gk_I G 6 f_kind), (a9, gk_I G 4 f_sort), (a10, gk_I G 4 f_many), (a11, gk_J G 320 f_items)] [] C ⟨hP, hD, hS⟩ (c_X6_isFamily l G x1 hq) gX6_lay_X6_isFamily dX6_lay_1 hl.1 [] [0, 1, 2, 3, 4, 5] [0, 1, 2, 3, 4, 5] rfl ⟨rfl, rfl⟩ ⟨Nat.le_of_ble_eq_true rfl, Nat.le_of_ble_eq_true rfl⟩ ⟨by decide +kernel, by decide +kernel, by decide +kernel⟩ rfl (fun h => by cases h) (Nat.le_of_ble_eq_true rfl) rfl rfl rfl rfl (by decide) rfl rfl (fun H locs h => ?_)
  obtain ⟨hP, hD, hS⟩ := h
  refine lv_if_eq (tgt := 14) hx hb dX6_lay_4 (by decide) (fun c7 => ?_) (fun c7 => ?_)
  · have hm := gk_it c7 hm
    refine lv_bipush (v := -2) hx hb dX6_lay_14 (by decide) ?_
    rw [kr _ _ _ (Option.some.inj hm).symm]
    exact gk_iret C ⟨hP, hD, hS⟩ dX6_lay_16
  · have hm := gk_if c7 hm
    refine lv_iload_n hx hb dX6_lay_7 rfl (lv_at hl 2 rfl) ?_
    obtain ⟨r8, hq, hm⟩ := gk_bd1_some hm
    refine gk_callS (n := 1) (bytes := cX6_isRow) (maxL := 1) (ret := (some .boolean)) [(a0, .inr (5, [.int f_n, .ref a1, .ref a2, .ref a3, .ref a4, .int f_keptN, .ref a5, .ref a6, .ref a7, .ref a8, .ref a9, .ref a10, .ref a11, .ref a12, .ref a13, .ref a14, .ref a15, .ref a16, .int f_side, .ref a17, .ref a18, .ref a19, .int f_rows, .ref a20, .ref a21])), (a1, gk_J G 6 f_members), (a2, gk_I G 6 f_kind), (a9, gk_I G 4 f_sort), (a10, gk_I G 4 f_many), (a11, gk_J G 320 f_items)] [(a0, .inr (5, [.int f_n, .ref a1, .ref a2, .ref a3, .ref a4, .int f_keptN, .ref a5, .ref a6, .ref a7, .ref a8, .ref a9, .ref a10, .ref a11, .ref a12, .ref a13, .ref a14, .ref a15, .ref a16, .int f_side, .ref a17, .ref a18, .ref a19, .int f_rows, .ref a20, .ref a21])), (a1, gk_J G 6 f_members), (a2, gk_I G 6 f_kind), (a9, gk_I G 4 f_sort), (a10, gk_I G 4 f_many), (a11, gk_J G 320 f_items)] [] C ⟨hP, hD, hS⟩ (c_X6_isRow l G x2 hq) gX6_lay_X6_isRow dX6_lay_8 hl.1 [] [0, 1, 2, 3, 4, 5] [0, 1, 2, 3, 4, 5] rfl ⟨rfl, rfl⟩ ⟨Nat.le_of_ble_eq_true rfl, Nat.le_of_ble_eq_true rfl⟩ ⟨by decide +kernel, by decide +kernel, by decide +kernel⟩ rfl (fun h => by cases h) (Nat.le_of_ble_eq_true rfl) rfl rfl rfl rfl (by decide) rfl rfl (fun H locs h => ?_)
    obtain ⟨hP, hD, hS⟩ := h
    refine lv_if_ne (tgt := 17) hx hb dX6_lay_11 (by decide) (fun c9 => ?_) (fun c9 => ?_)
    · have hm := gk_if c9 hm
      refine lv_aload_n hx hb dX6_lay_17 rfl (lv_at hl 0 rfl) ?_
      refine va_get (D := G.1) (cl := vwCl) (own := RX6) (ref := "ExchangeFamiliesModel") (ci := 5) (v := .ref a9) (C := RX6) (T := TX6) (N := 25) hx hb hts k_X6_lay_0 hown hK hP 0 rfl rfl 10 (by decide) (hts _ k_X6_lay_1) (fun _ h9 => h9) rfl dX6_lay_18 ?_
      refine lv_iload_n hx hb dX6_lay_21 rfl (lv_at hl 2 rfl) ?_
      obtain ⟨hi, hm⟩ := gk_ix_some hm
      refine va_iald hx hb hK hP 3 0 rfl rfl hi dX6_lay_22 ?_
      refine lv_iconst (v := -1) hx hb dX6_lay_23 (by decide) ?_
      refine lv_icmp_ne (tgt := 30) hx hb dX6_lay_24 (by decide) (fun c10 => ?_) (fun c10 => ?_)
      · have hm := gk_if c10 hm
        refine lv_lconst (v := 0) hx hb dX6_lay_30 (by decide) ?_
        refine lv_lstore_n (lv' := [(3, .long (0 : Int64)), (0, .ref a0), (1, .int x1), (2, .int x2)]) hx hb dX6_lay_31 rfl hl (by decide) rfl (fun ls hl => ?_)
        refine lv_iconst (v := 0) hx hb dX6_lay_32 (by decide) ?_
        refine lv_istore (lv' := [(5, .int (0 : Int32)), (3, .long (0 : Int64)), (0, .ref a0), (1, .int x1), (2, .int x2)]) hx hb dX6_lay_33 hl (by decide) rfl (fun ls hl => ?_)
        obtain ⟨e14, hq, hm⟩ := gk_bd1_some hm
        refine w_X6_lay_L35 C hq (fun H locs ls h hl => ?_) ⟨hP, hD, hS⟩ (lv_sub hl [2, 3, 4, 1, 0] rfl)
        obtain ⟨hP, hD, hS⟩ := h
        refine lv_aload_n hx hb dX6_lay_92 rfl (lv_at hl 0 rfl) ?_
        refine lv_iload_n hx hb dX6_lay_93 rfl (lv_at hl 1 rfl) ?_
        refine lv_iconst (v := 0) hx hb dX6_lay_94 (by decide) ?_
        refine lv_lload_n hx hb dX6_lay_95 rfl (lv_at hl 2 rfl) ?_
        obtain ⟨r15, r16, r17, hq, hm⟩ := gk_bd3_some hm
        refine gk_callV (n := 3) (bytes := cX6_becomes) (maxL := 5) (ret := (some .int)) (Cn := RX6) (T := TX6) (N := 25) [(a9, gk_I G 4 f_sort), (a10, gk_I G 4 f_many), (a11, gk_J G 320 f_items)] [(a0, .inr (5, [.int f_n, .ref a1, .ref a2, .ref a3, .ref a4, .int f_keptN, .ref a5, .ref a6, .ref a7, .ref a8, .ref a9, .ref a10, .ref a11, .ref a12, .ref a13, .ref a14, .ref a15, .ref a16, .int f_side, .ref a17, .ref a18, .ref a19, .int f_rows, .ref a20, .ref a21])), (a1, gk_J G 6 r16), (a2, gk_I G 6 r17), (a9, gk_I G 4 f_sort), (a10, gk_I G 4 f_many), (a11, gk_J G 320 f_items)] [] C ⟨hP, hD, hS⟩ (c_X6_becomes l G a0 a1 a2 a3 a4 a5 a6 a7 a8 a9 a10 a11 a12 a13 a14 a15 a16 a17 a18 a19 a20 a21 f_n f_keptN f_side f_rows f_members f_kind x1 (0 : Int32) e14 hq) gX6_lay_X6_becomes dX6_lay_96 hl.1 [0, 1, 2] [3, 4, 5] [3, 4, 5, 0, 1, 2] rfl rfl ⟨rfl, rfl⟩ ⟨Nat.le_of_ble_eq_true rfl, Nat.le_of_ble_eq_true rfl⟩ ⟨rfl, by decide +kernel, by decide +kernel, by decide +kernel⟩ rfl (fun h => by cases h) (Nat.le_of_ble_eq_true rfl) rfl rfl rfl rfl (by decide) rfl rfl (fun H locs h => ?_)
        obtain ⟨hP, hD, hS⟩ := h
        rw [kr _ _ _ (Option.some.inj hm).symm]
        exact gk_iret C ⟨hP, hD, hS⟩ dX6_lay_99
      · have hm := gk_it c10 hm
        refine lv_bipush (v := -11) hx hb dX6_lay_27 (by decide) ?_
        rw [kr _ _ _ (Option.some.inj hm).symm]
        exact gk_iret C ⟨hP, hD, hS⟩ dX6_lay_29
    · have hm := gk_it c9 hm
      refine lv_bipush (v := -2) hx hb dX6_lay_14 (by decide) ?_
      rw [kr _ _ _ (Option.some.inj hm).symm]
      exact gk_iret C ⟨hP, hD, hS⟩ dX6_lay_16
def m_X6_lay (f_n : Int32) (f_members : (Nat → Int64)) (f_kind : (Nat → Int32)) (f_sort : (Nat → Int32)) (f_many : (Nat → Int32)) (f_items : (Nat → Int64)) (x1 : Int32) (x2 : Int32) : Option (Int32 × (Nat → Int64) × (Nat → Int32)) := m_X6_lay_0 f_n f_members f_kind f_sort f_many f_items x1 x2
theorem c_X6_lay (l : Launch) (G : gk_G) (a0 a1 a2 a3 a4 a5 a6 a7 a8 a9 a10 a11 a12 a13 a14 a15 a16 a17 a18 a19 a20 a21 : Nat) (f_n : Int32) (f_keptN : Int32) (f_side : Int32) (f_rows : Int32) (f_members : (Nat → Int64)) (f_kind : (Nat → Int32)) (f_sort : (Nat → Int32)) (f_many : (Nat → Int32)) (f_items : (Nat → Int64)) (x1 : Int32) (x2 : Int32) {rv : Int32} {g_members : (Nat → Int64)} {g_kind : (Nat → Int32)} (hm : m_X6_lay f_n f_members f_kind f_sort f_many f_items x1 x2 = some (rv, g_members, g_kind)) : gk_M l yX6_lay wsX6_lay rm_X6_lay false G [.ref a0, .int x1, .int x2] [(a0, .inr (5, [.int f_n, .ref a1, .ref a2, .ref a3, .ref a4, .int f_keptN, .ref a5, .ref a6, .ref a7, .ref a8, .ref a9, .ref a10, .ref a11, .ref a12, .ref a13, .ref a14, .ref a15, .ref a16, .int f_side, .ref a17, .ref a18, .ref a19, .int f_rows, .ref a20, .ref a21])), (a1, gk_J G 6 f_members), (a2, gk_I G 6 f_kind), (a9, gk_I G 4 f_sort), (a10, gk_I G 4 f_many), (a11, gk_J G 320 f_items)] (some (.int rv)) [(a0, .inr (5, [.int f_n, .ref a1, .ref a2, .ref a3, .ref a4, .int f_keptN, .ref a5, .ref a6, .ref a7, .ref a8, .ref a9, .ref a10, .ref a11, .ref a12, .ref a13, .ref a14, .ref a15, .ref a16, .int f_side, .ref a17, .ref a18, .ref a19, .int f_rows, .ref a20, .ref a21])), (a1, gk_J G 6 g_members), (a2, gk_I G 6 g_kind), (a9, gk_I G 4 f_sort), (a10, gk_I G 4 f_many), (a11, gk_J G 320 f_items)] :=
  gk_of (by decide) rfl (Nat.le_of_ble_eq_true rfl) (fun p e s m below meth c A ls C h hl => w_X6_lay_0 C hm (fun v0 v1 v2 ez => by cases ez; rfl) h (show lv_has ls 8 [(0, .ref a0), (1, .int x1), (2, .int x2)] from hl))

