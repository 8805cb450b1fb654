/-! ===== the law from its entry ===== -/
def lw_ad (l : List Nat) : Nat → Nat := fun k => l.getD k 0
set_option maxRecDepth 20000 in
theorem lw_t0 : Cond.initialized "ExchangeFamilies" ∈ lw_tbl := gk_in (ws := [Cond.initialized "ExchangeFamilies"]) [46] (by decide +kernel) _ List.mem_cons_self
set_option maxRecDepth 20000 in
theorem lw_t1 : Cond.instantiable RX1 5 ∈ lw_tbl := gk_in (ws := [Cond.instantiable RX1 5]) [67] (by decide +kernel) _ List.mem_cons_self
set_option maxRecDepth 20000 in
theorem lw_t2 : Cond.instantiable RX2 3 ∈ lw_tbl := gk_in (ws := [Cond.instantiable RX2 3]) [131] (by decide +kernel) _ List.mem_cons_self
set_option maxRecDepth 20000 in
theorem lw_t3 : Cond.instantiable RX3 3 ∈ lw_tbl := gk_in (ws := [Cond.instantiable RX3 3]) [111] (by decide +kernel) _ List.mem_cons_self
set_option maxRecDepth 20000 in
theorem lw_t4 : Cond.instantiable RX4 1 ∈ lw_tbl := gk_in (ws := [Cond.instantiable RX4 1]) [73] (by decide +kernel) _ List.mem_cons_self
set_option maxRecDepth 20000 in
theorem lw_t5 : Cond.instantiable RX5 6 ∈ lw_tbl := gk_in (ws := [Cond.instantiable RX5 6]) [59] (by decide +kernel) _ List.mem_cons_self
set_option maxRecDepth 20000 in
theorem lw_t6 : Cond.instantiable RX6 25 ∈ lw_tbl := gk_in (ws := [Cond.instantiable RX6 25]) [635] (by decide +kernel) _ List.mem_cons_self
set_option maxRecDepth 20000 in
theorem lw_t7 : Cond.arrayClass .int ∈ lw_tbl := gk_in (ws := [Cond.arrayClass .int]) [83] (by decide +kernel) _ List.mem_cons_self
set_option maxRecDepth 20000 in
theorem lw_t8 : Cond.arrayClass .long ∈ lw_tbl := gk_in (ws := [Cond.arrayClass .long]) [82] (by decide +kernel) _ List.mem_cons_self
set_option maxRecDepth 20000 in
theorem lw_t9 : Cond.arrayClass .boolean ∈ lw_tbl := gk_in (ws := [Cond.arrayClass .boolean]) [716] (by decide +kernel) _ List.mem_cons_self
set_option maxRecDepth 20000 in
theorem lw_t10 : Cond.arrayOver (.object "ExchangeFamilies$Numbers") ∈ lw_tbl := gk_in (ws := [Cond.arrayOver (.object "ExchangeFamilies$Numbers")]) [130] (by decide +kernel) _ List.mem_cons_self
set_option maxRecDepth 20000 in
theorem lw_t11 : Cond.laysStatic "ExchangeFamilies" "HAVING" "[J" ∈ lw_tbl := gk_in (ws := [Cond.laysStatic "ExchangeFamilies" "HAVING" "[J"]) [277] (by decide +kernel) _ List.mem_cons_self
set_option maxRecDepth 20000 in
theorem lw_t12 : Cond.laysStatic "ExchangeFamilies" "INVERSE" "[I" ∈ lw_tbl := gk_in (ws := [Cond.laysStatic "ExchangeFamilies" "INVERSE" "[I"]) [254] (by decide +kernel) _ List.mem_cons_self
set_option maxRecDepth 20000 in
theorem lw_t13 : Cond.laysStatic "ExchangeFamilies" "ABOVE" "[I" ∈ lw_tbl := gk_in (ws := [Cond.laysStatic "ExchangeFamilies" "ABOVE" "[I"]) [367] (by decide +kernel) _ List.mem_cons_self
set_option maxRecDepth 20000 in
theorem lw_t14 : Cond.fieldLinkNest "ExchangeFamilies$Family" 15 "ExchangeFamilies" "HAVING" "[J" "ExchangeFamilies" ∈ lw_tbl := gk_in (ws := [Cond.fieldLinkNest "ExchangeFamilies$Family" 15 "ExchangeFamilies" "HAVING" "[J" "ExchangeFamilies"]) [276] (by decide +kernel) _ List.mem_cons_self
set_option maxRecDepth 20000 in
theorem lw_t15 : Cond.fieldLinkNest "ExchangeFamilies$Ground" 69 "ExchangeFamilies" "HAVING" "[J" "ExchangeFamilies" ∈ lw_tbl := gk_in (ws := [Cond.fieldLinkNest "ExchangeFamilies$Ground" 69 "ExchangeFamilies" "HAVING" "[J" "ExchangeFamilies"]) [428] (by decide +kernel) _ List.mem_cons_self
set_option maxRecDepth 20000 in
theorem lw_t16 : Cond.fieldLinkNest "ExchangeFamilies$Table" 43 "ExchangeFamilies" "INVERSE" "[I" "ExchangeFamilies" ∈ lw_tbl := gk_in (ws := [Cond.fieldLinkNest "ExchangeFamilies$Table" 43 "ExchangeFamilies" "INVERSE" "[I" "ExchangeFamilies"]) [253] (by decide +kernel) _ List.mem_cons_self
set_option maxRecDepth 20000 in
theorem lw_t17 : Cond.methodLinkNest "ExchangeFamilies" 216 yX0_areAlike "ExchangeFamilies" ∈ lw_tbl := gk_in (ws := [Cond.methodLinkNest "ExchangeFamilies" 216 yX0_areAlike "ExchangeFamilies"]) [534] (by decide +kernel) _ List.mem_cons_self
set_option maxRecDepth 20000 in
theorem lw_t18 : Cond.methodLinkNest "ExchangeFamilies" 27 yX4_init "ExchangeFamilies" ∈ lw_tbl := gk_in (ws := [Cond.methodLinkNest "ExchangeFamilies" 27 yX4_init "ExchangeFamilies"]) [109] (by decide +kernel) _ List.mem_cons_self
set_option maxRecDepth 20000 in
theorem lw_t19 : Cond.methodLinkNest "ExchangeFamilies" 45 yX2_init "ExchangeFamilies" ∈ lw_tbl := gk_in (ws := [Cond.methodLinkNest "ExchangeFamilies" 45 yX2_init "ExchangeFamilies"]) [132] (by decide +kernel) _ List.mem_cons_self
set_option maxRecDepth 20000 in
theorem lw_t20 : Cond.methodLinkNest "ExchangeFamilies$Ground" 28 yX4_init "ExchangeFamilies" ∈ lw_tbl := gk_in (ws := [Cond.methodLinkNest "ExchangeFamilies$Ground" 28 yX4_init "ExchangeFamilies"]) [74] (by decide +kernel) _ List.mem_cons_self
set_option maxRecDepth 20000 in
theorem lw_l0 : Cond.classLink RL 7 RX5 ∈ wsL_law := gk_in (ws := [Cond.classLink RL 7 RX5]) [0] (by decide +kernel) _ List.mem_cons_self
set_option maxRecDepth 20000 in
theorem lw_l1 : Cond.instantiable RX5 6 ∈ wsL_law := gk_in (ws := [Cond.instantiable RX5 6]) [1] (by decide +kernel) _ List.mem_cons_self
set_option maxRecDepth 20000 in
theorem lw_l2 : Cond.initialized RX5 ∈ wsL_law := gk_in (ws := [Cond.initialized RX5]) [2] (by decide +kernel) _ List.mem_cons_self
set_option maxRecDepth 20000 in
theorem lw_l3 : Cond.classLink RL 10 RX6 ∈ wsL_law := gk_in (ws := [Cond.classLink RL 10 RX6]) [3] (by decide +kernel) _ List.mem_cons_self
set_option maxRecDepth 20000 in
theorem lw_l4 : Cond.instantiable RX6 25 ∈ wsL_law := gk_in (ws := [Cond.instantiable RX6 25]) [4] (by decide +kernel) _ List.mem_cons_self
set_option maxRecDepth 20000 in
theorem lw_l5 : Cond.initialized RX6 ∈ wsL_law := gk_in (ws := [Cond.initialized RX6]) [5] (by decide +kernel) _ List.mem_cons_self
set_option maxRecDepth 20000 in
theorem lw_l6 : Cond.methodLink RL 9 yX5_init ∈ wsL_law := gk_in (ws := [Cond.methodLink RL 9 yX5_init]) [7] (by decide +kernel) _ List.mem_cons_self
set_option maxRecDepth 20000 in
theorem lw_l7 : Cond.instanceMethod yX5_init ∈ wsL_law := gk_in (ws := [Cond.instanceMethod yX5_init]) [8] (by decide +kernel) _ List.mem_cons_self
set_option maxRecDepth 20000 in
theorem lw_l8 : Cond.methodLink RL 12 yX6_init ∈ wsL_law := gk_in (ws := [Cond.methodLink RL 12 yX6_init]) [67] (by decide +kernel) _ List.mem_cons_self
set_option maxRecDepth 20000 in
theorem lw_l9 : Cond.instanceMethod yX6_init ∈ wsL_law := gk_in (ws := [Cond.instanceMethod yX6_init]) [68] (by decide +kernel) _ List.mem_cons_self
theorem lw_prim {s : State} {args : Array Value} {ty : FieldType} (h : (Cond.arrayClass ty).before args s = true) : ∃ cA : ClassId, ArrOfT s cA ty ∧ s.vm.findClass ("[" ++ ty.toString) = some cA := by
  obtain ⟨cA, kA, comp, h1, h2, h3⟩ := Cond.arrayClass_spec h
  exact ⟨cA, fun n z => ⟨fun k h => (by cases h), kA, h2, comp, h3⟩, h1⟩
theorem lw_refs {s : State} {C : String} (h : va_AO C s) : ∃ cA : ClassId, ArrOfT s cA (.object C) ∧ va_RA s cA (.object C) := by
  obtain ⟨comp, cA, kA, h1, h2, h3, h4, h5⟩ := Cond.arrayOver_spec h
  exact ⟨cA, fun n z => ⟨fun k h => (by cases h), kA, h3, comp, h4⟩, kA, comp, h3, h4, h1, h5⟩
theorem lw_stHAVING {s : State} {args : Array Value} (hgv : (Jvm.Cond.and given_1 narrow_1).before args s = true) : ∃ t : Nat, (Term.static "ExchangeFamilies" "HAVING" "[J").eval args s none [] s = some (.ref t) ∧ va_T .long t 6 (fun j => .long (gk_hav j)) (fun q => s.heap.size ≤ q) s s.heap := by
  have hs := flat_of_before _ hgv
  refine va_Tof (by omega) (hs (.arrayOf (.static "ExchangeFamilies" "HAVING" "[J") .long) (by decide +kernel)) (va_eqt (hs (.eq (.length (.static "ExchangeFamilies" "HAVING" "[J")) (.int 6)) (by decide +kernel))) (fun j hj => ?_) (fun a h => Nat.not_le.mpr h)
  match j, hj with
  | 0, _ => exact va_eqtl (hs (.eq (.elem (.static "ExchangeFamilies" "HAVING" "[J") (.int 0)) (.long (-6148914691236517206))) (by decide +kernel))
  | 1, _ => exact va_eqtl (hs (.eq (.elem (.static "ExchangeFamilies" "HAVING" "[J") (.int 1)) (.long (-3689348814741910324))) (by decide +kernel))
  | 2, _ => exact va_eqtl (hs (.eq (.elem (.static "ExchangeFamilies" "HAVING" "[J") (.int 2)) (.long (-1085102592571150096))) (by decide +kernel))
  | 3, _ => exact va_eqtl (hs (.eq (.elem (.static "ExchangeFamilies" "HAVING" "[J") (.int 3)) (.long (-71777214294589696))) (by decide +kernel))
  | 4, _ => exact va_eqtl (hs (.eq (.elem (.static "ExchangeFamilies" "HAVING" "[J") (.int 4)) (.long (-281470681808896))) (by decide +kernel))
  | 5, _ => exact va_eqtl (hs (.eq (.elem (.static "ExchangeFamilies" "HAVING" "[J") (.int 5)) (.long (-4294967296))) (by decide +kernel))
  | j + 6, h => exact absurd h (by omega)
theorem lw_stINVERSE {s : State} {args : Array Value} (hgv : (Jvm.Cond.and given_1 narrow_1).before args s = true) : ∃ t : Nat, (Term.static "ExchangeFamilies" "INVERSE" "[I").eval args s none [] s = some (.ref t) ∧ va_T .int t 7 (fun j => .int (gk_inv j)) (fun q => s.heap.size ≤ q) s s.heap := by
  have hs := flat_of_before _ hgv
  refine va_Tof (by omega) (hs (.arrayOf (.static "ExchangeFamilies" "INVERSE" "[I") .int) (by decide +kernel)) (va_eqt (hs (.eq (.length (.static "ExchangeFamilies" "INVERSE" "[I")) (.int 7)) (by decide +kernel))) (fun j hj => ?_) (fun a h => Nat.not_le.mpr h)
  match j, hj with
  | 0, _ => exact va_eqt (hs (.eq (.elem (.static "ExchangeFamilies" "INVERSE" "[I") (.int 0)) (.int (0))) (by decide +kernel))
  | 1, _ => exact va_eqt (hs (.eq (.elem (.static "ExchangeFamilies" "INVERSE" "[I") (.int 1)) (.int (1))) (by decide +kernel))
  | 2, _ => exact va_eqt (hs (.eq (.elem (.static "ExchangeFamilies" "INVERSE" "[I") (.int 2)) (.int (4))) (by decide +kernel))
  | 3, _ => exact va_eqt (hs (.eq (.elem (.static "ExchangeFamilies" "INVERSE" "[I") (.int 3)) (.int (5))) (by decide +kernel))
  | 4, _ => exact va_eqt (hs (.eq (.elem (.static "ExchangeFamilies" "INVERSE" "[I") (.int 4)) (.int (2))) (by decide +kernel))
  | 5, _ => exact va_eqt (hs (.eq (.elem (.static "ExchangeFamilies" "INVERSE" "[I") (.int 5)) (.int (3))) (by decide +kernel))
  | 6, _ => exact va_eqt (hs (.eq (.elem (.static "ExchangeFamilies" "INVERSE" "[I") (.int 6)) (.int (6))) (by decide +kernel))
  | j + 7, h => exact absurd h (by omega)
theorem lw_stABOVE {s : State} {args : Array Value} (hgv : (Jvm.Cond.and given_1 narrow_1).before args s = true) : ∃ t : Nat, (Term.static "ExchangeFamilies" "ABOVE" "[I").eval args s none [] s = some (.ref t) ∧ va_T .int t 6 (fun j => .int (gk_abv j)) (fun q => s.heap.size ≤ q) s s.heap := by
  have hs := flat_of_before _ hgv
  refine va_Tof (by omega) (hs (.arrayOf (.static "ExchangeFamilies" "ABOVE" "[I") .int) (by decide +kernel)) (va_eqt (hs (.eq (.length (.static "ExchangeFamilies" "ABOVE" "[I")) (.int 6)) (by decide +kernel))) (fun j hj => ?_) (fun a h => Nat.not_le.mpr h)
  match j, hj with
  | 0, _ => exact va_eqt (hs (.eq (.elem (.static "ExchangeFamilies" "ABOVE" "[I") (.int 0)) (.int (-1))) (by decide +kernel))
  | 1, _ => exact va_eqt (hs (.eq (.elem (.static "ExchangeFamilies" "ABOVE" "[I") (.int 1)) (.int (0))) (by decide +kernel))
  | 2, _ => exact va_eqt (hs (.eq (.elem (.static "ExchangeFamilies" "ABOVE" "[I") (.int 2)) (.int (0))) (by decide +kernel))
  | 3, _ => exact va_eqt (hs (.eq (.elem (.static "ExchangeFamilies" "ABOVE" "[I") (.int 3)) (.int (0))) (by decide +kernel))
  | 4, _ => exact va_eqt (hs (.eq (.elem (.static "ExchangeFamilies" "ABOVE" "[I") (.int 4)) (.int (0))) (by decide +kernel))
  | 5, _ => exact va_eqt (hs (.eq (.elem (.static "ExchangeFamilies" "ABOVE" "[I") (.int 5)) (.int (3))) (by decide +kernel))
  | j + 6, h => exact absurd h (by omega)
theorem lw_begin {s : State} {b : Nat} (hts : ∀ w ∈ lw_tbl, w.before #[Value.ref b] s = true) (hgv : (Jvm.Cond.and given_1 narrow_1).before #[Value.ref b] s = true) : ∃ G : gk_G, va_K G.1 vwCl (gk_tys G) s ∧ gk_S true G (fun q => s.heap.size ≤ q) s s.heap := by
  obtain ⟨c0, i0, k0⟩ := u_known (C := RX1) (T := TX1) (N := 5) (n := 5) hts inX1 (hts _ lw_t1)
  obtain ⟨c1, i1, k1⟩ := u_known (C := RX2) (T := TX2) (N := 3) (n := 3) hts inX2 (hts _ lw_t2)
  obtain ⟨c2, i2, k2⟩ := u_known (C := RX3) (T := TX3) (N := 3) (n := 3) hts inX3 (hts _ lw_t3)
  obtain ⟨c3, i3, k3⟩ := u_known (C := RX4) (T := TX4) (N := 1) (n := 1) hts inX4 (hts _ lw_t4)
  obtain ⟨c4, i4, k4⟩ := u_known (C := RX5) (T := TX5) (N := 6) (n := 6) hts inX5 (hts _ lw_t5)
  obtain ⟨c5, i5, k5⟩ := u_known (C := RX6) (T := TX6) (N := 25) (n := 25) hts inX6 (hts _ lw_t6)
  obtain ⟨z0, p0, f0⟩ := lw_prim (hts _ lw_t7)
  obtain ⟨z1, p1, f1⟩ := lw_prim (hts _ lw_t8)
  obtain ⟨z2, p2, f2⟩ := lw_prim (hts _ lw_t9)
  obtain ⟨z3, p3, f3⟩ := lw_refs (va_AO.of (hts _ lw_t10))
  obtain ⟨t0, v0, s0⟩ := lw_stHAVING hgv
  obtain ⟨t1, v1, s1⟩ := lw_stINVERSE hgv
  obtain ⟨t2, v2, s2⟩ := lw_stABOVE hgv
  have hA : ∀ a : Nat, a < s.heap.size → ¬ (fun q : Nat => s.heap.size ≤ q) a := fun a h => Nat.not_le.mpr h
  refine ⟨((fun k => match k with | 0 => c0 | 1 => c1 | 2 => c2 | 3 => c3 | 4 => c4 | _ => c5, fun k => match k with | 0 => i0 | 1 => i1 | 2 => i2 | 3 => i3 | 4 => i4 | _ => i5), fun k => match k with | 0 => z0 | 1 => z1 | 2 => z2 | _ => z3, fun k => match k with | 0 => t0 | 1 => t1 | _ => t2), ⟨fun k q hq => ?_, fun k q hq => ?_⟩, fun _ => ?_⟩
  · match k, hq with
    | 0, hq => cases hq; exact k0
    | 1, hq => cases hq; exact k1
    | 2, hq => cases hq; exact k2
    | 3, hq => cases hq; exact k3
    | 4, hq => cases hq; exact k4
    | 5, hq => cases hq; exact k5
    | k + 6, hq => simp [vwCl] at hq
  · match k, hq with
    | 0, hq => cases hq; exact ⟨p0, f0⟩
    | 1, hq => cases hq; exact ⟨p1, f1⟩
    | 2, hq => cases hq; exact ⟨p2, f2⟩
    | 3, hq => cases hq; exact ⟨p3, f3⟩
    | k + 4, hq => simp [gk_tys] at hq
  · exact ⟨⟨va_Zof (hts _ lw_t11) (hts _ lw_t0) v0 hA, s0⟩, ⟨va_Zof (hts _ lw_t12) (hts _ lw_t0) v1 hA, s1⟩, ⟨va_Zof (hts _ lw_t13) (hts _ lw_t0) v2 hA, s2⟩, va_Nw.of rfl (hts _ lw_t14), va_Nw.of rfl (hts _ lw_t15), va_Nw.of rfl (hts _ lw_t16), va_Nw.of rfl (hts _ lw_t17), va_Nw.of rfl (hts _ lw_t18), va_Nw.of rfl (hts _ lw_t19), va_Nw.of rfl (hts _ lw_t20)⟩
theorem lw_k0 {f : Nat} (hf : f < 6) : gn_k0 f = -1 := fa_fill_in hf
set_option maxRecDepth 100000 in
set_option maxHeartbeats 8000000 in
theorem whole_start {p : Program} {e : Env} {s : State} {m : MethodId} {below : List Frame} {meth : Method} {c : Code} (l : Launch) (hflags : l.flags = flags0) {b L : Nat} {xs : Nat → Int32} (hL : L ≤ 3072) (C0 : lw_At p s m meth c b L xs) : W p l e room_1 s m #[Value.ref b] below meth c s.heap [] 0 0 (lw_Z below #[Value.ref b] s) (entryFrame m ([Value.ref b] : List Value).toArray 4) := by
  obtain ⟨hx, hb, hr, hml, hown, hts0, hX, hbl, hlocks, hgv⟩ := C0
  obtain ⟨G, hK, hSt⟩ := lw_begin hts0 hgv
  have hts : ∀ w ∈ wsL_law, w.before #[Value.ref b] s = true := fun w h => hts0 w (wsL_law_in w h)
  have hA : ∀ q : Nat, s.heap.size ≤ q → (fun q : Nat => s.heap.size ≤ q) q := fun _ h => h
  have hbA : ¬ (fun q : Nat => s.heap.size ≤ q) b := Nat.not_le.mpr hbl
  have hown : s.vm.findClass RL = some m.cls := hown
  have C : gn_C p s m #[.ref b] c cL_law 4 RL wsL_law true true G (fun q : Nat => s.heap.size ≤ q) := ⟨hx, hb, hml, hown, hts, hK, hSt, fun _ => va_AO.of (hts0 _ lw_t10), hA⟩
  have hS : va_S (fun q : Nat => s.heap.size ≤ q) s.heap s.heap [] := va_S.rf
  have hP : va_P G.1 vwCl [] s.heap := fun k q h => by simp at h
  have hD : va_D (fun q : Nat => s.heap.size ≤ q) [] := ⟨fun i j p q h => by simp at h, fun k q h => by simp at h⟩
  have hl := lv_entry ([.ref b]) (n := 4) (Nat.le_of_ble_eq_true rfl)
  rw [lg_entry_eq]
  generalize (lg_sl ([.ref b]) ++ List.replicate (4 - (lg_sl ([.ref b])).length) Slot.unset).toArray = ls at hl ⊢
  have hl : lv_has ls 4 [(0, .ref b)] := hl
  refine va_new (D := G.1) (cl := vwCl) (ci := 4) (fs := [.null, .null, .int 0, .null, .null, .null]) (C := RX5) (T := TX5) (N := 6) hx hb hts inlX5 tyX5 tyX5_ok hown (hts _ lw_l0) (hts _ lw_l1) (hts _ lw_l2) hK hP hD hS hA rfl (fun j hj => by rcases (show j = 0 ∨ j = 1 ∨ j = 2 ∨ j = 3 ∨ j = 4 ∨ j = 5 by omega) with rfl | rfl | rfl | rfl | rfl | rfl <;> rfl) (Nat.le_of_ble_eq_true rfl) (Nat.le_of_ble_eq_true rfl) dL_law_0 (fun x0 H hP hD hS => ?_)
  have hP : va_P G.1 vwCl [(x0, .inr (4, [.null, .null, .int 0, .null, .null, .null]))] H := hP
  have hD : va_D (fun q : Nat => s.heap.size ≤ q) [(x0, .inr (4, [.null, .null, .int 0, .null, .null, .null]))] := hD
  refine W.widen (k := 1) (n := 6) (Nat.le_of_ble_eq_true rfl) (Nat.le_of_ble_eq_true rfl) ?_
  refine lv_dup hx hb dL_law_3 rfl ?_
  refine gn_callI (bytes := cX5_init) (maxL := 2) [] [.ref x0] C ⟨hP, hD, hS⟩ (c_X5_init l G x0) gL_law_X5_init lw_l2 lw_l6 lw_l7 dL_law_4 hl.1 ⟨Nat.le_of_ble_eq_true rfl, Nat.le_of_ble_eq_true rfl⟩ [0] [] rfl ⟨rfl, rfl⟩ ⟨Nat.le_of_ble_eq_true rfl, Nat.le_of_ble_eq_true rfl⟩ rfl ⟨by decide +kernel, by decide +kernel, by decide +kernel⟩ (fun h => h) (fun h => h) (Nat.le_of_ble_eq_true rfl) rfl rfl rfl rfl (by decide) (fun w1 H locs hpo h => ?_)
  obtain ⟨x1, x2, x3, x4, x5, x6, x7, x8, x9, x10, x11, x12, x13, x14, x15, x16, x17, x18, x19, x20, x21, x22, x23, x24, x25, x26, Tq17, hV3, rfl⟩ := hpo
  have h : gk_H G (fun q : Nat => s.heap.size ≤ q) s [(x0, .inr (4, [.ref x1, .ref x7, .int 0, .ref x13, .ref x15, .ref x18])), (x1, .inr (0, [.int 4, .ref x2, .ref x3, .ref x4, .ref x5])), (x2, gk_J G 6 (fun _ => 0)), (x3, gk_I G 6 gn_k0), (x4, gk_I G 6 (fun _ => 0)), (x5, .inr (3, [.ref x6])), (x6, gk_I G 36 (fun _ => 0)), (x7, .inr (0, [.int 4, .ref x8, .ref x9, .ref x10, .ref x11])), (x8, gk_J G 6 (fun _ => 0)), (x9, gk_I G 6 gn_k0), (x10, gk_I G 6 (fun _ => 0)), (x11, .inr (3, [.ref x12])), (x12, gk_I G 36 (fun _ => 0)), (x13, .inr (3, [.ref x14])), (x14, gk_I G 36 (fun _ => 0)), (x15, .inr (2, [.int 4, .ref x16, .ref x17])), (x16, gk_J G 64 (fun _ => 0)), (x17, gk_I G 64 Tq17), (x18, gk_R G 4 (gk_four x19 x21 x23 x25)), (x19, .inr (1, [.int (-1), .int 0, .ref x20])), (x20, gk_J G 80 (fun _ => 0)), (x21, .inr (1, [.int (-1), .int 0, .ref x22])), (x22, gk_J G 80 (fun _ => 0)), (x23, .inr (1, [.int (-1), .int 0, .ref x24])), (x24, gk_J G 80 (fun _ => 0)), (x25, .inr (1, [.int (-1), .int 0, .ref x26])), (x26, gk_J G 80 (fun _ => 0))] H locs := h
  refine W.widen (k := 27) (n := 630) (Nat.le_of_ble_eq_true rfl) (Nat.le_of_ble_eq_true rfl) ?_
  refine lv_astore_n (lv' := [(1, .ref x0), (0, .ref b)]) hx hb dL_law_7 rfl hl (by decide) rfl (fun ls hl => ?_)
  obtain ⟨hP, hD, hS⟩ := h
  refine va_new (D := G.1) (cl := vwCl) (ci := 5) (fs := [.int 0, .null, .null, .null, .null, .int 0, .null, .null, .null, .null, .null, .null, .null, .null, .null, .null, .null, .null, .int 0, .null, .null, .null, .int 0, .null, .null]) (C := RX6) (T := TX6) (N := 25) hx hb hts inlX6 tyX6 tyX6_ok hown (hts _ lw_l3) (hts _ lw_l4) (hts _ lw_l5) hK hP hD hS hA rfl (fun j hj => by rcases (show j = 0 ∨ j = 1 ∨ j = 2 ∨ j = 3 ∨ j = 4 ∨ j = 5 ∨ j = 6 ∨ j = 7 ∨ j = 8 ∨ j = 9 ∨ j = 10 ∨ j = 11 ∨ j = 12 ∨ j = 13 ∨ j = 14 ∨ j = 15 ∨ j = 16 ∨ j = 17 ∨ j = 18 ∨ j = 19 ∨ j = 20 ∨ j = 21 ∨ j = 22 ∨ j = 23 ∨ j = 24 by omega) with rfl | rfl | rfl | rfl | rfl | rfl | rfl | rfl | rfl | rfl | rfl | rfl | rfl | rfl | rfl | rfl | rfl | rfl | rfl | rfl | rfl | rfl | rfl | rfl | rfl <;> rfl) (Nat.le_of_ble_eq_true rfl) (Nat.le_of_ble_eq_true rfl) dL_law_8 (fun y0 H hP hD hS => ?_)
  refine W.widen (k := 28) (n := 655) (Nat.le_of_ble_eq_true rfl) (Nat.le_of_ble_eq_true rfl) ?_
  refine lv_dup hx hb dL_law_11 rfl ?_
  refine gn_callI (bytes := cX6_init) (maxL := 2) [(x0, .inr (4, [.ref x1, .ref x7, .int 0, .ref x13, .ref x15, .ref x18])), (x1, .inr (0, [.int 4, .ref x2, .ref x3, .ref x4, .ref x5])), (x2, gk_J G 6 (fun _ => 0)), (x3, gk_I G 6 gn_k0), (x4, gk_I G 6 (fun _ => 0)), (x5, .inr (3, [.ref x6])), (x6, gk_I G 36 (fun _ => 0)), (x7, .inr (0, [.int 4, .ref x8, .ref x9, .ref x10, .ref x11])), (x8, gk_J G 6 (fun _ => 0)), (x9, gk_I G 6 gn_k0), (x10, gk_I G 6 (fun _ => 0)), (x11, .inr (3, [.ref x12])), (x12, gk_I G 36 (fun _ => 0)), (x13, .inr (3, [.ref x14])), (x14, gk_I G 36 (fun _ => 0)), (x15, .inr (2, [.int 4, .ref x16, .ref x17])), (x16, gk_J G 64 (fun _ => 0)), (x17, gk_I G 64 Tq17), (x18, gk_R G 4 (gk_four x19 x21 x23 x25)), (x19, .inr (1, [.int (-1), .int 0, .ref x20])), (x20, gk_J G 80 (fun _ => 0)), (x21, .inr (1, [.int (-1), .int 0, .ref x22])), (x22, gk_J G 80 (fun _ => 0)), (x23, .inr (1, [.int (-1), .int 0, .ref x24])), (x24, gk_J G 80 (fun _ => 0)), (x25, .inr (1, [.int (-1), .int 0, .ref x26])), (x26, gk_J G 80 (fun _ => 0))] [.ref y0] C ⟨hP, hD, hS⟩ (c_X6_init l G y0) gL_law_X6_init lw_l5 lw_l8 lw_l9 dL_law_12 hl.1 ⟨Nat.le_of_ble_eq_true rfl, Nat.le_of_ble_eq_true rfl⟩ [27] [0, 1, 2, 3, 4, 5, 6, 7, 8, 9, 10, 11, 12, 13, 14, 15, 16, 17, 18, 19, 20, 21, 22, 23, 24, 25, 26] rfl ⟨rfl, rfl⟩ ⟨Nat.le_of_ble_eq_true rfl, Nat.le_of_ble_eq_true rfl⟩ rfl ⟨by decide +kernel, by decide +kernel, by decide +kernel⟩ (fun h => by cases h) (fun h => by cases h) (Nat.le_of_ble_eq_true rfl) rfl rfl rfl rfl (by decide) (fun w1 H locs hpo h => ?_)
  obtain ⟨y1, y2, y3, y4, y5, y6, y7, y8, y9, y10, y11, y12, y13, y14, y15, y16, y17, y18, y19, y20, y21, rfl⟩ := hpo
  refine W.widen (k := 600000) (n := 7302250) (Nat.le_of_ble_eq_true rfl) (Nat.le_of_ble_eq_true rfl) ?_
  refine lv_astore_n (lv' := [(2, .ref y0), (1, .ref x0), (0, .ref b)]) hx hb dL_law_15 rfl hl (by decide) rfl (fun ls hl => ?_)
  refine lv_iconst (v := 0) hx hb dL_law_16 (by decide) ?_
  refine lv_istore_n (lv' := [(3, .int 0), (2, .ref y0), (1, .ref x0), (0, .ref b)]) hx hb dL_law_17 rfl hl (by decide) rfl (fun ls hl => ?_)
  have hI : lw_I G (fun q : Nat => s.heap.size ≤ q) s (lw_ad [x0, x1, x2, x3, x4, x5, x6, x7, x8, x9, x10, x11, x12, x13, x14, x15, x16, x17, x18, x19, x20, x21, x22, x23, x24, x25, x26]) (lw_ad [y0, y1, y2, y3, y4, y5, y6, y7, y8, y9, y10, y11, y12, y13, y14, y15, y16, y17, y18, y19, y20, y21]) H locs := by
    refine ⟨4, (fun _ => 0), gn_k0, (fun _ => 0), (fun _ => 0), 0, 4, (fun _ => 0), gn_k0, (fun _ => 0), (fun _ => 0), (fun _ => 0), 4, (fun _ => 0), Tq17, (fun _ => -1), (fun _ => 0), (fun _ _ => 0), -1, (fun _ => 0), (fun _ => 0), (fun _ => 0), (fun _ => 0), (fun _ => 0), (fun _ => 0), (fun _ => 0), (fun _ => 0), (fun _ => 0), (fun _ => 0), 0, (fun _ => 0), (fun _ => 0), 0, (fun _ => 0), (fun _ => 0), (fun _ => 0), by decide, by decide, fun f hf => ⟨⟨0, by decide, rfl⟩, by rw [lw_k0 hf]; decide, by rw [lw_k0 hf]; decide⟩, fun p hp => ⟨show -99 ≤ (0 : Int32).toInt from by decide, show (0 : Int32).toInt ≤ 99 from by decide⟩, ⟨fun _ _ => 0, fun i j _ _ => ⟨rfl, show (0 : Nat) < 7 from by decide, rfl, fun _ => rfl, fun _ => rfl⟩⟩, ⟨fun k hk => fa_fill_out hk, rfl, rfl, rfl, Or.inl ⟨rfl, rfl⟩⟩, fun r hr => ⟨⟨show -1 ≤ (-1 : Int32).toInt from by decide, show (-1 : Int32).toInt ≤ 3 from by decide⟩, ⟨0, by omega, rfl, fun _ => rfl⟩, fun i hi => rfl⟩, hV3, ?_⟩
    exact h
  exact lw_loop C hr hlocks hX hbl hbA (fun q h => h) hL (L + 7) 0 (by omega) (by omega) H locs ls hI (lv_sub hl [3, 2, 1, 0] rfl)
