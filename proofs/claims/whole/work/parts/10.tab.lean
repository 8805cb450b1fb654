/-! ===== ExchangeFamilies.Table.at(II)I ===== -/
abbrev rm_X4_at : Room := { frames := 1, cells := 0, slots := 0, locals := 64 }
theorem k_X4_at_0 : ∀ w ∈ u_ws RX4 TX4 1, w ∈ wsX4_at := by decide +kernel
theorem k_X4_at_1 : Cond.fieldLink RX4 9 "ExchangeFamilies$Table" "entries" "[I" ∈ wsX4_at := by decide +kernel
def m_X4_at_0 (f_entries : (Nat → Int32)) (x1 : Int32) (x2 : Int32) : Option (Int32) := gk_ix ((x1 * (6 : Int32)) + x2) 36 (some (f_entries ((x1 * (6 : Int32)) + x2).toNatClampNeg))
set_option maxRecDepth 100000 in
set_option maxHeartbeats 4000000 in
theorem w_X4_at_0 {p : Program} {l : Launch} {e : Env} {s : State} {m : MethodId} {args : Array Value} {below : List Frame} {meth : Method} {c : Code} {G : gk_G} {A : Nat → Prop} {Q : State → Prop} {a0 a1 : Nat} (C : gk_C p s m args meth c cX4_at 3 (some .int) yX4_at wsX4_at false G A) {f_entries : (Nat → Int32)} {x1 : Int32} {x2 : Int32} {yy : Int32} (hm : m_X4_at_0 f_entries x1 x2 = some yy) (kr : ∀ (rv : Int32), yy = rv → Q = MQ below (gk_Q G (some (.int rv)) [(a0, .inr (3, [.ref a1])), (a1, gk_I G 36 f_entries)] A) args s 0 0 A) {H : Heap} {locs : List Loc} {ls : Array Slot} (h : gk_H G A s [(a0, .inr (3, [.ref a1])), (a1, gk_I G 36 f_entries)] H locs) (hl : lv_has ls 3 [(0, .ref a0), (1, .int x1), (2, .int x2)]) : W p l e rm_X4_at s m args below meth c H locs 0 0 Q (F0 m 0 ls []) := by
  obtain ⟨hx, hb, hml, hr, hown, hnm, hts, hlk, hK, hSt, hA⟩ := id C
  obtain ⟨hP, hD, hS⟩ := h
  unfold m_X4_at_0 at hm
  refine lv_aload_n hx hb dX4_at_0 rfl (lv_at hl 0 rfl) ?_
  refine va_get (D := G.1) (cl := vwCl) (own := RX4) (ref := "ExchangeFamilies$Table") (ci := 3) (v := .ref a1) (C := RX4) (T := TX4) (N := 1) hx hb hts k_X4_at_0 hown hK hP 0 rfl rfl 0 (by decide) (hts _ k_X4_at_1) (fun _ h9 => h9) rfl dX4_at_1 ?_
  refine lv_iload_n hx hb dX4_at_4 rfl (lv_at hl 1 rfl) ?_
  refine lv_bipush (v := 6) hx hb dX4_at_5 (by decide) ?_
  refine lv_imul hx hb dX4_at_7 ?_
  refine lv_iload_n hx hb dX4_at_8 rfl (lv_at hl 2 rfl) ?_
  refine lv_iadd hx hb dX4_at_9 ?_
  obtain ⟨hi, hm⟩ := gk_ix_some hm
  refine va_iald hx hb hK hP 1 0 rfl rfl hi dX4_at_10 ?_
  rw [kr _ (Option.some.inj hm).symm]
  exact gk_iret C ⟨hP, hD, hS⟩ dX4_at_11
def m_X4_at (f_entries : (Nat → Int32)) (x1 : Int32) (x2 : Int32) : Option (Int32) := m_X4_at_0 f_entries x1 x2
theorem c_X4_at (l : Launch) (G : gk_G) (a0 a1 : Nat) (f_entries : (Nat → Int32)) (x1 : Int32) (x2 : Int32) {rv : Int32} (hm : m_X4_at f_entries x1 x2 = some rv) : gk_M l yX4_at wsX4_at rm_X4_at false G [.ref a0, .int x1, .int x2] [(a0, .inr (3, [.ref a1])), (a1, gk_I G 36 f_entries)] (some (.int rv)) [(a0, .inr (3, [.ref a1])), (a1, gk_I G 36 f_entries)] :=
  gk_of (by decide) rfl (Nat.le_of_ble_eq_true rfl) (fun p e s m below meth c A ls C h hl => w_X4_at_0 C hm (fun v0 ez => by cases ez; rfl) h (show lv_has ls 3 [(0, .ref a0), (1, .int x1), (2, .int x2)] from hl))

/-! ===== ExchangeFamilies.Table.write(III)V ===== -/
abbrev rm_X4_write : Room := { frames := 1, cells := 0, slots := 0, locals := 64 }
theorem k_X4_write_0 : ∀ w ∈ u_ws RX4 TX4 1, w ∈ wsX4_write := by decide +kernel
theorem k_X4_write_1 : Cond.fieldLink RX4 9 "ExchangeFamilies$Table" "entries" "[I" ∈ wsX4_write := by decide +kernel
theorem k_X4_write_2 : Cond.methodLink RX4 15 yJ9_floorMod_7cf53 ∈ wsX4_write := by decide +kernel
theorem k_X4_write_3 : Cond.static yJ9_floorMod_7cf53 ∈ wsX4_write := by decide +kernel
theorem k_X4_write_4 : Cond.initialized RJ9 ∈ wsX4_write := by decide +kernel
theorem k_X4_write_5 : Cond.code yJ9_floorMod_7cf53 cJ9_floorMod_7cf53 3 (some .int) ∈ wsX4_write := by decide +kernel
def m_X4_write_0 (f_entries : (Nat → Int32)) (x1 : Int32) (x2 : Int32) (x3 : Int32) : Option ((Nat → Int32)) := gk_nz (7 : Int32) (gk_ix ((x1 * (6 : Int32)) + x2) 36 (gk_nz (7 : Int32) (gk_ix ((x2 * (6 : Int32)) + x1) 36 (some (upd (upd f_entries ((x1 * (6 : Int32)) + x2).toNatClampNeg (gk_fmod x3 (7 : Int32))) ((x2 * (6 : Int32)) + x1).toNatClampNeg (gk_fmod (-x3) (7 : Int32)))))))
set_option maxRecDepth 100000 in
set_option maxHeartbeats 4000000 in
theorem w_X4_write_0 {p : Program} {l : Launch} {e : Env} {s : State} {m : MethodId} {args : Array Value} {below : List Frame} {meth : Method} {c : Code} {G : gk_G} {A : Nat → Prop} {Q : State → Prop} {a0 a1 : Nat} (C : gk_C p s m args meth c cX4_write 4 none yX4_write wsX4_write false G A) {f_entries : (Nat → Int32)} {x1 : Int32} {x2 : Int32} {x3 : Int32} {yy : (Nat → Int32)} (hm : m_X4_write_0 f_entries x1 x2 x3 = some yy) (kr : ∀ (g_entries : (Nat → Int32)), yy = g_entries → Q = MQ below (gk_Q G none [(a0, .inr (3, [.ref a1])), (a1, gk_I G 36 g_entries)] A) args s 0 0 A) {H : Heap} {locs : List Loc} {ls : Array Slot} (h : gk_H G A s [(a0, .inr (3, [.ref a1])), (a1, gk_I G 36 f_entries)] H locs) (hl : lv_has ls 4 [(0, .ref a0), (1, .int x1), (2, .int x2), (3, .int x3)]) : W p l e rm_X4_write s m args below meth c H locs 0 0 Q (F0 m 0 ls []) := by
  obtain ⟨hx, hb, hml, hr, hown, hnm, hts, hlk, hK, hSt, hA⟩ := id C
  obtain ⟨hP, hD, hS⟩ := h
  unfold m_X4_write_0 at hm
  refine lv_aload_n hx hb dX4_write_0 rfl (lv_at hl 0 rfl) ?_
  refine va_get (D := G.1) (cl := vwCl) (own := RX4) (ref := "ExchangeFamilies$Table") (ci := 3) (v := .ref a1) (C := RX4) (T := TX4) (N := 1) hx hb hts k_X4_write_0 hown hK hP 0 rfl rfl 0 (by decide) (hts _ k_X4_write_1) (fun _ h9 => h9) rfl dX4_write_1 ?_
  refine lv_iload_n hx hb dX4_write_4 rfl (lv_at hl 1 rfl) ?_
  refine lv_bipush (v := 6) hx hb dX4_write_5 (by decide) ?_
  refine lv_imul hx hb dX4_write_7 ?_
  refine lv_iload_n hx hb dX4_write_8 rfl (lv_at hl 2 rfl) ?_
  refine lv_iadd hx hb dX4_write_9 ?_
  refine lv_iload_n hx hb dX4_write_10 rfl (lv_at hl 3 rfl) ?_
  refine lv_bipush (v := 7) hx hb dX4_write_11 (by decide) ?_
  obtain ⟨hz, hm⟩ := gk_nz_some hm
  refine gk_floorMod (own := RX4) hx hb (by rw [hml]; exact hl.1.symm) hown (hts _ k_X4_write_2) (hts _ k_X4_write_3) (hts _ k_X4_write_4) (hts _ k_X4_write_5) (Nat.le_of_ble_eq_true rfl) (Nat.le_of_ble_eq_true rfl) (Nat.zero_le _) (Nat.zero_le _) hz dX4_write_13 ?_
  obtain ⟨hi, hm⟩ := gk_ix_some hm
  refine va_iast hx hb hK hP hD hS 1 0 rfl rfl hi dX4_write_16 (fun H locs hP hD hS => ?_)
  have hP : va_P G.1 vwCl [(a0, .inr (3, [.ref a1])), (a1, gk_I G 36 (upd f_entries ((x1 * (6 : Int32)) + x2).toNatClampNeg (gk_fmod x3 (7 : Int32))))] H := hP
  have hD : va_D A [(a0, .inr (3, [.ref a1])), (a1, gk_I G 36 (upd f_entries ((x1 * (6 : Int32)) + x2).toNatClampNeg (gk_fmod x3 (7 : Int32))))] := hD
  refine lv_aload_n hx hb dX4_write_17 rfl (lv_at hl 0 rfl) ?_
  refine va_get (D := G.1) (cl := vwCl) (own := RX4) (ref := "ExchangeFamilies$Table") (ci := 3) (v := .ref a1) (C := RX4) (T := TX4) (N := 1) hx hb hts k_X4_write_0 hown hK hP 0 rfl rfl 0 (by decide) (hts _ k_X4_write_1) (fun _ h9 => h9) rfl dX4_write_18 ?_
  refine lv_iload_n hx hb dX4_write_21 rfl (lv_at hl 2 rfl) ?_
  refine lv_bipush (v := 6) hx hb dX4_write_22 (by decide) ?_
  refine lv_imul hx hb dX4_write_24 ?_
  refine lv_iload_n hx hb dX4_write_25 rfl (lv_at hl 1 rfl) ?_
  refine lv_iadd hx hb dX4_write_26 ?_
  refine lv_iload_n hx hb dX4_write_27 rfl (lv_at hl 3 rfl) ?_
  refine lv_ineg hx hb dX4_write_28 ?_
  refine lv_bipush (v := 7) hx hb dX4_write_29 (by decide) ?_
  obtain ⟨hz, hm⟩ := gk_nz_some hm
  refine gk_floorMod (own := RX4) hx hb (by rw [hml]; exact hl.1.symm) hown (hts _ k_X4_write_2) (hts _ k_X4_write_3) (hts _ k_X4_write_4) (hts _ k_X4_write_5) (Nat.le_of_ble_eq_true rfl) (Nat.le_of_ble_eq_true rfl) (Nat.zero_le _) (Nat.zero_le _) hz dX4_write_31 ?_
  obtain ⟨hi, hm⟩ := gk_ix_some hm
  refine va_iast hx hb hK hP hD hS 1 0 rfl rfl hi dX4_write_34 (fun H locs hP hD hS => ?_)
  have hP : va_P G.1 vwCl [(a0, .inr (3, [.ref a1])), (a1, gk_I G 36 (upd (upd f_entries ((x1 * (6 : Int32)) + x2).toNatClampNeg (gk_fmod x3 (7 : Int32))) ((x2 * (6 : Int32)) + x1).toNatClampNeg (gk_fmod (-x3) (7 : Int32))))] H := hP
  have hD : va_D A [(a0, .inr (3, [.ref a1])), (a1, gk_I G 36 (upd (upd f_entries ((x1 * (6 : Int32)) + x2).toNatClampNeg (gk_fmod x3 (7 : Int32))) ((x2 * (6 : Int32)) + x1).toNatClampNeg (gk_fmod (-x3) (7 : Int32))))] := hD
  rw [kr _ (Option.some.inj hm).symm]
  exact gk_vret C ⟨hP, hD, hS⟩ dX4_write_35
def m_X4_write (f_entries : (Nat → Int32)) (x1 : Int32) (x2 : Int32) (x3 : Int32) : Option ((Nat → Int32)) := m_X4_write_0 f_entries x1 x2 x3
theorem c_X4_write (l : Launch) (G : gk_G) (a0 a1 : Nat) (f_entries : (Nat → Int32)) (x1 : Int32) (x2 : Int32) (x3 : Int32) {g_entries : (Nat → Int32)} (hm : m_X4_write f_entries x1 x2 x3 = some g_entries) : gk_M l yX4_write wsX4_write rm_X4_write false G [.ref a0, .int x1, .int x2, .int x3] [(a0, .inr (3, [.ref a1])), (a1, gk_I G 36 f_entries)] none [(a0, .inr (3, [.ref a1])), (a1, gk_I G 36 g_entries)] :=
  gk_of (by decide) rfl (Nat.le_of_ble_eq_true rfl) (fun p e s m below meth c A ls C h hl => w_X4_write_0 C hm (fun v0 ez => by cases ez; rfl) h (show lv_has ls 4 [(0, .ref a0), (1, .int x1), (2, .int x2), (3, .int x3)] from hl))

/-! ===== ExchangeFamilies.Table.wipe()V ===== -/
abbrev rm_X4_wipe : Room := { frames := 3, cells := 0, slots := 0, locals := 151 }
theorem k_X4_wipe_0 : ∀ w ∈ u_ws RX4 TX4 1, w ∈ wsX4_wipe := by decide +kernel
theorem k_X4_wipe_1 : Cond.fieldLink RX4 9 "ExchangeFamilies$Table" "entries" "[I" ∈ wsX4_wipe := by decide +kernel
def m_X4_wipe_0 (f_entries : (Nat → Int32)) : Option ((Nat → Int32)) := gk_bd1 (m_J7_fill_53178 36 f_entries (0 : Int32)) (fun r1 => some r1)
set_option maxRecDepth 100000 in
set_option maxHeartbeats 4000000 in
theorem w_X4_wipe_0 {p : Program} {l : Launch} {e : Env} {s : State} {m : MethodId} {args : Array Value} {below : List Frame} {meth : Method} {c : Code} {G : gk_G} {A : Nat → Prop} {Q : State → Prop} {a0 a1 : Nat} (C : gk_C p s m args meth c cX4_wipe 1 none yX4_wipe wsX4_wipe false G A) {f_entries : (Nat → Int32)} {yy : (Nat → Int32)} (hm : m_X4_wipe_0 f_entries = some yy) (kr : ∀ (g_entries : (Nat → Int32)), yy = g_entries → Q = MQ below (gk_Q G none [(a0, .inr (3, [.ref a1])), (a1, gk_I G 36 g_entries)] A) args s 0 0 A) {H : Heap} {locs : List Loc} {ls : Array Slot} (h : gk_H G A s [(a0, .inr (3, [.ref a1])), (a1, gk_I G 36 f_entries)] H locs) (hl : lv_has ls 1 [(0, .ref a0)]) : W p l e rm_X4_wipe s m args below meth c H locs 0 0 Q (F0 m 0 ls []) := by
  obtain ⟨hx, hb, hml, hr, hown, hnm, hts, hlk, hK, hSt, hA⟩ := id C
  obtain ⟨hP, hD, hS⟩ := h
  unfold m_X4_wipe_0 at hm
  refine lv_aload_n hx hb dX4_wipe_0 rfl (lv_at hl 0 rfl) ?_
  refine va_get (D := G.1) (cl := vwCl) (own := RX4) (ref := "ExchangeFamilies$Table") (ci := 3) (v := .ref a1) (C := RX4) (T := TX4) (N := 1) hx hb hts k_X4_wipe_0 hown hK hP 0 rfl rfl 0 (by decide) (hts _ k_X4_wipe_1) (fun _ h9 => h9) rfl dX4_wipe_1 ?_
  refine lv_iconst (v := 0) hx hb dX4_wipe_4 (by decide) ?_
  obtain ⟨r1, hq, hm⟩ := gk_bd1_some hm
  refine gk_callS (n := 2) (bytes := cJ7_fill_53178) (maxL := 4) (ret := none) [(a0, .inr (3, [.ref a1]))] [(a0, .inr (3, [.ref a1])), (a1, gk_I G 36 r1)] [] C ⟨hP, hD, hS⟩ (c_J7_fill_53178 l G a1 36 f_entries (0 : Int32) hq) gX4_wipe_J7_fill_53178 dX4_wipe_5 hl.1 [1] [0] [0, 1] rfl ⟨rfl, rfl⟩ ⟨Nat.le_of_ble_eq_true rfl, Nat.le_of_ble_eq_true rfl⟩ ⟨by decide +kernel, by decide +kernel, by decide +kernel⟩ rfl (fun h => by cases h) (Nat.le_of_ble_eq_true rfl) rfl rfl rfl rfl (by decide) rfl rfl (fun H locs h => ?_)
  obtain ⟨hP, hD, hS⟩ := h
  rw [kr _ (Option.some.inj hm).symm]
  exact gk_vret C ⟨hP, hD, hS⟩ dX4_wipe_8
def m_X4_wipe (f_entries : (Nat → Int32)) : Option ((Nat → Int32)) := m_X4_wipe_0 f_entries
theorem c_X4_wipe (l : Launch) (G : gk_G) (a0 a1 : Nat) (f_entries : (Nat → Int32)) {g_entries : (Nat → Int32)} (hm : m_X4_wipe f_entries = some g_entries) : gk_M l yX4_wipe wsX4_wipe rm_X4_wipe false G [.ref a0] [(a0, .inr (3, [.ref a1])), (a1, gk_I G 36 f_entries)] none [(a0, .inr (3, [.ref a1])), (a1, gk_I G 36 g_entries)] :=
  gk_of (by decide) rfl (Nat.le_of_ble_eq_true rfl) (fun p e s m below meth c A ls C h hl => w_X4_wipe_0 C hm (fun v0 ez => by cases ez; rfl) h (show lv_has ls 1 [(0, .ref a0)] from hl))

/-! ===== ExchangeFamilies.Table.takeOver(LExchangeFamilies$Table;)V ===== -/
abbrev rm_X4_takeOver : Room := { frames := 1, cells := 0, slots := 0, locals := 64 }
theorem k_X4_takeOver_0 : ∀ w ∈ u_ws RX4 TX4 1, w ∈ wsX4_takeOver := by decide +kernel
theorem k_X4_takeOver_1 : Cond.fieldLink RX4 9 "ExchangeFamilies$Table" "entries" "[I" ∈ wsX4_takeOver := by decide +kernel
theorem k_X4_takeOver_2 : Cond.methodLink RX4 27 arraycopyName ∈ wsX4_takeOver := by decide +kernel
theorem k_X4_takeOver_3 : Cond.native arraycopyName ∈ wsX4_takeOver := by decide +kernel
theorem k_X4_takeOver_4 : Cond.static arraycopyName ∈ wsX4_takeOver := by decide +kernel
theorem k_X4_takeOver_5 : Cond.initialized "java/lang/System" ∈ wsX4_takeOver := by decide +kernel
def m_X4_takeOver_0 (f_entries : (Nat → Int32)) (f_o0_entries : (Nat → Int32)) : Option ((Nat → Int32)) := gk_cp (0 : Int32) (0 : Int32) (Int32.ofNat 36) 36 36 (some (va_cpy f_o0_entries f_entries (0 : Int32).toNatClampNeg (0 : Int32).toNatClampNeg (Int32.ofNat 36).toNatClampNeg))
set_option maxRecDepth 100000 in
set_option maxHeartbeats 4000000 in
theorem w_X4_takeOver_0 {p : Program} {l : Launch} {e : Env} {s : State} {m : MethodId} {args : Array Value} {below : List Frame} {meth : Method} {c : Code} {G : gk_G} {A : Nat → Prop} {Q : State → Prop} {a0 a1 b0 b1 : Nat} (C : gk_C p s m args meth c cX4_takeOver 2 none yX4_takeOver wsX4_takeOver false G A) {f_entries : (Nat → Int32)} {f_o0_entries : (Nat → Int32)} {yy : (Nat → Int32)} (hm : m_X4_takeOver_0 f_entries f_o0_entries = some yy) (kr : ∀ (g_entries : (Nat → Int32)), yy = g_entries → Q = MQ below (gk_Q G none [(a0, .inr (3, [.ref a1])), (a1, gk_I G 36 g_entries), (b0, .inr (3, [.ref b1])), (b1, gk_I G 36 f_o0_entries)] A) args s 0 0 A) {H : Heap} {locs : List Loc} {ls : Array Slot} (h : gk_H G A s [(a0, .inr (3, [.ref a1])), (a1, gk_I G 36 f_entries), (b0, .inr (3, [.ref b1])), (b1, gk_I G 36 f_o0_entries)] H locs) (hl : lv_has ls 2 [(0, .ref a0), (1, .ref b0)]) : W p l e rm_X4_takeOver s m args below meth c H locs 0 0 Q (F0 m 0 ls []) := by
  obtain ⟨hx, hb, hml, hr, hown, hnm, hts, hlk, hK, hSt, hA⟩ := id C
  obtain ⟨hP, hD, hS⟩ := h
  unfold m_X4_takeOver_0 at hm
  refine lv_aload_n hx hb dX4_takeOver_0 rfl (lv_at hl 1 rfl) ?_
  refine va_get (D := G.1) (cl := vwCl) (own := RX4) (ref := "ExchangeFamilies$Table") (ci := 3) (v := .ref b1) (C := RX4) (T := TX4) (N := 1) hx hb hts k_X4_takeOver_0 hown hK hP 2 rfl rfl 0 (by decide) (hts _ k_X4_takeOver_1) (fun _ h9 => h9) rfl dX4_takeOver_1 ?_
  refine lv_iconst (v := 0) hx hb dX4_takeOver_4 (by decide) ?_
  refine lv_aload_n hx hb dX4_takeOver_5 rfl (lv_at hl 0 rfl) ?_
  refine va_get (D := G.1) (cl := vwCl) (own := RX4) (ref := "ExchangeFamilies$Table") (ci := 3) (v := .ref a1) (C := RX4) (T := TX4) (N := 1) hx hb hts k_X4_takeOver_0 hown hK hP 0 rfl rfl 0 (by decide) (hts _ k_X4_takeOver_1) (fun _ h9 => h9) rfl dX4_takeOver_6 ?_
  refine lv_iconst (v := 0) hx hb dX4_takeOver_9 (by decide) ?_
  refine lv_aload_n hx hb dX4_takeOver_10 rfl (lv_at hl 0 rfl) ?_
  refine va_get (D := G.1) (cl := vwCl) (own := RX4) (ref := "ExchangeFamilies$Table") (ci := 3) (v := .ref a1) (C := RX4) (T := TX4) (N := 1) hx hb hts k_X4_takeOver_0 hown hK hP 0 rfl rfl 0 (by decide) (hts _ k_X4_takeOver_1) (fun _ h9 => h9) rfl dX4_takeOver_11 ?_
  refine va_alen hx hb hK hP 1 0 rfl rfl rfl dX4_takeOver_14 ?_
  obtain ⟨⟨hc1, hc2, hc3, hc4, hc5⟩, hm⟩ := gk_cp_some hm
  refine va_copyi (own := RX4) hx hb (by rw [hml]; exact hl.1.symm) hown (hts _ k_X4_takeOver_2) (hts _ k_X4_takeOver_3) (hts _ k_X4_takeOver_4) (hts _ k_X4_takeOver_5) hK hP hD hS 3 1 0 0 rfl rfl rfl rfl rfl hc1 hc2 hc3 hc4 hc5 (fun _ _ => rfl) (Nat.le_of_ble_eq_true rfl) (Nat.le_of_ble_eq_true rfl) dX4_takeOver_15 (fun H locs hP hD hS => ?_)
  have hP : va_P G.1 vwCl [(a0, .inr (3, [.ref a1])), (a1, gk_I G 36 (va_cpy f_o0_entries f_entries (0 : Int32).toNatClampNeg (0 : Int32).toNatClampNeg (Int32.ofNat 36).toNatClampNeg)), (b0, .inr (3, [.ref b1])), (b1, gk_I G 36 f_o0_entries)] H := hP
  have hD : va_D A [(a0, .inr (3, [.ref a1])), (a1, gk_I G 36 (va_cpy f_o0_entries f_entries (0 : Int32).toNatClampNeg (0 : Int32).toNatClampNeg (Int32.ofNat 36).toNatClampNeg)), (b0, .inr (3, [.ref b1])), (b1, gk_I G 36 f_o0_entries)] := hD
  rw [kr _ (Option.some.inj hm).symm]
  exact gk_vret C ⟨hP, hD, hS⟩ dX4_takeOver_18
def m_X4_takeOver (f_entries : (Nat → Int32)) (f_o0_entries : (Nat → Int32)) : Option ((Nat → Int32)) := m_X4_takeOver_0 f_entries f_o0_entries
theorem c_X4_takeOver (l : Launch) (G : gk_G) (a0 a1 b0 b1 : Nat) (f_entries : (Nat → Int32)) (f_o0_entries : (Nat → Int32)) {g_entries : (Nat → Int32)} (hm : m_X4_takeOver f_entries f_o0_entries = some g_entries) : gk_M l yX4_takeOver wsX4_takeOver rm_X4_takeOver false G [.ref a0, .ref b0] [(a0, .inr (3, [.ref a1])), (a1, gk_I G 36 f_entries), (b0, .inr (3, [.ref b1])), (b1, gk_I G 36 f_o0_entries)] none [(a0, .inr (3, [.ref a1])), (a1, gk_I G 36 g_entries), (b0, .inr (3, [.ref b1])), (b1, gk_I G 36 f_o0_entries)] :=
  gk_of (by decide) rfl (Nat.le_of_ble_eq_true rfl) (fun p e s m below meth c A ls C h hl => w_X4_takeOver_0 C hm (fun v0 ez => by cases ez; rfl) h (show lv_has ls 2 [(0, .ref a0), (1, .ref b0)] from hl))

/-! ===== ExchangeFamilies.Table.notZero()I ===== -/
abbrev rm_X4_notZero : Room := { frames := 1, cells := 0, slots := 0, locals := 64 }
theorem k_X4_notZero_0 : ∀ w ∈ u_ws RX4 TX4 1, w ∈ wsX4_notZero := by decide +kernel
theorem k_X4_notZero_1 : Cond.fieldLink RX4 9 "ExchangeFamilies$Table" "entries" "[I" ∈ wsX4_notZero := by decide +kernel
def m_X4_notZero_B13 (f_entries : (Nat → Int32)) (x3 : Int32) (x1 : Int32) (x4 : Int32) : Option ((Int32 × Int32) ⊕ (Int32)) := (if x3 ≤ x4 then some (.inr x1) else gk_ix x4 36 ((if (f_entries x4.toNatClampNeg) = (0 : Int32) then some (.inl (x1, x4 + 1)) else some (.inl (x1 + 1, x4 + 1)))))
set_option maxRecDepth 100000 in
set_option maxHeartbeats 4000000 in
theorem w_X4_notZero_B13 {p : Program} {l : Launch} {e : Env} {s : State} {m : MethodId} {args : Array Value} {below : List Frame} {meth : Method} {c : Code} {G : gk_G} {A : Nat → Prop} {Q : State → Prop} {a0 a1 : Nat} (C : gk_C p s m args meth c cX4_notZero 6 (some .int) yX4_notZero wsX4_notZero false G A) {f_entries : (Nat → Int32)} {x3 : Int32} {x1 : Int32} {x4 : Int32} {yy : (Int32 × Int32) ⊕ (Int32)} (hm : m_X4_notZero_B13 f_entries x3 x1 x4 = some yy) (kl : ∀ (x1 : Int32) (x4 : Int32), yy = .inl (x1, x4) → ∀ (H : Heap) (locs : List Loc) (ls : Array Slot), gk_H G A s [(a0, .inr (3, [.ref a1])), (a1, gk_I G 36 f_entries)] H locs → lv_has ls 6 [(1, .int x1), (2, .ref a1), (3, .int x3), (4, .int x4)] → W p l e rm_X4_notZero s m args below meth c H locs 0 0 Q (F0 m 13 ls [])) (kx : ∀ (x1 : Int32), yy = .inr x1 → ∀ (H : Heap) (locs : List Loc) (ls : Array Slot), gk_H G A s [(a0, .inr (3, [.ref a1])), (a1, gk_I G 36 f_entries)] H locs → lv_has ls 6 [(1, .int x1)] → W p l e rm_X4_notZero s m args below meth c H locs 0 0 Q (F0 m 39 ls [])) {H : Heap} {locs : List Loc} {ls : Array Slot} (h : gk_H G A s [(a0, .inr (3, [.ref a1])), (a1, gk_I G 36 f_entries)] H locs) (hl : lv_has ls 6 [(1, .int x1), (2, .ref a1), (3, .int x3), (4, .int x4)]) : W p l e rm_X4_notZero s m args below meth c H locs 0 0 Q (F0 m 13 ls []) := by
  obtain ⟨hx, hb, hml, hr, hown, hnm, hts, hlk, hK, hSt, hA⟩ := id C
  obtain ⟨hP, hD, hS⟩ := h
  unfold m_X4_notZero_B13 at hm
  refine lv_iload hx hb dX4_notZero_13 (lv_at hl 3 rfl) ?_
  refine lv_iload_n hx hb dX4_notZero_15 rfl (lv_at hl 2 rfl) ?_
  refine lv_icmp_ge (tgt := 39) hx hb dX4_notZero_16 (by decide) (fun c3 => ?_) (fun c3 => ?_)
  · have hm := gk_it c3 hm
    exact kx _ (Option.some.inj hm).symm _ _ _ ⟨hP, hD, hS⟩ (lv_sub hl [0] rfl)
  · have hm := gk_if c3 hm
    refine lv_aload_n hx hb dX4_notZero_19 rfl (lv_at hl 1 rfl) ?_
    refine lv_iload hx hb dX4_notZero_20 (lv_at hl 3 rfl) ?_
    obtain ⟨hi, hm⟩ := gk_ix_some hm
    refine va_iald hx hb hK hP 1 0 rfl rfl hi dX4_notZero_22 ?_
    refine lv_istore (lv' := [(5, .int (f_entries x4.toNatClampNeg)), (1, .int x1), (2, .ref a1), (3, .int x3), (4, .int x4)]) hx hb dX4_notZero_23 hl (by decide) rfl (fun ls hl => ?_)
    refine lv_iload hx hb dX4_notZero_25 (lv_at hl 0 rfl) ?_
    refine lv_if_eq (tgt := 33) hx hb dX4_notZero_27 (by decide) (fun c4 => ?_) (fun c4 => ?_)
    · have hm := gk_it c4 hm
      refine lv_iinc (v := x4 + 1) (lv' := [(4, .int (x4 + 1)), (5, .int (f_entries x4.toNatClampNeg)), (1, .int x1), (2, .ref a1), (3, .int x3)]) hx hb dX4_notZero_33 hl (k := 4) rfl rfl (by decide) rfl (fun ls hl => ?_)
      refine lv_goto (tgt := 13) hx hb dX4_notZero_36 (by decide) ?_
      exact kl _ _ (Option.some.inj hm).symm _ _ _ ⟨hP, hD, hS⟩ (lv_sub hl [2, 3, 4, 0] rfl)
    · have hm := gk_if c4 hm
      refine lv_iinc (v := x1 + 1) (lv' := [(1, .int (x1 + 1)), (5, .int (f_entries x4.toNatClampNeg)), (2, .ref a1), (3, .int x3), (4, .int x4)]) hx hb dX4_notZero_30 hl (k := 1) rfl rfl (by decide) rfl (fun ls hl => ?_)
      refine lv_iinc (v := x4 + 1) (lv' := [(4, .int (x4 + 1)), (1, .int (x1 + 1)), (5, .int (f_entries x4.toNatClampNeg)), (2, .ref a1), (3, .int x3)]) hx hb dX4_notZero_33 hl (k := 4) rfl rfl (by decide) rfl (fun ls hl => ?_)
      refine lv_goto (tgt := 13) hx hb dX4_notZero_36 (by decide) ?_
      exact kl _ _ (Option.some.inj hm).symm _ _ _ ⟨hP, hD, hS⟩ (lv_sub hl [1, 3, 4, 0] rfl)
set_option maxRecDepth 100000 in
set_option maxHeartbeats 4000000 in
theorem w_X4_notZero_L13 {p : Program} {l : Launch} {e : Env} {s : State} {m : MethodId} {args : Array Value} {below : List Frame} {meth : Method} {c : Code} {G : gk_G} {A : Nat → Prop} {Q : State → Prop} {a0 a1 : Nat} (C : gk_C p s m args meth c cX4_notZero 6 (some .int) yX4_notZero wsX4_notZero false G A) {f_entries : (Nat → Int32)} {x3 : Int32} {x1 : Int32} {x4 : Int32} {k : Nat} {e_x1 : Int32} (hm : gk_lp (fun z => m_X4_notZero_B13 f_entries x3 z.1 z.2) k (x1, x4) = some e_x1) (kx : ∀ (H : Heap) (locs : List Loc) (ls : Array Slot), gk_H G A s [(a0, .inr (3, [.ref a1])), (a1, gk_I G 36 f_entries)] H locs → lv_has ls 6 [(1, .int e_x1)] → W p l e rm_X4_notZero s m args below meth c H locs 0 0 Q (F0 m 39 ls [])) {H : Heap} {locs : List Loc} {ls : Array Slot} (h : gk_H G A s [(a0, .inr (3, [.ref a1])), (a1, gk_I G 36 f_entries)] H locs) (hl : lv_has ls 6 [(1, .int x1), (2, .ref a1), (3, .int x3), (4, .int x4)]) : W p l e rm_X4_notZero s m args below meth c H locs 0 0 Q (F0 m 13 ls []) :=
  gk_lp_some (P := fun z => ∀ (H : Heap) (locs : List Loc) (ls : Array Slot), gk_H G A s [(a0, .inr (3, [.ref a1])), (a1, gk_I G 36 f_entries)] H locs → lv_has ls 6 [(1, .int z.1), (2, .ref a1), (3, .int x3), (4, .int z.2)] → W p l e rm_X4_notZero s m args below meth c H locs 0 0 Q (F0 m 13 ls [])) (E := fun r => (∀ (x1 : Int32), r = x1 → ∀ (H : Heap) (locs : List Loc) (ls : Array Slot), gk_H G A s [(a0, .inr (3, [.ref a1])), (a1, gk_I G 36 f_entries)] H locs → lv_has ls 6 [(1, .int x1)] → W p l e rm_X4_notZero s m args below meth c H locs 0 0 Q (F0 m 39 ls []))) (fun z x hf kl ke H locs ls h hl => w_X4_notZero_B13 C hf (fun v0 v1 ez => kl (v0, v1) ez) (fun v0 ez => ke _ ez v0 rfl) h hl) k (x1, x4) _ hm (fun v0 ez => (by cases ez; exact kx)) _ _ _ h hl
def m_X4_notZero_0 (f_entries : (Nat → Int32)) : Option (Int32) := gk_bd1 (gk_lp (fun z => m_X4_notZero_B13 f_entries (Int32.ofNat 36) z.1 z.2) gk_fu ((0 : Int32), (0 : Int32))) (fun e5 => some e5)
set_option maxRecDepth 100000 in
set_option maxHeartbeats 4000000 in
theorem w_X4_notZero_0 {p : Program} {l : Launch} {e : Env} {s : State} {m : MethodId} {args : Array Value} {below : List Frame} {meth : Method} {c : Code} {G : gk_G} {A : Nat → Prop} {Q : State → Prop} {a0 a1 : Nat} (C : gk_C p s m args meth c cX4_notZero 6 (some .int) yX4_notZero wsX4_notZero false G A) {f_entries : (Nat → Int32)} {yy : Int32} (hm : m_X4_notZero_0 f_entries = some yy) (kr : ∀ (rv : Int32), yy = rv → Q = MQ below (gk_Q G (some (.int rv)) [(a0, .inr (3, [.ref a1])), (a1, gk_I G 36 f_entries)] A) args s 0 0 A) {H : Heap} {locs : List Loc} {ls : Array Slot} (h : gk_H G A s [(a0, .inr (3, [.ref a1])), (a1, gk_I G 36 f_entries)] H locs) (hl : lv_has ls 6 [(0, .ref a0)]) : W p l e rm_X4_notZero s m args below meth c H locs 0 0 Q (F0 m 0 ls []) := by
  obtain ⟨hx, hb, hml, hr, hown, hnm, hts, hlk, hK, hSt, hA⟩ := id C
  obtain ⟨hP, hD, hS⟩ := h
  unfold m_X4_notZero_0 at hm
  refine lv_iconst (v := 0) hx hb dX4_notZero_0 (by decide) ?_
  refine lv_istore_n (lv' := [(1, .int (0 : Int32)), (0, .ref a0)]) hx hb dX4_notZero_1 rfl hl (by decide) rfl (fun ls hl => ?_)
  refine lv_aload_n hx hb dX4_notZero_2 rfl (lv_at hl 1 rfl) ?_
  refine va_get (D := G.1) (cl := vwCl) (own := RX4) (ref := "ExchangeFamilies$Table") (ci := 3) (v := .ref a1) (C := RX4) (T := TX4) (N := 1) hx hb hts k_X4_notZero_0 hown hK hP 0 rfl rfl 0 (by decide) (hts _ k_X4_notZero_1) (fun _ h9 => h9) rfl dX4_notZero_3 ?_
  refine lv_astore_n (lv' := [(2, .ref a1), (1, .int (0 : Int32)), (0, .ref a0)]) hx hb dX4_notZero_6 rfl hl (by decide) rfl (fun ls hl => ?_)
  refine lv_aload_n hx hb dX4_notZero_7 rfl (lv_at hl 0 rfl) ?_
  refine va_alen hx hb hK hP 1 0 rfl rfl rfl dX4_notZero_8 ?_
  refine lv_istore_n (lv' := [(3, .int (Int32.ofNat 36)), (2, .ref a1), (1, .int (0 : Int32)), (0, .ref a0)]) hx hb dX4_notZero_9 rfl hl (by decide) rfl (fun ls hl => ?_)
  refine lv_iconst (v := 0) hx hb dX4_notZero_10 (by decide) ?_
  refine lv_istore (lv' := [(4, .int (0 : Int32)), (3, .int (Int32.ofNat 36)), (2, .ref a1), (1, .int (0 : Int32)), (0, .ref a0)]) hx hb dX4_notZero_11 hl (by decide) rfl (fun ls hl => ?_)
  obtain ⟨e5, hq, hm⟩ := gk_bd1_some hm
  refine w_X4_notZero_L13 C hq (fun H locs ls h hl => ?_) ⟨hP, hD, hS⟩ (lv_sub hl [3, 2, 1, 0] rfl)
  obtain ⟨hP, hD, hS⟩ := h
  refine lv_iload_n hx hb dX4_notZero_39 rfl (lv_at hl 0 rfl) ?_
  rw [kr _ (Option.some.inj hm).symm]
  exact gk_iret C ⟨hP, hD, hS⟩ dX4_notZero_40
def m_X4_notZero (f_entries : (Nat → Int32)) : Option (Int32) := m_X4_notZero_0 f_entries
theorem c_X4_notZero (l : Launch) (G : gk_G) (a0 a1 : Nat) (f_entries : (Nat → Int32)) {rv : Int32} (hm : m_X4_notZero f_entries = some rv) : gk_M l yX4_notZero wsX4_notZero rm_X4_notZero false G [.ref a0] [(a0, .inr (3, [.ref a1])), (a1, gk_I G 36 f_entries)] (some (.int rv)) [(a0, .inr (3, [.ref a1])), (a1, gk_I G 36 f_entries)] :=
  gk_of (by decide) rfl (Nat.le_of_ble_eq_true rfl) (fun p e s m below meth c A ls C h hl => w_X4_notZero_0 C hm (fun v0 ez => by cases ez; rfl) h (show lv_has ls 6 [(0, .ref a0)] from hl))

/-! ===== ExchangeFamilies.Table.mate(II)I ===== -/
abbrev rm_X4_mate : Room := { frames := 3, cells := 0, slots := 0, locals := 150 }
def m_X4_mate_B2 (f_entries : (Nat → Int32)) (x1 : Int32) (x2 : Int32) (x3 : Int32) : Option ((Int32) ⊕ ((Int32) ⊕ (Unit))) := (if (6 : Int32) ≤ x3 then some (.inr (.inr ())) else (if ((x2 >>> (x3 &&& 31)) &&& (1 : Int32)) = (0 : Int32) then some (.inl (x3 + 1)) else gk_bd1 (m_X4_at f_entries x1 x3) (fun r6 => (if r6 = (0 : Int32) then some (.inl (x3 + 1)) else some (.inr (.inl x3))))))
set_option maxRecDepth 100000 in
set_option maxHeartbeats 4000000 in
theorem w_X4_mate_B2 {p : Program} {l : Launch} {e : Env} {s : State} {m : MethodId} {args : Array Value} {below : List Frame} {meth : Method} {c : Code} {G : gk_G} {A : Nat → Prop} {Q : State → Prop} {a0 a1 : Nat} (C : gk_C p s m args meth c cX4_mate 4 (some .int) yX4_mate wsX4_mate false G A) {f_entries : (Nat → Int32)} {x1 : Int32} {x2 : Int32} {x3 : Int32} {yy : (Int32) ⊕ ((Int32) ⊕ (Unit))} (hm : m_X4_mate_B2 f_entries x1 x2 x3 = some yy) (kl : ∀ (x3 : Int32), yy = .inl x3 → ∀ (H : Heap) (locs : List Loc) (ls : Array Slot), gk_H G A s [(a0, .inr (3, [.ref a1])), (a1, gk_I G 36 f_entries)] H locs → lv_has ls 4 [(0, .ref a0), (1, .int x1), (2, .int x2), (3, .int x3)] → W p l e rm_X4_mate s m args below meth c H locs 0 0 Q (F0 m 2 ls [])) (kx : yy = .inr (.inr ()) → ∀ (H : Heap) (locs : List Loc) (ls : Array Slot), gk_H G A s [(a0, .inr (3, [.ref a1])), (a1, gk_I G 36 f_entries)] H locs → lv_has ls 4 [] → W p l e rm_X4_mate s m args below meth c H locs 0 0 Q (F0 m 33 ls [])) (kr : ∀ (rv : Int32), yy = .inr (.inl rv) → Q = MQ below (gk_Q G (some (.int rv)) [(a0, .inr (3, [.ref a1])), (a1, gk_I G 36 f_entries)] A) args s 0 0 A) {H : Heap} {locs : List Loc} {ls : Array Slot} (h : gk_H G A s [(a0, .inr (3, [.ref a1])), (a1, gk_I G 36 f_entries)] H locs) (hl : lv_has ls 4 [(0, .ref a0), (1, .int x1), (2, .int x2), (3, .int x3)]) : W p l e rm_X4_mate s m args below meth c H locs 0 0 Q (F0 m 2 ls []) := by
  obtain ⟨hx, hb, hml, hr, hown, hnm, hts, hlk, hK, hSt, hA⟩ := id C
  obtain ⟨hP, hD, hS⟩ := h
  unfold m_X4_mate_B2 at hm
  refine lv_iload_n hx hb dX4_mate_2 rfl (lv_at hl 3 rfl) ?_
  refine lv_bipush (v := 6) hx hb dX4_mate_3 (by decide) ?_
  refine lv_icmp_ge (tgt := 33) hx hb dX4_mate_5 (by decide) (fun c4 => ?_) (fun c4 => ?_)
  · have hm := gk_it c4 hm
    exact kx (Option.some.inj hm).symm _ _ _ ⟨hP, hD, hS⟩ (lv_sub hl [] rfl)
  · have hm := gk_if c4 hm
    refine lv_iload_n hx hb dX4_mate_8 rfl (lv_at hl 2 rfl) ?_
    refine lv_iload_n hx hb dX4_mate_9 rfl (lv_at hl 3 rfl) ?_
    refine lv_ishr hx hb dX4_mate_10 ?_
    refine lv_iconst (v := 1) hx hb dX4_mate_11 (by decide) ?_
    refine lv_iand hx hb dX4_mate_12 ?_
    refine lv_if_eq (tgt := 27) hx hb dX4_mate_13 (by decide) (fun c5 => ?_) (fun c5 => ?_)
    · have hm := gk_it c5 hm
      refine lv_iinc (v := x3 + 1) (lv' := [(3, .int (x3 + 1)), (0, .ref a0), (1, .int x1), (2, .int x2)]) hx hb dX4_mate_27 hl (k := 3) rfl rfl (by decide) rfl (fun ls hl => ?_)
      refine lv_goto (tgt := 2) hx hb dX4_mate_30 (by decide) ?_
      exact kl _ (Option.some.inj hm).symm _ _ _ ⟨hP, hD, hS⟩ (lv_sub hl [1, 2, 3, 0] rfl)
    · have hm := gk_if c5 hm
      refine lv_aload_n hx hb dX4_mate_16 rfl (lv_at hl 0 rfl) ?_
      refine lv_iload_n hx hb dX4_mate_17 rfl (lv_at hl 1 rfl) ?_
      refine lv_iload_n hx hb dX4_mate_18 rfl (lv_at hl 3 rfl) ?_
      obtain ⟨r6, hq, hm⟩ := gk_bd1_some hm
      refine gk_callV (n := 2) (bytes := cX4_at) (maxL := 3) (ret := (some .int)) (Cn := RX4) (T := TX4) (N := 1) [] [(a0, .inr (3, [.ref a1])), (a1, gk_I G 36 f_entries)] [] C ⟨hP, hD, hS⟩ (c_X4_at l G a0 a1 f_entries x1 x3 hq) gX4_mate_X4_at dX4_mate_19 hl.1 [0, 1] [] [0, 1] rfl rfl ⟨rfl, rfl⟩ ⟨Nat.le_of_ble_eq_true rfl, Nat.le_of_ble_eq_true rfl⟩ ⟨rfl, by decide +kernel, by decide +kernel, by decide +kernel⟩ rfl (fun h => by cases h) (Nat.le_of_ble_eq_true rfl) rfl rfl rfl rfl (by decide) rfl rfl (fun H locs h => ?_)
      obtain ⟨hP, hD, hS⟩ := h
      refine lv_if_eq (tgt := 27) hx hb dX4_mate_22 (by decide) (fun c7 => ?_) (fun c7 => ?_)
      · have hm := gk_it c7 hm
        refine lv_iinc (v := x3 + 1) (lv' := [(3, .int (x3 + 1)), (0, .ref a0), (1, .int x1), (2, .int x2)]) hx hb dX4_mate_27 hl (k := 3) rfl rfl (by decide) rfl (fun ls hl => ?_)
        refine lv_goto (tgt := 2) hx hb dX4_mate_30 (by decide) ?_
        exact kl _ (Option.some.inj hm).symm _ _ _ ⟨hP, hD, hS⟩ (lv_sub hl [1, 2, 3, 0] rfl)
      · have hm := gk_if c7 hm
        refine lv_iload_n hx hb dX4_mate_25 rfl (lv_at hl 3 rfl) ?_
        rw [kr _ (Option.some.inj hm).symm]
        exact gk_iret C ⟨hP, hD, hS⟩ dX4_mate_26
set_option maxRecDepth 100000 in
set_option maxHeartbeats 4000000 in
theorem w_X4_mate_L2 {p : Program} {l : Launch} {e : Env} {s : State} {m : MethodId} {args : Array Value} {below : List Frame} {meth : Method} {c : Code} {G : gk_G} {A : Nat → Prop} {Q : State → Prop} {a0 a1 : Nat} (C : gk_C p s m args meth c cX4_mate 4 (some .int) yX4_mate wsX4_mate false G A) {f_entries : (Nat → Int32)} {x1 : Int32} {x2 : Int32} {x3 : Int32} {k : Nat} (hm : gk_lp (fun z => m_X4_mate_B2 f_entries x1 x2 z) k x3 = some (.inr ())) (kx : ∀ (H : Heap) (locs : List Loc) (ls : Array Slot), gk_H G A s [(a0, .inr (3, [.ref a1])), (a1, gk_I G 36 f_entries)] H locs → lv_has ls 4 [] → W p l e rm_X4_mate s m args below meth c H locs 0 0 Q (F0 m 33 ls [])) {H : Heap} {locs : List Loc} {ls : Array Slot} (h : gk_H G A s [(a0, .inr (3, [.ref a1])), (a1, gk_I G 36 f_entries)] H locs) (hl : lv_has ls 4 [(0, .ref a0), (1, .int x1), (2, .int x2), (3, .int x3)]) : W p l e rm_X4_mate s m args below meth c H locs 0 0 Q (F0 m 2 ls []) :=
  gk_lp_some (P := fun z => ∀ (H : Heap) (locs : List Loc) (ls : Array Slot), gk_H G A s [(a0, .inr (3, [.ref a1])), (a1, gk_I G 36 f_entries)] H locs → lv_has ls 4 [(0, .ref a0), (1, .int x1), (2, .int x2), (3, .int z)] → W p l e rm_X4_mate s m args below meth c H locs 0 0 Q (F0 m 2 ls [])) (E := fun r => (r = .inr () → ∀ (H : Heap) (locs : List Loc) (ls : Array Slot), gk_H G A s [(a0, .inr (3, [.ref a1])), (a1, gk_I G 36 f_entries)] H locs → lv_has ls 4 [] → W p l e rm_X4_mate s m args below meth c H locs 0 0 Q (F0 m 33 ls [])) ∧ (∀ (rv : Int32), r = .inl rv → Q = MQ below (gk_Q G (some (.int rv)) [(a0, .inr (3, [.ref a1])), (a1, gk_I G 36 f_entries)] A) args s 0 0 A)) (fun z x hf kl ke H locs ls h hl => w_X4_mate_B2 C hf (fun v0 ez => kl v0 ez) (fun ez => (ke _ ez).1 rfl) (fun v0 ez => (ke _ ez).2 v0 rfl) h hl) k x3 _ hm (⟨fun ez => (by cases ez; exact kx), fun v0 ez => (by cases ez)⟩) _ _ _ h hl
set_option maxRecDepth 100000 in
set_option maxHeartbeats 4000000 in
theorem w_X4_mate_L2r {p : Program} {l : Launch} {e : Env} {s : State} {m : MethodId} {args : Array Value} {below : List Frame} {meth : Method} {c : Code} {G : gk_G} {A : Nat → Prop} {Q : State → Prop} {a0 a1 : Nat} (C : gk_C p s m args meth c cX4_mate 4 (some .int) yX4_mate wsX4_mate false G A) {f_entries : (Nat → Int32)} {x1 : Int32} {x2 : Int32} {x3 : Int32} {k : Nat} {rv : Int32} (hm : gk_lp (fun z => m_X4_mate_B2 f_entries x1 x2 z) k x3 = some (.inl rv)) (kr : Q = MQ below (gk_Q G (some (.int rv)) [(a0, .inr (3, [.ref a1])), (a1, gk_I G 36 f_entries)] A) args s 0 0 A) {H : Heap} {locs : List Loc} {ls : Array Slot} (h : gk_H G A s [(a0, .inr (3, [.ref a1])), (a1, gk_I G 36 f_entries)] H locs) (hl : lv_has ls 4 [(0, .ref a0), (1, .int x1), (2, .int x2), (3, .int x3)]) : W p l e rm_X4_mate s m args below meth c H locs 0 0 Q (F0 m 2 ls []) :=
  gk_lp_some (P := fun z => ∀ (H : Heap) (locs : List Loc) (ls : Array Slot), gk_H G A s [(a0, .inr (3, [.ref a1])), (a1, gk_I G 36 f_entries)] H locs → lv_has ls 4 [(0, .ref a0), (1, .int x1), (2, .int x2), (3, .int z)] → W p l e rm_X4_mate s m args below meth c H locs 0 0 Q (F0 m 2 ls [])) (E := fun r => (r = .inr () → ∀ (H : Heap) (locs : List Loc) (ls : Array Slot), gk_H G A s [(a0, .inr (3, [.ref a1])), (a1, gk_I G 36 f_entries)] H locs → lv_has ls 4 [] → W p l e rm_X4_mate s m args below meth c H locs 0 0 Q (F0 m 33 ls [])) ∧ (∀ (rv : Int32), r = .inl rv → Q = MQ below (gk_Q G (some (.int rv)) [(a0, .inr (3, [.ref a1])), (a1, gk_I G 36 f_entries)] A) args s 0 0 A)) (fun z x hf kl ke H locs ls h hl => w_X4_mate_B2 C hf (fun v0 ez => kl v0 ez) (fun ez => (ke _ ez).1 rfl) (fun v0 ez => (ke _ ez).2 v0 rfl) h hl) k x3 _ hm (⟨fun ez => (by cases ez), fun v0 ez => (by cases ez; exact kr)⟩) _ _ _ h hl
def m_X4_mate_0 (f_entries : (Nat → Int32)) (x1 : Int32) (x2 : Int32) : Option (Int32) := gk_bs0 (gk_lp (fun z => m_X4_mate_B2 f_entries x1 x2 z) gk_fu (0 : Int32)) (fun r => some r) (some (-1 : Int32))
set_option maxRecDepth 100000 in
set_option maxHeartbeats 4000000 in
theorem w_X4_mate_0 {p : Program} {l : Launch} {e : Env} {s : State} {m : MethodId} {args : Array Value} {below : List Frame} {meth : Method} {c : Code} {G : gk_G} {A : Nat → Prop} {Q : State → Prop} {a0 a1 : Nat} (C : gk_C p s m args meth c cX4_mate 4 (some .int) yX4_mate wsX4_mate false G A) {f_entries : (Nat → Int32)} {x1 : Int32} {x2 : Int32} {yy : Int32} (hm : m_X4_mate_0 f_entries x1 x2 = some yy) (kr : ∀ (rv : Int32), yy = rv → Q = MQ below (gk_Q G (some (.int rv)) [(a0, .inr (3, [.ref a1])), (a1, gk_I G 36 f_entries)] A) args s 0 0 A) {H : Heap} {locs : List Loc} {ls : Array Slot} (h : gk_H G A s [(a0, .inr (3, [.ref a1])), (a1, gk_I G 36 f_entries)] H locs) (hl : lv_has ls 4 [(0, .ref a0), (1, .int x1), (2, .int x2)]) : W p l e rm_X4_mate s m args below meth c H locs 0 0 Q (F0 m 0 ls []) := by
  obtain ⟨hx, hb, hml, hr, hown, hnm, hts, hlk, hK, hSt, hA⟩ := id C
  obtain ⟨hP, hD, hS⟩ := h
  unfold m_X4_mate_0 at hm
  refine lv_iconst (v := 0) hx hb dX4_mate_0 (by decide) ?_
  refine lv_istore_n (lv' := [(3, .int (0 : Int32)), (0, .ref a0), (1, .int x1), (2, .int x2)]) hx hb dX4_mate_1 rfl hl (by decide) rfl (fun ls hl => ?_)
  rcases gk_bs0_some hm with ⟨r8, hq, hm⟩ | ⟨hq, hm⟩
  · exact w_X4_mate_L2r C hq (kr _ (Option.some.inj hm).symm) ⟨hP, hD, hS⟩ (lv_sub hl [1, 2, 3, 0] rfl)
  refine w_X4_mate_L2 C hq (fun H locs ls h hl => ?_) ⟨hP, hD, hS⟩ (lv_sub hl [1, 2, 3, 0] rfl)
  obtain ⟨hP, hD, hS⟩ := h
  refine lv_iconst (v := -1) hx hb dX4_mate_33 (by decide) ?_
  rw [kr _ (Option.some.inj hm).symm]
  exact gk_iret C ⟨hP, hD, hS⟩ dX4_mate_34
def m_X4_mate (f_entries : (Nat → Int32)) (x1 : Int32) (x2 : Int32) : Option (Int32) := m_X4_mate_0 f_entries x1 x2
theorem c_X4_mate (l : Launch) (G : gk_G) (a0 a1 : Nat) (f_entries : (Nat → Int32)) (x1 : Int32) (x2 : Int32) {rv : Int32} (hm : m_X4_mate f_entries x1 x2 = some rv) : gk_M l yX4_mate wsX4_mate rm_X4_mate false G [.ref a0, .int x1, .int x2] [(a0, .inr (3, [.ref a1])), (a1, gk_I G 36 f_entries)] (some (.int rv)) [(a0, .inr (3, [.ref a1])), (a1, gk_I G 36 f_entries)] :=
  gk_of (by decide) rfl (Nat.le_of_ble_eq_true rfl) (fun p e s m below meth c A ls C h hl => w_X4_mate_0 C hm (fun v0 ez => by cases ez; rfl) h (show lv_has ls 4 [(0, .ref a0), (1, .int x1), (2, .int x2)] from hl))

/-! ===== ExchangeFamilies.Table.pivotOnTwo(II)V ===== -/
abbrev rm_X4_pivotOnTwo : Room := { frames := 3, cells := 0, slots := 0, locals := 151 }
def m_X4_pivotOnTwo_B27 (x1 : Int32) (x2 : Int32) (x3 : Int32) (x4 : Int32) (x5 : Int32) (f_entries : (Nat → Int32)) : Option ((Int32 × (Nat → Int32)) ⊕ ((Nat → Int32))) := (if (6 : Int32) ≤ x5 then some (.inr f_entries) else (if x4 = x1 then some (.inl (x5 + 1, f_entries)) else (if x4 = x2 then some (.inl (x5 + 1, f_entries)) else (if x5 = x1 then some (.inl (x5 + 1, f_entries)) else (if x5 = x2 then some (.inl (x5 + 1, f_entries)) else gk_bd1 (m_X4_at f_entries x4 x1) (fun r17 => gk_bd1 (m_X4_at f_entries x2 x5) (fun r18 => gk_bd1 (m_X4_at f_entries x4 x2) (fun r19 => gk_bd1 (m_X4_at f_entries x1 x5) (fun r20 => gk_bd1 (m_X4_at f_entries x4 x5) (fun r21 => gk_bd1 (m_X4_write f_entries x4 x5 (r21 + (((r17 * r18) - (r19 * r20)) * x3))) (fun r22 => some (.inl (x5 + 1, r22)))))))))))))
set_option maxRecDepth 100000 in
set_option maxHeartbeats 4000000 in
theorem w_X4_pivotOnTwo_B27 {p : Program} {l : Launch} {e : Env} {s : State} {m : MethodId} {args : Array Value} {below : List Frame} {meth : Method} {c : Code} {G : gk_G} {A : Nat → Prop} {Q : State → Prop} {a0 a1 : Nat} (C : gk_C p s m args meth c cX4_pivotOnTwo 7 none yX4_pivotOnTwo wsX4_pivotOnTwo true G A) {x1 : Int32} {x2 : Int32} {x3 : Int32} {x4 : Int32} {x5 : Int32} {f_entries : (Nat → Int32)} {yy : (Int32 × (Nat → Int32)) ⊕ ((Nat → Int32))} (hm : m_X4_pivotOnTwo_B27 x1 x2 x3 x4 x5 f_entries = some yy) (kl : ∀ (x5 : Int32) (f_entries : (Nat → Int32)), yy = .inl (x5, f_entries) → ∀ (H : Heap) (locs : List Loc) (ls : Array Slot), gk_H G A s [(a0, .inr (3, [.ref a1])), (a1, gk_I G 36 f_entries)] H locs → lv_has ls 7 [(0, .ref a0), (1, .int x1), (2, .int x2), (3, .int x3), (4, .int x4), (5, .int x5)] → W p l e rm_X4_pivotOnTwo s m args below meth c H locs 0 0 Q (F0 m 27 ls [])) (kx : ∀ (f_entries : (Nat → Int32)), yy = .inr f_entries → ∀ (H : Heap) (locs : List Loc) (ls : Array Slot), gk_H G A s [(a0, .inr (3, [.ref a1])), (a1, gk_I G 36 f_entries)] H locs → lv_has ls 7 [(0, .ref a0), (1, .int x1), (2, .int x2), (3, .int x3), (4, .int x4)] → W p l e rm_X4_pivotOnTwo s m args below meth c H locs 0 0 Q (F0 m 118 ls [])) {H : Heap} {locs : List Loc} {ls : Array Slot} (h : gk_H G A s [(a0, .inr (3, [.ref a1])), (a1, gk_I G 36 f_entries)] H locs) (hl : lv_has ls 7 [(0, .ref a0), (1, .int x1), (2, .int x2), (3, .int x3), (4, .int x4), (5, .int x5)]) : W p l e rm_X4_pivotOnTwo s m args below meth c H locs 0 0 Q (F0 m 27 ls []) := by
  obtain ⟨hx, hb, hml, hr, hown, hnm, hts, hlk, hK, hSt, hA⟩ := id C
  obtain ⟨hP, hD, hS⟩ := h
  unfold m_X4_pivotOnTwo_B27 at hm
  refine lv_iload hx hb dX4_pivotOnTwo_27 (lv_at hl 5 rfl) ?_
  refine lv_bipush (v := 6) hx hb dX4_pivotOnTwo_29 (by decide) ?_
  refine lv_icmp_ge (tgt := 118) hx hb dX4_pivotOnTwo_31 (by decide) (fun c12 => ?_) (fun c12 => ?_)
  · have hm := gk_it c12 hm
    exact kx _ (Option.some.inj hm).symm _ _ _ ⟨hP, hD, hS⟩ (lv_sub hl [0, 1, 2, 3, 4] rfl)
  · have hm := gk_if c12 hm
    refine lv_iload hx hb dX4_pivotOnTwo_34 (lv_at hl 4 rfl) ?_
    refine lv_iload_n hx hb dX4_pivotOnTwo_36 rfl (lv_at hl 1 rfl) ?_
    refine lv_icmp_eq (tgt := 112) hx hb dX4_pivotOnTwo_37 (by decide) (fun c13 => ?_) (fun c13 => ?_)
    · have hm := gk_it c13 hm
      refine lv_iinc (v := x5 + 1) (lv' := [(5, .int (x5 + 1)), (0, .ref a0), (1, .int x1), (2, .int x2), (3, .int x3), (4, .int x4)]) hx hb dX4_pivotOnTwo_112 hl (k := 5) rfl rfl (by decide) rfl (fun ls hl => ?_)
      refine lv_goto (tgt := 27) hx hb dX4_pivotOnTwo_115 (by decide) ?_
      exact kl _ _ (Option.some.inj hm).symm _ _ _ ⟨hP, hD, hS⟩ (lv_sub hl [1, 2, 3, 4, 5, 0] rfl)
    · have hm := gk_if c13 hm
      refine lv_iload hx hb dX4_pivotOnTwo_40 (lv_at hl 4 rfl) ?_
      refine lv_iload_n hx hb dX4_pivotOnTwo_42 rfl (lv_at hl 2 rfl) ?_
      refine lv_icmp_eq (tgt := 112) hx hb dX4_pivotOnTwo_43 (by decide) (fun c14 => ?_) (fun c14 => ?_)
      · have hm := gk_it c14 hm
        refine lv_iinc (v := x5 + 1) (lv' := [(5, .int (x5 + 1)), (0, .ref a0), (1, .int x1), (2, .int x2), (3, .int x3), (4, .int x4)]) hx hb dX4_pivotOnTwo_112 hl (k := 5) rfl rfl (by decide) rfl (fun ls hl => ?_)
        refine lv_goto (tgt := 27) hx hb dX4_pivotOnTwo_115 (by decide) ?_
        exact kl _ _ (Option.some.inj hm).symm _ _ _ ⟨hP, hD, hS⟩ (lv_sub hl [1, 2, 3, 4, 5, 0] rfl)
      · have hm := gk_if c14 hm
        refine lv_iload hx hb dX4_pivotOnTwo_46 (lv_at hl 5 rfl) ?_
        refine lv_iload_n hx hb dX4_pivotOnTwo_48 rfl (lv_at hl 1 rfl) ?_
        refine lv_icmp_eq (tgt := 112) hx hb dX4_pivotOnTwo_49 (by decide) (fun c15 => ?_) (fun c15 => ?_)
        · have hm := gk_it c15 hm
          refine lv_iinc (v := x5 + 1) (lv' := [(5, .int (x5 + 1)), (0, .ref a0), (1, .int x1), (2, .int x2), (3, .int x3), (4, .int x4)]) hx hb dX4_pivotOnTwo_112 hl (k := 5) rfl rfl (by decide) rfl (fun ls hl => ?_)
          refine lv_goto (tgt := 27) hx hb dX4_pivotOnTwo_115 (by decide) ?_
          exact kl _ _ (Option.some.inj hm).symm _ _ _ ⟨hP, hD, hS⟩ (lv_sub hl [1, 2, 3, 4, 5, 0] rfl)
        · have hm := gk_if c15 hm
          refine lv_iload hx hb dX4_pivotOnTwo_52 (lv_at hl 5 rfl) ?_
          refine lv_iload_n hx hb dX4_pivotOnTwo_54 rfl (lv_at hl 2 rfl) ?_
          refine lv_icmp_eq (tgt := 112) hx hb dX4_pivotOnTwo_55 (by decide) (fun c16 => ?_) (fun c16 => ?_)
          · have hm := gk_it c16 hm
            refine lv_iinc (v := x5 + 1) (lv' := [(5, .int (x5 + 1)), (0, .ref a0), (1, .int x1), (2, .int x2), (3, .int x3), (4, .int x4)]) hx hb dX4_pivotOnTwo_112 hl (k := 5) rfl rfl (by decide) rfl (fun ls hl => ?_)
            refine lv_goto (tgt := 27) hx hb dX4_pivotOnTwo_115 (by decide) ?_
            exact kl _ _ (Option.some.inj hm).symm _ _ _ ⟨hP, hD, hS⟩ (lv_sub hl [1, 2, 3, 4, 5, 0] rfl)
          · have hm := gk_if c16 hm
            refine lv_aload_n hx hb dX4_pivotOnTwo_58 rfl (lv_at hl 0 rfl) ?_
            refine lv_iload hx hb dX4_pivotOnTwo_59 (lv_at hl 4 rfl) ?_
            refine lv_iload_n hx hb dX4_pivotOnTwo_61 rfl (lv_at hl 1 rfl) ?_
            obtain ⟨r17, hq, hm⟩ := gk_bd1_some hm
            refine gk_callV (n := 2) (bytes := cX4_at) (maxL := 3) (ret := (some .int)) (Cn := RX4) (T := TX4) (N := 1) [] [(a0, .inr (3, [.ref a1])), (a1, gk_I G 36 f_entries)] [] C ⟨hP, hD, hS⟩ (c_X4_at l G a0 a1 f_entries x4 x1 hq) gX4_pivotOnTwo_X4_at dX4_pivotOnTwo_62 hl.1 [0, 1] [] [0, 1] rfl rfl ⟨rfl, rfl⟩ ⟨Nat.le_of_ble_eq_true rfl, Nat.le_of_ble_eq_true rfl⟩ ⟨rfl, by decide +kernel, by decide +kernel, by decide +kernel⟩ rfl (fun h => by cases h) (Nat.le_of_ble_eq_true rfl) rfl rfl rfl rfl (by decide) rfl rfl (fun H locs h => ?_)
            obtain ⟨hP, hD, hS⟩ := h
            refine lv_aload_n hx hb dX4_pivotOnTwo_65 rfl (lv_at hl 0 rfl) ?_
            refine lv_iload_n hx hb dX4_pivotOnTwo_66 rfl (lv_at hl 2 rfl) ?_
            refine lv_iload hx hb dX4_pivotOnTwo_67 (lv_at hl 5 rfl) ?_
            obtain ⟨r18, hq, hm⟩ := gk_bd1_some hm
            refine gk_callV (n := 2) (bytes := cX4_at) (maxL := 3) (ret := (some .int)) (Cn := RX4) (T := TX4) (N := 1) [] [(a0, .inr (3, [.ref a1])), (a1, gk_I G 36 f_entries)] [.int r17] C ⟨hP, hD, hS⟩ (c_X4_at l G a0 a1 f_entries x2 x5 hq) gX4_pivotOnTwo_X4_at dX4_pivotOnTwo_69 hl.1 [0, 1] [] [0, 1] rfl rfl ⟨rfl, rfl⟩ ⟨Nat.le_of_ble_eq_true rfl, Nat.le_of_ble_eq_true rfl⟩ ⟨rfl, by decide +kernel, by decide +kernel, by decide +kernel⟩ rfl (fun h => by cases h) (Nat.le_of_ble_eq_true rfl) rfl rfl rfl rfl (by decide) rfl rfl (fun H locs h => ?_)
            obtain ⟨hP, hD, hS⟩ := h
            refine lv_imul hx hb dX4_pivotOnTwo_72 ?_
            refine lv_aload_n hx hb dX4_pivotOnTwo_73 rfl (lv_at hl 0 rfl) ?_
            refine lv_iload hx hb dX4_pivotOnTwo_74 (lv_at hl 4 rfl) ?_
            refine lv_iload_n hx hb dX4_pivotOnTwo_76 rfl (lv_at hl 2 rfl) ?_
            obtain ⟨r19, hq, hm⟩ := gk_bd1_some hm
            refine gk_callV (n := 2) (bytes := cX4_at) (maxL := 3) (ret := (some .int)) (Cn := RX4) (T := TX4) (N := 1) [] [(a0, .inr (3, [.ref a1])), (a1, gk_I G 36 f_entries)] [.int (r17 * r18)] C ⟨hP, hD, hS⟩ (c_X4_at l G a0 a1 f_entries x4 x2 hq) gX4_pivotOnTwo_X4_at dX4_pivotOnTwo_77 hl.1 [0, 1] [] [0, 1] rfl rfl ⟨rfl, rfl⟩ ⟨Nat.le_of_ble_eq_true rfl, Nat.le_of_ble_eq_true rfl⟩ ⟨rfl, by decide +kernel, by decide +kernel, by decide +kernel⟩ rfl (fun h => by cases h) (Nat.le_of_ble_eq_true rfl) rfl rfl rfl rfl (by decide) rfl rfl (fun H locs h => ?_)
            obtain ⟨hP, hD, hS⟩ := h
            refine lv_aload_n hx hb dX4_pivotOnTwo_80 rfl (lv_at hl 0 rfl) ?_
            refine lv_iload_n hx hb dX4_pivotOnTwo_81 rfl (lv_at hl 1 rfl) ?_
            refine lv_iload hx hb dX4_pivotOnTwo_82 (lv_at hl 5 rfl) ?_
            obtain ⟨r20, hq, hm⟩ := gk_bd1_some hm
            refine gk_callV (n := 2) (bytes := cX4_at) (maxL := 3) (ret := (some .int)) (Cn := RX4) (T := TX4) (N := 1) [] [(a0, .inr (3, [.ref a1])), (a1, gk_I G 36 f_entries)] [.int r19, .int (r17 * r18)] C ⟨hP, hD, hS⟩ (c_X4_at l G a0 a1 f_entries x1 x5 hq) gX4_pivotOnTwo_X4_at dX4_pivotOnTwo_84 hl.1 [0, 1] [] [0, 1] rfl rfl ⟨rfl, rfl⟩ ⟨Nat.le_of_ble_eq_true rfl, Nat.le_of_ble_eq_true rfl⟩ ⟨rfl, by decide +kernel, by decide +kernel, by decide +kernel⟩ rfl (fun h => by cases h) (Nat.le_of_ble_eq_true rfl) rfl rfl rfl rfl (by decide) rfl rfl (fun H locs h => ?_)
            obtain ⟨hP, hD, hS⟩ := h
            refine lv_imul hx hb dX4_pivotOnTwo_87 ?_
            refine lv_isub hx hb dX4_pivotOnTwo_88 ?_
            refine lv_istore (lv' := [(6, .int ((r17 * r18) - (r19 * r20))), (0, .ref a0), (1, .int x1), (2, .int x2), (3, .int x3), (4, .int x4), (5, .int x5)]) hx hb dX4_pivotOnTwo_89 hl (by decide) rfl (fun ls hl => ?_)
            refine lv_aload_n hx hb dX4_pivotOnTwo_91 rfl (lv_at hl 1 rfl) ?_
            refine lv_iload hx hb dX4_pivotOnTwo_92 (lv_at hl 5 rfl) ?_
            refine lv_iload hx hb dX4_pivotOnTwo_94 (lv_at hl 6 rfl) ?_
            refine lv_aload_n hx hb dX4_pivotOnTwo_96 rfl (lv_at hl 1 rfl) ?_
            refine lv_iload hx hb dX4_pivotOnTwo_97 (lv_at hl 5 rfl) ?_
            refine lv_iload hx hb dX4_pivotOnTwo_99 (lv_at hl 6 rfl) ?_
            obtain ⟨r21, hq, hm⟩ := gk_bd1_some hm
            refine gk_callV (n := 2) (bytes := cX4_at) (maxL := 3) (ret := (some .int)) (Cn := RX4) (T := TX4) (N := 1) [] [(a0, .inr (3, [.ref a1])), (a1, gk_I G 36 f_entries)] [.int x5, .int x4, .ref a0] C ⟨hP, hD, hS⟩ (c_X4_at l G a0 a1 f_entries x4 x5 hq) gX4_pivotOnTwo_X4_at dX4_pivotOnTwo_101 hl.1 [0, 1] [] [0, 1] rfl rfl ⟨rfl, rfl⟩ ⟨Nat.le_of_ble_eq_true rfl, Nat.le_of_ble_eq_true rfl⟩ ⟨rfl, by decide +kernel, by decide +kernel, by decide +kernel⟩ rfl (fun h => by cases h) (Nat.le_of_ble_eq_true rfl) rfl rfl rfl rfl (by decide) rfl rfl (fun H locs h => ?_)
            obtain ⟨hP, hD, hS⟩ := h
            refine lv_iload hx hb dX4_pivotOnTwo_104 (lv_at hl 0 rfl) ?_
            refine lv_iload_n hx hb dX4_pivotOnTwo_106 rfl (lv_at hl 4 rfl) ?_
            refine lv_imul hx hb dX4_pivotOnTwo_107 ?_
            refine lv_iadd hx hb dX4_pivotOnTwo_108 ?_
            obtain ⟨r22, hq, hm⟩ := gk_bd1_some hm
            refine gk_callV (n := 3) (bytes := cX4_write) (maxL := 4) (ret := none) (Cn := RX4) (T := TX4) (N := 1) [] [(a0, .inr (3, [.ref a1])), (a1, gk_I G 36 r22)] [] C ⟨hP, hD, hS⟩ (c_X4_write l G a0 a1 f_entries x4 x5 (r21 + (((r17 * r18) - (r19 * r20)) * x3)) hq) gX4_pivotOnTwo_X4_write dX4_pivotOnTwo_109 hl.1 [0, 1] [] [0, 1] rfl rfl ⟨rfl, rfl⟩ ⟨Nat.le_of_ble_eq_true rfl, Nat.le_of_ble_eq_true rfl⟩ ⟨rfl, by decide +kernel, by decide +kernel, by decide +kernel⟩ rfl (fun h => by cases h) (Nat.le_of_ble_eq_true rfl) rfl rfl rfl rfl (by decide) rfl rfl (fun H locs h => ?_)
            obtain ⟨hP, hD, hS⟩ := h
            refine lv_iinc (v := x5 + 1) (lv' := [(5, .int (x5 + 1)), (6, .int ((r17 * r18) - (r19 * r20))), (0, .ref a0), (1, .int x1), (2, .int x2), (3, .int x3), (4, .int x4)]) hx hb dX4_pivotOnTwo_112 hl (k := 6) rfl rfl (by decide) rfl (fun ls hl => ?_)
            refine lv_goto (tgt := 27) hx hb dX4_pivotOnTwo_115 (by decide) ?_
            exact kl _ _ (Option.some.inj hm).symm _ _ _ ⟨hP, hD, hS⟩ (lv_sub hl [2, 3, 4, 5, 6, 0] rfl)
set_option maxRecDepth 100000 in
set_option maxHeartbeats 4000000 in
theorem w_X4_pivotOnTwo_L27 {p : Program} {l : Launch} {e : Env} {s : State} {m : MethodId} {args : Array Value} {below : List Frame} {meth : Method} {c : Code} {G : gk_G} {A : Nat → Prop} {Q : State → Prop} {a0 a1 : Nat} (C : gk_C p s m args meth c cX4_pivotOnTwo 7 none yX4_pivotOnTwo wsX4_pivotOnTwo true G A) {x1 : Int32} {x2 : Int32} {x3 : Int32} {x4 : Int32} {x5 : Int32} {f_entries : (Nat → Int32)} {k : Nat} {e_f_entries : (Nat → Int32)} (hm : gk_lp (fun z => m_X4_pivotOnTwo_B27 x1 x2 x3 x4 z.1 z.2) k (x5, f_entries) = some e_f_entries) (kx : ∀ (H : Heap) (locs : List Loc) (ls : Array Slot), gk_H G A s [(a0, .inr (3, [.ref a1])), (a1, gk_I G 36 e_f_entries)] H locs → lv_has ls 7 [(0, .ref a0), (1, .int x1), (2, .int x2), (3, .int x3), (4, .int x4)] → W p l e rm_X4_pivotOnTwo s m args below meth c H locs 0 0 Q (F0 m 118 ls [])) {H : Heap} {locs : List Loc} {ls : Array Slot} (h : gk_H G A s [(a0, .inr (3, [.ref a1])), (a1, gk_I G 36 f_entries)] H locs) (hl : lv_has ls 7 [(0, .ref a0), (1, .int x1), (2, .int x2), (3, .int x3), (4, .int x4), (5, .int x5)]) : W p l e rm_X4_pivotOnTwo s m args below meth c H locs 0 0 Q (F0 m 27 ls []) :=
  gk_lp_some (P := fun z => ∀ (H : Heap) (locs : List Loc) (ls : Array Slot), gk_H G A s [(a0, .inr (3, [.ref a1])), (a1, gk_I G 36 z.2)] H locs → lv_has ls 7 [(0, .ref a0), (1, .int x1), (2, .int x2), (3, .int x3), (4, .int x4), (5, .int z.1)] → W p l e rm_X4_pivotOnTwo s m args below meth c H locs 0 0 Q (F0 m 27 ls [])) (E := fun r => (∀ (f_entries : (Nat → Int32)), r = f_entries → ∀ (H : Heap) (locs : List Loc) (ls : Array Slot), gk_H G A s [(a0, .inr (3, [.ref a1])), (a1, gk_I G 36 f_entries)] H locs → lv_has ls 7 [(0, .ref a0), (1, .int x1), (2, .int x2), (3, .int x3), (4, .int x4)] → W p l e rm_X4_pivotOnTwo s m args below meth c H locs 0 0 Q (F0 m 118 ls []))) (fun z x hf kl ke H locs ls h hl => w_X4_pivotOnTwo_B27 C hf (fun v0 v1 ez => kl (v0, v1) ez) (fun v0 ez => ke _ ez v0 rfl) h hl) k (x5, f_entries) _ hm (fun v0 ez => (by cases ez; exact kx)) _ _ _ h hl
def m_X4_pivotOnTwo_B14 (x1 : Int32) (x2 : Int32) (x3 : Int32) (x4 : Int32) (f_entries : (Nat → Int32)) : Option ((Int32 × (Nat → Int32)) ⊕ ((Nat → Int32))) := (if (6 : Int32) ≤ x4 then some (.inr f_entries) else gk_bd1 (gk_lp (fun z => m_X4_pivotOnTwo_B27 x1 x2 x3 x4 z.1 z.2) gk_fu (x4 + (1 : Int32), f_entries)) (fun e23 => some (.inl (x4 + 1, e23))))
set_option maxRecDepth 100000 in
set_option maxHeartbeats 4000000 in
theorem w_X4_pivotOnTwo_B14 {p : Program} {l : Launch} {e : Env} {s : State} {m : MethodId} {args : Array Value} {below : List Frame} {meth : Method} {c : Code} {G : gk_G} {A : Nat → Prop} {Q : State → Prop} {a0 a1 : Nat} (C : gk_C p s m args meth c cX4_pivotOnTwo 7 none yX4_pivotOnTwo wsX4_pivotOnTwo true G A) {x1 : Int32} {x2 : Int32} {x3 : Int32} {x4 : Int32} {f_entries : (Nat → Int32)} {yy : (Int32 × (Nat → Int32)) ⊕ ((Nat → Int32))} (hm : m_X4_pivotOnTwo_B14 x1 x2 x3 x4 f_entries = some yy) (kl : ∀ (x4 : Int32) (f_entries : (Nat → Int32)), yy = .inl (x4, f_entries) → ∀ (H : Heap) (locs : List Loc) (ls : Array Slot), gk_H G A s [(a0, .inr (3, [.ref a1])), (a1, gk_I G 36 f_entries)] H locs → lv_has ls 7 [(0, .ref a0), (1, .int x1), (2, .int x2), (3, .int x3), (4, .int x4)] → W p l e rm_X4_pivotOnTwo s m args below meth c H locs 0 0 Q (F0 m 14 ls [])) (kx : ∀ (f_entries : (Nat → Int32)), yy = .inr f_entries → ∀ (H : Heap) (locs : List Loc) (ls : Array Slot), gk_H G A s [(a0, .inr (3, [.ref a1])), (a1, gk_I G 36 f_entries)] H locs → lv_has ls 7 [(0, .ref a0), (1, .int x1), (2, .int x2), (3, .int x3)] → W p l e rm_X4_pivotOnTwo s m args below meth c H locs 0 0 Q (F0 m 124 ls [])) {H : Heap} {locs : List Loc} {ls : Array Slot} (h : gk_H G A s [(a0, .inr (3, [.ref a1])), (a1, gk_I G 36 f_entries)] H locs) (hl : lv_has ls 7 [(0, .ref a0), (1, .int x1), (2, .int x2), (3, .int x3), (4, .int x4)]) : W p l e rm_X4_pivotOnTwo s m args below meth c H locs 0 0 Q (F0 m 14 ls []) := by
  obtain ⟨hx, hb, hml, hr, hown, hnm, hts, hlk, hK, hSt, hA⟩ := id C
  obtain ⟨hP, hD, hS⟩ := h
  unfold m_X4_pivotOnTwo_B14 at hm
  refine lv_iload hx hb dX4_pivotOnTwo_14 (lv_at hl 4 rfl) ?_
  refine lv_bipush (v := 6) hx hb dX4_pivotOnTwo_16 (by decide) ?_
  refine lv_icmp_ge (tgt := 124) hx hb dX4_pivotOnTwo_18 (by decide) (fun c11 => ?_) (fun c11 => ?_)
  · have hm := gk_it c11 hm
    exact kx _ (Option.some.inj hm).symm _ _ _ ⟨hP, hD, hS⟩ (lv_sub hl [0, 1, 2, 3] rfl)
  · have hm := gk_if c11 hm
    refine lv_iload hx hb dX4_pivotOnTwo_21 (lv_at hl 4 rfl) ?_
    refine lv_iconst (v := 1) hx hb dX4_pivotOnTwo_23 (by decide) ?_
    refine lv_iadd hx hb dX4_pivotOnTwo_24 ?_
    refine lv_istore (lv' := [(5, .int (x4 + (1 : Int32))), (0, .ref a0), (1, .int x1), (2, .int x2), (3, .int x3), (4, .int x4)]) hx hb dX4_pivotOnTwo_25 hl (by decide) rfl (fun ls hl => ?_)
    obtain ⟨e23, hq, hm⟩ := gk_bd1_some hm
    refine w_X4_pivotOnTwo_L27 C hq (fun H locs ls h hl => ?_) ⟨hP, hD, hS⟩ (lv_sub hl [1, 2, 3, 4, 5, 0] rfl)
    obtain ⟨hP, hD, hS⟩ := h
    refine lv_iinc (v := x4 + 1) (lv' := [(4, .int (x4 + 1)), (0, .ref a0), (1, .int x1), (2, .int x2), (3, .int x3)]) hx hb dX4_pivotOnTwo_118 hl (k := 4) rfl rfl (by decide) rfl (fun ls hl => ?_)
    refine lv_goto (tgt := 14) hx hb dX4_pivotOnTwo_121 (by decide) ?_
    exact kl _ _ (Option.some.inj hm).symm _ _ _ ⟨hP, hD, hS⟩ (lv_sub hl [1, 2, 3, 4, 0] rfl)
set_option maxRecDepth 100000 in
set_option maxHeartbeats 4000000 in
theorem w_X4_pivotOnTwo_L14 {p : Program} {l : Launch} {e : Env} {s : State} {m : MethodId} {args : Array Value} {below : List Frame} {meth : Method} {c : Code} {G : gk_G} {A : Nat → Prop} {Q : State → Prop} {a0 a1 : Nat} (C : gk_C p s m args meth c cX4_pivotOnTwo 7 none yX4_pivotOnTwo wsX4_pivotOnTwo true G A) {x1 : Int32} {x2 : Int32} {x3 : Int32} {x4 : Int32} {f_entries : (Nat → Int32)} {k : Nat} {e_f_entries : (Nat → Int32)} (hm : gk_lp (fun z => m_X4_pivotOnTwo_B14 x1 x2 x3 z.1 z.2) k (x4, f_entries) = some e_f_entries) (kx : ∀ (H : Heap) (locs : List Loc) (ls : Array Slot), gk_H G A s [(a0, .inr (3, [.ref a1])), (a1, gk_I G 36 e_f_entries)] H locs → lv_has ls 7 [(0, .ref a0), (1, .int x1), (2, .int x2), (3, .int x3)] → W p l e rm_X4_pivotOnTwo s m args below meth c H locs 0 0 Q (F0 m 124 ls [])) {H : Heap} {locs : List Loc} {ls : Array Slot} (h : gk_H G A s [(a0, .inr (3, [.ref a1])), (a1, gk_I G 36 f_entries)] H locs) (hl : lv_has ls 7 [(0, .ref a0), (1, .int x1), (2, .int x2), (3, .int x3), (4, .int x4)]) : W p l e rm_X4_pivotOnTwo s m args below meth c H locs 0 0 Q (F0 m 14 ls []) :=
  gk_lp_some (P := fun z => ∀ (H : Heap) (locs : List Loc) (ls : Array Slot), gk_H G A s [(a0, .inr (3, [.ref a1])), (a1, gk_I G 36 z.2)] H locs → lv_has ls 7 [(0, .ref a0), (1, .int x1), (2, .int x2), (3, .int x3), (4, .int z.1)] → W p l e rm_X4_pivotOnTwo s m args below meth c H locs 0 0 Q (F0 m 14 ls [])) (E := fun r => (∀ (f_entries : (Nat → Int32)), r = f_entries → ∀ (H : Heap) (locs : List Loc) (ls : Array Slot), gk_H G A s [(a0, .inr (3, [.ref a1])), (a1, gk_I G 36 f_entries)] H locs → lv_has ls 7 [(0, .ref a0), (1, .int x1), (2, .int x2), (3, .int x3)] → W p l e rm_X4_pivotOnTwo s m args below meth c H locs 0 0 Q (F0 m 124 ls []))) (fun z x hf kl ke H locs ls h hl => w_X4_pivotOnTwo_B14 C hf (fun v0 v1 ez => kl (v0, v1) ez) (fun v0 ez => ke _ ez v0 rfl) h hl) k (x4, f_entries) _ hm (fun v0 ez => (by cases ez; exact kx)) _ _ _ h hl
def m_X4_pivotOnTwo_B127 (x1 : Int32) (x2 : Int32) (x3 : Int32) (x4 : Int32) (f_entries : (Nat → Int32)) : Option ((Int32 × (Nat → Int32)) ⊕ ((Nat → Int32))) := (if (6 : Int32) ≤ x4 then some (.inr f_entries) else (if x4 = x1 then some (.inl (x4 + 1, f_entries)) else (if x4 = x2 then some (.inl (x4 + 1, f_entries)) else gk_bd1 (m_X4_at f_entries x1 x4) (fun r28 => gk_bd1 (m_X4_at f_entries x2 x4) (fun r29 => gk_bd1 (m_X4_write f_entries x1 x4 (r29 * x3)) (fun r30 => gk_bd1 (m_X4_write r30 x2 x4 ((-r28) * x3)) (fun r31 => some (.inl (x4 + 1, r31)))))))))
set_option maxRecDepth 100000 in
set_option maxHeartbeats 4000000 in
theorem w_X4_pivotOnTwo_B127 {p : Program} {l : Launch} {e : Env} {s : State} {m : MethodId} {args : Array Value} {below : List Frame} {meth : Method} {c : Code} {G : gk_G} {A : Nat → Prop} {Q : State → Prop} {a0 a1 : Nat} (C : gk_C p s m args meth c cX4_pivotOnTwo 7 none yX4_pivotOnTwo wsX4_pivotOnTwo true G A) {x1 : Int32} {x2 : Int32} {x3 : Int32} {x4 : Int32} {f_entries : (Nat → Int32)} {yy : (Int32 × (Nat → Int32)) ⊕ ((Nat → Int32))} (hm : m_X4_pivotOnTwo_B127 x1 x2 x3 x4 f_entries = some yy) (kl : ∀ (x4 : Int32) (f_entries : (Nat → Int32)), yy = .inl (x4, f_entries) → ∀ (H : Heap) (locs : List Loc) (ls : Array Slot), gk_H G A s [(a0, .inr (3, [.ref a1])), (a1, gk_I G 36 f_entries)] H locs → lv_has ls 7 [(0, .ref a0), (1, .int x1), (2, .int x2), (3, .int x3), (4, .int x4)] → W p l e rm_X4_pivotOnTwo s m args below meth c H locs 0 0 Q (F0 m 127 ls [])) (kx : ∀ (f_entries : (Nat → Int32)), yy = .inr f_entries → ∀ (H : Heap) (locs : List Loc) (ls : Array Slot), gk_H G A s [(a0, .inr (3, [.ref a1])), (a1, gk_I G 36 f_entries)] H locs → lv_has ls 7 [(0, .ref a0), (1, .int x1), (2, .int x2), (3, .int x3)] → W p l e rm_X4_pivotOnTwo s m args below meth c H locs 0 0 Q (F0 m 189 ls [])) {H : Heap} {locs : List Loc} {ls : Array Slot} (h : gk_H G A s [(a0, .inr (3, [.ref a1])), (a1, gk_I G 36 f_entries)] H locs) (hl : lv_has ls 7 [(0, .ref a0), (1, .int x1), (2, .int x2), (3, .int x3), (4, .int x4)]) : W p l e rm_X4_pivotOnTwo s m args below meth c H locs 0 0 Q (F0 m 127 ls []) := by
  obtain ⟨hx, hb, hml, hr, hown, hnm, hts, hlk, hK, hSt, hA⟩ := id C
  obtain ⟨hP, hD, hS⟩ := h
  unfold m_X4_pivotOnTwo_B127 at hm
  refine lv_iload hx hb dX4_pivotOnTwo_127 (lv_at hl 4 rfl) ?_
  refine lv_bipush (v := 6) hx hb dX4_pivotOnTwo_129 (by decide) ?_
  refine lv_icmp_ge (tgt := 189) hx hb dX4_pivotOnTwo_131 (by decide) (fun c25 => ?_) (fun c25 => ?_)
  · have hm := gk_it c25 hm
    exact kx _ (Option.some.inj hm).symm _ _ _ ⟨hP, hD, hS⟩ (lv_sub hl [0, 1, 2, 3] rfl)
  · have hm := gk_if c25 hm
    refine lv_iload hx hb dX4_pivotOnTwo_134 (lv_at hl 4 rfl) ?_
    refine lv_iload_n hx hb dX4_pivotOnTwo_136 rfl (lv_at hl 1 rfl) ?_
    refine lv_icmp_eq (tgt := 183) hx hb dX4_pivotOnTwo_137 (by decide) (fun c26 => ?_) (fun c26 => ?_)
    · have hm := gk_it c26 hm
      refine lv_iinc (v := x4 + 1) (lv' := [(4, .int (x4 + 1)), (0, .ref a0), (1, .int x1), (2, .int x2), (3, .int x3)]) hx hb dX4_pivotOnTwo_183 hl (k := 4) rfl rfl (by decide) rfl (fun ls hl => ?_)
      refine lv_goto (tgt := 127) hx hb dX4_pivotOnTwo_186 (by decide) ?_
      exact kl _ _ (Option.some.inj hm).symm _ _ _ ⟨hP, hD, hS⟩ (lv_sub hl [1, 2, 3, 4, 0] rfl)
    · have hm := gk_if c26 hm
      refine lv_iload hx hb dX4_pivotOnTwo_140 (lv_at hl 4 rfl) ?_
      refine lv_iload_n hx hb dX4_pivotOnTwo_142 rfl (lv_at hl 2 rfl) ?_
      refine lv_icmp_eq (tgt := 183) hx hb dX4_pivotOnTwo_143 (by decide) (fun c27 => ?_) (fun c27 => ?_)
      · have hm := gk_it c27 hm
        refine lv_iinc (v := x4 + 1) (lv' := [(4, .int (x4 + 1)), (0, .ref a0), (1, .int x1), (2, .int x2), (3, .int x3)]) hx hb dX4_pivotOnTwo_183 hl (k := 4) rfl rfl (by decide) rfl (fun ls hl => ?_)
        refine lv_goto (tgt := 127) hx hb dX4_pivotOnTwo_186 (by decide) ?_
        exact kl _ _ (Option.some.inj hm).symm _ _ _ ⟨hP, hD, hS⟩ (lv_sub hl [1, 2, 3, 4, 0] rfl)
      · have hm := gk_if c27 hm
        refine lv_aload_n hx hb dX4_pivotOnTwo_146 rfl (lv_at hl 0 rfl) ?_
        refine lv_iload_n hx hb dX4_pivotOnTwo_147 rfl (lv_at hl 1 rfl) ?_
        refine lv_iload hx hb dX4_pivotOnTwo_148 (lv_at hl 4 rfl) ?_
        obtain ⟨r28, hq, hm⟩ := gk_bd1_some hm
        refine gk_callV (n := 2) (bytes := cX4_at) (maxL := 3) (ret := (some .int)) (Cn := RX4) (T := TX4) (N := 1) [] [(a0, .inr (3, [.ref a1])), (a1, gk_I G 36 f_entries)] [] C ⟨hP, hD, hS⟩ (c_X4_at l G a0 a1 f_entries x1 x4 hq) gX4_pivotOnTwo_X4_at dX4_pivotOnTwo_150 hl.1 [0, 1] [] [0, 1] rfl rfl ⟨rfl, rfl⟩ ⟨Nat.le_of_ble_eq_true rfl, Nat.le_of_ble_eq_true rfl⟩ ⟨rfl, by decide +kernel, by decide +kernel, by decide +kernel⟩ rfl (fun h => by cases h) (Nat.le_of_ble_eq_true rfl) rfl rfl rfl rfl (by decide) rfl rfl (fun H locs h => ?_)
        obtain ⟨hP, hD, hS⟩ := h
        refine lv_istore (lv' := [(5, .int r28), (0, .ref a0), (1, .int x1), (2, .int x2), (3, .int x3), (4, .int x4)]) hx hb dX4_pivotOnTwo_153 hl (by decide) rfl (fun ls hl => ?_)
        refine lv_aload_n hx hb dX4_pivotOnTwo_155 rfl (lv_at hl 1 rfl) ?_
        refine lv_iload_n hx hb dX4_pivotOnTwo_156 rfl (lv_at hl 2 rfl) ?_
        refine lv_iload hx hb dX4_pivotOnTwo_157 (lv_at hl 5 rfl) ?_
        refine lv_aload_n hx hb dX4_pivotOnTwo_159 rfl (lv_at hl 1 rfl) ?_
        refine lv_iload_n hx hb dX4_pivotOnTwo_160 rfl (lv_at hl 3 rfl) ?_
        refine lv_iload hx hb dX4_pivotOnTwo_161 (lv_at hl 5 rfl) ?_
        obtain ⟨r29, hq, hm⟩ := gk_bd1_some hm
        refine gk_callV (n := 2) (bytes := cX4_at) (maxL := 3) (ret := (some .int)) (Cn := RX4) (T := TX4) (N := 1) [] [(a0, .inr (3, [.ref a1])), (a1, gk_I G 36 f_entries)] [.int x4, .int x1, .ref a0] C ⟨hP, hD, hS⟩ (c_X4_at l G a0 a1 f_entries x2 x4 hq) gX4_pivotOnTwo_X4_at dX4_pivotOnTwo_163 hl.1 [0, 1] [] [0, 1] rfl rfl ⟨rfl, rfl⟩ ⟨Nat.le_of_ble_eq_true rfl, Nat.le_of_ble_eq_true rfl⟩ ⟨rfl, by decide +kernel, by decide +kernel, by decide +kernel⟩ rfl (fun h => by cases h) (Nat.le_of_ble_eq_true rfl) rfl rfl rfl rfl (by decide) rfl rfl (fun H locs h => ?_)
        obtain ⟨hP, hD, hS⟩ := h
        refine lv_iload_n hx hb dX4_pivotOnTwo_166 rfl (lv_at hl 4 rfl) ?_
        refine lv_imul hx hb dX4_pivotOnTwo_167 ?_
        obtain ⟨r30, hq, hm⟩ := gk_bd1_some hm
        refine gk_callV (n := 3) (bytes := cX4_write) (maxL := 4) (ret := none) (Cn := RX4) (T := TX4) (N := 1) [] [(a0, .inr (3, [.ref a1])), (a1, gk_I G 36 r30)] [] C ⟨hP, hD, hS⟩ (c_X4_write l G a0 a1 f_entries x1 x4 (r29 * x3) hq) gX4_pivotOnTwo_X4_write dX4_pivotOnTwo_168 hl.1 [0, 1] [] [0, 1] rfl rfl ⟨rfl, rfl⟩ ⟨Nat.le_of_ble_eq_true rfl, Nat.le_of_ble_eq_true rfl⟩ ⟨rfl, by decide +kernel, by decide +kernel, by decide +kernel⟩ rfl (fun h => by cases h) (Nat.le_of_ble_eq_true rfl) rfl rfl rfl rfl (by decide) rfl rfl (fun H locs h => ?_)
        obtain ⟨hP, hD, hS⟩ := h
        refine lv_aload_n hx hb dX4_pivotOnTwo_171 rfl (lv_at hl 1 rfl) ?_
        refine lv_iload_n hx hb dX4_pivotOnTwo_172 rfl (lv_at hl 3 rfl) ?_
        refine lv_iload hx hb dX4_pivotOnTwo_173 (lv_at hl 5 rfl) ?_
        refine lv_iload hx hb dX4_pivotOnTwo_175 (lv_at hl 0 rfl) ?_
        refine lv_ineg hx hb dX4_pivotOnTwo_177 ?_
        refine lv_iload_n hx hb dX4_pivotOnTwo_178 rfl (lv_at hl 4 rfl) ?_
        refine lv_imul hx hb dX4_pivotOnTwo_179 ?_
        obtain ⟨r31, hq, hm⟩ := gk_bd1_some hm
        refine gk_callV (n := 3) (bytes := cX4_write) (maxL := 4) (ret := none) (Cn := RX4) (T := TX4) (N := 1) [] [(a0, .inr (3, [.ref a1])), (a1, gk_I G 36 r31)] [] C ⟨hP, hD, hS⟩ (c_X4_write l G a0 a1 r30 x2 x4 ((-r28) * x3) hq) gX4_pivotOnTwo_X4_write dX4_pivotOnTwo_180 hl.1 [0, 1] [] [0, 1] rfl rfl ⟨rfl, rfl⟩ ⟨Nat.le_of_ble_eq_true rfl, Nat.le_of_ble_eq_true rfl⟩ ⟨rfl, by decide +kernel, by decide +kernel, by decide +kernel⟩ rfl (fun h => by cases h) (Nat.le_of_ble_eq_true rfl) rfl rfl rfl rfl (by decide) rfl rfl (fun H locs h => ?_)
        obtain ⟨hP, hD, hS⟩ := h
        refine lv_iinc (v := x4 + 1) (lv' := [(4, .int (x4 + 1)), (5, .int r28), (0, .ref a0), (1, .int x1), (2, .int x2), (3, .int x3)]) hx hb dX4_pivotOnTwo_183 hl (k := 5) rfl rfl (by decide) rfl (fun ls hl => ?_)
        refine lv_goto (tgt := 127) hx hb dX4_pivotOnTwo_186 (by decide) ?_
        exact kl _ _ (Option.some.inj hm).symm _ _ _ ⟨hP, hD, hS⟩ (lv_sub hl [2, 3, 4, 5, 0] rfl)
set_option maxRecDepth 100000 in
set_option maxHeartbeats 4000000 in
theorem w_X4_pivotOnTwo_L127 {p : Program} {l : Launch} {e : Env} {s : State} {m : MethodId} {args : Array Value} {below : List Frame} {meth : Method} {c : Code} {G : gk_G} {A : Nat → Prop} {Q : State → Prop} {a0 a1 : Nat} (C : gk_C p s m args meth c cX4_pivotOnTwo 7 none yX4_pivotOnTwo wsX4_pivotOnTwo true G A) {x1 : Int32} {x2 : Int32} {x3 : Int32} {x4 : Int32} {f_entries : (Nat → Int32)} {k : Nat} {e_f_entries : (Nat → Int32)} (hm : gk_lp (fun z => m_X4_pivotOnTwo_B127 x1 x2 x3 z.1 z.2) k (x4, f_entries) = some e_f_entries) (kx : ∀ (H : Heap) (locs : List Loc) (ls : Array Slot), gk_H G A s [(a0, .inr (3, [.ref a1])), (a1, gk_I G 36 e_f_entries)] H locs → lv_has ls 7 [(0, .ref a0), (1, .int x1), (2, .int x2), (3, .int x3)] → W p l e rm_X4_pivotOnTwo s m args below meth c H locs 0 0 Q (F0 m 189 ls [])) {H : Heap} {locs : List Loc} {ls : Array Slot} (h : gk_H G A s [(a0, .inr (3, [.ref a1])), (a1, gk_I G 36 f_entries)] H locs) (hl : lv_has ls 7 [(0, .ref a0), (1, .int x1), (2, .int x2), (3, .int x3), (4, .int x4)]) : W p l e rm_X4_pivotOnTwo s m args below meth c H locs 0 0 Q (F0 m 127 ls []) :=
  gk_lp_some (P := fun z => ∀ (H : Heap) (locs : List Loc) (ls : Array Slot), gk_H G A s [(a0, .inr (3, [.ref a1])), (a1, gk_I G 36 z.2)] H locs → lv_has ls 7 [(0, .ref a0), (1, .int x1), (2, .int x2), (3, .int x3), (4, .int z.1)] → W p l e rm_X4_pivotOnTwo s m args below meth c H locs 0 0 Q (F0 m 127 ls [])) (E := fun r => (∀ (f_entries : (Nat → Int32)), r = f_entries → ∀ (H : Heap) (locs : List Loc) (ls : Array Slot), gk_H G A s [(a0, .inr (3, [.ref a1])), (a1, gk_I G 36 f_entries)] H locs → lv_has ls 7 [(0, .ref a0), (1, .int x1), (2, .int x2), (3, .int x3)] → W p l e rm_X4_pivotOnTwo s m args below meth c H locs 0 0 Q (F0 m 189 ls []))) (fun z x hf kl ke H locs ls h hl => w_X4_pivotOnTwo_B127 C hf (fun v0 v1 ez => kl (v0, v1) ez) (fun v0 ez => ke _ ez v0 rfl) h hl) k (x4, f_entries) _ hm (fun v0 ez => (by cases ez; exact kx)) _ _ _ h hl
def m_X4_pivotOnTwo_0 (f_entries : (Nat → Int32)) (x1 : Int32) (x2 : Int32) : Option ((Nat → Int32)) := gk_bd1 (m_X4_at f_entries x1 x2) (fun r10 => gk_ix r10 7 (gk_bd1 (gk_lp (fun z => m_X4_pivotOnTwo_B14 x1 x2 (gk_inv r10.toNatClampNeg) z.1 z.2) gk_fu ((0 : Int32), f_entries)) (fun e24 => gk_bd1 (gk_lp (fun z => m_X4_pivotOnTwo_B127 x1 x2 (gk_inv r10.toNatClampNeg) z.1 z.2) gk_fu ((0 : Int32), e24)) (fun e32 => gk_bd1 (m_X4_write e32 x1 x2 (-(gk_inv r10.toNatClampNeg))) (fun r33 => some r33)))))
set_option maxRecDepth 100000 in
set_option maxHeartbeats 4000000 in
theorem w_X4_pivotOnTwo_0 {p : Program} {l : Launch} {e : Env} {s : State} {m : MethodId} {args : Array Value} {below : List Frame} {meth : Method} {c : Code} {G : gk_G} {A : Nat → Prop} {Q : State → Prop} {a0 a1 : Nat} (C : gk_C p s m args meth c cX4_pivotOnTwo 7 none yX4_pivotOnTwo wsX4_pivotOnTwo true G A) {f_entries : (Nat → Int32)} {x1 : Int32} {x2 : Int32} {yy : (Nat → Int32)} (hm : m_X4_pivotOnTwo_0 f_entries x1 x2 = some yy) (kr : ∀ (g_entries : (Nat → Int32)), yy = g_entries → Q = MQ below (gk_Q G none [(a0, .inr (3, [.ref a1])), (a1, gk_I G 36 g_entries)] A) args s 0 0 A) {H : Heap} {locs : List Loc} {ls : Array Slot} (h : gk_H G A s [(a0, .inr (3, [.ref a1])), (a1, gk_I G 36 f_entries)] H locs) (hl : lv_has ls 7 [(0, .ref a0), (1, .int x1), (2, .int x2)]) : W p l e rm_X4_pivotOnTwo s m args below meth c H locs 0 0 Q (F0 m 0 ls []) := by
  obtain ⟨hx, hb, hml, hr, hown, hnm, hts, hlk, hK, hSt, hA⟩ := id C
  obtain ⟨hP, hD, hS⟩ := h
  unfold m_X4_pivotOnTwo_0 at hm
  refine va_getsN (own := RX4) (ref := "ExchangeFamilies") (host := "ExchangeFamilies") hx hb (hSt rfl).2.1.1 hS hown (va_Nw.use rfl (hSt rfl).2.2.2.2.2.1) (fun _ h9 => h9) dX4_pivotOnTwo_0 ?_
  refine lv_aload_n hx hb dX4_pivotOnTwo_3 rfl (lv_at hl 0 rfl) ?_
  refine lv_iload_n hx hb dX4_pivotOnTwo_4 rfl (lv_at hl 1 rfl) ?_
  refine lv_iload_n hx hb dX4_pivotOnTwo_5 rfl (lv_at hl 2 rfl) ?_
  obtain ⟨r10, hq, hm⟩ := gk_bd1_some hm
  refine gk_callV (n := 2) (bytes := cX4_at) (maxL := 3) (ret := (some .int)) (Cn := RX4) (T := TX4) (N := 1) [] [(a0, .inr (3, [.ref a1])), (a1, gk_I G 36 f_entries)] [.ref (G.2.2 1)] C ⟨hP, hD, hS⟩ (c_X4_at l G a0 a1 f_entries x1 x2 hq) gX4_pivotOnTwo_X4_at dX4_pivotOnTwo_6 hl.1 [0, 1] [] [0, 1] rfl rfl ⟨rfl, rfl⟩ ⟨Nat.le_of_ble_eq_true rfl, Nat.le_of_ble_eq_true rfl⟩ ⟨rfl, by decide +kernel, by decide +kernel, by decide +kernel⟩ rfl (fun h => by cases h) (Nat.le_of_ble_eq_true rfl) rfl rfl rfl rfl (by decide) rfl rfl (fun H locs h => ?_)
  obtain ⟨hP, hD, hS⟩ := h
  obtain ⟨hi, hm⟩ := gk_ix_some hm
  refine va_ti hx hb (hSt rfl).2.1.2 hS hi rfl dX4_pivotOnTwo_9 ?_
  refine lv_istore_n (lv' := [(3, .int (gk_inv r10.toNatClampNeg)), (0, .ref a0), (1, .int x1), (2, .int x2)]) hx hb dX4_pivotOnTwo_10 rfl hl (by decide) rfl (fun ls hl => ?_)
  refine lv_iconst (v := 0) hx hb dX4_pivotOnTwo_11 (by decide) ?_
  refine lv_istore (lv' := [(4, .int (0 : Int32)), (3, .int (gk_inv r10.toNatClampNeg)), (0, .ref a0), (1, .int x1), (2, .int x2)]) hx hb dX4_pivotOnTwo_12 hl (by decide) rfl (fun ls hl => ?_)
  obtain ⟨e24, hq, hm⟩ := gk_bd1_some hm
  refine w_X4_pivotOnTwo_L14 C hq (fun H locs ls h hl => ?_) ⟨hP, hD, hS⟩ (lv_sub hl [2, 3, 4, 1, 0] rfl)
  obtain ⟨hP, hD, hS⟩ := h
  refine lv_iconst (v := 0) hx hb dX4_pivotOnTwo_124 (by decide) ?_
  refine lv_istore (lv' := [(4, .int (0 : Int32)), (0, .ref a0), (1, .int x1), (2, .int x2), (3, .int (gk_inv r10.toNatClampNeg))]) hx hb dX4_pivotOnTwo_125 hl (by decide) rfl (fun ls hl => ?_)
  obtain ⟨e32, hq, hm⟩ := gk_bd1_some hm
  refine w_X4_pivotOnTwo_L127 C hq (fun H locs ls h hl => ?_) ⟨hP, hD, hS⟩ (lv_sub hl [1, 2, 3, 4, 0] rfl)
  obtain ⟨hP, hD, hS⟩ := h
  refine lv_aload_n hx hb dX4_pivotOnTwo_189 rfl (lv_at hl 0 rfl) ?_
  refine lv_iload_n hx hb dX4_pivotOnTwo_190 rfl (lv_at hl 1 rfl) ?_
  refine lv_iload_n hx hb dX4_pivotOnTwo_191 rfl (lv_at hl 2 rfl) ?_
  refine lv_iload_n hx hb dX4_pivotOnTwo_192 rfl (lv_at hl 3 rfl) ?_
  refine lv_ineg hx hb dX4_pivotOnTwo_193 ?_
  obtain ⟨r33, hq, hm⟩ := gk_bd1_some hm
  refine gk_callV (n := 3) (bytes := cX4_write) (maxL := 4) (ret := none) (Cn := RX4) (T := TX4) (N := 1) [] [(a0, .inr (3, [.ref a1])), (a1, gk_I G 36 r33)] [] C ⟨hP, hD, hS⟩ (c_X4_write l G a0 a1 e32 x1 x2 (-(gk_inv r10.toNatClampNeg)) hq) gX4_pivotOnTwo_X4_write dX4_pivotOnTwo_194 hl.1 [0, 1] [] [0, 1] rfl rfl ⟨rfl, rfl⟩ ⟨Nat.le_of_ble_eq_true rfl, Nat.le_of_ble_eq_true rfl⟩ ⟨rfl, by decide +kernel, by decide +kernel, by decide +kernel⟩ rfl (fun h => by cases h) (Nat.le_of_ble_eq_true rfl) rfl rfl rfl rfl (by decide) rfl rfl (fun H locs h => ?_)
  obtain ⟨hP, hD, hS⟩ := h
  rw [kr _ (Option.some.inj hm).symm]
  exact gk_vret C ⟨hP, hD, hS⟩ dX4_pivotOnTwo_197
def m_X4_pivotOnTwo (f_entries : (Nat → Int32)) (x1 : Int32) (x2 : Int32) : Option ((Nat → Int32)) := m_X4_pivotOnTwo_0 f_entries x1 x2
theorem c_X4_pivotOnTwo (l : Launch) (G : gk_G) (a0 a1 : Nat) (f_entries : (Nat → Int32)) (x1 : Int32) (x2 : Int32) {g_entries : (Nat → Int32)} (hm : m_X4_pivotOnTwo f_entries x1 x2 = some g_entries) : gk_M l yX4_pivotOnTwo wsX4_pivotOnTwo rm_X4_pivotOnTwo true G [.ref a0, .int x1, .int x2] [(a0, .inr (3, [.ref a1])), (a1, gk_I G 36 f_entries)] none [(a0, .inr (3, [.ref a1])), (a1, gk_I G 36 g_entries)] :=
  gk_of (by decide) rfl (Nat.le_of_ble_eq_true rfl) (fun p e s m below meth c A ls C h hl => w_X4_pivotOnTwo_0 C hm (fun v0 ez => by cases ez; rfl) h (show lv_has ls 7 [(0, .ref a0), (1, .int x1), (2, .int x2)] from hl))

/-! ===== ExchangeFamilies.Table.pivotOn(I)I ===== -/
abbrev rm_X4_pivotOn : Room := { frames := 5, cells := 0, slots := 0, locals := 241 }
def m_X4_pivotOn_B7 (x2 : Int32) (x3 : Int32) (x4 : Int32) (f_entries : (Nat → Int32)) : Option ((Int32 × Int32 × Int32 × (Nat → Int32)) ⊕ ((Int32 × (Nat → Int32)) ⊕ (Int32 × (Nat → Int32)))) := (if (6 : Int32) ≤ x4 then some (.inr (.inr (x2, f_entries))) else (if ((x3 >>> (x4 &&& 31)) &&& (1 : Int32)) = (0 : Int32) then some (.inl (x2, x3, x4 + 1, f_entries)) else gk_bd1 (m_X4_mate f_entries x4 x3) (fun r6 => (if r6 = (-1 : Int32) then some (.inr (.inl ((0 : Int32), f_entries))) else gk_bd1 (m_X4_at f_entries x4 r6) (fun r8 => gk_bd1 (m_X4_at f_entries x4 r6) (fun r9 => gk_nz (7 : Int32) (gk_bd1 (m_X4_pivotOnTwo f_entries x4 r6) (fun r10 => some (.inl (((x2 * r8) * r9) - ((x2 * r8) * r9) / (7 : Int32) * (7 : Int32), x3 &&& ((((1 : Int32) <<< (x4 &&& 31)) ||| ((1 : Int32) <<< (r6 &&& 31))) ^^^ (-1 : Int32)), x4 + 1, r10))))))))))
set_option maxRecDepth 100000 in
set_option maxHeartbeats 4000000 in
theorem w_X4_pivotOn_B7 {p : Program} {l : Launch} {e : Env} {s : State} {m : MethodId} {args : Array Value} {below : List Frame} {meth : Method} {c : Code} {G : gk_G} {A : Nat → Prop} {Q : State → Prop} {a0 a1 : Nat} (C : gk_C p s m args meth c cX4_pivotOn 6 (some .int) yX4_pivotOn wsX4_pivotOn true G A) {x2 : Int32} {x3 : Int32} {x4 : Int32} {f_entries : (Nat → Int32)} {yy : (Int32 × Int32 × Int32 × (Nat → Int32)) ⊕ ((Int32 × (Nat → Int32)) ⊕ (Int32 × (Nat → Int32)))} (hm : m_X4_pivotOn_B7 x2 x3 x4 f_entries = some yy) (kl : ∀ (x2 : Int32) (x3 : Int32) (x4 : Int32) (f_entries : (Nat → Int32)), yy = .inl (x2, x3, x4, f_entries) → ∀ (H : Heap) (locs : List Loc) (ls : Array Slot), gk_H G A s [(a0, .inr (3, [.ref a1])), (a1, gk_I G 36 f_entries)] H locs → lv_has ls 6 [(0, .ref a0), (2, .int x2), (3, .int x3), (4, .int x4)] → W p l e rm_X4_pivotOn s m args below meth c H locs 0 0 Q (F0 m 7 ls [])) (kx : ∀ (x2 : Int32) (f_entries : (Nat → Int32)), yy = .inr (.inr (x2, f_entries)) → ∀ (H : Heap) (locs : List Loc) (ls : Array Slot), gk_H G A s [(a0, .inr (3, [.ref a1])), (a1, gk_I G 36 f_entries)] H locs → lv_has ls 6 [(2, .int x2)] → W p l e rm_X4_pivotOn s m args below meth c H locs 0 0 Q (F0 m 94 ls [])) (kr : ∀ (rv : Int32) (g_entries : (Nat → Int32)), yy = .inr (.inl (rv, g_entries)) → Q = MQ below (gk_Q G (some (.int rv)) [(a0, .inr (3, [.ref a1])), (a1, gk_I G 36 g_entries)] A) args s 0 0 A) {H : Heap} {locs : List Loc} {ls : Array Slot} (h : gk_H G A s [(a0, .inr (3, [.ref a1])), (a1, gk_I G 36 f_entries)] H locs) (hl : lv_has ls 6 [(0, .ref a0), (2, .int x2), (3, .int x3), (4, .int x4)]) : W p l e rm_X4_pivotOn s m args below meth c H locs 0 0 Q (F0 m 7 ls []) := by
  obtain ⟨hx, hb, hml, hr, hown, hnm, hts, hlk, hK, hSt, hA⟩ := id C
  obtain ⟨hP, hD, hS⟩ := h
  unfold m_X4_pivotOn_B7 at hm
  refine lv_iload hx hb dX4_pivotOn_7 (lv_at hl 3 rfl) ?_
  refine lv_bipush (v := 6) hx hb dX4_pivotOn_9 (by decide) ?_
  refine lv_icmp_ge (tgt := 94) hx hb dX4_pivotOn_11 (by decide) (fun c4 => ?_) (fun c4 => ?_)
  · have hm := gk_it c4 hm
    exact kx _ _ (Option.some.inj hm).symm _ _ _ ⟨hP, hD, hS⟩ (lv_sub hl [1] rfl)
  · have hm := gk_if c4 hm
    refine lv_iload_n hx hb dX4_pivotOn_14 rfl (lv_at hl 2 rfl) ?_
    refine lv_iload hx hb dX4_pivotOn_15 (lv_at hl 3 rfl) ?_
    refine lv_ishr hx hb dX4_pivotOn_17 ?_
    refine lv_iconst (v := 1) hx hb dX4_pivotOn_18 (by decide) ?_
    refine lv_iand hx hb dX4_pivotOn_19 ?_
    refine lv_if_ne (tgt := 26) hx hb dX4_pivotOn_20 (by decide) (fun c5 => ?_) (fun c5 => ?_)
    · have hm := gk_if c5 hm
      refine lv_aload_n hx hb dX4_pivotOn_26 rfl (lv_at hl 0 rfl) ?_
      refine lv_iload hx hb dX4_pivotOn_27 (lv_at hl 3 rfl) ?_
      refine lv_iload_n hx hb dX4_pivotOn_29 rfl (lv_at hl 2 rfl) ?_
      obtain ⟨r6, hq, hm⟩ := gk_bd1_some hm
      refine gk_callV (n := 2) (bytes := cX4_mate) (maxL := 4) (ret := (some .int)) (Cn := RX4) (T := TX4) (N := 1) [] [(a0, .inr (3, [.ref a1])), (a1, gk_I G 36 f_entries)] [] C ⟨hP, hD, hS⟩ (c_X4_mate l G a0 a1 f_entries x4 x3 hq) gX4_pivotOn_X4_mate dX4_pivotOn_30 hl.1 [0, 1] [] [0, 1] rfl rfl ⟨rfl, rfl⟩ ⟨Nat.le_of_ble_eq_true rfl, Nat.le_of_ble_eq_true rfl⟩ ⟨rfl, by decide +kernel, by decide +kernel, by decide +kernel⟩ rfl (fun h => by cases h) (Nat.le_of_ble_eq_true rfl) rfl rfl rfl rfl (by decide) rfl rfl (fun H locs h => ?_)
      obtain ⟨hP, hD, hS⟩ := h
      refine lv_istore (lv' := [(5, .int r6), (0, .ref a0), (2, .int x2), (3, .int x3), (4, .int x4)]) hx hb dX4_pivotOn_33 hl (by decide) rfl (fun ls hl => ?_)
      refine lv_iload hx hb dX4_pivotOn_35 (lv_at hl 0 rfl) ?_
      refine lv_iconst (v := -1) hx hb dX4_pivotOn_37 (by decide) ?_
      refine lv_icmp_ne (tgt := 43) hx hb dX4_pivotOn_38 (by decide) (fun c7 => ?_) (fun c7 => ?_)
      · have hm := gk_if c7 hm
        refine lv_iload_n hx hb dX4_pivotOn_43 rfl (lv_at hl 2 rfl) ?_
        refine lv_aload_n hx hb dX4_pivotOn_44 rfl (lv_at hl 1 rfl) ?_
        refine lv_iload hx hb dX4_pivotOn_45 (lv_at hl 4 rfl) ?_
        refine lv_iload hx hb dX4_pivotOn_47 (lv_at hl 0 rfl) ?_
        obtain ⟨r8, hq, hm⟩ := gk_bd1_some hm
        refine gk_callV (n := 2) (bytes := cX4_at) (maxL := 3) (ret := (some .int)) (Cn := RX4) (T := TX4) (N := 1) [] [(a0, .inr (3, [.ref a1])), (a1, gk_I G 36 f_entries)] [.int x2] C ⟨hP, hD, hS⟩ (c_X4_at l G a0 a1 f_entries x4 r6 hq) gX4_pivotOn_X4_at dX4_pivotOn_49 hl.1 [0, 1] [] [0, 1] rfl rfl ⟨rfl, rfl⟩ ⟨Nat.le_of_ble_eq_true rfl, Nat.le_of_ble_eq_true rfl⟩ ⟨rfl, by decide +kernel, by decide +kernel, by decide +kernel⟩ rfl (fun h => by cases h) (Nat.le_of_ble_eq_true rfl) rfl rfl rfl rfl (by decide) rfl rfl (fun H locs h => ?_)
        obtain ⟨hP, hD, hS⟩ := h
        refine lv_imul hx hb dX4_pivotOn_52 ?_
        refine lv_aload_n hx hb dX4_pivotOn_53 rfl (lv_at hl 1 rfl) ?_
        refine lv_iload hx hb dX4_pivotOn_54 (lv_at hl 4 rfl) ?_
        refine lv_iload hx hb dX4_pivotOn_56 (lv_at hl 0 rfl) ?_
        obtain ⟨r9, hq, hm⟩ := gk_bd1_some hm
        refine gk_callV (n := 2) (bytes := cX4_at) (maxL := 3) (ret := (some .int)) (Cn := RX4) (T := TX4) (N := 1) [] [(a0, .inr (3, [.ref a1])), (a1, gk_I G 36 f_entries)] [.int (x2 * r8)] C ⟨hP, hD, hS⟩ (c_X4_at l G a0 a1 f_entries x4 r6 hq) gX4_pivotOn_X4_at dX4_pivotOn_58 hl.1 [0, 1] [] [0, 1] rfl rfl ⟨rfl, rfl⟩ ⟨Nat.le_of_ble_eq_true rfl, Nat.le_of_ble_eq_true rfl⟩ ⟨rfl, by decide +kernel, by decide +kernel, by decide +kernel⟩ rfl (fun h => by cases h) (Nat.le_of_ble_eq_true rfl) rfl rfl rfl rfl (by decide) rfl rfl (fun H locs h => ?_)
        obtain ⟨hP, hD, hS⟩ := h
        refine lv_imul hx hb dX4_pivotOn_61 ?_
        refine lv_bipush (v := 7) hx hb dX4_pivotOn_62 (by decide) ?_
        obtain ⟨hz, hm⟩ := gk_nz_some hm
        refine lv_irem hx hb dX4_pivotOn_64 hz ?_
        refine lv_istore_n (lv' := [(2, .int (((x2 * r8) * r9) - ((x2 * r8) * r9) / (7 : Int32) * (7 : Int32))), (5, .int r6), (0, .ref a0), (3, .int x3), (4, .int x4)]) hx hb dX4_pivotOn_65 rfl hl (by decide) rfl (fun ls hl => ?_)
        refine lv_aload_n hx hb dX4_pivotOn_66 rfl (lv_at hl 2 rfl) ?_
        refine lv_iload hx hb dX4_pivotOn_67 (lv_at hl 4 rfl) ?_
        refine lv_iload hx hb dX4_pivotOn_69 (lv_at hl 1 rfl) ?_
        obtain ⟨r10, hq, hm⟩ := gk_bd1_some hm
        refine gk_callV (n := 2) (bytes := cX4_pivotOnTwo) (maxL := 7) (ret := none) (Cn := RX4) (T := TX4) (N := 1) [] [(a0, .inr (3, [.ref a1])), (a1, gk_I G 36 r10)] [] C ⟨hP, hD, hS⟩ (c_X4_pivotOnTwo l G a0 a1 f_entries x4 r6 hq) gX4_pivotOn_X4_pivotOnTwo dX4_pivotOn_71 hl.1 [0, 1] [] [0, 1] rfl rfl ⟨rfl, rfl⟩ ⟨Nat.le_of_ble_eq_true rfl, Nat.le_of_ble_eq_true rfl⟩ ⟨rfl, by decide +kernel, by decide +kernel, by decide +kernel⟩ rfl (fun h => h) (Nat.le_of_ble_eq_true rfl) rfl rfl rfl rfl (by decide) rfl rfl (fun H locs h => ?_)
        obtain ⟨hP, hD, hS⟩ := h
        refine lv_iload_n hx hb dX4_pivotOn_74 rfl (lv_at hl 3 rfl) ?_
        refine lv_iconst (v := 1) hx hb dX4_pivotOn_75 (by decide) ?_
        refine lv_iload hx hb dX4_pivotOn_76 (lv_at hl 4 rfl) ?_
        refine lv_ishl hx hb dX4_pivotOn_78 ?_
        refine lv_iconst (v := 1) hx hb dX4_pivotOn_79 (by decide) ?_
        refine lv_iload hx hb dX4_pivotOn_80 (lv_at hl 1 rfl) ?_
        refine lv_ishl hx hb dX4_pivotOn_82 ?_
        refine lv_ior hx hb dX4_pivotOn_83 ?_
        refine lv_iconst (v := -1) hx hb dX4_pivotOn_84 (by decide) ?_
        refine lv_ixor hx hb dX4_pivotOn_85 ?_
        refine lv_iand hx hb dX4_pivotOn_86 ?_
        refine lv_istore_n (lv' := [(3, .int (x3 &&& ((((1 : Int32) <<< (x4 &&& 31)) ||| ((1 : Int32) <<< (r6 &&& 31))) ^^^ (-1 : Int32)))), (2, .int (((x2 * r8) * r9) - ((x2 * r8) * r9) / (7 : Int32) * (7 : Int32))), (5, .int r6), (0, .ref a0), (4, .int x4)]) hx hb dX4_pivotOn_87 rfl hl (by decide) rfl (fun ls hl => ?_)
        refine lv_iinc (v := x4 + 1) (lv' := [(4, .int (x4 + 1)), (3, .int (x3 &&& ((((1 : Int32) <<< (x4 &&& 31)) ||| ((1 : Int32) <<< (r6 &&& 31))) ^^^ (-1 : Int32)))), (2, .int (((x2 * r8) * r9) - ((x2 * r8) * r9) / (7 : Int32) * (7 : Int32))), (5, .int r6), (0, .ref a0)]) hx hb dX4_pivotOn_88 hl (k := 4) rfl rfl (by decide) rfl (fun ls hl => ?_)
        refine lv_goto (tgt := 7) hx hb dX4_pivotOn_91 (by decide) ?_
        exact kl _ _ _ _ (Option.some.inj hm).symm _ _ _ ⟨hP, hD, hS⟩ (lv_sub hl [4, 2, 1, 0] rfl)
      · have hm := gk_it c7 hm
        refine lv_iconst (v := 0) hx hb dX4_pivotOn_41 (by decide) ?_
        rw [kr _ _ (Option.some.inj hm).symm]
        exact gk_iret C ⟨hP, hD, hS⟩ dX4_pivotOn_42
    · have hm := gk_it c5 hm
      refine lv_goto (tgt := 88) hx hb dX4_pivotOn_23 (by decide) ?_
      refine lv_iinc (v := x4 + 1) (lv' := [(4, .int (x4 + 1)), (0, .ref a0), (2, .int x2), (3, .int x3)]) hx hb dX4_pivotOn_88 hl (k := 3) rfl rfl (by decide) rfl (fun ls hl => ?_)
      refine lv_goto (tgt := 7) hx hb dX4_pivotOn_91 (by decide) ?_
      exact kl _ _ _ _ (Option.some.inj hm).symm _ _ _ ⟨hP, hD, hS⟩ (lv_sub hl [1, 2, 3, 0] rfl)
set_option maxRecDepth 100000 in
set_option maxHeartbeats 4000000 in
theorem w_X4_pivotOn_L7 {p : Program} {l : Launch} {e : Env} {s : State} {m : MethodId} {args : Array Value} {below : List Frame} {meth : Method} {c : Code} {G : gk_G} {A : Nat → Prop} {Q : State → Prop} {a0 a1 : Nat} (C : gk_C p s m args meth c cX4_pivotOn 6 (some .int) yX4_pivotOn wsX4_pivotOn true G A) {x2 : Int32} {x3 : Int32} {x4 : Int32} {f_entries : (Nat → Int32)} {k : Nat} {e_x2 : Int32} {e_f_entries : (Nat → Int32)} (hm : gk_lp (fun z => m_X4_pivotOn_B7 z.1 z.2.1 z.2.2.1 z.2.2.2) k (x2, x3, x4, f_entries) = some (.inr (e_x2, e_f_entries))) (kx : ∀ (H : Heap) (locs : List Loc) (ls : Array Slot), gk_H G A s [(a0, .inr (3, [.ref a1])), (a1, gk_I G 36 e_f_entries)] H locs → lv_has ls 6 [(2, .int e_x2)] → W p l e rm_X4_pivotOn s m args below meth c H locs 0 0 Q (F0 m 94 ls [])) {H : Heap} {locs : List Loc} {ls : Array Slot} (h : gk_H G A s [(a0, .inr (3, [.ref a1])), (a1, gk_I G 36 f_entries)] H locs) (hl : lv_has ls 6 [(0, .ref a0), (2, .int x2), (3, .int x3), (4, .int x4)]) : W p l e rm_X4_pivotOn s m args below meth c H locs 0 0 Q (F0 m 7 ls []) :=
  gk_lp_some (P := fun z => ∀ (H : Heap) (locs : List Loc) (ls : Array Slot), gk_H G A s [(a0, .inr (3, [.ref a1])), (a1, gk_I G 36 z.2.2.2)] H locs → lv_has ls 6 [(0, .ref a0), (2, .int z.1), (3, .int z.2.1), (4, .int z.2.2.1)] → W p l e rm_X4_pivotOn s m args below meth c H locs 0 0 Q (F0 m 7 ls [])) (E := fun r => (∀ (x2 : Int32) (f_entries : (Nat → Int32)), r = .inr (x2, f_entries) → ∀ (H : Heap) (locs : List Loc) (ls : Array Slot), gk_H G A s [(a0, .inr (3, [.ref a1])), (a1, gk_I G 36 f_entries)] H locs → lv_has ls 6 [(2, .int x2)] → W p l e rm_X4_pivotOn s m args below meth c H locs 0 0 Q (F0 m 94 ls [])) ∧ (∀ (rv : Int32) (g_entries : (Nat → Int32)), r = .inl (rv, g_entries) → Q = MQ below (gk_Q G (some (.int rv)) [(a0, .inr (3, [.ref a1])), (a1, gk_I G 36 g_entries)] A) args s 0 0 A)) (fun z x hf kl ke H locs ls h hl => w_X4_pivotOn_B7 C hf (fun v0 v1 v2 v3 ez => kl (v0, v1, v2, v3) ez) (fun v0 v1 ez => (ke _ ez).1 v0 v1 rfl) (fun v0 v1 ez => (ke _ ez).2 v0 v1 rfl) h hl) k (x2, x3, x4, f_entries) _ hm (⟨fun v0 v1 ez => (by cases ez; exact kx), fun v0 v1 ez => (by cases ez)⟩) _ _ _ h hl
set_option maxRecDepth 100000 in
set_option maxHeartbeats 4000000 in
theorem w_X4_pivotOn_L7r {p : Program} {l : Launch} {e : Env} {s : State} {m : MethodId} {args : Array Value} {below : List Frame} {meth : Method} {c : Code} {G : gk_G} {A : Nat → Prop} {Q : State → Prop} {a0 a1 : Nat} (C : gk_C p s m args meth c cX4_pivotOn 6 (some .int) yX4_pivotOn wsX4_pivotOn true G A) {x2 : Int32} {x3 : Int32} {x4 : Int32} {f_entries : (Nat → Int32)} {k : Nat} {rv : Int32} {g_entries : (Nat → Int32)} (hm : gk_lp (fun z => m_X4_pivotOn_B7 z.1 z.2.1 z.2.2.1 z.2.2.2) k (x2, x3, x4, f_entries) = some (.inl (rv, g_entries))) (kr : Q = MQ below (gk_Q G (some (.int rv)) [(a0, .inr (3, [.ref a1])), (a1, gk_I G 36 g_entries)] A) args s 0 0 A) {H : Heap} {locs : List Loc} {ls : Array Slot} (h : gk_H G A s [(a0, .inr (3, [.ref a1])), (a1, gk_I G 36 f_entries)] H locs) (hl : lv_has ls 6 [(0, .ref a0), (2, .int x2), (3, .int x3), (4, .int x4)]) : W p l e rm_X4_pivotOn s m args below meth c H locs 0 0 Q (F0 m 7 ls []) :=
  gk_lp_some (P := fun z => ∀ (H : Heap) (locs : List Loc) (ls : Array Slot), gk_H G A s [(a0, .inr (3, [.ref a1])), (a1, gk_I G 36 z.2.2.2)] H locs → lv_has ls 6 [(0, .ref a0), (2, .int z.1), (3, .int z.2.1), (4, .int z.2.2.1)] → W p l e rm_X4_pivotOn s m args below meth c H locs 0 0 Q (F0 m 7 ls [])) (E := fun r => (∀ (x2 : Int32) (f_entries : (Nat → Int32)), r = .inr (x2, f_entries) → ∀ (H : Heap) (locs : List Loc) (ls : Array Slot), gk_H G A s [(a0, .inr (3, [.ref a1])), (a1, gk_I G 36 f_entries)] H locs → lv_has ls 6 [(2, .int x2)] → W p l e rm_X4_pivotOn s m args below meth c H locs 0 0 Q (F0 m 94 ls [])) ∧ (∀ (rv : Int32) (g_entries : (Nat → Int32)), r = .inl (rv, g_entries) → Q = MQ below (gk_Q G (some (.int rv)) [(a0, .inr (3, [.ref a1])), (a1, gk_I G 36 g_entries)] A) args s 0 0 A)) (fun z x hf kl ke H locs ls h hl => w_X4_pivotOn_B7 C hf (fun v0 v1 v2 v3 ez => kl (v0, v1, v2, v3) ez) (fun v0 v1 ez => (ke _ ez).1 v0 v1 rfl) (fun v0 v1 ez => (ke _ ez).2 v0 v1 rfl) h hl) k (x2, x3, x4, f_entries) _ hm (⟨fun v0 v1 ez => (by cases ez), fun v0 v1 ez => (by cases ez; exact kr)⟩) _ _ _ h hl
def m_X4_pivotOn_0 (f_entries : (Nat → Int32)) (x1 : Int32) : Option (Int32 × (Nat → Int32)) := gk_bs2 (gk_lp (fun z => m_X4_pivotOn_B7 z.1 z.2.1 z.2.2.1 z.2.2.2) gk_fu ((1 : Int32), x1, (0 : Int32), f_entries)) (fun r => some r) (fun e11 e12 => some (e11, e12))
set_option maxRecDepth 100000 in
set_option maxHeartbeats 4000000 in
theorem w_X4_pivotOn_0 {p : Program} {l : Launch} {e : Env} {s : State} {m : MethodId} {args : Array Value} {below : List Frame} {meth : Method} {c : Code} {G : gk_G} {A : Nat → Prop} {Q : State → Prop} {a0 a1 : Nat} (C : gk_C p s m args meth c cX4_pivotOn 6 (some .int) yX4_pivotOn wsX4_pivotOn true G A) {f_entries : (Nat → Int32)} {x1 : Int32} {yy : Int32 × (Nat → Int32)} (hm : m_X4_pivotOn_0 f_entries x1 = some yy) (kr : ∀ (rv : Int32) (g_entries : (Nat → Int32)), yy = (rv, g_entries) → Q = MQ below (gk_Q G (some (.int rv)) [(a0, .inr (3, [.ref a1])), (a1, gk_I G 36 g_entries)] A) args s 0 0 A) {H : Heap} {locs : List Loc} {ls : Array Slot} (h : gk_H G A s [(a0, .inr (3, [.ref a1])), (a1, gk_I G 36 f_entries)] H locs) (hl : lv_has ls 6 [(0, .ref a0), (1, .int x1)]) : W p l e rm_X4_pivotOn s m args below meth c H locs 0 0 Q (F0 m 0 ls []) := by
  obtain ⟨hx, hb, hml, hr, hown, hnm, hts, hlk, hK, hSt, hA⟩ := id C
  obtain ⟨hP, hD, hS⟩ := h
  unfold m_X4_pivotOn_0 at hm
  refine lv_iconst (v := 1) hx hb dX4_pivotOn_0 (by decide) ?_
  refine lv_istore_n (lv' := [(2, .int (1 : Int32)), (0, .ref a0), (1, .int x1)]) hx hb dX4_pivotOn_1 rfl hl (by decide) rfl (fun ls hl => ?_)
  refine lv_iload_n hx hb dX4_pivotOn_2 rfl (lv_at hl 2 rfl) ?_
  refine lv_istore_n (lv' := [(3, .int x1), (2, .int (1 : Int32)), (0, .ref a0), (1, .int x1)]) hx hb dX4_pivotOn_3 rfl hl (by decide) rfl (fun ls hl => ?_)
  refine lv_iconst (v := 0) hx hb dX4_pivotOn_4 (by decide) ?_
  refine lv_istore (lv' := [(4, .int (0 : Int32)), (3, .int x1), (2, .int (1 : Int32)), (0, .ref a0), (1, .int x1)]) hx hb dX4_pivotOn_5 hl (by decide) rfl (fun ls hl => ?_)
  rcases gk_bs2_some hm with ⟨⟨r13, r14⟩, hq, hm⟩ | ⟨e11, e12, hq, hm⟩
  · exact w_X4_pivotOn_L7r C hq (kr _ _ (Option.some.inj hm).symm) ⟨hP, hD, hS⟩ (lv_sub hl [3, 2, 1, 0] rfl)
  refine w_X4_pivotOn_L7 C hq (fun H locs ls h hl => ?_) ⟨hP, hD, hS⟩ (lv_sub hl [3, 2, 1, 0] rfl)
  obtain ⟨hP, hD, hS⟩ := h
  refine lv_iload_n hx hb dX4_pivotOn_94 rfl (lv_at hl 0 rfl) ?_
  rw [kr _ _ (Option.some.inj hm).symm]
  exact gk_iret C ⟨hP, hD, hS⟩ dX4_pivotOn_95
def m_X4_pivotOn (f_entries : (Nat → Int32)) (x1 : Int32) : Option (Int32 × (Nat → Int32)) := m_X4_pivotOn_0 f_entries x1
theorem c_X4_pivotOn (l : Launch) (G : gk_G) (a0 a1 : Nat) (f_entries : (Nat → Int32)) (x1 : Int32) {rv : Int32} {g_entries : (Nat → Int32)} (hm : m_X4_pivotOn f_entries x1 = some (rv, g_entries)) : gk_M l yX4_pivotOn wsX4_pivotOn rm_X4_pivotOn true G [.ref a0, .int x1] [(a0, .inr (3, [.ref a1])), (a1, gk_I G 36 f_entries)] (some (.int rv)) [(a0, .inr (3, [.ref a1])), (a1, gk_I G 36 g_entries)] :=
  gk_of (by decide) rfl (Nat.le_of_ble_eq_true rfl) (fun p e s m below meth c A ls C h hl => w_X4_pivotOn_0 C hm (fun v0 v1 ez => by cases ez; rfl) h (show lv_has ls 6 [(0, .ref a0), (1, .int x1)] from hl))

