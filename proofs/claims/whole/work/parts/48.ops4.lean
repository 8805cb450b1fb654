/-! ===== image, back, count, weights, entries, taken ===== -/
def VK (ik kN5 : Int32) (kM5 : Nat → Int64) (kK5 kW5 kT5 : Nat → Int32) (kN6 : Int32) (kM6 : Nat → Int64) (kK6 kW6 kT6 : Nat → Int32) : Prop :=
  (∀ k, 6 ≤ k → kK5 k = kK6 k) ∧ kM5 = kM6 ∧ kW5 = kW6 ∧ kT5 = kT6 ∧ ((ik = 0 ∧ kN6 = -1) ∨ (ik = 1 ∧ kK5 = kK6 ∧ ∃ n', 1 ≤ n' ∧ n' ≤ 6 ∧ kN5 = nI n' ∧ kN6 = nI n' ∧ VF n' kM5 kK5 ∧ VW kW5 ∧ VT n' kT5))
theorem bd5_some {α1 α2 α3 α4 α5 γ : Type} (a1 : α1) (a2 : α2) (a3 : α3) (a4 : α4) (a5 : α5) (k : α1 → α2 → α3 → α4 → α5 → Option γ) : gk_bd5 (some (a1, a2, a3, a4, a5)) k = k a1 a2 a3 a4 a5 := rfl
theorem fill_out_eq {α : Type} {f g g' : Nat → α} {n : Nat} (h : ∀ k, n ≤ k → g k = g' k) : fa_fill f g n = fa_fill f g' n := by
  funext k
  by_cases q : k < n
  · rw [fa_fill_in q, fa_fill_in q]
  · rw [fa_fill_out (by omega), fa_fill_out (by omega), h k (by omega)]
theorem o_image {n : Nat} {M : Nat → Int64} {K W T : Nat → Int32} {ik kN5 kN6 : Int32} {kM5 kM6 : Nat → Int64} {kK5 kW5 kT5 kK6 kW6 kT6 : Nat → Int32} (h0 : 1 ≤ n) (hn : n ≤ 6) (hV : VF n M K) (hW : VW W) (hT : VT n T) (hK : VK ik kN5 kM5 kK5 kW5 kT5 kN6 kM6 kK6 kW6 kT6) :
    ∃ r kM kK kW kT, m_X5_image ik (nI n) M K W T kN5 kM5 kK5 kW5 kT5 = some (r, 1, nI n, kM, kK, kW, kT) ∧ m_X6_image (nI n) kN6 M K W T kM6 kK6 kW6 kT6 = some (r, nI n, kM, kK, kW, kT) ∧ VK 1 (nI n) kM kK kW kT (nI n) kM kK kW kT := by
  obtain ⟨hk, rfl, rfl, rfl, -⟩ := hK
  unfold m_X5_image m_X5_image_0 m_X6_image m_X6_image_0
  rw [v_take, bd5_some, v5_families, bd1_some, v_bc6 (thr_lt K), bd1_some]
  have l1 : gk_lp (fun z => m_X6_image_B10 (nI n) (nI n) M K W T kK6 kW5 kT5 z.1 z.2) gk_fu ((0 : Int32), kM5) = some (fa_fill M kM5 6) := by
    refine ru (fun i => (nI i, fa_fill M kM5 i)) 6 ?_ (by omega) (fun i hi => ?_) ?_
    · show _ = (nI 0, fa_fill M kM5 0)
      rw [fa_fill_0]
      rfl
    · show m_X6_image_B10 (nI n) (nI n) M K W T kK6 kW5 kT5 (nI i) (fa_fill M kM5 i) = some (Sum.inl (nI (i + 1), fa_fill M kM5 (i + 1)))
      unfold m_X6_image_B10
      rw [if_neg (gel 6 hi), ix_ok hi (by omega), ix_ok hi (by omega), nI_clamp (by omega), nI_1, fillL_succ]
    · show m_X6_image_B10 (nI n) (nI n) M K W T kK6 kW5 kT5 (nI 6) _ = _
      unfold m_X6_image_B10
      rw [if_pos (lel 6 (by omega))]
  rw [l1, bd1_some]
  unfold m_X6_image_J34
  rw [v_copies (by omega), bd1_some, v_copies (by omega), bd1_some, v_copies (by omega), bd1_some, v6_there, bd1_some, v_ones _ (thr_lt K), bd1_some, fill_out_eq hk]
  exact ⟨_, _, _, _, _, rfl, rfl, fun _ _ => rfl, rfl, rfl, rfl, Or.inr ⟨rfl, rfl, n, h0, hn, rfl, rfl, hV.copy, hW.copy, hT.copy⟩⟩
theorem o_back {n : Nat} {M : Nat → Int64} {K W T : Nat → Int32} {ik kN5 kN6 : Int32} {kM5 kM6 : Nat → Int64} {kK5 kW5 kT5 kK6 kW6 kT6 : Nat → Int32} (h0 : 1 ≤ n) (hn : n ≤ 6) (hV : VF n M K) (hW : VW W) (hT : VT n T) (hK : VK ik kN5 kM5 kK5 kW5 kT5 kN6 kM6 kK6 kW6 kT6) :
    ∃ r n' M' K' W' T', m_X5_back ik (nI n) M K W T kN5 kM5 kK5 kW5 kT5 = some (r, nI n', M', K', W', T') ∧ m_X6_back (nI n) kN6 M K W T kM6 kK6 kW6 kT6 = some (r, nI n', M', K', W', T') ∧ 1 ≤ n' ∧ n' ≤ 6 ∧ VF n' M' K' ∧ VW W' ∧ VT n' T' := by
  obtain ⟨hk, rfl, rfl, rfl, hc⟩ := hK
  unfold m_X5_back m_X5_back_0 m_X6_back m_X6_back_0
  rcases hc with ⟨rfl, rfl⟩ | ⟨rfl, rfl, n', a0, an, rfl, rfl, aV, aW, aT⟩
  · rw [if_pos rfl, if_pos rfl]
    exact ⟨_, n, _, _, _, _, rfl, rfl, h0, hn, hV, hW, hT⟩
  · rw [if_neg (by decide), if_neg (by
      intro q
      have := congrArg Int32.toInt q
      rw [nI_toInt (by omega)] at this
      simp at this)]
    rw [v_take, bd5_some, v5_families, bd1_some, v_bc6 (thr_lt _), bd1_some]
    have l1 : gk_lp (fun z => m_X6_back_B21 (nI n') (nI n') K W T kM5 kK5 kW5 kT5 z.1 z.2) gk_fu ((0 : Int32), M) = some (fa_fill kM5 M 6) := by
      refine ru (fun i => (nI i, fa_fill kM5 M i)) 6 ?_ (by omega) (fun i hi => ?_) ?_
      · show _ = (nI 0, fa_fill kM5 M 0)
        rw [fa_fill_0]
        rfl
      · show m_X6_back_B21 (nI n') (nI n') K W T kM5 kK5 kW5 kT5 (nI i) (fa_fill kM5 M i) = some (Sum.inl (nI (i + 1), fa_fill kM5 M (i + 1)))
        unfold m_X6_back_B21
        rw [if_neg (gel 6 hi), ix_ok hi (by omega), ix_ok hi (by omega), nI_clamp (by omega), nI_1, fillL_succ]
      · show m_X6_back_B21 (nI n') (nI n') K W T kM5 kK5 kW5 kT5 (nI 6) _ = _
        unfold m_X6_back_B21
        rw [if_pos (lel 6 (by omega))]
    rw [l1, bd1_some]
    unfold m_X6_back_J45
    rw [v_copies (by omega), bd1_some, v_copies (by omega), bd1_some, v_copies (by omega), bd1_some, v6_there, bd1_some, v_ones _ (thr_lt _), bd1_some]
    exact ⟨_, n', _, _, _, _, rfl, rfl, a0, an, aV.copy, aW.copy, aT.copy⟩
theorem VW.set {W : Nat → Int32} (h : VW W) {j : Nat} {v : Int32} (hv : -99 ≤ v.toInt ∧ v.toInt ≤ 99) : VW (upd W j v) := by
  intro f hf
  by_cases e : f = j
  · subst e; rw [pk_us]; exact hv
  · rw [pk_un e]; exact h f hf
theorem o_weight {n : Nat} {W : Nat → Int32} (h0 : 1 ≤ n) (hn : n ≤ 6) (hW : VW W) (x1 x2 : Int32) : ∃ r W', m_X5_weight (nI n) W x1 x2 = some (r, W') ∧ m_X6_weight (nI n) W x1 x2 = some (r, W') ∧ VW W' := by
  unfold m_X5_weight m_X5_weight_0 m_X6_weight m_X6_weight_0
  simp only [v5_pt hn, v6_pt h0 hn, bd1_some, q01, q10, v_isIn, Int32.lt_iff_toInt_lt, Int32.le_iff_toInt_le, Int32.toInt_toInt64, show (-99 : Int32).toInt = -99 from by decide, show (99 : Int32).toInt = 99 from by decide, show (-99 : Int64).toInt = -99 from by decide, show (99 : Int64).toInt = 99 from by decide]
  by_cases h1 : fok n x1 = true
  case neg => exact ⟨-1000, W, by simp [h1], by simp [h1], hW⟩
  obtain ⟨j, hj, rfl⟩ := fok_ex (by omega) h1
  simp only [h1, if_true, not_true, if_false, ix_ok (show j < 6 by omega) (show 6 < 2 ^ 31 by omega), nI_clamp (show j < 2 ^ 31 by omega)]
  by_cases h2 : -99 ≤ x2.toInt ∧ x2.toInt ≤ 99
  case neg =>
    refine ⟨-1000, W, ?_, by rw [if_pos h2], hW⟩
    by_cases a1 : x2.toInt < -99
    · rw [if_pos a1]
    · rw [if_neg a1, if_neg (by omega)]
  rw [if_neg (by omega), if_pos h2.2, if_neg (fun q => q h2)]
  exact ⟨_, _, rfl, rfl, hW.set h2⟩
def wsum (W : Nat → Int32) (s : Nat) : Nat → Int32
  | 0 => 0
  | i + 1 => wsum W s i + if s.testBit i then W i else 0
theorem v5_weightOf {n s : Nat} (hn : n ≤ 6) (hs : s < 64) (W : Nat → Int32) : m_X1_weightOf (nI n) W (nI s) = some (wsum W s n) := by
  unfold m_X1_weightOf m_X1_weightOf_0
  have hl : gk_lp (fun z => m_X1_weightOf_B4 (nI n) W (nI s) z.1 z.2) gk_fu ((0 : Int32), (0 : Int32)) = some (wsum W s n) := by
    refine ru (fun i => (wsum W s i, nI i)) n rfl (by omega) (fun i hi => ?_) ?_
    · show m_X1_weightOf_B4 (nI n) W (nI s) (wsum W s i) (nI i) = some (Sum.inl (wsum W s (i + 1), nI (i + 1)))
      unfold m_X1_weightOf_B4
      rw [if_neg (nI_ge hi (by omega)), ix_ok (show i < 6 by omega) (by omega), nI_clamp (by omega), nI_1, wsum]
      simp only [bitI0 (show s < 2 ^ 31 by omega) (show i < 31 by omega)]
      cases s.testBit i <;> simp
    · show m_X1_weightOf_B4 (nI n) W (nI s) (wsum W s n) (nI n) = _
      unfold m_X1_weightOf_B4
      rw [if_pos (nI_le (Nat.le_refl _) (by omega))]
  rw [hl]
  rfl
theorem v6_weightOf {n s : Nat} (hn : n ≤ 6) (hs : s < 64) (W : Nat → Int32) : m_X6_weightOf (nI n) W (nI s) = some (wsum W s n) := by
  unfold m_X6_weightOf m_X6_weightOf_0
  have hl : gk_lp (fun z => m_X6_weightOf_B4 (nI n) W (nI s) z.1 z.2) gk_fu ((0 : Int32), (0 : Int32)) = some (wsum W s n) := by
    refine ru (fun i => (wsum W s i, nI i)) n rfl (by omega) (fun i hi => ?_) ?_
    · show m_X6_weightOf_B4 (nI n) W (nI s) (wsum W s i) (nI i) = some (Sum.inl (wsum W s (i + 1), nI (i + 1)))
      unfold m_X6_weightOf_B4
      rw [if_neg (nI_ge hi (by omega)), ix_ok (show i < 6 by omega) (by omega), nI_clamp (by omega), nI_1, wsum, bitI (by omega) (by omega)]
      cases s.testBit i
      · rw [if_neg (by decide), show nI 0 = 0 from rfl, Int32.zero_mul, if_neg (by decide)]
      · rw [if_pos rfl, show nI 1 = 1 from rfl, Int32.one_mul, if_pos rfl]
    · show m_X6_weightOf_B4 (nI n) W (nI s) (wsum W s n) (nI n) = _
      unfold m_X6_weightOf_B4
      rw [if_pos (nI_le (Nat.le_refl _) (by omega))]
  rw [hl]
  rfl
theorem o_weighs {n : Nat} {W : Nat → Int32} (hn : n ≤ 6) (x1 : Int32) : ∃ r, m_X5_weighs (nI n) W x1 = some r ∧ m_X6_weighs (nI n) W x1 = some r := by
  have h6 := pow6 hn
  unfold m_X5_weighs m_X5_weighs_0 m_X6_weighs m_X6_weighs_0
  simp only [v5_set hn, v6_set hn, bd1_some, q01, q10]
  by_cases h1 : fok (2 ^ n) x1 = true
  case neg => exact ⟨-1000, by simp [h1], by simp [h1]⟩
  obtain ⟨j, hj, rfl⟩ := fok_ex (by omega) h1
  simp only [h1, if_true, not_true, if_false]
  rw [v5_weightOf hn (by omega), v6_weightOf hn (by omega)]
  exact ⟨_, rfl, rfl⟩
theorem fmod_ok : ∀ v, v < 7 → gk_fmod (nI v) 7 = nI v ∧ gk_fmod (-(nI v)) 7 = nI ((7 - v) % 7) ∧ m_X6_modulo (-(nI v)) = some (nI ((7 - v) % 7)) := by decide +kernel
theorem nz7 {α : Type} (k : Option α) : gk_nz (7 : Int32) k = k := by
  unfold gk_nz
  rw [if_neg (by decide)]
theorem ixx {i j : Nat} (hi : i < 6) (hj : j < 6) : nI i * 6 + nI j = nI (6 * i + j) := by
  rw [show (6 : Int32) = nI 6 from rfl, pk_mul, nI_add, Nat.mul_comm]
theorem ixy {i j : Nat} (hi : i < 6) (hj : j < 6) : (6 : Int32) * nI i + nI j = nI (6 * i + j) := by
  rw [show (6 : Int32) = nI 6 from rfl, pk_mul, nI_add]
theorem v_at {i j : Nat} (hi : i < 6) (hj : j < 6) (T : Nat → Int32) : m_X4_at T (nI i) (nI j) = some (T (6 * i + j)) := by
  unfold m_X4_at m_X4_at_0
  rw [ixx hi hj, ix_ok (by omega) (by omega), nI_clamp (by omega)]
theorem v_write {i j : Nat} (hi : i < 6) (hj : j < 6) (T : Nat → Int32) (v : Int32) : m_X4_write T (nI i) (nI j) v = some (upd (upd T (6 * i + j) (gk_fmod v 7)) (6 * j + i) (gk_fmod (-v) 7)) := by
  unfold m_X4_write m_X4_write_0
  rw [nz7, ixx hi hj, ix_ok (by omega) (by omega), nz7, ixx hj hi, ix_ok (by omega) (by omega), nI_clamp (by omega), nI_clamp (by omega)]
theorem VT.set {n : Nat} {T : Nat → Int32} (h : VT n T) {i j v : Nat} (hi : i < n) (hj : j < n) (hn : n ≤ 6) (hij : i ≠ j) (hv : v < 7) : VT n (upd (upd T (6 * i + j) (nI v)) (6 * j + i) (nI ((7 - v) % 7))) := by
  obtain ⟨t, ht⟩ := h
  refine ⟨fun a b => if a = i ∧ b = j then v else if a = j ∧ b = i then (7 - v) % 7 else t a b, fun a b ha hb => ?_⟩
  have h1 := ht a b ha hb
  by_cases e1 : a = j ∧ b = i
  · obtain ⟨rfl, rfl⟩ := e1
    have q1 : ¬ (a = b ∧ b = a) := fun q => hij q.2
    rw [pk_us]
    simp only [q1, and_self, if_true, if_false]
    refine ⟨trivial, by omega, ?_, fun q => by omega, fun q => by omega⟩
    omega
  · by_cases e2 : a = i ∧ b = j
    · obtain ⟨rfl, rfl⟩ := e2
      have q1 : ¬ (b = a ∧ a = b) := fun q => hij q.2
      rw [pk_un (by omega), pk_us]
      simp only [and_self, if_true, q1, if_false]
      refine ⟨trivial, by omega, ?_, fun q => by omega, fun q => by omega⟩
      omega
    · have q1 : ¬ (b = i ∧ a = j) := fun q => e1 ⟨q.2, q.1⟩
      have q2 : ¬ (b = j ∧ a = i) := fun q => e2 ⟨q.2, q.1⟩
      rw [pk_un (by omega), pk_un (by omega)]
      simp only [e1, e2, q1, q2, if_false]
      exact h1
theorem o_entry {n : Nat} {T : Nat → Int32} (h0 : 1 ≤ n) (hn : n ≤ 6) (hT : VT n T) (x1 x2 x3 : Int32) : ∃ r T', m_X5_entry (nI n) T x1 x2 x3 = some (r, T') ∧ m_X6_entry (nI n) T x1 x2 x3 = some (r, T') ∧ VT n T' := by
  unfold m_X5_entry m_X5_entry_0 m_X6_entry m_X6_entry_0
  simp only [v5_pt hn, v6_pt h0 hn, bd1_some, q01, q10]
  rw [show m_X6_isIn x3.toInt64 (0 : Int64) (6 : Int64) = _ from v6_in x3 6 (by omega), bd1_some]
  simp only [q10]
  have e7 : ∀ A B : Option (Int32 × (Nat → Int32)), (if x3 < 0 then A else if x3 < 7 then B else A) = if fok (6 + 1) x3 = true then B else A := fun A B => by
    simp only [Int32.lt_iff_toInt_lt, i0, show (7 : Int32).toInt = 7 from by decide, fok_iff]
    by_cases q1 : x3.toInt < 0
    · rw [if_pos q1, if_neg (by omega)]
    · rw [if_neg q1]
      by_cases q2 : x3.toInt < 7
      · rw [if_pos q2, if_pos (by omega)]
      · rw [if_neg q2, if_neg (by omega)]
  rw [e7]
  by_cases h1 : fok n x1 = true
  case neg => exact ⟨-2, T, by simp [h1], by simp [h1], hT⟩
  by_cases h2 : fok n x2 = true
  case neg => exact ⟨-2, T, by simp [h1, h2], by simp [h1, h2], hT⟩
  simp only [h1, h2, if_true, not_true, if_false]
  by_cases h3 : x1 = x2
  · rw [if_pos h3, if_pos h3]
    exact ⟨-2, T, rfl, rfl, hT⟩
  rw [if_neg h3, if_neg h3]
  by_cases h4 : fok (6 + 1) x3 = true
  case neg => exact ⟨-2, T, by rw [if_neg h4], by rw [if_pos h4], hT⟩
  obtain ⟨i, hi, rfl⟩ := fok_ex (by omega) h1
  obtain ⟨j, hj, rfl⟩ := fok_ex (by omega) h2
  obtain ⟨v, hv, rfl⟩ := fok_ex (by omega) h4
  have hij : i ≠ j := fun q => h3 (by rw [q])
  obtain ⟨f1, f2, f3⟩ := fmod_ok v hv
  rw [if_pos h4, if_neg (fun q => q h4), v_at (by omega) (by omega), bd1_some, v_write (by omega) (by omega), bd1_some, f1, f2, f3, bd1_some, ixy (by omega) (by omega), ixy (by omega) (by omega), ix_ok (by omega) (by omega), ix_ok (by omega) (by omega), ix_ok (by omega) (by omega), nI_clamp (by omega), nI_clamp (by omega)]
  exact ⟨_, _, rfl, rfl, hT.set hi hj hn hij hv⟩
theorem o_entryOf {n : Nat} {T : Nat → Int32} (h0 : 1 ≤ n) (hn : n ≤ 6) (x1 x2 : Int32) : ∃ r, m_X5_entryOf (nI n) T x1 x2 = some r ∧ m_X6_entryOf (nI n) T x1 x2 = some r := by
  unfold m_X5_entryOf m_X5_entryOf_0 m_X6_entryOf m_X6_entryOf_0
  simp only [v5_pt hn, v6_pt h0 hn, bd1_some, q01, q10]
  by_cases h1 : fok n x1 = true
  case neg => exact ⟨-2, by simp [h1], by simp [h1]⟩
  by_cases h2 : fok n x2 = true
  case neg => exact ⟨-2, by simp [h1, h2], by simp [h1, h2]⟩
  simp only [h1, h2, if_true, not_true, if_false]
  obtain ⟨i, hi, rfl⟩ := fok_ex (by omega) h1
  obtain ⟨j, hj, rfl⟩ := fok_ex (by omega) h2
  rw [v_at (by omega) (by omega), bd1_some, ixy (by omega) (by omega), ix_ok (by omega) (by omega), nI_clamp (by omega)]
  exact ⟨_, rfl, rfl⟩
theorem under_ok : ∀ c, c < 6 → ∀ k, k < 6 → m_X5_isUnder (nI c) (nI k) = some (if k = 0 ∨ c = k ∨ (k = 3 ∧ c = 5) then 1 else 0) := by decide +kernel
theorem o_taken {n : Nat} {M : Nat → Int64} {K : Nat → Int32} (hn : n ≤ 6) (hV : VF n M K) (x1 x2 : Int32) : ∃ r, m_X5_taken M K x1 x2 = some r ∧ m_X6_taken M K x1 x2 = some r := by
  unfold m_X5_taken m_X5_taken_0 m_X6_taken m_X6_taken_0
  simp only [v5_fam, v6_fam, bd1_some, q01, q10]
  rw [show m_X6_isIn x2.toInt64 (0 : Int64) (5 : Int64) = _ from v6_in x2 5 (by omega), bd1_some]
  simp only [q10]
  have e6 : ∀ A B : Option Int32, (if x2 < 0 then A else if x2 < 6 then B else A) = if fok (5 + 1) x2 = true then B else A := fun A B => by
    simp only [Int32.lt_iff_toInt_lt, i0, show (6 : Int32).toInt = 6 from by decide, fok_iff]
    by_cases q1 : x2.toInt < 0
    · rw [if_pos q1, if_neg (by omega)]
    · rw [if_neg q1]
      by_cases q2 : x2.toInt < 6
      · rw [if_pos q2, if_pos (by omega)]
      · rw [if_neg q2, if_neg (by omega)]
  rw [e6]
  by_cases h1 : fok 6 x1 = true
  case neg => exact ⟨-2, by simp [h1], by simp [h1]⟩
  by_cases h2 : fok (5 + 1) x2 = true
  case neg => exact ⟨-2, by simp only [h1, h2, if_true, if_false]; simp, by simp only [h1, h2, if_true, not_true, if_false]; simp⟩
  obtain ⟨j, hj, rfl⟩ := fok_ex (by omega) h1
  obtain ⟨k, hk, rfl⟩ := fok_ex (by omega) h2
  obtain ⟨⟨w, hw, hM⟩, hk1, hk2⟩ := hV j hj
  have hw64 : w < 2 ^ 64 := Nat.lt_of_lt_of_le hw (pp6 hn)
  unfold m_X6_taken_J64 m_X6_taken_J68 m_X6_taken_J69
  simp only [h1, h2, if_true, not_true, if_false, v5_missing hj, bd1_some, q10, ix_ok hj (show 6 < 2 ^ 31 by omega), nI_clamp (show j < 2 ^ 31 by omega), hM, popL hw64, v_size hw64]
  by_cases hkk : K j = -1
  · exact ⟨-11, by simp [hkk], by simp [hkk]⟩
  simp only [hkk, not_false_eq_true, if_true, if_false]
  have hc : 0 ≤ (K j).toInt := by
    have : (K j).toInt ≠ -1 := fun q => hkk (Int32.toInt_inj.mp (by rw [q]; decide))
    omega
  rw [toNat_nI hc]
  generalize hcc : (K j).toInt.toNat = c
  rw [under_ok c (by omega) k hk, bd1_some]
  simp only [q10]
  simp only [show (0 : Int32) = nI 0 from rfl, show (3 : Int32) = nI 3 from rfl, show (5 : Int32) = nI 5 from rfl, nI_eq (show k < 2 ^ 31 by omega) (show 0 < 2 ^ 31 by omega), nI_eq (show k < 2 ^ 31 by omega) (show 3 < 2 ^ 31 by omega), nI_eq (show c < 2 ^ 31 by omega) (show k < 2 ^ 31 by omega), nI_eq (show c < 2 ^ 31 by omega) (show 5 < 2 ^ 31 by omega)]
  by_cases hq : (k = 0 ∨ c = k ∨ k = 3 ∧ c = 5)
  · refine ⟨nI (fb_ct w.testBit 64), by simp [hq], ?_⟩
    by_cases a1 : k = 0
    · rw [if_pos a1]; rfl
    · rw [if_neg a1]
      by_cases a2 : c = k
      · rw [if_pos a2]; rfl
      · rw [if_neg a2, if_pos (by omega), if_pos (by omega)]; rfl
  · refine ⟨-13, by simp [hq], ?_⟩
    rw [if_neg (by omega), if_neg (by omega)]
    by_cases a3 : k = 3
    · rw [if_pos a3, if_neg (by omega)]
    · rw [if_neg a3]
