/-! ===== ground, image, back, count, weights, entries, taken ===== -/
theorem fillL_succ (f g : Nat → Int64) (i : Nat) : vp_updL (fa_fill f g i) i (f i) = fa_fill f g (i + 1) := by
  funext k
  unfold vp_updL
  by_cases h : k = i
  · subst h
    rw [if_pos rfl, fa_fill_in (by omega)]
  · rw [if_neg h]
    by_cases h2 : k < i
    · rw [fa_fill_in h2, fa_fill_in (by omega)]
    · rw [fa_fill_out (by omega), fa_fill_out (by omega)]
theorem v_fillI {N : Nat} (hN : N < 800) (f : Nat → Int32) (v : Int32) : m_J7_fill_53178 N f v = some (fa_fill (fun _ => v) f N) := by
  unfold m_J7_fill_53178 m_J7_fill_53178_0
  have hl : gk_lp (fun z => m_J7_fill_53178_B5 N v (Int32.ofNat N) z.1 z.2) gk_fu ((0 : Int32), f) = some (fa_fill (fun _ => v) f N) := by
    refine ru (fun i => (nI i, fa_fill (fun _ => v) f i)) N ?_ hN (fun i hi => ?_) ?_
    · show _ = (nI 0, fa_fill (fun _ => v) f 0)
      rw [fa_fill_0]
      rfl
    · show m_J7_fill_53178_B5 N v (nI N) (nI i) (fa_fill (fun _ => v) f i) = some (Sum.inl (nI (i + 1), fa_fill (fun _ => v) f (i + 1)))
      unfold m_J7_fill_53178_B5
      rw [if_neg (nI_ge hi (by omega)), ix_ok hi (by omega), nI_clamp (by omega), nI_1]
      rw [show upd (fa_fill (fun _ => v) f i) i v = _ from fa_fill_succ (fun _ => v) f i]
    · show m_J7_fill_53178_B5 N v (nI N) (nI N) (fa_fill (fun _ => v) f N) = _
      unfold m_J7_fill_53178_B5
      rw [if_pos (nI_le (Nat.le_refl _) (by omega))]
  rw [hl]
  rfl
theorem v_fillL {N : Nat} (hN : N < 800) (f : Nat → Int64) (v : Int64) : m_J7_fill_d0a16 N f v = some (fa_fill (fun _ => v) f N) := by
  unfold m_J7_fill_d0a16 m_J7_fill_d0a16_0
  have hl : gk_lp (fun z => m_J7_fill_d0a16_B6 N v (Int32.ofNat N) z.1 z.2) gk_fu ((0 : Int32), f) = some (fa_fill (fun _ => v) f N) := by
    refine ru (fun i => (nI i, fa_fill (fun _ => v) f i)) N ?_ hN (fun i hi => ?_) ?_
    · show _ = (nI 0, fa_fill (fun _ => v) f 0)
      rw [fa_fill_0]
      rfl
    · show m_J7_fill_d0a16_B6 N v (nI N) (nI i) (fa_fill (fun _ => v) f i) = some (Sum.inl (nI (i + 1), fa_fill (fun _ => v) f (i + 1)))
      unfold m_J7_fill_d0a16_B6
      rw [if_neg (nI_ge hi (by omega)), ix_ok hi (by omega), nI_clamp (by omega), nI_1]
      rw [show vp_updL (fa_fill (fun _ => v) f i) i v = _ from fillL_succ (fun _ => v) f i]
    · show m_J7_fill_d0a16_B6 N v (nI N) (nI N) (fa_fill (fun _ => v) f N) = _
      unfold m_J7_fill_d0a16_B6
      rw [if_pos (nI_le (Nat.le_refl _) (by omega))]
  rw [hl]
  rfl
theorem cpy_fill {α : Type} (f g : Nat → α) (n : Nat) : va_cpy f g 0 0 n = fa_fill f g n := by
  funext k
  by_cases h : k < n
  · rw [pk_cpy_in (by omega) (by omega), fa_fill_in h]
    simp
  · rw [pk_cpy_out (by omega), fa_fill_out (by omega)]
theorem c0 : (0 : Int32).toNatClampNeg = 0 := by decide
theorem c6 : (6 : Int32).toNatClampNeg = 6 := by decide
theorem cp_ok {α : Type} (k : Option α) : gk_cp (0 : Int32) (0 : Int32) (6 : Int32) 6 6 k = k := by
  unfold gk_cp
  rw [if_pos (by decide)]
theorem v_take (N : Int32) (M K W T N' M' K' W' T') : m_X1_takeOver N M K W T N' M' K' W' T' = some (N', fa_fill M' M 6, fa_fill K' K 6, fa_fill W' W 6, fa_fill T' T 36) := by
  unfold m_X1_takeOver m_X1_takeOver_0 m_X4_takeOver m_X4_takeOver_0
  rw [cp_ok, cp_ok, cp_ok]
  have : ∀ k : Option (Nat → Int32), gk_cp (0 : Int32) (0 : Int32) (Int32.ofNat 36) 36 36 k = k := fun k => by
    unfold gk_cp
    rw [if_pos (by decide)]
  rw [this, bd1_some, c0, c6, show (Int32.ofNat 36).toNatClampNeg = 36 from by decide, cpy_fill, cpy_fill, cpy_fill, cpy_fill]
theorem v_copies {N : Nat} (hN : N < 800) (f g : Nat → Int32) : m_X6_copies N N f g = some (fa_fill f g N) := by
  unfold m_X6_copies m_X6_copies_0
  have hl : gk_lp (fun z => m_X6_copies_B2 N N f z.1 z.2) gk_fu ((0 : Int32), g) = some (fa_fill f g N) := by
    refine ru (fun i => (nI i, fa_fill f g i)) N ?_ hN (fun i hi => ?_) ?_
    · show _ = (nI 0, fa_fill f g 0)
      rw [fa_fill_0]
      rfl
    · show m_X6_copies_B2 N N f (nI i) (fa_fill f g i) = some (Sum.inl (nI (i + 1), fa_fill f g (i + 1)))
      unfold m_X6_copies_B2
      rw [if_neg (show ¬ Int32.ofNat N ≤ nI i from nI_ge hi (by omega)), ix_ok hi (by omega), ix_ok hi (by omega), nI_clamp (by omega), nI_1, fa_fill_succ]
    · show m_X6_copies_B2 N N f (nI N) (fa_fill f g N) = _
      unfold m_X6_copies_B2
      rw [if_pos (show Int32.ofNat N ≤ nI N from nI_le (Nat.le_refl _) (by omega))]
  rw [hl]
  rfl
/-- which families there are -/
def thr (K : Nat → Int32) : Nat := bsn (fun f => decide (¬ K f = -1)) 6
theorem thr_lt (K : Nat → Int32) : thr K < 64 := bsn_lt _ _
theorem v5_families (K : Nat → Int32) : m_X1_families K = some (nI (thr K)) := by
  unfold m_X1_families m_X1_families_0
  have hl : gk_lp (fun z => m_X1_families_B4 K z.1 z.2) gk_fu ((0 : Int32), (0 : Int32)) = some (nI (thr K)) := by
    refine ru (fun i => (nI (bsn (fun f => decide (¬ K f = -1)) i), nI i)) 6 rfl (by omega) (fun i hi => ?_) ?_
    · show m_X1_families_B4 K (nI (bsn (fun f => decide (¬ K f = -1)) i)) (nI i) = some (Sum.inl (nI (bsn (fun f => decide (¬ K f = -1)) (i + 1)), nI (i + 1)))
      unfold m_X1_families_B4
      rw [if_neg (gel 6 hi), v5_missing hi, bd1_some, shl1 (by omega), fa_or, nI_1, bsn]
      simp only [q10]
      by_cases h : K i = -1
      · simp [h]
      · simp [h]
    · show m_X1_families_B4 K (nI (bsn (fun f => decide (¬ K f = -1)) 6)) (nI 6) = _
      unfold m_X1_families_B4
      rw [if_pos (lel 6 (by omega))]
      rfl
  rw [hl]
  rfl
theorem v6_there (K : Nat → Int32) : m_X6_there K = some (nI (thr K)) := by
  unfold m_X6_there m_X6_there_0
  have hl : gk_lp (fun z => m_X6_there_B4 K z.1 z.2) gk_fu ((0 : Int32), (0 : Int32)) = some (nI (thr K)) := by
    refine ru (fun i => (nI (bsn (fun f => decide (¬ K f = -1)) i), nI i)) 6 rfl (by omega) (fun i hi => ?_) ?_
    · show m_X6_there_B4 K (nI (bsn (fun f => decide (¬ K f = -1)) i)) (nI i) = some (Sum.inl (nI (bsn (fun f => decide (¬ K f = -1)) (i + 1)), nI (i + 1)))
      unfold m_X6_there_B4
      rw [if_neg (gel 6 hi), ix_ok hi (by omega), nI_clamp (by omega), shl1 (by omega), fa_or, show (0 : Int32) = nI 0 from rfl, fa_or, Nat.or_zero, nI_1, bsn]
      by_cases h : K i = -1
      · simp [h]
      · simp [h]
    · show m_X6_there_B4 K (nI (bsn (fun f => decide (¬ K f = -1)) 6)) (nI 6) = _
      unfold m_X6_there_B4
      rw [if_pos (lel 6 (by omega))]
      rfl
  rw [hl]
  rfl
/-- weights, the table -/
def VW (W : Nat → Int32) : Prop := ∀ p, p < 6 → -99 ≤ (W p).toInt ∧ (W p).toInt ≤ 99
def VT (n : Nat) (T : Nat → Int32) : Prop := ∃ t : Nat → Nat → Nat, ∀ i j, i < 6 → j < 6 → T (6 * i + j) = nI (t i j) ∧ t i j < 7 ∧ (t i j + t j i) % 7 = 0 ∧ (n ≤ i → t i j = 0) ∧ (n ≤ j → t i j = 0)
theorem VF.zero (n : Nat) (M : Nat → Int64) (K : Nat → Int32) : VF n (fa_fill (fun _ => (0 : Int64)) M 6) (fa_fill (fun _ => (-1 : Int32)) K 6) := by
  intro f hf
  rw [fa_fill_in hf, fa_fill_in hf]
  exact ⟨⟨0, Nat.two_pow_pos _, rfl⟩, by decide, by decide⟩
theorem VW.zero (W : Nat → Int32) : VW (fa_fill (fun _ => (0 : Int32)) W 6) := by
  intro f hf
  rw [fa_fill_in hf]
  decide
theorem VT.zero (n : Nat) (T : Nat → Int32) : VT n (fa_fill (fun _ => (0 : Int32)) T 36) := by
  refine ⟨fun _ _ => 0, fun i j hi hj => ⟨?_, (by decide : 0 < 7), (by decide : (0 + 0) % 7 = 0), fun _ => rfl, fun _ => rfl⟩⟩
  rw [fa_fill_in (by omega)]
  rfl
theorem VF.copy {n : Nat} {M M' : Nat → Int64} {K K' : Nat → Int32} (h : VF n M K) : VF n (fa_fill M M' 6) (fa_fill K K' 6) := by
  intro f hf
  rw [fa_fill_in hf, fa_fill_in hf]
  exact h f hf
theorem VW.copy {W W' : Nat → Int32} (h : VW W) : VW (fa_fill W W' 6) := by
  intro f hf
  rw [fa_fill_in hf]
  exact h f hf
theorem VT.copy {n : Nat} {T T' : Nat → Int32} (h : VT n T) : VT n (fa_fill T T' 36) := by
  obtain ⟨t, ht⟩ := h
  refine ⟨t, fun i j hi hj => ?_⟩
  rw [fa_fill_in (by omega)]
  exact ht i j hi hj
theorem o_ground {n : Nat} {M : Nat → Int64} {K W T : Nat → Int32} (h0 : 1 ≤ n) (hn : n ≤ 6) (hV : VF n M K) (hW : VW W) (hT : VT n T) (x1 : Int32) : ∃ r n' M' K' W' T', m_X5_ground (nI n) M K W T x1 = some (r, nI n', M', K', W', T') ∧ m_X6_ground (nI n) M K W T x1 = some (r, nI n', M', K', W', T') ∧ 1 ≤ n' ∧ n' ≤ 6 ∧ VF n' M' K' ∧ VW W' ∧ VT n' T' := by
  unfold m_X5_ground m_X5_ground_0 m_X6_ground m_X6_ground_0 m_X1_begin m_X1_begin_0 m_X4_wipe m_X4_wipe_0
  simp only [v_isIn, bd1_some, q10, Int32.lt_iff_toInt_lt, Int32.le_iff_toInt_le, Int32.toInt_toInt64, show (1 : Int32).toInt = 1 from by decide, show (6 : Int32).toInt = 6 from by decide, show (1 : Int64).toInt = 1 from by decide, show (6 : Int64).toInt = 6 from by decide]
  by_cases h : 1 ≤ x1.toInt ∧ x1.toInt ≤ 6
  case neg =>
    refine ⟨-2, n, M, K, W, T, ?_, by rw [if_pos h], h0, hn, hV, hW, hT⟩
    by_cases a1 : x1.toInt < 1
    · rw [if_pos a1]
    · rw [if_neg a1, if_neg (by omega)]
  rw [if_neg (by omega), if_pos h.2, if_neg (fun q => q h), v_fillL (by omega), bd1_some, v_fillI (by omega), bd1_some, v_fillI (by omega), bd1_some, v_fillI (by omega), bd1_some, bd1_some]
  have ex : x1 = nI x1.toInt.toNat := toNat_nI (by omega)
  generalize hm : x1.toInt.toNat = m at ex
  have l1 : gk_lp (fun z => m_X6_ground_B27 x1 W T (nI n) z.1 z.2.1 z.2.2) gk_fu ((0 : Int32), M, K) = some (fa_fill (fun _ => (0 : Int64)) M 6, fa_fill (fun _ => (-1 : Int32)) K 6) := by
    refine ru (fun i => (nI i, fa_fill (fun _ => (0 : Int64)) M i, fa_fill (fun _ => (-1 : Int32)) K i)) 6 ?_ (by omega) (fun i hi => ?_) ?_
    · show _ = (nI 0, fa_fill (fun _ => (0 : Int64)) M 0, fa_fill (fun _ => (-1 : Int32)) K 0)
      rw [fa_fill_0, fa_fill_0]
      rfl
    · show m_X6_ground_B27 x1 W T (nI n) (nI i) (fa_fill (fun _ => (0 : Int64)) M i) (fa_fill (fun _ => (-1 : Int32)) K i) = some (Sum.inl (nI (i + 1), fa_fill (fun _ => (0 : Int64)) M (i + 1), fa_fill (fun _ => (-1 : Int32)) K (i + 1)))
      unfold m_X6_ground_B27
      rw [if_neg (gel 6 hi), ix_ok hi (by omega), ix_ok hi (by omega), nI_clamp (by omega), nI_1, show vp_updL (fa_fill (fun _ => (0 : Int64)) M i) i 0 = _ from fillL_succ (fun _ => 0) M i, show upd (fa_fill (fun _ => (-1 : Int32)) K i) i (-1) = _ from fa_fill_succ (fun _ => -1) K i]
    · show m_X6_ground_B27 x1 W T (nI n) (nI 6) _ _ = _
      unfold m_X6_ground_B27
      rw [if_pos (lel 6 (by omega))]
  have l2 : ∀ (A : Nat → Int64) (B : Nat → Int32), gk_lp (fun z => m_X6_ground_B55 x1 A B T (nI n) z.1 z.2) gk_fu ((0 : Int32), W) = some (fa_fill (fun _ => (0 : Int32)) W 6) := by
    intro A B
    refine ru (fun i => (nI i, fa_fill (fun _ => (0 : Int32)) W i)) 6 ?_ (by omega) (fun i hi => ?_) ?_
    · show _ = (nI 0, fa_fill (fun _ => (0 : Int32)) W 0)
      rw [fa_fill_0]
      rfl
    · show m_X6_ground_B55 x1 A B T (nI n) (nI i) (fa_fill (fun _ => (0 : Int32)) W i) = some (Sum.inl (nI (i + 1), fa_fill (fun _ => (0 : Int32)) W (i + 1)))
      unfold m_X6_ground_B55
      rw [if_neg (gel 6 hi), ix_ok hi (by omega), nI_clamp (by omega), nI_1, show upd (fa_fill (fun _ => (0 : Int32)) W i) i 0 = _ from fa_fill_succ (fun _ => 0) W i]
    · show m_X6_ground_B55 x1 A B T (nI n) (nI 6) _ = _
      unfold m_X6_ground_B55
      rw [if_pos (lel 6 (by omega))]
  have l3 : ∀ (A : Nat → Int64) (B C : Nat → Int32), gk_lp (fun z => m_X6_ground_B76 x1 A B C (nI n) z.1 z.2) gk_fu ((0 : Int32), T) = some (fa_fill (fun _ => (0 : Int32)) T 36) := by
    intro A B C
    refine ru (fun i => (nI i, fa_fill (fun _ => (0 : Int32)) T i)) 36 ?_ (by omega) (fun i hi => ?_) ?_
    · show _ = (nI 0, fa_fill (fun _ => (0 : Int32)) T 0)
      rw [fa_fill_0]
      rfl
    · show m_X6_ground_B76 x1 A B C (nI n) (nI i) (fa_fill (fun _ => (0 : Int32)) T i) = some (Sum.inl (nI (i + 1), fa_fill (fun _ => (0 : Int32)) T (i + 1)))
      unfold m_X6_ground_B76
      rw [if_neg (gel 36 hi), ix_ok hi (by omega), nI_clamp (by omega), nI_1, show upd (fa_fill (fun _ => (0 : Int32)) T i) i 0 = _ from fa_fill_succ (fun _ => 0) T i]
    · show m_X6_ground_B76 x1 A B C (nI n) (nI 36) _ = _
      unfold m_X6_ground_B76
      rw [if_pos (lel 36 (by omega))]
  rw [l1, bd2_some, l2, bd1_some, l3, bd1_some, ex]
  exact ⟨_, m, _, _, _, _, rfl, rfl, by omega, by omega, VF.zero _ _ _, VW.zero _, VT.zero _ _⟩
