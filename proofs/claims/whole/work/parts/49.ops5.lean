/-! ===== sizes, near, best, loops ===== -/
def enc (o : Option Nat) : Int32 := match o with
  | none => -1
  | some m => nI m
theorem nI_ne {m : Nat} (h : m < 2 ^ 31) : ¬ nI m = -1 := by
  intro q
  have := congrArg Int32.toInt q
  rw [nI_toInt h] at this
  simp at this
/-- all sizes of members, as bits -/
def szs (w : Nat) : Nat → Nat
  | 0 => 0
  | i + 1 => if w.testBit i then szs w i ||| 2 ^ fb_ct i.testBit 6 else szs w i
theorem szs_lt (w : Nat) : ∀ i, szs w i < 128
  | 0 => by show 0 < 128; omega
  | i + 1 => by
    have ih := szs_lt w i
    unfold szs
    split
    · have h1 : 2 ^ fb_ct i.testBit 6 < 2 ^ 7 := Nat.pow_lt_pow_right (by omega) (by have := ct6_le i; omega)
      exact Nat.or_lt_two_pow (n := 7) ih h1
    · exact ih
theorem szs_bit (w c : Nat) : ∀ i, (szs w i).testBit c = true ↔ ∃ s, s < i ∧ w.testBit s = true ∧ fb_ct s.testBit 6 = c
  | 0 => by simp [szs]
  | i + 1 => by
    have ih := szs_bit w c i
    unfold szs
    split
    · rename_i hw
      rw [Nat.testBit_or, Nat.testBit_two_pow, Bool.or_eq_true, ih]
      constructor
      · rintro (⟨s, h1, h2⟩ | h)
        · exact ⟨s, by omega, h2⟩
        · exact ⟨i, by omega, hw, by simpa using h⟩
      · rintro ⟨s, h1, h2, h3⟩
        by_cases e : s = i
        · subst e; right; simpa using h3
        · left; exact ⟨s, by omega, h2, h3⟩
    · rename_i hw
      rw [ih]
      constructor
      · rintro ⟨s, h1, h2⟩
        exact ⟨s, by omega, h2⟩
      · rintro ⟨s, h1, h2, h3⟩
        by_cases e : s = i
        · subst e; exact absurd h2 hw
        · exact ⟨s, by omega, h2, h3⟩
theorem v_sizes {w : Nat} (hw : w < 2 ^ 64) : m_X0_sizes (lN w) = some (nI (szs w 64)) := by
  unfold m_X0_sizes m_X0_sizes_0
  have hl : gk_lp (fun z => m_X0_sizes_B4 (lN w) z.1 z.2) gk_fu ((0 : Int32), (0 : Int32)) = some (nI (szs w 64)) := by
    refine ru (fun i => (nI (szs w i), nI i)) 64 rfl (by omega) (fun i hi => ?_) ?_
    · show m_X0_sizes_B4 (lN w) (nI (szs w i)) (nI i) = some (Sum.inl (nI (szs w (i + 1)), nI (i + 1)))
      unfold m_X0_sizes_B4
      have hc := ct6_le i
      rw [if_neg (gel 64 hi), v_holds hw hi, bd1_some, v_bc6 hi, bd1_some, shl1 (by omega), fa_or, nI_1, szs]
      simp only [q10]
      cases w.testBit i <;> simp
    · show m_X0_sizes_B4 (lN w) (nI (szs w 64)) (nI 64) = _
      unfold m_X0_sizes_B4
      rw [if_pos (lel 64 (by omega))]
  rw [hl]
  rfl
def lbO (b : Nat) : Option Nat := if b = 0 then none else some (fa_first b.testBit 7)
theorem v_least : ∀ b, b < 128 → m_X5_leastBit (nI b) = some (enc (lbO b)) := by decide +kernel
theorem v_great : ∀ b, b < 128 → m_X5_greatestBit (nI b) = some (enc (if b = 0 then none else some (Nat.log2 b))) := by decide +kernel
/-- the least of c over the places of P -/
def mnF (P : Nat → Bool) (c : Nat → Nat) : Nat → Option Nat
  | 0 => none
  | i + 1 => if P i then (match mnF P c i with
    | none => some (c i)
    | some m => if m ≤ c i then some m else some (c i)) else mnF P c i
theorem mnF_ok (P : Nat → Bool) (c : Nat → Nat) : ∀ k, match mnF P c k with
    | none => ∀ s, s < k → P s = false
    | some m => (∃ s, s < k ∧ P s = true ∧ c s = m) ∧ ∀ s, s < k → P s = true → m ≤ c s
  | 0 => by simp [mnF]
  | k + 1 => by
    have ih := mnF_ok P c k
    unfold mnF
    by_cases hp : P k = true
    · rw [if_pos hp]
      cases hm : mnF P c k with
      | none =>
        rw [hm] at ih
        refine ⟨⟨k, by omega, hp, rfl⟩, fun s hs h => ?_⟩
        by_cases e : s = k
        · subst e; exact Nat.le_refl _
        · rw [ih s (by omega)] at h; cases h
      | some m =>
        rw [hm] at ih
        obtain ⟨⟨s0, a1, a2, a3⟩, a4⟩ := ih
        by_cases h : m ≤ c k
        · simp only [h, if_true]
          refine ⟨⟨s0, by omega, a2, a3⟩, fun s hs q => ?_⟩
          by_cases e : s = k
          · subst e; exact h
          · exact a4 s (by omega) q
        · simp only [h, if_false]
          refine ⟨⟨k, by omega, hp, rfl⟩, fun s hs q => ?_⟩
          by_cases e : s = k
          · subst e; exact Nat.le_refl _
          · have := a4 s (by omega) q; omega
    · rw [if_neg hp]
      cases hm : mnF P c k with
      | none =>
        rw [hm] at ih
        intro s hs
        by_cases e : s = k
        · subst e; simpa using hp
        · exact ih s (by omega)
      | some m =>
        rw [hm] at ih
        obtain ⟨⟨s0, a1, a2, a3⟩, a4⟩ := ih
        refine ⟨⟨s0, by omega, a2, a3⟩, fun s hs q => ?_⟩
        by_cases e : s = k
        · subst e; exact absurd q hp
        · exact a4 s (by omega) q
theorem lbO_szs {w : Nat} {P : Nat → Bool} {c : Nat → Nat} {k : Nat} (hc : ∀ s, s < k → c s ≤ 6) (h : ∀ v, (∃ s, s < 64 ∧ w.testBit s = true ∧ fb_ct s.testBit 6 = v) ↔ ∃ s, s < k ∧ P s = true ∧ c s = v) : lbO (szs w 64) = mnF P c k := by
  have hm := mnF_ok P c k
  unfold lbO
  cases e : mnF P c k with
  | none =>
    rw [e] at hm
    have : szs w 64 = 0 := by
      apply Nat.eq_of_testBit_eq
      intro v
      rw [Nat.zero_testBit]
      cases hb : (szs w 64).testBit v with
      | false => rfl
      | true =>
        obtain ⟨s, q1, q2, -⟩ := (h v).mp ((szs_bit w v 64).mp hb)
        rw [hm s q1] at q2; cases q2
    rw [if_pos this]
  | some m =>
    rw [e] at hm
    obtain ⟨⟨s0, a1, a2, a3⟩, a4⟩ := hm
    have hm6 : m ≤ 6 := by rw [← a3]; exact hc s0 a1
    have hbit : (szs w 64).testBit m = true := (szs_bit w m 64).mpr ((h m).mpr ⟨s0, a1, a2, a3⟩)
    have hne : ¬ szs w 64 = 0 := fun q => by rw [q, Nat.zero_testBit] at hbit; cases hbit
    rw [if_neg hne]
    have hlt : fa_first (szs w 64).testBit 7 < 7 := by
      apply Nat.lt_of_not_le
      intro q
      have q2 := fa_first_le (szs w 64).testBit 7
      have := fa_first_no (szs w 64).testBit 7 m (by omega)
      rw [hbit] at this; cases this
    have hyes := fa_first_yes (szs w 64).testBit 7 hlt
    refine congrArg some (Nat.le_antisymm ?_ ?_)
    · apply Nat.le_of_not_lt
      intro q
      have := fa_first_no (szs w 64).testBit 7 m q
      rw [hbit] at this; cases this
    · obtain ⟨s, q1, q2, q3⟩ := (h _).mp ((szs_bit w _ 64).mp hyes)
      rw [← q3]
      exact a4 s q1 q2
theorem o_near {n : Nat} {M : Nat → Int64} {K : Nat → Int32} (hn : n ≤ 6) (hV : VF n M K) (x1 x2 : Int32) : ∃ r, m_X5_near (nI n) M K x1 x2 = some r ∧ m_X6_near (nI n) M K x1 x2 = some r := by
  have h6 := pow6 hn
  unfold m_X5_near m_X5_near_0 m_X6_near m_X6_near_0
  simp only [v5_fam, v6_fam, v5_set hn, v6_set hn, bd1_some, q01, q10]
  by_cases h1 : fok 6 x1 = true
  case neg => exact ⟨-2, by simp [h1], by simp [h1]⟩
  by_cases h2 : fok (2 ^ n) x2 = true
  case neg => exact ⟨-2, by simp [h1, h2], by simp [h1, h2]⟩
  obtain ⟨j, hj, rfl⟩ := fok_ex (by omega) h1
  obtain ⟨t, ht, rfl⟩ := fok_ex (by omega) h2
  obtain ⟨⟨w, hw, hM⟩, -⟩ := hV j hj
  have hw64 : w < 2 ^ 64 := Nat.lt_of_lt_of_le hw (pp6 hn)
  simp only [h1, h2, if_true, not_true, if_false, v5_missing hj, bd1_some, q10, ix_ok hj (show 6 < 2 ^ 31 by omega), nI_clamp (show j < 2 ^ 31 by omega), hM, v5_tw hw64 (show t < 64 by omega), v_sizes (tw_lt w t), v_least _ (szs_lt (tw w t) 64)]
  by_cases hk : K j = -1
  · exact ⟨-11, by simp [hk], by simp [hk]⟩
  simp only [hk, not_false_eq_true, if_true, if_false]
  have hl : gk_lp (fun z => m_X6_near_B36 (nI n) M K (nI j) (nI t) z.1 z.2) gk_fu ((-1 : Int32), (0 : Int32)) = some (enc (mnF w.testBit (fun s => fb_ct (s ^^^ t).testBit 6) (2 ^ n))) := by
    refine ru (fun i => (enc (mnF w.testBit (fun s => fb_ct (s ^^^ t).testBit 6) i), nI i)) (2 ^ n) rfl (by omega) (fun i hi => ?_) ?_
    · show m_X6_near_B36 (nI n) M K (nI j) (nI t) (enc (mnF w.testBit (fun s => fb_ct (s ^^^ t).testBit 6) i)) (nI i) = some (Sum.inl (enc (mnF w.testBit (fun s => fb_ct (s ^^^ t).testBit 6) (i + 1)), nI (i + 1)))
      unfold m_X6_near_B36
      rw [shl1 (by omega), if_neg (nI_ge hi (by omega)), v_isMember hj hM hw64 (by omega), bd1_some, fb_xorI, v_ones _ (xlt6 (by omega) (by omega)), bd1_some, bd1_some, nI_1, mnF]
      simp only [q10]
      cases w.testBit i
      · simp
      · simp only [not_true, if_false, if_true]
        have hm := mnF_ok w.testBit (fun s => fb_ct (s ^^^ t).testBit 6) i
        cases e : mnF w.testBit (fun s => fb_ct (s ^^^ t).testBit 6) i with
        | none => rfl
        | some m =>
          rw [e] at hm
          obtain ⟨⟨s0, -, -, a3⟩, -⟩ := hm
          have a4 := ct6_le (s0 ^^^ t)
          have a5 := ct6_le (i ^^^ t)
          have a3' : fb_ct (s0 ^^^ t).testBit 6 = m := a3
          show (if nI m = -1 then _ else _) = _
          rw [if_neg (nI_ne (by omega))]
          show (if nI m ≤ nI (fb_ct (i ^^^ t).testBit 6) then _ else _) = _
          simp only [nI_leI (show m < 2 ^ 31 by omega) (show fb_ct (i ^^^ t).testBit 6 < 2 ^ 31 by omega)]
          by_cases q : m ≤ fb_ct (i ^^^ t).testBit 6
          · simp only [q, if_true]
          · simp only [q, if_false]; rfl
    · show m_X6_near_B36 (nI n) M K (nI j) (nI t) _ (nI (2 ^ n)) = _
      unfold m_X6_near_B36
      rw [shl1 (by omega), if_pos (nI_le (Nat.le_refl _) (by omega))]
  rw [hl, bd1_some]
  refine ⟨_, rfl, ?_⟩
  rw [lbO_szs (P := w.testBit) (c := fun s => fb_ct (s ^^^ t).testBit 6) (k := 2 ^ n) (fun s _ => ct6_le _)]
  intro v
  constructor
  · rintro ⟨s, a1, a2, a3⟩
    rw [tw_bit a1] at a2
    refine ⟨s ^^^ t, ?_, a2, ?_⟩
    · apply Nat.lt_of_not_le
      intro q
      rw [tb_hi hw q] at a2; cases a2
    · show fb_ct (s ^^^ t ^^^ t).testBit 6 = v
      rw [Nat.xor_assoc, Nat.xor_self, Nat.xor_zero]; exact a3
  · rintro ⟨s, a1, a2, a3⟩
    refine ⟨s ^^^ t, xlt6 (by omega) (by omega), ?_, a3⟩
    rw [tw_bit (xlt6 (by omega) (by omega)), Nat.xor_assoc, Nat.xor_self, Nat.xor_zero]; exact a2
/-- best -/
def boF (P : Nat → Bool) (c : Nat → Int32) : Nat → Option Nat
  | 0 => none
  | i + 1 => if P i then (match boF P c i with
    | none => some i
    | some f => if c i ≤ c f then some f else some i) else boF P c i
theorem boF_lt (P : Nat → Bool) (c : Nat → Int32) : ∀ k f, boF P c k = some f → f < k
  | 0, f, h => by cases h
  | k + 1, f, h => by
    unfold boF at h
    by_cases hp : P k = true
    · rw [if_pos hp] at h
      cases e : boF P c k with
      | none => rw [e] at h; cases h; omega
      | some g =>
        rw [e] at h
        have := boF_lt P c k g e
        by_cases q : c k ≤ c g
        · simp only [q, if_true] at h; cases h; omega
        · simp only [q, if_false] at h; cases h; omega
    · rw [if_neg hp] at h
      have := boF_lt P c k f h
      omega
theorem o_best {n : Nat} {M : Nat → Int64} {K W : Nat → Int32} (hn : n ≤ 6) (hV : VF n M K) (x1 : Int32) : ∃ r, m_X5_best (nI n) M K W x1 = some r ∧ m_X6_best (nI n) M K W x1 = some r := by
  have h6 := pow6 hn
  unfold m_X5_best m_X5_best_0 m_X6_best m_X6_best_0
  simp only [v5_fam, v6_fam, bd1_some, q01, q10]
  by_cases h1 : fok 6 x1 = true
  case neg => exact ⟨-2, by simp [h1], by simp [h1]⟩
  obtain ⟨j, hj, rfl⟩ := fok_ex (by omega) h1
  obtain ⟨⟨w, hw, hM⟩, -⟩ := hV j hj
  have hw64 : w < 2 ^ 64 := Nat.lt_of_lt_of_le hw (pp6 hn)
  simp only [h1, if_true, not_true, if_false, v5_missing hj, bd1_some, q10, ix_ok hj (show 6 < 2 ^ 31 by omega), nI_clamp (show j < 2 ^ 31 by omega), hM]
  by_cases hk : K j = -1
  · exact ⟨-11, by simp [hk], by simp [hk]⟩
  simp only [hk, not_false_eq_true, if_true, if_false]
  let c : Nat → Int32 := fun s => wsum W s n
  have l6 : gk_lp (fun z => m_X6_best_B27 (nI n) M K W (nI j) z.1 z.2) gk_fu ((-1 : Int32), (0 : Int32)) = some (enc (boF w.testBit c (2 ^ n))) := by
    refine ru (fun i => (enc (boF w.testBit c i), nI i)) (2 ^ n) rfl (by omega) (fun i hi => ?_) ?_
    · show m_X6_best_B27 (nI n) M K W (nI j) (enc (boF w.testBit c i)) (nI i) = some (Sum.inl (enc (boF w.testBit c (i + 1)), nI (i + 1)))
      unfold m_X6_best_B27
      rw [shl1 (by omega), if_neg (nI_ge hi (by omega)), v_isMember hj hM hw64 (by omega), bd1_some, v6_weightOf hn (by omega), bd1_some, nI_1, boF]
      simp only [q10]
      cases w.testBit i
      · simp
      · simp only [not_true, if_false, if_true]
        cases e : boF w.testBit c i with
        | none => rfl
        | some f =>
          have hf := boF_lt _ _ _ _ e
          show (if nI f = -1 then _ else gk_bd1 (m_X6_weightOf (nI n) W (nI f)) _) = _
          rw [if_neg (nI_ne (by omega)), v6_weightOf hn (by omega), bd1_some]
          by_cases q : c i ≤ c f
          · have q' : wsum W i n ≤ wsum W f n := q
            simp only [q, q', if_true]
          · have q' : ¬ wsum W i n ≤ wsum W f n := q
            simp only [q, q', if_false]; rfl
    · show m_X6_best_B27 (nI n) M K W (nI j) _ (nI (2 ^ n)) = _
      unfold m_X6_best_B27
      rw [shl1 (by omega), if_pos (nI_le (Nat.le_refl _) (by omega))]
  have l5 : gk_lp (fun z => m_X1_byLooking_B8 (nI n) W (lN w) z.1 z.2.1 z.2.2) gk_fu ((-1 : Int32), (0 : Int32), (0 : Int32)) = some (enc (boF w.testBit c (2 ^ n))) := by
    refine ru (fun i => (enc (boF w.testBit c i), (match boF w.testBit c i with
      | none => 0
      | some f => c f), nI i)) (2 ^ n) rfl (by omega) (fun i hi => ?_) ?_
    · show m_X1_byLooking_B8 (nI n) W (lN w) (enc (boF w.testBit c i)) (match boF w.testBit c i with
        | none => 0
        | some f => c f) (nI i) = some (Sum.inl (enc (boF w.testBit c (i + 1)), (match boF w.testBit c (i + 1) with
        | none => 0
        | some f => c f), nI (i + 1)))
      unfold m_X1_byLooking_B8
      rw [shl1 (by omega), if_neg (nI_ge hi (by omega)), v_holds hw64 (by omega), bd1_some, v5_weightOf hn (by omega), bd1_some, nI_1, boF]
      simp only [q10]
      cases w.testBit i
      · simp
      · simp only [not_true, if_false, if_true]
        cases e : boF w.testBit c i with
        | none => rfl
        | some f =>
          have hf := boF_lt _ _ _ _ e
          show (if nI f = -1 then _ else if wsum W i n ≤ c f then _ else _) = _
          rw [if_neg (nI_ne (by omega))]
          by_cases q : c i ≤ c f
          · have q' : wsum W i n ≤ c f := q
            simp only [q, q', if_true]
          · have q' : ¬ wsum W i n ≤ c f := q
            simp only [q, q', if_false]; rfl
    · show m_X1_byLooking_B8 (nI n) W (lN w) _ _ (nI (2 ^ n)) = _
      unfold m_X1_byLooking_B8
      rw [shl1 (by omega), if_pos (nI_le (Nat.le_refl _) (by omega))]
  unfold m_X1_byLooking m_X1_byLooking_0
  rw [l5, l6]
  exact ⟨_, rfl, rfl⟩
