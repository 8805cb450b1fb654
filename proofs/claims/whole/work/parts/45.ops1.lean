/-! ===== has, clear, twist, dual, tell: both sides alike ===== -/
theorem o_has {n : Nat} {M : Nat → Int64} {K : Nat → Int32} (hn : n ≤ 6) (hV : VF n M K) (x1 x2 : Int32) : ∃ r, m_X5_has (nI n) M K x1 x2 = some r ∧ m_X6_has (nI n) M K x1 x2 = some r := by
  have h6 := pow6 hn
  unfold m_X5_has m_X5_has_0 m_X6_has m_X6_has_0
  simp only [v5_fam, v6_fam, v5_set hn, v6_set hn, bd1_some, q01, q10]
  by_cases h1 : fok 6 x1 = true
  case neg => exact ⟨-2, by simp [h1], by simp [h1]⟩
  by_cases h2 : fok (2 ^ n) x2 = true
  case neg => exact ⟨-2, by simp [h1, h2], by simp [h1, h2]⟩
  obtain ⟨j, hj, rfl⟩ := fok_ex (by omega) h1
  obtain ⟨t, ht, rfl⟩ := fok_ex (by omega) h2
  obtain ⟨⟨w, hw, hM⟩, -⟩ := hV j hj
  have hw64 : w < 2 ^ 64 := Nat.lt_of_lt_of_le hw (pp6 hn)
  simp only [h1, h2, if_true, not_true, if_false, v5_missing hj, bd1_some, q10, ix_ok hj (show 6 < 2 ^ 31 by omega), nI_clamp (show j < 2 ^ 31 by omega), hM, v_holds hw64 (show t < 64 by omega), v_isMember hj hM hw64 (show t < 64 by omega)]
  by_cases hk : K j = -1
  · exact ⟨-11, by simp [hk], by simp [hk]⟩
  · simp only [hk, not_false_eq_true, if_true, if_false]
    refine ⟨if w.testBit t = true then 1 else 0, ?_, ?_⟩ <;> cases w.testBit t <;> rfl
theorem o_clear {n : Nat} {M : Nat → Int64} {K : Nat → Int32} (hn : n ≤ 6) (hV : VF n M K) (x1 : Int32) : ∃ r M' K', m_X5_clear M K x1 = some (r, M', K') ∧ m_X6_clear M K x1 = some (r, M', K') ∧ VF n M' K' := by
  unfold m_X5_clear m_X5_clear_0 m_X6_clear m_X6_clear_0
  simp only [v5_fam, v6_fam, bd1_some, q01, q10]
  by_cases h1 : fok 6 x1 = true
  case neg => exact ⟨-2, M, K, by simp [h1], by simp [h1], hV⟩
  obtain ⟨j, hj, rfl⟩ := fok_ex (by omega) h1
  obtain ⟨⟨w, hw, hM⟩, -⟩ := hV j hj
  have hw64 : w < 2 ^ 64 := Nat.lt_of_lt_of_le hw (pp6 hn)
  simp only [h1, if_true, not_true, if_false, v5_missing hj, bd1_some, q10, ix_ok hj (show 6 < 2 ^ 31 by omega), nI_clamp (show j < 2 ^ 31 by omega), hM, popL hw64, v_size hw64]
  by_cases hk : K j = -1
  · exact ⟨-11, M, K, by simp [hk], by simp [hk], hV⟩
  · simp only [hk, not_false_eq_true, if_true, if_false]
    rw [lN_0, v5_become (n := n) hj (by omega), bd3_some]
    exact ⟨_, _, _, rfl, rfl, hV.set (Nat.two_pow_pos _) (by decide)⟩
theorem o_twist {n : Nat} {M : Nat → Int64} {K : Nat → Int32} (hn : n ≤ 6) (hV : VF n M K) (x1 x2 x3 : Int32) : ∃ r M' K', m_X5_twist (nI n) M K x1 x2 x3 = some (r, M', K') ∧ m_X6_twist (nI n) M K x1 x2 x3 = some (r, M', K') ∧ VF n M' K' := by
  have h6 := pow6 hn
  unfold m_X5_twist m_X5_twist_0 m_X6_twist m_X6_twist_0
  simp only [v5_fam, v6_fam, v5_set hn, v6_set hn, bd1_some, q01, q10]
  by_cases h1 : fok 6 x1 = true
  case neg => exact ⟨-2, M, K, by simp [h1], by simp [h1], hV⟩
  by_cases h2 : fok (2 ^ n) x2 = true
  case neg => exact ⟨-2, M, K, by simp [h1, h2], by simp [h1, h2], hV⟩
  by_cases h3 : fok 6 x3 = true
  case neg => exact ⟨-2, M, K, by simp [h1, h2, h3], by simp [h1, h2, h3], hV⟩
  obtain ⟨j, hj, rfl⟩ := fok_ex (by omega) h1
  obtain ⟨t, ht, rfl⟩ := fok_ex (by omega) h2
  obtain ⟨i, hi, rfl⟩ := fok_ex (by omega) h3
  obtain ⟨⟨w, hw, hM⟩, -⟩ := hV j hj
  have hw64 : w < 2 ^ 64 := Nat.lt_of_lt_of_le hw (pp6 hn)
  simp only [h1, h2, h3, if_true, not_true, if_false, v5_missing hj, bd1_some, q10, ix_ok hj (show 6 < 2 ^ 31 by omega), nI_clamp (show j < 2 ^ 31 by omega), hM, v5_tw hw64 (show t < 64 by omega), v6_tw hn hw ht, v5_become (n := n) hi (tw_lt w t), v6_becomes (n := n) hi (tw_lt w t), bd3_some]
  by_cases hk : K j = -1
  · exact ⟨-11, M, K, by simp [hk], by simp [hk], hV⟩
  · simp only [hk, not_false_eq_true, if_true, if_false]
    exact ⟨_, _, _, rfl, rfl, hV.set (tw_fam hn hw ht) (by decide)⟩
theorem o_dual {n : Nat} {M : Nat → Int64} {K : Nat → Int32} (hn : n ≤ 6) (hV : VF n M K) (x1 x2 : Int32) : ∃ r M' K', m_X5_dual (nI n) M K x1 x2 = some (r, M', K') ∧ m_X6_dual (nI n) M K x1 x2 = some (r, M', K') ∧ VF n M' K' := by
  have h6 := pow6 hn
  have hp := Nat.two_pow_pos n
  have et : ((1 : Int32) <<< (nI n &&& 31)) - 1 = nI (2 ^ n - 1) := by
    rw [shl1 (by omega), show (1 : Int32) = nI 1 from rfl, pk_sub (by omega)]
  unfold m_X5_dual m_X5_dual_0 m_X6_dual m_X6_dual_0
  simp only [v5_fam, v6_fam, bd1_some, q01, q10, et]
  by_cases h1 : fok 6 x1 = true
  case neg => exact ⟨-2, M, K, by simp [h1], by simp [h1], hV⟩
  by_cases h3 : fok 6 x2 = true
  case neg => exact ⟨-2, M, K, by simp [h1, h3], by simp [h1, h3], hV⟩
  obtain ⟨j, hj, rfl⟩ := fok_ex (by omega) h1
  obtain ⟨i, hi, rfl⟩ := fok_ex (by omega) h3
  obtain ⟨⟨w, hw, hM⟩, -⟩ := hV j hj
  have hw64 : w < 2 ^ 64 := Nat.lt_of_lt_of_le hw (pp6 hn)
  have ht : 2 ^ n - 1 < 2 ^ n := by omega
  simp only [h1, h3, if_true, not_true, if_false, v5_missing hj, bd1_some, q10, ix_ok hj (show 6 < 2 ^ 31 by omega), nI_clamp (show j < 2 ^ 31 by omega), hM, v5_tw hw64 (show 2 ^ n - 1 < 64 by omega), v6_tw hn hw ht, v5_become (n := n) hi (tw_lt w (2 ^ n - 1)), v6_becomes (n := n) hi (tw_lt w (2 ^ n - 1)), bd3_some]
  by_cases hk : K j = -1
  · exact ⟨-11, M, K, by simp [hk], by simp [hk], hV⟩
  · simp only [hk, not_false_eq_true, if_true, if_false]
    exact ⟨_, _, _, rfl, rfl, hV.set (tw_fam hn hw ht) (by decide)⟩
theorem sel_le {α : Type} (x : Int32) (k : Nat) (hk : k < 2 ^ 31) (A B : α) : (if x < 0 then A else if x ≤ nI k then B else A) = if fok (k + 1) x = true then B else A := by
  simp only [Int32.lt_iff_toInt_lt, Int32.le_iff_toInt_le, i0, nI_toInt hk, fok_iff]
  by_cases h1 : x.toInt < 0
  · rw [if_pos h1, if_neg (by omega)]
  · rw [if_neg h1]
    by_cases h2 : x.toInt ≤ (k : Int)
    · rw [if_pos h2, if_pos (by omega)]
    · rw [if_neg h2, if_neg (by omega)]
theorem sel_lt {α : Type} (x : Int32) (k : Nat) (hk : k < 2 ^ 31) (A B : α) : (if x < 0 then A else if nI k < x then A else B) = if fok (k + 1) x = true then B else A := by
  simp only [Int32.lt_iff_toInt_lt, i0, nI_toInt hk, fok_iff]
  by_cases h1 : x.toInt < 0
  · rw [if_pos h1, if_neg (by omega)]
  · rw [if_neg h1]
    by_cases h2 : (k : Int) < x.toInt
    · rw [if_pos h2, if_neg (by omega)]
    · rw [if_neg h2, if_pos (by omega)]
theorem v6_in (x : Int32) (k : Nat) (hk : k < 2 ^ 31) : m_X6_isIn x.toInt64 (0 : Int64) (lN k) = some (if fok (k + 1) x = true then 1 else 0) := by
  rw [v_isIn]
  have e : ((0 : Int64).toInt ≤ x.toInt64.toInt ∧ x.toInt64.toInt ≤ (lN k).toInt) ↔ fok (k + 1) x = true := by
    rw [fok_iff, Int32.toInt_toInt64, lN_toInt hk, show (0 : Int64).toInt = 0 from by decide]
    omega
  simp only [e]
theorem updL_same (M : Nat → Int64) (j : Nat) : vp_updL M j (M j) = M := by
  funext k
  unfold vp_updL
  split
  · rename_i h; rw [h]
  · rfl
theorem or_bit {w t : Nat} (h : w.testBit t = true) : w ||| 2 ^ t = w := by
  apply Nat.eq_of_testBit_eq
  intro i
  rw [Nat.testBit_or, Nat.testBit_two_pow]
  by_cases e : t = i
  · subst e; simp [h]
  · simp [e]
theorem or_xor {w t : Nat} (h : w.testBit t = false) : w ||| 2 ^ t = w ^^^ 2 ^ t := by
  apply Nat.eq_of_testBit_eq
  intro i
  rw [Nat.testBit_or, Nat.testBit_xor, Nat.testBit_two_pow]
  by_cases e : t = i
  · subst e; simp [h]
  · simp [e]
theorem and_bit {w t : Nat} (hw : w < 2 ^ 64) (ht : t < 64) : lN w &&& (lN (2 ^ t) ^^^ (-1 : Int64)) = lN (if w.testBit t then w ^^^ 2 ^ t else w) := by
  rw [lN_m1, fb_xorL, fb_andL]
  refine lN_mod64 ?_ (fun s hs => ?_)
  · have : 2 ^ t < 2 ^ 64 := Nat.pow_lt_pow_right (by omega) ht
    split
    · exact Nat.xor_lt_two_pow hw this
    · exact hw
  · rw [Nat.testBit_and, Nat.testBit_xor, Nat.testBit_two_pow_sub_one, Nat.testBit_two_pow]
    by_cases e : t = s
    · subst e
      cases h : w.testBit t <;> simp [h, hs, Nat.testBit_xor, Nat.testBit_two_pow]
    · cases h : w.testBit t <;> simp [e, hs, Nat.testBit_xor, Nat.testBit_two_pow]
theorem fam_bit {n w t : Nat} (hw : w < 2 ^ 2 ^ n) (ht : t < 2 ^ n) : w ||| 2 ^ t < 2 ^ 2 ^ n ∧ w ^^^ 2 ^ t < 2 ^ 2 ^ n := by
  have : 2 ^ t < 2 ^ 2 ^ n := Nat.pow_lt_pow_right (by omega) ht
  exact ⟨Nat.or_lt_two_pow hw this, Nat.xor_lt_two_pow hw this⟩
theorem o_tell {n : Nat} {M : Nat → Int64} {K : Nat → Int32} (hn : n ≤ 6) (hV : VF n M K) (x1 x2 x3 : Int32) : ∃ r M' K', m_X5_tell (nI n) M K x1 x2 x3 = some (r, M', K') ∧ m_X6_tell (nI n) M K x1 x2 x3 = some (r, M', K') ∧ VF n M' K' := by
  have h6 := pow6 hn
  unfold m_X5_tell m_X5_tell_0 m_X6_tell m_X6_tell_0
  have e1 : (1 : Int32) = nI 1 := rfl
  have e2 : (1 : Int64) = lN 1 := rfl
  simp only [v5_fam, v6_fam, v5_set hn, v6_set hn, bd1_some, q01, q10]
  rw [show m_X6_isIn x3.toInt64 (0 : Int64) (1 : Int64) = _ from v6_in x3 1 (by omega), bd1_some]
  simp only [q10]
  rw [show ∀ A B : Option (Int32 × (Nat → Int64) × (Nat → Int32)), (if x3 < 0 then A else if x3 ≤ 1 then B else A) = if fok (1 + 1) x3 = true then B else A from fun A B => sel_le x3 1 (by omega) A B]
  by_cases h1 : fok 6 x1 = true
  case neg => exact ⟨-2, M, K, by simp [h1], by simp [h1], hV⟩
  by_cases h2 : fok (2 ^ n) x2 = true
  case neg => exact ⟨-2, M, K, by simp [h1, h2], by simp [h1, h2], hV⟩
  by_cases h3 : fok (1 + 1) x3 = true
  case neg => exact ⟨-2, M, K, by simp only [h1, h2, h3, if_true, if_false]; simp, by simp only [h1, h2, h3, if_true, not_true, if_false]; simp, hV⟩
  obtain ⟨j, hj, rfl⟩ := fok_ex (by omega) h1
  obtain ⟨t, ht, rfl⟩ := fok_ex (by omega) h2
  obtain ⟨i, hi, rfl⟩ := fok_ex (by omega) h3
  obtain ⟨⟨w, hw, hM⟩, -⟩ := hV j hj
  have hw64 : w < 2 ^ 64 := Nat.lt_of_lt_of_le hw (pp6 hn)
  have ht64 : t < 64 := by omega
  have hb := fam_bit hw ht
  have hb1 : w ||| 2 ^ t < 2 ^ 64 := Nat.lt_of_lt_of_le hb.1 (pp6 hn)
  have hb2 : w ^^^ 2 ^ t < 2 ^ 64 := Nat.lt_of_lt_of_le hb.2 (pp6 hn)
  have hs : vp_updL M j (lN w) = M := by rw [← hM]; exact updL_same M j
  unfold m_X5_tell_J70 m_X6_tell_J42
  simp only [h1, h2, h3, if_true, not_true, if_false, bd1_some, ix_ok hj (show 6 < 2 ^ 31 by omega), nI_clamp (show j < 2 ^ 31 by omega), hM, shlL ht64, v_isMember hj hM hw64 ht64, v_holds hw64 ht64, q10, fb_orL, fb_xorL, and_bit hw64 ht64, v5_become (n := n) hj hb1, bd3_some]
  rcases (by omega : i = 0 ∨ i = 1) with rfl | rfl
  · rw [if_neg (show ¬ nI 0 = 1 by decide)]
    cases hbit : w.testBit t
    · simp only [Bool.false_eq_true, if_false, not_false_eq_true, if_true, v5_become (n := n) hj hw64, bd3_some]
      rw [if_pos (show (0 : Int32) = nI 0 from rfl)]
      refine ⟨_, _, _, rfl, by rw [hs], ?_⟩
      exact hV.set hw (by decide)
    · simp only [if_true, not_true, if_false, v5_become (n := n) hj hb2, bd3_some]
      rw [if_neg (show ¬ (1 : Int32) = nI 0 by decide)]
      exact ⟨_, _, _, rfl, rfl, hV.set hb.2 (by decide)⟩
  · rw [if_pos (show nI 1 = 1 from rfl)]
    cases hbit : w.testBit t
    · simp only [Bool.false_eq_true, if_false, not_false_eq_true, if_true]
      rw [if_neg (show ¬ (0 : Int32) = nI 1 by decide), or_xor hbit]
      exact ⟨_, _, _, rfl, rfl, hV.set hb.2 (by decide)⟩
    · simp only [if_true, not_true, if_false]
      rw [if_pos (show (1 : Int32) = nI 1 from rfl), or_bit hbit]
      refine ⟨_, _, _, rfl, by rw [hs], ?_⟩
      exact hV.set hw (by decide)
