/-! ===== sized, reduce ===== -/
def szP (a b : Nat) (s : Nat) : Bool := decide (a ≤ fb_ct s.testBit 6 ∧ fb_ct s.testBit 6 ≤ b)
theorem ct6_le (s : Nat) : fb_ct s.testBit 6 ≤ 6 := fb_ct_le _ _
theorem v_bc6 {s : Nat} (hs : s < 64) : m_J6_bitCount_0f7a4 (nI s) = some (nI (fb_ct s.testBit 6)) := by
  rw [v_bc s (by omega), ct6_7 s hs]
theorem v5_ofSizes {n a b : Nat} (hn : n ≤ 6) (ha : a ≤ 6) (hb : b ≤ 6) : m_X0_ofSizes (nI a) (nI b) (nI n) = some (lN (bsn (szP a b) (2 ^ n))) := by
  have h6 := pow6 hn
  unfold m_X0_ofSizes m_X0_ofSizes_0
  have hl : gk_lp (fun z => m_X0_ofSizes_B5 (nI a) (nI b) (nI n) z.1 z.2) gk_fu ((0 : Int64), (0 : Int32)) = some (lN (bsn (szP a b) (2 ^ n))) := by
    refine ru (fun i => (lN (bsn (szP a b) i), nI i)) (2 ^ n) rfl (by omega) (fun i hi => ?_) ?_
    · show m_X0_ofSizes_B5 (nI a) (nI b) (nI n) (lN (bsn (szP a b) i)) (nI i) = _
      unfold m_X0_ofSizes_B5
      have hc := ct6_le i
      rw [shl1 (by omega), if_neg (nI_ge hi (by omega)), v_bc6 (by omega), bd1_some, nI_1, shlL (by omega), fb_orL]
      simp only [nI_ltI (show fb_ct i.testBit 6 < 2 ^ 31 by omega) (show a < 2 ^ 31 by omega), nI_ltI (show b < 2 ^ 31 by omega) (show fb_ct i.testBit 6 < 2 ^ 31 by omega)]
      show _ = some (Sum.inl (lN (bsn (szP a b) (i + 1)), nI (i + 1)))
      rw [bsn]
      by_cases h1 : fb_ct i.testBit 6 < a
      · rw [if_pos h1, if_neg (by simp [szP]; omega)]
      · rw [if_neg h1]
        by_cases h2 : b < fb_ct i.testBit 6
        · rw [if_pos h2, if_neg (by simp [szP]; omega)]
        · rw [if_neg h2, if_pos (by simp [szP]; omega)]
    · show m_X0_ofSizes_B5 (nI a) (nI b) (nI n) (lN (bsn (szP a b) (2 ^ n))) (nI (2 ^ n)) = _
      unfold m_X0_ofSizes_B5
      rw [shl1 (by omega), if_pos (nI_le (Nat.le_refl _) (by omega))]
  rw [hl]
  rfl
theorem v_isIn3 {x a b : Nat} (hx : x < 2 ^ 31) (ha : a < 2 ^ 31) (hb : b < 2 ^ 31) : m_X6_isIn (nI x).toInt64 (nI a).toInt64 (nI b).toInt64 = some (if a ≤ x ∧ x ≤ b then 1 else 0) := by
  rw [v_isIn]
  simp only [Int32.toInt_toInt64, nI_toInt hx, nI_toInt ha, nI_toInt hb]
  have e : ((a : Int) ≤ (x : Int) ∧ (x : Int) ≤ (b : Int)) ↔ (a ≤ x ∧ x ≤ b) := by omega
  simp only [e]
theorem v6_sizedL {n a b : Nat} {M : Nat → Int64} {K : Nat → Int32} (x1 : Int32) (hn : n ≤ 6) (ha : a ≤ 6) (hb : b ≤ 6) : gk_lp (fun z => m_X6_sized_B45 (nI n) M K x1 (nI a) (nI b) z.1 z.2) gk_fu ((0 : Int64), (0 : Int32)) = some (lN (bsn (szP a b) (2 ^ n))) := by
  have h6 := pow6 hn
  refine ru (fun i => (lN (bsn (szP a b) i), nI i)) (2 ^ n) rfl (by omega) (fun i hi => ?_) ?_
  · show m_X6_sized_B45 (nI n) M K x1 (nI a) (nI b) (lN (bsn (szP a b) i)) (nI i) = _
    unfold m_X6_sized_B45
    have hc := ct6_le i
    rw [shl1 (by omega), if_neg (nI_ge hi (by omega)), v_ones i (by omega), bd1_some, v_isIn3 (by omega) (by omega) (by omega), bd1_some, nI_1, shlL (by omega), fb_orL, lN_0, fb_orL, Nat.or_zero]
    simp only [q10]
    show _ = some (Sum.inl (lN (bsn (szP a b) (i + 1)), nI (i + 1)))
    rw [bsn]
    by_cases h1 : a ≤ fb_ct i.testBit 6 ∧ fb_ct i.testBit 6 ≤ b
    · rw [if_neg (fun q => q h1), if_pos (by simp [szP]; omega)]
    · rw [if_pos h1, if_neg (by simp [szP]; omega)]
  · show m_X6_sized_B45 (nI n) M K x1 (nI a) (nI b) (lN (bsn (szP a b) (2 ^ n))) (nI (2 ^ n)) = _
    unfold m_X6_sized_B45
    rw [shl1 (by omega), if_pos (nI_le (Nat.le_refl _) (by omega))]
theorem toNat_nI {x : Int32} (h : 0 ≤ x.toInt) : x = nI x.toInt.toNat := by
  have := fb_rng x
  apply Int32.toInt_inj.mp
  rw [nI_toInt (by omega)]
  omega
theorem o_sized {n : Nat} {M : Nat → Int64} {K : Nat → Int32} (hn : n ≤ 6) (hV : VF n M K) (x1 x2 x3 : Int32) : ∃ r M' K', m_X5_sized (nI n) M K x1 x2 x3 = some (r, M', K') ∧ m_X6_sized (nI n) M K x1 x2 x3 = some (r, M', K') ∧ VF n M' K' := by
  have h6 := pow6 hn
  have hp6 := pp6 hn
  unfold m_X5_sized m_X5_sized_0 m_X6_sized m_X6_sized_0
  simp only [v5_fam, v6_fam, bd1_some, q01, q10, v_isIn]
  by_cases h1 : fok 6 x1 = true
  case neg => exact ⟨-2, M, K, by simp [h1], by simp [h1], hV⟩
  obtain ⟨j, hj, rfl⟩ := fok_ex (by omega) h1
  simp only [h1, if_true, not_true, if_false, Int32.lt_iff_toInt_lt, Int32.le_iff_toInt_le, i0, nI_toInt (show n < 2 ^ 31 by omega), Int32.toInt_toInt64, show (0 : Int64).toInt = 0 from by decide]
  by_cases h2 : 0 ≤ x2.toInt ∧ x2.toInt ≤ x3.toInt ∧ x3.toInt ≤ (n : Int)
  case neg =>
    refine ⟨-2, M, K, ?_, ?_, hV⟩
    · by_cases a1 : x2.toInt < 0
      · rw [if_pos a1]
      · rw [if_neg a1]
        by_cases a2 : (n : Int) < x3.toInt
        · rw [if_pos a2]
        · rw [if_neg a2, if_neg (by omega)]
    · by_cases a1 : 0 ≤ x2.toInt ∧ x2.toInt ≤ (n : Int)
      · rw [if_neg (fun q => q a1), if_pos (by omega)]
      · rw [if_pos a1]
  obtain ⟨b1, b2, b3⟩ := h2
  rw [if_neg (by omega), if_neg (by omega), if_pos b2, if_neg (by omega), if_neg (by omega)]
  rw [toNat_nI b1, toNat_nI (show 0 ≤ x3.toInt by omega)]
  generalize ha : x2.toInt.toNat = a
  generalize hb : x3.toInt.toNat = b
  have hw : bsn (szP a b) (2 ^ n) < 2 ^ 2 ^ n := bsn_lt _ _
  rw [v5_ofSizes hn (by omega) (by omega), bd1_some, v6_sizedL (nI j) hn (by omega) (by omega), bd1_some, v5_become (n := n) hj (by omega), v6_becomes (n := n) hj (by omega), bd3_some]
  exact ⟨_, _, _, rfl, rfl, hV.set hw (by decide)⟩
/-! reduce -/
def rdU (p o : Nat) : Nat := bsn (fun s => !s.testBit p && (o.testBit s || o.testBit (s + 2 ^ p))) 64
def rdT (n p w : Nat) (way : Bool) : Nat := bsn (fun s => (s.testBit p == way) && w.testBit s) (2 ^ n)
def red (n p w : Nat) (way : Bool) : Nat := rdU p (if rdT n p w way = 0 then w else rdT n p w way)
theorem rdT_bit {n p w s : Nat} {way : Bool} (hw : w < 2 ^ 2 ^ n) : (rdT n p w way).testBit s = ((s.testBit p == way) && w.testBit s) := by
  rw [rdT, bsn_bit]
  by_cases h : s < 2 ^ n
  · simp [h]
  · rw [tb_hi hw (by omega)]; simp
theorem rdU_bit {p o s : Nat} (hs : s < 64) : (rdU p o).testBit s = (!s.testBit p && (o.testBit s || o.testBit (s + 2 ^ p))) := by
  rw [rdU, bsn_bit]; simp [hs]
theorem rdU_fam {n p o : Nat} (hn : n ≤ 6) (ho : o < 2 ^ 2 ^ n) : rdU p o < 2 ^ 2 ^ n := by
  have h6 := pow6 hn
  have : rdU p o = bsn (fun s => !s.testBit p && (o.testBit s || o.testBit (s + 2 ^ p))) (2 ^ n) := by
    refine tb_ext (n := 64) (bsn_lt _ _) (Nat.lt_of_lt_of_le (bsn_lt _ _) (pp6 hn)) (fun s hs => ?_)
    rw [rdU_bit hs, bsn_bit]
    by_cases h : s < 2 ^ n
    · simp [h]
    · rw [tb_hi ho (show 2 ^ n ≤ s by omega), tb_hi ho (Nat.le_trans (Nat.not_lt.mp h) (Nat.le_add_right s (2 ^ p)))]
      simp
  rw [this]
  exact bsn_lt _ _
theorem red_fam {n p w : Nat} {way : Bool} (hn : n ≤ 6) (hw : w < 2 ^ 2 ^ n) : red n p w way < 2 ^ 2 ^ n := by
  refine rdU_fam hn ?_
  split
  · exact hw
  · exact bsn_lt _ _
theorem bit_sum : ∀ p, p < 6 → ∀ s, s < 64 → (s.testBit p = true ∨ (s + 2 ^ p).testBit p = true) ∧ (s.testBit p = false ∨ (s + 2 ^ p).testBit p = false) := by decide +kernel
theorem v5_left {n p w : Nat} (hn : n ≤ 6) (hp : p < n) (hw : w < 2 ^ 2 ^ n) : m_X0_leftOut (lN w) (nI p) = some (lN (red n p w false)) := by
  have h6 := pow6 hn
  have hw64 : w < 2 ^ 64 := Nat.lt_of_lt_of_le hw (pp6 hn)
  have hp6 : p < 6 := by omega
  have e : w &&& (2 ^ 64 - 1 - hv p) = rdT n p w false := by
    refine tb_ext (n := 64) (Nat.and_lt_two_pow _ (hvn_lt p)) (Nat.lt_of_lt_of_le (bsn_lt _ _) (pp6 hn)) (fun s hs => ?_)
    rw [Nat.testBit_and, hvn_bit p hp6 s hs, rdT_bit hw]
    cases s.testBit p <;> simp
  have ht : rdT n p w false < 2 ^ 64 := Nat.lt_of_lt_of_le (bsn_lt _ _) (pp6 hn)
  unfold m_X0_leftOut m_X0_leftOut_0
  rw [ix_ok hp6 (by omega), nI_clamp (by omega), shl1 (by omega), hv_not p hp6, fb_andL, e, wb_shr hw64 (p6 p hp6), lN_0]
  simp only [cmp0, lN_inj64 ht (show 0 < 2 ^ 64 by omega)]
  unfold red
  by_cases h : rdT n p w false = 0
  · rw [if_pos h, if_pos h]
    congr 2
    refine tb_ext (n := 64) (Nat.lt_of_le_of_lt (Nat.div_le_self _ _) hw64) (bsn_lt _ _) (fun s hs => ?_)
    rw [Nat.testBit_div_two_pow, rdU_bit hs]
    have hz : ∀ t, t.testBit p = false → w.testBit t = false := fun t q => by
      have := rdT_bit (s := t) (p := p) (way := false) hw
      rw [h, q] at this
      simpa using this.symm
    have hb := bit_sum p hp6 s hs
    cases hs2 : s.testBit p
    · rw [hz s hs2]; simp
    · rw [hz (s + 2 ^ p) (by simpa [hs2] using hb.2)]; simp
  · rw [if_neg h, if_neg h]
    congr 2
    refine tb_ext (n := 64) ht (bsn_lt _ _) (fun s hs => ?_)
    rw [rdU_bit hs, rdT_bit hw, rdT_bit hw]
    have hb := bit_sum p hp6 s hs
    cases hs2 : s.testBit p
    · have : (s + 2 ^ p).testBit p = true := by simpa [hs2] using hb.1
      simp [this]
    · simp
theorem v5_drawn {n p w : Nat} (hn : n ≤ 6) (hp : p < n) (hw : w < 2 ^ 2 ^ n) : m_X0_drawnTogether (lN w) (nI p) = some (lN (red n p w true)) := by
  have h6 := pow6 hn
  have hw64 : w < 2 ^ 64 := Nat.lt_of_lt_of_le hw (pp6 hn)
  have hp6 : p < 6 := by omega
  have e : w &&& hv p = rdT n p w true := by
    refine tb_ext (n := 64) (Nat.and_lt_two_pow _ (hv_lt p hp6)) (Nat.lt_of_lt_of_le (bsn_lt _ _) (pp6 hn)) (fun s hs => ?_)
    rw [Nat.testBit_and, hv_bit p hp6 s hs, rdT_bit hw]
    cases s.testBit p <;> simp
  have ht : rdT n p w true < 2 ^ 64 := Nat.lt_of_lt_of_le (bsn_lt _ _) (pp6 hn)
  unfold m_X0_drawnTogether m_X0_drawnTogether_0
  rw [ix_ok hp6 (by omega), nI_clamp (by omega), shl1 (by omega), hv_lN p hp6, fb_andL, e, wb_shr ht (p6 p hp6), lN_0]
  simp only [cmp0, lN_inj64 ht (show 0 < 2 ^ 64 by omega)]
  unfold red
  by_cases h : rdT n p w true = 0
  · rw [if_pos h, if_pos h]
    congr 2
    refine tb_ext (n := 64) hw64 (bsn_lt _ _) (fun s hs => ?_)
    rw [rdU_bit hs]
    have hz : ∀ t, t.testBit p = true → w.testBit t = false := fun t q => by
      have := rdT_bit (s := t) (p := p) (way := true) hw
      rw [h, q] at this
      simpa using this.symm
    have hb := bit_sum p hp6 s hs
    cases hs2 : s.testBit p
    · rw [hz (s + 2 ^ p) (by simpa [hs2] using hb.1)]; simp
    · rw [hz s hs2]; simp
  · rw [if_neg h, if_neg h]
    congr 2
    refine tb_ext (n := 64) (Nat.lt_of_le_of_lt (Nat.div_le_self _ _) ht) (bsn_lt _ _) (fun s hs => ?_)
    rw [Nat.testBit_div_two_pow, rdU_bit hs, rdT_bit hw, rdT_bit hw]
    have hb := bit_sum p hp6 s hs
    cases hs2 : s.testBit p
    · have : (s + 2 ^ p).testBit p = true := by simpa [hs2] using hb.1
      simp [this]
    · have : (s + 2 ^ p).testBit p = false := by simpa [hs2] using hb.2
      simp [this]
theorem v6_redT {n p w j : Nat} {M : Nat → Int64} {K : Nat → Int32} {way : Bool} (x4 : Int32) (hn : n ≤ 6) (hp : p < n) (hw : w < 2 ^ 2 ^ n) (hj : j < 6) (hM : M j = lN w) : gk_lp (fun z => m_X6_reduce_B55 (nI n) M K (nI j) (nI p) (nI (if way then 1 else 0)) x4 z.1 z.2) gk_fu ((0 : Int64), (0 : Int32)) = some (lN (rdT n p w way)) := by
  have h6 := pow6 hn
  refine ru (fun i => (lN (bsn (fun s => (s.testBit p == way) && w.testBit s) i), nI i)) (2 ^ n) rfl (by omega) (fun i hi => ?_) ?_
  · show m_X6_reduce_B55 (nI n) M K (nI j) (nI p) (nI (if way then 1 else 0)) x4 (lN (bsn (fun s => (s.testBit p == way) && w.testBit s) i)) (nI i) = _
    unfold m_X6_reduce_B55
    rw [shl1 (by omega), if_neg (nI_ge hi (by omega)), bitI (by omega) (by omega), ix_ok hj (by omega), nI_clamp (by omega), hM, shlL (by omega), fb_andL, fb_orL, nI_1]
    show _ = some (Sum.inl (lN (bsn (fun s => (s.testBit p == way) && w.testBit s) (i + 1)), nI (i + 1)))
    rw [bsn_or]
    have eb : w &&& 2 ^ i = if w.testBit i then 2 ^ i else 0 := by
      apply Nat.eq_of_testBit_eq
      intro s
      rw [Nat.testBit_and, Nat.testBit_two_pow]
      by_cases e : i = s
      · subst e; cases w.testBit i <;> simp
      · cases w.testBit i <;> simp [e, Nat.testBit_two_pow]
    rw [eb]
    have n01 : ¬ nI 0 = nI 1 := by decide
    have n10 : ¬ nI 1 = nI 0 := by decide
    cases i.testBit p <;> cases way <;> cases w.testBit i <;> simp [n01, n10]
  · show m_X6_reduce_B55 (nI n) M K (nI j) (nI p) (nI (if way then 1 else 0)) x4 (lN (bsn (fun s => (s.testBit p == way) && w.testBit s) (2 ^ n))) (nI (2 ^ n)) = _
    unfold m_X6_reduce_B55
    rw [shl1 (by omega), if_pos (nI_le (Nat.le_refl _) (by omega))]
    rfl
def rdq (p i : Nat) : Nat := if i.testBit p then i - 2 ^ p else i
theorem rdq_ok : ∀ p, p < 6 → ∀ i, i < 64 → nI i &&& (((1 : Int32) <<< (nI p &&& 31)) ^^^ (-1 : Int32)) = nI (rdq p i) ∧ rdq p i < 64 := by decide +kernel
theorem rdq_eq : ∀ p, p < 6 → ∀ i, i < 64 → ∀ s, s < 64 → decide (rdq p i = s) = (!s.testBit p && (decide (s = i) || decide (s + 2 ^ p = i))) := by decide +kernel
def rdP (p o i s : Nat) : Bool := !s.testBit p && ((decide (s < i) && o.testBit s) || (decide (s + 2 ^ p < i) && o.testBit (s + 2 ^ p)))
theorem rdP_s {p o i s : Nat} (hp : p < 6) (hi : i < 64) (hs : s < 64) : rdP p o (i + 1) s = (rdP p o i s || (o.testBit i && decide (rdq p i = s))) := by
  rw [rdq_eq p hp i hi s hs]
  unfold rdP
  have hpp := Nat.two_pow_pos p
  cases s.testBit p
  · by_cases h1 : s = i
    · subst h1
      have a1 : ¬ s < s := Nat.lt_irrefl s
      have a2 : ¬ s + 2 ^ p < s + 1 := by omega
      have a3 : ¬ s + 2 ^ p < s := by omega
      simp [a2, a3]
    · by_cases h2 : s + 2 ^ p = i
      · subst h2
        have a1 : s < s + 2 ^ p + 1 := by omega
        have a2 : s < s + 2 ^ p := by omega
        simp [a1, a2]
      · have a1 : (s < i + 1) = (s < i) := by apply propext; omega
        have a2 : (s + 2 ^ p < i + 1) = (s + 2 ^ p < i) := by apply propext; omega
        simp only [a1, a2, h1, h2]
        simp
  · simp
theorem v6_redU {n p o : Nat} {M : Nat → Int64} {K : Nat → Int32} (x4 : Int32) (hn : n ≤ 6) (hp : p < n) (ho : o < 2 ^ 2 ^ n) : gk_lp (fun z => m_X6_reduce_B124 (nI n) M K (nI p) x4 (lN o) z.1 z.2) gk_fu ((0 : Int64), (0 : Int32)) = some (lN (rdU p o)) := by
  have h6 := pow6 hn
  have ho64 : o < 2 ^ 64 := Nat.lt_of_lt_of_le ho (pp6 hn)
  refine ru (fun i => (lN (bsn (rdP p o i) 64), nI i)) (2 ^ n) ?_ (by omega) (fun i hi => ?_) ?_
  · show _ = (lN (bsn (rdP p o 0) 64), nI 0)
    have e : bsn (rdP p o 0) 64 = 0 := tb_ext (bsn_lt _ _) (by omega) (fun s hs => by rw [bsn_bit]; simp [rdP])
    rw [e]
    rfl
  · show m_X6_reduce_B124 (nI n) M K (nI p) x4 (lN o) (lN (bsn (rdP p o i) 64)) (nI i) = some (Sum.inl (lN (bsn (rdP p o (i + 1)) 64), nI (i + 1)))
    unfold m_X6_reduce_B124
    have hq := rdq_ok p (by omega) i (by omega)
    rw [hq.1, shl1 (by omega), if_neg (nI_ge hi (by omega)), bitS ho64 (by omega), nI_1, shlL hq.2, fb_orL]
    simp only [cmp0]
    cases hb : o.testBit i
    · rw [if_neg (by decide)]
      congr 4
      refine bsn_cong (fun s hs => ?_)
      rw [rdP_s (by omega) (by omega) hs, hb]
      simp
    · rw [if_pos (by decide)]
      congr 4
      refine tb_ext (n := 64) (Nat.or_lt_two_pow (bsn_lt _ _) (Nat.pow_lt_pow_right (by omega) hq.2)) (bsn_lt _ _) (fun s hs => ?_)
      rw [Nat.testBit_or, bsn_bit, bsn_bit, Nat.testBit_two_pow, rdP_s (by omega) (by omega) hs, hb]
      simp [hs]
  · show m_X6_reduce_B124 (nI n) M K (nI p) x4 (lN o) (lN (bsn (rdP p o (2 ^ n)) 64)) (nI (2 ^ n)) = _
    unfold m_X6_reduce_B124
    rw [shl1 (by omega), if_pos (nI_le (Nat.le_refl _) (by omega))]
    congr 3
    refine bsn_cong (fun s hs => ?_)
    unfold rdP
    have e1 : (decide (s < 2 ^ n) && o.testBit s) = o.testBit s := by
      by_cases h : s < 2 ^ n
      · simp [h]
      · rw [tb_hi ho (by omega)]; simp
    have e2 : (decide (s + 2 ^ p < 2 ^ n) && o.testBit (s + 2 ^ p)) = o.testBit (s + 2 ^ p) := by
      by_cases h : s + 2 ^ p < 2 ^ n
      · simp [h]
      · rw [tb_hi ho (by omega)]; simp
    rw [e1, e2]
theorem o_reduce {n : Nat} {M : Nat → Int64} {K : Nat → Int32} (h0 : 1 ≤ n) (hn : n ≤ 6) (hV : VF n M K) (x1 x2 x3 x4 : Int32) : ∃ r M' K', m_X5_reduce (nI n) M K x1 x2 x3 x4 = some (r, M', K') ∧ m_X6_reduce (nI n) M K x1 x2 x3 x4 = some (r, M', K') ∧ VF n M' K' := by
  have h6 := pow6 hn
  have hp6 := pp6 hn
  unfold m_X5_reduce m_X5_reduce_0 m_X6_reduce m_X6_reduce_0
  simp only [v5_fam, v6_fam, v5_pt hn, v6_pt h0 hn, bd1_some, q01, q10]
  rw [show m_X6_isIn x3.toInt64 (0 : Int64) (1 : Int64) = _ from v6_in x3 1 (by omega), bd1_some]
  simp only [q10]
  rw [show ∀ A B : Option (Int32 × (Nat → Int64) × (Nat → Int32)), (if x3 < 0 then A else if 1 < x3 then A else B) = if fok (1 + 1) x3 = true then B else A from fun A B => sel_lt x3 1 (by omega) A B]
  by_cases h1 : fok 6 x1 = true
  case neg => exact ⟨-2, M, K, by simp [h1], by simp [h1], hV⟩
  by_cases h2 : fok n x2 = true
  case neg => exact ⟨-2, M, K, by simp [h1, h2], by simp [h1, h2], hV⟩
  by_cases h3 : fok (1 + 1) x3 = true
  case neg => exact ⟨-2, M, K, by simp only [h1, h2, h3, if_true, if_false]; simp, by simp only [h1, h2, h3, if_true, not_true, if_false]; simp, hV⟩
  by_cases h4 : fok 6 x4 = true
  case neg => exact ⟨-2, M, K, by simp only [h1, h2, h3, h4, if_true, if_false]; simp, by simp only [h1, h2, h3, h4, if_true, not_true, if_false]; simp, hV⟩
  obtain ⟨j, hj, rfl⟩ := fok_ex (by omega) h1
  obtain ⟨p, hp, rfl⟩ := fok_ex (by omega) h2
  obtain ⟨i, hi, rfl⟩ := fok_ex (by omega) h3
  obtain ⟨k, hk, rfl⟩ := fok_ex (by omega) h4
  obtain ⟨⟨w, hw, hM⟩, -⟩ := hV j hj
  simp only [h1, h2, h3, h4, if_true, not_true, if_false, v5_missing hj, bd1_some, q10, ix_ok hj (show 6 < 2 ^ 31 by omega), nI_clamp (show j < 2 ^ 31 by omega), hM, v5_left hn hp hw, v5_drawn hn hp hw]
  by_cases hkk : K j = -1
  · exact ⟨-11, M, K, by simp [hkk], by simp [hkk], hV⟩
  simp only [hkk, not_false_eq_true, if_true, if_false]
  have key : ∀ way : Bool, i = (if way then 1 else 0) → gk_bd1 (gk_lp (fun z => m_X6_reduce_B55 (nI n) M K (nI j) (nI p) (nI i) (nI k) z.1 z.2) gk_fu ((0 : Int64), (0 : Int32))) (fun e22 => m_X6_reduce_J98 (nI n) M K (nI j) (nI p) (nI k) e22) = some (nI (fb_ct (red n p w way).testBit 64), vp_updL M k (lN (red n p w way)), upd K k 4) := by
    intro way hway
    rw [hway, v6_redT (nI k) hn hp hw hj hM, bd1_some]
    unfold m_X6_reduce_J98
    have ht : rdT n p w way < 2 ^ 2 ^ n := bsn_lt _ _
    rw [lN_0]
    simp only [cmp0, lN_inj64 (show rdT n p w way < 2 ^ 64 by omega) (show 0 < 2 ^ 64 by omega), ix_ok hj (show 6 < 2 ^ 31 by omega), nI_clamp (show j < 2 ^ 31 by omega), hM]
    have hr : red n p w way < 2 ^ 64 := Nat.lt_of_lt_of_le (red_fam hn hw) hp6
    by_cases hz : rdT n p w way = 0
    · have er : red n p w way = rdU p w := by unfold red; rw [if_pos hz]
      rw [if_pos hz, ← lN_0, v6_redU (nI k) hn hp hw, bd1_some, ← er, v6_becomes (n := n) hk hr, bd3_some]
    · have er : red n p w way = rdU p (rdT n p w way) := by unfold red; rw [if_neg hz]
      rw [if_neg hz, ← lN_0, v6_redU (nI k) hn hp ht, bd1_some, ← er, v6_becomes (n := n) hk hr, bd3_some]
  rcases (by omega : i = 0 ∨ i = 1) with rfl | rfl
  · rw [if_pos (show nI 0 = 0 from rfl), key false rfl, v5_become (n := n) hk (Nat.lt_of_lt_of_le (red_fam hn hw) hp6), bd3_some]
    exact ⟨_, _, _, rfl, rfl, hV.set (red_fam hn hw) (by decide)⟩
  · rw [if_neg (show ¬ nI 1 = 0 by decide), key true rfl, v5_become (n := n) hk (Nat.lt_of_lt_of_le (red_fam hn hw) hp6), bd3_some]
    exact ⟨_, _, _, rfl, rfl, hV.set (red_fam hn hw) (by decide)⟩
