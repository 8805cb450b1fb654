/-! ===== count ===== -/
def rth (S : Nat → Int32) : Nat := bsn (fun r => decide (¬ S r = -1)) 4
theorem v_isMiss (s : Int32) : m_X2_isMissing s = some (if s = -1 then 1 else 0) := by
  unfold m_X2_isMissing m_X2_isMissing_0
  split <;> rfl
theorem v5_rowsThere (S : Nat → Int32) : m_X5_rowsThere (S 0) (S 1) (S 2) (S 3) = some (nI (rth S)) := by
  unfold m_X5_rowsThere m_X5_rowsThere_0
  have hl : gk_lp (fun z => m_X5_rowsThere_B4 (S 0) (S 1) (S 2) (S 3) z.1 z.2) gk_fu ((0 : Int32), (0 : Int32)) = some (nI (rth S)) := by
    refine ru (fun i => (nI (bsn (fun r => decide (¬ S r = -1)) i), nI i)) 4 rfl (by omega) (fun i hi => ?_) ?_
    · show m_X5_rowsThere_B4 (S 0) (S 1) (S 2) (S 3) (nI (bsn (fun r => decide (¬ S r = -1)) i)) (nI i) = some (Sum.inl (nI (bsn (fun r => decide (¬ S r = -1)) (i + 1)), nI (i + 1)))
      unfold m_X5_rowsThere_B4
      rw [if_neg (gel 4 hi), shl1 (by omega), fa_or, nI_1, bsn_or]
      have e0 : (nI i = 0) = (i = 0) := propext (nI_eq (show i < 2 ^ 31 by omega) (show 0 < 2 ^ 31 by omega))
      have e1 : (nI i = 1) = (i = 1) := propext (nI_eq (show i < 2 ^ 31 by omega) (show 1 < 2 ^ 31 by omega))
      have e2 : (nI i = 2) = (i = 2) := propext (nI_eq (show i < 2 ^ 31 by omega) (show 2 < 2 ^ 31 by omega))
      have e3 : (nI i = 3) = (i = 3) := propext (nI_eq (show i < 2 ^ 31 by omega) (show 3 < 2 ^ 31 by omega))
      simp only [v_isMiss, bd1_some, q10, e0, e1, e2, e3]
      obtain rfl | rfl | rfl | rfl : i = 0 ∨ i = 1 ∨ i = 2 ∨ i = 3 := by omega
      · by_cases q : S 0 = -1 <;> simp [q]
      · by_cases q : S 1 = -1 <;> simp [q]
      · by_cases q : S 2 = -1 <;> simp [q]
      · by_cases q : S 3 = -1 <;> simp [q]
    · show m_X5_rowsThere_B4 (S 0) (S 1) (S 2) (S 3) _ (nI 4) = _
      unfold m_X5_rowsThere_B4
      rw [if_pos (lel 4 (by omega))]
      rfl
  rw [hl]
  rfl
theorem v6_rowsThere {n : Int32} {K T : Nat → Int32} (S : Nat → Int32) : gk_lp (fun z => m_X6_count_B44 n K T S z.1 z.2) gk_fu ((0 : Int32), (0 : Int32)) = some (nI (rth S)) := by
  refine ru (fun i => (nI (bsn (fun r => decide (¬ S r = -1)) i), nI i)) 4 rfl (by omega) (fun i hi => ?_) ?_
  · show m_X6_count_B44 n K T S (nI (bsn (fun r => decide (¬ S r = -1)) i)) (nI i) = some (Sum.inl (nI (bsn (fun r => decide (¬ S r = -1)) (i + 1)), nI (i + 1)))
    unfold m_X6_count_B44
    rw [if_neg (gel 4 hi), ix_ok hi (by omega), nI_clamp (by omega), shl1 (by omega), show (0 : Int32) = nI 0 from rfl, fa_or, fa_or, nI_1, bsn_or]
    by_cases q : S i = -1 <;> simp [q]
  · show m_X6_count_B44 n K T S _ (nI 4) = _
    unfold m_X6_count_B44
    rw [if_pos (lel 4 (by omega))]
    rfl
def nzc (T : Nat → Int32) : Nat := fb_ct (fun e => decide (¬ T e = 0)) 36
theorem v5_notZero (T : Nat → Int32) : m_X4_notZero T = some (nI (nzc T)) := by
  unfold m_X4_notZero m_X4_notZero_0
  have hl : gk_lp (fun z => m_X4_notZero_B13 T (Int32.ofNat 36) z.1 z.2) gk_fu ((0 : Int32), (0 : Int32)) = some (nI (nzc T)) := by
    refine ru (fun i => (nI (fb_ct (fun e => decide (¬ T e = 0)) i), nI i)) 36 rfl (by omega) (fun i hi => ?_) ?_
    · show m_X4_notZero_B13 T (nI 36) (nI (fb_ct (fun e => decide (¬ T e = 0)) i)) (nI i) = some (Sum.inl (nI (fb_ct (fun e => decide (¬ T e = 0)) (i + 1)), nI (i + 1)))
      unfold m_X4_notZero_B13
      rw [if_neg (nI_ge hi (by omega)), ix_ok hi (by omega), nI_clamp (by omega), fb_ct_succ, nI_1, nI_1]
      by_cases q : T i = 0 <;> simp [q]
    · show m_X4_notZero_B13 T (nI 36) _ (nI 36) = _
      unfold m_X4_notZero_B13
      rw [if_pos (nI_le (Nat.le_refl _) (by omega))]
      rfl
  rw [hl]
  rfl
theorem v6_entries (T : Nat → Int32) : m_X6_entries T = some (nI (nzc T)) := by
  unfold m_X6_entries m_X6_entries_0
  have hl : gk_lp (fun z => m_X6_entries_B4 T z.1 z.2) gk_fu ((0 : Int32), (0 : Int32)) = some (nI (nzc T)) := by
    refine ru (fun i => (nI (fb_ct (fun e => decide (¬ T e = 0)) i), nI i)) 36 rfl (by omega) (fun i hi => ?_) ?_
    · show m_X6_entries_B4 T (nI (fb_ct (fun e => decide (¬ T e = 0)) i)) (nI i) = some (Sum.inl (nI (fb_ct (fun e => decide (¬ T e = 0)) (i + 1)), nI (i + 1)))
      unfold m_X6_entries_B4
      rw [if_neg (gel 36 hi), ix_ok hi (by omega), nI_clamp (by omega), fb_ct_succ]
      rw [show (nI (fb_ct (fun e => decide (¬ T e = 0)) i)) + (0 : Int32) = nI (fb_ct (fun e => decide (¬ T e = 0)) i) from nI_add _ 0, nI_1, nI_1]
      by_cases q : T i = 0 <;> simp [q]
    · show m_X6_entries_B4 T _ (nI 36) = _
      unfold m_X6_entries_B4
      rw [if_pos (lel 36 (by omega))]
      rfl
  rw [hl]
  rfl
theorem o_count {N : Int32} {K T S : Nat → Int32} (x1 : Int32) : ∃ r, m_X5_count N K T (S 0) (S 1) (S 2) (S 3) x1 = some r ∧ m_X6_count N K T S x1 = some r := by
  unfold m_X5_count m_X5_count_0 m_X6_count m_X6_count_0
  rw [v5_rowsThere, v6_rowsThere, v5_families, v6_there, v5_notZero, v6_entries]
  simp only [bd1_some]
  by_cases h0 : x1 = 0
  · simp only [h0, if_true]; exact ⟨_, rfl, rfl⟩
  simp only [h0, if_false]
  by_cases h1 : x1 = 1
  · simp only [h1, if_true]; exact ⟨_, rfl, rfl⟩
  simp only [h1, if_false]
  by_cases h2 : x1 = 2
  · simp only [h2, if_true]; exact ⟨_, rfl, rfl⟩
  simp only [h2, if_false]
  by_cases h3 : x1 = 3
  · simp only [h3, if_true]; exact ⟨_, rfl, rfl⟩
  simp only [h3, if_false]
  exact ⟨_, rfl, rfl⟩
/-! ===== greed ===== -/
def ab (a : Int32) : Int32 := if 0 ≤ a then a else -a
theorem ab_x5 (a : Int32) : (if 0 ≤ a then a else 0 - a) = ab a := by
  unfold ab
  rw [Int32.zero_sub]
theorem ab_ge {a : Int32} (h : -99 ≤ a.toInt ∧ a.toInt ≤ 99) : 0 ≤ (ab a).toInt := by
  unfold ab
  by_cases q : 0 ≤ a
  · rw [if_pos q]
    rw [Int32.le_iff_toInt_le, i0] at q
    exact q
  · rw [if_neg q, fb_negI (by omega)]
    rw [Int32.le_iff_toInt_le, i0] at q
    omega
def hvO (W : Nat → Int32) (g : Nat) : Nat → Option Nat
  | 0 => none
  | i + 1 => if g.testBit i then hvO W g i else match hvO W g i with
    | none => some i
    | some b => if ab (W i) ≤ ab (W b) then some b else some i
theorem hvO_lt (W : Nat → Int32) (g : Nat) : ∀ k b, hvO W g k = some b → b < k ∧ g.testBit b = false
  | 0, b, h => by simp [hvO] at h
  | k + 1, b, h => by
    have ih := hvO_lt W g k
    unfold hvO at h
    by_cases q : g.testBit k = true
    · rw [if_pos q] at h
      have := ih b h
      exact ⟨by omega, this.2⟩
    · rw [if_neg q] at h
      cases e : hvO W g k with
      | none =>
        rw [e] at h
        cases h
        exact ⟨by omega, by simpa using q⟩
      | some c =>
        rw [e] at h
        have := ih c e
        simp only at h
        split at h
        · cases h; exact ⟨by omega, this.2⟩
        · cases h; exact ⟨by omega, by simpa using q⟩
theorem hvO_no (W : Nat → Int32) (g : Nat) : ∀ k, hvO W g k = none → ∀ p, p < k → g.testBit p = true
  | 0, _, p, hp => by omega
  | k + 1, h, p, hp => by
    have ih := hvO_no W g k
    unfold hvO at h
    by_cases q : g.testBit k = true
    · rw [if_pos q] at h
      by_cases e : p = k
      · rw [e]; exact q
      · exact ih h p (by omega)
    · rw [if_neg q] at h
      cases e : hvO W g k with
      | none => rw [e] at h; cases h
      | some c =>
        rw [e] at h
        simp only at h
        split at h <;> cases h
theorem m1_lt {a : Int32} (h : 0 ≤ a.toInt) : ¬ a ≤ -1 := by
  rw [Int32.le_iff_toInt_le, show (-1 : Int32).toInt = -1 from by decide]
  omega
theorem v5_heavy {n g b : Nat} {W : Nat → Int32} (hn : n ≤ 6) (hg : g < 64) (hW : VW W) (hb : hvO W g n = some b) : m_X1_heaviestBut (nI n) W (nI g) = some (nI b) := by
  unfold m_X1_heaviestBut m_X1_heaviestBut_0
  have hl : gk_lp (fun z => m_X1_heaviestBut_B7 (nI n) W (nI g) z.1 z.2.1 z.2.2) gk_fu ((0 : Int32), (-1 : Int32), (0 : Int32)) = some (nI b) := by
    refine ru (fun i => (nI ((hvO W g i).getD 0), (match hvO W g i with
      | none => (-1 : Int32)
      | some b => ab (W b)), nI i)) n rfl (by omega) (fun i hi => ?_) ?_
    · show m_X1_heaviestBut_B7 (nI n) W (nI g) (nI ((hvO W g i).getD 0)) (match hvO W g i with
        | none => (-1 : Int32)
        | some b => ab (W b)) (nI i) = some (Sum.inl (nI ((hvO W g (i + 1)).getD 0), (match hvO W g (i + 1) with
        | none => (-1 : Int32)
        | some b => ab (W b)), nI (i + 1)))
      unfold m_X1_heaviestBut_B7
      rw [if_neg (nI_ge hi (by omega)), ix_ok (show i < 6 by omega) (by omega), nI_clamp (by omega), nI_1, hvO]
      simp only [ab_x5, bitI0 (show g < 2 ^ 31 by omega) (show i < 31 by omega)]
      have ha := ab_ge (hW i (by omega))
      cases h1 : g.testBit i with
      | true => simp
      | false =>
        simp only [Bool.false_eq_true, if_false, if_true]
        cases e : hvO W g i with
        | none =>
          simp only
          rw [if_neg (m1_lt ha)]
          rfl
        | some c =>
          simp only
          by_cases q : ab (W i) ≤ ab (W c)
          · rw [if_pos q, if_pos q]
          · rw [if_neg q, if_neg q]; rfl
    · show m_X1_heaviestBut_B7 (nI n) W (nI g) (nI ((hvO W g n).getD 0)) _ (nI n) = _
      unfold m_X1_heaviestBut_B7
      rw [if_pos (nI_le (Nat.le_refl _) (by omega)), hb]
      rfl
  rw [hl]
  rfl
theorem v6_heavy {n g b : Nat} {W : Nat → Int32} (hn : n ≤ 6) (hg : g < 64) (hW : VW W) (hb : hvO W g n = some b) : m_X6_heaviest (nI n) W (nI g) = some (nI b) := by
  unfold m_X6_heaviest m_X6_heaviest_0
  have hl : gk_lp (fun z => m_X6_heaviest_B4 (nI n) W (nI g) z.1 z.2) gk_fu ((-1 : Int32), (0 : Int32)) = some (nI b) := by
    refine ru (fun i => (enc (hvO W g i), nI i)) n rfl (by omega) (fun i hi => ?_) ?_
    · show m_X6_heaviest_B4 (nI n) W (nI g) (enc (hvO W g i)) (nI i) = some (Sum.inl (enc (hvO W g (i + 1)), nI (i + 1)))
      have e1 : m_X6_heaviest_B4 (nI n) W (nI g) (enc (hvO W g i)) (nI i) = if g.testBit i = true then some (Sum.inl (enc (hvO W g i), nI (i + 1))) else m_X6_heaviest_J49 (nI n) W (nI g) (enc (hvO W g i)) (nI i) (ab (W i)) := by
        unfold m_X6_heaviest_B4
        rw [if_neg (nI_ge hi (by omega)), ix_ok (show i < 6 by omega) (by omega), ix_ok (show i < 6 by omega) (by omega), ix_ok (show i < 6 by omega) (by omega), nI_clamp (by omega), nI_1]
        simp only [bitI1 (show g < 2 ^ 31 by omega) (show i < 31 by omega), ab]
        split
        · rfl
        · split <;> rfl
      rw [e1, hvO]
      have ha := ab_ge (hW i (by omega))
      cases h1 : g.testBit i with
      | true => simp
      | false =>
        simp only [Bool.false_eq_true, if_false]
        unfold m_X6_heaviest_J49 m_X6_heaviest_J85
        cases e : hvO W g i with
        | none =>
          simp only [enc, if_true]
          rw [if_neg (m1_lt ha), nI_1]
        | some c =>
          obtain ⟨c1, -⟩ := hvO_lt W g i c e
          rw [show enc (some c) = nI c from rfl]
          rw [if_neg (nI_ne (by omega)), ix_ok (show c < 6 by omega) (by omega), ix_ok (show c < 6 by omega) (by omega), ix_ok (show c < 6 by omega) (by omega), nI_clamp (by omega), nI_1]
          have : (if 0 ≤ W c then (if ab (W i) ≤ W c then some (Sum.inl (nI c, nI (i + 1))) else some (Sum.inl (nI i, nI (i + 1)))) else (if ab (W i) ≤ -(W c) then some (Sum.inl (nI c, nI (i + 1))) else some (Sum.inl (nI i, nI (i + 1))))) = (if ab (W i) ≤ ab (W c) then some (Sum.inl (nI c, nI (i + 1))) else some (Sum.inl (nI i, nI (i + 1))) : Option ((Int32 × Int32) ⊕ Int32)) := by
            conv => rhs; rw [show ab (W c) = if 0 ≤ W c then W c else -(W c) from rfl]
            split <;> rfl
          rw [this]
          by_cases q : ab (W i) ≤ ab (W c)
          · simp only [q, if_true]; rfl
          · simp only [q, if_false]; rfl
    · show m_X6_heaviest_B4 (nI n) W (nI g) (enc (hvO W g n)) (nI n) = _
      unfold m_X6_heaviest_B4
      rw [if_pos (nI_le (Nat.le_refl _) (by omega)), hb]
      rfl
  rw [hl]
  rfl
/-- the members that are t at the points g -/
def flt (w g t : Nat) : Nat := bsn (fun s => w.testBit s && decide (s &&& g = t)) 64
theorem flt_lt (w g t : Nat) : flt w g t < 2 ^ 64 := bsn_lt _ _
theorem flt_bit {w g t s : Nat} (hs : s < 64) : (flt w g t).testBit s = (w.testBit s && decide (s &&& g = t)) := by rw [flt, bsn_bit]; simp [hs]
theorem flt_0 {w : Nat} (hw : w < 2 ^ 64) : flt w 0 0 = w := tb_ext (flt_lt _ _ _) hw (fun s hs => by rw [flt_bit hs]; simp)
theorem agr {g t p s : Nat} (hg : g.testBit p = false) (ht : t.testBit p = false) : (s &&& (g ||| 2 ^ p) = t ||| 2 ^ p ↔ s &&& g = t ∧ s.testBit p = true) ∧ (s &&& (g ||| 2 ^ p) = t ↔ s &&& g = t ∧ s.testBit p = false) := by
  have hbit : ∀ i, (s &&& (g ||| 2 ^ p)).testBit i = ((s &&& g).testBit i || (s.testBit i && decide (i = p))) := fun i => by
    rw [Nat.testBit_and, fb_bit_set, Nat.testBit_and]
    cases s.testBit i <;> simp
  have hz : (s &&& g).testBit p = false := by rw [Nat.testBit_and, hg, Bool.and_false]
  constructor
  · constructor
    · intro h
      have hi : ∀ i, ((s &&& g).testBit i || (s.testBit i && decide (i = p))) = (t.testBit i || decide (i = p)) := fun i => by
        rw [← hbit, h, fb_bit_set]
      constructor
      · apply Nat.eq_of_testBit_eq
        intro i
        by_cases e : i = p
        · subst e; rw [hz, ht]
        · have := hi i
          simpa [e] using this
      · have := hi p
        simpa [hz, ht] using this
    · rintro ⟨h1, h2⟩
      apply Nat.eq_of_testBit_eq
      intro i
      rw [hbit, fb_bit_set, h1]
      by_cases e : i = p
      · subst e; simp [h2]
      · simp [e]
  · constructor
    · intro h
      have hi : ∀ i, ((s &&& g).testBit i || (s.testBit i && decide (i = p))) = t.testBit i := fun i => by
        rw [← hbit, h]
      constructor
      · apply Nat.eq_of_testBit_eq
        intro i
        by_cases e : i = p
        · subst e; rw [hz, ht]
        · have := hi i
          simpa [e] using this
      · have := hi p
        simpa [hz, ht] using this
    · rintro ⟨h1, h2⟩
      apply Nat.eq_of_testBit_eq
      intro i
      rw [hbit, h1]
      by_cases e : i = p
      · subst e; simp [h2]
      · simp [e]
theorem flt_with {w g t p : Nat} (hp : p < 6) (hg : g.testBit p = false) (ht : t.testBit p = false) : lN (flt w g t) &&& gk_hav p = lN (flt w (g ||| 2 ^ p) (t ||| 2 ^ p)) := by
  rw [hv_lN p hp, fb_andL]
  refine lN_mod64 (flt_lt _ _ _) (fun s hs => ?_)
  rw [Nat.testBit_and, flt_bit hs, flt_bit hs, hv_bit p hp s hs]
  have := (agr (s := s) hg ht).1
  simp only [this]
  cases w.testBit s <;> cases s.testBit p <;> simp
theorem flt_without {w g t p : Nat} (hp : p < 6) (hg : g.testBit p = false) (ht : t.testBit p = false) : lN (flt w g t) &&& (gk_hav p ^^^ (-1 : Int64)) = lN (flt w (g ||| 2 ^ p) t) := by
  rw [hv_not p hp, fb_andL]
  refine lN_mod64 (flt_lt _ _ _) (fun s hs => ?_)
  rw [Nat.testBit_and, flt_bit hs, flt_bit hs, hvn_bit p hp s hs]
  have := (agr (s := s) hg ht).2
  simp only [this]
  cases w.testBit s <;> cases s.testBit p <;> simp
theorem v6_may {n w j g t : Nat} {M : Nat → Int64} (hn : n ≤ 6) (hj : j < 6) (hM : M j = lN w) (hw : w < 2 ^ 2 ^ n) (hg : g < 64) (ht : t < 64) : m_X6_may (nI n) M (nI j) (nI g) (nI t) = some (if flt w g t = 0 then 0 else 1) := by
  have h6 := pow6 hn
  have hw64 : w < 2 ^ 64 := Nat.lt_of_lt_of_le hw (pp6 hn)
  unfold m_X6_may m_X6_may_0
  have hl : gk_bs0 (gk_lp (fun z => m_X6_may_B3 (nI n) M (nI j) (nI g) (nI t) z) gk_fu (0 : Int32)) (fun r => some r) (some (0 : Int32)) = match ffO (fun s => w.testBit s && decide (s &&& g = t)) (2 ^ n) with
      | some _ => some (1 : Int32)
      | none => some (0 : Int32) := by
    have hand : ∀ i, i < 2 ^ n → i &&& g < 2 ^ 31 := fun i hi => Nat.lt_of_le_of_lt Nat.and_le_left (by omega)
    refine ruB (fun i => nI i) (fun s => w.testBit s && decide (s &&& g = t)) (fun _ => 1) (2 ^ n) rfl (by omega) (fun i hi _ hp => ?_) (fun i hi _ hp => ?_) (fun _ => ?_)
    · show m_X6_may_B3 (nI n) M (nI j) (nI g) (nI t) (nI i) = _
      unfold m_X6_may_B3
      rw [shl1 (by omega), if_neg (nI_ge hi (by omega)), v_isMember hj hM hw64 (by omega), bd1_some, fa_and, nI_1]
      simp only [q10, nI_eq (hand i hi) (show t < 2 ^ 31 by omega)]
      cases hb : w.testBit i with
      | false => simp
      | true =>
        rw [hb, Bool.true_and, decide_eq_false_iff_not] at hp
        simp [hp]
    · show m_X6_may_B3 (nI n) M (nI j) (nI g) (nI t) (nI i) = _
      unfold m_X6_may_B3
      rw [shl1 (by omega), if_neg (nI_ge hi (by omega)), v_isMember hj hM hw64 (by omega), bd1_some, fa_and]
      simp only [q10, nI_eq (hand i hi) (show t < 2 ^ 31 by omega)]
      rw [Bool.and_eq_true, decide_eq_true_iff] at hp
      simp [hp.1, hp.2]
    · show m_X6_may_B3 (nI n) M (nI j) (nI g) (nI t) (nI (2 ^ n)) = _
      unfold m_X6_may_B3
      rw [shl1 (by omega), if_pos (nI_le (Nat.le_refl _) (by omega))]
  rw [hl]
  cases e : ffO (fun s => w.testBit s && decide (s &&& g = t)) (2 ^ n) with
  | none =>
    have := ffO_none e
    have : flt w g t = 0 := tb_ext (flt_lt _ _ _) (by omega) (fun s hs => by
      rw [flt_bit hs, Nat.zero_testBit]
      by_cases q : s < 2 ^ n
      · exact this s q
      · rw [tb_hi hw (by omega), Bool.false_and])
    rw [if_pos this]
  | some i =>
    obtain ⟨a, b, -⟩ := ffO_some e
    have : ¬ flt w g t = 0 := fun q => by
      have h2 := flt_bit (w := w) (g := g) (t := t) (s := i) (by omega)
      rw [q, Nat.zero_testBit, b] at h2
      cases h2
    rw [if_neg this]
/-- one step of greed -/
def gstep (n w : Nat) (W : Nat → Int32) (g t : Nat) : Nat × Nat :=
  let p := (hvO W g n).getD 0
  let g' := g ||| 2 ^ p
  (g', if W p < 0 then (if flt w g' t = 0 then t ||| 2 ^ p else t) else (if flt w g' (t ||| 2 ^ p) = 0 then t else t ||| 2 ^ p))
def grd (n w : Nat) (W : Nat → Int32) : Nat → Nat × Nat
  | 0 => (0, 0)
  | k + 1 => gstep n w W (grd n w W k).1 (grd n w W k).2
theorem grd_ok {n w : Nat} {W : Nat → Int32} : ∀ k, k ≤ n → (grd n w W k).1 < 2 ^ n ∧ (grd n w W k).2 < 2 ^ n ∧ (∀ i, (grd n w W k).2.testBit i = true → (grd n w W k).1.testBit i = true) ∧ fb_ct (grd n w W k).1.testBit n = k
  | 0, _ => by
    refine ⟨Nat.two_pow_pos n, Nat.two_pow_pos n, fun i h => h, ?_⟩
    rw [fb_ct_zero]
    intro k _
    exact Nat.zero_testBit k
  | k + 1, hk => by
    obtain ⟨h1, h2, h3, h4⟩ := grd_ok (n := n) (w := w) (W := W) k (by omega)
    rw [grd]
    generalize (grd n w W k).1 = g at *
    generalize (grd n w W k).2 = t at *
    cases e : hvO W g n with
    | none =>
      have := hvO_no W g n e
      have := fb_ct_all.mpr this
      omega
    | some p =>
      obtain ⟨hp, hpg⟩ := hvO_lt W g n p e
      have hpn : 2 ^ p < 2 ^ n := Nat.pow_lt_pow_right (by omega) hp
      have ht : ∀ t', t' = t ∨ t' = t ||| 2 ^ p → t' < 2 ^ n ∧ ∀ i, t'.testBit i = true → (g ||| 2 ^ p).testBit i = true := by
        rintro t' (rfl | rfl)
        · refine ⟨h2, fun i hi => ?_⟩
          rw [fb_bit_set, h3 i hi]; rfl
        · refine ⟨Nat.or_lt_two_pow h2 hpn, fun i hi => ?_⟩
          rw [fb_bit_set] at hi ⊢
          cases q : t.testBit i with
          | true => rw [h3 i q]; rfl
          | false => rw [q, Bool.false_or] at hi; rw [hi, Bool.or_true]
      have hor : (gstep n w W g t).2 = t ∨ (gstep n w W g t).2 = t ||| 2 ^ p := by
        unfold gstep
        simp only [e, Option.getD_some]
        split <;> split <;> simp
      have hg1 : (gstep n w W g t).1 = g ||| 2 ^ p := by
        unfold gstep
        simp only [e, Option.getD_some]
      rw [hg1]
      obtain ⟨a, b⟩ := ht _ hor
      refine ⟨Nat.or_lt_two_pow h1 hpn, a, b, ?_⟩
      have hc := fb_ct_upd g.testBit true hp
      rw [hpg] at hc
      simp at hc
      rw [← h4, ← hc]
      apply fb_ct_cong
      intro i _
      rw [fb_bit_set]
      by_cases q : i = p <;> simp [q]
theorem grd_hv {n w k : Nat} {W : Nat → Int32} (hk : k < n) : ∃ p, hvO W (grd n w W k).1 n = some p ∧ p < n ∧ (grd n w W k).1.testBit p = false ∧ (grd n w W k).2.testBit p = false := by
  obtain ⟨h1, h2, h3, h4⟩ := grd_ok (n := n) (w := w) (W := W) k (by omega)
  cases e : hvO W (grd n w W k).1 n with
  | none =>
    have := fb_ct_all.mpr (hvO_no W _ n e)
    omega
  | some p =>
    obtain ⟨hp, hpg⟩ := hvO_lt W _ n p e
    refine ⟨p, rfl, hp, hpg, ?_⟩
    cases q : (grd n w W k).2.testBit p with
    | false => rfl
    | true => rw [h3 p q] at hpg; cases hpg
theorem v5_greed {n w : Nat} {W : Nat → Int32} (hn : n ≤ 6) (hw : w < 2 ^ 64) (hW : VW W) : gk_lp (fun z => m_X1_byGreed_B19 (nI n) W z.1 z.2.1 z.2.2.1 z.2.2.2) gk_fu (lN w, (0 : Int32), (0 : Int32), (0 : Int32)) = some (nI (grd n w W n).2) := by
  have h6 := pow6 hn
  refine ru (fun i => (lN (flt w (grd n w W i).1 (grd n w W i).2), nI (grd n w W i).1, nI (grd n w W i).2, nI i)) n ?_ (by omega) (fun i hi => ?_) ?_
  · show _ = (lN (flt w 0 0), nI 0, nI 0, nI 0)
    rw [flt_0 hw]; rfl
  · show m_X1_byGreed_B19 (nI n) W (lN (flt w (grd n w W i).1 (grd n w W i).2)) (nI (grd n w W i).1) (nI (grd n w W i).2) (nI i) = some (Sum.inl (lN (flt w (grd n w W (i + 1)).1 (grd n w W (i + 1)).2), nI (grd n w W (i + 1)).1, nI (grd n w W (i + 1)).2, nI (i + 1)))
    obtain ⟨h1, h2, h3, h4⟩ := grd_ok (n := n) (w := w) (W := W) i (by omega)
    obtain ⟨p, e, hp, hg, ht⟩ := grd_hv (w := w) (W := W) hi
    rw [grd]
    generalize (grd n w W i).1 = g at *
    generalize (grd n w W i).2 = t at *
    have hp6 : p < 6 := by omega
    unfold m_X1_byGreed_B19
    rw [if_neg (nI_ge hi (by omega)), v5_heavy hn (by omega) hW e, bd1_some, ix_ok hp6 (by omega), ix_ok hp6 (by omega), ix_ok hp6 (by omega), nI_clamp (by omega), flt_with hp6 hg ht, flt_without hp6 hg ht, shl1 (by omega), fa_or]
    unfold m_X1_byGreed_J106 m_X1_byGreed_J120 gstep
    rw [show nI t ||| (0 : Int32) = nI t from by rw [show (0 : Int32) = nI 0 from rfl, fa_or, Nat.or_zero], shl1 (by omega), fa_or, nI_1]
    simp only [cmp0, lN_0, lN_inj64 (flt_lt w (g ||| 2 ^ p) t) (show 0 < 2 ^ 64 by omega), lN_inj64 (flt_lt w (g ||| 2 ^ p) (t ||| 2 ^ p)) (show 0 < 2 ^ 64 by omega), e, Option.getD_some]
    by_cases q : W p < 0
    · simp only [q, if_true]
      by_cases q2 : flt w (g ||| 2 ^ p) t = 0
      · simp [q2]
      · simp [q2]
    · simp only [q, if_false]
      by_cases q2 : flt w (g ||| 2 ^ p) (t ||| 2 ^ p) = 0
      · simp [q2]
      · simp [q2]
  · show m_X1_byGreed_B19 (nI n) W _ _ (nI (grd n w W n).2) (nI n) = _
    unfold m_X1_byGreed_B19
    rw [if_pos (nI_le (Nat.le_refl _) (by omega))]
theorem v6_greed {n w j : Nat} {M : Nat → Int64} {K W : Nat → Int32} (hn : n ≤ 6) (hj : j < 6) (hM : M j = lN w) (hw : w < 2 ^ 2 ^ n) (hW : VW W) : gk_lp (fun z => m_X6_greed_B43 (nI n) M K W (nI j) z.1 z.2.1 z.2.2) gk_fu ((0 : Int32), (0 : Int32), (0 : Int32)) = some (nI (grd n w W n).2) := by
  have h6 := pow6 hn
  refine ru (fun i => (nI (grd n w W i).1, nI (grd n w W i).2, nI i)) n rfl (by omega) (fun i hi => ?_) ?_
  · show m_X6_greed_B43 (nI n) M K W (nI j) (nI (grd n w W i).1) (nI (grd n w W i).2) (nI i) = some (Sum.inl (nI (grd n w W (i + 1)).1, nI (grd n w W (i + 1)).2, nI (i + 1)))
    obtain ⟨h1, h2, h3, h4⟩ := grd_ok (n := n) (w := w) (W := W) i (by omega)
    obtain ⟨p, e, hp, hg, ht⟩ := grd_hv (w := w) (W := W) hi
    rw [grd]
    generalize (grd n w W i).1 = g at *
    generalize (grd n w W i).2 = t at *
    have hp6 : p < 6 := by omega
    have h64 := p6 p hp6
    have hg' : g ||| 2 ^ p < 64 := Nat.or_lt_two_pow (n := 6) (by omega) h64
    have ht' : t ||| 2 ^ p < 64 := Nat.or_lt_two_pow (n := 6) (by omega) h64
    unfold m_X6_greed_B43 m_X6_greed_J86 m_X6_greed_J108 gstep
    rw [if_neg (nI_ge hi (by omega)), v6_heavy hn (by omega) hW e, bd1_some]
    simp only [ix_ok hp6 (show 6 < 2 ^ 31 by omega), nI_clamp (show p < 2 ^ 31 by omega), shl1 (show p < 31 by omega), fa_or, v6_may hn hj hM hw hg' ht', v6_may hn hj hM hw hg' (show t < 64 by omega), bd1_some, e, Option.getD_some, nI_1]
    by_cases q : W p < 0
    · simp only [q, if_true]
      by_cases q2 : flt w (g ||| 2 ^ p) t = 0
      · simp [q2]
      · simp [q2]
    · simp only [q, if_false]
      by_cases q2 : flt w (g ||| 2 ^ p) (t ||| 2 ^ p) = 0
      · simp [q2]
      · simp [q2]
  · show m_X6_greed_B43 (nI n) M K W (nI j) _ (nI (grd n w W n).2) (nI n) = _
    unfold m_X6_greed_B43
    rw [if_pos (nI_le (Nat.le_refl _) (by omega))]
theorem o_greed {n : Nat} {M : Nat → Int64} {K W : Nat → Int32} (hn : n ≤ 6) (hV : VF n M K) (hW : VW W) (x1 : Int32) : ∃ r, m_X5_greed (nI n) M K W x1 = some r ∧ m_X6_greed (nI n) M K W x1 = some r := by
  have h6 := pow6 hn
  unfold m_X5_greed m_X5_greed_0 m_X6_greed m_X6_greed_0
  simp only [v5_fam, v6_fam, bd1_some, q01, q10]
  by_cases h1 : fok 6 x1 = true
  case neg => exact ⟨-2, by simp [h1], by simp [h1]⟩
  obtain ⟨j, hj, rfl⟩ := fok_ex (by omega) h1
  obtain ⟨⟨w, hw, hM⟩, -⟩ := hV j hj
  have hw64 : w < 2 ^ 64 := Nat.lt_of_lt_of_le hw (pp6 hn)
  simp only [h1, if_true, not_true, if_false, v5_missing hj, bd1_some, q10, ix_ok hj (show 6 < 2 ^ 31 by omega), nI_clamp (show j < 2 ^ 31 by omega), hM]
  by_cases hk : K j = -1
  · exact ⟨-11, by simp [hk], by simp [hk]⟩
  simp only [hk, not_false_eq_true, if_true, if_false]
  unfold m_X1_byGreed m_X1_byGreed_0
  rw [v5_greed hn hw64 hW, v6_greed hn hj hM hw hW, bd1_some]
  split
  · exact ⟨_, rfl, rfl⟩
  · exact ⟨_, rfl, rfl⟩
