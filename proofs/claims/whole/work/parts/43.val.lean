/-! ===== which arguments are good; the leaves of both sides ===== -/
def fok (k : Nat) (x : Int32) : Bool := decide (0 ≤ x.toInt ∧ x.toInt < k)
theorem fok_iff {k : Nat} {x : Int32} : fok k x = true ↔ (0 ≤ x.toInt ∧ x.toInt < k) := decide_eq_true_iff
theorem fok_ex {k : Nat} {x : Int32} (hk : k ≤ 2 ^ 31) (h : fok k x = true) : ∃ j, j < k ∧ x = nI j := by
  rw [fok_iff] at h
  refine ⟨x.toInt.toNat, by have := h.1; have := h.2; omega, ?_⟩
  apply Int32.toInt_inj.mp
  rw [nI_toInt (by have := h.1; have := h.2; omega)]
  have := h.1
  omega
theorem fok_nI {k j : Nat} (hk : k ≤ 2 ^ 31) (h : j < k) : fok k (nI j) = true := by
  rw [fok_iff, nI_toInt (by omega)]
  omega
theorem q01 (c : Prop) [Decidable c] : ((if c then (0 : Int32) else 1) = 0) = c := by
  split <;> simp_all
theorem q10 (c : Prop) [Decidable c] : ((if c then (1 : Int32) else 0) = 0) = ¬ c := by
  split <;> simp_all
theorem i0 : (0 : Int32).toInt = 0 := by decide
theorem cmp_lt (a b : Int64) : lg_cmp a b < 0 ↔ a < b := by
  unfold lg_cmp
  by_cases h : a > b
  · have : ¬ a < b := fun q => Int64.lt_irrefl (Int64.lt_trans h q)
    simp [h, this]
  · by_cases h2 : a = b
    · subst h2; simp [Int64.lt_irrefl]
    · have h3 : a < b := by
        rw [Int64.lt_iff_toInt_lt]
        rw [gt_iff_lt, Int64.lt_iff_toInt_lt] at h
        have : a.toInt ≠ b.toInt := fun q => h2 (Int64.toInt_inj.mp q)
        omega
      simp [h, h2, h3]
theorem cmp_gt (a b : Int64) : 0 < lg_cmp a b ↔ b < a := by
  unfold lg_cmp
  by_cases h : a > b
  · simp only [h, if_true]; simp
  · by_cases h2 : a = b
    · subst h2; simp [Int64.lt_irrefl]
    · have : ¬ b < a := h
      simp [h, h2, this]
theorem cmp_le (a b : Int64) : lg_cmp a b ≤ 0 ↔ a ≤ b := by
  unfold lg_cmp
  by_cases h : a > b
  · have : ¬ a ≤ b := by
      rw [gt_iff_lt, Int64.lt_iff_toInt_lt] at h
      rw [Int64.le_iff_toInt_le]; omega
    simp [h, this]
  · have h3 : a ≤ b := by
      rw [gt_iff_lt, Int64.lt_iff_toInt_lt] at h
      rw [Int64.le_iff_toInt_le]; omega
    by_cases h2 : a = b
    · subst h2; simp [h3]
    · simp [h, h2, h3]
/-- the reference's isIn -/
theorem v_isIn (x a b : Int64) : m_X6_isIn x a b = some (if a.toInt ≤ x.toInt ∧ x.toInt ≤ b.toInt then 1 else 0) := by
  unfold m_X6_isIn m_X6_isIn_0
  simp only [cmp_lt, cmp_gt, Int64.lt_iff_toInt_lt]
  by_cases h1 : x.toInt < a.toInt
  · rw [if_pos h1, if_neg (by omega)]
  · rw [if_neg h1]
    by_cases h2 : b.toInt < x.toInt
    · rw [if_pos h2, if_neg (by omega)]
    · rw [if_neg h2, if_pos (by omega)]
theorem bo01 {α : Type} (c : Prop) [Decidable c] (k : Option α) : gk_bo (if c then 1 else 0) k = k := by
  unfold gk_bo
  split <;> simp
theorem bd1_some {α γ : Type} (a : α) (k : α → Option γ) : gk_bd1 (some a) k = k a := rfl
theorem bd2_some {α β γ : Type} (a : α) (b : β) (k : α → β → Option γ) : gk_bd2 (some (a, b)) k = k a b := rfl
theorem bd3_some {α β δ γ : Type} (a : α) (b : β) (d : δ) (k : α → β → δ → Option γ) : gk_bd3 (some (a, b, d)) k = k a b d := rfl
theorem bd4_some {α β δ ε γ : Type} (a : α) (b : β) (d : δ) (e : ε) (k : α → β → δ → ε → Option γ) : gk_bd4 (some (a, b, d, e)) k = k a b d e := rfl
theorem ix_ok {α : Type} {j n : Nat} (h : j < n) (hn : n < 2 ^ 31) (k : Option α) : gk_ix (nI j) n k = k := by
  unfold gk_ix
  rw [nI_toInt (by omega), if_pos (by omega)]
theorem v6_fam (x : Int32) : m_X6_isFamily x = some (if fok 6 x then 1 else 0) := by
  unfold m_X6_isFamily m_X6_isFamily_0
  rw [v_isIn, bd1_some, bo01]
  have e : ((0 : Int64).toInt ≤ x.toInt64.toInt ∧ x.toInt64.toInt ≤ (5 : Int64).toInt) ↔ fok 6 x = true := by
    rw [fok_iff, Int32.toInt_toInt64, show (0 : Int64).toInt = 0 from by decide, show (5 : Int64).toInt = 5 from by decide]
    omega
  simp only [e]
theorem v5_fam (x : Int32) : m_X5_noFamily x = some (if fok 6 x then 0 else 1) := by
  unfold m_X5_noFamily m_X5_noFamily_0 
  simp only [Int32.lt_iff_toInt_lt, i0, show (6 : Int32).toInt = 6 from by decide]
  by_cases h1 : x.toInt < 0
  · rw [if_pos h1, if_neg (by rw [fok_iff]; omega)]
  · rw [if_neg h1]
    by_cases h2 : x.toInt < 6
    · rw [if_pos h2, if_pos (by rw [fok_iff]; omega)]
    · rw [if_neg h2, if_neg (by rw [fok_iff]; omega)]
theorem v6_row (x : Int32) : m_X6_isRow x = some (if fok 4 x then 1 else 0) := by
  unfold m_X6_isRow m_X6_isRow_0
  rw [v_isIn, bd1_some, bo01]
  have e : ((0 : Int64).toInt ≤ x.toInt64.toInt ∧ x.toInt64.toInt ≤ (3 : Int64).toInt) ↔ fok 4 x = true := by
    rw [fok_iff, Int32.toInt_toInt64, show (0 : Int64).toInt = 0 from by decide, show (3 : Int64).toInt = 3 from by decide]
    omega
  simp only [e]
theorem v5_row (x : Int32) : m_X5_noRow x = some (if fok 4 x then 0 else 1) := by
  unfold m_X5_noRow m_X5_noRow_0 
  simp only [Int32.lt_iff_toInt_lt, i0, show (4 : Int32).toInt = 4 from by decide]
  by_cases h1 : x.toInt < 0
  · rw [if_pos h1, if_neg (by rw [fok_iff]; omega)]
  · rw [if_neg h1]
    by_cases h2 : x.toInt < 4
    · rw [if_pos h2, if_pos (by rw [fok_iff]; omega)]
    · rw [if_neg h2, if_neg (by rw [fok_iff]; omega)]
theorem pow6 {n : Nat} (h : n ≤ 6) : 2 ^ n ≤ 64 := by
  have := two_le h
  omega
theorem v6_set {n : Nat} (hn : n ≤ 6) (x : Int32) : m_X6_isSet (nI n) x = some (if fok (2 ^ n) x then 1 else 0) := by
  unfold m_X6_isSet m_X6_isSet_0
  rw [v_isIn, bd1_some, bo01]
  have h6 := pow6 hn
  have hp : 0 < 2 ^ n := Nat.two_pow_pos n
  have e : ((0 : Int64).toInt ≤ x.toInt64.toInt ∧ x.toInt64.toInt ≤ (((1 : Int32) <<< (nI n &&& 31)) - 1).toInt64.toInt) ↔ fok (2 ^ n) x = true := by
    rw [fok_iff, shl1 (by omega), show (1 : Int32) = nI 1 from rfl, pk_sub (by omega), Int32.toInt_toInt64, Int32.toInt_toInt64, nI_toInt (by omega), show (0 : Int64).toInt = 0 from by decide]
    omega
  simp only [e]
theorem v5_set {n : Nat} (hn : n ≤ 6) (x : Int32) : m_X5_noSet (nI n) x = some (if fok (2 ^ n) x then 0 else 1) := by
  unfold m_X5_noSet m_X5_noSet_0
  have h6 := pow6 hn
  simp only [shl1 (show n < 31 by omega), Int32.lt_iff_toInt_lt, i0, nI_toInt (show 2 ^ n < 2 ^ 31 by omega)]
  by_cases h1 : x.toInt < 0
  · rw [if_pos h1, if_neg (by rw [fok_iff]; omega)]
  · rw [if_neg h1]
    by_cases h2 : x.toInt < ((2 ^ n : Nat) : Int)
    · rw [if_pos h2, if_pos (by rw [fok_iff]; omega)]
    · rw [if_neg h2, if_neg (by rw [fok_iff]; omega)]
theorem v6_pt {n : Nat} (h0 : 1 ≤ n) (hn : n ≤ 6) (x : Int32) : m_X6_isPoint (nI n) x = some (if fok n x then 1 else 0) := by
  unfold m_X6_isPoint m_X6_isPoint_0
  rw [v_isIn, bd1_some, bo01]
  have e : ((0 : Int64).toInt ≤ x.toInt64.toInt ∧ x.toInt64.toInt ≤ (nI n - 1).toInt64.toInt) ↔ fok n x = true := by
    rw [fok_iff, show (1 : Int32) = nI 1 from rfl, pk_sub (by omega), Int32.toInt_toInt64, Int32.toInt_toInt64, nI_toInt (by omega), show (0 : Int64).toInt = 0 from by decide]
    omega
  simp only [e]
theorem v5_pt {n : Nat} (hn : n ≤ 6) (x : Int32) : m_X5_noPoint (nI n) x = some (if fok n x then 0 else 1) := by
  unfold m_X5_noPoint m_X5_noPoint_0 
  simp only [Int32.lt_iff_toInt_lt, i0, nI_toInt (show n < 2 ^ 31 by omega)]
  by_cases h1 : x.toInt < 0
  · rw [if_pos h1, if_neg (by rw [fok_iff]; omega)]
  · rw [if_neg h1]
    by_cases h2 : x.toInt < (n : Int)
    · rw [if_pos h2, if_pos (by rw [fok_iff]; omega)]
    · rw [if_neg h2, if_neg (by rw [fok_iff]; omega)]
/-! members -/
theorem v_holds {w s : Nat} (hw : w < 2 ^ 64) (hs : s < 64) : m_X0_holds (lN w) (nI s) = some (if w.testBit s then 1 else 0) := by
  unfold m_X0_holds m_X0_holds_0
  rw [bitU hw hs]
  simp only [cmp0]
  cases w.testBit s
  · rfl
  · rfl
theorem v_isMember {M : Nat → Int64} {f w s : Nat} (hf : f < 6) (hM : M f = lN w) (hw : w < 2 ^ 64) (hs : s < 64) : m_X6_isMember M (nI f) (nI s) = some (if w.testBit s then 1 else 0) := by
  unfold m_X6_isMember m_X6_isMember_0
  rw [ix_ok hf (by omega), nI_clamp (by omega), hM, bitS hw hs]
  simp only [cmp0]
  cases w.testBit s
  · rfl
  · rfl
theorem v_ones : ∀ s, s < 64 → m_X6_ones (nI s) = some (nI (fb_ct s.testBit 6)) := by decide +kernel
theorem v_bc : ∀ s, s < 128 → m_J6_bitCount_0f7a4 (nI s) = some (nI (fb_ct s.testBit 7)) := by decide +kernel
theorem ct6_7 : ∀ s, s < 64 → fb_ct s.testBit 7 = fb_ct s.testBit 6 := by decide +kernel
theorem v_size {w : Nat} (hw : w < 2 ^ 64) : m_X6_size (lN w) = some (nI (fb_ct w.testBit 64)) := by
  unfold m_X6_size m_X6_size_0
  have hl : gk_lp (fun z => m_X6_size_B5 (lN w) z.1 z.2) gk_fu ((0 : Int32), (0 : Int32)) = some (nI (fb_ct w.testBit 64)) := by
    refine ru (fun i => (nI (fb_ct w.testBit i), nI i)) 64 rfl (by omega) (fun i hi => ?_) ?_
    · show m_X6_size_B5 (lN w) (nI (fb_ct w.testBit i)) (nI i) = _
      unfold m_X6_size_B5
      rw [if_neg (gel 64 hi), bitS hw hi, lN_i, nI_add, nI_1, fb_ct_succ]
    · show m_X6_size_B5 (lN w) (nI (fb_ct w.testBit 64)) (nI 64) = _
      unfold m_X6_size_B5
      rw [if_pos (lel 64 (by omega))]
  rw [hl]
  rfl
/-- the families: n points, their bits, their kinds -/
def VF (n : Nat) (M : Nat → Int64) (K : Nat → Int32) : Prop := ∀ f, f < 6 → (∃ w, w < 2 ^ 2 ^ n ∧ M f = lN w) ∧ -1 ≤ (K f).toInt ∧ (K f).toInt ≤ 5
theorem pp6 {n : Nat} (h : n ≤ 6) : 2 ^ 2 ^ n ≤ 2 ^ 64 := two_le (pow6 h)
theorem VF.set {n : Nat} {M : Nat → Int64} {K : Nat → Int32} (h : VF n M K) {j w : Nat} {k : Int32} (hw : w < 2 ^ 2 ^ n) (hk : -1 ≤ k.toInt ∧ k.toInt ≤ 5) : VF n (vp_updL M j (lN w)) (upd K j k) := by
  intro f hf
  by_cases e : f = j
  · subst e
    rw [pk_uLs, pk_us]
    exact ⟨⟨w, hw, rfl⟩, hk⟩
  · rw [pk_uLn e, pk_un e]
    exact h f hf
theorem v5_become {n : Nat} {M : Nat → Int64} {K : Nat → Int32} {j w : Nat} {k : Int32} (hj : j < 6) (hw : w < 2 ^ 64) : m_X1_become M K (nI j) (lN w) k = some (nI (fb_ct w.testBit 64), vp_updL M j (lN w), upd K j k) := by
  unfold m_X1_become m_X1_become_0
  rw [ix_ok hj (by omega), ix_ok hj (by omega), popL hw, bd1_some, nI_clamp (by omega)]
theorem v6_becomes {n : Nat} {M : Nat → Int64} {K : Nat → Int32} {j w : Nat} {k : Int32} (hj : j < 6) (hw : w < 2 ^ 64) : m_X6_becomes M K (nI j) k (lN w) = some (nI (fb_ct w.testBit 64), vp_updL M j (lN w), upd K j k) := by
  unfold m_X6_becomes m_X6_becomes_0
  rw [ix_ok hj (by omega), ix_ok hj (by omega), v_size hw, bd1_some, nI_clamp (by omega)]
theorem v5_missing {K : Nat → Int32} {j : Nat} (hj : j < 6) : m_X1_isMissing K (nI j) = some (if K j = -1 then 1 else 0) := by
  unfold m_X1_isMissing m_X1_isMissing_0
  rw [ix_ok hj (by omega), nI_clamp (by omega)]
  split <;> rfl
