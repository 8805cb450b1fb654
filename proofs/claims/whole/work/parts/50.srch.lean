/-! ===== searching loops; the lowest bit ===== -/
def ffO (P : Nat → Bool) : Nat → Option Nat
  | 0 => none
  | n + 1 => match ffO P n with
    | some i => some i
    | none => if P n then some n else none
theorem ffO_ok (P : Nat → Bool) : ∀ n, match ffO P n with
    | none => ∀ j, j < n → P j = false
    | some i => i < n ∧ P i = true ∧ ∀ j, j < i → P j = false
  | 0 => by simp [ffO]
  | n + 1 => by
    have ih := ffO_ok P n
    unfold ffO
    cases e : ffO P n with
    | some i => rw [e] at ih; exact ⟨by have := ih.1; omega, ih.2⟩
    | none =>
      rw [e] at ih
      by_cases h : P n = true
      · simp only [h, if_true]
        exact ⟨by omega, trivial, ih⟩
      · simp only [h]
        intro j hj
        by_cases q : j = n
        · subst q; simpa using h
        · exact ih j (by omega)
theorem ffO_some {P : Nat → Bool} {n i : Nat} (h : ffO P n = some i) : i < n ∧ P i = true ∧ ∀ j, j < i → P j = false := by
  have := ffO_ok P n
  rw [h] at this
  exact this
theorem ffO_none {P : Nat → Bool} {n : Nat} (h : ffO P n = none) : ∀ j, j < n → P j = false := by
  have := ffO_ok P n
  rw [h] at this
  exact this
theorem ffO_is {P : Nat → Bool} {n i : Nat} (h1 : i < n) (h2 : P i = true) (h3 : ∀ j, j < i → P j = false) : ffO P n = some i := by
  cases e : ffO P n with
  | none => rw [ffO_none e i h1] at h2; cases h2
  | some k =>
    obtain ⟨a, b, c⟩ := ffO_some e
    congr 1
    rcases Nat.lt_trichotomy k i with q | q | q
    · rw [h3 k q] at b; cases b
    · exact q
    · rw [c i q] at h2; cases h2
theorem ffO_no {P : Nat → Bool} {n : Nat} (h : ∀ j, j < n → P j = false) : ffO P n = none := by
  cases e : ffO P n with
  | none => rfl
  | some k =>
    obtain ⟨a, b, c⟩ := ffO_some e
    rw [h k a] at b; cases b
theorem ffO_ext {P Q : Nat → Bool} {n m : Nat} (hm : n ≤ m) (h : ∀ j, j < m → P j = (decide (j < n) && Q j)) : ffO P m = ffO Q n := by
  cases e : ffO Q n with
  | none =>
    refine ffO_no (fun j hj => ?_)
    rw [h j hj]
    by_cases q : j < n
    · rw [ffO_none e j q, Bool.and_false]
    · simp [q]
  | some k =>
    obtain ⟨a, b, c⟩ := ffO_some e
    refine ffO_is (by omega) ?_ (fun j hj => ?_)
    · rw [h k (by omega)]; simp [a, b]
    · rw [h j (by omega), c j hj, Bool.and_false]
theorem ffO_cong {P Q : Nat → Bool} {n : Nat} (h : ∀ j, j < n → P j = Q j) : ffO P n = ffO Q n := ffO_ext (Nat.le_refl n) (fun j hj => by simp [hj, h j hj])
theorem ruS {S R : Type} {f : S → Option (S ⊕ R)} (σ : Nat → S) (P : Nat → Bool) (g : Nat → R) (n : Nat) {r : R} {s0 : S} (h0 : s0 = σ 0) (hn : n < 800) (hs : ∀ i, i < n → (∀ j, j < i → P j = false) → P i = false → f (σ i) = some (.inl (σ (i + 1)))) (hr : ∀ i, i < n → (∀ j, j < i → P j = false) → P i = true → f (σ i) = some (.inr (g i))) (he : (∀ j, j < n → P j = false) → f (σ n) = some (.inr r)) : gk_lp f gk_fu s0 = some (match ffO P n with
    | some i => g i
    | none => r) := by
  rw [h0]
  cases e : ffO P n with
  | none =>
    have hz := ffO_none e
    exact ru_from σ (fun i hi => hs i hi (fun j hj => hz j (by omega)) (hz i hi)) (he hz) n 0 gk_fu (by omega) hn
  | some k =>
    obtain ⟨a, b, c⟩ := ffO_some e
    exact ru_from σ (fun i hi => hs i (by omega) (fun j hj => c j (by omega)) (c i hi)) (hr k a c b) k 0 gk_fu (by omega) (by show k < 800; omega)
theorem ruB {S ρ γ : Type} {f : S → Option (S ⊕ (ρ ⊕ Unit))} (σ : Nat → S) (P : Nat → Bool) (g : Nat → ρ) (n : Nat) {s0 : S} {kr : ρ → Option γ} {k : Option γ} (h0 : s0 = σ 0) (hn : n < 800) (hs : ∀ i, i < n → (∀ j, j < i → P j = false) → P i = false → f (σ i) = some (.inl (σ (i + 1)))) (hr : ∀ i, i < n → (∀ j, j < i → P j = false) → P i = true → f (σ i) = some (.inr (.inl (g i)))) (he : (∀ j, j < n → P j = false) → f (σ n) = some (.inr (.inr ()))) : gk_bs0 (gk_lp f gk_fu s0) kr k = match ffO P n with
    | some i => kr (g i)
    | none => k := by
  rw [ruS σ P (fun i => Sum.inl (g i)) n h0 hn hs hr he]
  cases ffO P n <;> rfl
/-! the lowest bit of a long -/
theorem low_form : ∀ w, w ≠ 0 → ∃ i k, w = 2 ^ i * (2 * k + 1) := by
  intro w
  induction w using Nat.strongRecOn with
  | ind w ih =>
    intro h
    by_cases q : w % 2 = 1
    · exact ⟨0, w / 2, by omega⟩
    · obtain ⟨i, k, e⟩ := ih (w / 2) (by omega) (by omega)
      refine ⟨i + 1, k, ?_⟩
      rw [Nat.pow_succ, Nat.mul_comm (2 ^ i) 2, Nat.mul_assoc, ← e]
      omega
theorem low_bits {w : Nat} (h : w ≠ 0) : ∃ i, w.testBit i = true ∧ (∀ j, j < i → w.testBit j = false) ∧ ∀ s, (w - 1).testBit s = (decide (s < i) || (decide (i < s) && w.testBit s)) := by
  obtain ⟨i, k, e⟩ := low_form w h
  have hb : ∀ s, w.testBit s = (decide (i ≤ s) && (2 * k + 1).testBit (s - i)) := fun s => by
    rw [e, Nat.mul_comm, Nat.testBit_mul_two_pow]
  have hp : 0 < 2 ^ i := Nat.two_pow_pos i
  have e2 : w - 1 = 2 ^ i * (2 * k) + (2 ^ i - 1) := by
    rw [e, Nat.mul_add]; omega
  refine ⟨i, ?_, fun j hj => ?_, fun s => ?_⟩
  · rw [hb, Nat.sub_self]
    simp [Nat.testBit_zero]
  · rw [hb]
    have : ¬ i ≤ j := by omega
    simp [this]
  · rw [e2, Nat.testBit_two_pow_mul_add _ (by omega), hb]
    by_cases q : s < i
    · rw [if_pos q, Nat.testBit_two_pow_sub_one]; simp [q]
    · rw [if_neg q]
      by_cases q2 : s = i
      · subst q2; simp [Nat.testBit_zero]
      · have q3 : i < s := by omega
        obtain ⟨d, hd⟩ : ∃ d, s - i = d + 1 := ⟨s - i - 1, by omega⟩
        have q4 : i ≤ s := by omega
        simp only [q, q3, q4, decide_true, decide_false, Bool.true_and, Bool.false_or, hd, Nat.testBit_add_one]
        congr 1
        omega
theorem lN_neg {w : Nat} (h : w ≠ 0) (hw : w < 2 ^ 64) : -(lN w) = lN (w - 1) ^^^ (-1 : Int64) := by
  rw [lN_m1, fb_xorL]
  apply wb_inj
  rw [Int64.toBitVec_neg, wb_tb, wb_tb]
  apply BitVec.eq_of_toNat_eq
  have hx : w - 1 ^^^ (2 ^ 64 - 1) = 2 ^ 64 - w := by
    have h1 : 2 ^ 64 - w = 2 ^ 64 - ((w - 1) + 1) := by omega
    rw [h1]
    apply Nat.eq_of_testBit_eq
    intro s
    rw [Nat.testBit_xor, Nat.testBit_two_pow_sub_one, Nat.testBit_two_pow_sub_succ (by omega)]
    by_cases q : s < 64
    · simp [q]
    · have : (w - 1).testBit s = false := tb_hi (n := 64) (by omega) (by omega)
      simp [q, this]
  rw [hx, BitVec.toNat_neg, BitVec.toNat_ofNat, BitVec.toNat_ofNat, Nat.mod_eq_of_lt hw]
theorem lN_pred {w : Nat} (h : w ≠ 0) : lN w - 1 = lN (w - 1) := by
  obtain ⟨k, rfl⟩ : ∃ k, w = k + 1 := ⟨w - 1, by omega⟩
  rw [Nat.add_sub_cancel]
  apply wb_inj
  rw [Int64.toBitVec_sub, wb_tb, wb_tb, show (1 : Int64).toBitVec = BitVec.ofNat 64 1 from rfl, BitVec.ofNat_add]
  exact BitVec.add_sub_cancel _ _
theorem ct_low : ∀ i, i ≤ 64 → fb_ct (2 ^ i - 1).testBit 64 = i := by decide +kernel
theorem v_first {w i : Nat} (hw : w < 2 ^ 64) (h : ffO w.testBit 64 = some i) : m_X0_first (lN w) = some (nI i) := by
  obtain ⟨a, b, c⟩ := ffO_some h
  have hne : w ≠ 0 := fun q => by rw [q, Nat.zero_testBit] at b; cases b
  obtain ⟨i', b1, b2, b3⟩ := low_bits hne
  have ei : i' = i := by
    rcases Nat.lt_trichotomy i' i with q | q | q
    · rw [c i' q] at b1; cases b1
    · exact q
    · rw [b2 i q] at b; cases b
  subst ei
  unfold m_X0_first m_X0_first_0
  have e1 : lN w &&& (-(lN w)) = lN (2 ^ i') := by
    rw [lN_neg hne hw, lN_m1, fb_xorL, fb_andL]
    refine lN_mod64 (Nat.pow_lt_pow_right (by omega) a) (fun s hs => ?_)
    rw [Nat.testBit_and, Nat.testBit_xor, Nat.testBit_two_pow_sub_one, b3, Nat.testBit_two_pow]
    rcases Nat.lt_trichotomy s i' with q | q | q
    · rw [c s q]
      have : ¬ i' = s := by omega
      simp [this]
    · subst q; simp [hs, b1]
    · have q1 : ¬ s < i' := by omega
      have q2 : ¬ i' = s := by omega
      simp [q1, q2, hs, q]
  have hp : 2 ^ i' < 2 ^ 64 := Nat.pow_lt_pow_right (by omega) a
  rw [e1, lN_pred (by have := Nat.two_pow_pos i'; omega), popL (by omega), ct_low i' (by omega)]
  rfl
theorem v_drop {w : Nat} (hw : w < 2 ^ 64) (h : w ≠ 0) : lN w &&& (lN w - 1) = lN (w &&& (w - 1)) := by
  rw [lN_pred h, fb_andL]
theorem drop_bit {w i : Nat} (h1 : w.testBit i = true) (h2 : ∀ j, j < i → w.testBit j = false) (s : Nat) : (w &&& (w - 1)).testBit s = (decide (i < s) && w.testBit s) := by
  have hne : w ≠ 0 := fun q => by rw [q, Nat.zero_testBit] at h1; cases h1
  obtain ⟨i', b1, b2, b3⟩ := low_bits hne
  have ei : i' = i := by
    rcases Nat.lt_trichotomy i' i with q | q | q
    · rw [h2 i' q] at b1; cases b1
    · exact q
    · rw [b2 i q] at h1; cases h1
  subst ei
  rw [Nat.testBit_and, b3]
  rcases Nat.lt_trichotomy s i' with q | q | q
  · rw [h2 s q]; simp
  · subst q; simp
  · have q1 : ¬ s < i' := by omega
    simp [q, q1]
/-! ===== member ===== -/
/-- the members from the k-th on -/
def frm (w k : Nat) : Nat := bsn (fun s => w.testBit s && decide (k ≤ fb_ct w.testBit s)) 64
theorem frm_lt (w k : Nat) : frm w k < 2 ^ 64 := bsn_lt _ _
theorem frm_bit {w k s : Nat} (hs : s < 64) : (frm w k).testBit s = (w.testBit s && decide (k ≤ fb_ct w.testBit s)) := by
  rw [frm, bsn_bit]; simp [hs]
theorem frm_0 {w : Nat} (hw : w < 2 ^ 64) : frm w 0 = w := tb_ext (frm_lt _ _) hw (fun s hs => by rw [frm_bit hs]; simp)
theorem frm_first {w k i : Nat} (hi : i < 64) (h1 : w.testBit i = true) (h2 : fb_ct w.testBit i = k) : (frm w k).testBit i = true ∧ ∀ j, j < i → (frm w k).testBit j = false := by
  refine ⟨by rw [frm_bit hi]; simp [h1, h2], fun j hj => ?_⟩
  rw [frm_bit (by omega)]
  cases hb : w.testBit j with
  | false => rfl
  | true =>
    have := fb_ct_mono w.testBit (show j + 1 ≤ i by omega)
    rw [fb_ct_succ, hb] at this
    have : ¬ k ≤ fb_ct w.testBit j := by simp at this; omega
    simp [this]
theorem frm_s {w k : Nat} (hk : k < fb_ct w.testBit 64) : lN (frm w k) &&& (lN (frm w k) - 1) = lN (frm w (k + 1)) := by
  obtain ⟨i, hi, h1, h2⟩ := fb_ct_kth hk
  obtain ⟨a, b⟩ := frm_first hi h1 h2
  have hne : frm w k ≠ 0 := fun q => by rw [q, Nat.zero_testBit] at a; cases a
  rw [v_drop (frm_lt _ _) hne]
  refine lN_mod64 (frm_lt _ _) (fun s hs => ?_)
  rw [drop_bit a b, frm_bit hs, frm_bit hs]
  cases hb : w.testBit s with
  | false => simp
  | true =>
    by_cases q : i < s
    · have := fb_ct_mono w.testBit (show i + 1 ≤ s by omega)
      rw [fb_ct_succ, h1] at this
      simp at this
      have q1 : k ≤ fb_ct w.testBit s := by omega
      have q2 : k + 1 ≤ fb_ct w.testBit s := by omega
      simp [q, q1, q2]
    · have := fb_ct_mono w.testBit (show s ≤ i by omega)
      have q2 : ¬ k + 1 ≤ fb_ct w.testBit s := by omega
      simp [q, q2]
theorem v_atPlace {w k i : Nat} (hw : w < 2 ^ 64) (hi : i < 64) (h1 : w.testBit i = true) (h2 : fb_ct w.testBit i = k) : m_X0_atPlace (lN w) (nI k) = some (nI i) := by
  have hk : k < fb_ct w.testBit 64 := by
    have := fb_ct_mono w.testBit (show i + 1 ≤ 64 by omega)
    rw [fb_ct_succ, h1] at this
    simp at this
    omega
  have hk64 : k < 64 := Nat.lt_of_lt_of_le hk (fb_ct_le _ _)
  unfold m_X0_atPlace m_X0_atPlace_0
  have hl : gk_lp (fun z => m_X0_atPlace_B5 (nI k) z.1 z.2) gk_fu (lN w, (0 : Int32)) = some (lN (frm w k)) := by
    refine ru (fun j => (lN (frm w j), nI j)) k ?_ (by omega) (fun j hj => ?_) ?_
    · show _ = (lN (frm w 0), nI 0)
      rw [frm_0 hw]; rfl
    · show m_X0_atPlace_B5 (nI k) (lN (frm w j)) (nI j) = _
      unfold m_X0_atPlace_B5
      rw [if_neg (nI_ge hj (by omega)), frm_s (by omega), nI_1]
    · show m_X0_atPlace_B5 (nI k) (lN (frm w k)) (nI k) = _
      unfold m_X0_atPlace_B5
      rw [if_pos (nI_le (Nat.le_refl _) (by omega))]
  obtain ⟨a, b⟩ := frm_first hi h1 h2
  rw [hl, bd1_some, v_first (frm_lt _ _) (ffO_is hi a b), bd1_some]
theorem o_member {n : Nat} {M : Nat → Int64} {K : Nat → Int32} (hn : n ≤ 6) (hV : VF n M K) (x1 x2 : Int32) : ∃ r, m_X5_member M K x1 x2 = some r ∧ m_X6_member (nI n) M K x1 x2 = some r := by
  have h6 := pow6 hn
  unfold m_X5_member m_X5_member_0 m_X6_member m_X6_member_0
  simp only [v5_fam, v6_fam, bd1_some, q01, q10]
  by_cases h1 : fok 6 x1 = true
  case neg => exact ⟨-2, by simp [h1], by simp [h1]⟩
  by_cases h2 : (-1 : Int32) ≤ x2
  case neg => exact ⟨-2, by simp [h1, h2], by simp [h1, h2]⟩
  obtain ⟨j, hj, rfl⟩ := fok_ex (by omega) h1
  obtain ⟨⟨w, hw, hM⟩, -⟩ := hV j hj
  have hw64 : w < 2 ^ 64 := Nat.lt_of_lt_of_le hw (pp6 hn)
  simp only [h1, h2, if_true, not_true, if_false, v5_missing hj, bd1_some, q10, ix_ok hj (show 6 < 2 ^ 31 by omega), nI_clamp (show j < 2 ^ 31 by omega), hM, popL hw64, v_size hw64]
  by_cases hk : K j = -1
  · exact ⟨-11, by simp [hk], by simp [hk]⟩
  simp only [hk, not_false_eq_true, if_true, if_false]
  by_cases h3 : x2 = -1
  · exact ⟨_, by simp only [h3, if_true]; rfl, by simp only [h3, if_true]⟩
  simp only [h3, if_false]
  have h4 : 0 ≤ x2.toInt := by
    rw [Int32.le_iff_toInt_le] at h2
    have e : (-1 : Int32).toInt = -1 := by decide
    rw [e] at h2
    have : x2.toInt ≠ -1 := fun q => h3 (Int32.toInt_inj.mp (by rw [q, e]))
    omega
  rw [toNat_nI h4]
  generalize hk2 : x2.toInt.toNat = k
  have hk31 : k < 2 ^ 31 := by have := (fb_rng x2).2; omega
  have hc := fb_ct_le w.testBit 64
  have hl : gk_bs0 (gk_lp (fun z => m_X6_member_B49 (nI n) M K (nI j) (nI k) z.1 z.2) gk_fu ((0 : Int32), (0 : Int32))) (fun r => some r) (some (-12 : Int32)) = match ffO (fun s => w.testBit s && decide (fb_ct w.testBit s = k)) (2 ^ n) with
      | some i => some (nI i)
      | none => some (-12 : Int32) := by
    refine ruB (fun i => (nI (fb_ct w.testBit i), nI i)) (fun s => w.testBit s && decide (fb_ct w.testBit s = k)) (fun i => nI i) (2 ^ n) rfl (by omega) (fun i hi _ hp => ?_) (fun i hi _ hp => ?_) (fun _ => ?_)
    · show m_X6_member_B49 (nI n) M K (nI j) (nI k) (nI (fb_ct w.testBit i)) (nI i) = some (Sum.inl (nI (fb_ct w.testBit (i + 1)), nI (i + 1)))
      unfold m_X6_member_B49
      rw [shl1 (by omega), if_neg (nI_ge hi (by omega)), v_isMember hj hM hw64 (by omega), bd1_some, fb_ct_succ, nI_1]
      simp only [q10]
      cases hb : w.testBit i with
      | false => simp
      | true =>
        rw [hb] at hp
        have : ¬ fb_ct w.testBit i = k := by simpa using hp
        have := fb_ct_le w.testBit i
        simp only [not_true, if_false, nI_eq (show fb_ct w.testBit i < 2 ^ 31 by omega) hk31, *, if_true, nI_1]
    · show m_X6_member_B49 (nI n) M K (nI j) (nI k) (nI (fb_ct w.testBit i)) (nI i) = _
      unfold m_X6_member_B49
      rw [shl1 (by omega), if_neg (nI_ge hi (by omega)), v_isMember hj hM hw64 (by omega), bd1_some]
      simp only [q10]
      obtain ⟨p1, p2⟩ : w.testBit i = true ∧ fb_ct w.testBit i = k := by simpa using hp
      rw [p1, p2]
      simp
    · show m_X6_member_B49 (nI n) M K (nI j) (nI k) _ (nI (2 ^ n)) = _
      unfold m_X6_member_B49
      rw [shl1 (by omega), if_pos (nI_le (Nat.le_refl _) (by omega))]
  rw [hl]
  have hlt : nI k < nI (fb_ct w.testBit 64) ↔ k < fb_ct w.testBit 64 := by
    rw [Int32.lt_iff_toInt_lt, nI_toInt hk31, nI_toInt (by omega)]; omega
  by_cases h5 : k < fb_ct w.testBit 64
  · obtain ⟨i, hi, q1, q2⟩ := fb_ct_kth h5
    have hin : i < 2 ^ n := by
      apply Nat.lt_of_not_le
      intro q
      rw [tb_hi hw q] at q1; cases q1
    have e : ffO (fun s => w.testBit s && decide (fb_ct w.testBit s = k)) (2 ^ n) = some i := by
      refine ffO_is hin (by simp [q1, q2]) (fun s hs => ?_)
      cases hb : w.testBit s with
      | false => rfl
      | true =>
        have : ¬ fb_ct w.testBit s = k := fun q => by
          have := fb_ct_kth_one hb q1 (by rw [q, q2]); omega
        simp [this]
    rw [e]
    refine ⟨nI i, ?_, rfl⟩
    rw [if_pos (hlt.mpr h5), v_atPlace hw64 hi q1 q2, bd1_some]
  · have e : ffO (fun s => w.testBit s && decide (fb_ct w.testBit s = k)) (2 ^ n) = none := by
      refine ffO_no (fun s hs => ?_)
      cases hb : w.testBit s with
      | false => rfl
      | true =>
        have : ¬ fb_ct w.testBit s = k := fun q => by
          have := fb_ct_mono w.testBit (show s + 1 ≤ 64 by omega)
          rw [fb_ct_succ, hb] at this
          simp at this
          omega
        simp [this]
    rw [e]
    refine ⟨-12, ?_, rfl⟩
    rw [if_neg (fun q => h5 (hlt.mp q))]
