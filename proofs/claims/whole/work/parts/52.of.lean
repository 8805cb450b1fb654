/-! ===== of: sizes, loops ===== -/
/-- c of the last place of P -/
def lcF (P : Nat → Bool) (c : Nat → Nat) : Nat → Option Nat
  | 0 => none
  | i + 1 => if P i then some (c i) else lcF P c i
theorem lcF_ok (P : Nat → Bool) (c : Nat → Nat) : ∀ k, match lcF P c k with
    | none => ∀ s, s < k → P s = false
    | some m => ∃ s, s < k ∧ P s = true ∧ c s = m
  | 0 => by simp [lcF]
  | k + 1 => by
    have ih := lcF_ok P c k
    unfold lcF
    by_cases hp : P k = true
    · rw [if_pos hp]; exact ⟨k, by omega, hp, rfl⟩
    · rw [if_neg hp]
      cases e : lcF P c k with
      | none =>
        rw [e] at ih
        intro s hs
        by_cases q : s = k
        · subst q; simpa using hp
        · exact ih s (by omega)
      | some m =>
        rw [e] at ih
        obtain ⟨s, a, b⟩ := ih
        exact ⟨s, by omega, b⟩
def cfl (P : Nat → Bool) (c : Nat → Nat) (i : Nat) : Bool := P i && (match lcF P c i with
  | none => false
  | some m => decide (c i ≠ m))
theorem cfl_all {P : Nat → Bool} {c : Nat → Nat} {k : Nat} : (∀ i, i < k → cfl P c i = false) ↔ ∀ s t, s < k → t < k → P s = true → P t = true → c s = c t := by
  constructor
  · intro h
    have key : ∀ i, i ≤ k → ∀ s, s < i → P s = true → lcF P c i = some (c s) := by
      intro i
      induction i with
      | zero => intro _ s hs; omega
      | succ i ih =>
        intro hi s hs hp
        unfold lcF
        by_cases q : P i = true
        · rw [if_pos q]
          by_cases e : s = i
          · rw [e]
          · have h1 := ih (by omega) s (by omega) hp
            have h2 := h i (by omega)
            unfold cfl at h2
            rw [q, h1] at h2
            simp at h2
            rw [h2]
        · rw [if_neg q]
          by_cases e : s = i
          · subst e; exact absurd hp q
          · exact ih (by omega) s (by omega) hp
    intro s t hs ht ps pt
    have a := key k (Nat.le_refl k) s hs ps
    have b := key k (Nat.le_refl k) t ht pt
    rw [a] at b
    exact Option.some.inj b
  · intro h i hi
    unfold cfl
    cases hp : P i with
    | false => rfl
    | true =>
      have := lcF_ok P c i
      cases e : lcF P c i with
      | none => rfl
      | some m =>
        rw [e] at this
        obtain ⟨s, a, b, d⟩ := this
        have := h i s hi (by omega) hp b
        simp [this, d]
def csz (ev : Bool) (s : Nat) : Nat := if ev then fb_ct s.testBit 6 % 2 else fb_ct s.testBit 6
theorem csz_le (ev : Bool) (s : Nat) : csz ev s ≤ 6 := by
  have := ct6_le s
  unfold csz
  split <;> omega
theorem v6_areSizes {n w j : Nat} {M : Nat → Int64} (ev : Bool) (hn : n ≤ 6) (hj : j < 6) (hM : M j = lN w) (hw : w < 2 ^ 64) : m_X6_areSizes (nI n) M (nI j) (if ev then 1 else 0) = some (if (ffO (cfl w.testBit (csz ev)) (2 ^ n)).isSome then 0 else 1) := by
  have h6 := pow6 hn
  unfold m_X6_areSizes m_X6_areSizes_0
  have step : ∀ i, i < 2 ^ n → m_X6_areSizes_B5 (nI n) M (nI j) (if ev then 1 else 0) (enc (lcF w.testBit (csz ev) i)) (nI i) = if w.testBit i then m_X6_areSizes_J48 (nI n) M (nI j) (if ev then 1 else 0) (enc (lcF w.testBit (csz ev) i)) (nI i) (nI (csz ev i)) else some (Sum.inl (enc (lcF w.testBit (csz ev) i), nI (i + 1))) := by
    intro i hi
    unfold m_X6_areSizes_B5
    rw [shl1 (by omega), if_neg (nI_ge hi (by omega)), v_isMember hj hM hw (by omega), bd1_some, v_ones i (by omega), bd1_some, bd1_some, nI_1]
    simp only [q10]
    have := ct6_le i
    cases w.testBit i with
    | false => simp
    | true =>
      cases ev with
      | false => simp [csz]
      | true =>
        have hr : nI (fb_ct i.testBit 6) - nI (fb_ct i.testBit 6) / (2 : Int32) * (2 : Int32) = nI (fb_ct i.testBit 6 % 2) := pk_rem (d := 2) (by omega) (by omega) (by omega)
        simp only [hr, gk_nz, csz, if_true, not_true, if_false]
        rfl
  have hl : gk_bs0 (gk_lp (fun z => m_X6_areSizes_B5 (nI n) M (nI j) (if ev then 1 else 0) z.1 z.2) gk_fu ((-1 : Int32), (0 : Int32))) (fun r => some r) (some (1 : Int32)) = match ffO (cfl w.testBit (csz ev)) (2 ^ n) with
      | some i => some (0 : Int32)
      | none => some (1 : Int32) := by
    refine ruB (fun i => (enc (lcF w.testBit (csz ev) i), nI i)) (cfl w.testBit (csz ev)) (fun _ => 0) (2 ^ n) rfl (by omega) (fun i hi _ hp => ?_) (fun i hi _ hp => ?_) (fun _ => ?_)
    · show m_X6_areSizes_B5 (nI n) M (nI j) (if ev then 1 else 0) (enc (lcF w.testBit (csz ev) i)) (nI i) = some (Sum.inl (enc (lcF w.testBit (csz ev) (i + 1)), nI (i + 1)))
      rw [step i hi, lcF]
      have c1 := csz_le ev i
      unfold cfl at hp
      cases hb : w.testBit i with
      | false => simp
      | true =>
        rw [hb, Bool.true_and] at hp
        rw [if_pos rfl, if_pos rfl]
        unfold m_X6_areSizes_J48
        rw [nI_1]
        cases e : lcF w.testBit (csz ev) i with
        | none => rfl
        | some m =>
          rw [e] at hp
          have hp' : csz ev i = m := by simpa using hp
          show (if nI m = -1 then _ else if nI (csz ev i) = nI m then _ else _) = _
          rw [hp', if_pos rfl, if_neg (nI_ne (by omega))]
          rfl
    · show m_X6_areSizes_B5 (nI n) M (nI j) (if ev then 1 else 0) (enc (lcF w.testBit (csz ev) i)) (nI i) = _
      rw [step i hi]
      have c1 := csz_le ev i
      unfold cfl at hp
      rw [Bool.and_eq_true] at hp
      rw [if_pos hp.1]
      have hp2 := hp.2
      have ho := lcF_ok w.testBit (csz ev) i
      unfold m_X6_areSizes_J48
      cases e : lcF w.testBit (csz ev) i with
      | none => rw [e] at hp2; cases hp2
      | some m =>
        rw [e] at hp2 ho
        obtain ⟨s, -, -, hs⟩ := ho
        have c2 := csz_le ev s
        have hp' : csz ev i ≠ m := by simpa using hp2
        show (if nI m = -1 then _ else if nI (csz ev i) = nI m then _ else _) = _
        rw [if_neg (nI_ne (by omega)), if_neg (fun q => hp' ((nI_eq (by omega) (by omega)).mp q))]
    · show m_X6_areSizes_B5 (nI n) M (nI j) (if ev then 1 else 0) _ (nI (2 ^ n)) = _
      unfold m_X6_areSizes_B5
      rw [shl1 (by omega), if_pos (nI_le (Nat.le_refl _) (by omega))]
  rw [hl]
  cases ffO (cfl w.testBit (csz ev)) (2 ^ n) <;> rfl
def evB (b : Nat) : Bool := (List.range 7).all (fun c => (List.range 7).all (fun d => !b.testBit c || !b.testBit d || (c % 2 == d % 2)))
theorem evB_ok : ∀ b, b < 128 → m_X0_isEven (nI b) = some (if evB b then 1 else 0) := by decide +kernel
theorem evB_iff (b : Nat) : evB b = true ↔ ∀ c, c < 7 → ∀ d, d < 7 → (b.testBit c = false ∨ b.testBit d = false ∨ c % 2 = d % 2) := by
  simp only [evB, List.all_eq_true, List.mem_range, Bool.or_eq_true, Bool.not_eq_true', beq_iff_eq, or_assoc]
theorem ev_ok (b : Nat) (hb : b < 128) : ((m_X0_isEven (nI b) = some 1 ∧ ∀ c, c < 7 → ∀ d, d < 7 → (b.testBit c = false ∨ b.testBit d = false ∨ c % 2 = d % 2)) ∨ (m_X0_isEven (nI b) = some 0 ∧ ¬ ∀ c, c < 7 → ∀ d, d < 7 → (b.testBit c = false ∨ b.testBit d = false ∨ c % 2 = d % 2))) := by
  rw [evB_ok b hb, ← evB_iff]
  cases evB b <;> simp
theorem one_ok : ∀ b, b < 128 → (fb_ct b.testBit 7 ≤ 1 ↔ ∀ c, c < 7 → ∀ d, d < 7 → (b.testBit c = false ∨ b.testBit d = false ∨ c = d)) := by decide +kernel
theorem or3 {a b : Bool} {q : Prop} : (a = false ∨ b = false ∨ q) ↔ (a = true → b = true → q) := by
  cases a <;> cases b <;> simp
theorem szs_in {n w c : Nat} (hn : n ≤ 6) (hw : w < 2 ^ 2 ^ n) : (szs w 64).testBit c = true ↔ ∃ s, s < 2 ^ n ∧ w.testBit s = true ∧ fb_ct s.testBit 6 = c := by
  have h6 := pow6 hn
  rw [szs_bit]
  constructor
  · rintro ⟨s, a, b, d⟩
    refine ⟨s, Nat.lt_of_not_le (fun q => ?_), b, d⟩
    rw [tb_hi hw q] at b; cases b
  · rintro ⟨s, a, b⟩
    exact ⟨s, by omega, b⟩
theorem cfl_szs {n w : Nat} (ev : Bool) (hn : n ≤ 6) (hw : w < 2 ^ 2 ^ n) : (ffO (cfl w.testBit (csz ev)) (2 ^ n)).isSome = false ↔ ∀ c, c < 7 → ∀ d, d < 7 → ((szs w 64).testBit c = false ∨ (szs w 64).testBit d = false ∨ (if ev then c % 2 = d % 2 else c = d)) := by
  have e : (ffO (cfl w.testBit (csz ev)) (2 ^ n)).isSome = false ↔ ∀ i, i < 2 ^ n → cfl w.testBit (csz ev) i = false := by
    constructor
    · intro h i hi
      cases q : cfl w.testBit (csz ev) i with
      | false => rfl
      | true =>
        have := ffO_isSome.mpr ⟨i, hi, q⟩
        rw [h] at this; cases this
    · intro h; rw [ffO_no h]; rfl
  rw [e, cfl_all]
  constructor
  · intro h c _ d _
    rw [or3]
    intro h1 h2
    obtain ⟨s, a1, a2, a3⟩ := (szs_in hn hw).mp h1
    obtain ⟨t, b1, b2, b3⟩ := (szs_in hn hw).mp h2
    have := h s t a1 b1 a2 b2
    unfold csz at this
    subst a3 b3
    cases ev <;> simpa using this
  · intro h s t a1 b1 a2 b2
    have := or3.mp (h _ (by have := ct6_le s; omega) _ (by have := ct6_le t; omega)) ((szs_in hn hw).mpr ⟨s, a1, a2, rfl⟩) ((szs_in hn hw).mpr ⟨t, b1, b2, rfl⟩)
    unfold csz
    cases ev <;> simpa using this
/-! loops -/
def lpP (co : Bool) (w i p : Nat) : Bool := decide (∀ s, s < i → w.testBit s = true → s.testBit p = co)
theorem lpP_s (co : Bool) (w i p : Nat) : lpP co w (i + 1) p = (lpP co w i p && (!w.testBit i || (i.testBit p == co))) := by
  unfold lpP
  rw [Bool.eq_iff_iff, Bool.and_eq_true, decide_eq_true_iff, decide_eq_true_iff, Nat.forall_lt_succ_right]
  apply and_congr Iff.rfl
  cases w.testBit i <;> cases i.testBit p <;> cases co <;> simp
theorem nI_m1 : (-1 : Int32) = nI (2 ^ 32 - 1) := by decide +kernel
theorem v6_loops {n w j : Nat} {M : Nat → Int64} (co : Bool) (hn : n ≤ 6) (hj : j < 6) (hM : M j = lN w) (hw : w < 2 ^ 64) : m_X6_loops (nI n) M (nI j) (if co then 1 else 0) = some (nI (bsn (lpP co w (2 ^ n)) n)) := by
  have h6 := pow6 hn
  have hpos := Nat.two_pow_pos n
  unfold m_X6_loops m_X6_loops_0
  have hl : gk_lp (fun z => m_X6_loops_B12 (nI n) M (nI j) (if co then 1 else 0) z.1 z.2) gk_fu (((1 : Int32) <<< (nI n &&& 31)) - (1 : Int32), (0 : Int32)) = some (nI (bsn (lpP co w (2 ^ n)) n)) := by
    refine ru (fun i => (nI (bsn (lpP co w i) n), nI i)) (2 ^ n) ?_ (by omega) (fun i hi => ?_) ?_
    · show _ = (nI (bsn (lpP co w 0) n), nI 0)
      rw [shl1 (by omega), show (1 : Int32) = nI 1 from rfl, pk_sub (by omega)]
      congr 2
      refine tb_ext (n := n) (by omega) (bsn_lt _ _) (fun s hs => ?_)
      rw [bsn_bit, Nat.testBit_two_pow_sub_one]
      simp [hs, lpP]
    · show m_X6_loops_B12 (nI n) M (nI j) (if co then 1 else 0) (nI (bsn (lpP co w i) n)) (nI i) = some (Sum.inl (nI (bsn (lpP co w (i + 1)) n), nI (i + 1)))
      unfold m_X6_loops_B12
      rw [shl1 (by omega), if_neg (nI_ge hi (by omega)), v_isMember hj hM hw (by omega), bd1_some, nI_m1, fb_xorI, fa_and, fa_and, nI_1]
      simp only [q10]
      cases hb : w.testBit i with
      | false =>
        simp only [not_false_eq_true, if_true, Bool.false_eq_true]
        congr 4
        refine tb_ext (bsn_lt _ _) (bsn_lt _ _) (fun s hs => ?_)
        rw [bsn_bit, bsn_bit, lpP_s, hb]; simp
      | true =>
        cases co with
        | false =>
          simp only [not_true, if_false, if_true, Bool.false_eq_true, not_false_eq_true]
          congr 4
          refine tb_ext (n := n) (Nat.lt_of_le_of_lt Nat.and_le_left (bsn_lt _ _)) (bsn_lt _ _) (fun s hs => ?_)
          have : s < 32 := by omega
          rw [Nat.testBit_and, bsn_bit, bsn_bit, lpP_s, hb, Nat.testBit_xor, Nat.testBit_two_pow_sub_one]
          cases i.testBit s <;> simp [this]
        | true =>
          simp only [not_true, if_false, if_true]
          congr 4
          refine tb_ext (n := n) (Nat.lt_of_le_of_lt Nat.and_le_left (bsn_lt _ _)) (bsn_lt _ _) (fun s hs => ?_)
          rw [Nat.testBit_and, bsn_bit, bsn_bit, lpP_s, hb]
          cases i.testBit s <;> simp
    · show m_X6_loops_B12 (nI n) M (nI j) (if co then 1 else 0) _ (nI (2 ^ n)) = _
      unfold m_X6_loops_B12
      rw [shl1 (by omega), if_pos (nI_le (Nat.le_refl _) (by omega))]
  rw [hl]
  rfl
theorem and_hv0 {n w p : Nat} (hn : n ≤ 6) (hw : w < 2 ^ 2 ^ n) (hp : p < 6) : (w &&& hv p = 0 ↔ lpP false w (2 ^ n) p = true) ∧ (w &&& (2 ^ 64 - 1 - hv p) = 0 ↔ lpP true w (2 ^ n) p = true) := by
  have h6 := pow6 hn
  have hw64 : w < 2 ^ 64 := Nat.lt_of_lt_of_le hw (pp6 hn)
  unfold lpP
  rw [decide_eq_true_iff, decide_eq_true_iff]
  constructor
  · constructor
    · intro h s hs hb
      have := congrArg (fun z => Nat.testBit z s) h
      simp only [Nat.testBit_and, hv_bit p hp s (by omega), hb, Bool.true_and, Nat.zero_testBit] at this
      exact this
    · intro h
      refine tb_ext (n := 64) (Nat.lt_of_le_of_lt Nat.and_le_left hw64) (by omega) (fun s hs => ?_)
      rw [Nat.testBit_and, hv_bit p hp s hs, Nat.zero_testBit]
      cases hb : w.testBit s with
      | false => rfl
      | true =>
        rw [h s (Nat.lt_of_not_le (fun q => by rw [tb_hi hw q] at hb; cases hb)) hb]; rfl
  · constructor
    · intro h s hs hb
      have := congrArg (fun z => Nat.testBit z s) h
      simp only [Nat.testBit_and, hvn_bit p hp s (by omega), hb, Bool.true_and, Nat.zero_testBit] at this
      simpa using this
    · intro h
      refine tb_ext (n := 64) (Nat.lt_of_le_of_lt Nat.and_le_left hw64) (by omega) (fun s hs => ?_)
      rw [Nat.testBit_and, hvn_bit p hp s hs, Nat.zero_testBit]
      cases hb : w.testBit s with
      | false => rfl
      | true =>
        rw [h s (Nat.lt_of_not_le (fun q => by rw [tb_hi hw q] at hb; cases hb)) hb]; rfl
theorem v5_loops {n w : Nat} (hn : n ≤ 6) (hw : w < 2 ^ 2 ^ n) : m_X0_loops (lN w) (nI n) = some (nI (bsn (lpP false w (2 ^ n)) n)) := by
  have hw64 : w < 2 ^ 64 := Nat.lt_of_lt_of_le hw (pp6 hn)
  unfold m_X0_loops m_X0_loops_0
  have hl : gk_lp (fun z => m_X0_loops_B5 (lN w) (nI n) z.1 z.2) gk_fu ((0 : Int32), (0 : Int32)) = some (nI (bsn (lpP false w (2 ^ n)) n)) := by
    refine ru (fun i => (nI (bsn (lpP false w (2 ^ n)) i), nI i)) n rfl (by omega) (fun i hi => ?_) ?_
    · show m_X0_loops_B5 (lN w) (nI n) (nI (bsn (lpP false w (2 ^ n)) i)) (nI i) = some (Sum.inl (nI (bsn (lpP false w (2 ^ n)) (i + 1)), nI (i + 1)))
      unfold m_X0_loops_B5
      have h1 := hv_lt i (by omega)
      rw [if_neg (nI_ge hi (by omega)), ix_ok (show i < 6 by omega) (by omega), nI_clamp (by omega), hv_lN i (by omega), fb_andL, shl1 (by omega), fa_or, nI_1, bsn_or]
      simp only [cmp0, lN_0, lN_inj64 (show w &&& hv i < 2 ^ 64 from Nat.lt_of_le_of_lt Nat.and_le_left hw64) (show 0 < 2 ^ 64 by omega), (and_hv0 hn hw (show i < 6 by omega)).1]
      cases lpP false w (2 ^ n) i <;> simp
    · show m_X0_loops_B5 (lN w) (nI n) _ (nI n) = _
      unfold m_X0_loops_B5
      rw [if_pos (nI_le (Nat.le_refl _) (by omega))]
  rw [hl]
  rfl
theorem v5_coloops {n w : Nat} (hn : n ≤ 6) (hw : w < 2 ^ 2 ^ n) : m_X0_coloops (lN w) (nI n) = some (nI (bsn (lpP true w (2 ^ n)) n)) := by
  have hw64 : w < 2 ^ 64 := Nat.lt_of_lt_of_le hw (pp6 hn)
  unfold m_X0_coloops m_X0_coloops_0
  have hl : gk_lp (fun z => m_X0_coloops_B5 (lN w) (nI n) z.1 z.2) gk_fu ((0 : Int32), (0 : Int32)) = some (nI (bsn (lpP true w (2 ^ n)) n)) := by
    refine ru (fun i => (nI (bsn (lpP true w (2 ^ n)) i), nI i)) n rfl (by omega) (fun i hi => ?_) ?_
    · show m_X0_coloops_B5 (lN w) (nI n) (nI (bsn (lpP true w (2 ^ n)) i)) (nI i) = some (Sum.inl (nI (bsn (lpP true w (2 ^ n)) (i + 1)), nI (i + 1)))
      unfold m_X0_coloops_B5
      rw [if_neg (nI_ge hi (by omega)), ix_ok (show i < 6 by omega) (by omega), nI_clamp (by omega), hv_not i (by omega), fb_andL, shl1 (by omega), fa_or, nI_1, bsn_or]
      simp only [cmp0, lN_0, lN_inj64 (show w &&& (2 ^ 64 - 1 - hv i) < 2 ^ 64 from Nat.lt_of_le_of_lt Nat.and_le_left hw64) (show 0 < 2 ^ 64 by omega), (and_hv0 hn hw (show i < 6 by omega)).2]
      cases lpP true w (2 ^ n) i <;> simp
    · show m_X0_coloops_B5 (lN w) (nI n) _ (nI n) = _
      unfold m_X0_coloops_B5
      rw [if_pos (nI_le (Nat.le_refl _) (by omega))]
  rw [hl]
  rfl
/-! the least and the greatest size -/
def mxF (P : Nat → Bool) (c : Nat → Nat) : Nat → Option Nat
  | 0 => none
  | i + 1 => if P i then (match mxF P c i with
    | none => some (c i)
    | some m => if c i ≤ m then some m else some (c i)) else mxF P c i
theorem mxF_ok (P : Nat → Bool) (c : Nat → Nat) : ∀ k, match mxF P c k with
    | none => ∀ s, s < k → P s = false
    | some m => (∃ s, s < k ∧ P s = true ∧ c s = m) ∧ ∀ s, s < k → P s = true → c s ≤ m
  | 0 => by simp [mxF]
  | k + 1 => by
    have ih := mxF_ok P c k
    unfold mxF
    by_cases hp : P k = true
    · rw [if_pos hp]
      cases hm : mxF P c k with
      | none =>
        rw [hm] at ih
        refine ⟨⟨k, by omega, hp, rfl⟩, fun s hs h => ?_⟩
        by_cases e : s = k
        · subst e; exact Nat.le_refl _
        · rw [ih s (by omega)] at h; cases h
      | some m =>
        rw [hm] at ih
        obtain ⟨⟨s0, a1, a2, a3⟩, a4⟩ := ih
        by_cases h : c k ≤ m
        · simp only [h, if_true]
          refine ⟨⟨s0, by omega, a2, a3⟩, fun s hs q => ?_⟩
          by_cases e : s = k
          · subst e; exact h
          · exact a4 s (by omega) q
        · simp only [h, if_false]
          refine ⟨⟨k, by omega, hp, rfl⟩, fun s hs q => ?_⟩
          by_cases e : s = k
          · subst e; exact Nat.le_refl _
          · have := a4 s (by omega) q; omega
    · rw [if_neg hp]
      cases hm : mxF P c k with
      | none =>
        rw [hm] at ih
        intro s hs
        by_cases e : s = k
        · subst e; simpa using hp
        · exact ih s (by omega)
      | some m =>
        rw [hm] at ih
        obtain ⟨⟨s0, a1, a2, a3⟩, a4⟩ := ih
        refine ⟨⟨s0, by omega, a2, a3⟩, fun s hs q => ?_⟩
        by_cases e : s = k
        · subst e; exact absurd q hp
        · exact a4 s (by omega) q
theorem v6_sizeMin {n w j : Nat} {M : Nat → Int64} (hn : n ≤ 6) (hj : j < 6) (hM : M j = lN w) (hw : w < 2 ^ 64) : m_X6_sizeOf (nI n) M (nI j) 1 = some (enc (mnF w.testBit (fun s => fb_ct s.testBit 6) (2 ^ n))) := by
  have h6 := pow6 hn
  unfold m_X6_sizeOf m_X6_sizeOf_0
  have hl : gk_lp (fun z => m_X6_sizeOf_B5 (nI n) M (nI j) 1 z.1 z.2) gk_fu ((-1 : Int32), (0 : Int32)) = some (enc (mnF w.testBit (fun s => fb_ct s.testBit 6) (2 ^ n))) := by
    refine ru (fun i => (enc (mnF w.testBit (fun s => fb_ct s.testBit 6) i), nI i)) (2 ^ n) rfl (by omega) (fun i hi => ?_) ?_
    · show m_X6_sizeOf_B5 (nI n) M (nI j) 1 (enc (mnF w.testBit (fun s => fb_ct s.testBit 6) i)) (nI i) = some (Sum.inl (enc (mnF w.testBit (fun s => fb_ct s.testBit 6) (i + 1)), nI (i + 1)))
      unfold m_X6_sizeOf_B5
      rw [shl1 (by omega), if_neg (nI_ge hi (by omega)), v_isMember hj hM hw (by omega), bd1_some, v_ones i (by omega), bd1_some, nI_1, mnF, if_neg (show ¬ (1 : Int32) = 0 by decide)]
      simp only [q10]
      cases w.testBit i
      · simp
      · simp only [not_true, if_false, if_true]
        have hm := mnF_ok w.testBit (fun s => fb_ct s.testBit 6) i
        cases e : mnF w.testBit (fun s => fb_ct s.testBit 6) i with
        | none => rfl
        | some m =>
          rw [e] at hm
          obtain ⟨⟨s0, -, -, a3⟩, -⟩ := hm
          have a4 := ct6_le s0
          have a5 := ct6_le i
          have a3' : fb_ct s0.testBit 6 = m := a3
          show (if nI m = -1 then _ else _) = _
          rw [if_neg (nI_ne (by omega))]
          show (if nI m ≤ nI (fb_ct i.testBit 6) then _ else _) = _
          simp only [nI_leI (show m < 2 ^ 31 by omega) (show fb_ct i.testBit 6 < 2 ^ 31 by omega)]
          by_cases q : m ≤ fb_ct i.testBit 6
          · simp only [q, if_true]
          · simp only [q, if_false]; rfl
    · show m_X6_sizeOf_B5 (nI n) M (nI j) 1 _ (nI (2 ^ n)) = _
      unfold m_X6_sizeOf_B5
      rw [shl1 (by omega), if_pos (nI_le (Nat.le_refl _) (by omega))]
  rw [hl]
  rfl
theorem v6_sizeMax {n w j : Nat} {M : Nat → Int64} (hn : n ≤ 6) (hj : j < 6) (hM : M j = lN w) (hw : w < 2 ^ 64) : m_X6_sizeOf (nI n) M (nI j) 0 = some (enc (mxF w.testBit (fun s => fb_ct s.testBit 6) (2 ^ n))) := by
  have h6 := pow6 hn
  unfold m_X6_sizeOf m_X6_sizeOf_0
  have hl : gk_lp (fun z => m_X6_sizeOf_B5 (nI n) M (nI j) 0 z.1 z.2) gk_fu ((-1 : Int32), (0 : Int32)) = some (enc (mxF w.testBit (fun s => fb_ct s.testBit 6) (2 ^ n))) := by
    refine ru (fun i => (enc (mxF w.testBit (fun s => fb_ct s.testBit 6) i), nI i)) (2 ^ n) rfl (by omega) (fun i hi => ?_) ?_
    · show m_X6_sizeOf_B5 (nI n) M (nI j) 0 (enc (mxF w.testBit (fun s => fb_ct s.testBit 6) i)) (nI i) = some (Sum.inl (enc (mxF w.testBit (fun s => fb_ct s.testBit 6) (i + 1)), nI (i + 1)))
      unfold m_X6_sizeOf_B5
      rw [shl1 (by omega), if_neg (nI_ge hi (by omega)), v_isMember hj hM hw (by omega), bd1_some, v_ones i (by omega), bd1_some, nI_1, mxF, if_pos (show (0 : Int32) = 0 by decide)]
      simp only [q10]
      cases w.testBit i
      · simp
      · simp only [not_true, if_false, if_true]
        have hm := mxF_ok w.testBit (fun s => fb_ct s.testBit 6) i
        cases e : mxF w.testBit (fun s => fb_ct s.testBit 6) i with
        | none => rfl
        | some m =>
          rw [e] at hm
          obtain ⟨⟨s0, -, -, a3⟩, -⟩ := hm
          have a4 := ct6_le s0
          have a5 := ct6_le i
          have a3' : fb_ct s0.testBit 6 = m := a3
          show (if nI m = -1 then _ else _) = _
          rw [if_neg (nI_ne (by omega))]
          show (if nI (fb_ct i.testBit 6) ≤ nI m then _ else _) = _
          simp only [nI_leI (show fb_ct i.testBit 6 < 2 ^ 31 by omega) (show m < 2 ^ 31 by omega)]
          by_cases q : fb_ct i.testBit 6 ≤ m
          · simp only [q, if_true]
          · simp only [q, if_false]; rfl
    · show m_X6_sizeOf_B5 (nI n) M (nI j) 0 _ (nI (2 ^ n)) = _
      unfold m_X6_sizeOf_B5
      rw [shl1 (by omega), if_pos (nI_le (Nat.le_refl _) (by omega))]
  rw [hl]
  rfl
theorem log_ok : ∀ b, b < 128 → b ≠ 0 → b.testBit (Nat.log2 b) = true ∧ Nat.log2 b < 7 ∧ ∀ c, c < 7 → Nat.log2 b < c → b.testBit c = false := by decide +kernel
theorem gb_szs {n w : Nat} (hn : n ≤ 6) (hw : w < 2 ^ 2 ^ n) : (if szs w 64 = 0 then none else some (Nat.log2 (szs w 64))) = mxF w.testBit (fun s => fb_ct s.testBit 6) (2 ^ n) := by
  have hm := mxF_ok w.testBit (fun s => fb_ct s.testBit 6) (2 ^ n)
  cases e : mxF w.testBit (fun s => fb_ct s.testBit 6) (2 ^ n) with
  | none =>
    rw [e] at hm
    have : szs w 64 = 0 := by
      apply Nat.eq_of_testBit_eq
      intro v
      rw [Nat.zero_testBit]
      cases hb : (szs w 64).testBit v with
      | false => rfl
      | true =>
        obtain ⟨s, q1, q2, -⟩ := (szs_in hn hw).mp hb
        rw [hm s q1] at q2; cases q2
    rw [if_pos this]
  | some m =>
    rw [e] at hm
    obtain ⟨⟨s0, a1, a2, a3⟩, a4⟩ := hm
    have hm6 : m ≤ 6 := by rw [← a3]; exact ct6_le s0
    have hbit : (szs w 64).testBit m = true := (szs_in hn hw).mpr ⟨s0, a1, a2, a3⟩
    have hne : ¬ szs w 64 = 0 := fun q => by rw [q, Nat.zero_testBit] at hbit; cases hbit
    rw [if_neg hne]
    obtain ⟨b1, b2, b3⟩ := log_ok _ (szs_lt w 64) hne
    refine congrArg some (Nat.le_antisymm ?_ ?_)
    · obtain ⟨s, q1, q2, q3⟩ := (szs_in hn hw).mp b1
      rw [← q3]
      exact a4 s q1 q2
    · apply Nat.le_of_not_lt
      intro q
      have := b3 m (by omega) q
      rw [hbit] at this; cases this
theorem o_of {n : Nat} {M : Nat → Int64} {K : Nat → Int32} (h0 : 1 ≤ n) (hn : n ≤ 6) (hV : VF n M K) (x1 x2 : Int32) : ∃ r, m_X5_of (nI n) M K x1 x2 = some r ∧ m_X6_of (nI n) M K x1 x2 = some r := by
  have h6 := pow6 hn
  unfold m_X5_of m_X5_of_0 m_X6_of m_X6_of_0
  simp only [v5_fam, v6_fam, bd1_some, q01, q10, show m_X6_isIn x2.toInt64 (0 : Int64) (7 : Int64) = _ from v6_in x2 7 (by omega)]
  have e3 : ∀ A B : Option Int32, (if x2 < 0 then A else if x2 ≤ 7 then B else A) = if fok (7 + 1) x2 = true then B else A := fun A B => sel_le x2 7 (by omega) A B
  rw [e3]
  by_cases h1 : fok 6 x1 = true
  case neg => exact ⟨-2, by simp [h1], by simp [h1]⟩
  by_cases h2 : fok (7 + 1) x2 = true
  case neg => exact ⟨-2, by simp only [h1, h2, if_true]; simp, by simp only [h1, h2, if_true, not_true, if_false]; simp⟩
  obtain ⟨j, hj, rfl⟩ := fok_ex (by omega) h1
  obtain ⟨⟨w, hw, hM⟩, -⟩ := hV j hj
  have hw64 : w < 2 ^ 64 := Nat.lt_of_lt_of_le hw (pp6 hn)
  have sz := szs_lt w 64
  simp only [h1, h2, if_true, not_true, if_false, v5_missing hj, bd1_some, q10, ix_ok hj (show 6 < 2 ^ 31 by omega), nI_clamp (show j < 2 ^ 31 by omega), hM, v_sizes hw64]
  by_cases hk : K j = -1
  · exact ⟨-11, by simp [hk], by simp [hk]⟩
  simp only [hk, not_false_eq_true, if_true, if_false]
  by_cases a0 : x2 = 0
  · simp only [a0, if_true]; exact ⟨_, rfl, rfl⟩
  simp only [a0, if_false]
  by_cases a1 : x2 = 1
  · simp only [a1, if_true]
    unfold m_X0_isExchanging m_X0_isExchanging_0
    rw [v_firstStuck hn hw, bd1_some, show m_X6_failing (nI n) M (nI j) 0 = _ from v6_failing (k := 0) h0 hn hj hM hw64 (by omega), bd1_some, fX0]
    split
    · exact ⟨0, rfl, rfl⟩
    · split
      · exact ⟨1, rfl, rfl⟩
      · exact ⟨0, rfl, rfl⟩
  simp only [a1, if_false]
  by_cases a2 : x2 = 2
  · simp only [a2, if_true]
    rw [show m_X6_areSizes (nI n) M (nI j) 1 = _ from v6_areSizes true hn hj hM hw64, bd1_some]
    have := cfl_szs (w := w) true hn hw
    simp only [if_true] at this
    rcases ev_ok _ sz with ⟨e1, e2⟩ | ⟨e1, e2⟩
    · rw [e1, bd1_some, this.mpr e2]
      exact ⟨1, rfl, rfl⟩
    · cases e : (ffO (cfl w.testBit (csz true)) (2 ^ n)).isSome with
      | false => exact absurd (this.mp e) e2
      | true =>
        rw [e1, bd1_some]
        exact ⟨0, rfl, rfl⟩
  simp only [a2, if_false]
  by_cases a3 : x2 = 3
  · simp only [a3, if_true]
    rw [v_bc _ sz, bd1_some, show m_X6_areSizes (nI n) M (nI j) 0 = _ from v6_areSizes false hn hj hM hw64, bd1_some]
    have := cfl_szs (w := w) false hn hw
    simp only [Bool.false_eq_true, if_false] at this
    have hc := fb_ct_le (szs w 64).testBit 7
    have hlt : (1 : Int32) < nI (fb_ct (szs w 64).testBit 7) ↔ ¬ fb_ct (szs w 64).testBit 7 ≤ 1 := by
      rw [show (1 : Int32) = nI 1 from rfl, Int32.lt_iff_toInt_lt, nI_toInt (by omega), nI_toInt (by omega)]; omega
    cases e : (ffO (cfl w.testBit (csz false)) (2 ^ n)).isSome with
    | false =>
      rw [if_neg (fun q => hlt.mp q ((one_ok _ sz).mpr (this.mp e)))]
      exact ⟨1, rfl, rfl⟩
    | true =>
      rw [if_pos (hlt.mpr (fun q => by rw [this.mpr ((one_ok _ sz).mp q)] at e; cases e))]
      exact ⟨0, rfl, rfl⟩
  simp only [a3, if_false]
  by_cases a4 : x2 = 4
  · simp only [a4, if_true]
    rw [v5_loops hn hw, bd1_some, show m_X6_loops (nI n) M (nI j) 0 = _ from v6_loops false hn hj hM hw64, bd1_some]
    exact ⟨_, rfl, rfl⟩
  simp only [a4, if_false]
  by_cases a5 : x2 = 5
  · simp only [a5, if_true]
    rw [v5_coloops hn hw, bd1_some, show m_X6_loops (nI n) M (nI j) 1 = _ from v6_loops true hn hj hM hw64, bd1_some]
    exact ⟨_, rfl, rfl⟩
  simp only [a5, if_false]
  by_cases a6 : x2 = 6
  · simp only [a6, if_true]
    rw [v_least _ sz, bd1_some, v6_sizeMin hn hj hM hw64, bd1_some, lbO_szs (P := w.testBit) (c := fun s => fb_ct s.testBit 6) (k := 2 ^ n) (fun s _ => ct6_le s) (fun v => by rw [← szs_bit]; exact szs_in hn hw)]
    exact ⟨_, rfl, rfl⟩
  simp only [a6, if_false]
  rw [v_great _ sz, bd1_some, v6_sizeMax hn hj hM hw64, bd1_some, gb_szs hn hw]
  exact ⟨_, rfl, rfl⟩
