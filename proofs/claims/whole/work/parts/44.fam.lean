/-! ===== twisting, sizes, leaving out ===== -/
def hv (p : Nat) : Nat := match p with
  | 0 => 0xAAAAAAAAAAAAAAAA
  | 1 => 0xCCCCCCCCCCCCCCCC
  | 2 => 0xF0F0F0F0F0F0F0F0
  | 3 => 0xFF00FF00FF00FF00
  | 4 => 0xFFFF0000FFFF0000
  | _ => 0xFFFFFFFF00000000
theorem hv_lN : ∀ p, p < 6 → gk_hav p = lN (hv p) := by decide +kernel
theorem hv_lt : ∀ p, p < 6 → hv p < 2 ^ 64 := by decide +kernel
theorem hv_bit : ∀ p, p < 6 → ∀ s, s < 64 → (hv p).testBit s = s.testBit p := by decide +kernel
theorem hv_not : ∀ p, p < 6 → gk_hav p ^^^ (-1 : Int64) = lN (2 ^ 64 - 1 - hv p) := by decide +kernel
theorem hvn_bit : ∀ p, p < 6 → ∀ s, s < 64 → (2 ^ 64 - 1 - hv p).testBit s = !s.testBit p := by decide +kernel
theorem hvn_lt (p : Nat) : 2 ^ 64 - 1 - hv p < 2 ^ 64 := by omega
theorem xlt {a b n : Nat} (ha : a < 2 ^ n) (hb : b < 2 ^ n) : a ^^^ b < 2 ^ n := Nat.xor_lt_two_pow ha hb
theorem xlt6 {a b : Nat} (ha : a < 64) (hb : b < 64) : a ^^^ b < 64 := xlt (n := 6) ha hb
theorem p6 : ∀ p, p < 6 → 2 ^ p < 64 := by decide
def tw (w b : Nat) : Nat := bsn (fun s => w.testBit (s ^^^ b)) 64
theorem tw_lt (w b : Nat) : tw w b < 2 ^ 64 := bsn_lt _ _
theorem tw_bit {w b s : Nat} (hs : s < 64) : (tw w b).testBit s = w.testBit (s ^^^ b) := by
  rw [tw, bsn_bit]; simp [hs]
theorem tw_ixT : ∀ p, p < 6 → ∀ s, s < 64 → (s.testBit p = false ∨ (2 ^ p ≤ s ∧ s ^^^ 2 ^ p = s - 2 ^ p ∧ (64 ≤ s + 2 ^ p ∨ (s + 2 ^ p).testBit p = false) ∧ (s - 2 ^ p).testBit p = false)) := by decide +kernel
theorem tw_ixF : ∀ p, p < 6 → ∀ s, s < 64 → (s.testBit p = true ∨ (s ^^^ 2 ^ p = s + 2 ^ p ∧ s + 2 ^ p < 64 ∧ (s + 2 ^ p).testBit p = true ∧ (s < 2 ^ p ∨ (s - 2 ^ p).testBit p = true))) := by decide +kernel
theorem tw_ix : ∀ p, p < 6 → ∀ s, s < 64 → (s.testBit p = true → 2 ^ p ≤ s ∧ s ^^^ 2 ^ p = s - 2 ^ p ∧ (s + 2 ^ p < 64 → (s + 2 ^ p).testBit p = false) ∧ (s - 2 ^ p).testBit p = false) ∧ (s.testBit p = false → s ^^^ 2 ^ p = s + 2 ^ p ∧ s + 2 ^ p < 64 ∧ (s + 2 ^ p).testBit p = true ∧ (2 ^ p ≤ s → (s - 2 ^ p).testBit p = true)) := by
  intro p hp s hs
  constructor
  · intro h
    rcases tw_ixT p hp s hs with q | ⟨q1, q2, q3, q4⟩
    · rw [h] at q; cases q
    · exact ⟨q1, q2, fun z => q3.resolve_left (Nat.not_le.mpr z), q4⟩
  · intro h
    rcases tw_ixF p hp s hs with q | ⟨q1, q2, q3, q4⟩
    · rw [h] at q; cases q
    · exact ⟨q1, q2, q3, fun z => q4.resolve_left (Nat.not_lt.mpr z)⟩
theorem lN_mod64 {a b : Nat} (hb : b < 2 ^ 64) (h : ∀ s, s < 64 → a.testBit s = b.testBit s) : lN a = lN b := by
  rw [wb_mod a]
  congr 1
  refine tb_ext (Nat.mod_lt _ (by omega)) hb (fun s hs => ?_)
  rw [Nat.testBit_mod_two_pow]
  simp [hs, h s hs]
theorem v5_tw1 {w p : Nat} (hw : w < 2 ^ 64) (hp : p < 6) : m_X0_twistedByOne (lN w) (nI p) = some (lN (tw w (2 ^ p))) := by
  unfold m_X0_twistedByOne m_X0_twistedByOne_0
  have h6 := p6 p hp
  rw [ix_ok hp (by omega), ix_ok hp (by omega), nI_clamp (by omega), shl1 (by omega), hv_not p hp, hv_lN p hp, fb_andL, fb_andL, wb_shr (Nat.and_lt_two_pow _ (hv_lt p hp)) h6, wb_shl _ h6, fb_orL]
  congr 1
  refine lN_mod64 (tw_lt _ _) (fun s hs => ?_)
  rw [tw_bit hs, Nat.testBit_or, Nat.testBit_div_two_pow, Nat.testBit_mul_two_pow, Nat.testBit_and, Nat.testBit_and]
  have hx := tw_ix p hp s hs
  cases hb : s.testBit p with
  | true =>
    obtain ⟨q1, q2, q3, q4⟩ := hx.1 hb
    rw [q2, hvn_bit p hp (s - 2 ^ p) (Nat.lt_of_le_of_lt (Nat.sub_le _ _) hs), q4]
    have : (w.testBit (s + 2 ^ p) && (hv p).testBit (s + 2 ^ p)) = false := by
      by_cases h : s + 2 ^ p < 64
      · rw [hv_bit p hp _ h, q3 h, Bool.and_false]
      · rw [tb_hi hw (by omega), Bool.false_and]
    rw [this]
    simp [q1]
  | false =>
    obtain ⟨q1, q2, q3, q4⟩ := hx.2 hb
    rw [q1, hv_bit p hp _ q2, q3]
    by_cases h : 2 ^ p ≤ s
    · rw [hvn_bit p hp (s - 2 ^ p) (Nat.lt_of_le_of_lt (Nat.sub_le _ _) hs), q4 h]
      simp
    · simp [h]
theorem xor_lo : ∀ b, b < 64 → ∀ i, i < 6 → (b.testBit i = true → b % 2 ^ (i + 1) = (2 ^ i) ^^^ (b % 2 ^ i)) ∧ (b.testBit i = false → b % 2 ^ (i + 1) = b % 2 ^ i) := by decide +kernel
theorem tw_tw {w a b : Nat} (ha : a < 64) : tw (tw w b) a = tw w (a ^^^ b) := by
  refine tb_ext (tw_lt _ _) (tw_lt _ _) (fun s hs => ?_)
  rw [tw_bit hs, tw_bit (xlt6 hs ha), tw_bit hs, Nat.xor_assoc]
theorem tw_0 {w : Nat} (hw : w < 2 ^ 64) : tw w 0 = w := tb_ext (tw_lt _ _) hw (fun s hs => by rw [tw_bit hs, Nat.xor_zero])
theorem v5_tw {w b : Nat} (hw : w < 2 ^ 64) (hb : b < 64) : m_X0_twisted (lN w) (nI b) = some (lN (tw w b)) := by
  unfold m_X0_twisted m_X0_twisted_0
  have hl : gk_lp (fun z => m_X0_twisted_B5 (nI b) z.1 z.2) gk_fu (lN w, (0 : Int32)) = some (lN (tw w b)) := by
    refine ru (fun i => (lN (tw w (b % 2 ^ i)), nI i)) 6 ?_ (by omega) (fun i hi => ?_) ?_
    · show _ = (lN (tw w (b % 2 ^ 0)), nI 0)
      rw [Nat.pow_zero, Nat.mod_one, tw_0 hw]
      rfl
    · show m_X0_twisted_B5 (nI b) (lN (tw w (b % 2 ^ i))) (nI i) = _
      unfold m_X0_twisted_B5
      rw [if_neg (gel 6 hi)]
      have hx := xor_lo b hb i hi
      by_cases h : b.testBit i = true
      · rw [if_neg (fun q => by rw [bitI0 (by omega) (by omega), h] at q; cases q), v5_tw1 (tw_lt _ _) hi, bd1_some, nI_1, tw_tw (p6 i hi), ← hx.1 h]
      · have h' : b.testBit i = false := by simpa using h
        rw [if_pos ((bitI0 (by omega) (by omega)).mpr h'), nI_1, hx.2 h']
    · show m_X0_twisted_B5 (nI b) (lN (tw w (b % 2 ^ 6))) (nI 6) = _
      unfold m_X0_twisted_B5
      rw [if_pos (lel 6 (by omega)), Nat.mod_eq_of_lt hb]
  rw [hl]
  rfl
theorem v6_tw {n w b : Nat} (hn : n ≤ 6) (hw : w < 2 ^ 2 ^ n) (hb : b < 2 ^ n) : m_X6_twisted (nI n) (lN w) (nI b) = some (lN (tw w b)) := by
  have h6 := pow6 hn
  have hw64 : w < 2 ^ 64 := Nat.lt_of_lt_of_le hw (pp6 hn)
  unfold m_X6_twisted m_X6_twisted_0
  have hl : gk_lp (fun z => m_X6_twisted_B6 (nI n) (lN w) (nI b) z.1 z.2) gk_fu ((0 : Int64), (0 : Int32)) = some (lN (tw w b)) := by
    refine ru (fun i => (lN (bsn (fun s => decide (s ^^^ b < i) && w.testBit (s ^^^ b)) 64), nI i)) (2 ^ n) ?_ (by omega) (fun i hi => ?_) ?_
    · show _ = (lN (bsn (fun s => decide (s ^^^ b < 0) && w.testBit (s ^^^ b)) 64), nI 0)
      have e : bsn (fun s => decide (s ^^^ b < 0) && w.testBit (s ^^^ b)) 64 = 0 := tb_ext (bsn_lt _ _) (by omega) (fun s hs => by rw [bsn_bit]; simp)
      rw [e]
      rfl
    · show m_X6_twisted_B6 (nI n) (lN w) (nI b) (lN (bsn (fun s => decide (s ^^^ b < i) && w.testBit (s ^^^ b)) 64)) (nI i) = _
      unfold m_X6_twisted_B6
      rw [shl1 (by omega), if_neg (nI_ge hi (by omega)), bitS hw64 (by omega), fb_xorI, wb_shl _ (xlt6 (by omega) (by omega)), fb_orL, nI_1]
      congr 4
      refine tb_ext (n := 64) (Nat.or_lt_two_pow (bsn_lt _ _) ?_) (bsn_lt _ _) (fun s hs => ?_)
      · have : 2 ^ (i ^^^ b) < 2 ^ 64 := Nat.pow_lt_pow_right (by omega) (xlt6 (by omega) (by omega))
        split <;> omega
      · rw [Nat.testBit_or, bsn_bit, bsn_bit]
        by_cases e : s = i ^^^ b
        · subst e
          have e2 : i ^^^ b ^^^ b = i := by rw [Nat.xor_assoc, Nat.xor_self, Nat.xor_zero]
          rw [e2]
          cases w.testBit i
          · simp
          · simp [hs, Nat.testBit_two_pow]
        · have e2 : s ^^^ b ≠ i := fun q => e (by rw [← q, Nat.xor_assoc, Nat.xor_self, Nat.xor_zero])
          have e3 : ((if w.testBit i = true then 1 else 0) * 2 ^ (i ^^^ b)).testBit s = false := by
            cases w.testBit i
            · simp
            · simp [Nat.testBit_two_pow]; exact fun q => e q.symm
          rw [e3, Bool.or_false]
          congr 1
          have : decide (s ^^^ b < i + 1) = decide (s ^^^ b < i) := by
            apply decide_eq_decide.mpr
            omega
          rw [this]
    · show m_X6_twisted_B6 (nI n) (lN w) (nI b) (lN (bsn (fun s => decide (s ^^^ b < 2 ^ n) && w.testBit (s ^^^ b)) 64)) (nI (2 ^ n)) = _
      unfold m_X6_twisted_B6
      rw [shl1 (by omega), if_pos (nI_le (Nat.le_refl _) (by omega))]
      congr 3
      refine tb_ext (bsn_lt _ _) (tw_lt _ _) (fun s hs => ?_)
      rw [bsn_bit, tw_bit hs]
      by_cases h : s ^^^ b < 2 ^ n
      · simp [hs, h]
      · rw [tb_hi hw (by omega)]
        simp
  rw [hl]
  rfl
theorem tw_fam {n w b : Nat} (hn : n ≤ 6) (hw : w < 2 ^ 2 ^ n) (hb : b < 2 ^ n) : tw w b < 2 ^ 2 ^ n := by
  have h6 := pow6 hn
  have : tw w b = bsn (fun s => w.testBit (s ^^^ b)) (2 ^ n) := by
    refine tb_ext (n := 64) (tw_lt _ _) (Nat.lt_of_lt_of_le (bsn_lt _ _) (pp6 hn)) (fun s hs => ?_)
    rw [tw_bit hs, bsn_bit]
    by_cases h : s < 2 ^ n
    · simp [h]
    · have : ¬ s ^^^ b < 2 ^ n := fun q => h (by
        have := xlt q hb
        rwa [Nat.xor_assoc, Nat.xor_self, Nat.xor_zero] at this)
      rw [tb_hi hw (by omega)]
      simp [h]
  rw [this]
  exact bsn_lt _ _
