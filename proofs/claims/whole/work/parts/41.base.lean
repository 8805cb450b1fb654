/-! ===== the pure side: runs of loops, sets of bits ===== -/
theorem ru_from {S R : Type} {f : S → Option (S ⊕ R)} (σ : Nat → S) {r : R} {n : Nat} (hs : ∀ i, i < n → f (σ i) = some (.inl (σ (i + 1)))) (he : f (σ n) = some (.inr r)) : ∀ (d j k : Nat), j + d = n → d < k → gk_lp f k (σ j) = some r
  | 0, j, k, hj, hk => by
    obtain ⟨k', rfl⟩ : ∃ k', k = k' + 1 := ⟨k - 1, by omega⟩
    have e : j = n := by omega
    subst e
    rw [gk_lp, he]
  | d + 1, j, k, hj, hk => by
    obtain ⟨k', rfl⟩ : ∃ k', k = k' + 1 := ⟨k - 1, by omega⟩
    rw [gk_lp, hs j (by omega)]
    exact ru_from σ hs he d (j + 1) k' (by omega) (by omega)
/-- a loop that goes n times round, and ends -/
theorem ru {S R : Type} {f : S → Option (S ⊕ R)} (σ : Nat → S) (n : Nat) {r : R} {s0 : S} (h0 : s0 = σ 0) (hn : n < 800) (hs : ∀ i, i < n → f (σ i) = some (.inl (σ (i + 1)))) (he : f (σ n) = some (.inr r)) : gk_lp f gk_fu s0 = some r := by
  rw [h0]
  exact ru_from σ hs he n 0 gk_fu (by omega) hn
/-- the number whose bits below k are those of P -/
def bsn (P : Nat → Bool) : Nat → Nat
  | 0 => 0
  | k + 1 => if P k then bsn P k ||| 2 ^ k else bsn P k
theorem bsn_lt (P : Nat → Bool) : ∀ k, bsn P k < 2 ^ k
  | 0 => by simp [bsn]
  | k + 1 => by
    have h := bsn_lt P k
    have h2 : 2 ^ k < 2 ^ (k + 1) := Nat.pow_lt_pow_right (by omega) (by omega)
    unfold bsn
    split
    · exact Nat.or_lt_two_pow (by omega) h2
    · omega
theorem bsn_bit (P : Nat → Bool) : ∀ k s, (bsn P k).testBit s = (decide (s < k) && P s)
  | 0, s => by simp [bsn]
  | k + 1, s => by
    have ih := bsn_bit P k s
    unfold bsn
    split
    · rename_i hp
      rw [Nat.testBit_or, ih, Nat.testBit_two_pow]
      by_cases h : k = s
      · subst h; simp [hp]
      · by_cases h2 : s < k
        · simp [h, h2, Nat.lt_succ_of_lt h2]
        · have : ¬ s < k + 1 := by omega
          simp [h, h2, this]
    · rename_i hp
      rw [ih]
      by_cases h : s = k
      · subst h; simp [hp]
      · by_cases h2 : s < k
        · simp [h2, Nat.lt_succ_of_lt h2]
        · have : ¬ s < k + 1 := by omega
          simp [h2, this]
theorem bsn_or (P : Nat → Bool) (k : Nat) : bsn P (k + 1) = bsn P k ||| (if P k then 2 ^ k else 0) := by
  rw [bsn]
  split <;> simp
theorem bsn_cong {P Q : Nat → Bool} : ∀ {k : Nat}, (∀ s, s < k → P s = Q s) → bsn P k = bsn Q k
  | 0, _ => rfl
  | k + 1, h => by rw [bsn_or, bsn_or, bsn_cong (fun s hs => h s (by omega)), h k (by omega)]
theorem tb_hi {a n s : Nat} (ha : a < 2 ^ n) (hs : n ≤ s) : a.testBit s = false := Nat.testBit_lt_two_pow (Nat.lt_of_lt_of_le ha (Nat.pow_le_pow_right (by omega) hs))
theorem tb_ext {a b n : Nat} (ha : a < 2 ^ n) (hb : b < 2 ^ n) (h : ∀ s, s < n → a.testBit s = b.testBit s) : a = b := by
  apply Nat.eq_of_testBit_eq
  intro i
  by_cases hi : i < n
  · exact h i hi
  · rw [tb_hi ha (by omega), tb_hi hb (by omega)]
theorem bsn_self {a n : Nat} (ha : a < 2 ^ n) : bsn a.testBit n = a := tb_ext (bsn_lt _ _) ha (fun s hs => by rw [bsn_bit]; simp [hs])
theorem lN_inj64 {a b : Nat} (ha : a < 2 ^ 64) (hb : b < 2 ^ 64) : lN a = lN b ↔ a = b := by
  constructor
  · intro h
    have := congrArg (fun z : Int64 => z.toBitVec.toNat) h
    simpa [wb_tn ha, wb_tn hb] using this
  · intro h; rw [h]
theorem lN_0 : (0 : Int64) = lN 0 := rfl
theorem lN_1' : (1 : Int64) = lN 1 := rfl
theorem lN_m1 : (-1 : Int64) = lN (2 ^ 64 - 1) := by decide +kernel
theorem two_le {a b : Nat} (h : a ≤ b) : 2 ^ a ≤ 2 ^ b := Nat.pow_le_pow_right (by omega) h
theorem shl1 {p : Nat} (h : p < 31) : (1 : Int32) <<< (nI p &&& 31) = nI (2 ^ p) := by
  exact (by decide +kernel : ∀ p, p < 31 → (1 : Int32) <<< (nI p &&& 31) = nI (2 ^ p)) p h
theorem shlL {s : Nat} (h : s < 64) : (1 : Int64) <<< ((nI s).toInt64 &&& 63) = lN (2 ^ s) := by
  rw [lN_1', wb_shl 1 h, Nat.one_mul]
theorem cmp0 (a b : Int64) : lg_cmp a b = 0 ↔ a = b := by
  unfold lg_cmp
  by_cases h : a = b
  · subst h; simp [Int64.lt_irrefl]
  · simp only [h, if_false, iff_false]
    split <;> decide
/-- one bit of a small int -/
theorem bitI {x p : Nat} (hx : x < 2 ^ 31) (hp : p < 31) : (nI x >>> (nI p &&& 31)) &&& 1 = nI (if x.testBit p then 1 else 0) := by
  rw [pk_shrN hx (nI p &&& 31) p (s_l p (by omega))]
  rw [show (1 : Int32) = nI (2 ^ 1 - 1) from rfl, fa_mask]
  congr 1
  rw [Nat.testBit_eq_decide_div_mod_eq]
  have : x / 2 ^ p % 2 < 2 := Nat.mod_lt _ (by omega)
  by_cases h : x / 2 ^ p % 2 = 1
  · simp [h]
  · have : x / 2 ^ p % 2 = 0 := by omega
    simp [this]
theorem bitI0 {x p : Nat} (hx : x < 2 ^ 31) (hp : p < 31) : (nI x >>> (nI p &&& 31)) &&& 1 = 0 ↔ x.testBit p = false := by
  rw [bitI hx hp]
  cases x.testBit p <;> decide
theorem bitI1 {x p : Nat} (hx : x < 2 ^ 31) (hp : p < 31) : (nI x >>> (nI p &&& 31)) &&& 1 = 1 ↔ x.testBit p = true := by
  rw [bitI hx hp]
  cases x.testBit p <;> decide
/-- one bit of a long, by >>> and by >> -/
theorem bitU {w s : Nat} (hw : w < 2 ^ 64) (hs : s < 64) : ((lN w).toUInt64 >>> ((nI s).toInt64.toUInt64 &&& Int64.toUInt64 63)).toInt64 &&& 1 = lN (if w.testBit s then 1 else 0) := by
  rw [wb_bit hw hs]
  congr 1
  rw [Nat.testBit_eq_decide_div_mod_eq]
  have : w / 2 ^ s % 2 < 2 := Nat.mod_lt _ (by omega)
  by_cases h : w / 2 ^ s % 2 = 1
  · simp [h]
  · have : w / 2 ^ s % 2 = 0 := by omega
    simp [this]
theorem bitS {w s : Nat} (hw : w < 2 ^ 64) (hs : s < 64) : (lN w >>> ((nI s).toInt64 &&& 63)) &&& 1 = lN (if w.testBit s then 1 else 0) := by
  apply wb_inj
  rw [Int64.toBitVec_and, Int64.toBitVec_shiftRight, wb_c s hs, wb_tb]
  apply BitVec.eq_of_getLsbD_eq
  intro i hi
  have h1 : ((lN s).toBitVec.smod 64) = BitVec.ofNat 64 s := by rw [wb_tb]; exact wb_sm s hs
  rw [BitVec.getLsbD_and, h1, BitVec.sshiftRight_eq', BitVec.getLsbD_sshiftRight]
  rw [show (1 : Int64).toBitVec = 1#64 from rfl, wb_tb]
  have h2 : (BitVec.ofNat 64 s).toNat = s := by simp; omega
  rw [h2]
  by_cases h0 : i = 0
  · subst h0
    have : (BitVec.ofNat 64 w).getLsbD s = w.testBit s := by rw [BitVec.getLsbD_ofNat]; simp [hs]
    rw [if_pos (by omega), Nat.add_zero, this]
    cases w.testBit s <;> simp
  · have h3 : (1#64).getLsbD i = false := by rw [BitVec.getLsbD_one]; simp [h0]
    rw [h3, Bool.and_false]
    cases w.testBit s <;> simp [h0]
theorem gel (k : Nat) {i : Nat} (h : i < k) (hk : k < 2147483648 := by decide) : ¬ (OfNat.ofNat k : Int32) ≤ nI i := nI_ge h hk
theorem lel (k : Nat) {i : Nat} (h : k ≤ i) (hi : i < 2147483648 := by decide) : (OfNat.ofNat k : Int32) ≤ nI i := nI_le h hi
