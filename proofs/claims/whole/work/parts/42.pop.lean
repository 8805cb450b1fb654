/-! ===== Long.bitCount counts the bits ===== -/
theorem and256 {p q r s : Nat} (hp : p < 256) (hr : r < 256) : (p + 256 * q) &&& (r + 256 * s) = (p &&& r) + 256 * (q &&& s) := by
  have h1 : (p &&& r) < 2 ^ 8 := Nat.and_lt_two_pow _ hr
  apply Nat.eq_of_testBit_eq
  intro i
  rw [Nat.testBit_and, Nat.add_comm p, Nat.add_comm r, Nat.add_comm (p &&& r), show (256 : Nat) = 2 ^ 8 from rfl, Nat.testBit_two_pow_mul_add _ hp, Nat.testBit_two_pow_mul_add _ hr, Nat.testBit_two_pow_mul_add _ h1]
  split
  · rw [Nat.testBit_and]
  · rw [Nat.testBit_and]
def pc8 (B : Nat) : Nat := fb_ct B.testBit 8
/-- a mask of k bytes -/
def msk (M : Nat) : Nat → Nat
  | 0 => 0
  | k + 1 => M + 256 * msk M k
def p1 (k x : Nat) : Nat := x - ((x / 2) &&& msk 0x55 k)
def p2 (k x : Nat) : Nat := (x &&& msk 0x33 k) + ((x / 4) &&& msk 0x33 k)
def p3 (k x : Nat) : Nat := (x + x / 16) &&& msk 0x0f k
def q1 (B : Nat) : Nat := B - ((B / 2) &&& 0x55)
def q2 (B : Nat) : Nat := (B &&& 0x33) + ((B / 4) &&& 0x33)
theorem q1_ok : ∀ B, B < 256 → ((B / 2) &&& 0x55 ≤ B ∧ q1 B < 256) ∧ (((B / 2 + 128) &&& 0x55) = ((B / 2) &&& 0x55)) := by decide +kernel
theorem q2_ok : ∀ B, B < 256 → (((B / 4 + 64) &&& 0x33) = ((B / 4) &&& 0x33) ∧ ((B / 4 + 128) &&& 0x33) = ((B / 4) &&& 0x33) ∧ ((B / 4 + 192) &&& 0x33) = ((B / 4) &&& 0x33)) := by decide +kernel
theorem q2_nib : ∀ B, B < 256 → q2 (q1 B) % 16 ≤ 4 ∧ q2 (q1 B) / 16 ≤ 4 := by decide +kernel
theorem q3_ok : ∀ B, B < 256 → ∀ t, t < 5 → ((q2 (q1 B) + q2 (q1 B) / 16 + 16 * t) &&& 0x0f) = pc8 B := by decide +kernel
theorem p1_le (k : Nat) : ∀ x, (x / 2) &&& msk 0x55 k ≤ x := fun x => Nat.le_trans (Nat.and_le_left) (Nat.div_le_self _ _)
theorem p1_s (k B X : Nat) (hB : B < 256) : p1 (k + 1) (B + 256 * X) = q1 B + 256 * p1 k X := by
  unfold p1
  have e : (B + 256 * X) / 2 = (B / 2 + 128 * (X % 2)) + 256 * (X / 2) := by omega
  rw [e, msk, and256 (by omega) (by omega)]
  have h1 := q1_ok B hB
  have h2 : (B / 2 + 128 * (X % 2)) &&& 0x55 = (B / 2) &&& 0x55 := by
    rcases (by omega : X % 2 = 0 ∨ X % 2 = 1) with h | h
    · rw [h]; rfl
    · rw [h]; exact h1.2
  rw [h2]
  have h3 := p1_le k X
  unfold q1
  have := h1.1.1
  omega
theorem p2_s (k B X : Nat) (hB : B < 256) : p2 (k + 1) (B + 256 * X) = q2 B + 256 * p2 k X := by
  unfold p2
  have e : (B + 256 * X) / 4 = (B / 4 + 64 * (X % 4)) + 256 * (X / 4) := by omega
  rw [e, msk, and256 hB (by omega), and256 (by omega) (by omega)]
  have h1 := q2_ok B hB
  have h2 : (B / 4 + 64 * (X % 4)) &&& 0x33 = (B / 4) &&& 0x33 := by
    rcases (by omega : X % 4 = 0 ∨ X % 4 = 1 ∨ X % 4 = 2 ∨ X % 4 = 3) with h | h | h | h
    · rw [h]; rfl
    · rw [h]; exact h1.1
    · rw [h]; exact h1.2.1
    · rw [h]; exact h1.2.2
  rw [h2]
  unfold q2
  omega
theorem p3_s (k B X : Nat) (hB : B < 256) (hX : X % 16 ≤ 4) : p3 (k + 1) (q2 (q1 B) + 256 * X) = pc8 B + 256 * p3 k X := by
  unfold p3
  have hn := q2_nib B hB
  have e : (q2 (q1 B) + 256 * X) + (q2 (q1 B) + 256 * X) / 16 = (q2 (q1 B) + q2 (q1 B) / 16 + 16 * (X % 16)) + 256 * (X + X / 16) := by omega
  rw [e, msk, and256 (by omega) (by omega), q3_ok B hB _ (by omega)]
def digs (f : Nat → Nat) : Nat → Nat
  | 0 => 0
  | k + 1 => f 0 + 256 * digs (fun i => f (i + 1)) k
theorem digs_q (f : Nat → Nat) (hf : ∀ i, f i < 256) : ∀ k, p3 k (p2 k (p1 k (digs f k))) = digs (fun i => pc8 (f i)) k ∧ p2 k (p1 k (digs f k)) % 16 ≤ 4
  | 0 => by simp [digs, p1, p2, p3, msk]
  | k + 1 => by
    have ih := digs_q (fun i => f (i + 1)) (fun i => hf (i + 1)) k
    simp only [digs]
    rw [p1_s k (f 0) _ (hf 0), p2_s k (q1 (f 0)) _ (q1_ok _ (hf 0)).1.2, p3_s k (f 0) _ (hf 0) ih.2, ih.1]
    refine ⟨rfl, ?_⟩
    have := q2_nib _ (hf 0)
    omega
theorem dig_of (w : Nat) : ∀ k, w < 256 ^ k → digs (fun i => w / 256 ^ i % 256) k = w
  | 0, h => by simp [digs]; omega
  | k + 1, h => by
    have ih := dig_of (w / 256) k (by rw [Nat.pow_succ] at h; omega)
    simp only [digs]
    have e : (fun i => w / 256 ^ (i + 1) % 256) = (fun i => w / 256 / 256 ^ i % 256) := by
      funext i
      rw [Nat.pow_succ, Nat.mul_comm, ← Nat.div_div_eq_div_mul]
    rw [e, ih]
    simp
    omega
theorem ct_shift (p : Nat → Bool) (m : Nat) : ∀ n, fb_ct p (m + n) = fb_ct p m + fb_ct (fun k => p (m + k)) n := fb_ct_split p m
theorem pc8_dig (w i : Nat) : pc8 (w / 256 ^ i % 256) = fb_ct (fun k => w.testBit (8 * i + k)) 8 := by
  unfold pc8
  apply fb_ct_cong
  intro k hk
  rw [show (256 : Nat) = 2 ^ 8 from rfl, Nat.testBit_mod_two_pow, ← Nat.pow_mul, Nat.testBit_div_two_pow]
  simp [hk, Nat.add_comm]
theorem pc8_le (B : Nat) : pc8 B ≤ 8 := fb_ct_le _ _
theorem ct64 (w : Nat) : fb_ct w.testBit 64 = pc8 (w / 256 ^ 0 % 256) + pc8 (w / 256 ^ 1 % 256) + pc8 (w / 256 ^ 2 % 256) + pc8 (w / 256 ^ 3 % 256) + pc8 (w / 256 ^ 4 % 256) + pc8 (w / 256 ^ 5 % 256) + pc8 (w / 256 ^ 6 % 256) + pc8 (w / 256 ^ 7 % 256) := by
  simp only [pc8_dig]
  rw [show (64 : Nat) = 56 + 8 from rfl, fb_ct_split, show (56 : Nat) = 48 + 8 from rfl, fb_ct_split, show (48 : Nat) = 40 + 8 from rfl, fb_ct_split, show (40 : Nat) = 32 + 8 from rfl, fb_ct_split, show (32 : Nat) = 24 + 8 from rfl, fb_ct_split, show (24 : Nat) = 16 + 8 from rfl, fb_ct_split, show (16 : Nat) = 8 + 8 from rfl, fb_ct_split]
  simp
theorem dv256 {a c Z : Nat} (h : a = c + 256 * Z) (hc : c < 256) : a / 256 = Z := by omega
set_option maxHeartbeats 400000 in
theorem sumup (c D Y X : Nat → Nat) (hc : ∀ i, c i ≤ 8) (hD : ∀ i, D i = c i + 256 * D (i + 1)) (eY : ∀ i, Y i = D i + D (i + 1)) (eX : ∀ i, X i = Y i + Y (i + 2)) : D 0 / 256 = D 1 ∧ Y 0 / 65536 = Y 2 ∧ X 0 / 4294967296 = X 4 ∧ (X 0 + X 4) % 128 = c 0 + c 1 + c 2 + c 3 + c 4 + c 5 + c 6 + c 7 := by
  have hY : ∀ i, Y i = (c i + c (i + 1)) + 256 * Y (i + 1) := fun i => by
    have h1 := hD i
    have h2 := hD (i + 1)
    have h3 := eY i
    have h4 := eY (i + 1)
    rw [show i + 1 + 1 = i + 2 from rfl] at h2 h4
    clear hD eY eX hc
    omega
  have hX : ∀ i, X i = (c i + c (i + 1) + (c (i + 2) + c (i + 3))) + 256 * X (i + 1) := fun i => by
    have h1 := hY i
    have h2 := hY (i + 2)
    have h3 := eX i
    have h4 := eX (i + 1)
    rw [show i + 2 + 1 = i + 3 from rfl] at h2
    rw [show i + 1 + 2 = i + 3 from rfl] at h4
    clear hD eY eX hc hY
    omega
  have b : ∀ i, c i < 9 := fun i => by have := hc i; omega
  have bY : ∀ i, c i + c (i + 1) < 256 := fun i => by have := b i; have := b (i + 1); omega
  have bX : ∀ i, c i + c (i + 1) + (c (i + 2) + c (i + 3)) < 256 := fun i => by have := b i; have := b (i + 1); have := b (i + 2); have := b (i + 3); omega
  have d1 : D 0 / 256 = D 1 := dv256 (hD 0) (by have := b 0; omega)
  have y1 : Y 0 / 256 = Y 1 := dv256 (hY 0) (bY 0)
  have y2 : Y 1 / 256 = Y 2 := dv256 (hY 1) (bY 1)
  have x1 : X 0 / 256 = X 1 := dv256 (hX 0) (bX 0)
  have x2 : X 1 / 256 = X 2 := dv256 (hX 1) (bX 1)
  have x3 : X 2 / 256 = X 3 := dv256 (hX 2) (bX 2)
  have x4 : X 3 / 256 = X 4 := dv256 (hX 3) (bX 3)
  refine ⟨d1, ?_, ?_, ?_⟩
  · rw [show (65536 : Nat) = 256 * 256 from rfl, ← Nat.div_div_eq_div_mul, y1, y2]
  · rw [show (4294967296 : Nat) = 256 * 256 * 256 * 256 from rfl, ← Nat.div_div_eq_div_mul, ← Nat.div_div_eq_div_mul, ← Nat.div_div_eq_div_mul, x1, x2, x3, x4]
  · have h0 := hX 0
    have h4 := hX 4
    have q0 := b 0
    have q1 := b 1
    have q2 := b 2
    have q3 := b 3
    have q4 := b 4
    have q5 := b 5
    have q6 := b 6
    have q7 := b 7
    simp only [Nat.reduceAdd] at h0 h4
    clear hD eY eX hc hY hX b bY bX d1 y1 y2 x1 x2 x3 x4
    omega
set_option maxHeartbeats 400000 in
theorem popL {w : Nat} (hw : w < 2 ^ 64) : m_J13_bitCount_95d88 (lN w) = some (nI (fb_ct w.testBit 64)) := by
  have hdig : digs (fun i => w / 256 ^ i % 256) 8 = w := dig_of w 8 (by simpa using hw)
  have hq := (digs_q (fun i => w / 256 ^ i % 256) (fun i => Nat.mod_lt _ (by omega)) 8).1
  rw [hdig] at hq
  have m1 : (6148914691236517205 : Int64) = lN (msk 0x55 8) := by decide +kernel
  have m2 : (3689348814741910323 : Int64) = lN (msk 0x33 8) := by decide +kernel
  have m3 : (1085102592571150095 : Int64) = lN (msk 0x0f 8) := by decide +kernel
  have k1 : (1 : Int32) = nI 1 := rfl
  have k2 : (2 : Int32) = nI 2 := rfl
  have k4 : (4 : Int32) = nI 4 := rfl
  have k8 : (8 : Int32) = nI 8 := rfl
  have k16 : (16 : Int32) = nI 16 := rfl
  have k32 : (32 : Int32) = nI 32 := rfl
  have k127 : (127 : Int32) = nI (2 ^ 7 - 1) := rfl
  have e1 : lN w - (((lN w).toUInt64 >>> ((1 : Int32).toInt64.toUInt64 &&& Int64.toUInt64 63)).toInt64 &&& (6148914691236517205 : Int64)) = lN (p1 8 w) := by
    rw [k1, wb_shr hw (by omega), m1, fb_andL, lN_sub (p1_le 8 w)]
    rfl
  have b1 : p1 8 w < 2 ^ 64 := Nat.lt_of_le_of_lt (Nat.sub_le _ _) hw
  have e2 : (lN (p1 8 w) &&& (3689348814741910323 : Int64)) + (((lN (p1 8 w)).toUInt64 >>> ((2 : Int32).toInt64.toUInt64 &&& Int64.toUInt64 63)).toInt64 &&& (3689348814741910323 : Int64)) = lN (p2 8 (p1 8 w)) := by
    rw [k2, wb_shr b1 (by omega), m2, fb_andL, fb_andL, lN_add]
    rfl
  have b2 : p2 8 (p1 8 w) < 2 ^ 64 := by
    have h1 : (p1 8 w &&& msk 0x33 8) ≤ msk 0x33 8 := Nat.and_le_right
    have h2 : (p1 8 w / 4 &&& msk 0x33 8) ≤ msk 0x33 8 := Nat.and_le_right
    have h3 : msk 0x33 8 = 3689348814741910323 := by decide +kernel
    unfold p2
    omega
  have e3 : (lN (p2 8 (p1 8 w)) + ((lN (p2 8 (p1 8 w))).toUInt64 >>> ((4 : Int32).toInt64.toUInt64 &&& Int64.toUInt64 63)).toInt64) &&& (1085102592571150095 : Int64) = lN (p3 8 (p2 8 (p1 8 w))) := by
    rw [k4, wb_shr b2 (by omega), m3, lN_add, fb_andL]
    rfl
  unfold m_J13_bitCount_95d88 m_J13_bitCount_95d88_0
  rw [e1, e2, e3, hq]
  let cc : Nat → Nat := fun i => if i < 8 then pc8 (w / 256 ^ i % 256) else 0
  have hD : ∃ D : Nat → Nat, (∀ i, D i = cc i + 256 * D (i + 1)) ∧ D 0 = digs (fun i => pc8 (w / 256 ^ i % 256)) 8 ∧ D 0 < 2 ^ 60 := by
    refine ⟨fun i => digs (fun j => cc (i + j)) (8 - i), fun i => ?_, ?_, ?_⟩
    · show digs (fun j => cc (i + j)) (8 - i) = cc i + 256 * digs (fun j => cc (i + 1 + j)) (8 - (i + 1))
      by_cases hi : i < 8
      · rw [show 8 - i = (8 - (i + 1)) + 1 by omega]
        simp only [digs, Nat.add_zero]
        congr 3
        funext j
        congr 1
        omega
      · rw [show 8 - i = 0 by omega, show 8 - (i + 1) = 0 by omega]
        simp [digs, cc, hi]
    · simp [digs, cc]
    · have hb : ∀ i, cc i ≤ 8 := fun i => by
        show (if i < 8 then pc8 (w / 256 ^ i % 256) else 0) ≤ 8
        split
        · exact pc8_le _
        · omega
      simp only [digs, Nat.sub_zero, Nat.zero_add]
      have := hb 0; have := hb 1; have := hb 2; have := hb 3; have := hb 4; have := hb 5; have := hb 6; have := hb 7
      simp only [Nat.reduceAdd]
      omega
  obtain ⟨D, hD1, hD0, hDb⟩ := hD
  have hb : ∀ i, cc i ≤ 8 := fun i => by
    show (if i < 8 then pc8 (w / 256 ^ i % 256) else 0) ≤ 8
    split
    · exact pc8_le _
    · omega
  obtain ⟨s1, s2, s3, s4⟩ := sumup cc D (fun i => D i + D (i + 1)) (fun i => D i + D (i + 1) + (D (i + 2) + D (i + 3))) hb hD1 (fun i => rfl) (fun i => rfl)
  rw [← hD0]
  have g1 : D 1 < 2 ^ 60 := by have := hD1 0; omega
  have g2 : D 2 < 2 ^ 60 := by have := hD1 1; simp only [Nat.reduceAdd] at this; omega
  have g3 : D 3 < 2 ^ 60 := by have := hD1 2; simp only [Nat.reduceAdd] at this; omega
  have f1 : lN (D 0) + ((lN (D 0)).toUInt64 >>> ((8 : Int32).toInt64.toUInt64 &&& Int64.toUInt64 63)).toInt64 = lN (D 0 + D 1) := by
    rw [k8, wb_shr (by omega) (by omega), lN_add, show (2 : Nat) ^ 8 = 256 from rfl, s1]
  rw [f1]
  have f2 : lN (D 0 + D 1) + ((lN (D 0 + D 1)).toUInt64 >>> ((16 : Int32).toInt64.toUInt64 &&& Int64.toUInt64 63)).toInt64 = lN (D 0 + D 1 + (D 2 + D 3)) := by
    rw [k16, wb_shr (by omega) (by omega), lN_add, show (2 : Nat) ^ 16 = 65536 from rfl]
    exact congrArg lN (congrArg (D 0 + D 1 + ·) s2)
  rw [f2]
  have f3 : lN (D 0 + D 1 + (D 2 + D 3)) + ((lN (D 0 + D 1 + (D 2 + D 3))).toUInt64 >>> ((32 : Int32).toInt64.toUInt64 &&& Int64.toUInt64 63)).toInt64 = lN (D 0 + D 1 + (D 2 + D 3) + (D 4 + D 5 + (D 6 + D 7))) := by
    rw [k32, wb_shr (by omega) (by omega), lN_add, show (2 : Nat) ^ 32 = 4294967296 from rfl]
    exact congrArg lN (congrArg (D 0 + D 1 + (D 2 + D 3) + ·) s3)
  rw [f3, lN_i, k127, fa_mask]
  congr 2
  rw [ct64]
  refine Eq.trans s4 ?_
  simp [cc]
