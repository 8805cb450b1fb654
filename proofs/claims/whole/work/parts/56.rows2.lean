/-! ===== copy, film ===== -/
theorem hasStr {z : Nat} (hz : z ≤ 80) (x n : Int32) : m_X2_hasStretch (nI z) x n = some (if 0 ≤ x.toInt ∧ 0 ≤ n.toInt ∧ x.toInt + n.toInt ≤ z then 1 else 0) := by
  unfold m_X2_hasStretch m_X2_hasStretch_0
  simp only [Int32.lt_iff_toInt_lt, i0, nI_toInt (show z < 2 ^ 31 by omega)]
  by_cases h1 : x.toInt < 0
  · rw [if_pos h1, if_neg (by omega)]
  · rw [if_neg h1]
    by_cases h2 : (z : Int) < x.toInt
    · rw [if_pos h2, if_neg (by omega)]
    · rw [if_neg h2]
      have e : (nI z - x).toInt = (z : Int) - x.toInt := by
        rw [fb_subI (by rw [nI_toInt (by omega)]; omega) (by rw [nI_toInt (by omega)]; omega), nI_toInt (by omega)]
      rw [e]
      by_cases h3 : n.toInt < 0
      · rw [if_pos h3, if_neg (by omega)]
      · rw [if_neg h3]
        by_cases h4 : (z : Int) - x.toInt < n.toInt
        · rw [if_pos h4, if_neg (by omega)]
        · rw [if_neg h4, if_pos (by omega)]
theorem add64 (x n : Int32) : (x.toInt64 + n.toInt64).toInt = x.toInt + n.toInt := by
  have := fb_rng x
  have := fb_rng n
  rw [fb_addL (by rw [Int32.toInt_toInt64, Int32.toInt_toInt64]; omega) (by rw [Int32.toInt_toInt64, Int32.toInt_toInt64]; omega), Int32.toInt_toInt64, Int32.toInt_toInt64]
theorem v6_moved {S Z : Nat → Int32} {I m : Nat → Int64} {r i k : Nat} {x3 x4 : Int32} (hr : r < 4) (hi : i + k ≤ 80) : gk_lp (fun z => m_X6_copy_B113 S Z I (nI r) (nI i) x3 x4 (nI k) z.1 z.2) gk_fu ((0 : Int32), m) = some (fa_fill (fun t => I (80 * r + i + t)) m k) := by
  refine ru (fun t => (nI t, fa_fill (fun t => I (80 * r + i + t)) m t)) k ?_ (by omega) (fun t ht => ?_) ?_
  · show _ = (nI 0, fa_fill (fun t => I (80 * r + i + t)) m 0)
    rw [fa_fill_0]; rfl
  · show m_X6_copy_B113 S Z I (nI r) (nI i) x3 x4 (nI k) (nI t) (fa_fill (fun t => I (80 * r + i + t)) m t) = some (Sum.inl (nI (t + 1), fa_fill (fun t => I (80 * r + i + t)) m (t + 1)))
    unfold m_X6_copy_B113
    rw [if_neg (nI_ge ht (by omega)), ix80 hr (by omega), nI_add, ix_ok (show 80 * r + i + t < 320 by omega) (by omega), ix_ok (show t < 80 by omega) (by omega), nI_clamp (by omega), nI_clamp (by omega), nI_1, fillL_succ (fun t => I (80 * r + i + t))]
  · show m_X6_copy_B113 S Z I (nI r) (nI i) x3 x4 (nI k) (nI k) _ = _
    unfold m_X6_copy_B113
    rw [if_pos (nI_le (Nat.le_refl _) (by omega))]
theorem v6_back {S Z : Nat → Int32} {I g : Nat → Int64} {r j k : Nat} (hr : r < 4) (hj : j + k ≤ 80) : gk_lp (fun z => m_X6_copy_B150 S Z g (nI r) (nI j) (nI k) z.1 z.2) gk_fu ((0 : Int32), I) = some (fb_put I g (80 * r + j) k) := by
  refine ru (fun t => (nI t, fb_put I g (80 * r + j) t)) k ?_ (by omega) (fun t ht => ?_) ?_
  · show _ = (nI 0, fb_put I g (80 * r + j) 0)
    rw [fb_put_0]; rfl
  · show m_X6_copy_B150 S Z g (nI r) (nI j) (nI k) (nI t) (fb_put I g (80 * r + j) t) = some (Sum.inl (nI (t + 1), fb_put I g (80 * r + j) (t + 1)))
    unfold m_X6_copy_B150
    rw [if_neg (nI_ge ht (by omega)), ix80 hr (by omega), nI_add, ix_ok (show t < 80 by omega) (by omega), ix_ok (show 80 * r + j + t < 320 by omega) (by omega), nI_clamp (by omega), nI_clamp (by omega), nI_1, putL_succ]
  · show m_X6_copy_B150 S Z g (nI r) (nI j) (nI k) (nI k) _ = _
    unfold m_X6_copy_B150
    rw [if_pos (nI_le (Nat.le_refl _) (by omega))]
theorem sel4I {α : Type} (f : Nat → α) (e : α) {r : Nat} (hr : r < 4) : (if nI r = 0 then f 0 else if nI r = 1 then f 1 else if nI r = 2 then f 2 else if nI r = 3 then f 3 else e) = f r := by
  obtain ⟨b0, b1, b2, b3⟩ := q4 hr
  simp only [b0, b1, b2, b3]
  exact sel4 f e hr
def cpF (S Z : Nat → Int32) (V : Nat → Nat → Int64) (x2 x4 x5 : Int32) (a b : Nat) : Option (Int32 × (Nat → Int64) × (Nat → Int64) × (Nat → Int64) × (Nat → Int64)) :=
  gk_bd1 (m_X2_isMissing (S a)) (fun p => if p = (0 : Int32) then gk_bd1 (m_X2_isMissing (S b)) (fun p => if p = (0 : Int32) then (if S a = S b then gk_bd1 (m_X2_hasStretch (Z a) x2 x5) (fun p => if p = (0 : Int32) then some ((-12 : Int32), V 0, V 1, V 2, V 3) else gk_bd1 (m_X2_hasStretch (Z b) x4 x5) (fun q => if q = (0 : Int32) then some ((-12 : Int32), V 0, V 1, V 2, V 3) else gk_cp x2 x4 x5 80 80 (some (x5, setV V b (va_cpy (V a) (V b) x2.toNatClampNeg x4.toNatClampNeg x5.toNatClampNeg) 0, setV V b (va_cpy (V a) (V b) x2.toNatClampNeg x4.toNatClampNeg x5.toNatClampNeg) 1, setV V b (va_cpy (V a) (V b) x2.toNatClampNeg x4.toNatClampNeg x5.toNatClampNeg) 2, setV V b (va_cpy (V a) (V b) x2.toNatClampNeg x4.toNatClampNeg x5.toNatClampNeg) 3)))) else some ((-13 : Int32), V 0, V 1, V 2, V 3)) else some ((-11 : Int32), V 0, V 1, V 2, V 3)) else some ((-11 : Int32), V 0, V 1, V 2, V 3))
set_option maxHeartbeats 1000000 in
theorem x5_copy {S Z : Nat → Int32} {V : Nat → Nat → Int64} {r o : Nat} (hr : r < 4) (ho : o < 4) (x2 x4 x5 : Int32) : m_X5_copy (S 0) (Z 0) (V 0) (S 1) (Z 1) (V 1) (S 2) (Z 2) (V 2) (S 3) (Z 3) (V 3) (nI r) x2 (nI o) x4 x5 = cpF S Z V x2 x4 x5 r o := by
  unfold m_X5_copy m_X5_copy_0
  rw [v5_row, if_pos (fok_nI (show 4 ≤ 2 ^ 31 by omega) hr), bd1_some, if_pos rfl, v5_row, if_pos (fok_nI (show 4 ≤ 2 ^ 31 by omega) ho), bd1_some, if_pos rfl]
  exact (sel4I (fun a => if nI o = 0 then cpF S Z V x2 x4 x5 a 0 else if nI o = 1 then cpF S Z V x2 x4 x5 a 1 else if nI o = 2 then cpF S Z V x2 x4 x5 a 2 else if nI o = 3 then cpF S Z V x2 x4 x5 a 3 else none) none hr).trans (sel4I (fun b => cpF S Z V x2 x4 x5 r b) none ho)
theorem VR.copy {S Z : Nat → Int32} {I : Nat → Int64} {V : Nat → Nat → Int64} (h : VR S Z I V) {r o i j k : Nat} (hr : r < 4) (ho : o < 4) (hi : i + k ≤ 80) (hj : j + k ≤ 80) (m : Nat → Int64) : VR S Z (fb_put I (fa_fill (fun t => I (80 * r + i + t)) m k) (80 * o + j) k) (setV V o (va_cpy (V r) (V o) i j k)) := by
  refine h.setI ho (fun t ht => ?_) (fun t ht => ?_)
  · unfold va_cpy
    by_cases q : j ≤ t ∧ t < j + k
    · rw [if_pos q, fb_put_in (by omega) (by omega), fa_fill_in (by omega), (h r hr).2.2 _ (by omega)]
      congr 1
      omega
    · rw [if_neg q, fb_put_out (by omega)]
      exact (h o ho).2.2 t ht
  · rw [fb_put_out (by omega)]
theorem o_copy {S Z : Nat → Int32} {I m : Nat → Int64} {V : Nat → Nat → Int64} (h : VR S Z I V) (x1 x2 x3 x4 x5 : Int32) : ∃ r I' V' m', m_X5_copy (S 0) (Z 0) (V 0) (S 1) (Z 1) (V 1) (S 2) (Z 2) (V 2) (S 3) (Z 3) (V 3) x1 x2 x3 x4 x5 = some (r, V' 0, V' 1, V' 2, V' 3) ∧ m_X6_copy S Z I m x1 x2 x3 x4 x5 = some (r, I', m') ∧ VR S Z I' V' := by
  by_cases h1 : fok 4 x1 = true
  case neg =>
    refine ⟨-2, I, V, m, ?_, ?_, h⟩
    · unfold m_X5_copy m_X5_copy_0
      rw [v5_row, bd1_some, if_neg h1, if_neg (by decide)]
    · unfold m_X6_copy m_X6_copy_0
      rw [v6_row, bd1_some, if_neg h1, if_pos rfl]
  by_cases h2 : fok 4 x3 = true
  case neg =>
    refine ⟨-2, I, V, m, ?_, ?_, h⟩
    · unfold m_X5_copy m_X5_copy_0
      rw [v5_row, bd1_some, if_pos h1, if_pos rfl, v5_row, bd1_some, if_neg h2, if_neg (by decide)]
    · unfold m_X6_copy m_X6_copy_0
      rw [v6_row, bd1_some, if_pos h1, if_neg (by decide), v6_row, bd1_some, if_neg h2, if_pos rfl]
  obtain ⟨r, hr, rfl⟩ := fok_ex (by omega) h1
  obtain ⟨o, ho, rfl⟩ := fok_ex (by omega) h2
  rw [x5_copy hr ho]
  unfold cpF m_X6_copy m_X6_copy_0
  obtain ⟨hs, ⟨z, hz, hZ, hsz⟩, hv⟩ := h r hr
  obtain ⟨hs', ⟨z', hz', hZ', hsz'⟩, hv'⟩ := h o ho
  simp only [v6_row, h1, h2, if_true, bd1_some, i10, if_false, ix_ok hr (show 4 < 2 ^ 31 by omega), ix_ok ho (show 4 < 2 ^ 31 by omega), nI_clamp (show r < 2 ^ 31 by omega), nI_clamp (show o < 2 ^ 31 by omega), hZ, hZ', hasStr hz, hasStr hz', v_isMiss, q10]
  by_cases a : S r = -1
  · exact ⟨-11, I, V, m, by simp only [a, not_true, if_false], by simp only [a, if_true], h⟩
  by_cases b : S o = -1
  · exact ⟨-11, I, V, m, by simp only [a, b, not_true, not_false_eq_true, if_true, if_false], by simp only [a, b, if_true, if_false], h⟩
  simp only [a, b, not_false_eq_true, if_true, if_false]
  by_cases c : S r = S o
  case neg => exact ⟨-13, I, V, m, by simp only [c, if_false], by simp only [c, if_false], h⟩
  simp only [c, if_true, cmp_gt, cmp_le, Int64.lt_iff_toInt_lt, Int64.le_iff_toInt_le, add64, Int32.toInt_toInt64, nI_toInt (show z < 2 ^ 31 by omega), nI_toInt (show z' < 2 ^ 31 by omega)]
  simp only [Int32.lt_iff_toInt_lt, i0]
  by_cases d : (0 ≤ x2.toInt ∧ 0 ≤ x5.toInt ∧ x2.toInt + x5.toInt ≤ z) ∧ (0 ≤ x4.toInt ∧ 0 ≤ x5.toInt ∧ x4.toInt + x5.toInt ≤ z')
  case neg =>
    refine ⟨-12, I, V, m, ?_, ?_, h⟩
    · by_cases d1 : 0 ≤ x2.toInt ∧ 0 ≤ x5.toInt ∧ x2.toInt + x5.toInt ≤ z
      · rw [if_neg (fun q => q d1), if_pos (fun q => d ⟨d1, q⟩)]
      · rw [if_pos d1]
    · by_cases d1 : x5.toInt < 0
      · rw [if_pos d1]
      rw [if_neg d1]
      by_cases d2 : x2.toInt < 0
      · rw [if_pos d2]
      rw [if_neg d2]
      by_cases d3 : x4.toInt < 0
      · rw [if_pos d3]
      rw [if_neg d3]
      by_cases d4 : (z : Int) < x2.toInt + x5.toInt
      · rw [if_pos d4]
      rw [if_neg d4, if_neg (by omega)]
  obtain ⟨⟨d1, d2, d3⟩, d4, -, d5⟩ := d
  have f1 : ¬ x5.toInt < 0 := by omega
  have f2 : ¬ x2.toInt < 0 := by omega
  have f3 : ¬ x4.toInt < 0 := by omega
  have f4 : ¬ (z : Int) < x2.toInt + x5.toInt := by omega
  obtain ⟨i, hi, rfl⟩ : ∃ i, i ≤ 80 ∧ x2 = nI i := ⟨x2.toInt.toNat, by omega, toNat_nI d1⟩
  obtain ⟨k, hk, rfl⟩ : ∃ i, i ≤ 80 ∧ x5 = nI i := ⟨x5.toInt.toNat, by omega, toNat_nI d2⟩
  obtain ⟨j, hj, rfl⟩ : ∃ i, i ≤ 80 ∧ x4 = nI i := ⟨x4.toInt.toNat, by omega, toNat_nI d4⟩
  rw [nI_toInt (by omega), nI_toInt (by omega)] at d3 d5
  have hcp : ∀ q : Option (Int32 × (Nat → Int64) × (Nat → Int64) × (Nat → Int64) × (Nat → Int64)), gk_cp (nI i) (nI j) (nI k) 80 80 q = q := fun q => by
    unfold gk_cp
    rw [nI_toInt (by omega), nI_toInt (by omega), nI_toInt (by omega), if_pos (by omega)]
  refine ⟨nI k, fb_put I (fa_fill (fun t => I (80 * r + i + t)) m k) (80 * o + j) k, setV V o (va_cpy (V r) (V o) i j k), fa_fill (fun t => I (80 * r + i + t)) m k, ?_, ?_, h.copy hr ho (by omega) (by omega) m⟩
  · rw [if_neg (fun q => q ⟨d1, d2, by rw [nI_toInt (by omega), nI_toInt (by omega)]; omega⟩), if_neg (fun q => q ⟨d4, d2, by rw [nI_toInt (by omega), nI_toInt (by omega)]; omega⟩), hcp, nI_clamp (by omega), nI_clamp (by omega), nI_clamp (by omega)]
  · rw [if_neg f1, if_neg f2, if_neg f3, if_neg f4, if_pos (by rw [nI_toInt (by omega), nI_toInt (by omega)]; omega), v6_moved hr (by omega), bd1_some, v6_back ho (by omega), bd1_some]
/-! film -/
def flA (off w : Nat) (base : Nat → Int64) : Nat → Nat → Int64
  | 0 => base
  | s + 1 => if w.testBit s then vp_updL (flA off w base s) (off + fb_ct w.testBit s) (lN s) else flA off w base s
theorem flA_const {off w : Nat} {base : Nat → Int64} {s : Nat} : ∀ d, fb_ct w.testBit (s + d) = fb_ct w.testBit s → flA off w base (s + d) = flA off w base s
  | 0, _ => rfl
  | d + 1, h => by
    have h1 := fb_ct_mono w.testBit (show s ≤ s + d by omega)
    have h2 := fb_ct_succ w.testBit (s + d)
    rw [show s + (d + 1) = s + d + 1 from rfl] at h
    rw [h] at h2
    have h3 : w.testBit (s + d) = false := by
      cases q : w.testBit (s + d) with
      | false => rfl
      | true => rw [q] at h2; simp at h2; omega
    rw [h3] at h2
    simp at h2
    rw [show s + (d + 1) = s + d + 1 from rfl, flA, h3]
    exact flA_const d h2.symm
theorem flA_rel {r w : Nat} {v J : Nat → Int64} (h : ∀ i, i < 80 → v i = J (80 * r + i)) : ∀ s, s ≤ 64 → ∀ i, i < 80 → flA 0 w v s i = flA (80 * r) w J s (80 * r + i)
  | 0, _, i, hi => h i hi
  | s + 1, hs, i, hi => by
    have ih := flA_rel (w := w) h s (by omega)
    unfold flA
    split
    · by_cases e : i = fb_ct w.testBit s
      · subst e; rw [Nat.zero_add, pk_uLs, pk_uLs]
      · rw [pk_uLn (by omega), pk_uLn (by omega)]
        exact ih i hi
    · exact ih i hi
theorem flA_out {r w : Nat} {J : Nat → Int64} : ∀ s, s ≤ 64 → ∀ k, (k < 80 * r ∨ 80 * r + 80 ≤ k) → flA (80 * r) w J s k = J k
  | 0, _, k, _ => rfl
  | s + 1, hs, k, hk => by
    have ih := flA_out (r := r) (w := w) (J := J) s (by omega) k hk
    have := fb_ct_le w.testBit s
    unfold flA
    split
    · rw [pk_uLn (by omega)]; exact ih
    · exact ih
theorem low_set : ∀ o, o < 4 → ∀ s, s < 64 → lowB (nI o) (nI s).toInt64 = lN s := by decide +kernel
theorem wid : ∀ s, s < 64 → (nI s).toInt64 = lN s := by decide +kernel
theorem v5_film {s z : Int32} {v : Nat → Int64} {w o : Nat} (hw : w < 2 ^ 64) (ho : o < 4) : m_X2_becomeMembers s z v (lN w) (nI o) = some (nI o, nI (fb_ct w.testBit 64), flA 0 w (fa_fill (fun _ => 0) v 80) 64) := by
  unfold m_X2_becomeMembers m_X2_becomeMembers_0
  rw [popL hw, bd1_some, v_begin, bd3_some]
  have hc := fb_ct_le w.testBit 64
  have hl : gk_lp (fun z => m_X2_becomeMembers_B15 (nI o) (nI (fb_ct w.testBit 64)) (lN w) z.1 z.2.1 z.2.2) gk_fu ((0 : Int32), (0 : Int32), fa_fill (fun _ => 0) v 80) = some (match ffO (fun s => decide (fb_ct w.testBit 64 ≤ fb_ct w.testBit s)) 64 with
      | some i => flA 0 w (fa_fill (fun _ => 0) v 80) i
      | none => flA 0 w (fa_fill (fun _ => 0) v 80) 64) := by
    refine ruS (fun i => (nI (fb_ct w.testBit i), nI i, flA 0 w (fa_fill (fun _ => 0) v 80) i)) (fun s => decide (fb_ct w.testBit 64 ≤ fb_ct w.testBit s)) (fun i => flA 0 w (fa_fill (fun _ => 0) v 80) i) 64 rfl (by omega) (fun i hi _ hp => ?_) (fun i hi _ hp => ?_) (fun _ => ?_)
    · show m_X2_becomeMembers_B15 (nI o) (nI (fb_ct w.testBit 64)) (lN w) (nI (fb_ct w.testBit i)) (nI i) (flA 0 w (fa_fill (fun _ => 0) v 80) i) = some (Sum.inl (nI (fb_ct w.testBit (i + 1)), nI (i + 1), flA 0 w (fa_fill (fun _ => 0) v 80) (i + 1)))
      have hp' : ¬ fb_ct w.testBit 64 ≤ fb_ct w.testBit i := by simpa using hp
      have := fb_ct_le w.testBit i
      unfold m_X2_becomeMembers_B15
      rw [if_neg (gel 64 hi), if_neg (nI_ge (by omega) (by omega)), v_holds hw hi, bd1_some, v_wr (show fb_ct w.testBit i < 80 by omega), bd1_some, low_set o ho i hi, nI_1, nI_1, fb_ct_succ, flA, Nat.zero_add]
      simp only [q10]
      cases w.testBit i <;> simp
    · show m_X2_becomeMembers_B15 (nI o) (nI (fb_ct w.testBit 64)) (lN w) (nI (fb_ct w.testBit i)) (nI i) (flA 0 w (fa_fill (fun _ => 0) v 80) i) = _
      have hp' : fb_ct w.testBit 64 ≤ fb_ct w.testBit i := by simpa using hp
      have := fb_ct_le w.testBit i
      unfold m_X2_becomeMembers_B15
      rw [if_neg (gel 64 hi), if_pos (nI_le hp' (by omega))]
    · show m_X2_becomeMembers_B15 (nI o) (nI (fb_ct w.testBit 64)) (lN w) _ (nI 64) _ = _
      unfold m_X2_becomeMembers_B15
      rw [if_pos (lel 64 (by omega))]
  rw [hl, bd1_some]
  cases e : ffO (fun s => decide (fb_ct w.testBit 64 ≤ fb_ct w.testBit s)) 64 with
  | none => rfl
  | some i =>
    obtain ⟨a, b, -⟩ := ffO_some e
    have b' : fb_ct w.testBit 64 ≤ fb_ct w.testBit i := by simpa using b
    have b2 := fb_ct_mono w.testBit (show i ≤ 64 by omega)
    have := flA_const (off := 0) (w := w) (base := fa_fill (fun _ => 0) v 80) (s := i) (64 - i) (by rw [show i + (64 - i) = 64 by omega]; omega)
    rw [show i + (64 - i) = 64 by omega] at this
    rw [this]
theorem ct_all {n w : Nat} (hn : n ≤ 6) (hw : w < 2 ^ 2 ^ n) : fb_ct w.testBit 64 = fb_ct w.testBit (2 ^ n) := by
  have h6 := pow6 hn
  have := fb_ct_split w.testBit (2 ^ n) (64 - 2 ^ n)
  rw [show 2 ^ n + (64 - 2 ^ n) = 64 by omega] at this
  rw [this, fb_ct_zero.mpr (fun k _ => show w.testBit (2 ^ n + k) = false from tb_hi hw (by omega)), Nat.add_zero]
theorem v6_film {n w j r : Nat} {M : Nat → Int64} {K S Z : Nat → Int32} {J : Nat → Int64} (hn : n ≤ 6) (hj : j < 6) (hM : M j = lN w) (hw : w < 2 ^ 64) (hr : r < 4) : gk_lp (fun z => m_X6_film_B65 (nI n) M K S Z (nI j) (nI r) z.1 z.2.1 z.2.2) gk_fu ((0 : Int32), (0 : Int32), J) = some (nI (fb_ct w.testBit (2 ^ n)), flA (80 * r) w J (2 ^ n)) := by
  have h6 := pow6 hn
  refine ru (fun i => (nI (fb_ct w.testBit i), nI i, flA (80 * r) w J i)) (2 ^ n) rfl (by omega) (fun i hi => ?_) ?_
  · show m_X6_film_B65 (nI n) M K S Z (nI j) (nI r) (nI (fb_ct w.testBit i)) (nI i) (flA (80 * r) w J i) = some (Sum.inl (nI (fb_ct w.testBit (i + 1)), nI (i + 1), flA (80 * r) w J (i + 1)))
    have := fb_ct_le w.testBit i
    unfold m_X6_film_B65
    rw [shl1 (by omega), if_neg (nI_ge hi (by omega)), v_isMember hj hM hw (by omega), bd1_some, ix80 hr (by omega), ix_ok (show 80 * r + fb_ct w.testBit i < 320 by omega) (by omega), nI_clamp (by omega), nI_1, nI_1, wid i (by omega), fb_ct_succ, flA]
    simp only [q10]
    cases w.testBit i <;> simp
  · show m_X6_film_B65 (nI n) M K S Z (nI j) (nI r) _ (nI (2 ^ n)) _ = _
    unfold m_X6_film_B65
    rw [shl1 (by omega), if_pos (nI_le (Nat.le_refl _) (by omega))]
theorem o_film {n : Nat} {M : Nat → Int64} {K S Z : Nat → Int32} {I : Nat → Int64} {V : Nat → Nat → Int64} (hn : n ≤ 6) (hV : VF n M K) (h : VR S Z I V) (x1 x2 x3 : Int32) : ∃ r S' Z' I' V', m_X5_film M K (S 0) (Z 0) (V 0) (S 1) (Z 1) (V 1) (S 2) (Z 2) (V 2) (S 3) (Z 3) (V 3) x1 x2 x3 = some (r, S' 0, Z' 0, V' 0, S' 1, Z' 1, V' 1, S' 2, Z' 2, V' 2, S' 3, Z' 3, V' 3) ∧ m_X6_film (nI n) M K S Z I x1 x2 x3 = some (r, S', Z', I') ∧ VR S' Z' I' V' := by
  have h6 := pow6 hn
  unfold m_X5_film m_X5_film_0 m_X6_film m_X6_film_0
  have e3 : ∀ A B : Option (Int32 × Int32 × Int32 × (Nat → Int64) × Int32 × Int32 × (Nat → Int64) × Int32 × Int32 × (Nat → Int64) × Int32 × Int32 × (Nat → Int64)), (if x3 < 0 then A else if x3 < 4 then B else A) = if fok (3 + 1) x3 = true then B else A := fun A B => by
    simp only [Int32.lt_iff_toInt_lt, i0, show (4 : Int32).toInt = 4 from by decide, fok_iff]
    by_cases q1 : x3.toInt < 0
    · rw [if_pos q1, if_neg (by omega)]
    · rw [if_neg q1]
      by_cases q2 : x3.toInt < 4
      · rw [if_pos q2, if_pos (by omega)]
      · rw [if_neg q2, if_neg (by omega)]
  rw [e3]
  simp only [v5_fam, v6_fam, v5_row, v6_row, bd1_some, q01, q10, show m_X6_isIn x3.toInt64 (0 : Int64) (3 : Int64) = _ from v6_in x3 3 (by omega)]
  by_cases h0 : fok 6 x1 = true
  case neg => exact ⟨-2, S, Z, I, V, by simp only [h0, Bool.false_eq_true, if_false], by simp only [h0, Bool.false_eq_true, not_false_eq_true, if_true], h⟩
  by_cases h1 : fok 4 x2 = true
  case neg => exact ⟨-2, S, Z, I, V, by simp only [h0, h1, Bool.false_eq_true, if_true, if_false], by simp only [h0, h1, Bool.false_eq_true, not_true, not_false_eq_true, if_true, if_false], h⟩
  by_cases h2 : fok (3 + 1) x3 = true
  case neg => exact ⟨-2, S, Z, I, V, by simp only [h0, h1, h2, Bool.false_eq_true, if_true, if_false], by simp only [h0, h1, h2, Bool.false_eq_true, not_true, not_false_eq_true, if_true, if_false], h⟩
  obtain ⟨j, hj, rfl⟩ := fok_ex (by omega) h0
  obtain ⟨r, hr, rfl⟩ := fok_ex (by omega) h1
  obtain ⟨o, ho, rfl⟩ := fok_ex (by omega) h2
  obtain ⟨⟨w, hw, hM⟩, -⟩ := hV j hj
  have hw64 : w < 2 ^ 64 := Nat.lt_of_lt_of_le hw (pp6 hn)
  obtain ⟨b0, b1, b2, b3⟩ := q4 hr
  simp only [h0, h1, h2, if_true, not_true, if_false, v5_missing hj, bd1_some, q10, ix_ok hj (show 6 < 2 ^ 31 by omega), nI_clamp (show j < 2 ^ 31 by omega), hM, v5_film hw64 ho, bd3_some, v_size hw64, v_lays hr, bd4_some, v6_film hn hj hM hw64 hr, bd2_some, b0, b1, b2, b3]
  by_cases hk : K j = -1
  · exact ⟨-11, S, Z, I, V, by simp only [hk, not_true, if_false], by simp only [hk, if_true], h⟩
  simp only [hk, not_false_eq_true, if_true, if_false]
  have hc := fb_ct_le w.testBit 64
  have hos : -1 ≤ (nI o).toInt ∧ (nI o).toInt ≤ 3 := by rw [nI_toInt (by omega)]; omega
  refine ⟨nI (fb_ct w.testBit 64), upd S r (nI o), upd Z r (nI (fb_ct w.testBit 64)), flA (80 * r) w (fb_put I (fun _ => 0) (80 * r) 80) (2 ^ n), setV V r (flA 0 w (fa_fill (fun _ => 0) (V r) 80) 64), ?_, by rw [ct_all hn hw], ?_⟩
  · obtain rfl | rfl | rfl | rfl : r = 0 ∨ r = 1 ∨ r = 2 ∨ r = 3 := by omega
    all_goals rfl
  · have hf : flA (80 * r) w (fb_put I (fun _ => 0) (80 * r) 80) 64 = flA (80 * r) w (fb_put I (fun _ => 0) (80 * r) 80) (2 ^ n) := by
      have := flA_const (off := 80 * r) (w := w) (base := fb_put I (fun _ => 0) (80 * r) 80) (s := 2 ^ n) (64 - 2 ^ n) (by rw [show 2 ^ n + (64 - 2 ^ n) = 64 by omega, ct_all hn hw])
      rwa [show 2 ^ n + (64 - 2 ^ n) = 64 by omega] at this
    refine h.set hr hos (by omega) (fun q => absurd q (nI_ne (by omega))) (fun i hi => ?_) (fun k hk => ?_)
    · rw [← hf]
      refine flA_rel (fun i hi => ?_) 64 (Nat.le_refl _) i hi
      rw [fa_fill_in hi, fb_put_in (by omega) (by omega)]
    · rw [flA_out _ (by omega) k hk, fb_put_out hk]
