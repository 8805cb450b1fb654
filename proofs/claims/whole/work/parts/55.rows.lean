/-! ===== rows ===== -/
def VR (S Z : Nat → Int32) (I : Nat → Int64) (V : Nat → Nat → Int64) : Prop := ∀ r, r < 4 → (-1 ≤ (S r).toInt ∧ (S r).toInt ≤ 3) ∧ (∃ z, z ≤ 80 ∧ Z r = nI z ∧ (S r = -1 → z = 0)) ∧ ∀ i, i < 80 → V r i = I (80 * r + i)
def setV (V : Nat → Nat → Int64) (r : Nat) (v : Nat → Int64) : Nat → Nat → Int64 := fun k => if k = r then v else V k
theorem VR.set {S Z : Nat → Int32} {I I' : Nat → Int64} {V : Nat → Nat → Int64} (h : VR S Z I V) {r z : Nat} {s : Int32} {v : Nat → Int64} (hr : r < 4) (hs : -1 ≤ s.toInt ∧ s.toInt ≤ 3) (hz : z ≤ 80) (hsz : s = -1 → z = 0) (hv : ∀ i, i < 80 → v i = I' (80 * r + i)) (ho : ∀ k, (k < 80 * r ∨ 80 * r + 80 ≤ k) → I' k = I k) : VR (upd S r s) (upd Z r (nI z)) I' (setV V r v) := by
  intro k hk
  obtain ⟨h1, h2, h3⟩ := h k hk
  by_cases e : k = r
  · subst e
    rw [pk_us, pk_us]
    refine ⟨hs, ⟨z, hz, rfl, hsz⟩, fun i hi => ?_⟩
    simp only [setV, if_true]
    exact hv i hi
  · rw [pk_un e, pk_un e]
    refine ⟨h1, h2, fun i hi => ?_⟩
    simp only [setV, e, if_false]
    rw [h3 i hi, ho _ (by omega)]
theorem VR.setI {S Z : Nat → Int32} {I I' : Nat → Int64} {V : Nat → Nat → Int64} (h : VR S Z I V) {r : Nat} {v : Nat → Int64} (hr : r < 4) (hv : ∀ i, i < 80 → v i = I' (80 * r + i)) (ho : ∀ k, (k < 80 * r ∨ 80 * r + 80 ≤ k) → I' k = I k) : VR S Z I' (setV V r v) := by
  intro k hk
  obtain ⟨h1, h2, h3⟩ := h k hk
  refine ⟨h1, h2, fun i hi => ?_⟩
  by_cases e : k = r
  · subst e
    simp only [setV, if_true]
    exact hv i hi
  · simp only [setV, e, if_false]
    rw [h3 i hi, ho _ (by omega)]
theorem putL_succ (f g : Nat → Int64) (a n : Nat) : vp_updL (fb_put f g a n) (a + n) (g n) = fb_put f g a (n + 1) := by
  funext k
  by_cases e : k = a + n
  · subst e
    rw [pk_uLs, fb_put_in (by omega) (by omega)]
    congr 1
    omega
  · rw [pk_uLn e]
    by_cases q : a ≤ k ∧ k < a + n
    · rw [fb_put_in q.1 q.2, fb_put_in q.1 (by omega)]
    · rw [fb_put_out (by omega), fb_put_out (by omega)]
theorem ix80 {r i : Nat} (hr : r < 4) (hi : i < 80) : (80 : Int32) * nI r + nI i = nI (80 * r + i) := by
  rw [show (80 : Int32) = nI 80 from rfl, pk_mul, nI_add]
theorem hasPl {z : Nat} (hz : z ≤ 80) (x : Int32) : m_X2_hasPlace (nI z) x = some (if fok z x then 1 else 0) := by
  unfold m_X2_hasPlace m_X2_hasPlace_0
  simp only [Int32.lt_iff_toInt_lt, Int32.le_iff_toInt_le, i0, nI_toInt (show z < 2 ^ 31 by omega)]
  by_cases h1 : x.toInt < 0
  · rw [if_pos h1, if_neg (by rw [fok_iff]; omega)]
  · rw [if_neg h1]
    by_cases h2 : (z : Int) ≤ x.toInt
    · rw [if_pos h2, if_neg (by rw [fok_iff]; omega)]
    · rw [if_neg h2, if_pos (by rw [fok_iff]; omega)]
theorem nI_m {z : Nat} (hz : z ≤ 80) : (nI z - 1).toInt = (z : Int) - 1 := by
  rw [fb_subI (by rw [nI_toInt (by omega), show (1 : Int32).toInt = 1 from by decide]; omega) (by rw [nI_toInt (by omega), show (1 : Int32).toInt = 1 from by decide]; omega), nI_toInt (by omega)]
  rfl
theorem v6_inZ {z : Nat} (hz : z ≤ 80) (x : Int32) : m_X6_isIn x.toInt64 (0 : Int64) ((nI z - 1).toInt64) = some (if fok z x then 1 else 0) := by
  rw [v_isIn]
  have e : ((0 : Int64).toInt ≤ x.toInt64.toInt ∧ x.toInt64.toInt ≤ (nI z - 1).toInt64.toInt) ↔ fok z x = true := by
    rw [fok_iff, Int32.toInt_toInt64, Int32.toInt_toInt64, nI_m hz, show (0 : Int64).toInt = 0 from by decide]
    omega
  simp only [e]
theorem i10 : ((1 : Int32) = 0) = False := by decide
theorem q4 {r : Nat} (hr : r < 4) : ((nI r = 0) = (r = 0)) ∧ ((nI r = 1) = (r = 1)) ∧ ((nI r = 2) = (r = 2)) ∧ ((nI r = 3) = (r = 3)) :=
  ⟨propext (nI_eq (show r < 2 ^ 31 by omega) (show 0 < 2 ^ 31 by omega)), propext (nI_eq (show r < 2 ^ 31 by omega) (show 1 < 2 ^ 31 by omega)), propext (nI_eq (show r < 2 ^ 31 by omega) (show 2 < 2 ^ 31 by omega)), propext (nI_eq (show r < 2 ^ 31 by omega) (show 3 < 2 ^ 31 by omega))⟩
/-- one of four -/
theorem sel4 {α : Type} (f : Nat → α) (e : α) {r : Nat} (hr : r < 4) : (if r = 0 then f 0 else if r = 1 then f 1 else if r = 2 then f 2 else if r = 3 then f 3 else e) = f r := by
  obtain rfl | rfl | rfl | rfl : r = 0 ∨ r = 1 ∨ r = 2 ∨ r = 3 := by omega
  · rfl
  · rfl
  · rfl
  · rfl
theorem setV0 (V : Nat → Nat → Int64) (r : Nat) (v : Nat → Int64) : setV V r v r = v := if_pos rfl
theorem v_lays {S Z : Nat → Int32} {I : Nat → Int64} {r : Nat} {o k : Int32} (hr : r < 4) : m_X6_lays S Z I (nI r) o k = some (1, upd S r o, upd Z r k, fb_put I (fun _ => 0) (80 * r) 80) := by
  unfold m_X6_lays m_X6_lays_0
  rw [ix_ok hr (by omega), ix_ok hr (by omega), nI_clamp (by omega)]
  have hl : gk_lp (fun z => m_X6_lays_B17 (upd S r o) (upd Z r k) (nI r) z.1 z.2) gk_fu ((0 : Int32), I) = some (fb_put I (fun _ => 0) (80 * r) 80) := by
    refine ru (fun i => (nI i, fb_put I (fun _ => 0) (80 * r) i)) 80 ?_ (by omega) (fun i hi => ?_) ?_
    · show _ = (nI 0, fb_put I (fun _ => 0) (80 * r) 0)
      rw [fb_put_0]; rfl
    · show m_X6_lays_B17 (upd S r o) (upd Z r k) (nI r) (nI i) (fb_put I (fun _ => 0) (80 * r) i) = some (Sum.inl (nI (i + 1), fb_put I (fun _ => 0) (80 * r) (i + 1)))
      unfold m_X6_lays_B17
      rw [if_neg (gel 80 hi), ix80 hr hi, ix_ok (show 80 * r + i < 320 by omega) (by omega), nI_clamp (by omega), nI_1, ← putL_succ]
    · show m_X6_lays_B17 (upd S r o) (upd Z r k) (nI r) (nI 80) _ = _
      unfold m_X6_lays_B17
      rw [if_pos (lel 80 (by omega))]
  rw [hl]
  rfl
theorem v_begin (s z : Int32) (v : Nat → Int64) (a b : Int32) : m_X2_begin s z v a b = some (a, b, fa_fill (fun _ => 0) v 80) := by
  unfold m_X2_begin m_X2_begin_0
  rw [v_fillL (by omega)]
  rfl
theorem VR.lay {S Z : Nat → Int32} {I : Nat → Int64} {V : Nat → Nat → Int64} (h : VR S Z I V) {r z : Nat} {s : Int32} (hr : r < 4) (hs : -1 ≤ s.toInt ∧ s.toInt ≤ 3) (hz : z ≤ 80) (hsz : s = -1 → z = 0) : VR (upd S r s) (upd Z r (nI z)) (fb_put I (fun _ => 0) (80 * r) 80) (setV V r (fa_fill (fun _ => 0) (V r) 80)) := by
  refine h.set hr hs hz hsz (fun i hi => ?_) (fun k hk => ?_)
  · rw [fa_fill_in hi, fb_put_in (by omega) (by omega)]
  · rw [fb_put_out hk]
theorem o_row {S Z : Nat → Int32} {I : Nat → Int64} {V : Nat → Nat → Int64} (h : VR S Z I V) (x1 x2 x3 : Int32) : ∃ r S' Z' I' V', m_X5_row (S 0) (Z 0) (V 0) (S 1) (Z 1) (V 1) (S 2) (Z 2) (V 2) (S 3) (Z 3) (V 3) x1 x2 x3 = some (r, S' 0, Z' 0, V' 0, S' 1, Z' 1, V' 1, S' 2, Z' 2, V' 2, S' 3, Z' 3, V' 3) ∧ m_X6_row S Z I x1 x2 x3 = some (r, S', Z', I') ∧ VR S' Z' I' V' := by
  unfold m_X5_row m_X5_row_0 m_X6_row m_X6_row_0 m_X6_row_J35
  simp only [v5_row, v6_row, bd1_some, q01, q10, v_begin, bd3_some]
  by_cases h1 : fok 4 x1 = true
  case neg => exact ⟨-2, S, Z, I, V, by simp [h1], by simp [h1], h⟩
  obtain ⟨r, hr, rfl⟩ := fok_ex (by omega) h1
  have hin : m_X6_isIn x2.toInt64 (-1 : Int64) (3 : Int64) = some (if -1 ≤ x2.toInt ∧ x2.toInt ≤ 3 then 1 else 0) := by
    rw [v_isIn]
    simp only [Int32.toInt_toInt64, show (-1 : Int64).toInt = -1 from by decide, show (3 : Int64).toInt = 3 from by decide]
  simp only [h1, if_true, not_true, if_false, hin, bd1_some, q10, v_lays hr, bd4_some]
  by_cases h2 : -1 ≤ x2.toInt ∧ x2.toInt ≤ 3
  case neg =>
    refine ⟨-2, S, Z, I, V, ?_, by simp [h2], h⟩
    by_cases a : x2 < -1
    · simp [a]
    · rw [if_neg a, if_neg]
      rw [Int32.lt_iff_toInt_lt, show (-1 : Int32).toInt = -1 from by decide] at a
      rw [Int32.lt_iff_toInt_lt, show (4 : Int32).toInt = 4 from by decide]
      omega
  have a1 : ¬ x2 < -1 := by
    rw [Int32.lt_iff_toInt_lt, show (-1 : Int32).toInt = -1 from by decide]; omega
  have a2 : x2 < 4 := by
    rw [Int32.lt_iff_toInt_lt, show (4 : Int32).toInt = 4 from by decide]; omega
  obtain ⟨b0, b1, b2, b3⟩ := q4 hr
  simp only [h2, a1, a2, and_self, not_true, if_true, if_false, b0, b1, b2, b3]
  by_cases h3 : x2 = -1
  · subst h3
    simp only [if_true]
    refine ⟨1, upd S r (-1), upd Z r (nI 0), _, setV V r (fa_fill (fun _ => 0) (V r) 80), ?_, rfl, h.lay hr h2 (by omega) (fun _ => rfl)⟩
    obtain rfl | rfl | rfl | rfl : r = 0 ∨ r = 1 ∨ r = 2 ∨ r = 3 := by omega
    all_goals rfl
  · simp only [h3, if_false]
    by_cases h4 : x3 ≤ 80
    · by_cases h5 : 0 ≤ x3
      · simp only [h4, h5, if_true]
        have h5' := h5
        rw [Int32.le_iff_toInt_le, i0] at h5'
        have h4' := h4
        rw [Int32.le_iff_toInt_le, show (80 : Int32).toInt = 80 from by decide] at h4'
        obtain ⟨z, hz, rfl⟩ : ∃ z, z ≤ 80 ∧ x3 = nI z := ⟨x3.toInt.toNat, by omega, toNat_nI h5'⟩
        refine ⟨1, upd S r x2, upd Z r (nI z), _, setV V r (fa_fill (fun _ => 0) (V r) 80), ?_, rfl, h.lay hr h2 hz (fun q => absurd q h3)⟩
        obtain rfl | rfl | rfl | rfl : r = 0 ∨ r = 1 ∨ r = 2 ∨ r = 3 := by omega
        all_goals rfl
      · exact ⟨-14, S, Z, I, V, by simp only [h4, h5, if_true, if_false], by simp only [h4, h5, if_true, if_false], h⟩
    · exact ⟨-2, S, Z, I, V, by simp only [h4, if_false], by simp only [h4, if_false], h⟩
def lowB (s : Int32) (v : Int64) : Int64 := if s = 0 then v.toInt32.toInt8.toInt32.toInt64 else if s = 1 then v.toInt32.toInt16.toInt32.toInt64 else if s = 2 then v.toInt32.toInt64 else v
theorem v_low5 (s : Int32) (v : Int64) : m_X2_lowestBits s v = some (lowB s v) := by
  unfold m_X2_lowestBits m_X2_lowestBits_0 lowB
  split
  · rfl
  · split
    · rfl
    · split <;> rfl
theorem v_low6 (s : Int32) (v : Int64) : m_X6_lowest s v = some (lowB s v) := by
  unfold m_X6_lowest m_X6_lowest_0 lowB
  split
  · rfl
  · split
    · rfl
    · split <;> rfl
theorem v_wr {s : Int32} {f : Nat → Int64} {i : Nat} {v : Int64} (hi : i < 80) : m_X2_write s f (nI i) v = some (vp_updL f i (lowB s v)) := by
  unfold m_X2_write m_X2_write_0
  rw [v_low5, bd1_some, ix_ok hi (by omega), nI_clamp (by omega)]
theorem VR.put {S Z : Nat → Int32} {I : Nat → Int64} {V : Nat → Nat → Int64} (h : VR S Z I V) {r i : Nat} {v : Int64} (hr : r < 4) (hi : i < 80) : VR S Z (vp_updL I (80 * r + i) v) (setV V r (vp_updL (V r) i v)) := by
  refine h.setI hr (fun k hk => ?_) (fun k hk => ?_)
  · by_cases e : k = i
    · subst e; rw [pk_uLs, pk_uLs]
    · rw [pk_uLn e, pk_uLn (by omega)]
      exact (h r hr).2.2 k hk
  · rw [pk_uLn (by omega)]
theorem o_put {S Z : Nat → Int32} {I : Nat → Int64} {V : Nat → Nat → Int64} (h : VR S Z I V) (x1 x2 : Int32) (x3 : Int64) : ∃ r I' V', m_X5_put (S 0) (Z 0) (V 0) (S 1) (Z 1) (V 1) (S 2) (Z 2) (V 2) (S 3) (Z 3) (V 3) x1 x2 x3 = some (r, V' 0, V' 1, V' 2, V' 3) ∧ m_X6_put S Z I x1 x2 x3 = some (r, I') ∧ VR S Z I' V' := by
  unfold m_X5_put m_X5_put_0 m_X6_put m_X6_put_0
  simp only [v5_row, v6_row, bd1_some, q01, q10, v_isMiss]
  by_cases h1 : fok 4 x1 = true
  case neg => exact ⟨-2, I, V, by simp [h1], by simp [h1], h⟩
  obtain ⟨r, hr, rfl⟩ := fok_ex (by omega) h1
  obtain ⟨hs, ⟨z, hz, hZ, hsz⟩, hv⟩ := h r hr
  obtain ⟨b0, b1, b2, b3⟩ := q4 hr
  simp only [h1, if_true, not_true, if_false, ix_ok hr (show 4 < 2 ^ 31 by omega), nI_clamp (show r < 2 ^ 31 by omega), hZ, v6_inZ hz, bd1_some, q10, v_low6, b0, b1, b2, b3]
  have e := sel4 (fun k => if ¬ S k = -1 then gk_bd1 (m_X2_hasPlace (Z k) x2) (fun b => if b = 0 then some ((-12 : Int32), V 0, V 1, V 2, V 3) else gk_bd1 (m_X2_write (S k) (V k) x2 x3) (fun c => some ((1 : Int32), setV V k c 0, setV V k c 1, setV V k c 2, setV V k c 3))) else some ((-11 : Int32), V 0, V 1, V 2, V 3)) none hr
  by_cases a : S r = -1
  · exact ⟨-11, I, V, e.trans (by simp only [a, not_true, if_false]), by simp only [a, if_true], h⟩
  by_cases b : fok z x2 = true
  case neg => exact ⟨-12, I, V, e.trans (by simp only [a, not_false_eq_true, if_true, hZ, hasPl hz, bd1_some, q10, b, Bool.false_eq_true]), by simp only [a, if_false, b, not_false_eq_true, if_true, Bool.false_eq_true], h⟩
  obtain ⟨i, hi, rfl⟩ := fok_ex (by omega) b
  refine ⟨1, _, setV V r (vp_updL (V r) i (lowB (S r) x3)), e.trans (by simp only [a, not_false_eq_true, if_true, hZ, hasPl hz, bd1_some, i10, b, not_true, if_false, v_wr (show i < 80 by omega)]), ?_, h.put hr (show i < 80 by omega)⟩
  simp only [a, b, not_true, if_false, ix80 hr (show i < 80 by omega), ix_ok (show 80 * r + i < 320 by omega) (show 320 < 2 ^ 31 by omega), nI_clamp (show 80 * r + i < 2 ^ 31 by omega)]
theorem o_get {S Z : Nat → Int32} {I : Nat → Int64} {V : Nat → Nat → Int64} (h : VR S Z I V) (x1 x2 : Int32) : ∃ r, m_X5_get (S 0) (Z 0) (V 0) (S 1) (Z 1) (V 1) (S 2) (Z 2) (V 2) (S 3) (Z 3) (V 3) x1 x2 = some r ∧ m_X6_get Z I x1 x2 = some r := by
  unfold m_X5_get m_X5_get_0 m_X6_get m_X6_get_0
  simp only [v5_row, v6_row, bd1_some, q01, q10, v_isMiss]
  by_cases h1 : fok 4 x1 = true
  case neg => exact ⟨-9223372036854775808, by simp [h1], by simp [h1]⟩
  obtain ⟨r, hr, rfl⟩ := fok_ex (by omega) h1
  obtain ⟨hs, ⟨z, hz, hZ, hsz⟩, hv⟩ := h r hr
  obtain ⟨b0, b1, b2, b3⟩ := q4 hr
  simp only [h1, if_true, not_true, if_false, ix_ok hr (show 4 < 2 ^ 31 by omega), nI_clamp (show r < 2 ^ 31 by omega), hZ, v6_inZ hz, bd1_some, q10, b0, b1, b2, b3]
  have e := sel4 (fun k => if ¬ S k = -1 then gk_bd1 (m_X2_hasPlace (Z k) x2) (fun b => if b = 0 then some (-9223372036854775808 : Int64) else gk_ix x2 80 (some (V k x2.toNatClampNeg))) else some (-9223372036854775808 : Int64)) none hr
  by_cases a : S r = -1
  · have := hsz a
    subst this
    have hf : ¬ fok 0 x2 = true := by rw [fok_iff]; omega
    exact ⟨-9223372036854775808, e.trans (by simp only [a, not_true, if_false]), by simp only [hf, not_false_eq_true, if_true, Bool.false_eq_true]⟩
  by_cases b : fok z x2 = true
  case neg => exact ⟨-9223372036854775808, e.trans (by simp only [a, not_false_eq_true, if_true, hZ, hasPl hz, bd1_some, q10, b, Bool.false_eq_true]), by simp only [b, not_false_eq_true, if_true, Bool.false_eq_true]⟩
  obtain ⟨i, hi, rfl⟩ := fok_ex (by omega) b
  refine ⟨V r i, e.trans (by simp only [a, not_false_eq_true, if_true, hZ, hasPl hz, bd1_some, i10, b, not_true, if_false, ix_ok (show i < 80 by omega) (show 80 < 2 ^ 31 by omega), nI_clamp (show i < 2 ^ 31 by omega)]), ?_⟩
  simp only [b, not_true, if_false, ix80 hr (show i < 80 by omega), ix_ok (show 80 * r + i < 320 by omega) (show 320 < 2 ^ 31 by omega), nI_clamp (show 80 * r + i < 2 ^ 31 by omega), hv i (show i < 80 by omega)]
/-! lay -/
def lyOk (n : Nat) (v : Int64) : Bool := decide (0 ≤ v.toInt ∧ v.toInt < 2 ^ n)
def lyF (n : Nat) (v : Nat → Int64) : Nat → Nat
  | 0 => 0
  | i + 1 => if lyOk n (v i) then lyF n v i ||| 2 ^ (v i).toInt.toNat else lyF n v i
theorem lyF_lt (n : Nat) (v : Nat → Int64) : ∀ i, lyF n v i < 2 ^ 2 ^ n
  | 0 => Nat.two_pow_pos _
  | i + 1 => by
    have ih := lyF_lt n v i
    unfold lyF
    by_cases h : lyOk n (v i) = true
    · rw [if_pos h]
      refine Nat.or_lt_two_pow ih (Nat.pow_lt_pow_right (by omega) ?_)
      unfold lyOk at h
      rw [decide_eq_true_iff] at h
      have h1 := h.1
      have h2 := h.2
      have : ((2 ^ n : Nat) : Int) = (2 : Int) ^ n := by norm_cast
      omega
    · rw [if_neg h]; exact ih
theorem lyF_cong {n : Nat} {v u : Nat → Int64} : ∀ {i : Nat}, (∀ k, k < i → v k = u k) → lyF n v i = lyF n u i
  | 0, _ => rfl
  | i + 1, h => by rw [lyF, lyF, lyF_cong (fun k hk => h k (by omega)), h i (by omega)]
theorem ly_val {n : Nat} (hn : n ≤ 6) {v : Int64} (h : lyOk n v = true) : (1 : Int64) <<< (v.toInt32.toInt64 &&& 63) = lN (2 ^ v.toInt.toNat) := by
  unfold lyOk at h
  rw [decide_eq_true_iff] at h
  have h6 := pow6 hn
  have h2 : ((2 ^ n : Nat) : Int) = (2 : Int) ^ n := by norm_cast
  have hm : v.toInt.toNat < 64 := by omega
  have e : v = lN v.toInt.toNat := by
    apply Int64.toInt_inj.mp
    rw [pf_lI (by omega)]
    omega
  rw [e]
  generalize v.toInt.toNat = m at *
  rw [show (lN m).toInt32 = nI m from (by decide +kernel : ∀ m, m < 64 → (lN m).toInt32 = nI m) m hm, shlL hm, pf_lI (by omega)]
  rfl
theorem v5_asSets {n z : Nat} (hn : n ≤ 6) (hz : z ≤ 80) (v : Nat → Int64) : m_X2_asSets (nI z) v (nI n) = some (lN (lyF n v z)) := by
  unfold m_X2_asSets m_X2_asSets_0
  have hl : gk_lp (fun s => m_X2_asSets_B5 (nI z) v (nI n) s.1 s.2) gk_fu ((0 : Int64), (0 : Int32)) = some (lN (lyF n v z)) := by
    refine ru (fun i => (lN (lyF n v i), nI i)) z rfl (by omega) (fun i hi => ?_) ?_
    · show m_X2_asSets_B5 (nI z) v (nI n) (lN (lyF n v i)) (nI i) = some (Sum.inl (lN (lyF n v (i + 1)), nI (i + 1)))
      unfold m_X2_asSets_B5
      simp only [if_neg (nI_ge hi (show z < 2 ^ 31 by omega)), ix_ok (show i < 80 by omega) (show 80 < 2 ^ 31 by omega), nI_clamp (show i < 2 ^ 31 by omega), shlL (show n < 64 by omega), cmp_lt, nI_1, lyF]
      have hge : (0 ≤ lg_cmp (v i) (lN (2 ^ n))) ↔ ¬ (v i).toInt < 2 ^ n := by
        have h6 := pow6 hn
        have h2 : ((2 ^ n : Nat) : Int) = (2 : Int) ^ n := by norm_cast
        have := cmp_lt (v i) (lN (2 ^ n))
        rw [Int64.lt_iff_toInt_lt, pf_lI (by omega), h2, Int32.lt_iff_toInt_lt, i0] at this
        rw [← this, Int32.le_iff_toInt_le, i0]
        omega
      simp only [hge, Int64.lt_iff_toInt_lt, show (0 : Int64).toInt = 0 from by decide]
      by_cases q : lyOk n (v i) = true
      · rw [ly_val hn q, fb_orL]
        have q' := q
        unfold lyOk at q'
        rw [decide_eq_true_iff] at q'
        rw [if_neg (by omega), if_neg (fun z => z q'.2), if_pos q]
      · rw [if_neg q]
        have q' := q
        unfold lyOk at q'
        rw [decide_eq_true_iff] at q'
        by_cases a : (v i).toInt < 0
        · rw [if_pos a]
        · rw [if_neg a, if_pos (fun z => q' ⟨by omega, z⟩)]
    · show m_X2_asSets_B5 (nI z) v (nI n) _ (nI z) = _
      unfold m_X2_asSets_B5
      rw [if_pos (nI_le (Nat.le_refl _) (by omega))]
  rw [hl]
  rfl
theorem v6_layL {n r z : Nat} {M : Nat → Int64} {K S Z : Nat → Int32} {I : Nat → Int64} {x1 : Int32} (hn : n ≤ 6) (hr : r < 4) (hz : z ≤ 80) (hZ : Z r = nI z) : gk_lp (fun s => m_X6_lay_B35 (nI n) M K S Z I x1 (nI r) s.1 s.2) gk_fu ((0 : Int64), (0 : Int32)) = some (lN (lyF n (fun i => I (80 * r + i)) z)) := by
  have h6 := pow6 hn
  have hpos := Nat.two_pow_pos n
  have h2 : ((2 ^ n : Nat) : Int) = (2 : Int) ^ n := by norm_cast
  refine ru (fun i => (lN (lyF n (fun i => I (80 * r + i)) i), nI i)) z rfl (by omega) (fun i hi => ?_) ?_
  · show m_X6_lay_B35 (nI n) M K S Z I x1 (nI r) (lN (lyF n (fun i => I (80 * r + i)) i)) (nI i) = some (Sum.inl (lN (lyF n (fun i => I (80 * r + i)) (i + 1)), nI (i + 1)))
    unfold m_X6_lay_B35
    rw [ix_ok hr (by omega), nI_clamp (by omega), hZ, if_neg (nI_ge hi (by omega)), ix80 hr (by omega), ix_ok (show 80 * r + i < 320 by omega) (by omega), nI_clamp (by omega), v_isIn, bd1_some, nI_1, lyF]
    have hin : ((0 : Int64).toInt ≤ (I (80 * r + i)).toInt ∧ (I (80 * r + i)).toInt ≤ ((1 : Int32) <<< (nI n &&& 31) - 1).toInt64.toInt) ↔ lyOk n (I (80 * r + i)) = true := by
      unfold lyOk
      rw [decide_eq_true_iff, shl1 (by omega), show (1 : Int32) = nI 1 from rfl, pk_sub (by omega), Int32.toInt_toInt64, nI_toInt (by omega), show (0 : Int64).toInt = 0 from by decide]
      omega
    simp only [hin, q10]
    by_cases q : lyOk n (I (80 * r + i)) = true
    · rw [ly_val hn q, fb_orL]; simp [q]
    · simp [q]
  · show m_X6_lay_B35 (nI n) M K S Z I x1 (nI r) _ (nI z) = _
    unfold m_X6_lay_B35
    rw [ix_ok hr (by omega), nI_clamp (by omega), hZ, if_pos (nI_le (Nat.le_refl _) (by omega))]
theorem o_lay {n : Nat} {M : Nat → Int64} {K S Z : Nat → Int32} {I : Nat → Int64} {V : Nat → Nat → Int64} (hn : n ≤ 6) (hV : VF n M K) (h : VR S Z I V) (x1 x2 : Int32) : ∃ r M' K', m_X5_lay (nI n) M K (S 0) (Z 0) (V 0) (S 1) (Z 1) (V 1) (S 2) (Z 2) (V 2) (S 3) (Z 3) (V 3) x1 x2 = some (r, M', K') ∧ m_X6_lay (nI n) M K S Z I x1 x2 = some (r, M', K') ∧ VF n M' K' := by
  unfold m_X5_lay m_X5_lay_0 m_X6_lay m_X6_lay_0
  simp only [v5_fam, v6_fam, v5_row, v6_row, bd1_some, q01, q10, v_isMiss]
  by_cases h0 : fok 6 x1 = true
  case neg => exact ⟨-2, M, K, by simp [h0], by simp [h0], hV⟩
  by_cases h1 : fok 4 x2 = true
  case neg => exact ⟨-2, M, K, by simp [h0, h1], by simp [h0, h1], hV⟩
  obtain ⟨j, hj, rfl⟩ := fok_ex (by omega) h0
  obtain ⟨r, hr, rfl⟩ := fok_ex (by omega) h1
  obtain ⟨hs, ⟨z, hz, hZ, hsz⟩, hv⟩ := h r hr
  obtain ⟨b0, b1, b2, b3⟩ := q4 hr
  simp only [h0, h1, if_true, not_true, if_false, ix_ok hr (show 4 < 2 ^ 31 by omega), nI_clamp (show r < 2 ^ 31 by omega), b0, b1, b2, b3]
  have e := sel4 (fun k => if ¬ S k = -1 then gk_bd1 (m_X2_asSets (Z k) (V k) (nI n)) (fun a => gk_bd3 (m_X1_become M K (nI j) a (0 : Int32)) (fun p q s => some (p, q, s))) else some ((-11 : Int32), M, K)) none hr
  by_cases a : S r = -1
  · exact ⟨-11, M, K, e.trans (by simp only [a, not_true, if_false]), by simp only [a, if_true], hV⟩
  have hlt := lyF_lt n (fun i => I (80 * r + i)) z
  have hlt64 : lyF n (fun i => I (80 * r + i)) z < 2 ^ 64 := Nat.lt_of_lt_of_le hlt (pp6 hn)
  refine ⟨_, _, _, e.trans (by
    rw [if_pos a, hZ, v5_asSets hn hz, bd1_some, lyF_cong (u := fun i => I (80 * r + i)) (fun k hk => hv k (by omega)), v5_become (n := n) hj hlt64]
    rfl), by rw [if_neg a, v6_layL hn hr hz hZ, bd1_some, v6_becomes (n := n) hj hlt64]; rfl, hV.set hlt (by decide)⟩
