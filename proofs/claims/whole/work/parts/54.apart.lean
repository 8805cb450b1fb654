/-! ===== apart ===== -/
theorem ruI {S R : Type} {f : S → Option (S ⊕ R)} (Inv : S → Prop) (Post : R → Prop) (μ : S → Nat) (h : ∀ s, Inv s → (∃ s', f s = some (.inl s') ∧ Inv s' ∧ μ s' < μ s) ∨ (∃ r, f s = some (.inr r) ∧ Post r)) : ∀ k s, Inv s → μ s < k → ∃ r, gk_lp f k s = some r ∧ Post r
  | 0, s, _, hk => absurd hk (Nat.not_lt_zero _)
  | k + 1, s, hi, hk => by
    rcases h s hi with ⟨s', e, hi', hm⟩ | ⟨r, e, hp⟩
    · rw [gk_lp, e]
      exact ruI Inv Post μ h k s' hi' (by omega)
    · rw [gk_lp, e]
      exact ⟨r, rfl, hp⟩
def adj (a b : Nat) : Bool := decide (fb_ct (a ^^^ b).testBit 6 ≤ 2)
/-- the ring: all that k exchanges reach -/
def rng (n w x : Nat) : Nat → Nat → Bool
  | 0, v => decide (v = x)
  | k + 1, v => rng n w x k v || (w.testBit v && decide (∃ u, u < 2 ^ n ∧ rng n w x k u = true ∧ adj u v = true))
/-! rings -/
def c1P (n a s : Nat) : Nat → Bool
  | 0 => a.testBit s
  | i + 1 => c1P n a s i || a.testBit (s ^^^ 2 ^ i)
def ch1 (n a : Nat) : Nat := bsn (fun s => c1P n a s n) 64
theorem ch1_bit {n a s : Nat} (hs : s < 64) : (ch1 n a).testBit s = c1P n a s n := by rw [ch1, bsn_bit]; simp [hs]
theorem c1P_iff (n a s : Nat) : ∀ i, c1P n a s i = true ↔ a.testBit s = true ∨ ∃ p, p < i ∧ a.testBit (s ^^^ 2 ^ p) = true
  | 0 => by simp [c1P]
  | i + 1 => by
    rw [c1P, Bool.or_eq_true, c1P_iff n a s i]
    constructor
    · rintro ((h | ⟨p, h1, h2⟩) | h)
      · exact Or.inl h
      · exact Or.inr ⟨p, by omega, h2⟩
      · exact Or.inr ⟨i, by omega, h⟩
    · rintro (h | ⟨p, h1, h2⟩)
      · exact Or.inl (Or.inl h)
      · by_cases e : p = i
        · subst e; exact Or.inr h2
        · exact Or.inl (Or.inr ⟨p, by omega, h2⟩)
theorem v_ch1 {n a : Nat} (hn : n ≤ 6) (ha : a < 2 ^ 64) : m_X0_changedByOne (lN a) (nI n) = some (lN (ch1 n a)) := by
  unfold m_X0_changedByOne m_X0_changedByOne_0
  have hl : gk_lp (fun z => m_X0_changedByOne_B5 (lN a) (nI n) z.1 z.2) gk_fu (lN a, (0 : Int32)) = some (lN (ch1 n a)) := by
    refine ru (fun i => (lN (bsn (fun s => c1P n a s i) 64), nI i)) n ?_ (by omega) (fun i hi => ?_) ?_
    · show _ = (lN (bsn (fun s => a.testBit s) 64), nI 0)
      rw [show bsn (fun s => a.testBit s) 64 = a from bsn_self ha]; rfl
    · show m_X0_changedByOne_B5 (lN a) (nI n) (lN (bsn (fun s => c1P n a s i) 64)) (nI i) = some (Sum.inl (lN (bsn (fun s => c1P n a s (i + 1)) 64), nI (i + 1)))
      unfold m_X0_changedByOne_B5
      rw [if_neg (nI_ge hi (by omega)), v5_tw1 ha (by omega), bd1_some, fb_orL, nI_1]
      congr 3
      refine lN_mod64 (bsn_lt _ _) (fun s hs => ?_)
      rw [Nat.testBit_or, bsn_bit, bsn_bit, tw_bit hs, c1P]
      simp [hs]
    · show m_X0_changedByOne_B5 (lN a) (nI n) _ (nI n) = _
      unfold m_X0_changedByOne_B5
      rw [if_pos (nI_le (Nat.le_refl _) (by omega))]
      rfl
  rw [hl]
  rfl
theorem adj_one : ∀ d, d < 64 → (fb_ct d.testBit 6 ≤ 2 ↔ (d = 0 ∨ (∃ p, p < 6 ∧ d = 2 ^ p) ∨ ∃ p, p < 6 ∧ ∃ q, q < 6 ∧ d = 2 ^ p ^^^ 2 ^ q)) := by decide +kernel
theorem pw_in {n p : Nat} (h : 2 ^ p < 2 ^ n) : p < n := by
  apply Nat.lt_of_not_le
  intro q
  have := two_le q
  omega
theorem two_bits : ∀ p, p < 6 → ∀ q, q < 6 → (p = q ∨ ((2 ^ p ^^^ 2 ^ q).testBit p = true ∧ (2 ^ p ^^^ 2 ^ q).testBit q = true)) := by decide +kernel
theorem ch2_iff {n a s : Nat} (hn : n ≤ 6) (ha : a < 2 ^ 2 ^ n) (hs : s < 2 ^ n) : (ch1 n (ch1 n a)).testBit s = true ↔ ∃ u, u < 2 ^ n ∧ a.testBit u = true ∧ adj u s = true := by
  have h6 := pow6 hn
  have ain : ∀ u, a.testBit u = true → u < 2 ^ n := fun u h => Nat.lt_of_not_le (fun q => by rw [tb_hi ha q] at h; cases h)
  have px : ∀ p, p < n → 2 ^ p < 2 ^ n := fun p hp => Nat.pow_lt_pow_right (by omega) hp
  have hin : ∀ t, t < 64 → ((ch1 n a).testBit t = true ↔ a.testBit t = true ∨ ∃ p, p < n ∧ a.testBit (t ^^^ 2 ^ p) = true) := fun t ht => by
    rw [ch1_bit ht, c1P_iff]
  have aj : ∀ u, u < 64 → (adj u s = true ↔ (u ^^^ s = 0 ∨ (∃ p, p < 6 ∧ u ^^^ s = 2 ^ p) ∨ ∃ p, p < 6 ∧ ∃ q, q < 6 ∧ u ^^^ s = 2 ^ p ^^^ 2 ^ q)) := fun u hu => by
    unfold adj
    rw [decide_eq_true_iff]
    exact adj_one _ (xlt6 hu (by omega))
  have cx : ∀ b, (s ^^^ b) ^^^ s = b := fun b => by rw [Nat.xor_comm s b, Nat.xor_assoc, Nat.xor_self, Nat.xor_zero]
  rw [ch1_bit (by omega), c1P_iff]
  constructor
  · rintro (h | ⟨p, hp, h⟩)
    · rcases (hin s (by omega)).mp h with h | ⟨p, hp, h⟩
      · exact ⟨s, hs, h, (aj s (by omega)).mpr (Or.inl (Nat.xor_self s))⟩
      · refine ⟨s ^^^ 2 ^ p, ain _ h, h, (aj _ (xlt6 (by omega) (p6 p (by omega)))).mpr (Or.inr (Or.inl ⟨p, by omega, cx _⟩))⟩
    · have hl : s ^^^ 2 ^ p < 64 := xlt6 (by omega) (p6 p (by omega))
      rcases (hin _ hl).mp h with h | ⟨q, hq, h⟩
      · refine ⟨s ^^^ 2 ^ p, ain _ h, h, (aj _ hl).mpr (Or.inr (Or.inl ⟨p, by omega, cx _⟩))⟩
      · refine ⟨s ^^^ 2 ^ p ^^^ 2 ^ q, ain _ h, h, (aj _ (xlt6 hl (p6 q (by omega)))).mpr (Or.inr (Or.inr ⟨p, by omega, q, by omega, ?_⟩))⟩
        rw [Nat.xor_assoc s, cx]
  · rintro ⟨u, hu, ha', hadj⟩
    have back : ∀ b, u ^^^ s = b → u = s ^^^ b := fun b h => by
      rw [← h, Nat.xor_comm u s, ← Nat.xor_assoc, Nat.xor_self, Nat.zero_xor]
    rcases (aj u (by omega)).mp hadj with h | ⟨p, hp, h⟩ | ⟨p, hp, q, hq, h⟩
    · have e := back _ h
      rw [Nat.xor_zero] at e
      subst e
      exact Or.inl ((hin u (by omega)).mpr (Or.inl ha'))
    · have e := back _ h
      have hpn : p < n := pw_in (by rw [← h]; exact xlt hu hs)
      exact Or.inl ((hin s (by omega)).mpr (Or.inr ⟨p, hpn, by rw [← e]; exact ha'⟩))
    · have e := back _ h
      by_cases epq : p = q
      · subst epq
        rw [Nat.xor_self, Nat.xor_zero] at e
        subst e
        exact Or.inl ((hin u (by omega)).mpr (Or.inl ha'))
      · have hlt : 2 ^ p ^^^ 2 ^ q < 2 ^ n := by rw [← h]; exact xlt hu hs
        obtain ⟨b1, b2⟩ := (two_bits p hp q hq).resolve_left epq
        have hpn : p < n := Nat.lt_of_not_le (fun z => by rw [tb_hi hlt z] at b1; cases b1)
        have hqn : q < n := Nat.lt_of_not_le (fun z => by rw [tb_hi hlt z] at b2; cases b2)
        refine Or.inr ⟨p, hpn, (hin _ (xlt6 (by omega) (p6 p hp))).mpr (Or.inr ⟨q, hqn, ?_⟩)⟩
        rw [Nat.xor_assoc, ← e]
        exact ha'
def rgN (n w x k : Nat) : Nat := bsn (rng n w x k) (2 ^ n)
theorem rgN_bit {n w x k v : Nat} (hv : v < 2 ^ n) : (rgN n w x k).testBit v = rng n w x k v := by rw [rgN, bsn_bit]; simp [hv]
theorem rgN_s {n w x k : Nat} (hn : n ≤ 6) (hw : w < 2 ^ 2 ^ n) : rgN n w x k ||| (w &&& ch1 n (ch1 n (rgN n w x k))) = rgN n w x (k + 1) := by
  refine tb_ext (n := 2 ^ n) (Nat.or_lt_two_pow (bsn_lt _ _) (Nat.lt_of_le_of_lt Nat.and_le_left hw)) (bsn_lt _ _) (fun v hv => ?_)
  rw [Nat.testBit_or, Nat.testBit_and]
  show _ = (rgN n w x (k + 1)).testBit v
  rw [rgN_bit hv, rgN_bit hv, rng]
  congr 2
  rw [Bool.eq_iff_iff, ch2_iff hn (show rgN n w x k < 2 ^ 2 ^ n from bsn_lt _ _) hv, decide_eq_true_iff]
  constructor
  · rintro ⟨u, a, b, c⟩
    exact ⟨u, a, by rw [← rgN_bit a]; exact b, c⟩
  · rintro ⟨u, a, b, c⟩
    exact ⟨u, a, by rw [rgN_bit a]; exact b, c⟩
theorem ch1_lt (n a : Nat) : ch1 n a < 2 ^ 64 := bsn_lt _ _
theorem v5_between {n w x y : Nat} (hn : n ≤ 6) (hw : w < 2 ^ 2 ^ n) (hx : x < 2 ^ n) (hy : y < 2 ^ n) : m_X0_exchangesBetween (lN w) (nI x) (nI y) (nI n) = some (enc (ffO (fun k => rng n w x k y) 64)) := by
  have h6 := pow6 hn
  unfold m_X0_exchangesBetween m_X0_exchangesBetween_0
  have hl : gk_bs0 (gk_lp (fun z => m_X0_exchangesBetween_B8 (lN w) (nI y) (nI n) z.1 z.2) gk_fu ((1 : Int64) <<< ((nI x).toInt64 &&& 63), (0 : Int32))) (fun r => some r) (some (-1 : Int32)) = match ffO (fun k => rng n w x k y) 64 with
      | some i => some (nI i)
      | none => some (-1 : Int32) := by
    have hlt : ∀ k, rgN n w x k < 2 ^ 64 := fun k => Nat.lt_of_lt_of_le (bsn_lt _ _) (pp6 hn)
    refine ruB (fun i => (lN (rgN n w x i), nI i)) (fun k => rng n w x k y) (fun i => nI i) 64 ?_ (by omega) (fun i hi _ hp => ?_) (fun i hi _ hp => ?_) (fun _ => ?_)
    · show _ = (lN (rgN n w x 0), nI 0)
      rw [shlL (by omega)]
      have : 2 ^ x = rgN n w x 0 := by
        refine tb_ext (n := 2 ^ n) (Nat.pow_lt_pow_right (by omega) hx) (bsn_lt _ _) (fun s hs => ?_)
        show _ = (rgN n w x 0).testBit s
        rw [rgN_bit hs, Nat.testBit_two_pow, rng]
        apply decide_eq_decide.mpr
        exact eq_comm
      rw [this]; rfl
    · show m_X0_exchangesBetween_B8 (lN w) (nI y) (nI n) (lN (rgN n w x i)) (nI i) = some (Sum.inl (lN (rgN n w x (i + 1)), nI (i + 1)))
      unfold m_X0_exchangesBetween_B8 m_X0_changedByTwo m_X0_changedByTwo_0
      rw [if_neg (gel 64 hi), v_holds (hlt i) (by omega), bd1_some, v_ch1 hn (hlt i), bd1_some, v_ch1 hn (ch1_lt _ _), bd1_some, bd1_some, fb_andL, fb_orL, rgN_s hn hw, rgN_bit hy, nI_1]
      have hp' : rng n w x i y = false := hp
      simp [hp']
    · show m_X0_exchangesBetween_B8 (lN w) (nI y) (nI n) (lN (rgN n w x i)) (nI i) = _
      unfold m_X0_exchangesBetween_B8
      rw [if_neg (gel 64 hi), v_holds (hlt i) (by omega), bd1_some, rgN_bit hy]
      have hp' : rng n w x i y = true := hp
      simp [hp']
    · show m_X0_exchangesBetween_B8 (lN w) (nI y) (nI n) _ (nI 64) = _
      unfold m_X0_exchangesBetween_B8
      rw [if_pos (lel 64 (by omega))]
  rw [hl]
  cases ffO (fun k => rng n w x k y) 64 <;> rfl
/-! the reference: a queue. D: how far; Q: the queue -/
abbrev QI (n w x : Nat) (D : Nat → Option Nat) (Q : Nat → Nat) (top : Nat) : Prop := (1 ≤ top) ∧ (∀ k, k < top → Q k < 2 ^ n ∧ w.testBit (Q k) = true) ∧ (∀ k, k < top → ∃ d, D (Q k) = some d ∧ d ≤ k) ∧ (∀ v d, D v = some d → ∃ k, k < top ∧ Q k = v) ∧ (∀ i j, i < j → j < top → Q i ≠ Q j) ∧ (∀ i j a b, i ≤ j → j < top → D (Q i) = some a → D (Q j) = some b → a ≤ b) ∧ (D x = some 0) ∧ (∀ v, D v = some 0 → v = x) ∧ (∀ v d, D v = some (d + 1) → ∃ u, D u = some d ∧ adj u v = true)
theorem QI.t1 {n w x : Nat} {D : Nat → Option Nat} {Q : Nat → Nat} {top : Nat} (h : QI n w x D Q top) : 1 ≤ top := h.1
theorem QI.qin {n w x : Nat} {D : Nat → Option Nat} {Q : Nat → Nat} {top : Nat} (h : QI n w x D Q top) : ∀ k, k < top → Q k < 2 ^ n ∧ w.testBit (Q k) = true := h.2.1
theorem QI.qd {n w x : Nat} {D : Nat → Option Nat} {Q : Nat → Nat} {top : Nat} (h : QI n w x D Q top) : ∀ k, k < top → ∃ d, D (Q k) = some d ∧ d ≤ k := h.2.2.1
theorem QI.dq {n w x : Nat} {D : Nat → Option Nat} {Q : Nat → Nat} {top : Nat} (h : QI n w x D Q top) : ∀ v d, D v = some d → ∃ k, k < top ∧ Q k = v := h.2.2.2.1
theorem QI.inj {n w x : Nat} {D : Nat → Option Nat} {Q : Nat → Nat} {top : Nat} (h : QI n w x D Q top) : ∀ i j, i < j → j < top → Q i ≠ Q j := h.2.2.2.2.1
theorem QI.mono {n w x : Nat} {D : Nat → Option Nat} {Q : Nat → Nat} {top : Nat} (h : QI n w x D Q top) : ∀ i j a b, i ≤ j → j < top → D (Q i) = some a → D (Q j) = some b → a ≤ b := h.2.2.2.2.2.1
theorem QI.d0 {n w x : Nat} {D : Nat → Option Nat} {Q : Nat → Nat} {top : Nat} (h : QI n w x D Q top) : D x = some 0 := h.2.2.2.2.2.2.1
theorem QI.o0 {n w x : Nat} {D : Nat → Option Nat} {Q : Nat → Nat} {top : Nat} (h : QI n w x D Q top) : ∀ v, D v = some 0 → v = x := h.2.2.2.2.2.2.2.1
theorem QI.back {n w x : Nat} {D : Nat → Option Nat} {Q : Nat → Nat} {top : Nat} (h : QI n w x D Q top) : ∀ v d, D v = some (d + 1) → ∃ u, D u = some d ∧ adj u v = true := h.2.2.2.2.2.2.2.2
/-- all next to the places below i are seen -/
def Seen (n w : Nat) (D : Nat → Option Nat) (u lim d : Nat) : Prop := ∀ v, v < lim → w.testBit v = true → adj u v = true → ∃ e, D v = some e ∧ e ≤ d + 1
theorem QI.top_le {n w x top : Nat} {D : Nat → Option Nat} {Q : Nat → Nat} (h : QI n w x D Q top) : top ≤ 2 ^ n := fb_holes (2 ^ n) top Q (fun i hi => (h.qin i hi).1) h.inj
/-- a new one -/
theorem QI.put {n w x top i du v : Nat} {D : Nat → Option Nat} {Q : Nat → Nat} (h : QI n w x D Q top) (hi : i < top) (hd : D (Q i) = some du) (hv : v < 2 ^ n) (hw : w.testBit v = true) (hn : D v = none) (ha : adj (Q i) v = true) (hb : ∀ k d, k < top → D (Q k) = some d → d ≤ du + 1) : QI n w x (fun z => if z = v then some (du + 1) else D z) (fun k => if k = top then v else Q k) (top + 1) := by
  have hQ : ∀ k, k < top → Q k ≠ v := fun k hk q => by
    obtain ⟨d, h1, -⟩ := h.qd k hk
    rw [q, hn] at h1; cases h1
  have hDx : ∀ z d, D z = some d → z ≠ v := fun z d hz q => by rw [q, hn] at hz; cases hz
  refine ⟨by omega, fun k hk => ?_, fun k hk => ?_, fun z d hz => ?_, fun a b hab hb2 => ?_, fun a b p q hab hb2 hp hq => ?_, ?_, fun z hz => ?_, fun z d hz => ?_⟩
  · by_cases e : k = top
    · simp only [e, if_true]; exact ⟨hv, hw⟩
    · simp only [e, if_false]; exact h.qin k (by omega)
  · by_cases e : k = top
    · simp only [e, if_true]
      refine ⟨du + 1, rfl, ?_⟩
      obtain ⟨d, h1, h2⟩ := h.qd i hi
      rw [hd] at h1
      cases h1
      omega
    · simp only [e, if_false, hQ k (by omega)]
      exact h.qd k (by omega)
  · by_cases e : z = v
    · exact ⟨top, by omega, by simp [e]⟩
    · simp only [e, if_false] at hz
      obtain ⟨k, h1, h2⟩ := h.dq z d hz
      refine ⟨k, by omega, ?_⟩
      have : k ≠ top := by omega
      simp only [this, if_false]; exact h2
  · have e1 : a ≠ top := by omega
    simp only [e1, if_false]
    by_cases e : b = top
    · simp only [e, if_true]; exact hQ a (by omega)
    · simp only [e, if_false]; exact h.inj a b hab (by omega)
  · by_cases e2 : b = top
    · simp only [e2, if_true] at hq
      cases hq
      by_cases e1 : a = top
      · simp only [e1, if_true] at hp
        cases hp
        exact Nat.le_refl _
      · simp only [e1, if_false, hQ a (by omega)] at hp
        exact hb a p (by omega) hp
    · have e1 : a ≠ top := by omega
      simp only [e1, if_false, hQ a (by omega)] at hp
      simp only [e2, if_false, hQ b (by omega)] at hq
      exact h.mono a b p q hab (by omega) hp hq
  · simp only [hDx x 0 h.d0, if_false]; exact h.d0
  · by_cases e : z = v
    · simp only [e, if_true] at hz; cases hz
    · simp only [e, if_false] at hz; exact h.o0 z hz
  · by_cases e : z = v
    · simp only [e, if_true] at hz
      cases hz
      refine ⟨Q i, ?_, by rw [e]; exact ha⟩
      simp only [hQ i hi, if_false]; exact hd
    · simp only [e, if_false] at hz
      obtain ⟨u, h1, h2⟩ := h.back z d hz
      refine ⟨u, ?_, h2⟩
      simp only [hDx u d h1, if_false]; exact h1
/-- at the end: just the rings -/
theorem QI.done {n w x top : Nat} {D : Nat → Option Nat} {Q : Nat → Nat} (h : QI n w x D Q top) (hs : ∀ k d, k < top → D (Q k) = some d → Seen n w D (Q k) (2 ^ n) d) : ∀ k v, v < 2 ^ n → (rng n w x k v = true ↔ ∃ d, d ≤ k ∧ D v = some d)
  | 0, v, hv => by
    rw [rng, decide_eq_true_iff]
    constructor
    · intro e; exact ⟨0, Nat.le_refl 0, by rw [e]; exact h.d0⟩
    · rintro ⟨d, h1, h2⟩
      have : d = 0 := by omega
      subst this
      exact h.o0 v h2
  | k + 1, v, hv => by
    have ih := QI.done h hs k
    rw [rng, Bool.or_eq_true, Bool.and_eq_true, decide_eq_true_iff, ih v hv]
    constructor
    · rintro (⟨d, h1, h2⟩ | ⟨h1, u, hu, h2, h3⟩)
      · exact ⟨d, by omega, h2⟩
      · obtain ⟨d, h4, h5⟩ := (ih u hu).mp h2
        obtain ⟨j, h6, h7⟩ := h.dq u d h5
        obtain ⟨e, h8, h9⟩ := hs j d h6 (by rw [h7]; exact h5) v hv h1 (by rw [h7]; exact h3)
        exact ⟨e, by omega, h8⟩
    · rintro ⟨d, h1, h2⟩
      by_cases e : d ≤ k
      · exact Or.inl ⟨d, e, h2⟩
      · have ed : d = k + 1 := by omega
        subst ed
        obtain ⟨u, h3, h4⟩ := h.back v k h2
        obtain ⟨j, h5, h6⟩ := h.dq u k h3
        obtain ⟨l, h7, h8⟩ := h.dq v _ h2
        refine Or.inr ⟨by rw [← h8]; exact (h.qin l h7).2, u, by rw [← h6]; exact (h.qin j h5).1, (ih u (by rw [← h6]; exact (h.qin j h5).1)).mpr ⟨k, Nat.le_refl k, h3⟩, h4⟩
theorem QI.ans {n w x top y : Nat} {D : Nat → Option Nat} {Q : Nat → Nat} (hn : n ≤ 6) (h : QI n w x D Q top) (hs : ∀ k d, k < top → D (Q k) = some d → Seen n w D (Q k) (2 ^ n) d) (hy : y < 2 ^ n) : ffO (fun k => rng n w x k y) 64 = D y := by
  have h6 := pow6 hn
  have hd := h.done hs
  cases e : D y with
  | none =>
    refine ffO_no (fun k _ => ?_)
    cases q : rng n w x k y with
    | false => rfl
    | true =>
      obtain ⟨d, -, h2⟩ := (hd k y hy).mp q
      rw [e] at h2; cases h2
  | some d =>
    obtain ⟨k, h1, h2⟩ := h.dq y d e
    obtain ⟨d', h3, h4⟩ := h.qd k h1
    rw [h2, e] at h3
    cases h3
    have := h.top_le
    refine ffO_is (by omega) ((hd d y hy).mpr ⟨d, Nat.le_refl d, e⟩) (fun j hj => ?_)
    cases q : rng n w x j y with
    | false => rfl
    | true =>
      obtain ⟨d2, h5, h6⟩ := (hd j y hy).mp q
      rw [e] at h6
      cases h6
      omega
/-- the arrays are those -/
def Arr (D : Nat → Option Nat) (Q : Nat → Nat) (top : Nat) (F U : Nat → Int32) : Prop := (∀ v, v < 64 → F v = enc (D v)) ∧ ∀ k, k < top → U k = nI (Q k)
theorem Arr.put {D : Nat → Option Nat} {Q : Nat → Nat} {top v d : Nat} {F U : Nat → Int32} (h : Arr D Q top F U) : Arr (fun z => if z = v then some d else D z) (fun k => if k = top then v else Q k) (top + 1) (upd F v (nI d)) (upd U top (nI v)) := by
  constructor
  · intro z hz
    by_cases e : z = v
    · subst e; rw [pk_us]; simp [enc]
    · rw [pk_un e]; simp only [e, if_false]; exact h.1 z hz
  · intro k hk
    by_cases e : k = top
    · subst e; rw [pk_us]; simp
    · rw [pk_un e]; simp only [e, if_false]; exact h.2 k (by omega)
theorem v6_inner2 {n w x j i du : Nat} {M : Nat → Int64} {K : Nat → Int32} {y : Int32} (hn : n ≤ 6) (hj : j < 6) (hM : M j = lN w) (hw : w < 2 ^ 64) : ∀ (m lo top : Nat) (D : Nat → Option Nat) (Q : Nat → Nat) (F U : Nat → Int32) (fu : Nat), lo + m = 2 ^ n → m < fu → QI n w x D Q top → Arr D Q top F U → i < top → D (Q i) = some du → (∀ k d, k < top → D (Q k) = some d → d ≤ du + 1) → Seen n w D (Q i) lo du → (∀ k d, k < i → D (Q k) = some d → Seen n w D (Q k) (2 ^ n) d) →
    ∃ top' D' Q' F' U', gk_lp (fun z => m_X6_apart_B123 (nI n) M K (nI j) y (nI i) (nI (Q i)) z.1 z.2.1 z.2.2.1 z.2.2.2) fu (nI top, nI lo, F, U) = some (nI top', F', U') ∧ QI n w x D' Q' top' ∧ Arr D' Q' top' F' U' ∧ i < top' ∧ Q' i = Q i ∧ D' (Q i) = some du ∧ (∀ k d, k < top' → D' (Q' k) = some d → d ≤ du + 1) ∧ Seen n w D' (Q i) (2 ^ n) du ∧ (∀ k d, k < i → D' (Q' k) = some d → Seen n w D' (Q' k) (2 ^ n) d)
  | 0, lo, top, D, Q, F, U, fu, hlo, hfu, hQ, hA, hi, hd, hb, hs, hp => by
    obtain ⟨fu, rfl⟩ : ∃ f, fu = f + 1 := ⟨fu - 1, by omega⟩
    have h6 := pow6 hn
    have e : lo = 2 ^ n := by omega
    subst e
    refine ⟨top, D, Q, F, U, ?_, hQ, hA, hi, rfl, hd, hb, hs, hp⟩
    rw [gk_lp]
    have : m_X6_apart_B123 (nI n) M K (nI j) y (nI i) (nI (Q i)) (nI top) (nI (2 ^ n)) F U = some (Sum.inr (nI top, F, U)) := by
      unfold m_X6_apart_B123
      rw [shl1 (by omega), if_pos (nI_le (Nat.le_refl _) (by omega))]
    rw [this]
  | m + 1, lo, top, D, Q, F, U, fu, hlo, hfu, hQ, hA, hi, hd, hb, hs, hp => by
    obtain ⟨fu, rfl⟩ : ∃ f, fu = f + 1 := ⟨fu - 1, by omega⟩
    have h6 := pow6 hn
    have htop := hQ.top_le
    have hQi := (hQ.qin i hi).1
    rw [gk_lp]
    have hax : Q i ^^^ lo < 64 := xlt6 (by omega) (by omega)
    have hct := ct6_le (Q i ^^^ lo)
    have hval : m_X6_apart_B123 (nI n) M K (nI j) y (nI i) (nI (Q i)) (nI top) (nI lo) F U = if w.testBit lo = true ∧ D lo = none ∧ adj (Q i) lo = true then (gk_ix (nI top) 64 (some (Sum.inl (nI (top + 1), nI (lo + 1), upd F lo (nI (du + 1)), upd U top (nI lo))))) else some (Sum.inl (nI top, nI (lo + 1), F, U)) := by
      unfold m_X6_apart_B123
      rw [shl1 (by omega), if_neg (nI_ge (by omega) (by omega)), v_isMember hj hM hw (by omega), bd1_some, fb_xorI, v_ones _ hax, bd1_some, ix_ok (show lo < 64 by omega) (by omega), ix_ok (show lo < 64 by omega) (by omega), ix_ok (show Q i < 64 by omega) (by omega), nI_clamp (by omega), nI_clamp (by omega), nI_clamp (by omega), hA.1 lo (by omega), hA.1 (Q i) (by omega), hd, nI_1, nI_1]
      rw [show enc (some du) + 1 = nI (du + 1) from nI_1 du]
      have hle : (nI (fb_ct (Q i ^^^ lo).testBit 6) ≤ 2) = (adj (Q i) lo = true) := by
        unfold adj
        rw [decide_eq_true_iff]
        exact propext (nI_leI (b := 2) (by omega) (by omega))
      have hen : (enc (D lo) = -1) = (D lo = none) := propext (enc_m1 (fun d he => by
        obtain ⟨k, h1, h2⟩ := hQ.dq lo d he
        obtain ⟨d', h3, h4⟩ := hQ.qd k h1
        rw [h2, he] at h3
        cases h3
        omega))
      simp only [q10, hle, hen]
      by_cases a : w.testBit lo = true
      · by_cases b : D lo = none
        · by_cases c : adj (Q i) lo = true
          · simp [a, b, c]
          · simp [a, b, c]
        · simp [a, b]
      · simp [a]
    rw [hval]
    by_cases hc : w.testBit lo = true ∧ D lo = none ∧ adj (Q i) lo = true
    · obtain ⟨c1, c2, c3⟩ := hc
      rw [if_pos ⟨c1, c2, c3⟩]
      have hQ' := hQ.put hi hd (by omega) c1 c2 c3 hb
      have ht' := hQ'.top_le
      rw [ix_ok (show top < 64 by omega) (by omega)]
      have hDx : ∀ z d, D z = some d → z ≠ lo := fun z d hz q => by rw [q, c2] at hz; cases hz
      have hmono : ∀ u L d, Seen n w D u L d → Seen n w (fun z => if z = lo then some (du + 1) else D z) u L d := by
        intro u L d h v hv hwv hav
        obtain ⟨e, h1, h2⟩ := h v hv hwv hav
        refine ⟨e, ?_, h2⟩
        simp only [hDx v e h1, if_false]; exact h1
      have hQk : ∀ k, k < top → (if k = top then lo else Q k) = Q k := fun k hk => if_neg (by omega)
      have hDk : ∀ k d, k < top → (fun z => if z = lo then some (du + 1) else D z) (if k = top then lo else Q k) = some d → D (Q k) = some d := by
        intro k d hk h
        rw [hQk k hk] at h
        obtain ⟨d', h3, -⟩ := hQ.qd k hk
        simp only [hDx _ _ h3, if_false] at h
        exact h
      obtain ⟨top', D', Q', F', U', r1, r2, r3, r4, r5, r6, r7, r8, r9⟩ := v6_inner2 (i := i) (du := du) (y := y) (K := K) hn hj hM hw m (lo + 1) (top + 1) _ _ (upd F lo (nI (du + 1))) (upd U top (nI lo)) fu (by omega) (by omega) hQ' hA.put (by omega) (by
          simp only [hQk i hi, hDx _ _ hd, if_false]; exact hd) (fun k d hk h => by
          by_cases e : k = top
          · subst e
            simp only [if_true] at h
            cases h
            exact Nat.le_refl _
          · exact hb k d (by omega) (hDk k d (by omega) h)) (by
          rw [hQk i hi]
          intro v hv hwv hav
          by_cases e : v = lo
          · exact ⟨du + 1, by simp [e], Nat.le_refl _⟩
          · exact hmono _ _ _ hs v (by omega) hwv hav) (fun k d hk h => by
          rw [hQk k (by omega)]
          exact hmono _ _ _ (hp k d hk (hDk k d (by omega) h)))
      rw [hQk i hi] at r1 r5 r6 r8
      exact ⟨top', D', Q', F', U', r1, r2, r3, r4, r5, r6, r7, r8, r9⟩
    · rw [if_neg hc]
      refine v6_inner2 (i := i) (du := du) (y := y) (K := K) hn hj hM hw m (lo + 1) top D Q F U fu (by omega) (by omega) hQ hA hi hd hb ?_ hp
      intro v hv hwv hav
      by_cases e : v = lo
      · subst e
        cases hD : D v with
        | none => exact absurd ⟨hwv, hD, hav⟩ hc
        | some d =>
          obtain ⟨k, h1, h2⟩ := hQ.dq v d hD
          exact ⟨d, rfl, hb k d h1 (by rw [h2]; exact hD)⟩
      · exact hs v (by omega) hwv hav
theorem v6_outer {n w x j : Nat} {M : Nat → Int64} {K : Nat → Int32} {y : Int32} (hn : n ≤ 6) (hj : j < 6) (hM : M j = lN w) (hw : w < 2 ^ 64) : ∀ (fu i top : Nat) (D : Nat → Option Nat) (Q : Nat → Nat) (F U : Nat → Int32), 65 - i < fu → QI n w x D Q top → Arr D Q top F U → i ≤ top → (∀ du k d, i < top → D (Q i) = some du → k < top → D (Q k) = some d → d ≤ du + 1) → (∀ k d, k < i → D (Q k) = some d → Seen n w D (Q k) (2 ^ n) d) →
    ∃ top' D' Q' F' U', gk_lp (fun z => m_X6_apart_B104 (nI n) M K (nI j) y z.1 z.2.1 z.2.2.1 z.2.2.2) fu (nI top, nI i, F, U) = some (F', U') ∧ QI n w x D' Q' top' ∧ Arr D' Q' top' F' U' ∧ (∀ k d, k < top' → D' (Q' k) = some d → Seen n w D' (Q' k) (2 ^ n) d)
  | 0, i, top, D, Q, F, U, hfu, _, _, _, _, _ => absurd hfu (Nat.not_lt_zero _)
  | fu + 1, i, top, D, Q, F, U, hfu, hQ, hA, hi, hb, hp => by
    have h6 := pow6 hn
    have htop := hQ.top_le
    rw [gk_lp]
    by_cases e : i = top
    · subst e
      have : m_X6_apart_B104 (nI n) M K (nI j) y (nI i) (nI i) F U = some (Sum.inr (F, U)) := by
        unfold m_X6_apart_B104
        rw [if_pos (nI_le (Nat.le_refl _) (by omega))]
      rw [this]
      exact ⟨i, D, Q, F, U, rfl, hQ, hA, hp⟩
    · have hi' : i < top := by omega
      obtain ⟨du, hd, -⟩ := hQ.qd i hi'
      obtain ⟨top', D', Q', F', U', r1, r2, r3, r4, r5, r6, r7, r8, r9⟩ := v6_inner2 (i := i) (du := du) (y := y) (K := K) hn hj hM hw (2 ^ n) 0 top D Q F U gk_fu (by omega) (by show 2 ^ n < 800; omega) hQ hA hi' hd (fun k d hk h => hb du k d hi' hd hk h) (fun v hv => absurd hv (Nat.not_lt_zero v)) hp
      have ht' := r2.top_le
      have : m_X6_apart_B104 (nI n) M K (nI j) y (nI top) (nI i) F U = some (Sum.inl (nI top', nI (i + 1), F', U')) := by
        unfold m_X6_apart_B104
        rw [if_neg (nI_ge hi' (by omega)), ix_ok (show i < 64 by omega) (by omega), nI_clamp (by omega), hA.2 i hi', nI_1]
        rw [show (nI top, (0 : Int32), F, U) = (nI top, nI 0, F, U) from rfl, r1]
        rfl
      rw [this]
      refine v6_outer (y := y) (K := K) hn hj hM hw fu (i + 1) top' D' Q' F' U' (by omega) r2 r3 (by omega) (fun dv k d h1 h2 h3 h4 => ?_) (fun k d hk h => ?_)
      · have q1 := r7 k d h3 h4
        have q2 := r2.mono i (i + 1) du dv (by omega) h1 (by rw [r5]; exact r6) h2
        omega
      · by_cases ek : k = i
        · subst ek
          rw [r5] at h ⊢
          rw [r6] at h
          cases h
          exact r8
        · exact r9 k d (by omega) h
theorem v6_fill64 {n j : Nat} {M : Nat → Int64} {K U F : Nat → Int32} {x y : Int32} {z : Int32} : gk_lp (fun s => m_X6_apart_B63 (nI n) M K U z x y s.1 s.2) gk_fu ((0 : Int32), F) = some (fa_fill (fun _ => (-1 : Int32)) F 64) := by
  refine ru (fun i => (nI i, fa_fill (fun _ => (-1 : Int32)) F i)) 64 ?_ (by omega) (fun i hi => ?_) ?_
  · show _ = (nI 0, fa_fill (fun _ => (-1 : Int32)) F 0)
    rw [fa_fill_0]; rfl
  · show m_X6_apart_B63 (nI n) M K U z x y (nI i) (fa_fill (fun _ => (-1 : Int32)) F i) = some (Sum.inl (nI (i + 1), fa_fill (fun _ => (-1 : Int32)) F (i + 1)))
    unfold m_X6_apart_B63
    rw [if_neg (gel 64 hi), ix_ok hi (by omega), nI_clamp (by omega), nI_1, fa_fill_succ (fun _ => (-1 : Int32)) F i]
  · show m_X6_apart_B63 (nI n) M K U z x y (nI 64) _ = _
    unfold m_X6_apart_B63
    rw [if_pos (lel 64 (by omega))]
theorem o_apart {n : Nat} {M : Nat → Int64} {K F U : Nat → Int32} (hn : n ≤ 6) (hV : VF n M K) (x1 x2 x3 : Int32) : ∃ r F' U', m_X5_apart (nI n) M K x1 x2 x3 = some r ∧ m_X6_apart (nI n) M K F U x1 x2 x3 = some (r, F', U') := by
  have h6 := pow6 hn
  unfold m_X5_apart m_X5_apart_0 m_X6_apart m_X6_apart_0
  simp only [v5_fam, v6_fam, v5_set hn, v6_set hn, bd1_some, q01, q10]
  by_cases h1 : fok 6 x1 = true
  case neg => exact ⟨-2, F, U, by simp [h1], by simp [h1]⟩
  by_cases h2 : fok (2 ^ n) x2 = true
  case neg => exact ⟨-2, F, U, by simp [h1, h2], by simp [h1, h2]⟩
  by_cases h3 : fok (2 ^ n) x3 = true
  case neg => exact ⟨-2, F, U, by simp [h1, h2, h3], by simp [h1, h2, h3]⟩
  obtain ⟨j, hj, rfl⟩ := fok_ex (by omega) h1
  obtain ⟨x, hx, rfl⟩ := fok_ex (by omega) h2
  obtain ⟨y, hy, rfl⟩ := fok_ex (by omega) h3
  obtain ⟨⟨w, hw, hM⟩, -⟩ := hV j hj
  have hw64 : w < 2 ^ 64 := Nat.lt_of_lt_of_le hw (pp6 hn)
  have hx6 : x < 64 := by omega
  have hy6 : y < 64 := by omega
  simp only [h1, h2, h3, if_true, not_true, if_false, v5_missing hj, bd1_some, q10, ix_ok hj (show 6 < 2 ^ 31 by omega), nI_clamp (show j < 2 ^ 31 by omega), hM, v_holds hw64 hx6, v_holds hw64 hy6, v_isMember hj hM hw64 hx6, v_isMember hj hM hw64 hy6, v5_between hn hw hx hy]
  by_cases hk : K j = -1
  · exact ⟨-11, F, U, by simp [hk], by simp [hk]⟩
  simp only [hk, not_false_eq_true, if_true, if_false]
  by_cases a : w.testBit x = true
  case neg => exact ⟨-3, F, U, by simp [a], by simp [a]⟩
  by_cases b : w.testBit y = true
  case neg => exact ⟨-3, F, U, by simp [a, b], by simp [a, b]⟩
  simp only [a, b, not_true, if_false]
  rw [v6_fill64 (j := j), bd1_some]
  unfold m_X6_apart_J84
  rw [ix_ok hx6 (by omega), show gk_ix (0 : Int32) 64 = gk_ix (nI 0) 64 from rfl, ix_ok (show 0 < 64 by omega) (by omega), nI_clamp (by omega), c0]
  have hQ0 : QI n w x (fun v => if v = x then some 0 else none) (fun _ => x) 1 := by
    refine ⟨by omega, fun _ _ => ⟨hx, a⟩, fun k hk => ⟨0, by simp, by omega⟩, fun v d h => ⟨0, by omega, ?_⟩, fun i j h1 h2 => by omega, fun i j p q _ _ h1 h2 => ?_, by simp, fun v h => ?_, fun v d h => ?_⟩
    · by_cases e : v = x
      · exact e.symm
      · simp [e] at h
    · simp at h1 h2; omega
    · by_cases e : v = x
      · exact e
      · simp [e] at h
    · by_cases e : v = x
      · simp [e] at h
      · simp [e] at h
  have hA0 : Arr (fun v => if v = x then some 0 else none) (fun _ => x) 1 (upd (fa_fill (fun _ => (-1 : Int32)) F 64) x 0) (upd U 0 (nI x)) := by
    constructor
    · intro v hv
      by_cases e : v = x
      · subst e; rw [pk_us]; simp [enc]; rfl
      · rw [pk_un e, fa_fill_in hv]; simp [e, enc]
    · intro k hk
      have : k = 0 := by omega
      subst this
      rw [pk_us]
  obtain ⟨top', D', Q', F', U', r1, r2, r3, r4⟩ := v6_outer (y := nI y) (K := K) (x := x) hn hj hM hw64 gk_fu 0 1 _ _ _ _ (by show 65 - 0 < 800; omega) hQ0 hA0 (by omega) (fun du k d _ h1 _ h2 => by simp at h1 h2; omega) (fun k d hk => absurd hk (Nat.not_lt_zero k))
  rw [show ((1 : Int32), (0 : Int32), upd (fa_fill (fun _ => (-1 : Int32)) F 64) x 0, upd U 0 (nI x)) = (nI 1, nI 0, upd (fa_fill (fun _ => (-1 : Int32)) F 64) x 0, upd U 0 (nI x)) from rfl, r1, bd2_some, ix_ok hy6 (by omega), nI_clamp (by omega), r3.1 y hy6, r2.ans hn r4 hy]
  exact ⟨_, F', U', rfl, rfl⟩
