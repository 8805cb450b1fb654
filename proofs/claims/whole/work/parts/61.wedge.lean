/-! ===== numbers modulo 7; rows of them, wedged ===== -/
abbrev F7 : Type := Fin 7
def s6 (f : Nat → F7) : F7 := f 0 + f 1 + f 2 + f 3 + f 4 + f 5
theorem s6_cong {f g : Nat → F7} (h : ∀ p, p < 6 → f p = g p) : s6 f = s6 g := by
  unfold s6
  rw [h 0 (by omega), h 1 (by omega), h 2 (by omega), h 3 (by omega), h 4 (by omega), h 5 (by omega)]
theorem s6_ax (f g : Nat → F7) (c : F7) : s6 (fun p => f p + c * g p) = s6 f + c * s6 g := by
  unfold s6
  grind
theorem s6_mul (f : Nat → F7) (c : F7) : s6 (fun p => c * f p) = c * s6 f := by
  unfold s6
  grind
theorem s6_neg (f : Nat → F7) : s6 (fun p => - f p) = - s6 f := by
  unfold s6
  grind
theorem s6_add (f g : Nat → F7) : s6 (fun p => f p + g p) = s6 f + s6 g := by
  unfold s6
  grind
theorem s6_swap (f : Nat → Nat → F7) : s6 (fun p => s6 (fun q => f p q)) = s6 (fun q => s6 (fun p => f p q)) := by
  unfold s6
  grind
theorem s6_0 {f : Nat → F7} (h : ∀ p, p < 6 → f p = 0) : s6 f = 0 := by
  rw [s6_cong (g := fun _ => 0) h]
  rfl
theorem s6_one {f : Nat → F7} {k : Nat} (hk : k < 6) (h : ∀ p, p < 6 → p ≠ k → f p = 0) : s6 f = f k := by
  have e : s6 f = s6 (fun p => if p = k then f k else 0) := s6_cong (fun p hp => by
    by_cases q : p = k
    · simp [q]
    · simp [q, h p hp q])
  rw [e]
  unfold s6
  obtain rfl | rfl | rfl | rfl | rfl | rfl : k = 0 ∨ k = 1 ∨ k = 2 ∨ k = 3 ∨ k = 4 ∨ k = 5 := by omega
  all_goals simp
def sg (p S : Nat) : F7 := if fb_ct S.testBit p % 2 = 0 then 1 else -1
def W (v w : Nat → F7) (S : Nat) : F7 := if S < 64 then s6 (fun p => if S.testBit p then sg p S * v p * w (S ^^^ 2 ^ p) else 0) else 0
def ax (w : Nat → F7) (c : F7) (u : Nat → F7) : Nat → F7 := fun S => w S + c * u S
def sm (c : F7) (w : Nat → F7) : Nat → F7 := fun S => c * w S
def zf : Nat → F7 := fun _ => 0
def on : Nat → F7 := fun S => if S = 0 then 1 else 0
theorem W_ax1 (v u : Nat → F7) (c : F7) (w : Nat → F7) : W (fun p => v p + c * u p) w = ax (W v w) c (W u w) := by
  funext S
  unfold W ax
  by_cases h : S < 64
  · rw [if_pos h, if_pos h, if_pos h, ← s6_ax]
    apply s6_cong
    intro p _
    cases S.testBit p
    · simp
    · simp only [if_true]; grind
  · rw [if_neg h, if_neg h, if_neg h]; simp
theorem W_ax2 (v : Nat → F7) (w : Nat → F7) (c : F7) (u : Nat → F7) : W v (ax w c u) = ax (W v w) c (W v u) := by
  funext S
  unfold W ax
  by_cases h : S < 64
  · rw [if_pos h, if_pos h, if_pos h, ← s6_ax]
    apply s6_cong
    intro p _
    cases S.testBit p
    · simp
    · simp only [if_true]; grind
  · rw [if_neg h, if_neg h, if_neg h]; simp
theorem W_sm (v : Nat → F7) (c : F7) (w : Nat → F7) : W v (sm c w) = sm c (W v w) := by
  funext S
  unfold W sm
  by_cases h : S < 64
  · rw [if_pos h, if_pos h, ← s6_mul]
    apply s6_cong
    intro p _
    cases S.testBit p
    · simp
    · simp only [if_true]; grind
  · rw [if_neg h, if_neg h]; simp
theorem W_sm1 (v : Nat → F7) (c : F7) (w : Nat → F7) : W (fun p => c * v p) w = sm c (W v w) := by
  funext S
  unfold W sm
  by_cases h : S < 64
  · rw [if_pos h, if_pos h, ← s6_mul]
    apply s6_cong
    intro p _
    cases S.testBit p
    · simp
    · simp only [if_true]; grind
  · rw [if_neg h, if_neg h]; simp
theorem W_zf (v : Nat → F7) : W v zf = zf := by
  funext S
  unfold W
  by_cases h : S < 64
  · rw [if_pos h]
    exact s6_0 (fun p _ => by
      cases S.testBit p
      · simp
      · simp [zf])
  · rw [if_neg h]; rfl
theorem sg_anti : ∀ S, S < 64 → ∀ p, p < 6 → ∀ q, q < 6 → (S.testBit p = false ∨ S.testBit q = false ∨ p = q ∨ sg p S * sg q (S ^^^ 2 ^ p) = - (sg q S * sg p (S ^^^ 2 ^ q))) := by decide +kernel
theorem W_anti (v u w : Nat → F7) : W v (W u w) = sm (-1) (W u (W v w)) := by
  funext S
  by_cases h : S < 64
  case neg => unfold W sm; rw [if_neg h, if_neg h]; simp
  have hx : ∀ p, p < 6 → S ^^^ 2 ^ p < 64 := fun p hp => xlt6 h (p6 p hp)
  have e : ∀ v u : Nat → F7, W v (W u w) S = s6 (fun p => s6 (fun q => if (S.testBit p && S.testBit q && decide (p ≠ q)) = true then sg p S * sg q (S ^^^ 2 ^ p) * (v p * u q) * w (S ^^^ 2 ^ p ^^^ 2 ^ q) else 0)) := by
    intro v u
    conv => lhs; unfold W
    rw [if_pos h]
    apply s6_cong
    intro p hp
    cases hb : S.testBit p with
    | false => simp only [Bool.false_eq_true, if_false, Bool.false_and]; rw [s6_0 (fun _ _ => rfl)]
    | true =>
      simp only [if_true, Bool.true_and]
      rw [if_pos (hx p hp), ← s6_mul]
      apply s6_cong
      intro q hq
      rw [fb_bit_flip]
      by_cases epq : q = p
      · subst epq; simp [hb]
      · have epq' : p ≠ q := fun z => epq z.symm
        simp only [epq, epq', decide_false, Bool.xor_false, ne_eq, not_false_eq_true, decide_true, Bool.and_true]
        cases S.testBit q
        · simp
        · simp only [if_true]; grind
  unfold sm
  rw [e v u, e u v, s6_swap (fun p q => if (S.testBit p && S.testBit q && decide (p ≠ q)) = true then sg p S * sg q (S ^^^ 2 ^ p) * (u p * v q) * w (S ^^^ 2 ^ p ^^^ 2 ^ q) else 0), ← s6_mul]
  apply s6_cong
  intro p hp
  rw [← s6_mul]
  apply s6_cong
  intro q hq
  cases hp1 : S.testBit p with
  | false => simp
  | true =>
    cases hq1 : S.testBit q with
    | false => simp
    | true =>
      by_cases epq : p = q
      · subst epq; simp
      · have epq' : q ≠ p := fun z => epq z.symm
        simp only [Bool.and_true, ne_eq, epq, epq', not_false_eq_true, decide_true, if_true]
        have hs := (((sg_anti S h p hp q hq).resolve_left (by rw [hp1]; decide)).resolve_left (by rw [hq1]; decide)).resolve_left epq
        rw [hs, Nat.xor_assoc S (2 ^ p) (2 ^ q), Nat.xor_comm (2 ^ p) (2 ^ q), ← Nat.xor_assoc]
        grind
theorem W_self (v w : Nat → F7) : W v (W v w) = zf := by
  have h := W_anti v v w
  funext S
  have h2 := congrFun h S
  unfold sm at h2
  generalize W v (W v w) S = x at h2
  show x = 0
  revert x
  decide
/-- the rows of the places in L, from p on, m places -/
def EW (R : Nat → Nat → F7) (L : Nat) : Nat → Nat → (Nat → F7) → Nat → F7
  | _, 0, w => w
  | p, m + 1, w => if L.testBit p then W (R p) (EW R L (p + 1) m w) else EW R L (p + 1) m w
theorem EW_ax (R : Nat → Nat → F7) (L : Nat) (c : F7) (w u : Nat → F7) : ∀ m p, EW R L p m (ax w c u) = ax (EW R L p m w) c (EW R L p m u)
  | 0, p => rfl
  | m + 1, p => by
    rw [EW, EW, EW, EW_ax R L c w u m (p + 1)]
    cases L.testBit p
    · simp
    · simp only [if_true]; exact W_ax2 _ _ _ _
theorem EW_sm (R : Nat → Nat → F7) (L : Nat) (c : F7) (w : Nat → F7) : ∀ m p, EW R L p m (sm c w) = sm c (EW R L p m w)
  | 0, p => rfl
  | m + 1, p => by
    rw [EW, EW, EW_sm R L c w m (p + 1)]
    cases L.testBit p
    · simp
    · simp only [if_true]; exact W_sm _ _ _
theorem EW_zf (R : Nat → Nat → F7) (L : Nat) : ∀ m p, EW R L p m zf = zf
  | 0, p => rfl
  | m + 1, p => by
    rw [EW, EW_zf R L m (p + 1)]
    cases L.testBit p
    · simp
    · simp only [if_true]; exact W_zf _
theorem EW_split (R : Nat → Nat → F7) (L : Nat) (w : Nat → F7) (b : Nat) : ∀ a p, EW R L p (a + b) w = EW R L p a (EW R L (p + a) b w)
  | 0, p => by rw [Nat.zero_add]; rfl
  | a + 1, p => by
    rw [show a + 1 + b = (a + b) + 1 by omega, EW, EW, EW_split R L w b a (p + 1), show p + 1 + a = p + (a + 1) by omega]
theorem EW_cong {R R' : Nat → Nat → F7} {L L' : Nat} (w : Nat → F7) : ∀ m p, (∀ q, p ≤ q → q < p + m → L.testBit q = L'.testBit q ∧ (L.testBit q = true → R q = R' q)) → EW R L p m w = EW R' L' p m w
  | 0, p, _ => rfl
  | m + 1, p, h => by
    rw [EW, EW, EW_cong w m (p + 1) (fun q h1 h2 => h q (by omega) (by omega))]
    obtain ⟨h1, h2⟩ := h p (by omega) (by omega)
    rw [← h1]
    cases hb : L.testBit p
    · simp
    · simp only [if_true]; rw [h2 hb]
theorem EW_none {R : Nat → Nat → F7} {L : Nat} (w : Nat → F7) : ∀ m p, (∀ q, p ≤ q → q < p + m → L.testBit q = false) → EW R L p m w = w
  | 0, p, _ => rfl
  | m + 1, p, h => by
    rw [EW, h p (by omega) (by omega)]
    simp only [Bool.false_eq_true, if_false]
    exact EW_none w m (p + 1) (fun q h1 h2 => h q (by omega) (by omega))
def ss (L : Nat) : Nat → Nat → F7
  | _, 0 => 1
  | p, m + 1 => if L.testBit p then - ss L (p + 1) m else ss L (p + 1) m
theorem sm_sm (c d : F7) (w : Nat → F7) : sm c (sm d w) = sm (c * d) w := by
  funext S
  unfold sm
  grind
theorem sm_1 (w : Nat → F7) : sm 1 w = w := by
  funext S
  unfold sm
  grind
theorem sm_zf (c : F7) : sm c zf = zf := by
  funext S
  show c * 0 = 0
  grind
theorem mv (v : Nat → F7) (R : Nat → Nat → F7) (L : Nat) (w : Nat → F7) : ∀ m p, W v (EW R L p m w) = sm (ss L p m) (EW R L p m (W v w))
  | 0, p => (sm_1 _).symm
  | m + 1, p => by
    have ih := mv v R L w m (p + 1)
    rw [EW, EW, ss]
    cases L.testBit p
    · simp only [Bool.false_eq_true, if_false]; exact ih
    · simp only [if_true]
      rw [W_anti, ih, W_sm, sm_sm]
      congr 1
      grind
theorem ss_sq (L : Nat) : ∀ m p, ss L p m * ss L p m = 1
  | 0, p => by decide
  | m + 1, p => by
    have ih := ss_sq L m (p + 1)
    rw [ss]
    cases L.testBit p
    · simpa using ih
    · simp only [if_true]; grind
/-- the other way: a row out of the middle to the front -/
theorem mv' (v : Nat → F7) (R : Nat → Nat → F7) (L : Nat) (w : Nat → F7) (m p : Nat) : EW R L p m (W v w) = sm (ss L p m) (W v (EW R L p m w)) := by
  rw [mv, sm_sm, ss_sq, sm_1]
theorem EW_alt {R : Nat → Nat → F7} {L i j : Nat} (w : Nat → F7) (hij : i < j) (hj : j < 6) (hi1 : L.testBit i = true) (hj1 : L.testBit j = true) (h : R i = R j) : EW R L 0 6 w = zf := by
  have e1 : EW R L 0 6 w = EW R L 0 i (EW R L i (6 - i) w) := by
    have := EW_split R L w (6 - i) i 0
    rwa [show i + (6 - i) = 6 by omega, Nat.zero_add] at this
  have e2 : EW R L i (6 - i) w = W (R i) (EW R L (i + 1) (5 - i) w) := by
    rw [show 6 - i = (5 - i) + 1 by omega, EW, hi1]; rfl
  have e3 : EW R L (i + 1) (5 - i) w = EW R L (i + 1) (j - i - 1) (EW R L j (6 - j) w) := by
    have := EW_split R L w (6 - j) (j - i - 1) (i + 1)
    rwa [show j - i - 1 + (6 - j) = 5 - i by omega, show i + 1 + (j - i - 1) = j by omega] at this
  have e4 : EW R L j (6 - j) w = W (R j) (EW R L (j + 1) (5 - j) w) := by
    rw [show 6 - j = (5 - j) + 1 by omega, EW, hj1]; rfl
  rw [e1, e2, e3, e4, h, mv, W_self, EW_zf, sm_zf, EW_zf]
def rs (R : Nat → Nat → F7) (k : Nat) (v : Nat → F7) : Nat → Nat → F7 := fun q => if q = k then v else R q
theorem rs_self (R : Nat → Nat → F7) (k : Nat) : rs R k (R k) = R := by
  funext q
  unfold rs
  by_cases e : q = k
  · rw [if_pos e, e]
  · rw [if_neg e]
theorem rs_at (R : Nat → Nat → F7) (k : Nat) (v : Nat → F7) : rs R k v k = v := if_pos rfl
theorem rs_ne (R : Nat → Nat → F7) {k q : Nat} (v : Nat → F7) (h : q ≠ k) : rs R k v q = R q := if_neg h
theorem rs_rs (R : Nat → Nat → F7) (k : Nat) (v u : Nat → F7) : rs (rs R k v) k u = rs R k u := by
  funext q
  unfold rs
  by_cases e : q = k
  · rw [if_pos e, if_pos e]
  · rw [if_neg e, if_neg e, if_neg e]
theorem EW_row {R : Nat → Nat → F7} {L k : Nat} (w : Nat → F7) (hk : k < 6) (h1 : L.testBit k = true) (v : Nat → F7) : EW (rs R k v) L 0 6 w = EW R L 0 k (W v (EW R L (k + 1) (5 - k) w)) := by
  have e1 : EW (rs R k v) L 0 6 w = EW (rs R k v) L 0 k (EW (rs R k v) L k (6 - k) w) := by
    have := EW_split (rs R k v) L w (6 - k) k 0
    rwa [show k + (6 - k) = 6 by omega, Nat.zero_add] at this
  have e2 : EW (rs R k v) L k (6 - k) w = W v (EW (rs R k v) L (k + 1) (5 - k) w) := by
    rw [show 6 - k = (5 - k) + 1 by omega, EW, h1, rs_at]; rfl
  rw [e1, e2, EW_cong (R := rs R k v) (R' := R) (L' := L) w (5 - k) (k + 1) (fun q q1 q2 => ⟨rfl, fun _ => rs_ne R v (by omega)⟩)]
  exact EW_cong (R := rs R k v) (R' := R) (L' := L) _ k 0 (fun q q1 q2 => ⟨rfl, fun _ => rs_ne R v (by omega)⟩)
theorem EW_lin {R : Nat → Nat → F7} {L k : Nat} (w : Nat → F7) (hk : k < 6) (h1 : L.testBit k = true) (v u : Nat → F7) (c : F7) : EW (rs R k (fun p => v p + c * u p)) L 0 6 w = ax (EW (rs R k v) L 0 6 w) c (EW (rs R k u) L 0 6 w) := by
  rw [EW_row w hk h1, EW_row w hk h1, EW_row w hk h1, W_ax1, EW_ax]
theorem EW_scale {R : Nat → Nat → F7} {L k : Nat} (w : Nat → F7) (hk : k < 6) (h1 : L.testBit k = true) (v : Nat → F7) (c : F7) : EW (rs R k (fun p => c * v p)) L 0 6 w = sm c (EW (rs R k v) L 0 6 w) := by
  rw [EW_row w hk h1, EW_row w hk h1, W_sm1, EW_sm]
theorem ax_zf (w : Nat → F7) (c : F7) : ax w c zf = w := by
  funext S
  show w S + c * 0 = w S
  grind
theorem EW_two {R : Nat → Nat → F7} {L i k : Nat} (w : Nat → F7) (hk : k < 6) (hi : i < 6) (hk1 : L.testBit k = true) (hi1 : L.testBit i = true) (hne : i ≠ k) (h : R i = R k) : EW R L 0 6 w = zf := by
  rcases Nat.lt_or_gt_of_ne hne with z | z
  · exact EW_alt w z hk hi1 hk1 h
  · exact EW_alt w z hi hk1 hi1 h.symm
/-- a multiple of a row added to another -/
theorem EW_add {R : Nat → Nat → F7} {L i k : Nat} (w : Nat → F7) (hk : k < 6) (hi : i < 6) (hk1 : L.testBit k = true) (hi1 : L.testBit i = true) (hne : i ≠ k) (c : F7) : EW (rs R k (fun p => R k p + c * R i p)) L 0 6 w = EW R L 0 6 w := by
  rw [EW_lin w hk hk1, rs_self, EW_two (R := rs R k (R i)) w hk hi hk1 hi1 hne (by rw [rs_ne R _ hne, rs_at]), ax_zf]
/-- two rows changed -/
theorem EW_chg {R : Nat → Nat → F7} {L i k : Nat} (w : Nat → F7) (hk : k < 6) (hi : i < 6) (hk1 : L.testBit k = true) (hi1 : L.testBit i = true) (hne : i ≠ k) : EW (rs (rs R i (R k)) k (R i)) L 0 6 w = sm (-1) (EW R L 0 6 w) := by
  have f : ∀ x y : Nat → F7, x = y → EW (rs (rs R i x) k y) L 0 6 w = zf := fun x y e => EW_two w hk hi hk1 hi1 hne (by rw [rs_ne _ _ hne, rs_at, rs_at]; exact e)
  have comm : ∀ x y : Nat → F7, rs (rs R i x) k y = rs (rs R k y) i x := fun x y => by
    funext q
    unfold rs
    by_cases e1 : q = i
    · have e2 : q ≠ k := by omega
      simp [e1, hne]
    · by_cases e2 : q = k
      · simp [e2]; intro z; exact absurd z.symm hne
      · simp [e1, e2]
  have lin2 : ∀ x y z : Nat → F7, EW (rs (rs R i x) k (fun p => y p + 1 * z p)) L 0 6 w = ax (EW (rs (rs R i x) k y) L 0 6 w) 1 (EW (rs (rs R i x) k z) L 0 6 w) := fun x y z => EW_lin w hk hk1 y z 1
  have lin1 : ∀ x y z : Nat → F7, EW (rs (rs R i (fun p => x p + 1 * y p)) k z) L 0 6 w = ax (EW (rs (rs R i x) k z) L 0 6 w) 1 (EW (rs (rs R i y) k z) L 0 6 w) := fun x y z => by
    rw [comm, comm, comm]
    exact EW_lin w hi hi1 x y 1
  have h := f (fun p => R i p + 1 * R k p) (fun p => R i p + 1 * R k p) rfl
  rw [lin2, lin1, lin1, f (R i) (R i) rfl, f (R k) (R k) rfl] at h
  have e : rs (rs R i (R i)) k (R k) = R := by rw [rs_self, rs_self]
  rw [e] at h
  funext S
  have h2 := congrFun h S
  unfold ax at h2
  unfold sm
  have z0 : zf S = 0 := rfl
  rw [z0] at h2
  generalize EW (rs (rs R i (R k)) k (R i)) L 0 6 w S = a at h2 ⊢
  generalize EW R L 0 6 w S = b at h2 ⊢
  grind
/-- only the columns of C count at its subsets -/
theorem EW_cols {R R' : Nat → Nat → F7} {L C : Nat} (w : Nat → F7) : ∀ m p, (∀ q, p ≤ q → q < p + m → L.testBit q = true → ∀ c, c < 6 → C.testBit c = true → R q c = R' q c) → ∀ D, (∀ c, D.testBit c = true → C.testBit c = true) → EW R L p m w D = EW R' L p m w D
  | 0, p, _, D, _ => rfl
  | m + 1, p, h, D, hD => by
    have ih := EW_cols (R := R) (R' := R') (L := L) (C := C) w m (p + 1) (fun q h1 h2 => h q (by omega) (by omega))
    rw [EW, EW]
    cases hb : L.testBit p with
    | false => simp only [Bool.false_eq_true, if_false]; exact ih D hD
    | true =>
      simp only [if_true]
      unfold W
      by_cases h6 : D < 64
      · rw [if_pos h6, if_pos h6]
        apply s6_cong
        intro c hc
        cases hd : D.testBit c with
        | false => rfl
        | true =>
          simp only [if_true]
          rw [h p (by omega) (by omega) hb c hc (hD c hd), ih (D ^^^ 2 ^ c) (fun e he => by
            rw [fb_bit_flip] at he
            by_cases q : e = c
            · rw [q]; exact hD c hd
            · simp [q] at he
              exact hD e he)]
      · rw [if_neg h6, if_neg h6]
/-- rows that are 0 at a column -/
theorem EW_out {R : Nat → Nat → F7} {L i : Nat} : ∀ m p, (∀ q, p ≤ q → q < p + m → L.testBit q = true → R q i = 0) → ∀ D, D.testBit i = true → EW R L p m on D = 0
  | 0, p, _, D, hD => by
    show (if D = 0 then (1 : F7) else 0) = 0
    rw [if_neg (fun z => by rw [z, Nat.zero_testBit] at hD; cases hD)]
  | m + 1, p, h, D, hD => by
    have ih := EW_out (R := R) (L := L) (i := i) m (p + 1) (fun q h1 h2 => h q (by omega) (by omega))
    rw [EW]
    cases hb : L.testBit p with
    | false => simp only [Bool.false_eq_true, if_false]; exact ih D hD
    | true =>
      simp only [if_true]
      unfold W
      by_cases h6 : D < 64
      · rw [if_pos h6]
        refine s6_0 (fun c hc => ?_)
        cases hd : D.testBit c with
        | false => rfl
        | true =>
          simp only [if_true]
          by_cases e : c = i
          · rw [e, h p (by omega) (by omega) hb]; grind
          · rw [ih (D ^^^ 2 ^ c) (by rw [fb_bit_flip, hD]; have : i ≠ c := fun z => e z.symm
                                     simp [this])]
            grind
      · rw [if_neg h6]
/-- nothing below, nothing above -/
theorem EW_null {R : Nat → Nat → F7} {L C : Nat} {w : Nat → F7} (hw : ∀ D, (∀ c, D.testBit c = true → C.testBit c = true) → w D = 0) : ∀ m p D, (∀ c, D.testBit c = true → C.testBit c = true) → EW R L p m w D = 0
  | 0, p, D, hD => hw D hD
  | m + 1, p, D, hD => by
    have ih := EW_null (R := R) (L := L) (C := C) hw m (p + 1)
    rw [EW]
    cases hb : L.testBit p with
    | false => simp only [Bool.false_eq_true, if_false]; exact ih D hD
    | true =>
      simp only [if_true]
      unfold W
      by_cases h6 : D < 64
      · rw [if_pos h6]
        refine s6_0 (fun c hc => ?_)
        cases hd : D.testBit c with
        | false => rfl
        | true =>
          simp only [if_true]
          rw [ih (D ^^^ 2 ^ c) (fun e he => by
            rw [fb_bit_flip] at he
            by_cases q : e = c
            · rw [q]; exact hD c hd
            · simp [q] at he
              exact hD e he)]
          grind
      · rw [if_neg h6]
/-- how many -/
theorem EW_deg {R : Nat → Nat → F7} {L : Nat} : ∀ m p D, D < 64 → fb_ct D.testBit 6 ≠ fb_ct (fun q => L.testBit (p + q)) m → EW R L p m on D = 0
  | 0, p, D, h6, hD => by
    show (if D = 0 then (1 : F7) else 0) = 0
    rw [if_neg (fun z => hD (by rw [z]; rfl))]
  | m + 1, p, D, h6, hD => by
    have ih := EW_deg (R := R) (L := L) m (p + 1)
    have e : fb_ct (fun q => L.testBit (p + q)) (m + 1) = (if L.testBit p then 1 else 0) + fb_ct (fun q => L.testBit (p + 1 + q)) m := by
      have := fb_ct_split (fun q => L.testBit (p + q)) 1 m
      rw [show 1 + m = m + 1 by omega] at this
      rw [this]
      congr 1
      apply fb_ct_cong
      intro k _
      show L.testBit (p + (1 + k)) = L.testBit (p + 1 + k)
      congr 1
      omega
    rw [e] at hD
    rw [EW]
    cases hb : L.testBit p with
    | false =>
      simp only [Bool.false_eq_true, if_false]
      refine ih D h6 ?_
      rw [hb] at hD
      simpa using hD
    | true =>
      simp only [if_true]
      unfold W
      rw [if_pos h6]
      refine s6_0 (fun c hc => ?_)
      cases hd : D.testBit c with
      | false => rfl
      | true =>
        simp only [if_true]
        have hct : fb_ct (D ^^^ 2 ^ c).testBit 6 + 1 = fb_ct D.testBit 6 := by
          have := fb_ct_upd D.testBit false hc
          rw [hd] at this
          simp only [if_true, Bool.false_eq_true, if_false, Nat.add_zero] at this
          rw [← this]
          congr 1
          apply fb_ct_cong
          intro k _
          rw [fb_bit_flip]
          by_cases q : k = c
          · subst q; simp [hd]
          · simp [q]
        rw [ih (D ^^^ 2 ^ c) (xlt6 h6 (p6 c hc)) (by
          rw [hb] at hD
          simp only [if_true] at hD
          omega)]
        grind
