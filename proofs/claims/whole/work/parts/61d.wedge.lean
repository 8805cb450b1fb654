/-- the rows of the places in L, from p on, m places -/
def eW (R : Nat → Nat → F7) (L : Nat) : Nat → Nat → (Nat → F7) → Nat → F7
  | _, 0, w => w
  | p, m + 1, w => if L.testBit p then wW (R p) (eW R L (p + 1) m w) else eW R L (p + 1) m w
theorem eW_ax (R : Nat → Nat → F7) (L : Nat) (c : F7) (w u : Nat → F7) : ∀ m p, eW R L p m (axW w c u) = axW (eW R L p m w) c (eW R L p m u)
  | 0, p => rfl
  | m + 1, p => by
    rw [eW, eW, eW, eW_ax R L c w u m (p + 1)]
    cases L.testBit p
    · simp
    · simp only [if_true]; exact wW_ax2 _ _ _ _
theorem eW_sm (R : Nat → Nat → F7) (L : Nat) (c : F7) (w : Nat → F7) : ∀ m p, eW R L p m (smW c w) = smW c (eW R L p m w)
  | 0, p => rfl
  | m + 1, p => by
    rw [eW, eW, eW_sm R L c w m (p + 1)]
    cases L.testBit p
    · simp
    · simp only [if_true]; exact wW_sm _ _ _
theorem eW_zf (R : Nat → Nat → F7) (L : Nat) : ∀ m p, eW R L p m zfW = zfW
  | 0, p => rfl
  | m + 1, p => by
    rw [eW, eW_zf R L m (p + 1)]
    cases L.testBit p
    · simp
    · simp only [if_true]; exact wW_zf _
theorem eW_split (R : Nat → Nat → F7) (L : Nat) (w : Nat → F7) (b : Nat) : ∀ a p, eW R L p (a + b) w = eW R L p a (eW R L (p + a) b w)
  | 0, p => by rw [Nat.zero_add]; rfl
  | a + 1, p => by
    rw [show a + 1 + b = (a + b) + 1 by omega, eW, eW, eW_split R L w b a (p + 1), show p + 1 + a = p + (a + 1) by omega]
theorem eW_cong {R R' : Nat → Nat → F7} {L L' : Nat} (w : Nat → F7) : ∀ m p, (∀ q, p ≤ q → q < p + m → L.testBit q = L'.testBit q ∧ (L.testBit q = true → R q = R' q)) → eW R L p m w = eW R' L' p m w
  | 0, p, _ => rfl
  | m + 1, p, h => by
    rw [eW, eW, eW_cong w m (p + 1) (fun q h1 h2 => h q (by omega) (by omega))]
    obtain ⟨h1, h2⟩ := h p (by omega) (by omega)
    rw [← h1]
    cases hb : L.testBit p
    · simp
    · simp only [if_true]; rw [h2 hb]
theorem eW_none {R : Nat → Nat → F7} {L : Nat} (w : Nat → F7) : ∀ m p, (∀ q, p ≤ q → q < p + m → L.testBit q = false) → eW R L p m w = w
  | 0, p, _ => rfl
  | m + 1, p, h => by
    rw [eW, h p (by omega) (by omega)]
    simp only [Bool.false_eq_true, if_false]
    exact eW_none w m (p + 1) (fun q h1 h2 => h q (by omega) (by omega))
def ssW (L : Nat) : Nat → Nat → F7
  | _, 0 => 1
  | p, m + 1 => if L.testBit p then - ssW L (p + 1) m else ssW L (p + 1) m
theorem smW_sm (c d : F7) (w : Nat → F7) : smW c (smW d w) = smW (c * d) w := by
  funext S
  unfold smW
  grind
theorem smW_1 (w : Nat → F7) : smW 1 w = w := by
  funext S
  unfold smW
  grind
theorem smW_zf (c : F7) : smW c zfW = zfW := by
  funext S
  show c * 0 = 0
  grind
theorem mvW (v : Nat → F7) (R : Nat → Nat → F7) (L : Nat) (w : Nat → F7) : ∀ m p, wW v (eW R L p m w) = smW (ssW L p m) (eW R L p m (wW v w))
  | 0, p => (smW_1 _).symm
  | m + 1, p => by
    have ih := mvW v R L w m (p + 1)
    rw [eW, eW, ssW]
    cases L.testBit p
    · simp only [Bool.false_eq_true, if_false]; exact ih
    · simp only [if_true]
      rw [wW_anti, ih, wW_sm, smW_sm]
      congr 1
      grind
theorem ssW_sq (L : Nat) : ∀ m p, ssW L p m * ssW L p m = 1
  | 0, p => by show (1 : F7) * 1 = 1; decide
  | m + 1, p => by
    have ih := ssW_sq L m (p + 1)
    rw [ssW]
    cases L.testBit p
    · simpa using ih
    · simp only [if_true]; grind
/-- the other way: a row out of the middle to the front -/
theorem mvW' (v : Nat → F7) (R : Nat → Nat → F7) (L : Nat) (w : Nat → F7) (m p : Nat) : eW R L p m (wW v w) = smW (ssW L p m) (wW v (eW R L p m w)) := by
  rw [mvW, smW_sm, ssW_sq, smW_1]
theorem eW_alt {R : Nat → Nat → F7} {L i j : Nat} (w : Nat → F7) (hij : i < j) (hj : j < 6) (hi1 : L.testBit i = true) (hj1 : L.testBit j = true) (h : R i = R j) : eW R L 0 6 w = zfW := by
  have e1 : eW R L 0 6 w = eW R L 0 i (eW R L i (6 - i) w) := by
    have := eW_split R L w (6 - i) i 0
    rwa [show i + (6 - i) = 6 by omega, Nat.zero_add] at this
  have e2 : eW R L i (6 - i) w = wW (R i) (eW R L (i + 1) (5 - i) w) := by
    rw [show 6 - i = (5 - i) + 1 by omega, eW, hi1]; rfl
  have e3 : eW R L (i + 1) (5 - i) w = eW R L (i + 1) (j - i - 1) (eW R L j (6 - j) w) := by
    have := eW_split R L w (6 - j) (j - i - 1) (i + 1)
    rwa [show j - i - 1 + (6 - j) = 5 - i by omega, show i + 1 + (j - i - 1) = j by omega] at this
  have e4 : eW R L j (6 - j) w = wW (R j) (eW R L (j + 1) (5 - j) w) := by
    rw [show 6 - j = (5 - j) + 1 by omega, eW, hj1]; rfl
  rw [e1, e2, e3, e4, h, mvW, wW_self, eW_zf, smW_zf, eW_zf]
def rsW (R : Nat → Nat → F7) (k : Nat) (v : Nat → F7) : Nat → Nat → F7 := fun q => if q = k then v else R q
theorem rsW_self (R : Nat → Nat → F7) (k : Nat) : rsW R k (R k) = R := by
  funext q
  unfold rsW
  by_cases e : q = k
  · rw [if_pos e, e]
  · rw [if_neg e]
theorem rsW_at (R : Nat → Nat → F7) (k : Nat) (v : Nat → F7) : rsW R k v k = v := if_pos rfl
theorem rsW_ne (R : Nat → Nat → F7) {k q : Nat} (v : Nat → F7) (h : q ≠ k) : rsW R k v q = R q := if_neg h
theorem rsW_rs (R : Nat → Nat → F7) (k : Nat) (v u : Nat → F7) : rsW (rsW R k v) k u = rsW R k u := by
  funext q
  unfold rsW
  by_cases e : q = k
  · rw [if_pos e, if_pos e]
  · rw [if_neg e, if_neg e, if_neg e]
theorem eW_row {R : Nat → Nat → F7} {L k : Nat} (w : Nat → F7) (hk : k < 6) (h1 : L.testBit k = true) (v : Nat → F7) : eW (rsW R k v) L 0 6 w = eW R L 0 k (wW v (eW R L (k + 1) (5 - k) w)) := by
  have e1 : eW (rsW R k v) L 0 6 w = eW (rsW R k v) L 0 k (eW (rsW R k v) L k (6 - k) w) := by
    have := eW_split (rsW R k v) L w (6 - k) k 0
    rwa [show k + (6 - k) = 6 by omega, Nat.zero_add] at this
  have e2 : eW (rsW R k v) L k (6 - k) w = wW v (eW (rsW R k v) L (k + 1) (5 - k) w) := by
    rw [show 6 - k = (5 - k) + 1 by omega, eW, h1, rsW_at]; rfl
  rw [e1, e2, eW_cong (R := rsW R k v) (R' := R) (L' := L) w (5 - k) (k + 1) (fun q q1 q2 => ⟨rfl, fun _ => rsW_ne R v (by omega)⟩)]
  exact eW_cong (R := rsW R k v) (R' := R) (L' := L) _ k 0 (fun q q1 q2 => ⟨rfl, fun _ => rsW_ne R v (by omega)⟩)
theorem eW_lin {R : Nat → Nat → F7} {L k : Nat} (w : Nat → F7) (hk : k < 6) (h1 : L.testBit k = true) (v u : Nat → F7) (c : F7) : eW (rsW R k (fun p => v p + c * u p)) L 0 6 w = axW (eW (rsW R k v) L 0 6 w) c (eW (rsW R k u) L 0 6 w) := by
  rw [eW_row w hk h1, eW_row w hk h1, eW_row w hk h1, wW_ax1, eW_ax]
theorem eW_scale {R : Nat → Nat → F7} {L k : Nat} (w : Nat → F7) (hk : k < 6) (h1 : L.testBit k = true) (v : Nat → F7) (c : F7) : eW (rsW R k (fun p => c * v p)) L 0 6 w = smW c (eW (rsW R k v) L 0 6 w) := by
  rw [eW_row w hk h1, eW_row w hk h1, wW_sm1, eW_sm]
theorem axW_zf (w : Nat → F7) (c : F7) : axW w c zfW = w := by
  funext S
  show w S + c * 0 = w S
  grind
theorem eW_two {R : Nat → Nat → F7} {L i k : Nat} (w : Nat → F7) (hk : k < 6) (hi : i < 6) (hk1 : L.testBit k = true) (hi1 : L.testBit i = true) (hne : i ≠ k) (h : R i = R k) : eW R L 0 6 w = zfW := by
  rcases Nat.lt_or_gt_of_ne hne with z | z
  · exact eW_alt w z hk hi1 hk1 h
  · exact eW_alt w z hi hk1 hi1 h.symm
/-- a multiple of a row added to another -/
theorem eW_add {R : Nat → Nat → F7} {L i k : Nat} (w : Nat → F7) (hk : k < 6) (hi : i < 6) (hk1 : L.testBit k = true) (hi1 : L.testBit i = true) (hne : i ≠ k) (c : F7) : eW (rsW R k (fun p => R k p + c * R i p)) L 0 6 w = eW R L 0 6 w := by
  rw [eW_lin w hk hk1, rsW_self, eW_two (R := rsW R k (R i)) w hk hi hk1 hi1 hne (by rw [rsW_ne R _ hne, rsW_at]), axW_zf]
/-- two rows changed -/
theorem eW_chg {R : Nat → Nat → F7} {L i k : Nat} (w : Nat → F7) (hk : k < 6) (hi : i < 6) (hk1 : L.testBit k = true) (hi1 : L.testBit i = true) (hne : i ≠ k) : eW (rsW (rsW R i (R k)) k (R i)) L 0 6 w = smW (-1) (eW R L 0 6 w) := by
  have f : ∀ x y : Nat → F7, x = y → eW (rsW (rsW R i x) k y) L 0 6 w = zfW := fun x y e => eW_two w hk hi hk1 hi1 hne (by rw [rsW_ne _ _ hne, rsW_at, rsW_at]; exact e)
  have comm : ∀ x y : Nat → F7, rsW (rsW R i x) k y = rsW (rsW R k y) i x := fun x y => by
    funext q
    unfold rsW
    by_cases e1 : q = i
    · have e2 : q ≠ k := by omega
      simp [e1, hne]
    · by_cases e2 : q = k
      · simp [e2]; intro z; exact absurd z.symm hne
      · simp [e1, e2]
  have lin2 : ∀ x y z : Nat → F7, eW (rsW (rsW R i x) k (fun p => y p + 1 * z p)) L 0 6 w = axW (eW (rsW (rsW R i x) k y) L 0 6 w) 1 (eW (rsW (rsW R i x) k z) L 0 6 w) := fun x y z => eW_lin w hk hk1 y z 1
  have lin1 : ∀ x y z : Nat → F7, eW (rsW (rsW R i (fun p => x p + 1 * y p)) k z) L 0 6 w = axW (eW (rsW (rsW R i x) k z) L 0 6 w) 1 (eW (rsW (rsW R i y) k z) L 0 6 w) := fun x y z => by
    rw [comm, comm, comm]
    exact eW_lin w hi hi1 x y 1
  have h := f (fun p => R i p + 1 * R k p) (fun p => R i p + 1 * R k p) rfl
  rw [lin2, lin1, lin1, f (R i) (R i) rfl, f (R k) (R k) rfl] at h
  have e : rsW (rsW R i (R i)) k (R k) = R := by rw [rsW_self, rsW_self]
  rw [e] at h
  funext S
  have h2 := congrFun h S
  unfold axW at h2
  unfold smW
  have z0 : zfW S = 0 := rfl
  rw [z0] at h2
  generalize eW (rsW (rsW R i (R k)) k (R i)) L 0 6 w S = a at h2 ⊢
  generalize eW R L 0 6 w S = b at h2 ⊢
  grind
/-- only the columns of C count at its subsets -/
theorem eW_cols {R R' : Nat → Nat → F7} {L C : Nat} (w : Nat → F7) : ∀ m p, (∀ q, p ≤ q → q < p + m → L.testBit q = true → ∀ c, c < 6 → C.testBit c = true → R q c = R' q c) → ∀ D, (∀ c, D.testBit c = true → C.testBit c = true) → eW R L p m w D = eW R' L p m w D
  | 0, p, _, D, _ => rfl
  | m + 1, p, h, D, hD => by
    have ih := eW_cols (R := R) (R' := R') (L := L) (C := C) w m (p + 1) (fun q h1 h2 => h q (by omega) (by omega))
    rw [eW, eW]
    cases hb : L.testBit p with
    | false => simp only [Bool.false_eq_true, if_false]; exact ih D hD
    | true =>
      simp only [if_true]
      by_cases h6 : D < 64
      · rw [wW_in h6, wW_in h6]
        apply s6_cong
        intro c hc
        cases hd : D.testBit c with
        | false => rfl
        | true =>
          simp only [if_true]
          rw [h p (by omega) (by omega) hb c hc (hD c hd), ih (D ^^^ 2 ^ c) (fun e he => by
            rw [fb_bit_flip] at he
            by_cases q : e = c
            · rw [q]; exact hD c hd
            · simp [q] at he
              exact hD e he)]
      · rw [wW_big h6, wW_big h6]
/-- rows that are 0 at a column -/
theorem eW_out {R : Nat → Nat → F7} {L i : Nat} : ∀ m p, (∀ q, p ≤ q → q < p + m → L.testBit q = true → R q i = 0) → ∀ D, D.testBit i = true → eW R L p m onW D = 0
  | 0, p, _, D, hD => by
    show (if D = 0 then (1 : F7) else 0) = 0
    rw [if_neg (fun z => by rw [z, Nat.zero_testBit] at hD; cases hD)]
  | m + 1, p, h, D, hD => by
    have ih := eW_out (R := R) (L := L) (i := i) m (p + 1) (fun q h1 h2 => h q (by omega) (by omega))
    rw [eW]
    cases hb : L.testBit p with
    | false => simp only [Bool.false_eq_true, if_false]; exact ih D hD
    | true =>
      simp only [if_true]
      by_cases h6 : D < 64
      · rw [wW_in h6]
        refine s6_0 (fun c hc => ?_)
        cases hd : D.testBit c with
        | false => rfl
        | true =>
          simp only [if_true]
          by_cases e : c = i
          · rw [e, h p (by omega) (by omega) hb]; grind
          · rw [ih (D ^^^ 2 ^ c) (by rw [fb_bit_flip, hD]; have : i ≠ c := fun z => e z.symm
                                     simp [this])]
            grind
      · rw [wW_big h6]
/-- nothing below, nothing above -/
theorem eW_null {R : Nat → Nat → F7} {L C : Nat} {w : Nat → F7} (hw : ∀ D, (∀ c, D.testBit c = true → C.testBit c = true) → w D = 0) : ∀ m p D, (∀ c, D.testBit c = true → C.testBit c = true) → eW R L p m w D = 0
  | 0, p, D, hD => hw D hD
  | m + 1, p, D, hD => by
    have ih := eW_null (R := R) (L := L) (C := C) hw m (p + 1)
    rw [eW]
    cases hb : L.testBit p with
    | false => simp only [Bool.false_eq_true, if_false]; exact ih D hD
    | true =>
      simp only [if_true]
      by_cases h6 : D < 64
      · rw [wW_in h6]
        refine s6_0 (fun c hc => ?_)
        cases hd : D.testBit c with
        | false => rfl
        | true =>
          simp only [if_true]
          rw [ih (D ^^^ 2 ^ c) (fun e he => by
            rw [fb_bit_flip] at he
            by_cases q : e = c
            · rw [q]; exact hD c hd
            · simp [q] at he
              exact hD e he)]
          grind
      · rw [wW_big h6]
/-- how many -/
theorem eW_deg {R : Nat → Nat → F7} {L : Nat} : ∀ m p D, D < 64 → fb_ct D.testBit 6 ≠ fb_ct (fun q => L.testBit (p + q)) m → eW R L p m onW D = 0
  | 0, p, D, h6, hD => by
    show (if D = 0 then (1 : F7) else 0) = 0
    rw [if_neg (fun z => hD (by rw [z]; rfl))]
  | m + 1, p, D, h6, hD => by
    have ih := eW_deg (R := R) (L := L) m (p + 1)
    have e : fb_ct (fun q => L.testBit (p + q)) (m + 1) = (if L.testBit p then 1 else 0) + fb_ct (fun q => L.testBit (p + 1 + q)) m := by
      have := fb_ct_split (fun q => L.testBit (p + q)) 1 m
      rw [show 1 + m = m + 1 by omega] at this
      have e0 : fb_ct (fun q => L.testBit (p + q)) 1 = if L.testBit p then 1 else 0 := by
        rw [fb_ct_succ]
        show 0 + (if L.testBit (p + 0) = true then 1 else 0) = _
        rw [Nat.zero_add, Nat.add_zero]
      rw [this, e0]
      congr 1
      apply fb_ct_cong
      intro k _
      show L.testBit (p + (1 + k)) = L.testBit (p + 1 + k)
      congr 1
      omega
    rw [e] at hD
    rw [eW]
    cases hb : L.testBit p with
    | false =>
      simp only [Bool.false_eq_true, if_false]
      refine ih D h6 ?_
      rw [hb] at hD
      simpa using hD
    | true =>
      simp only [if_true]
      rw [wW_in h6]
      refine s6_0 (fun c hc => ?_)
      cases hd : D.testBit c with
      | false => rfl
      | true =>
        simp only [if_true]
        have hct : fb_ct (D ^^^ 2 ^ c).testBit 6 + 1 = fb_ct D.testBit 6 := by
          have := fb_ct_upd D.testBit false hc
          rw [hd] at this
          simp only [if_true, Bool.false_eq_true, if_false, Nat.add_zero] at this
          rw [← this]
          congr 1
          apply fb_ct_cong
          intro k _
          rw [fb_bit_flip]
          by_cases q : k = c
          · subst q; simp [hd]
          · simp [q]
        rw [ih (D ^^^ 2 ^ c) (xlt6 h6 (p6 c hc)) (by
          rw [hb] at hD
          simp only [if_true] at hD
          omega)]
        grind
