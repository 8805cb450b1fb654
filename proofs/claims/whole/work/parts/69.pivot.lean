/-! ===== pivot ===== -/
/-- sums over the places of a set, over its first numbers -/
def sK (f : Nat → F7) : Nat → F7
  | 0 => 0
  | m + 1 => sK f m + f m
theorem sK_6 (f : Nat → F7) : sK f 6 = s6 f := by
  show 0 + f 0 + f 1 + f 2 + f 3 + f 4 + f 5 = s6 f
  unfold s6
  grind
theorem sK_S (S : Nat) (f : Nat → F7) : ∀ p, sK (fun q => if S.testBit q then f (fb_ct S.testBit q) else 0) p = sK f (fb_ct S.testBit p)
  | 0 => rfl
  | p + 1 => by
    rw [sK, sK_S S f p, fb_ct_succ]
    cases S.testBit p
    · simp only [Bool.false_eq_true, if_false, Nat.add_zero]; grind
    · simp only [if_true]; rfl
theorem sK_lt (f : Nat → F7) (k : Nat) : ∀ m, sK (fun l => if l < k then f l else 0) m = sK f (if m ≤ k then m else k)
  | 0 => by simp [sK]
  | m + 1 => by
    rw [sK, sK_lt f k m]
    by_cases h : m + 1 ≤ k
    · rw [if_pos (show m ≤ k by omega), if_pos h, if_pos (show m < k by omega)]; rfl
    · rw [if_neg h, if_neg (show ¬ m < k by omega)]
      by_cases h2 : m ≤ k
      · have : m = k := by omega
        rw [if_pos h2, this]; grind
      · rw [if_neg h2]; grind
theorem s6_S {S : Nat} (f : Nat → F7) : s6 (fun q => if S.testBit q then f (fb_ct S.testBit q) else 0) = s6 (fun l => if l < ct6 S then f l else 0) := by
  have h6 := ct6_le6 S
  rw [← sK_6, ← sK_6, sK_S, sK_lt]
  by_cases h : 6 ≤ ct6 S
  · rw [if_pos h, show fb_ct S.testBit 6 = 6 from by have : ct6 S = fb_ct S.testBit 6 := rfl; omega]
  · rw [if_neg h]; rfl
/-- the inverse, by points -/
def fuM (S : Nat) (D : Nat → Nat → F7) : Nat → Nat → F7 := fun a b => if S.testBit a = true ∧ S.testBit b = true then D (fb_ct S.testBit a) (fb_ct S.testBit b) else 0
def tiM (FU M : Nat → Nat → F7) (i j : Nat) : F7 := s6 (fun q => FU i q * M q j)
theorem fu_inv {S : Nat} {D M : Nat → Nat → F7} (hS : S < 64) (h : ∀ i j, i < ct6 S → j < ct6 S → mul0 (ct6 S) D (A0 S M) i j = if i = j then 1 else 0) {a b : Nat} (ha : a < 6) (hb : b < 6) (ha1 : S.testBit a = true) (hb1 : S.testBit b = true) : tiM (fuM S D) M a b = if a = b then 1 else 0 := by
  have ra := (rk_lt S hS a ha).resolve_left (by rw [ha1]; decide)
  have rb := (rk_lt S hS b hb).resolve_left (by rw [hb1]; decide)
  have pa := (rk_pt S hS a ha).resolve_left (by rw [ha1]; decide)
  have pb := (rk_pt S hS b hb).resolve_left (by rw [hb1]; decide)
  have e : tiM (fuM S D) M a b = s6 (fun q => if S.testBit q then (fun l => D (fb_ct S.testBit a) l * A0 S M l (fb_ct S.testBit b)) (fb_ct S.testBit q) else 0) := by
    apply s6_cong
    intro q hq
    unfold fuM A0
    cases hqb : S.testBit q with
    | false => simp only [ha1, Bool.false_eq_true, and_false, if_false]; grind
    | true =>
      have pq := (rk_pt S hS q hq).resolve_left (by rw [hqb]; decide)
      simp only [ha1, and_self, if_true, pq, pb]
  refine (e.trans (s6_S (S := S) (fun l => D (fb_ct S.testBit a) l * A0 S M l (fb_ct S.testBit b)))).trans ?_
  show mul0 (ct6 S) D (A0 S M) (fb_ct S.testBit a) (fb_ct S.testBit b) = _
  rw [h _ _ ra rb]
  by_cases z : a = b
  · rw [if_pos z, if_pos (by rw [z])]
  · rw [if_neg z, if_neg (fun y => z (by rw [← pa, ← pb, y]))]
/-- the reference's new table -/
def nw6 (S : Nat) (FU M : Nat → Nat → F7) (i j : Nat) : F7 :=
  if S.testBit i then (if S.testBit j then FU i j else - tiM FU M i j) else (if S.testBit j then s6 (fun q => M i q * FU q j) else M i j - s6 (fun q => M i q * tiM FU M q j))
theorem nw6_gr {S : Nat} {FU M : Nat → Nat → F7} {x y : Nat → F7} (hz : ∀ a b, a < 6 → b < 6 → (S.testBit a = false ∨ S.testBit b = false) → FU a b = 0) (hinv : ∀ a b, a < 6 → b < 6 → S.testBit a = true → S.testBit b = true → tiM FU M a b = if a = b then 1 else 0) (h : GR M x y) : GR (nw6 S FU M) (mx S x y) (mx S y x) := by
  -- the inverse times y
  have key : ∀ i, i < 6 → s6 (fun j => FU i j * y j) = s6 (fun l => tiM FU M i l * x l) := by
    intro i hi
    have e1 : s6 (fun j => FU i j * y j) = s6 (fun j => s6 (fun l => FU i j * M j l * x l)) := by
      apply s6_cong
      intro j hj
      rw [h j hj, ← s6_mul]
      apply s6_cong
      intro l _
      grind
    have e2 : s6 (fun l => tiM FU M i l * x l) = s6 (fun l => s6 (fun j => FU i j * M j l * x l)) := by
      apply s6_cong
      intro l _
      have : tiM FU M i l * x l = x l * tiM FU M i l := by grind
      rw [this]
      unfold tiM
      rw [← s6_mul]
      apply s6_cong
      intro j _
      grind
    rw [e1, e2, s6_swap]
  have key2 : ∀ i, i < 6 → S.testBit i = true → s6 (fun l => tiM FU M i l * x l) = x i + s6 (fun l => if S.testBit l then 0 else tiM FU M i l * x l) := by
    intro i hi hib
    have e1 : x i = s6 (fun l => if l = i then x i else 0) := by
      rw [s6_one hi (fun p _ hp => if_neg hp), if_pos rfl]
    rw [e1, ← s6_add]
    apply s6_cong
    intro l hl
    by_cases q : l = i
    · subst q
      simp only [if_true, hib, hinv l l hl hl hib hib]; grind
    · cases hb : S.testBit l with
      | false => simp only [q, Bool.false_eq_true, if_false]; grind
      | true =>
        have : ¬ i = l := fun z => q z.symm
        simp only [q, if_true, if_false, hinv i l hi hl hib hb, this]; grind
  have key3 : ∀ i, i < 6 → S.testBit i = false → ∀ l, tiM FU M i l = 0 := by
    intro i hi hib l
    unfold tiM
    exact s6_0 (fun q hq => by rw [hz i q hi hq (Or.inl hib)]; grind)
  intro i hi
  cases hib : S.testBit i with
  | true =>
    have yi : mx S y x i = x i := by unfold mx; rw [hib]; rfl
    have e1 : s6 (fun l => nw6 S FU M i l * mx S x y l) = s6 (fun l => FU i l * y l + (-1) * (if S.testBit l then 0 else tiM FU M i l * x l)) := by
      apply s6_cong
      intro l hl
      unfold nw6 mx
      rw [hib]
      cases hb : S.testBit l with
      | false =>
        simp only [if_true, Bool.false_eq_true, if_false]
        rw [hz i l hi hl (Or.inr hb)]; grind
      | true => simp only [if_true]; grind
    rw [yi, e1, s6_ax, key i hi, key2 i hi hib]
    grind
  | false =>
    have yi : mx S y x i = y i := by unfold mx; rw [hib]; rfl
    -- sum over the places of S of M i k x k
    have e1 : s6 (fun l => nw6 S FU M i l * mx S x y l) = s6 (fun l => (if S.testBit l then s6 (fun q => M i q * FU q l) * y l else 0) + (if S.testBit l then 0 else M i l * x l + (-1) * (s6 (fun q => M i q * tiM FU M q l) * x l))) := by
      apply s6_cong
      intro l hl
      unfold nw6 mx
      rw [hib]
      cases hb : S.testBit l with
      | false => simp only [Bool.false_eq_true, if_false]; grind
      | true => simp only [if_true, Bool.false_eq_true, if_false]; grind
    have e2 : s6 (fun l => if S.testBit l then s6 (fun q => M i q * FU q l) * y l else 0) = s6 (fun q => M i q * s6 (fun l => FU q l * y l)) := by
      have z1 : s6 (fun l => if S.testBit l then s6 (fun q => M i q * FU q l) * y l else 0) = s6 (fun l => s6 (fun q => M i q * (FU q l * y l))) := by
        apply s6_cong
        intro l hl
        cases hb : S.testBit l with
        | false =>
          simp only [Bool.false_eq_true, if_false]
          symm
          exact s6_0 (fun q hq => by rw [hz q l hq hl (Or.inr hb)]; grind)
        | true =>
          simp only [if_true]
          have : s6 (fun q => M i q * FU q l) * y l = y l * s6 (fun q => M i q * FU q l) := by grind
          rw [this, ← s6_mul]
          apply s6_cong
          intro q _
          grind
      rw [z1, s6_swap]
      apply s6_cong
      intro q _
      exact s6_mul _ _
    have e3 : s6 (fun q => M i q * s6 (fun l => FU q l * y l)) = s6 (fun q => (if S.testBit q then M i q * x q else 0) + M i q * s6 (fun l => if S.testBit l then 0 else tiM FU M q l * x l)) := by
      apply s6_cong
      intro q hq
      rw [key q hq]
      cases hb : S.testBit q with
      | false =>
        have z1 : s6 (fun l => tiM FU M q l * x l) = 0 := s6_0 (fun l _ => by rw [key3 q hq hb l]; grind)
        have z2 : s6 (fun l => if S.testBit l then 0 else tiM FU M q l * x l) = 0 := s6_0 (fun l _ => by
          rw [key3 q hq hb l]
          cases S.testBit l
          · simp only [Bool.false_eq_true, if_false]; grind
          · simp only [if_true])
        rw [z1, z2]; simp only [Bool.false_eq_true, if_false]; grind
      | true =>
        rw [key2 q hq hb]; simp only [if_true]; grind
    have e4 : s6 (fun q => M i q * s6 (fun l => if S.testBit l then 0 else tiM FU M q l * x l)) = s6 (fun l => if S.testBit l then 0 else s6 (fun q => M i q * tiM FU M q l) * x l) := by
      have z1 : s6 (fun q => M i q * s6 (fun l => if S.testBit l then 0 else tiM FU M q l * x l)) = s6 (fun q => s6 (fun l => M i q * (if S.testBit l then 0 else tiM FU M q l * x l))) := by
        apply s6_cong
        intro q _
        exact (s6_mul _ _).symm
      rw [z1, s6_swap]
      apply s6_cong
      intro l _
      cases hb : S.testBit l with
      | true =>
        simp only [if_true]
        exact s6_0 (fun q _ => by grind)
      | false =>
        simp only [Bool.false_eq_true, if_false]
        have : s6 (fun q => M i q * tiM FU M q l) * x l = x l * s6 (fun q => M i q * tiM FU M q l) := by grind
        rw [this, ← s6_mul]
        apply s6_cong
        intro q _
        grind
    have e5 : s6 (fun l => if S.testBit l then 0 else M i l * x l + (-1) * (s6 (fun q => M i q * tiM FU M q l) * x l)) = s6 (fun l => if S.testBit l then 0 else M i l * x l) + (-1) * s6 (fun l => if S.testBit l then 0 else s6 (fun q => M i q * tiM FU M q l) * x l) := by
      rw [← s6_ax]
      apply s6_cong
      intro l _
      cases S.testBit l
      · simp only [Bool.false_eq_true, if_false]
      · simp only [if_true]; grind
    have e6 : s6 (fun l => M i l * x l) = s6 (fun q => if S.testBit q then M i q * x q else 0) + s6 (fun l => if S.testBit l then 0 else M i l * x l) := by
      rw [← s6_add]
      apply s6_cong
      intro l _
      cases S.testBit l
      · simp only [Bool.false_eq_true, if_false]; grind
      · simp only [if_true]; grind
    rw [yi, h i hi, e1, s6_add, e2, e3, s6_add, e4, e5, e6]
    grind
/-- tables with one graph are one -/
theorem tab_eq {M N M0 : Nat → Nat → F7} {S : Nat} (h1 : ∀ u v, GR M u v → GR M0 (mx S u v) (mx S v u)) (h2 : ∀ x y, GR M0 x y → GR N (mx S x y) (mx S y x)) {a b : Nat} (ha : a < 6) (hb : b < 6) : M a b = N a b := by
  have hu : GR M (fun q => if q = b then 1 else 0) (fun k => s6 (fun l => M k l * (if l = b then 1 else 0))) := fun k _ => rfl
  have h3 := h2 _ _ (h1 _ _ hu)
  have hmm : ∀ u v : Nat → F7, mx S (mx S u v) (mx S v u) = u := fun u v => by
    funext q
    unfold mx
    cases S.testBit q <;> rfl
  rw [hmm, hmm] at h3
  have h4 := h3 a ha
  have z : ∀ X : Nat → Nat → F7, s6 (fun l => X a l * (if l = b then 1 else 0)) = X a b := fun X => by
    rw [s6_one hb (fun p _ hp => by rw [if_neg hp]; grind), if_pos rfl]; grind
  rw [z N] at h4
  rw [← h4]
  exact (z M).symm
