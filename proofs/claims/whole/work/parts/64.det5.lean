/-! ===== the graph of a table; the whole by pairs ===== -/
def GR (M : Nat → Nat → F7) (x y : Nat → F7) : Prop := ∀ k, k < 6 → y k = s6 (fun l => M k l * x l)
def mx (Z : Nat) (u v : Nat → F7) : Nat → F7 := fun q => if Z.testBit q then v q else u q
def x2 (i j : Nat) (u v : Nat → F7) : Nat → F7 := fun q => if q = i ∨ q = j then v q else u q
theorem s6_two (f : Nat → F7) {i j : Nat} (hi : i < 6) (hj : j < 6) (hij : i ≠ j) : s6 f = f i + f j + s6 (fun l => if l = i ∨ l = j then 0 else f l) := by
  have e1 : s6 (fun l => if l = i then f l else 0) = f i := by
    rw [s6_one hi (fun p _ hp => if_neg hp), if_pos rfl]
  have e2 : s6 (fun l => if l = j then f l else 0) = f j := by
    rw [s6_one hj (fun p _ hp => if_neg hp), if_pos rfl]
  rw [← e1, ← e2, ← s6_add, ← s6_add]
  apply s6_cong
  intro p _
  by_cases q1 : p = i
  · have q2 : p ≠ j := by omega
    simp only [q1, if_true, true_or, hij, if_false]; grind
  · by_cases q2 : p = j
    · simp only [q1, q2, if_true, or_true, if_false]
      have : ¬ j = i := fun z => hij z.symm
      simp only [this, if_false]; grind
    · simp only [q1, q2, if_false, or_self]; grind
theorem GR.two {M : Nat → Nat → F7} {i j : Nat} {w : F7} {u v : Nat → F7} (hM : ∀ a b, a < 6 → b < 6 → M a b = - M b a) (hi : i < 6) (hj : j < 6) (hij : i ≠ j) (hw : M i j * w = 1) (h : GR (pv2 M i j w) u v) : GR M (x2 i j u v) (x2 i j v u) := by
  have hii : M i i = 0 := neg_self (hM i i hi hi)
  have hjj : M j j = 0 := neg_self (hM j j hj hj)
  have hji : M j i = - M i j := hM j i hj hi
  let A : Nat → F7 := fun k => s6 (fun l => if l = i ∨ l = j then 0 else M k l * u l)
  have hvi : v i = - w * u j + w * A j := by
    rw [h i hi, s6_two _ hi hj hij]
    have e1 : pv2 M i j w i i = 0 := by unfold pv2; rw [if_pos rfl, if_pos rfl]
    have e2 : pv2 M i j w i j = - w := by unfold pv2; rw [if_pos rfl, if_neg (fun z => hij z.symm), if_pos rfl]
    have e3 : s6 (fun l => if l = i ∨ l = j then 0 else pv2 M i j w i l * u l) = w * A j := by
      show _ = w * s6 _
      rw [← s6_mul]
      apply s6_cong
      intro l _
      by_cases q : l = i ∨ l = j
      · simp only [q, if_true]; grind
      · simp only [q, if_false]
        have : pv2 M i j w i l = M j l * w := by unfold pv2; rw [if_pos rfl, if_neg (fun z => q (Or.inl z)), if_neg (fun z => q (Or.inr z))]
        rw [this]; grind
    rw [e1, e2, e3]; grind
  have hvj : v j = w * u i - w * A i := by
    rw [h j hj, s6_two _ hi hj hij]
    have e1 : pv2 M i j w j i = w := by unfold pv2; rw [if_neg (fun z => hij z.symm), if_pos rfl, if_pos rfl]
    have e2 : pv2 M i j w j j = 0 := by unfold pv2; rw [if_neg (fun z => hij z.symm), if_pos rfl, if_neg (fun z => hij z.symm), if_pos rfl]
    have e3 : s6 (fun l => if l = i ∨ l = j then 0 else pv2 M i j w j l * u l) = (- w) * A i := by
      show _ = (- w) * s6 _
      rw [← s6_mul]
      apply s6_cong
      intro l _
      by_cases q : l = i ∨ l = j
      · simp only [q, if_true]; grind
      · simp only [q, if_false]
        have : pv2 M i j w j l = - M i l * w := by unfold pv2; rw [if_neg (fun z => hij z.symm), if_pos rfl, if_neg (fun z => q (Or.inl z)), if_neg (fun z => q (Or.inr z))]
        rw [this]; grind
    rw [e1, e2, e3]; grind
  have hvk : ∀ k, k < 6 → k ≠ i → k ≠ j → v k = - (M j k * w) * u i + M i k * w * u j + A k + w * (M k i * A j - M k j * A i) := by
    intro k hk ki kj
    rw [h k hk, s6_two _ hi hj hij]
    have e1 : pv2 M i j w k i = - (M j k * w) := by unfold pv2; rw [if_neg ki, if_neg kj, if_pos rfl]
    have e2 : pv2 M i j w k j = M i k * w := by unfold pv2; rw [if_neg ki, if_neg kj, if_neg (fun z => hij z.symm), if_pos rfl]
    have e3 : s6 (fun l => if l = i ∨ l = j then 0 else pv2 M i j w k l * u l) = A k + w * (M k i * A j - M k j * A i) := by
      have e4 : A k + w * (M k i * A j - M k j * A i) = s6 (fun l => (if l = i ∨ l = j then 0 else M k l * u l) + (w * M k i) * (if l = i ∨ l = j then 0 else M j l * u l) + (- (w * M k j)) * (if l = i ∨ l = j then 0 else M i l * u l)) := by
        rw [s6_ax, s6_ax]
        show A k + w * (M k i * A j - M k j * A i) = A k + w * M k i * A j + (- (w * M k j)) * A i
        grind
      rw [e4]
      apply s6_cong
      intro l _
      by_cases q : l = i ∨ l = j
      · simp only [q, if_true]; grind
      · simp only [q, if_false]
        have : pv2 M i j w k l = nwT M i j w k l := by unfold pv2; rw [if_neg ki, if_neg kj, if_neg (fun z => q (Or.inl z)), if_neg (fun z => q (Or.inr z))]
        rw [this]
        unfold nwT
        grind
    rw [e1, e2, e3]; grind
  intro k hk
  rw [s6_two _ hi hj hij]
  have eA : s6 (fun l => if l = i ∨ l = j then 0 else M k l * x2 i j u v l) = A k := by
    apply s6_cong
    intro l _
    by_cases q : l = i ∨ l = j
    · simp only [q, if_true]
    · simp only [q, if_false, x2]
  have xi : x2 i j u v i = v i := if_pos (Or.inl rfl)
  have xj : x2 i j u v j = v j := if_pos (Or.inr rfl)
  rw [eA, xi, xj]
  by_cases ki : k = i
  · have yk : x2 i j v u k = u k := if_pos (Or.inl ki)
    rw [yk, ki, hii, hvj]
    grind
  · by_cases kj : k = j
    · have yk : x2 i j v u k = u k := if_pos (Or.inr kj)
      rw [yk, kj, hjj, hvi, hji]
      grind
    · have yk : x2 i j v u k = v k := if_neg (fun z => z.elim ki kj)
      rw [yk, hvk k hk ki kj, hvi, hvj, hM j k hj hk, hM i k hi hk]
      grind
/-! the whole of a set -/
def wh7 (M : Nat → Nat → F7) (L : Nat) : F7 := eW M L 0 6 onW L
def nrow (M : Nat → Nat → F7) (i j : Nat) (w : F7) (k : Nat) : Nat → F7 := fun p => M k p + (- (M k j * w)) * M i p + (M k i * w) * M j p
def Rt (M : Nat → Nat → F7) (i j : Nat) (w : F7) (t k : Nat) : Nat → F7 := if k < t ∧ k ≠ i ∧ k ≠ j then nrow M i j w k else M k
theorem Rt_step {M : Nat → Nat → F7} {i j L t : Nat} {w : F7} (hi : i < 6) (hj : j < 6) (hi1 : L.testBit i = true) (hj1 : L.testBit j = true) (ht : t < 6) : eW (Rt M i j w (t + 1)) L 0 6 onW = eW (Rt M i j w t) L 0 6 onW := by
  by_cases hc : t = i ∨ t = j
  · have : Rt M i j w (t + 1) = Rt M i j w t := by
      funext k
      unfold Rt
      have : (k < t + 1 ∧ k ≠ i ∧ k ≠ j) ↔ (k < t ∧ k ≠ i ∧ k ≠ j) := by omega
      simp only [this]
    rw [this]
  · have ti : t ≠ i := fun z => hc (Or.inl z)
    have tj : t ≠ j := fun z => hc (Or.inr z)
    by_cases hb : L.testBit t = true
    · have Ri : Rt M i j w t i = M i := if_neg (by omega)
      have Rj : Rt M i j w t j = M j := if_neg (by omega)
      have Rk : Rt M i j w t t = M t := if_neg (by omega)
      have s1 := eW_add (R := Rt M i j w t) onW ht hi hb hi1 (fun z => ti z.symm) (- (M t j * w))
      have s2 := eW_add (R := rsW (Rt M i j w t) t (fun p => Rt M i j w t t p + (- (M t j * w)) * Rt M i j w t i p)) onW ht hj hb hj1 (fun z => tj z.symm) (M t i * w)
      rw [s1] at s2
      rw [← s2]
      congr 1
      funext k
      by_cases e : k = t
      · subst e
        rw [rsW_at, rsW_at, rsW_ne _ _ (fun z => tj z.symm), Ri, Rj, Rk]
        show (if k < k + 1 ∧ k ≠ i ∧ k ≠ j then nrow M i j w k else M k) = _
        rw [if_pos ⟨by omega, ti, tj⟩]
        rfl
      · rw [rsW_ne _ _ e, rsW_ne _ _ e]
        unfold Rt
        have : (k < t + 1 ∧ k ≠ i ∧ k ≠ j) ↔ (k < t ∧ k ≠ i ∧ k ≠ j) := by omega
        simp only [this]
    · refine eW_cong onW 6 0 (fun q h1 h2 => ⟨rfl, fun hq => ?_⟩)
      have e : q ≠ t := fun z => by rw [z] at hq; exact hb hq
      unfold Rt
      have : (q < t + 1 ∧ q ≠ i ∧ q ≠ j) ↔ (q < t ∧ q ≠ i ∧ q ≠ j) := by omega
      simp only [this]
theorem Rt_all {M : Nat → Nat → F7} {i j L : Nat} {w : F7} (hi : i < 6) (hj : j < 6) (hi1 : L.testBit i = true) (hj1 : L.testBit j = true) : ∀ t, t ≤ 6 → eW (Rt M i j w t) L 0 6 onW = eW M L 0 6 onW
  | 0, _ => by
    have : Rt M i j w 0 = M := by
      funext k
      exact if_neg (by omega)
    rw [this]
  | t + 1, h => by rw [Rt_step hi hj hi1 hj1 (by omega), Rt_all hi hj hi1 hj1 t (by omega)]
theorem sgn_ok : ∀ L, L < 64 → ∀ i, i < 6 → ∀ j, j < 6 → (L.testBit i = false ∨ L.testBit j = false ∨ j ≤ i ∨ L % 2 ^ i ≠ 0 ∨ ssW L (i + 1) (j - i - 1) * (sgW j L * sgW i (L ^^^ 2 ^ j)) = -1) := by decide +kernel
theorem low0 {L i : Nat} (h : L % 2 ^ i = 0) {q : Nat} (hq : q < i) : L.testBit q = false := by
  have := Nat.testBit_mod_two_pow L i q
  rw [h, Nat.zero_testBit] at this
  simpa [hq] using this.symm
theorem schur {M : Nat → Nat → F7} {i j L : Nat} {w : F7} (hM : ∀ a b, a < 6 → b < 6 → M a b = - M b a) (hL : L < 64) (hi : i < 6) (hj : j < 6) (hij : i < j) (hi1 : L.testBit i = true) (hj1 : L.testBit j = true) (hlow : L % 2 ^ i = 0) (hw : M i j * w = 1) : wh7 M L = M i j * M i j * wh7 (pv2 M i j w) (L ^^^ 2 ^ i ^^^ 2 ^ j) := by
  have hii : M i i = 0 := neg_self (hM i i hi hi)
  have hjj : M j j = 0 := neg_self (hM j j hj hj)
  have hji : M j i = - M i j := hM j i hj hi
  have hLb : ∀ q, (L ^^^ 2 ^ i ^^^ 2 ^ j).testBit q = (L.testBit q && decide (q ≠ i ∧ q ≠ j)) := fun q => by
    rw [fb_bit_flip, fb_bit_flip]
    by_cases q1 : q = i
    · subst q1
      have : q ≠ j := by omega
      simp [hi1, this]
    · by_cases q2 : q = j
      · subst q2; simp [hj1, q1]
      · simp [q1, q2]
  have hL' : L ^^^ 2 ^ i ^^^ 2 ^ j < 64 := xlt6 (xlt6 hL (p6 i hi)) (p6 j hj)
  let R := Rt M i j w 6
  have hRi : R i = M i := if_neg (by omega)
  have hRj : R j = M j := if_neg (by omega)
  have hRk : ∀ k, k < 6 → k ≠ i → k ≠ j → R k = nrow M i j w k := fun k h1 h2 h3 => if_pos ⟨h1, h2, h3⟩
  let om := eW R (L ^^^ 2 ^ i ^^^ 2 ^ j) 0 6 onW
  -- the row j to the front
  have f1 : eW R L 0 6 onW = smW (ssW L (i + 1) (j - i - 1)) (wW (M i) (wW (M j) om)) := by
    have e1 : eW R L 0 6 onW = eW R L 0 i (eW R L i (6 - i) onW) := by
      have := eW_split R L onW (6 - i) i 0
      rwa [show i + (6 - i) = 6 by omega, Nat.zero_add] at this
    have e1' : eW R L 0 i (eW R L i (6 - i) onW) = eW R L i (6 - i) onW := eW_none _ i 0 (fun q _ h2 => low0 hlow (by omega))
    have e2 : eW R L i (6 - i) onW = wW (M i) (eW R L (i + 1) (5 - i) onW) := by
      rw [show 6 - i = (5 - i) + 1 by omega, eW, hi1, hRi]; rfl
    have e3 : eW R L (i + 1) (5 - i) onW = eW R L (i + 1) (j - i - 1) (eW R L j (6 - j) onW) := by
      have := eW_split R L onW (6 - j) (j - i - 1) (i + 1)
      rwa [show j - i - 1 + (6 - j) = 5 - i by omega, show i + 1 + (j - i - 1) = j by omega] at this
    have e4 : eW R L j (6 - j) onW = wW (M j) (eW R L (j + 1) (5 - j) onW) := by
      rw [show 6 - j = (5 - j) + 1 by omega, eW, hj1, hRj]; rfl
    have g : om = eW R L (i + 1) (j - i - 1) (eW R L (j + 1) (5 - j) onW) := by
      have s1 : om = eW R (L ^^^ 2 ^ i ^^^ 2 ^ j) 0 (i + 1) (eW R (L ^^^ 2 ^ i ^^^ 2 ^ j) (i + 1) (5 - i) onW) := by
        have := eW_split R (L ^^^ 2 ^ i ^^^ 2 ^ j) onW (5 - i) (i + 1) 0
        rwa [show i + 1 + (5 - i) = 6 by omega, Nat.zero_add] at this
      have s2 : eW R (L ^^^ 2 ^ i ^^^ 2 ^ j) 0 (i + 1) (eW R (L ^^^ 2 ^ i ^^^ 2 ^ j) (i + 1) (5 - i) onW) = eW R (L ^^^ 2 ^ i ^^^ 2 ^ j) (i + 1) (5 - i) onW := eW_none _ (i + 1) 0 (fun q _ h2 => by
        rw [hLb]
        by_cases z : q = i
        · simp [z]
        · rw [low0 hlow (show q < i by omega)]; rfl)
      have s3 : eW R (L ^^^ 2 ^ i ^^^ 2 ^ j) (i + 1) (5 - i) onW = eW R (L ^^^ 2 ^ i ^^^ 2 ^ j) (i + 1) (j - i - 1) (eW R (L ^^^ 2 ^ i ^^^ 2 ^ j) j (6 - j) onW) := by
        have := eW_split R (L ^^^ 2 ^ i ^^^ 2 ^ j) onW (6 - j) (j - i - 1) (i + 1)
        rwa [show j - i - 1 + (6 - j) = 5 - i by omega, show i + 1 + (j - i - 1) = j by omega] at this
      have s4 : eW R (L ^^^ 2 ^ i ^^^ 2 ^ j) j (6 - j) onW = eW R (L ^^^ 2 ^ i ^^^ 2 ^ j) (j + 1) (5 - j) onW := by
        rw [show 6 - j = (5 - j) + 1 by omega, eW]
        have : (L ^^^ 2 ^ i ^^^ 2 ^ j).testBit j = false := by rw [hLb]; simp
        rw [this]; rfl
      have s5 : eW R (L ^^^ 2 ^ i ^^^ 2 ^ j) (j + 1) (5 - j) onW = eW R L (j + 1) (5 - j) onW := eW_cong _ _ _ (fun q h1 h2 => ⟨by
        rw [hLb]
        have z1 : q ≠ i := by omega
        have z2 : q ≠ j := by omega
        simp [z1, z2], fun _ => rfl⟩)
      rw [s1, s2, s3, s4, s5]
      exact eW_cong _ _ _ (fun q h1 h2 => ⟨by
        rw [hLb]
        have z1 : q ≠ i := by omega
        have z2 : q ≠ j := by omega
        simp [z1, z2], fun _ => rfl⟩)
    rw [e1, e1', e2, e3, e4, mvW', wW_sm, g]
  -- what it is at L
  have hout : ∀ D, (D.testBit i = true ∨ D.testBit j = true) → om D = 0 := by
    intro D hD
    rcases hD with z | z
    · refine eW_out 6 0 (fun q _ h2 hq => ?_) D z
      rw [hLb, Bool.and_eq_true, decide_eq_true_iff] at hq
      rw [hRk q (by omega) hq.2.1 hq.2.2]
      show M q i + (- (M q j * w)) * M i i + (M q i * w) * M j i = 0
      rw [hii, hji]
      grind
    · refine eW_out 6 0 (fun q _ h2 hq => ?_) D z
      rw [hLb, Bool.and_eq_true, decide_eq_true_iff] at hq
      rw [hRk q (by omega) hq.2.1 hq.2.2]
      show M q j + (- (M q j * w)) * M i j + (M q i * w) * M j j = 0
      rw [hjj]
      grind
  have hbx : ∀ p q, p < 6 → (L ^^^ 2 ^ p).testBit q = (L.testBit q ^^ decide (q = p)) := fun p q _ => fb_bit_flip L p q
  have ht : ∀ p, p < 6 → wW (M j) om (L ^^^ 2 ^ p) = if p = j then sgW i (L ^^^ 2 ^ j) * M j i * om (L ^^^ 2 ^ i ^^^ 2 ^ j) else if p = i then wW (M j) om (L ^^^ 2 ^ i) else 0 := by
    intro p hp
    by_cases pj : p = j
    · subst pj
      rw [if_pos rfl, wW_in (xlt6 hL (p6 p hp)), s6_one hi]
      · have b1 : (L ^^^ 2 ^ p).testBit i = true := by
          rw [hbx p i hp, hi1]
          have : ¬ i = p := by omega
          simp [this]
        rw [if_pos b1, Nat.xor_assoc L, Nat.xor_comm (2 ^ p) (2 ^ i), ← Nat.xor_assoc]
      · intro q hq hqi
        by_cases b : (L ^^^ 2 ^ p).testBit q = true
        · rw [if_pos b, hout _ (Or.inl (by
            rw [fb_bit_flip, hbx p i hp, hi1]
            have z1 : ¬ i = p := by omega
            have z2 : ¬ i = q := fun z => hqi z.symm
            simp [z1, z2]))]
          grind
        · rw [if_neg b]
    · rw [if_neg pj]
      by_cases pi : p = i
      · rw [if_pos pi, pi]
      · rw [if_neg pi, wW_in (xlt6 hL (p6 p hp))]
        refine s6_0 (fun q hq => ?_)
        by_cases b : (L ^^^ 2 ^ p).testBit q = true
        · rw [if_pos b]
          have : om (L ^^^ 2 ^ p ^^^ 2 ^ q) = 0 := by
            by_cases qi : q = i
            · refine hout _ (Or.inr ?_)
              rw [fb_bit_flip, hbx p j hp, hj1]
              have z1 : ¬ j = p := fun z => pj z.symm
              have z2 : ¬ j = q := by omega
              simp [z1, z2]
            · refine hout _ (Or.inl ?_)
              rw [fb_bit_flip, hbx p i hp, hi1]
              have z1 : ¬ i = p := fun z => pi z.symm
              have z2 : ¬ i = q := fun z => qi z.symm
              simp [z1, z2]
          rw [this]; grind
        · rw [if_neg b]
  have f2 : wW (M i) (wW (M j) om) L = sgW j L * M i j * (sgW i (L ^^^ 2 ^ j) * M j i * om (L ^^^ 2 ^ i ^^^ 2 ^ j)) := by
    rw [wW_in hL, s6_one hj]
    · rw [if_pos hj1, ht j hj, if_pos rfl]
    · intro p hp hpj
      by_cases b : L.testBit p = true
      · rw [if_pos b, ht p hp, if_neg hpj]
        by_cases pi : p = i
        · rw [if_pos pi, pi, hii]; grind
        · rw [if_neg pi]; grind
      · rw [if_neg b]
  have f3 : om (L ^^^ 2 ^ i ^^^ 2 ^ j) = wh7 (pv2 M i j w) (L ^^^ 2 ^ i ^^^ 2 ^ j) := by
    refine eW_cols (C := L ^^^ 2 ^ i ^^^ 2 ^ j) onW 6 0 (fun q _ h2 hq c hc hcb => ?_) _ (fun _ z => z)
    rw [hLb, Bool.and_eq_true, decide_eq_true_iff] at hq hcb
    rw [hRk q (by omega) hq.2.1 hq.2.2]
    show M q c + (- (M q j * w)) * M i c + (M q i * w) * M j c = pv2 M i j w q c
    unfold pv2 nwT
    rw [if_neg hq.2.1, if_neg hq.2.2, if_neg hcb.2.1, if_neg hcb.2.2]
    grind
  have hs := ((((sgn_ok L hL i hi j hj).resolve_left (by rw [hi1]; decide)).resolve_left (by rw [hj1]; decide)).resolve_left (by omega)).resolve_left (fun z => z hlow)
  unfold wh7
  rw [← Rt_all hi hj hi1 hj1 6 (Nat.le_refl 6)]
  show eW R L 0 6 onW L = _
  rw [f1]
  show ssW L (i + 1) (j - i - 1) * wW (M i) (wW (M j) om) L = _
  rw [f2, f3, hji]
  unfold wh7
  generalize eW (pv2 M i j w) (L ^^^ 2 ^ i ^^^ 2 ^ j) 0 6 onW (L ^^^ 2 ^ i ^^^ 2 ^ j) = d
  generalize M i j = m
  generalize ssW L (i + 1) (j - i - 1) = a at hs ⊢
  generalize sgW j L = b at hs ⊢
  generalize sgW i (L ^^^ 2 ^ j) = c at hs ⊢
  grind
theorem wh7_0 (M : Nat → Nat → F7) : wh7 M 0 = 1 := by
  unfold wh7
  rw [eW_none onW 6 0 (fun q _ _ => Nat.zero_testBit q)]
  rfl
/-- a row of zeros -/
theorem wh7_row {M : Nat → Nat → F7} {L i : Nat} (hi : i < 6) (hi1 : L.testBit i = true) (hz : ∀ q, q < 6 → L.testBit q = true → M i q = 0) : wh7 M L = 0 := by
  unfold wh7
  rw [← rsW_self M i, eW_row onW hi hi1]
  refine eW_null (C := L) (fun D hD => ?_) i 0 L (fun _ z => z)
  by_cases h6 : D < 64
  · rw [wW_in h6]
    refine s6_0 (fun p hp => ?_)
    cases hd : D.testBit p with
    | false => rfl
    | true =>
      simp only [if_true]
      rw [hz p hp (hD p hd)]
      grind
  · rw [wW_big h6]
