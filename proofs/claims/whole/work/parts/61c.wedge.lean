theorem wW_anti (v u w : Nat → F7) : wW v (wW u w) = smW (-1) (wW u (wW v w)) := by
  funext S
  by_cases h : S < 64
  case neg =>
    show wW v (wW u w) S = -1 * wW u (wW v w) S
    rw [wW_big h, wW_big h]; grind
  have hx : ∀ p, p < 6 → S ^^^ 2 ^ p < 64 := fun p hp => xlt6 h (p6 p hp)
  have e : ∀ v u : Nat → F7, wW v (wW u w) S = s6 (fun p => s6 (fun q => if (S.testBit p && S.testBit q && decide (p ≠ q)) = true then sgW p S * sgW q (S ^^^ 2 ^ p) * (v p * u q) * w (S ^^^ 2 ^ p ^^^ 2 ^ q) else 0)) := by
    intro v u
    rw [wW_in h]
    apply s6_cong
    intro p hp
    cases hb : S.testBit p with
    | false => simp only [Bool.false_eq_true, if_false, Bool.false_and]; rw [s6_0 (fun _ _ => rfl)]
    | true =>
      simp only [if_true, Bool.true_and]
      rw [wW_in (hx p hp), ← s6_mul]
      apply s6_cong
      intro q hq
      rw [fb_bit_flip]
      by_cases epq : q = p
      · subst epq; simp only [hb, decide_true, Bool.xor_true, Bool.not_true, Bool.false_eq_true, if_false, ne_eq, not_true, decide_false, Bool.and_false]; grind
      · have epq' : p ≠ q := fun z => epq z.symm
        simp only [epq, epq', decide_false, Bool.xor_false, ne_eq, not_false_eq_true, decide_true, Bool.and_true]
        cases S.testBit q
        · simp only [Bool.false_eq_true, if_false]; grind
        · simp only [if_true]; grind
  show wW v (wW u w) S = -1 * wW u (wW v w) S
  rw [e v u, e u v, s6_swap (fun p q => if (S.testBit p && S.testBit q && decide (p ≠ q)) = true then sgW p S * sgW q (S ^^^ 2 ^ p) * (u p * v q) * w (S ^^^ 2 ^ p ^^^ 2 ^ q) else 0), ← s6_mul]
  apply s6_cong
  intro p hp
  rw [← s6_mul]
  apply s6_cong
  intro q hq
  cases hp1 : S.testBit p with
  | false => simp only [Bool.false_eq_true, if_false, Bool.false_and]; grind
  | true =>
    cases hq1 : S.testBit q with
    | false => simp only [Bool.false_eq_true, if_false, Bool.false_and]; grind
    | true =>
      by_cases epq : p = q
      · subst epq; simp only [ne_eq, not_true, decide_false, Bool.and_false, Bool.false_eq_true, if_false]; grind
      · have epq' : q ≠ p := fun z => epq z.symm
        simp only [Bool.and_true, ne_eq, epq, epq', not_false_eq_true, decide_true, if_true]
        have hs := (((sgW_anti S h p hp q hq).resolve_left (by rw [hp1]; decide)).resolve_left (by rw [hq1]; decide)).resolve_left epq
        rw [hs, Nat.xor_assoc S (2 ^ p) (2 ^ q), Nat.xor_comm (2 ^ p) (2 ^ q), ← Nat.xor_assoc]
        grind
theorem wW_self (v w : Nat → F7) : wW v (wW v w) = zfW := by
  have h := wW_anti v v w
  funext S
  have h2 := congrFun h S
  unfold smW at h2
  generalize wW v (wW v w) S = x at h2
  show x = 0
  revert x
  decide
