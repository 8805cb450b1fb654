/-! ===== numbers modulo 7; rows of them, wedged ===== -/
abbrev F7 : Type := Fin 7
def s6 (f : Nat → F7) : F7 := f 0 + f 1 + f 2 + f 3 + f 4 + f 5
theorem s6_cong {f g : Nat → F7} (h : ∀ p, p < 6 → f p = g p) : s6 f = s6 g := by
  unfold s6
  rw [h 0 (by omega), h 1 (by omega), h 2 (by omega), h 3 (by omega), h 4 (by omega), h 5 (by omega)]
theorem s6_ax (f g : Nat → F7) (c : F7) : s6 (fun p => f p + c * g p) = s6 f + c * s6 g := by
  unfold s6
  grind
theorem s6_mul (f : Nat → F7) (c : F7) : s6 (fun p => c * f p) = c * s6 f := by
  unfold s6
  grind
theorem s6_neg (f : Nat → F7) : s6 (fun p => - f p) = - s6 f := by
  unfold s6
  grind
theorem s6_add (f g : Nat → F7) : s6 (fun p => f p + g p) = s6 f + s6 g := by
  unfold s6
  grind
theorem s6_swap (f : Nat → Nat → F7) : s6 (fun p => s6 (fun q => f p q)) = s6 (fun q => s6 (fun p => f p q)) := by
  unfold s6
  grind
theorem s6_0 {f : Nat → F7} (h : ∀ p, p < 6 → f p = 0) : s6 f = 0 := by
  rw [s6_cong (g := fun _ => 0) h]
  rfl
theorem s6_one {f : Nat → F7} {k : Nat} (hk : k < 6) (h : ∀ p, p < 6 → p ≠ k → f p = 0) : s6 f = f k := by
  have e : s6 f = s6 (fun p => if p = k then f k else 0) := s6_cong (fun p hp => by
    by_cases q : p = k
    · simp [q]
    · simp [q, h p hp q])
  rw [e]
  unfold s6
  obtain rfl | rfl | rfl | rfl | rfl | rfl : k = 0 ∨ k = 1 ∨ k = 2 ∨ k = 3 ∨ k = 4 ∨ k = 5 := by omega
  all_goals simp
def sgW (p S : Nat) : F7 := if fb_ct S.testBit p % 2 = 0 then 1 else -1
def wW (v w : Nat → F7) (S : Nat) : F7 := if S < 64 then s6 (fun p => if S.testBit p then sgW p S * v p * w (S ^^^ 2 ^ p) else 0) else 0
def axW (w : Nat → F7) (c : F7) (u : Nat → F7) : Nat → F7 := fun S => w S + c * u S
def smW (c : F7) (w : Nat → F7) : Nat → F7 := fun S => c * w S
def zfW : Nat → F7 := fun _ => 0
def onW : Nat → F7 := fun S => if S = 0 then 1 else 0
theorem wW_in {v w : Nat → F7} {S : Nat} (h : S < 64) : wW v w S = s6 (fun p => if S.testBit p then sgW p S * v p * w (S ^^^ 2 ^ p) else 0) := if_pos h
theorem wW_big {v w : Nat → F7} {S : Nat} (h : ¬ S < 64) : wW v w S = 0 := if_neg h
theorem wW_ax1 (v u : Nat → F7) (c : F7) (w : Nat → F7) : wW (fun p => v p + c * u p) w = axW (wW v w) c (wW u w) := by
  funext S
  show wW (fun p => v p + c * u p) w S = wW v w S + c * wW u w S
  by_cases h : S < 64
  · rw [wW_in h, wW_in h, wW_in h, ← s6_ax]
    apply s6_cong
    intro p _
    cases S.testBit p
    · simp only [Bool.false_eq_true, if_false]; grind
    · simp only [if_true]; grind
  · rw [wW_big h, wW_big h, wW_big h]; grind
theorem wW_ax2 (v : Nat → F7) (w : Nat → F7) (c : F7) (u : Nat → F7) : wW v (axW w c u) = axW (wW v w) c (wW v u) := by
  funext S
  show wW v (axW w c u) S = wW v w S + c * wW v u S
  by_cases h : S < 64
  · rw [wW_in h, wW_in h, wW_in h, ← s6_ax]
    apply s6_cong
    intro p _
    cases S.testBit p
    · simp only [Bool.false_eq_true, if_false]; grind
    · simp only [if_true, axW]; grind
  · rw [wW_big h, wW_big h, wW_big h]; grind
theorem wW_sm (v : Nat → F7) (c : F7) (w : Nat → F7) : wW v (smW c w) = smW c (wW v w) := by
  funext S
  show wW v (smW c w) S = c * wW v w S
  by_cases h : S < 64
  · rw [wW_in h, wW_in h, ← s6_mul]
    apply s6_cong
    intro p _
    cases S.testBit p
    · simp only [Bool.false_eq_true, if_false]; grind
    · simp only [if_true, smW]; grind
  · rw [wW_big h, wW_big h]; grind
theorem wW_sm1 (v : Nat → F7) (c : F7) (w : Nat → F7) : wW (fun p => c * v p) w = smW c (wW v w) := by
  funext S
  show wW (fun p => c * v p) w S = c * wW v w S
  by_cases h : S < 64
  · rw [wW_in h, wW_in h, ← s6_mul]
    apply s6_cong
    intro p _
    cases S.testBit p
    · simp only [Bool.false_eq_true, if_false]; grind
    · simp only [if_true]; grind
  · rw [wW_big h, wW_big h]; grind
theorem wW_zf (v : Nat → F7) : wW v zfW = zfW := by
  funext S
  show wW v zfW S = 0
  by_cases h : S < 64
  · rw [wW_in h]
    exact s6_0 (fun p _ => by
      cases S.testBit p
      · simp only [Bool.false_eq_true, if_false]
      · simp only [if_true, zfW]; grind)
  · rw [wW_big h]
