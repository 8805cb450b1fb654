/-! ===== whether jumps are sprung ===== -/
theorem T9 : ∀ t, t < 729 → ∀ p, p < 6 → (2 ≤ dg t p ∨ (dg (t + 3 ^ p) p = dg t p + 1 ∧ t + 3 ^ p < 729)) := by decide +kernel
theorem T9b : ∀ t, t < 729 → ∀ p, p < 6 → (dg t p = 0 ∨ (3 ^ p ≤ t ∧ dg (t - 3 ^ p) p + 1 = dg t p)) := by decide +kernel
theorem T9c : ∀ n, n < 7 → ∀ p, p < 6 → ∀ t, t < 729 → (n ≤ p ∨ 3 ^ n ≤ t ∨ 2 ≤ dg t p ∨ t + 3 ^ p < 3 ^ n) := by decide +kernel
theorem dg_lt (t p : Nat) : dg t p < 3 := Nat.mod_lt _ (by omega)
def st (a b p : Nat) : Option Nat := if dg a p = dg b p then none else if dg b p ≤ dg a p then some (a - 3 ^ p) else some (a + 3 ^ p)
theorem p3_pos (p : Nat) : 0 < 3 ^ p := Nat.pow_pos (by omega)
theorem v_step {a b p : Nat} (ha : a < 729) (hb : b < 729) (hp : p < 6) : m_X6_step (nI a) (nI b) (nI p) = some (enc (st a b p)) := by
  have h3 := p3_le p (by omega)
  have hpos := p3_pos p
  have e1 : ∀ x, x < 729 → nI x / nI (3 ^ p) - nI x / nI (3 ^ p) / (3 : Int32) * (3 : Int32) = nI (dg x p) := fun x hx => by
    rw [pk_div (by omega) hpos (by omega), (hN_step _ (Nat.lt_of_le_of_lt (Nat.div_le_self _ _) hx)).1]; rfl
  have enz : ∀ k : Option Int32, gk_nz (nI (3 ^ p)) k = k := fun k => by
    unfold gk_nz
    rw [if_neg (fun q => by
      have := (nI_eq (show 3 ^ p < 2 ^ 31 by omega) (show 0 < 2 ^ 31 by omega)).mp q
      omega)]
  have d1 := dg_lt a p
  have d2 := dg_lt b p
  unfold m_X6_step m_X6_step_0 st
  rw [v_three p (by omega), bd1_some, enz, nz3, enz, nz3, e1 a ha, e1 b hb]
  simp only [nI_eq (show dg a p < 2 ^ 31 by omega) (show dg b p < 2 ^ 31 by omega), nI_leI (show dg b p < 2 ^ 31 by omega) (show dg a p < 2 ^ 31 by omega)]
  by_cases q1 : dg a p = dg b p
  · simp only [q1, if_true]; rfl
  · simp only [q1, if_false]
    by_cases q2 : dg b p ≤ dg a p
    · simp only [q2, if_true]
      obtain ⟨z1, -⟩ := (T9b a ha p hp).resolve_left (by omega)
      rw [pk_sub z1]; rfl
    · simp only [q2, if_false]
      rw [nI_add]; rfl
theorem st_lt {n a b p t : Nat} (hn : n ≤ 6) (ha : a < 3 ^ n) (hp : p < n) (h : st a b p = some t) : t < 3 ^ n := by
  have h3 := p3_le n (by omega)
  have := dg_lt b p
  unfold st at h
  by_cases q1 : dg a p = dg b p
  · rw [if_pos q1] at h; cases h
  · rw [if_neg q1] at h
    by_cases q2 : dg b p ≤ dg a p
    · rw [if_pos q2] at h; cases h; exact Nat.lt_of_le_of_lt (Nat.sub_le _ _) ha
    · rw [if_neg q2] at h
      cases h
      exact (((T9c n (by omega) p (by omega) a (by omega)).resolve_left (by omega)).resolve_left (by omega)).resolve_left (by omega)
def stj (n a b x y p : Nat) : Bool := match st x y p with
  | none => false
  | some t => jb n a b t
def gos (n a b x y : Nat) : Bool := (ffO (stj n a b x y) n).isSome
theorem some01 {o : Option Nat} : (match o with
    | some _ => some (1 : Int32)
    | none => some 0) = some (if o.isSome then 1 else 0) := by cases o <;> rfl
theorem v_goesOn {n a b x y : Nat} {J : Nat → Int32} (hn : n ≤ 6) (h : JP n a b J) (hx : x < 3 ^ n) (hy : y < 3 ^ n) : m_X6_goesOn (nI n) J (nI x) (nI y) = some (if gos n a b x y then 1 else 0) := by
  have h3 := p3_le n (by omega)
  unfold m_X6_goesOn m_X6_goesOn_0
  have hl : gk_bs0 (gk_lp (fun z => m_X6_goesOn_B2 (nI n) J (nI x) (nI y) z) gk_fu (0 : Int32)) (fun r => some r) (some (0 : Int32)) = match ffO (stj n a b x y) n with
      | some _ => some (1 : Int32)
      | none => some 0 := by
    refine ruB (fun i => nI i) (stj n a b x y) (fun _ => 1) n rfl (by omega) (fun i hi _ hp => ?_) (fun i hi _ hp => ?_) (fun _ => ?_)
    · show m_X6_goesOn_B2 (nI n) J (nI x) (nI y) (nI i) = _
      unfold m_X6_goesOn_B2
      rw [if_neg (nI_ge hi (by omega)), v_step (by omega) (by omega) (by omega), bd1_some, nI_1]
      unfold stj at hp
      cases e : st x y i with
      | none => rw [if_pos (show enc none = -1 from rfl)]
      | some t =>
        rw [e] at hp
        have ht := st_lt hn hx hi e
        have hp' : jb n a b t = false := hp
        rw [show enc (some t) = nI t from rfl, if_neg (nI_ne (by omega)), ix_ok (show t < 729 by omega) (by omega), nI_clamp (by omega), h t ht, hp']
        simp
    · show m_X6_goesOn_B2 (nI n) J (nI x) (nI y) (nI i) = _
      unfold m_X6_goesOn_B2
      rw [if_neg (nI_ge hi (by omega)), v_step (by omega) (by omega) (by omega), bd1_some]
      unfold stj at hp
      cases e : st x y i with
      | none => rw [e] at hp; cases hp
      | some t =>
        rw [e] at hp
        have ht := st_lt hn hx hi e
        have hp' : jb n a b t = true := hp
        rw [show enc (some t) = nI t from rfl, if_neg (nI_ne (by omega)), ix_ok (show t < 729 by omega) (by omega), nI_clamp (by omega), h t ht, hp']
        simp
    · show m_X6_goesOn_B2 (nI n) J (nI x) (nI y) (nI n) = _
      unfold m_X6_goesOn_B2
      rw [if_pos (nI_le (Nat.le_refl _) (by omega))]
  rw [hl, some01]
  rfl
/-- a step that leaves the jumps and does not come back -/
def bad (n a b x y p : Nat) : Bool := match st x y p with
  | none => false
  | some t => !jb n a b t && !gos n a b t y
def badY (n a b x y : Nat) : Bool := jb n a b y && (ffO (bad n a b x y) n).isSome
def badX (n a b x : Nat) : Bool := jb n a b x && (ffO (badY n a b x) (3 ^ n)).isSome
theorem v_sprIn {n a b x y : Nat} {J : Nat → Int32} {z1 : Int32} {γ : Type} {kr : Int32 → Option γ} {ke : Option γ} (h0 : 1 ≤ n) (hn : n ≤ 6) (h : JP n a b J) (hx : x < 3 ^ n) (hy : y < 3 ^ n) : gk_bs0 (gk_lp (fun z => m_X6_areSprung_B39 (nI n) (nI (3 ^ n)) J z1 (nI x) (nI y) z) gk_fu (0 : Int32)) kr ke = if badY n a b x y then kr 0 else ke := by
  have h3 := p3_le n (by omega)
  cases hj : jb n a b y with
  | false =>
    have : gk_lp (fun z => m_X6_areSprung_B39 (nI n) (nI (3 ^ n)) J z1 (nI x) (nI y) z) gk_fu (0 : Int32) = some (Sum.inr ()) := by
      refine ru (fun i => nI i) 0 rfl (by omega) (fun i hi => absurd hi (Nat.not_lt_zero _)) ?_
      show m_X6_areSprung_B39 (nI n) (nI (3 ^ n)) J z1 (nI x) (nI y) (nI 0) = _
      unfold m_X6_areSprung_B39
      rw [if_neg (nI_ge (by omega) (by omega)), ix_ok (show y < 729 by omega) (by omega), nI_clamp (by omega), h y hy, hj]
      simp
    rw [this]
    unfold badY
    rw [hj]
    rfl
  | true =>
    have hl : gk_bs0 (gk_lp (fun z => m_X6_areSprung_B39 (nI n) (nI (3 ^ n)) J z1 (nI x) (nI y) z) gk_fu (0 : Int32)) kr ke = match ffO (bad n a b x y) n with
        | some _ => kr 0
        | none => ke := by
      refine ruB (fun i => nI i) (bad n a b x y) (fun _ => 0) n rfl (by omega) (fun i hi _ hp => ?_) (fun i hi _ hp => ?_) (fun _ => ?_)
      · show m_X6_areSprung_B39 (nI n) (nI (3 ^ n)) J z1 (nI x) (nI y) (nI i) = _
        unfold m_X6_areSprung_B39
        rw [if_neg (nI_ge hi (by omega)), ix_ok (show y < 729 by omega) (by omega), nI_clamp (by omega), h y hy, hj, v_step (by omega) (by omega) (by omega), bd1_some, nI_1]
        unfold bad at hp
        cases e : st x y i with
        | none => simp [enc]
        | some t =>
          rw [e] at hp
          have ht := st_lt hn hx hi e
          have hp' : (!jb n a b t && !gos n a b t y) = false := hp
          rw [show enc (some t) = nI t from rfl, if_neg (by decide), if_neg (nI_ne (by omega)), ix_ok (show t < 729 by omega) (by omega), nI_clamp (by omega), h t ht, v_goesOn hn h ht hy, bd1_some]
          cases q1 : jb n a b t <;> cases q2 : gos n a b t y <;> rw [q1, q2] at hp' <;> first | exact absurd hp' (by decide) | simp
      · show m_X6_areSprung_B39 (nI n) (nI (3 ^ n)) J z1 (nI x) (nI y) (nI i) = _
        unfold m_X6_areSprung_B39
        rw [if_neg (nI_ge hi (by omega)), ix_ok (show y < 729 by omega) (by omega), nI_clamp (by omega), h y hy, hj, v_step (by omega) (by omega) (by omega), bd1_some]
        unfold bad at hp
        cases e : st x y i with
        | none => rw [e] at hp; cases hp
        | some t =>
          rw [e] at hp
          have ht := st_lt hn hx hi e
          have hp' : (!jb n a b t && !gos n a b t y) = true := hp
          rw [show enc (some t) = nI t from rfl, if_neg (by decide), if_neg (nI_ne (by omega)), ix_ok (show t < 729 by omega) (by omega), nI_clamp (by omega), h t ht, v_goesOn hn h ht hy, bd1_some]
          cases q1 : jb n a b t <;> cases q2 : gos n a b t y <;> rw [q1, q2] at hp' <;> first | exact absurd hp' (by decide) | simp
      · show m_X6_areSprung_B39 (nI n) (nI (3 ^ n)) J z1 (nI x) (nI y) (nI n) = _
        unfold m_X6_areSprung_B39
        rw [if_pos (nI_le (Nat.le_refl _) (by omega))]
    rw [hl]
    unfold badY
    rw [hj]
    cases ffO (bad n a b x y) n <;> rfl
theorem v_sprMid {n a b x : Nat} {J : Nat → Int32} {z1 : Int32} {γ : Type} {kr : Int32 → Option γ} {ke : Option γ} (h0 : 1 ≤ n) (hn : n ≤ 6) (h : JP n a b J) (hx : x < 3 ^ n) : gk_bs0 (gk_lp (fun z => m_X6_areSprung_B28 (nI n) (nI (3 ^ n)) J z1 (nI x) z) gk_fu (0 : Int32)) kr ke = match ffO (badY n a b x) (3 ^ n) with
    | some _ => kr 0
    | none => ke := by
  have h3 := p3_le n (by omega)
  refine ruB (fun i => nI i) (badY n a b x) (fun _ => 0) (3 ^ n) rfl (by omega) (fun i hi _ hp => ?_) (fun i hi _ hp => ?_) (fun _ => ?_)
  · show m_X6_areSprung_B28 (nI n) (nI (3 ^ n)) J z1 (nI x) (nI i) = _
    unfold m_X6_areSprung_B28
    rw [if_neg (nI_ge hi (by omega)), v_sprIn h0 hn h hx hi, hp, nI_1]
    rfl
  · show m_X6_areSprung_B28 (nI n) (nI (3 ^ n)) J z1 (nI x) (nI i) = _
    unfold m_X6_areSprung_B28
    rw [if_neg (nI_ge hi (by omega)), v_sprIn h0 hn h hx hi, hp]
    rfl
  · show m_X6_areSprung_B28 (nI n) (nI (3 ^ n)) J z1 (nI x) (nI (3 ^ n)) = _
    unfold m_X6_areSprung_B28
    rw [if_pos (nI_le (Nat.le_refl _) (by omega))]
def anyB (P : Nat → Bool) : Nat → Bool
  | 0 => false
  | i + 1 => anyB P i || P i
theorem anyB_iff (P : Nat → Bool) : ∀ i, anyB P i = true ↔ ∃ u, u < i ∧ P u = true
  | 0 => by simp [anyB]
  | i + 1 => by
    rw [anyB, Bool.or_eq_true, anyB_iff P i]
    constructor
    · rintro (⟨u, h1, h2⟩ | h)
      · exact ⟨u, by omega, h2⟩
      · exact ⟨i, by omega, h⟩
    · rintro ⟨u, h1, h2⟩
      by_cases e : u = i
      · subst e; exact Or.inr h2
      · exact Or.inl ⟨u, by omega, h2⟩
theorem v6_sprung {n a b : Nat} {J : Nat → Int32} (h0 : 1 ≤ n) (hn : n ≤ 6) (h : JP n a b J) : m_X6_areSprung (nI n) (nI (3 ^ n)) J = some (if (ffO (badX n a b) (3 ^ n)).isSome then 0 else if anyB (jb n a b) (3 ^ n) then 1 else 0) := by
  have h3 := p3_le n (by omega)
  unfold m_X6_areSprung m_X6_areSprung_0
  have hl : gk_lp (fun z => m_X6_areSprung_B4 (nI n) (nI (3 ^ n)) J z.1 z.2) gk_fu ((0 : Int32), (0 : Int32)) = some (match ffO (badX n a b) (3 ^ n) with
      | some _ => Sum.inl 0
      | none => Sum.inr (if anyB (jb n a b) (3 ^ n) then 1 else 0)) := by
    refine ruS (fun i => ((if anyB (jb n a b) i then 1 else 0 : Int32), nI i)) (badX n a b) (fun _ => Sum.inl 0) (3 ^ n) rfl (by omega) (fun i hi _ hp => ?_) (fun i hi _ hp => ?_) (fun _ => ?_)
    · show m_X6_areSprung_B4 (nI n) (nI (3 ^ n)) J (if anyB (jb n a b) i then 1 else 0) (nI i) = some (Sum.inl ((if anyB (jb n a b) (i + 1) then 1 else 0 : Int32), nI (i + 1)))
      unfold m_X6_areSprung_B4
      rw [if_neg (nI_ge hi (by omega)), ix_ok (show i < 729 by omega) (by omega), nI_clamp (by omega), h i hi, v_sprMid h0 hn h hi, nI_1, anyB]
      unfold badX at hp
      cases hj : jb n a b i with
      | false => simp
      | true =>
        rw [hj, Bool.true_and] at hp
        cases e : ffO (badY n a b i) (3 ^ n) with
        | none => simp
        | some k => rw [e] at hp; cases hp
    · show m_X6_areSprung_B4 (nI n) (nI (3 ^ n)) J (if anyB (jb n a b) i then 1 else 0) (nI i) = _
      unfold m_X6_areSprung_B4
      rw [if_neg (nI_ge hi (by omega)), ix_ok (show i < 729 by omega) (by omega), nI_clamp (by omega), h i hi, v_sprMid h0 hn h hi]
      unfold badX at hp
      rw [Bool.and_eq_true] at hp
      have hp2 := hp.2
      rw [hp.1]
      cases e : ffO (badY n a b i) (3 ^ n) with
      | none => rw [e] at hp2; cases hp2
      | some k => simp
    · show m_X6_areSprung_B4 (nI n) (nI (3 ^ n)) J _ (nI (3 ^ n)) = _
      unfold m_X6_areSprung_B4
      rw [if_pos (nI_le (Nat.le_refl _) (by omega))]
  rw [hl]
  cases ffO (badX n a b) (3 ^ n) with
  | none =>
    show gk_bo (if anyB (jb n a b) (3 ^ n) = true then 1 else 0) _ = _
    rw [bo01]
    rfl
  | some k => rfl
/-! by two sets -/
def upR (n a b r p : Nat) : Bool := decide (dg r p < 2) && jb n a b (r + 3 ^ p)
def dnR (n a b r p : Nat) : Bool := decide (0 < dg r p) && jb n a b (r - 3 ^ p)
/-- c in s -/
def sub (s c : Nat) : Prop := s ||| c = s ∧ s &&& c = c
theorem sub_bit {s c : Nat} (h : sub s c) (p : Nat) : c.testBit p = true → s.testBit p = true := by
  intro q
  have := congrArg (fun z => Nat.testBit z p) h.2
  simp only [Nat.testBit_and, q, Bool.and_true] at this
  exact this
theorem sub_of {s c : Nat} (h : ∀ p, c.testBit p = true → s.testBit p = true) : sub s c := by
  constructor
  · apply Nat.eq_of_testBit_eq
    intro p
    rw [Nat.testBit_or]
    cases q : c.testBit p with
    | false => simp
    | true => rw [h p q]; rfl
  · apply Nat.eq_of_testBit_eq
    intro p
    rw [Nat.testBit_and]
    cases q : c.testBit p with
    | false => simp
    | true => rw [h p q]; rfl
theorem dg_pair {s c p : Nat} (hs : s < 64) (hc : c < 64) (h : sub s c) (hp : p < 6) : dg (tern s + tern c) p = (if s.testBit p then 1 else 0) + (if c.testBit p then 1 else 0) := by
  rw [T5 _ (tt_lt hs hc) p hp, T2s s hs c hc, T2b s hs c hc, h.1, h.2]
theorem v_up {n a b s c p : Nat} {B : Nat → Int64} (hn : n ≤ 6) (h : BP n a b B) (hs : s < 64) (hc : c < 64) (hsub : sub s c) (hp : p < 6) : m_X3_stepUpMakesOne B (nI s) (nI c) (nI p) = some (if upR n a b (tern s + tern c) p then 1 else 0) := by
  have h64 := p6 p hp
  have hso : s ||| 2 ^ p < 64 := Nat.or_lt_two_pow (n := 6) hs h64
  have hco : c ||| 2 ^ p < 64 := Nat.or_lt_two_pow (n := 6) hc h64
  unfold m_X3_stepUpMakesOne m_X3_stepUpMakesOne_0 upR
  rw [shl1 (by omega), fa_or, fa_or, v_holdsRow h hso hc, v_holdsRow h hs hco, bd1_some, bd1_some, bo01, dg_pair hs hc hsub hp]
  simp only [fa_bit (show p < 31 by omega), q10]
  cases q1 : s.testBit p with
  | false =>
    have q2 : c.testBit p = false := by
      cases q : c.testBit p with
      | false => rfl
      | true => rw [sub_bit hsub p q] at q1; cases q1
    have hsub' : sub (s ||| 2 ^ p) c := sub_of (fun i hi => by rw [Nat.testBit_or, sub_bit hsub i hi]; rfl)
    rw [hb_jb hn hso hc hsub'.1 hsub'.2, (T6 p hp s hs).resolve_left (by rw [q1]; decide), show tern s + 3 ^ p + tern c = tern s + tern c + 3 ^ p by omega, q2]
    simp
  | true =>
    cases q2 : c.testBit p with
    | false =>
      have hsub' : sub s (c ||| 2 ^ p) := sub_of (fun i hi => by
        rw [fb_bit_set, Bool.or_eq_true, decide_eq_true_iff] at hi
        rcases hi with z | z
        · exact sub_bit hsub i z
        · rw [z]; exact q1)
      rw [hb_jb hn hs hco hsub'.1 hsub'.2, (T6 p hp c hc).resolve_left (by rw [q2]; decide), show tern s + (tern c + 3 ^ p) = tern s + tern c + 3 ^ p by omega]
      cases jb n a b (tern s + tern c + 3 ^ p) <;> simp
    | true => simp
theorem clr_bit : ∀ p, p < 6 → ∀ s, s < 64 → (s.testBit p = false ∨ (rdq p s = s - 2 ^ p ∧ s - 2 ^ p < 64)) := by decide +kernel
theorem clr_sub : ∀ p, p < 6 → ∀ s, s < 64 → ∀ i, i < 6 → (s.testBit p = false ∨ (s - 2 ^ p).testBit i = (s.testBit i && decide (i ≠ p))) := by decide +kernel
theorem v_dn {n a b s c p : Nat} {B : Nat → Int64} (hn : n ≤ 6) (h : BP n a b B) (hs : s < 64) (hc : c < 64) (hsub : sub s c) (hp : p < 6) : m_X3_stepDownMakesOne B (nI s) (nI c) (nI p) = some (if dnR n a b (tern s + tern c) p then 1 else 0) := by
  obtain ⟨rs, rs'⟩ := rdq_ok p hp s hs
  obtain ⟨rc, rc'⟩ := rdq_ok p hp c hc
  unfold m_X3_stepDownMakesOne m_X3_stepDownMakesOne_0 dnR
  rw [rs, rc, shl1 (by omega), v_holdsRow h rs' hc, v_holdsRow h hs rc', bd1_some, bd1_some, bo01, dg_pair hs hc hsub hp]
  simp only [fa_bit (show p < 31 by omega), q10]
  have hbit : ∀ z i, z < 64 → z.testBit p = true → (z - 2 ^ p).testBit i = (z.testBit i && decide (i ≠ p)) := fun z i hz hb => by
    by_cases hi : i < 6
    · exact (clr_sub p hp z hz i hi).resolve_left (by rw [hb]; decide)
    · rw [tb_hi (n := 6) (show z - 2 ^ p < 2 ^ 6 from Nat.lt_of_le_of_lt (Nat.sub_le _ _) hz) (by omega), tb_hi (n := 6) (show z < 2 ^ 6 by omega) (by omega)]; rfl
  cases q2 : c.testBit p with
  | true =>
    have q1 := sub_bit hsub p q2
    obtain ⟨e, e'⟩ := (clr_bit p hp c hc).resolve_left (by rw [q2]; decide)
    have ht := (T6b p hp c hc).resolve_left (by rw [q2]; decide)
    have hsub' : sub s (c - 2 ^ p) := sub_of (fun i hi => by
      rw [hbit c i hc q2, Bool.and_eq_true] at hi
      exact sub_bit hsub i hi.1)
    rw [e, hb_jb hn hs e' hsub'.1 hsub'.2, show tern s + tern (c - 2 ^ p) = tern s + tern c - 3 ^ p by omega, q1]
    simp
  | false =>
    cases q1 : s.testBit p with
    | false => simp
    | true =>
      obtain ⟨e, e'⟩ := (clr_bit p hp s hs).resolve_left (by rw [q1]; decide)
      have ht := (T6b p hp s hs).resolve_left (by rw [q1]; decide)
      have hsub' : sub (s - 2 ^ p) c := sub_of (fun i hi => by
        rw [hbit s i hs q1, sub_bit hsub i hi]
        have : i ≠ p := fun z => by rw [z, q2] at hi; cases hi
        simp [this])
      rw [e, hb_jb hn e' hc hsub'.1 hsub'.2, show tern (s - 2 ^ p) + tern c = tern s + tern c - 3 ^ p by omega]
      cases jb n a b (tern s + tern c - 3 ^ p) <;> simp
/-- b is nowhere above r at the ups, nowhere below at the downs -/
def Wt (n a b r : Nat) (y : Nat) : Prop := jb n a b y = true ∧ ∀ q, q < n → (upR n a b r q = true → dg y q ≤ dg r q) ∧ (dnR n a b r q = true → dg r q ≤ dg y q)
def lks (u d z : Nat) : Nat := (u &&& (z ^^^ (2 ^ 32 - 1))) ||| (d &&& z)
theorem lks_bit {u d z p : Nat} (hp : p < 32) : (lks u d z).testBit p = ((u.testBit p && !z.testBit p) || (d.testBit p && z.testBit p)) := by
  unfold lks
  rw [Nat.testBit_or, Nat.testBit_and, Nat.testBit_and, Nat.testBit_xor, Nat.testBit_two_pow_sub_one]
  simp [hp]
theorem lks_lt {u d z : Nat} (hu : u < 64) (hd : d < 64) : lks u d z < 64 := Nat.or_lt_two_pow (n := 6) (Nat.lt_of_le_of_lt Nat.and_le_left hu) (Nat.lt_of_le_of_lt Nat.and_le_left hd)
theorem v_without {n a b s c : Nat} {B : Nat → Int64} (hn : n ≤ 6) (h : BP n a b B) (hs : s < 64) (hc : c < 64) (hsub : sub s c) : ∃ r : Bool, m_X3_holdsOneWithout (nI n) B (nI s) (nI c) (nI (bsn (upR n a b (tern s + tern c)) n)) (nI (bsn (dnR n a b (tern s + tern c)) n)) = some (if r then 1 else 0) ∧ (r = true ↔ ∃ y, Wt n a b (tern s + tern c) y) := by
  have h6 := pow6 hn
  have h3 := p3_le n (by omega)
  have hr := tt_lt hs hc
  generalize hrr : tern s + tern c = r at *
  have hdr : ∀ q, q < 6 → dg r q = (if s.testBit q then 1 else 0) + (if c.testBit q then 1 else 0) := fun q hq => by rw [← hrr]; exact dg_pair hs hc hsub hq
  generalize hU : bsn (upR n a b r) n = U
  generalize hD : bsn (dnR n a b r) n = D
  have hUl : U < 64 := by rw [← hU]; exact Nat.lt_of_lt_of_le (bsn_lt _ _) h6
  have hDl : D < 64 := by rw [← hD]; exact Nat.lt_of_lt_of_le (bsn_lt _ _) h6
  have hUb : ∀ q, U.testBit q = (decide (q < n) && upR n a b r q) := fun q => by rw [← hU, bsn_bit]
  have hDb : ∀ q, D.testBit q = (decide (q < n) && dnR n a b r q) := fun q => by rw [← hD, bsn_bit]
  unfold m_X3_holdsOneWithout m_X3_holdsOneWithout_0
  rw [nI_m1, fb_xorI, fb_xorI, fa_and, fa_and, fa_or, fa_and, fa_and, fa_or]
  show ∃ r' : Bool, gk_bd1 (m_X0_likeAt (nI c) (nI (lks U D c))) (fun r4 => gk_bs0 (gk_lp (fun z => m_X3_holdsOneWithout_B35 (nI n) B (nI s) (nI (lks U D s)) r4 z) gk_fu (0 : Int32)) (fun r => some r) (some (0 : Int32))) = _ ∧ _
  have hLS := lks_lt (z := s) hUl hDl
  have hLC := lks_lt (z := c) hUl hDl
  rw [v_likeAt hc hLC, bd1_some]
  have hfit : bsn (lkP c (lks U D c) 6) 64 < 2 ^ 64 := bsn_lt _ _
  have hl : gk_bs0 (gk_lp (fun z => m_X3_holdsOneWithout_B35 (nI n) B (nI s) (nI (lks U D s)) (lN (bsn (lkP c (lks U D c) 6) 64)) z) gk_fu (0 : Int32)) (fun r => some r) (some (0 : Int32)) = match ffO (fun o => decide ((o ^^^ s) &&& lks U D s = 0) && decide (¬ bsn (hb n a b o) 64 &&& bsn (lkP c (lks U D c) 6) 64 = 0)) (2 ^ n) with
      | some _ => some (1 : Int32)
      | none => some 0 := by
    have hand : ∀ i, (i ^^^ s) &&& lks U D s < 2 ^ 31 := fun i => Nat.lt_of_le_of_lt Nat.and_le_right (by omega)
    have hand2 : ∀ i, bsn (hb n a b i) 64 &&& bsn (lkP c (lks U D c) 6) 64 < 2 ^ 64 := fun i => Nat.lt_of_le_of_lt Nat.and_le_right hfit
    have hst : ∀ i, i < 2 ^ n → m_X3_holdsOneWithout_B35 (nI n) B (nI s) (nI (lks U D s)) (lN (bsn (lkP c (lks U D c) 6) 64)) (nI i) = if (i ^^^ s) &&& lks U D s = 0 then (if bsn (hb n a b i) 64 &&& bsn (lkP c (lks U D c) 6) 64 = 0 then some (Sum.inl (nI (i + 1))) else some (Sum.inr (Sum.inl 1))) else some (Sum.inl (nI (i + 1))) := fun i hi => by
      unfold m_X3_holdsOneWithout_B35
      rw [shl1 (by omega), if_neg (nI_ge hi (by omega)), fb_xorI, fa_and, ix_ok (show i < 64 by omega) (by omega), nI_clamp (by omega), h i (by omega), fb_andL, nI_1]
      simp only [cmp0, lN_0, lN_inj64 (hand2 i) (show 0 < 2 ^ 64 by omega)]
      simp only [show (0 : Int32) = nI 0 from rfl, nI_eq (hand i) (show 0 < 2 ^ 31 by omega)]
    refine ruB (fun i => nI i) (fun o => decide ((o ^^^ s) &&& lks U D s = 0) && decide (¬ bsn (hb n a b o) 64 &&& bsn (lkP c (lks U D c) 6) 64 = 0)) (fun _ => 1) (2 ^ n) rfl (by omega) (fun i hi _ hp => ?_) (fun i hi _ hp => ?_) (fun _ => ?_)
    · show m_X3_holdsOneWithout_B35 (nI n) B (nI s) (nI (lks U D s)) (lN (bsn (lkP c (lks U D c) 6) 64)) (nI i) = _
      rw [hst i hi]
      by_cases z1 : (i ^^^ s) &&& lks U D s = 0
      · by_cases z2 : bsn (hb n a b i) 64 &&& bsn (lkP c (lks U D c) 6) 64 = 0
        · rw [if_pos z1, if_pos z2]
        · simp [z1, z2] at hp
      · rw [if_neg z1]
    · show m_X3_holdsOneWithout_B35 (nI n) B (nI s) (nI (lks U D s)) (lN (bsn (lkP c (lks U D c) 6) 64)) (nI i) = _
      rw [hst i hi]
      rw [Bool.and_eq_true, decide_eq_true_iff, decide_eq_true_iff] at hp
      rw [if_pos hp.1, if_neg hp.2]
    · show m_X3_holdsOneWithout_B35 (nI n) B (nI s) (nI (lks U D s)) _ (nI (2 ^ n)) = _
      unfold m_X3_holdsOneWithout_B35
      rw [shl1 (by omega), if_pos (nI_le (Nat.le_refl _) (by omega))]
  rw [hl, some01]
  refine ⟨_, rfl, ?_⟩
  rw [ffO_isSome]
  constructor
  · rintro ⟨o, ho, hp⟩
    rw [Bool.and_eq_true, decide_eq_true_iff, decide_eq_true_iff] at hp
    obtain ⟨hp1, hp2⟩ := hp
    have hex : ∃ e, e < 64 ∧ hb n a b o e = true ∧ lkP c (lks U D c) 6 e = true := by
      apply Classical.byContradiction
      intro hno
      apply hp2
      refine tb_ext (n := 64) (Nat.lt_of_le_of_lt Nat.and_le_right hfit) (by omega) (fun e he => ?_)
      rw [Nat.testBit_and, bsn_bit, bsn_bit, Nat.zero_testBit]
      cases z1 : hb n a b o e <;> cases z2 : lkP c (lks U D c) 6 e <;> simp
      exact (hno ⟨e, he, z1, z2⟩).elim
    obtain ⟨e, he, hhb, hlk⟩ := hex
    obtain ⟨o64, -, -, hjb, -⟩ := hb_le hn hhb
    have hsub2 : sub o e := ⟨(hb_sub hhb).2.1, (hb_sub hhb).2.2⟩
    unfold lkP at hlk
    rw [decide_eq_true_iff] at hlk
    refine ⟨tern o + tern e, hjb, fun q hq => ?_⟩
    have hq6 : q < 6 := by omega
    rw [dg_pair o64 he hsub2 hq6, hdr q hq6]
    have hso : (lks U D s).testBit q = true → o.testBit q = s.testBit q := fun z => by
      have := congrArg (fun w => Nat.testBit w q) hp1
      simp only [Nat.testBit_and, Nat.testBit_xor, z, Bool.and_true, Nat.zero_testBit] at this
      cases z1 : o.testBit q <;> cases z2 : s.testBit q <;> rw [z1, z2] at this <;> first | rfl | cases this
    have hco := hlk q hq6
    rw [lks_bit (by omega)] at hso hco
    constructor
    · intro hu
      have hu2 : dg r q < 2 := by
        unfold upR at hu
        rw [Bool.and_eq_true, decide_eq_true_iff] at hu
        exact hu.1
      rw [hdr q hq6] at hu2
      have hUq : U.testBit q = true := by rw [hUb, hu]; simp [hq]
      rw [hUq] at hso hco
      cases z1 : s.testBit q with
      | false =>
        have z2 : c.testBit q = false := by
          cases w : c.testBit q with
          | false => rfl
          | true => rw [sub_bit hsub q w] at z1; cases z1
        rw [z1] at hso
        rw [z2] at hco
        rw [hso (by simp), hco (by simp)]
        simp
      | true =>
        have z2 : c.testBit q = false := by
          cases w : c.testBit q with
          | false => rfl
          | true => rw [z1, w] at hu2; simp at hu2
        rw [z2] at hco
        rw [hco (by simp), z2]
        cases o.testBit q <;> simp
    · intro hd
      have hd2 : 0 < dg r q := by
        unfold dnR at hd
        rw [Bool.and_eq_true, decide_eq_true_iff] at hd
        exact hd.1
      rw [hdr q hq6] at hd2
      have hDq : D.testBit q = true := by rw [hDb, hd]; simp [hq]
      rw [hDq] at hso hco
      cases z1 : s.testBit q with
      | false =>
        have z2 : c.testBit q = false := by
          cases w : c.testBit q with
          | false => rfl
          | true => rw [sub_bit hsub q w] at z1; cases z1
        rw [z1, z2] at hd2
        simp at hd2
      | true =>
        rw [z1] at hso
        rw [hso (by simp)]
        cases z2 : c.testBit q with
        | false => simp
        | true =>
          rw [z2] at hco
          rw [hco (by simp)]
          exact Nat.le_refl _
  · rintro ⟨y, hy, hw⟩
    have hyn := jb_lt hn hy
    have hy7 : y < 729 := by omega
    have hhb := hy
    rw [jb_hb hn hy7] at hhb
    have hsub2 : sub (sof y) (bof y) := ⟨T8o y hy7, T8 y hy7⟩
    have hdy : ∀ q, q < 6 → dg y q = (if (sof y).testBit q then 1 else 0) + (if (bof y).testBit q then 1 else 0) := fun q hq => T5 y hy7 q hq
    have key : ∀ q, q < n → ((lks U D s).testBit q = true → (sof y).testBit q = s.testBit q) ∧ ((lks U D c).testBit q = true → (bof y).testBit q = c.testBit q) := by
      intro q hq
      have hq6 : q < 6 := by omega
      obtain ⟨w1, w2⟩ := hw q hq
      rw [lks_bit (by omega), lks_bit (by omega), hUb, hDb]
      rw [hdy q hq6, hdr q hq6] at w1 w2
      have hsc := sub_bit hsub q
      have hsc2 := sub_bit hsub2 q
      have hu2 : upR n a b r q = true → dg r q < 2 := fun hu => by
        unfold upR at hu
        rw [Bool.and_eq_true, decide_eq_true_iff] at hu
        exact hu.1
      have hd2 : dnR n a b r q = true → 0 < dg r q := fun hd => by
        unfold dnR at hd
        rw [Bool.and_eq_true, decide_eq_true_iff] at hd
        exact hd.1
      rw [hdr q hq6] at hu2 hd2
      revert w1 w2 hsc hsc2 hu2 hd2
      simp only [hq, decide_true, Bool.true_and]
      cases upR n a b r q <;> cases dnR n a b r q <;> cases s.testBit q <;> cases c.testBit q <;> cases (sof y).testBit q <;> cases (bof y).testBit q <;> simp
    refine ⟨sof y, (hb_sub hhb).1, ?_⟩
    rw [Bool.and_eq_true, decide_eq_true_iff, decide_eq_true_iff]
    have hhi : ∀ q, ¬ q < n → U.testBit q = false ∧ D.testBit q = false := fun q hq => by
      rw [hUb, hDb]; simp [hq]
    constructor
    · refine tb_ext (n := 6) (Nat.lt_of_le_of_lt Nat.and_le_right hLS) (by omega) (fun q hq => ?_)
      rw [Nat.testBit_and, Nat.testBit_xor, Nat.zero_testBit]
      cases z : (lks U D s).testBit q with
      | false => simp
      | true =>
        by_cases hqn : q < n
        · rw [(key q hqn).1 z]; simp
        · rw [lks_bit (by omega), (hhi q hqn).1, (hhi q hqn).2] at z
          simp at z
    · intro hz
      have := congrArg (fun w => Nat.testBit w (bof y)) hz
      have hb64 := bof_lt y
      simp only [Nat.testBit_and, bsn_bit, hhb, Nat.zero_testBit] at this
      have hlk : lkP c (lks U D c) 6 (bof y) = true := by
        unfold lkP
        rw [decide_eq_true_iff]
        intro q hq z
        by_cases hqn : q < n
        · exact (key q hqn).2 z
        · rw [lks_bit (by omega), (hhi q hqn).1, (hhi q hqn).2] at z
          simp at z
      rw [hlk] at this
      simp [hb64] at this
def Lv (n a b r : Nat) : Prop := (∃ p, p < n ∧ (upR n a b r p = true ∨ dnR n a b r p = true)) ∧ ∃ y, Wt n a b r y
theorem bsn_0 {P : Nat → Bool} {n : Nat} : bsn P n = 0 ↔ ∀ p, p < n → P p = false := by
  constructor
  · intro h p hp
    have := bsn_bit P n p
    rw [h, Nat.zero_testBit] at this
    simpa [hp] using this.symm
  · intro h
    refine tb_ext (n := n) (bsn_lt _ _) (Nat.two_pow_pos n) (fun p hp => ?_)
    rw [bsn_bit, h p hp, Nat.zero_testBit, Bool.and_false]
theorem or_0 {a b : Nat} : a ||| b = 0 ↔ a = 0 ∧ b = 0 := by
  constructor
  · intro h
    have e : ∀ i, a.testBit i = false ∧ b.testBit i = false := fun i => by
      have := congrArg (fun z => Nat.testBit z i) h
      simp only [Nat.testBit_or, Nat.zero_testBit, Bool.or_eq_false_iff] at this
      exact this
    exact ⟨Nat.eq_of_testBit_eq (fun i => by rw [(e i).1, Nat.zero_testBit]), Nat.eq_of_testBit_eq (fun i => by rw [(e i).2, Nat.zero_testBit])⟩
  · rintro ⟨rfl, rfl⟩; rfl
theorem v_leaves {n a b s c : Nat} {B : Nat → Int64} (hn : n ≤ 6) (h : BP n a b B) (hs : s < 64) (hc : c < 64) (hsub : sub s c) : ∃ r : Bool, m_X3_leavesOne (nI n) B (nI s) (nI c) = some (if r then 1 else 0) ∧ (r = true ↔ Lv n a b (tern s + tern c)) := by
  have h6 := pow6 hn
  unfold m_X3_leavesOne m_X3_leavesOne_0
  have hl : gk_lp (fun z => m_X3_leavesOne_B8 (nI n) B (nI s) (nI c) z.1 z.2.1 z.2.2) gk_fu ((0 : Int32), (0 : Int32), (0 : Int32)) = some (nI (bsn (upR n a b (tern s + tern c)) n), nI (bsn (dnR n a b (tern s + tern c)) n)) := by
    refine ru (fun i => (nI (bsn (upR n a b (tern s + tern c)) i), nI (bsn (dnR n a b (tern s + tern c)) i), nI i)) n rfl (by omega) (fun i hi => ?_) ?_
    · show m_X3_leavesOne_B8 (nI n) B (nI s) (nI c) (nI (bsn (upR n a b (tern s + tern c)) i)) (nI (bsn (dnR n a b (tern s + tern c)) i)) (nI i) = some (Sum.inl (nI (bsn (upR n a b (tern s + tern c)) (i + 1)), nI (bsn (dnR n a b (tern s + tern c)) (i + 1)), nI (i + 1)))
      unfold m_X3_leavesOne_B8 m_X3_leavesOne_J37
      rw [if_neg (nI_ge hi (by omega)), v_up hn h hs hc hsub (by omega), bd1_some, v_dn hn h hs hc hsub (by omega), bd1_some, bd1_some, shl1 (by omega), nI_1, bsn_or, bsn_or]
      rw [show ∀ k, nI k ||| (0 : Int32) = nI k from fun k => by rw [show (0 : Int32) = nI 0 from rfl, fa_or, Nat.or_zero], show ∀ k, nI k ||| (0 : Int32) = nI k from fun k => by rw [show (0 : Int32) = nI 0 from rfl, fa_or, Nat.or_zero], fa_or, fa_or]
      cases upR n a b (tern s + tern c) i <;> cases dnR n a b (tern s + tern c) i <;> simp
    · show m_X3_leavesOne_B8 (nI n) B (nI s) (nI c) _ _ (nI n) = _
      unfold m_X3_leavesOne_B8
      rw [if_pos (nI_le (Nat.le_refl _) (by omega))]
  rw [hl, bd2_some]
  unfold m_X3_leavesOne_J69
  obtain ⟨r, h1, h2⟩ := v_without hn h hs hc hsub
  have hU : bsn (upR n a b (tern s + tern c)) n < 64 := Nat.lt_of_lt_of_le (bsn_lt _ _) h6
  have hD : bsn (dnR n a b (tern s + tern c)) n < 64 := Nat.lt_of_lt_of_le (bsn_lt _ _) h6
  have hor : bsn (upR n a b (tern s + tern c)) n ||| bsn (dnR n a b (tern s + tern c)) n < 2 ^ 31 := Nat.lt_of_lt_of_le (Nat.or_lt_two_pow (n := 6) hU hD) (by omega)
  rw [h1, bd1_some, fa_or]
  have hz : (nI (bsn (upR n a b (tern s + tern c)) n ||| bsn (dnR n a b (tern s + tern c)) n) = 0) ↔ ¬ ∃ p, p < n ∧ (upR n a b (tern s + tern c) p = true ∨ dnR n a b (tern s + tern c) p = true) := by
    rw [show ((0 : Int32)) = nI 0 from rfl, nI_eq hor (by omega), or_0, bsn_0, bsn_0]
    constructor
    · rintro ⟨q1, q2⟩ ⟨p, hp, z | z⟩
      · rw [q1 p hp] at z; cases z
      · rw [q2 p hp] at z; cases z
    · intro q
      constructor
      · intro p hp
        cases z : upR n a b (tern s + tern c) p with
        | false => rfl
        | true => exact absurd ⟨p, hp, Or.inl z⟩ q
      · intro p hp
        cases z : dnR n a b (tern s + tern c) p with
        | false => rfl
        | true => exact absurd ⟨p, hp, Or.inr z⟩ q
  by_cases q : ∃ p, p < n ∧ (upR n a b (tern s + tern c) p = true ∨ dnR n a b (tern s + tern c) p = true)
  · rw [if_neg (fun z => hz.mp z q)]
    cases r with
    | true => exact ⟨true, rfl, ⟨fun _ => ⟨q, h2.mp rfl⟩, fun _ => rfl⟩⟩
    | false => exact ⟨false, rfl, ⟨fun z => (by cases z), fun z => h2.mpr z.2⟩⟩
  · rw [if_pos (hz.mpr q)]
    exact ⟨false, rfl, ⟨fun z => (by cases z), fun z => absurd z.1 q⟩⟩
def Bd5 (n a b s i : Nat) : Prop := ∃ c, c < i ∧ sub s c ∧ hb n a b s c = false ∧ Lv n a b (tern s + tern c)
theorem sub_iff {s c : Nat} (hs : s < 64) (hc : c < 64) : (nI c &&& (nI s ^^^ (-1 : Int32)) = 0) ↔ sub s c := by
  rw [nI_m1, fb_xorI, fa_and, show (0 : Int32) = nI 0 from rfl, nI_eq (Nat.lt_of_le_of_lt Nat.and_le_left (by omega)) (by omega)]
  constructor
  · intro h
    refine sub_of (fun p hp => ?_)
    have hp6 : p < 6 := Nat.lt_of_not_le (fun z => by rw [tb_hi (n := 6) hc z] at hp; cases hp)
    have := congrArg (fun z => Nat.testBit z p) h
    have h32 : p < 32 := by omega
    simp only [Nat.testBit_and, Nat.testBit_xor, Nat.testBit_two_pow_sub_one, hp, Bool.true_and, Nat.zero_testBit, h32, decide_true] at this
    simpa using this
  · intro h
    refine tb_ext (n := 6) (Nat.lt_of_le_of_lt Nat.and_le_left hc) (by omega) (fun p hp => ?_)
    have h32 : p < 32 := by omega
    rw [Nat.testBit_and, Nat.testBit_xor, Nat.testBit_two_pow_sub_one, Nat.zero_testBit]
    cases z : c.testBit p with
    | false => rfl
    | true => rw [sub_bit h p z]; simp [h32]
theorem v5_sprIn {n a b s : Nat} {B : Nat → Int64} {x1 : Int32} (hn : n ≤ 6) (h : BP n a b B) (hs : s < 2 ^ n) : ∃ o : Int32 ⊕ Unit, gk_lp (fun z => m_X3_areSprung_B37 (nI n) B x1 (nI s) z) gk_fu (0 : Int32) = some o ∧ ((o = Sum.inl 0 ∧ Bd5 n a b s (s + 1)) ∨ (o = Sum.inr () ∧ ¬ Bd5 n a b s (s + 1))) := by
  have h6 := pow6 hn
  refine ruI (f := fun z => m_X3_areSprung_B37 (nI n) B x1 (nI s) z) (fun z => ∃ c, z = nI c ∧ c ≤ s + 1 ∧ ¬ Bd5 n a b s c) (fun o => (o = Sum.inl 0 ∧ Bd5 n a b s (s + 1)) ∨ (o = Sum.inr () ∧ ¬ Bd5 n a b s (s + 1))) (fun z => s + 1 - z.toNatClampNeg) ?_ gk_fu (0 : Int32) ⟨0, rfl, by omega, fun ⟨c, q, _⟩ => absurd q (Nat.not_lt_zero _)⟩ (by show s + 1 - (nI 0).toNatClampNeg < 800; rw [nI_clamp (by omega)]; omega)
  rintro z ⟨c, rfl, hc, hno⟩
  unfold m_X3_areSprung_B37
  by_cases e : c = s + 1
  · subst e
    rw [if_pos ((nI_s_lt (by omega) (by omega)).mpr (by omega))]
    exact Or.inr ⟨_, rfl, Or.inr ⟨rfl, hno⟩⟩
  · have hcs : c ≤ s := by omega
    have hstep : ¬ (sub s c ∧ hb n a b s c = false ∧ Lv n a b (tern s + tern c)) → ¬ Bd5 n a b s (c + 1) := fun hq => by
      rintro ⟨c', z1, z2⟩
      by_cases e : c' = c
      · subst e; exact hq z2
      · exact hno ⟨c', by omega, z2⟩
    have hgo : ∀ {o : Option ((Int32) ⊕ ((Int32) ⊕ (Unit)))}, o = some (Sum.inl (nI (c + 1))) → ¬ Bd5 n a b s (c + 1) → ((∃ s', o = some (Sum.inl s') ∧ (∃ c, s' = nI c ∧ c ≤ s + 1 ∧ ¬ Bd5 n a b s c) ∧ s + 1 - s'.toNatClampNeg < s + 1 - (nI c).toNatClampNeg) ∨ (∃ r, o = some (Sum.inr r) ∧ ((r = Sum.inl 0 ∧ Bd5 n a b s (s + 1)) ∨ (r = Sum.inr () ∧ ¬ Bd5 n a b s (s + 1))))) := fun ho hb => by
      refine Or.inl ⟨nI (c + 1), ho, ⟨c + 1, rfl, by omega, hb⟩, ?_⟩
      rw [nI_clamp (by omega), nI_clamp (by omega)]; omega
    rw [if_neg (fun q => by have := (nI_s_lt (by omega) (by omega)).mp q; omega), v_holdsRow h (by omega) (by omega), bd1_some, nI_1]
    simp only [q10]
    by_cases hsub : sub s c
    · rw [if_pos ((sub_iff (show s < 64 by omega) (show c < 64 by omega)).mpr hsub)]
      cases hh : hb n a b s c with
      | true =>
        refine hgo (by simp) (hstep (fun q => ?_))
        rw [hh] at q
        exact absurd q.2.1 (by decide)
      | false =>
        obtain ⟨r, r1, r2⟩ := v_leaves hn h (show s < 64 by omega) (show c < 64 by omega) hsub
        rw [if_pos (by decide), r1, bd1_some]
        cases r with
        | false =>
          refine hgo (by simp) (hstep (fun q => ?_))
          have := r2.mpr q.2.2
          cases this
        | true =>
          exact Or.inr ⟨Sum.inl 0, by simp, Or.inl ⟨rfl, c, by omega, hsub, hh, r2.mp rfl⟩⟩
    · rw [if_neg (fun z => hsub ((sub_iff (show s < 64 by omega) (show c < 64 by omega)).mp z))]
      exact hgo rfl (hstep (fun q => hsub q.1))
theorem v5_sprung {n a b : Nat} {B : Nat → Int64} (hn : n ≤ 6) (h : BP n a b B) : ∃ r : Bool, m_X3_areSprung (nI n) B = some (if r then 1 else 0) ∧ (r = true ↔ (∃ s, s < 2 ^ n ∧ ¬ bsn (hb n a b s) 64 = 0) ∧ ¬ ∃ s, s < 2 ^ n ∧ Bd5 n a b s (s + 1)) := by
  have h6 := pow6 hn
  unfold m_X3_areSprung m_X3_areSprung_0
  obtain ⟨o, h1, h2⟩ := ruI (f := fun z => m_X3_areSprung_B4 (nI n) B z.1 z.2) (fun z => ∃ s an, z = ((if an = true then 1 else 0 : Int32), nI s) ∧ s ≤ 2 ^ n ∧ (an = true ↔ ∃ s', s' < s ∧ ¬ bsn (hb n a b s') 64 = 0) ∧ ¬ ∃ s', s' < s ∧ Bd5 n a b s' (s' + 1)) (fun o => (o = Sum.inl 0 ∧ ∃ s, s < 2 ^ n ∧ Bd5 n a b s (s + 1)) ∨ (∃ an : Bool, o = Sum.inr (if an = true then 1 else 0) ∧ (an = true ↔ ∃ s', s' < 2 ^ n ∧ ¬ bsn (hb n a b s') 64 = 0) ∧ ¬ ∃ s', s' < 2 ^ n ∧ Bd5 n a b s' (s' + 1))) (fun z => 2 ^ n - z.2.toNatClampNeg) (by
    rintro z ⟨s, an, rfl, hs, han, hno⟩
    show (∃ s', m_X3_areSprung_B4 (nI n) B (if an = true then 1 else 0) (nI s) = _ ∧ _) ∨ (∃ r, m_X3_areSprung_B4 (nI n) B (if an = true then 1 else 0) (nI s) = _ ∧ _)
    unfold m_X3_areSprung_B4
    by_cases e : s = 2 ^ n
    · subst e
      rw [shl1 (by omega), if_pos (nI_le (Nat.le_refl _) (by omega))]
      exact Or.inr ⟨_, rfl, Or.inr ⟨an, rfl, han, hno⟩⟩
    · have hs' : s < 2 ^ n := by omega
      have hgen : ∀ (x1 : Int32) (an' : Bool), x1 = (if an' = true then 1 else 0) → (an' = true ↔ ∃ s', s' < s + 1 ∧ ¬ bsn (hb n a b s') 64 = 0) → ∀ {o : Option ((Int32 × Int32) ⊕ ((Int32) ⊕ (Int32)))}, o = gk_bs0 (gk_lp (fun z => m_X3_areSprung_B37 (nI n) B x1 (nI s) z) gk_fu (0 : Int32)) (fun r => some (Sum.inr (Sum.inl r))) (some (Sum.inl (x1, nI (s + 1)))) → ((∃ s', o = some (Sum.inl s') ∧ (∃ s an, s' = ((if an = true then 1 else 0 : Int32), nI s) ∧ s ≤ 2 ^ n ∧ (an = true ↔ ∃ s', s' < s ∧ ¬ bsn (hb n a b s') 64 = 0) ∧ ¬ ∃ s', s' < s ∧ Bd5 n a b s' (s' + 1)) ∧ 2 ^ n - s'.2.toNatClampNeg < 2 ^ n - s) ∨ (∃ r, o = some (Sum.inr r) ∧ ((r = Sum.inl 0 ∧ ∃ s, s < 2 ^ n ∧ Bd5 n a b s (s + 1)) ∨ (∃ an : Bool, r = Sum.inr (if an = true then 1 else 0) ∧ (an = true ↔ ∃ s', s' < 2 ^ n ∧ ¬ bsn (hb n a b s') 64 = 0) ∧ ¬ ∃ s', s' < 2 ^ n ∧ Bd5 n a b s' (s' + 1))))) := by
        intro x1 an' hx han' o ho
        obtain ⟨r, r1, r2⟩ := v5_sprIn (x1 := x1) hn h hs'
        rw [r1] at ho
        rcases r2 with ⟨rfl, q⟩ | ⟨rfl, q⟩
        · exact Or.inr ⟨Sum.inl 0, ho, Or.inl ⟨rfl, s, hs', q⟩⟩
        · refine Or.inl ⟨(x1, nI (s + 1)), ho, ⟨s + 1, an', by rw [hx], by omega, han', ?_⟩, ?_⟩
          · rintro ⟨s', z1, z2⟩
            by_cases e : s' = s
            · subst e; exact q z2
            · exact hno ⟨s', by omega, z2⟩
          · show 2 ^ n - (nI (s + 1)).toNatClampNeg < 2 ^ n - s
            rw [nI_clamp (by omega)]; omega
      rw [shl1 (by omega), if_neg (nI_ge hs' (by omega)), ix_ok (show s < 64 by omega) (by omega), nI_clamp (by omega), h s (by omega), nI_1]
      simp only [cmp0, lN_0, lN_inj64 (hbN_lt n a b s) (show 0 < 2 ^ 64 by omega)]
      cases an with
      | true =>
        rw [if_neg (show ¬ (if true = true then (1 : Int32) else 0) = 0 by decide)]
        refine hgen 1 true rfl ?_ rfl
        exact ⟨fun _ => (han.mp rfl).elim (fun s' z => ⟨s', Nat.lt_succ_of_lt z.1, z.2⟩), fun _ => rfl⟩
      | false =>
        rw [if_pos (show (if false = true then (1 : Int32) else 0) = 0 by decide)]
        by_cases q : bsn (hb n a b s) 64 = 0
        · rw [if_pos q]
          refine hgen 0 false rfl (Iff.trans han ⟨?_, ?_⟩) rfl
          · rintro ⟨s', z1, z2⟩; exact ⟨s', by omega, z2⟩
          · rintro ⟨s', z1, z2⟩
            by_cases e : s' = s
            · subst e; exact absurd q z2
            · exact ⟨s', by omega, z2⟩
        · rw [if_neg q]
          refine hgen 1 true rfl ?_ rfl
          exact ⟨fun _ => ⟨s, by omega, q⟩, fun _ => rfl⟩) gk_fu ((0 : Int32), (0 : Int32)) ⟨0, false, rfl, Nat.zero_le _, ⟨fun z => (by cases z), fun ⟨s', z, _⟩ => absurd z (Nat.not_lt_zero _)⟩, fun ⟨s', z, _⟩ => absurd z (Nat.not_lt_zero _)⟩ (by show 2 ^ n - (nI 0).toNatClampNeg < 800; rw [nI_clamp (by omega)]; omega)
  rw [h1]
  rcases h2 with ⟨rfl, q⟩ | ⟨an, rfl, q1, q2⟩
  · exact ⟨false, rfl, ⟨fun z => (by cases z), fun z => absurd q z.2⟩⟩
  · refine ⟨an, ?_, ⟨fun z => ⟨q1.mp z, q2⟩, fun z => q1.mpr z.1⟩⟩
    show gk_bo (if an = true then 1 else 0) _ = _
    rw [bo01]
/-! the same -/
theorem gos_iff {n a b t y : Nat} (hn : n ≤ 6) (ht : t < 729) : gos n a b t y = false ↔ ∀ q, q < n → (upR n a b t q = true → dg y q ≤ dg t q) ∧ (dnR n a b t q = true → dg t q ≤ dg y q) := by
  have hsome : gos n a b t y = false ↔ ∀ q, q < n → stj n a b t y q = false := by
    unfold gos
    constructor
    · intro h q hq
      cases z : stj n a b t y q with
      | false => rfl
      | true =>
        have := ffO_isSome.mpr ⟨q, hq, z⟩
        rw [h] at this; cases this
    · intro h
      rw [ffO_no h]; rfl
  rw [hsome]
  constructor
  · intro h q hq
    have hs := h q hq
    have d1 := dg_lt t q
    have d2 := dg_lt y q
    unfold stj st at hs
    constructor
    · intro hu
      unfold upR at hu
      rw [Bool.and_eq_true, decide_eq_true_iff] at hu
      apply Nat.le_of_not_lt
      intro z
      rw [if_neg (by omega), if_neg (by omega)] at hs
      have hs' : jb n a b (t + 3 ^ q) = false := hs
      rw [hu.2] at hs'; cases hs'
    · intro hd
      unfold dnR at hd
      rw [Bool.and_eq_true, decide_eq_true_iff] at hd
      apply Nat.le_of_not_lt
      intro z
      rw [if_neg (by omega), if_pos (by omega)] at hs
      have hs' : jb n a b (t - 3 ^ q) = false := hs
      rw [hd.2] at hs'; cases hs'
  · intro h q hq
    obtain ⟨hu, hd⟩ := h q hq
    have d1 := dg_lt t q
    have d2 := dg_lt y q
    unfold stj st
    by_cases q1 : dg t q = dg y q
    · rw [if_pos q1]
    · rw [if_neg q1]
      by_cases q2 : dg y q ≤ dg t q
      · rw [if_pos q2]
        show jb n a b (t - 3 ^ q) = false
        cases z : jb n a b (t - 3 ^ q) with
        | false => rfl
        | true =>
          have : dnR n a b t q = true := by
            unfold dnR
            rw [z, Bool.and_true, decide_eq_true_iff]; omega
          have := hd this
          omega
      · rw [if_neg q2]
        show jb n a b (t + 3 ^ q) = false
        cases z : jb n a b (t + 3 ^ q) with
        | false => rfl
        | true =>
          have : upR n a b t q = true := by
            unfold upR
            rw [z, Bool.and_true, decide_eq_true_iff]; omega
          have := hu this
          omega
theorem bad_iff {n a b : Nat} (hn : n ≤ 6) : (ffO (badX n a b) (3 ^ n)).isSome = true ↔ ∃ r, r < 3 ^ n ∧ jb n a b r = false ∧ Lv n a b r := by
  have h3 := p3_le n (by omega)
  rw [ffO_isSome]
  constructor
  · rintro ⟨x, hx, h⟩
    unfold badX at h
    rw [Bool.and_eq_true, ffO_isSome] at h
    obtain ⟨hjx, y, hy, h⟩ := h
    unfold badY at h
    rw [Bool.and_eq_true, ffO_isSome] at h
    obtain ⟨hjy, p, hp, h⟩ := h
    unfold bad at h
    cases e : st x y p with
    | none => rw [e] at h; cases h
    | some t =>
      rw [e] at h
      have ht := st_lt hn hx hp e
      have h' : (!jb n a b t && !gos n a b t y) = true := h
      rw [Bool.and_eq_true] at h'
      have hjt : jb n a b t = false := by simpa using h'.1
      have hg : gos n a b t y = false := by simpa using h'.2
      refine ⟨t, ht, hjt, ⟨p, hp, ?_⟩, y, hjy, (gos_iff hn (by omega)).mp hg⟩
      have d1 := dg_lt x p
      have d2 := dg_lt y p
      unfold st at e
      by_cases q1 : dg x p = dg y p
      · rw [if_pos q1] at e; cases e
      · rw [if_neg q1] at e
        by_cases q2 : dg y p ≤ dg x p
        · rw [if_pos q2] at e
          cases e
          obtain ⟨z1, z2⟩ := (T9b x (by omega) p (by omega)).resolve_left (by omega)
          refine Or.inl ?_
          unfold upR
          rw [show x - 3 ^ p + 3 ^ p = x by omega, hjx, Bool.and_true, decide_eq_true_iff]
          omega
        · rw [if_neg q2] at e
          cases e
          obtain ⟨z1, z2⟩ := (T9 x (by omega) p (by omega)).resolve_left (by omega)
          refine Or.inr ?_
          unfold dnR
          rw [show x + 3 ^ p - 3 ^ p = x by omega, hjx, Bool.and_true, decide_eq_true_iff]
          omega
  · rintro ⟨r, hr, hjr, ⟨p, hp, hud⟩, y, hjy, hw⟩
    have hy := jb_lt hn hjy
    have hg : gos n a b r y = false := (gos_iff hn (by omega)).mpr hw
    have hfin : ∀ x, x < 3 ^ n → jb n a b x = true → st x y p = some r → ∃ i, i < 3 ^ n ∧ badX n a b i = true := by
      intro x hx hjx e
      refine ⟨x, hx, ?_⟩
      unfold badX
      rw [Bool.and_eq_true, ffO_isSome]
      refine ⟨hjx, y, hy, ?_⟩
      unfold badY
      rw [Bool.and_eq_true, ffO_isSome]
      refine ⟨hjy, p, hp, ?_⟩
      unfold bad
      rw [e]
      show (!jb n a b r && !gos n a b r y) = true
      rw [hjr, hg]
      rfl
    rcases hud with hu | hd
    · have hle := (hw p hp).1 hu
      unfold upR at hu
      rw [Bool.and_eq_true, decide_eq_true_iff] at hu
      have hx := jb_lt hn hu.2
      obtain ⟨z1, z2⟩ := (T9 r (by omega) p (by omega)).resolve_left (by omega)
      refine hfin (r + 3 ^ p) hx hu.2 ?_
      unfold st
      rw [if_neg (by omega), if_pos (by omega)]
      congr 1
      omega
    · have hle := (hw p hp).2 hd
      unfold dnR at hd
      rw [Bool.and_eq_true, decide_eq_true_iff] at hd
      have hx := jb_lt hn hd.2
      obtain ⟨z1, z2⟩ := (T9b r (by omega) p (by omega)).resolve_left (by omega)
      refine hfin (r - 3 ^ p) hx hd.2 ?_
      unfold st
      rw [if_neg (by omega), if_neg (by omega)]
      congr 1
      omega
theorem bd5_iff {n a b : Nat} (hn : n ≤ 6) : (∃ s, s < 2 ^ n ∧ Bd5 n a b s (s + 1)) ↔ ∃ r, r < 3 ^ n ∧ jb n a b r = false ∧ Lv n a b r := by
  have h6 := pow6 hn
  have h3 := p3_le n (by omega)
  constructor
  · rintro ⟨s, hs, c, hc, hsub, hh, hl⟩
    refine ⟨tern s + tern c, tt_n hn hs (by omega), ?_, hl⟩
    rw [← hb_jb hn (by omega) (by omega) hsub.1 hsub.2]; exact hh
  · rintro ⟨r, hr, hj, hl⟩
    have hs : sof r < 2 ^ n := (decide_eq_decide.mp (T4 n (by omega) r (by omega))).mp hr
    refine ⟨sof r, hs, bof r, ?_, ⟨T8o r (by omega), T8 r (by omega)⟩, ?_, ?_⟩
    · have := T8 r (by omega)
      have h2 : sof r &&& bof r ≤ sof r := Nat.and_le_left
      omega
    · rw [← jb_hb hn (by omega)]; exact hj
    · rw [T1 r (by omega)]; exact hl
theorem any_iff {n a b : Nat} (hn : n ≤ 6) : (∃ s, s < 2 ^ n ∧ ¬ bsn (hb n a b s) 64 = 0) ↔ anyB (jb n a b) (3 ^ n) = true := by
  have h6 := pow6 hn
  have h3 := p3_le n (by omega)
  rw [anyB_iff]
  constructor
  · rintro ⟨s, hs, h⟩
    have hex : ∃ c, c < 64 ∧ hb n a b s c = true := by
      apply Classical.byContradiction
      intro hno
      apply h
      rw [bsn_0]
      intro c hc
      cases z : hb n a b s c with
      | false => rfl
      | true => exact absurd ⟨c, hc, z⟩ hno
    obtain ⟨c, hc, hh⟩ := hex
    obtain ⟨-, -, q1, q2, -⟩ := hb_le hn hh
    exact ⟨_, q1, q2⟩
  · rintro ⟨t, ht, hj⟩
    rw [jb_hb hn (by omega)] at hj
    refine ⟨sof t, (hb_sub hj).1, fun z => ?_⟩
    rw [bsn_0] at z
    rw [z _ (bof_lt t)] at hj; cases hj
theorem o_jumps {n : Nat} {M : Nat → Int64} {K : Nat → Int32} {N rows : Int32} {B : Nat → Int64} {T J : Nat → Int32} (h0 : 1 ≤ n) (hn : n ≤ 6) (hV : VF n M K) (hT : VS T) (x1 x2 x3 : Int32) : ∃ r N' B' rows' J', m_X5_jumps (nI n) M K N B T x1 x2 x3 = some (r, N', B') ∧ m_X6_jumps (nI n) rows M K J x1 x2 x3 = some (r, rows', J') := by
  have h6 := pow6 hn
  have h3 := p3_le n (by omega)
  unfold m_X5_jumps m_X5_jumps_0 m_X6_jumps m_X6_jumps_0
  simp only [v5_fam, v6_fam, bd1_some, q01, q10, show m_X6_isIn x3.toInt64 (0 : Int64) (3 : Int64) = _ from v6_in x3 3 (by omega)]
  have e3 : ∀ A B : Option (Int32 × Int32 × (Nat → Int64)), (if x3 < 0 then A else if x3 ≤ 3 then B else A) = if fok (3 + 1) x3 = true then B else A := fun A B => sel_le x3 3 (by omega) A B
  rw [e3]
  by_cases h1 : fok 6 x1 = true
  case neg => exact ⟨-2, N, B, rows, J, by simp [h1], by simp [h1]⟩
  by_cases h2 : fok 6 x2 = true
  case neg => exact ⟨-2, N, B, rows, J, by simp [h1, h2], by simp [h1, h2]⟩
  by_cases h4 : fok (3 + 1) x3 = true
  case neg => exact ⟨-2, N, B, rows, J, by simp only [h1, h2, h4, if_true, if_false, Bool.false_eq_true], by simp only [h1, h2, h4, if_true, not_true, if_false, Bool.false_eq_true, not_false_eq_true]⟩
  obtain ⟨i, hi, rfl⟩ := fok_ex (by omega) h1
  obtain ⟨j, hj, rfl⟩ := fok_ex (by omega) h2
  obtain ⟨⟨a, ha, hA⟩, -⟩ := hV i hi
  obtain ⟨⟨b, hb, hB⟩, -⟩ := hV j hj
  have ha64 : a < 2 ^ 64 := Nat.lt_of_lt_of_le ha (pp6 hn)
  have hb64 : b < 2 ^ 64 := Nat.lt_of_lt_of_le hb (pp6 hn)
  simp only [h1, h2, h4, if_true, not_true, if_false, v5_missing hi, v5_missing hj, bd1_some, q10, ix_ok hi (show 6 < 2 ^ 31 by omega), ix_ok hj (show 6 < 2 ^ 31 by omega), nI_clamp (show i < 2 ^ 31 by omega), nI_clamp (show j < 2 ^ 31 by omega), hA, hB]
  by_cases k1 : K i = -1
  · exact ⟨-11, N, B, rows, J, by simp [k1], by simp [k1]⟩
  by_cases k2 : K j = -1
  · exact ⟨-11, N, B, rows, J, by simp [k1, k2], by simp [k1, k2]⟩
  simp only [k1, k2, not_false_eq_true, if_true, if_false]
  obtain ⟨B', f1, f2⟩ := v_fillS (B := B) (N := N) hn ha64 hb64
  obtain ⟨J', g1, g2⟩ := v_finds (J := J) (rows := rows) hn hi hj hA hB ha64 hb64
  rw [f1, bd2_some, g1, bd2_some]
  unfold m_X6_jumps_J138
  have hjl : ∀ t, jb n a b t = true → t < 3 ^ n := fun t h => jb_lt hn h
  by_cases w0 : x3 = 0
  · subst w0
    rw [if_pos rfl, if_neg (show ¬ (0 : Int32) = 1 by decide), v_howMany f2, bd1_some, v_jumpsL hn g2, bd3_some, if_pos rfl, many_eq hn]
    exact ⟨_, _, _, _, _, rfl, rfl⟩
  rw [if_neg w0]
  by_cases w1 : x3 = 1
  · subst w1
    rw [if_pos rfl, if_pos rfl, v6_sprung h0 hn g2, bd1_some]
    obtain ⟨r, r1, r2⟩ := v5_sprung hn f2
    rw [r1, bd1_some]
    rw [any_iff hn, bd5_iff hn, ← bad_iff hn] at r2
    cases hbd : (ffO (badX n a b) (3 ^ n)).isSome with
    | true =>
      rw [hbd] at r2
      have : r = false := by
        cases r with
        | false => rfl
        | true => exact absurd rfl (r2.mp rfl).2
      rw [this]
      exact ⟨0, _, _, _, _, rfl, rfl⟩
    | false =>
      rw [hbd] at r2
      cases han : anyB (jb n a b) (3 ^ n) with
      | true =>
        have : r = true := r2.mpr ⟨han, by decide⟩
        rw [this]
        exact ⟨1, _, _, _, _, rfl, rfl⟩
      | false =>
        have : r = false := by
          cases r with
          | false => rfl
          | true =>
            have := (r2.mp rfl).1
            rw [han] at this
            cases this
        rw [this]
        exact ⟨0, _, _, _, _, rfl, rfl⟩
  rw [if_neg w1, if_neg w1, v_jumpsL hn g2, bd3_some, if_neg w0]
  by_cases w2 : x3 = 2
  · subst w2
    rw [if_pos rfl, if_pos rfl]
    obtain ⟨o, o1, o2⟩ := v_least3 hn f2 hT
    rw [o1, bd1_some, ← o2.first hjl]
    exact ⟨_, _, _, _, _, rfl, rfl⟩
  rw [if_neg w2, if_neg w2]
  obtain ⟨o, o1, o2⟩ := v_great3 hn f2 hT
  rw [o1, bd1_some, ← o2.last hjl]
  exact ⟨_, _, _, _, _, rfl, rfl⟩
