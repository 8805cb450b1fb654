/-! ===== jumps: rows as numbers to the base of 3, and as two sets ===== -/
theorem ruP {S R : Type} {f : S → Option (S ⊕ R)} (Inv : Nat → S → Prop) (Post : R → Prop) (n : Nat) {s0 : S} (hn : n < 800) (h0 : Inv 0 s0) (hs : ∀ i s, i < n → Inv i s → ∃ s', f s = some (.inl s') ∧ Inv (i + 1) s') (he : ∀ s, Inv n s → ∃ r, f s = some (.inr r) ∧ Post r) : ∃ r, gk_lp f gk_fu s0 = some r ∧ Post r := by
  have key : ∀ (d i k : Nat) (s : S), i + d = n → d < k → Inv i s → ∃ r, gk_lp f k s = some r ∧ Post r := by
    intro d
    induction d with
    | zero =>
      intro i k s hi hk h
      obtain ⟨k', rfl⟩ : ∃ k', k = k' + 1 := ⟨k - 1, by omega⟩
      have e : i = n := by omega
      subst e
      obtain ⟨r, h1, h2⟩ := he s h
      rw [gk_lp, h1]
      exact ⟨r, rfl, h2⟩
    | succ d ih =>
      intro i k s hi hk h
      obtain ⟨k', rfl⟩ : ∃ k', k = k' + 1 := ⟨k - 1, by omega⟩
      obtain ⟨s', h1, h2⟩ := hs i s (by omega) h
      rw [gk_lp, h1]
      exact ih (i + 1) k' s' (by omega) (by omega) h2
  exact key n 0 gk_fu s0 (by omega) hn h0
def ternI (s : Nat) : Nat → Nat
  | 0 => 0
  | p + 1 => ternI s p + (if s.testBit p then 3 ^ p else 0)
def tern (s : Nat) : Nat := ternI s 6
def dg (t p : Nat) : Nat := t / 3 ^ p % 3
def sof (t : Nat) : Nat := bsn (fun p => decide (1 ≤ dg t p)) 6
def bof (t : Nat) : Nat := bsn (fun p => decide (dg t p = 2)) 6
theorem v_rowOf : ∀ x, x < 64 → m_X6_rowOf (nI x) = some (nI (tern x)) := by decide +kernel
theorem v_three : ∀ p, p < 7 → m_X6_three (nI p) = some (nI (3 ^ p)) := by decide +kernel
theorem v_over : ∀ p, p < 7 → m_X3_rowsOver (nI p) = some (nI (3 ^ p)) := by decide +kernel
theorem p3_le : ∀ p, p < 7 → 3 ^ p ≤ 729 := by decide +kernel
theorem tern_le : ∀ x, x < 64 → tern x ≤ 364 := by decide +kernel
theorem T1 : ∀ t, t < 729 → tern (sof t) + tern (bof t) = t := by decide +kernel
theorem T2s : ∀ x, x < 64 → ∀ y, y < 64 → sof (tern x + tern y) = x ||| y := by decide +kernel
theorem T2b : ∀ x, x < 64 → ∀ y, y < 64 → bof (tern x + tern y) = x &&& y := by decide +kernel
theorem T4 : ∀ n, n < 7 → ∀ t, t < 729 → decide (t < 3 ^ n) = decide (sof t < 2 ^ n) := by decide +kernel
theorem T5 : ∀ t, t < 729 → ∀ p, p < 6 → dg t p = (if (sof t).testBit p then 1 else 0) + (if (bof t).testBit p then 1 else 0) := by decide +kernel
theorem T6 : ∀ p, p < 6 → ∀ s, s < 64 → (s.testBit p = true ∨ tern (s ||| 2 ^ p) = tern s + 3 ^ p) := by decide +kernel
theorem T6b : ∀ p, p < 6 → ∀ s, s < 64 → (s.testBit p = false ∨ tern (s - 2 ^ p) + 3 ^ p = tern s) := by decide +kernel
theorem T8 : ∀ t, t < 729 → sof t &&& bof t = bof t := by decide +kernel
theorem T8o : ∀ t, t < 729 → sof t ||| bof t = sof t := by decide +kernel
theorem sof_lt (t : Nat) : sof t < 64 := bsn_lt _ _
theorem bof_lt (t : Nat) : bof t < 64 := bsn_lt _ _
theorem tt_lt {x y : Nat} (hx : x < 64) (hy : y < 64) : tern x + tern y < 729 := by
  have := tern_le x hx
  have := tern_le y hy
  omega
theorem tt_n {n x y : Nat} (hn : n ≤ 6) (hx : x < 2 ^ n) (hy : y < 2 ^ n) : tern x + tern y < 3 ^ n := by
  have h6 := pow6 hn
  have := T4 n (by omega) (tern x + tern y) (tt_lt (by omega) (by omega))
  rw [T2s x (by omega) y (by omega)] at this
  exact (decide_eq_decide.mp this).mpr (Nat.or_lt_two_pow hx hy)
def hb (n a b s c : Nat) : Bool := decide (∃ x, x < 2 ^ n ∧ a.testBit x = true ∧ ∃ y, y < 2 ^ n ∧ b.testBit y = true ∧ x ||| y = s ∧ x &&& y = c)
def jb (n a b t : Nat) : Bool := decide (∃ x, x < 2 ^ n ∧ a.testBit x = true ∧ ∃ y, y < 2 ^ n ∧ b.testBit y = true ∧ tern x + tern y = t)
theorem hb_iff {n a b s c : Nat} : hb n a b s c = true ↔ ∃ x, x < 2 ^ n ∧ a.testBit x = true ∧ ∃ y, y < 2 ^ n ∧ b.testBit y = true ∧ x ||| y = s ∧ x &&& y = c := decide_eq_true_iff
theorem jb_iff {n a b t : Nat} : jb n a b t = true ↔ ∃ x, x < 2 ^ n ∧ a.testBit x = true ∧ ∃ y, y < 2 ^ n ∧ b.testBit y = true ∧ tern x + tern y = t := decide_eq_true_iff
theorem hb_jb {n a b s c : Nat} (hn : n ≤ 6) (hs : s < 64) (hc : c < 64) (h1 : s ||| c = s) (h2 : s &&& c = c) : hb n a b s c = jb n a b (tern s + tern c) := by
  have h6 := pow6 hn
  rw [Bool.eq_iff_iff, hb_iff, jb_iff]
  constructor
  · rintro ⟨x, hx, ha, y, hy, hb, q1, q2⟩
    refine ⟨x, hx, ha, y, hy, hb, ?_⟩
    have := T1 (tern x + tern y) (tt_lt (by omega) (by omega))
    rw [T2s x (by omega) y (by omega), T2b x (by omega) y (by omega), q1, q2] at this
    exact this.symm
  · rintro ⟨x, hx, ha, y, hy, hb, q⟩
    refine ⟨x, hx, ha, y, hy, hb, ?_, ?_⟩
    · rw [← T2s x (by omega) y (by omega), q, T2s s hs c hc, h1]
    · rw [← T2b x (by omega) y (by omega), q, T2b s hs c hc, h2]
theorem hb_sub {n a b s c : Nat} (h : hb n a b s c = true) : s < 2 ^ n ∧ s ||| c = s ∧ s &&& c = c := by
  obtain ⟨x, hx, ha, y, hy, hb, rfl, rfl⟩ := hb_iff.mp h
  refine ⟨Nat.or_lt_two_pow hx hy, ?_, ?_⟩
  · apply Nat.eq_of_testBit_eq
    intro i
    simp only [Nat.testBit_or, Nat.testBit_and]
    cases x.testBit i <;> cases y.testBit i <;> rfl
  · apply Nat.eq_of_testBit_eq
    intro i
    simp only [Nat.testBit_or, Nat.testBit_and]
    cases x.testBit i <;> cases y.testBit i <;> rfl
theorem jb_lt {n a b t : Nat} (hn : n ≤ 6) (h : jb n a b t = true) : t < 3 ^ n := by
  obtain ⟨x, hx, ha, y, hy, hb, rfl⟩ := jb_iff.mp h
  exact tt_n hn hx hy
theorem jb_hb {n a b t : Nat} (hn : n ≤ 6) (ht : t < 729) : jb n a b t = hb n a b (sof t) (bof t) := by
  rw [hb_jb hn (sof_lt t) (bof_lt t) (T8o t ht) (T8 t ht), T1 t ht]
/-! rows as two sets -/
def BP (n a b : Nat) (B : Nat → Int64) : Prop := ∀ s, s < 64 → B s = lN (bsn (hb n a b s) 64)
theorem hbN_lt (n a b s : Nat) : bsn (hb n a b s) 64 < 2 ^ 64 := bsn_lt _ _
def BQ (R : Nat → Nat → Prop) (B : Nat → Int64) : Prop := ∀ s, s < 64 → ∃ m, m < 2 ^ 64 ∧ B s = lN m ∧ ∀ c, c < 64 → (m.testBit c = true ↔ R s c)
theorem BQ.congr {R R' : Nat → Nat → Prop} {B : Nat → Int64} (h : BQ R B) (e : ∀ s c, R s c ↔ R' s c) : BQ R' B := fun s hs => by
  obtain ⟨m, h1, h2, h3⟩ := h s hs
  exact ⟨m, h1, h2, fun c hc => by rw [h3 c hc, e]⟩
theorem v_addAll {n x b : Nat} {R : Nat → Nat → Prop} {B : Nat → Int64} (hn : n ≤ 6) (hx : x < 2 ^ n) (hb : b < 2 ^ 64) (h : BQ R B) : ∃ B', m_X3_addAll (nI n) B (nI x) (lN b) = some B' ∧ BQ (fun s c => R s c ∨ ∃ y, y < 2 ^ n ∧ b.testBit y = true ∧ x ||| y = s ∧ x &&& y = c) B' := by
  have h6 := pow6 hn
  unfold m_X3_addAll m_X3_addAll_0
  obtain ⟨r, h1, h2⟩ := ruP (f := fun z => m_X3_addAll_B3 (nI n) (nI x) (lN b) z.1 z.2) (fun i z => z.1 = nI i ∧ BQ (fun s c => R s c ∨ ∃ y, y < i ∧ b.testBit y = true ∧ x ||| y = s ∧ x &&& y = c) z.2) (fun B' => BQ (fun s c => R s c ∨ ∃ y, y < 2 ^ n ∧ b.testBit y = true ∧ x ||| y = s ∧ x &&& y = c) B') (2 ^ n) (s0 := ((0 : Int32), B)) (by omega) ⟨rfl, h.congr (fun s c => by simp)⟩ (by
    rintro i ⟨k, B⟩ hi ⟨rfl, hB⟩
    show ∃ s', m_X3_addAll_B3 (nI n) (nI x) (lN b) (nI i) B = _ ∧ _
    have hB : BQ (fun s c => R s c ∨ ∃ y, y < i ∧ b.testBit y = true ∧ x ||| y = s ∧ x &&& y = c) B := hB
    unfold m_X3_addAll_B3
    have hor : x ||| i < 64 := Nat.or_lt_two_pow (n := 6) (by omega) (by omega)
    have hand : x &&& i < 64 := Nat.lt_of_le_of_lt Nat.and_le_left (by omega)
    rw [shl1 (by omega), if_neg (nI_ge hi (by omega)), v_holds hb (by omega), bd1_some, fa_or, fa_and, ix_ok hor (by omega), ix_ok hor (by omega), nI_clamp (by omega), shlL hand, nI_1]
    simp only [q10]
    cases hbit : b.testBit i with
    | false =>
      refine ⟨(nI (i + 1), B), by simp, rfl, hB.congr (fun s c => ?_)⟩
      constructor
      · rintro (q | ⟨y, q1, q2⟩)
        · exact Or.inl q
        · exact Or.inr ⟨y, by omega, q2⟩
      · rintro (q | ⟨y, q1, q2⟩)
        · exact Or.inl q
        · by_cases e : y = i
          · subst e; rw [hbit] at q2; exact absurd q2.1 (by decide)
          · exact Or.inr ⟨y, by omega, q2⟩
    | true =>
      refine ⟨(nI (i + 1), vp_updL B (x ||| i) (B (x ||| i) ||| lN (2 ^ (x &&& i)))), by simp, rfl, fun s hs => ?_⟩
      obtain ⟨m, m1, m2, m3⟩ := hB s hs
      by_cases e : s = x ||| i
      · subst e
        show ∃ m, m < 2 ^ 64 ∧ vp_updL B (x ||| i) (B (x ||| i) ||| lN (2 ^ (x &&& i))) (x ||| i) = lN m ∧ _
        rw [pk_uLs, m2, fb_orL]
        refine ⟨_, Nat.or_lt_two_pow m1 (Nat.pow_lt_pow_right (by omega) hand), rfl, fun c hc => ?_⟩
        rw [fb_bit_set, Bool.or_eq_true, m3 c hc, decide_eq_true_iff]
        constructor
        · rintro ((q | ⟨y, q1, q2⟩) | q)
          · exact Or.inl q
          · exact Or.inr ⟨y, by omega, q2⟩
          · exact Or.inr ⟨i, by omega, hbit, rfl, q.symm⟩
        · rintro (q | ⟨y, q1, q2, q3, q4⟩)
          · exact Or.inl (Or.inl q)
          · by_cases e : y = i
            · subst e; exact Or.inr q4.symm
            · exact Or.inl (Or.inr ⟨y, by omega, q2, q3, q4⟩)
      · refine ⟨m, m1, ?_, fun c hc => ?_⟩
        · show vp_updL B (x ||| i) _ s = lN m
          rw [pk_uLn e]; exact m2
        · rw [m3 c hc]
          constructor
          · rintro (q | ⟨y, q1, q2⟩)
            · exact Or.inl q
            · exact Or.inr ⟨y, by omega, q2⟩
          · rintro (q | ⟨y, q1, q2, q3, q4⟩)
            · exact Or.inl q
            · by_cases e2 : y = i
              · subst e2; exact absurd q3.symm e
              · exact Or.inr ⟨y, by omega, q2, q3, q4⟩) (by
    rintro ⟨k, B⟩ ⟨rfl, hB⟩
    refine ⟨B, ?_, hB⟩
    show m_X3_addAll_B3 (nI n) (nI x) (lN b) (nI (2 ^ n)) B = _
    unfold m_X3_addAll_B3
    rw [shl1 (by omega), if_pos (nI_le (Nat.le_refl _) (by omega))])
  rw [h1]
  exact ⟨r, rfl, h2⟩
theorem v_fillS {n a b : Nat} {B : Nat → Int64} {N : Int32} (hn : n ≤ 6) (ha : a < 2 ^ 64) (hb' : b < 2 ^ 64) : ∃ B', m_X3_fill N B (lN a) (lN b) (nI n) = some (nI n, B') ∧ BP n a b B' := by
  have h6 := pow6 hn
  unfold m_X3_fill m_X3_fill_0
  rw [v_fillL (by omega), bd1_some]
  obtain ⟨r, h1, h2⟩ := ruP (f := fun z => m_X3_fill_B17 (nI n) (lN a) (lN b) z.1 z.2) (fun i z => z.1 = nI i ∧ BQ (fun s c => ∃ x, x < i ∧ a.testBit x = true ∧ ∃ y, y < 2 ^ n ∧ b.testBit y = true ∧ x ||| y = s ∧ x &&& y = c) z.2) (fun B' => BQ (fun s c => ∃ x, x < 2 ^ n ∧ a.testBit x = true ∧ ∃ y, y < 2 ^ n ∧ b.testBit y = true ∧ x ||| y = s ∧ x &&& y = c) B') (2 ^ n) (s0 := ((0 : Int32), fa_fill (fun _ => 0) B 64)) (by omega) ⟨rfl, fun s hs => ⟨0, by omega, by show fa_fill (fun _ => 0) B 64 s = _; rw [fa_fill_in hs]; rfl, fun c _ => by rw [Nat.zero_testBit]; simp⟩⟩ (by
    rintro i ⟨k, B⟩ hi ⟨rfl, hB⟩
    show ∃ s', m_X3_fill_B17 (nI n) (lN a) (lN b) (nI i) B = _ ∧ _
    have hB : BQ (fun s c => ∃ x, x < i ∧ a.testBit x = true ∧ ∃ y, y < 2 ^ n ∧ b.testBit y = true ∧ x ||| y = s ∧ x &&& y = c) B := hB
    unfold m_X3_fill_B17
    rw [shl1 (by omega), if_neg (nI_ge hi (by omega)), v_holds ha (by omega), bd1_some, nI_1]
    simp only [q10]
    cases hbit : a.testBit i with
    | false =>
      refine ⟨(nI (i + 1), B), by simp, rfl, hB.congr (fun s c => ?_)⟩
      constructor
      · rintro ⟨x, q1, q2⟩; exact ⟨x, by omega, q2⟩
      · rintro ⟨x, q1, q2, q3⟩
        by_cases e : x = i
        · subst e; rw [hbit] at q2; cases q2
        · exact ⟨x, by omega, q2, q3⟩
    | true =>
      obtain ⟨B', q1, q2⟩ := v_addAll hn hi hb' hB
      rw [q1]
      refine ⟨(nI (i + 1), B'), by simp [gk_bd1], rfl, q2.congr (fun s c => ?_)⟩
      constructor
      · rintro (⟨x, p1, p2⟩ | p)
        · exact ⟨x, by omega, p2⟩
        · exact ⟨i, by omega, hbit, p⟩
      · rintro ⟨x, p1, p2, p3⟩
        by_cases e : x = i
        · subst e; exact Or.inr p3
        · exact Or.inl ⟨x, by omega, p2, p3⟩) (by
    rintro ⟨k, B⟩ ⟨rfl, hB⟩
    refine ⟨B, ?_, hB⟩
    show m_X3_fill_B17 (nI n) (lN a) (lN b) (nI (2 ^ n)) B = _
    unfold m_X3_fill_B17
    rw [shl1 (by omega), if_pos (nI_le (Nat.le_refl _) (by omega))])
  rw [h1]
  refine ⟨r, rfl, fun s hs => ?_⟩
  obtain ⟨m, m1, m2, m3⟩ := h2 s hs
  rw [m2]
  congr 1
  refine tb_ext m1 (bsn_lt _ _) (fun c hc => ?_)
  rw [bsn_bit, Bool.eq_iff_iff, m3 c hc]
  simp only [hc, decide_true, Bool.true_and, hb_iff]
theorem v_holdsRow {n a b s c : Nat} {B : Nat → Int64} (h : BP n a b B) (hs : s < 64) (hc : c < 64) : m_X3_holdsRow B (nI s) (nI c) = some (if hb n a b s c then 1 else 0) := by
  unfold m_X3_holdsRow m_X3_holdsRow_0
  rw [ix_ok hs (by omega), nI_clamp (by omega), h s hs, v_holds (hbN_lt n a b s) hc, bd1_some, bo01, bsn_bit]
  simp [hc]
/-! the reference's flags -/
def JP (n a b : Nat) (J : Nat → Int32) : Prop := ∀ t, t < 3 ^ n → J t = if jb n a b t then 1 else 0
def JQ (n : Nat) (R : Nat → Prop) (J : Nat → Int32) : Prop := ∀ t, t < 3 ^ n → (J t = 1 ∧ R t) ∨ (J t = 0 ∧ ¬ R t)
theorem JQ.congr {n : Nat} {R R' : Nat → Prop} {J : Nat → Int32} (h : JQ n R J) (e : ∀ t, R t ↔ R' t) : JQ n R' J := fun t ht => by
  rcases h t ht with ⟨h1, h2⟩ | ⟨h1, h2⟩
  · exact Or.inl ⟨h1, (e t).mp h2⟩
  · exact Or.inr ⟨h1, fun q => h2 ((e t).mpr q)⟩
theorem nar1 : vp_nar .boolean (1 : Int32) = 1 := by decide
theorem nar0 : vp_nar .boolean (0 : Int32) = 0 := by decide
theorem v_findsIn {n x i j a b : Nat} {M : Nat → Int64} {R : Nat → Prop} {J : Nat → Int32} {rows : Int32} (hn : n ≤ 6) (hi : i < 6) (hj : j < 6) (hA : M i = lN a) (hB : M j = lN b) (ha : a < 2 ^ 64) (hb : b < 2 ^ 64) (hx : x < 2 ^ n) (h : JQ n R J) : ∃ J', gk_lp (fun z => m_X6_finds_B49 (nI n) rows M (nI i) (nI j) (nI x) z.1 z.2) gk_fu ((0 : Int32), J) = some J' ∧ JQ n (fun t => R t ∨ (a.testBit x = true ∧ ∃ y, y < 2 ^ n ∧ b.testBit y = true ∧ tern x + tern y = t)) J' := by
  have h6 := pow6 hn
  have h3 := p3_le n (by omega)
  have hpos := Nat.two_pow_pos n
  cases hax : a.testBit x with
  | false =>
    have : gk_lp (fun z => m_X6_finds_B49 (nI n) rows M (nI i) (nI j) (nI x) z.1 z.2) gk_fu ((0 : Int32), J) = some J := by
      refine ru (fun k => (nI k, J)) 0 rfl (by omega) (fun k hk => absurd hk (Nat.not_lt_zero _)) ?_
      show m_X6_finds_B49 (nI n) rows M (nI i) (nI j) (nI x) (nI 0) J = _
      unfold m_X6_finds_B49
      rw [shl1 (by omega), if_neg (nI_ge hpos (by omega)), v_isMember hi hA ha (by omega), bd1_some, hax]
      simp
    rw [this]
    exact ⟨J, rfl, h.congr (fun t => by simp)⟩
  | true =>
    obtain ⟨r, h1, h2⟩ := ruP (f := fun z => m_X6_finds_B49 (nI n) rows M (nI i) (nI j) (nI x) z.1 z.2) (fun k z => z.1 = nI k ∧ JQ n (fun t => R t ∨ ∃ y, y < k ∧ b.testBit y = true ∧ tern x + tern y = t) z.2) (fun J' => JQ n (fun t => R t ∨ ∃ y, y < 2 ^ n ∧ b.testBit y = true ∧ tern x + tern y = t) J') (2 ^ n) (s0 := ((0 : Int32), J)) (by omega) ⟨rfl, h.congr (fun t => by simp)⟩ (by
      rintro y ⟨k, J⟩ hy ⟨rfl, hJ⟩
      show ∃ s', m_X6_finds_B49 (nI n) rows M (nI i) (nI j) (nI x) (nI y) J = _ ∧ _
      have hJ : JQ n (fun t => R t ∨ ∃ y', y' < y ∧ b.testBit y' = true ∧ tern x + tern y' = t) J := hJ
      unfold m_X6_finds_B49
      have htt := tt_n hn hx hy
      rw [shl1 (by omega), if_neg (nI_ge hy (by omega)), v_isMember hi hA ha (by omega), bd1_some, hax, v_isMember hj hB hb (by omega), bd1_some, v_rowOf x (by omega), bd1_some, v_rowOf y (by omega), bd1_some, nI_add, ix_ok (show tern x + tern y < 729 by omega) (by omega), nI_clamp (by omega), nI_1, nar1]
      simp only [q10]
      cases hbit : b.testBit y with
      | false =>
        refine ⟨(nI (y + 1), J), by simp, rfl, hJ.congr (fun t => ?_)⟩
        constructor
        · rintro (q | ⟨z, q1, q2⟩)
          · exact Or.inl q
          · exact Or.inr ⟨z, by omega, q2⟩
        · rintro (q | ⟨z, q1, q2⟩)
          · exact Or.inl q
          · by_cases e : z = y
            · subst e; rw [hbit] at q2; exact absurd q2.1 (by decide)
            · exact Or.inr ⟨z, by omega, q2⟩
      | true =>
        refine ⟨(nI (y + 1), upd J (tern x + tern y) 1), by simp, rfl, fun t ht => ?_⟩
        show (upd J (tern x + tern y) 1 t = 1 ∧ _) ∨ (upd J (tern x + tern y) 1 t = 0 ∧ _)
        by_cases e : t = tern x + tern y
        · subst e
          rw [pk_us]
          exact Or.inl ⟨rfl, Or.inr ⟨y, by omega, hbit, rfl⟩⟩
        · rw [pk_un e]
          rcases hJ t ht with ⟨q1, q2⟩ | ⟨q1, q2⟩
          · refine Or.inl ⟨q1, ?_⟩
            rcases q2 with q | ⟨z, z1, z2⟩
            · exact Or.inl q
            · exact Or.inr ⟨z, by omega, z2⟩
          · refine Or.inr ⟨q1, ?_⟩
            rintro (q | ⟨z, z1, z2, z3⟩)
            · exact q2 (Or.inl q)
            · by_cases e2 : z = y
              · subst e2; exact e z3.symm
              · exact q2 (Or.inr ⟨z, by omega, z2, z3⟩)) (by
      rintro ⟨k, J⟩ ⟨rfl, hJ⟩
      refine ⟨J, ?_, hJ⟩
      show m_X6_finds_B49 (nI n) rows M (nI i) (nI j) (nI x) (nI (2 ^ n)) J = _
      unfold m_X6_finds_B49
      rw [shl1 (by omega), if_pos (nI_le (Nat.le_refl _) (by omega))])
    exact ⟨r, h1, h2.congr (fun t => by simp)⟩
theorem v_finds {n i j a b : Nat} {M : Nat → Int64} {J : Nat → Int32} {rows : Int32} (hn : n ≤ 6) (hi : i < 6) (hj : j < 6) (hA : M i = lN a) (hB : M j = lN b) (ha : a < 2 ^ 64) (hb : b < 2 ^ 64) : ∃ J', m_X6_finds (nI n) rows M J (nI i) (nI j) = some (nI (3 ^ n), J') ∧ JP n a b J' := by
  have h6 := pow6 hn
  have h3 := p3_le n (by omega)
  unfold m_X6_finds m_X6_finds_0
  rw [v_three n (by omega), bd1_some]
  have hz : gk_lp (fun z => m_X6_finds_B13 (nI n) (nI (3 ^ n)) M (nI i) (nI j) z.1 z.2) gk_fu ((0 : Int32), J) = some (fa_fill (fun _ => (0 : Int32)) J (3 ^ n)) := by
    refine ru (fun k => (nI k, fa_fill (fun _ => (0 : Int32)) J k)) (3 ^ n) ?_ (by omega) (fun k hk => ?_) ?_
    · show _ = (nI 0, fa_fill (fun _ => (0 : Int32)) J 0)
      rw [fa_fill_0]; rfl
    · show m_X6_finds_B13 (nI n) (nI (3 ^ n)) M (nI i) (nI j) (nI k) (fa_fill (fun _ => (0 : Int32)) J k) = some (Sum.inl (nI (k + 1), fa_fill (fun _ => (0 : Int32)) J (k + 1)))
      unfold m_X6_finds_B13
      rw [if_neg (nI_ge hk (by omega)), ix_ok (show k < 729 by omega) (by omega), nI_clamp (by omega), nI_1, nar0, fa_fill_succ (fun _ => (0 : Int32)) J k]
    · show m_X6_finds_B13 (nI n) (nI (3 ^ n)) M (nI i) (nI j) (nI (3 ^ n)) _ = _
      unfold m_X6_finds_B13
      rw [if_pos (nI_le (Nat.le_refl _) (by omega))]
  rw [hz, bd1_some]
  obtain ⟨r, h1, h2⟩ := ruP (f := fun z => m_X6_finds_B36 (nI n) (nI (3 ^ n)) M (nI i) (nI j) z.1 z.2) (fun k z => z.1 = nI k ∧ JQ n (fun t => ∃ x, x < k ∧ a.testBit x = true ∧ ∃ y, y < 2 ^ n ∧ b.testBit y = true ∧ tern x + tern y = t) z.2) (fun J' => JQ n (fun t => ∃ x, x < 2 ^ n ∧ a.testBit x = true ∧ ∃ y, y < 2 ^ n ∧ b.testBit y = true ∧ tern x + tern y = t) J') (2 ^ n) (s0 := ((0 : Int32), fa_fill (fun _ => (0 : Int32)) J (3 ^ n))) (by omega) ⟨rfl, fun t ht => Or.inr ⟨by show fa_fill (fun _ => (0 : Int32)) J (3 ^ n) t = 0; rw [fa_fill_in ht], by simp⟩⟩ (by
    rintro x ⟨k, J⟩ hx ⟨rfl, hJ⟩
    show ∃ s', m_X6_finds_B36 (nI n) (nI (3 ^ n)) M (nI i) (nI j) (nI x) J = _ ∧ _
    have hJ : JQ n (fun t => ∃ x', x' < x ∧ a.testBit x' = true ∧ ∃ y, y < 2 ^ n ∧ b.testBit y = true ∧ tern x' + tern y = t) J := hJ
    unfold m_X6_finds_B36
    obtain ⟨J', q1, q2⟩ := v_findsIn (rows := nI (3 ^ n)) hn hi hj hA hB ha hb hx hJ
    rw [shl1 (by omega), if_neg (nI_ge hx (by omega)), q1, bd1_some, nI_1]
    refine ⟨(nI (x + 1), J'), rfl, rfl, q2.congr (fun t => ?_)⟩
    constructor
    · rintro (⟨z, p1, p2⟩ | p)
      · exact ⟨z, by omega, p2⟩
      · exact ⟨x, by omega, p⟩
    · rintro ⟨z, p1, p2, p3⟩
      by_cases e : z = x
      · subst e; exact Or.inr ⟨p2, p3⟩
      · exact Or.inl ⟨z, by omega, p2, p3⟩) (by
    rintro ⟨k, J⟩ ⟨rfl, hJ⟩
    refine ⟨J, ?_, hJ⟩
    show m_X6_finds_B36 (nI n) (nI (3 ^ n)) M (nI i) (nI j) (nI (2 ^ n)) J = _
    unfold m_X6_finds_B36
    rw [shl1 (by omega), if_pos (nI_le (Nat.le_refl _) (by omega))])
  rw [h1]
  refine ⟨r, rfl, fun t ht => ?_⟩
  rcases h2 t ht with ⟨q1, q2⟩ | ⟨q1, q2⟩
  · rw [q1, if_pos (jb_iff.mpr q2)]
  · rw [q1, if_neg (fun z => q2 (jb_iff.mp z))]
/-! jump -/
def soI (t i : Nat) : Nat := bsn (fun p => decide (1 ≤ dg t p)) i
def boI (t i : Nat) : Nat := bsn (fun p => decide (dg t p = 2)) i
theorem so_n {n t : Nat} (hn : n ≤ 6) (ht : t < 3 ^ n) : soI t n = sof t ∧ boI t n = bof t := by
  have h3 := p3_le n (by omega)
  have hs : sof t < 2 ^ n := (decide_eq_decide.mp (T4 n (by omega) t (by omega))).mp ht
  have hb : bof t < 2 ^ n := by
    have := T8 t (by omega)
    rw [← this]
    exact Nat.lt_of_le_of_lt Nat.and_le_left hs
  constructor
  · refine tb_ext (n := n) (bsn_lt _ _) hs (fun p hp => ?_)
    rw [soI, sof, bsn_bit, bsn_bit]
    have : p < 6 := by omega
    simp [hp, this]
  · refine tb_ext (n := n) (bsn_lt _ _) hb (fun p hp => ?_)
    rw [boI, bof, bsn_bit, bsn_bit]
    have : p < 6 := by omega
    simp [hp, this]
theorem hN_step : ∀ m, m < 729 → nI m - nI m / (3 : Int32) * (3 : Int32) = nI (m % 3) ∧ nI m / (3 : Int32) = nI (m / 3) := by decide +kernel
theorem nz3 {α : Type} (k : Option α) : gk_nz (3 : Int32) k = k := by
  unfold gk_nz
  rw [if_neg (by decide)]
theorem v_holdsNumber {n a b t : Nat} {B : Nat → Int64} (hn : n ≤ 6) (h : BP n a b B) (ht : t < 3 ^ n) : m_X3_holdsNumber (nI n) B (nI t) = some (if jb n a b t then 1 else 0) := by
  have h3 := p3_le n (by omega)
  unfold m_X3_holdsNumber m_X3_holdsNumber_0
  have hl : gk_lp (fun z => m_X3_holdsNumber_B10 (nI n) B z.1 z.2.1 z.2.2.1 z.2.2.2) gk_fu ((0 : Int32), (0 : Int32), nI t, (0 : Int32)) = some (nI (soI t n), nI (boI t n)) := by
    refine ru (fun i => (nI (soI t i), nI (boI t i), nI (t / 3 ^ i), nI i)) n ?_ (by omega) (fun i hi => ?_) ?_
    · show _ = (nI (soI t 0), nI (boI t 0), nI (t / 3 ^ 0), nI 0)
      rw [Nat.pow_zero, Nat.div_one]; rfl
    · show m_X3_holdsNumber_B10 (nI n) B (nI (soI t i)) (nI (boI t i)) (nI (t / 3 ^ i)) (nI i) = some (Sum.inl (nI (soI t (i + 1)), nI (boI t (i + 1)), nI (t / 3 ^ (i + 1)), nI (i + 1)))
      unfold m_X3_holdsNumber_B10 m_X3_holdsNumber_J46
      have hd : t / 3 ^ i < 729 := Nat.lt_of_le_of_lt (Nat.div_le_self _ _) (by omega)
      obtain ⟨e1, e2⟩ := hN_step _ hd
      have hdg : t / 3 ^ i % 3 = dg t i := rfl
      have hdl : dg t i < 3 := Nat.mod_lt _ (by omega)
      rw [e1, e2, if_neg (nI_ge hi (by omega)), Nat.div_div_eq_div_mul, ← Nat.pow_succ, hdg, shl1 (by omega)]
      simp only [nz3]
      simp only [show (0 : Int32) = nI 0 from rfl, fa_or, Nat.or_zero, show (2 : Int32) = nI 2 from rfl, nI_eq (show dg t i < 2 ^ 31 by omega) (show 2 < 2 ^ 31 by omega)]
      have hlt : (nI (dg t i) < 1) ↔ ¬ 1 ≤ dg t i := by
        rw [show (1 : Int32) = nI 1 from rfl, Int32.lt_iff_toInt_lt, nI_toInt (by omega), nI_toInt (by omega)]; omega
      simp only [hlt]
      rw [soI, soI, boI, boI, bsn_or, bsn_or, nI_1]
      by_cases q1 : 1 ≤ dg t i
      · by_cases q2 : dg t i = 2
        · simp [q2]
        · simp [q1, q2]
      · have q2 : ¬ dg t i = 2 := by omega
        have q3 : dg t i = 0 := by omega
        simp [q3]
    · show m_X3_holdsNumber_B10 (nI n) B (nI (soI t n)) (nI (boI t n)) _ (nI n) = _
      unfold m_X3_holdsNumber_B10
      rw [if_pos (nI_le (Nat.le_refl _) (by omega))]
  rw [hl, bd2_some, (so_n hn ht).1, (so_n hn ht).2, v_holdsRow h (sof_lt t) (bof_lt t), bd1_some, bo01, ← jb_hb hn (by omega)]
theorem o_jump {n : Nat} {M : Nat → Int64} {K : Nat → Int32} {N rows : Int32} {B : Nat → Int64} {J : Nat → Int32} (hn : n ≤ 6) (hV : VF n M K) (x1 x2 x3 : Int32) : ∃ r N' B' rows' J', m_X5_jump (nI n) M K N B x1 x2 x3 = some (r, N', B') ∧ m_X6_jump (nI n) rows M K J x1 x2 x3 = some (r, rows', J') := by
  have h6 := pow6 hn
  have h3 := p3_le n (by omega)
  have hpos : 0 < 3 ^ n := Nat.pow_pos (by omega)
  unfold m_X5_jump m_X5_jump_0 m_X6_jump m_X6_jump_0
  have hin : m_X6_isIn x3.toInt64 (0 : Int64) ((nI (3 ^ n) - 1).toInt64) = some (if fok (3 ^ n) x3 then 1 else 0) := by
    rw [v_isIn]
    have e : ((0 : Int64).toInt ≤ x3.toInt64.toInt ∧ x3.toInt64.toInt ≤ (nI (3 ^ n) - 1).toInt64.toInt) ↔ fok (3 ^ n) x3 = true := by
      rw [fok_iff, show (1 : Int32) = nI 1 from rfl, pk_sub (by omega), Int32.toInt_toInt64, Int32.toInt_toInt64, nI_toInt (by omega), show (0 : Int64).toInt = 0 from by decide]
      omega
    simp only [e]
  have e3 : ∀ A B : Option (Int32 × Int32 × (Nat → Int64)), (if x3 < 0 then A else if x3 < nI (3 ^ n) then B else A) = if fok (3 ^ n) x3 = true then B else A := fun A B => by
    simp only [Int32.lt_iff_toInt_lt, i0, nI_toInt (show 3 ^ n < 2 ^ 31 by omega), fok_iff]
    by_cases q1 : x3.toInt < 0
    · rw [if_pos q1, if_neg (by omega)]
    · rw [if_neg q1]
      by_cases q2 : x3.toInt < ((3 ^ n : Nat) : Int)
      · rw [if_pos q2, if_pos (by omega)]
      · rw [if_neg q2, if_neg (by omega)]
  simp only [v5_fam, v6_fam, bd1_some, q01, q10, v_three n (by omega), v_over n (by omega), hin, e3]
  by_cases h1 : fok 6 x1 = true
  case neg => exact ⟨-2, N, B, rows, J, by simp [h1], by simp [h1]⟩
  by_cases h2 : fok 6 x2 = true
  case neg => exact ⟨-2, N, B, rows, J, by simp [h1, h2], by simp [h1, h2]⟩
  by_cases h4 : fok (3 ^ n) x3 = true
  case neg => exact ⟨-2, N, B, rows, J, by simp [h1, h2, h4], by simp [h1, h2, h4]⟩
  obtain ⟨i, hi, rfl⟩ := fok_ex (by omega) h1
  obtain ⟨j, hj, rfl⟩ := fok_ex (by omega) h2
  obtain ⟨t, ht, rfl⟩ := fok_ex (by omega) h4
  obtain ⟨⟨a, ha, hA⟩, -⟩ := hV i hi
  obtain ⟨⟨b, hb, hB⟩, -⟩ := hV j hj
  have ha64 : a < 2 ^ 64 := Nat.lt_of_lt_of_le ha (pp6 hn)
  have hb64 : b < 2 ^ 64 := Nat.lt_of_lt_of_le hb (pp6 hn)
  simp only [h1, h2, h4, if_true, not_true, if_false, v5_missing hi, v5_missing hj, bd1_some, q10, ix_ok hi (show 6 < 2 ^ 31 by omega), ix_ok hj (show 6 < 2 ^ 31 by omega), nI_clamp (show i < 2 ^ 31 by omega), nI_clamp (show j < 2 ^ 31 by omega), hA, hB]
  by_cases k1 : K i = -1
  · exact ⟨-11, N, B, rows, J, by simp [k1], by simp [k1]⟩
  by_cases k2 : K j = -1
  · exact ⟨-11, N, B, rows, J, by simp [k1, k2], by simp [k1, k2]⟩
  simp only [k1, k2, not_false_eq_true, if_true, if_false]
  obtain ⟨B', f1, f2⟩ := v_fillS (B := B) (N := N) hn ha64 hb64
  obtain ⟨J', g1, g2⟩ := v_finds (J := J) (rows := rows) hn hi hj hA hB ha64 hb64
  rw [f1, bd2_some, v_holdsNumber hn f2 ht, bd1_some, g1, bd2_some, ix_ok (show t < 729 by omega) (by omega), nI_clamp (by omega), g2 t ht]
  cases jb n a b t
  · exact ⟨0, _, _, _, _, rfl, rfl⟩
  · exact ⟨1, _, _, _, _, rfl, rfl⟩
