/-! ===== pivot: the reference's loops, and the two tables ===== -/
theorem v_was {n : Nat} {sd : Int32} {T Q B P : Nat → Int32} {x1 : Int32} (U F : Nat → Int32) : gk_lp (fun z => m_X6_pivot_B24 (nI n) sd T Q B P x1 z.1 z.2.1 z.2.2) gk_fu ((0 : Int32), U, F) = some (fa_fill T U 36, fa_fill (fun _ => (0 : Int32)) F 36) := by
  refine ru (fun i => (nI i, fa_fill T U i, fa_fill (fun _ => (0 : Int32)) F i)) 36 ?_ (by omega) (fun i hi => ?_) ?_
  · show ((0 : Int32), U, F) = (nI 0, fa_fill T U 0, fa_fill (fun _ => (0 : Int32)) F 0)
    rw [fa_fill_0, fa_fill_0]; rfl
  · show m_X6_pivot_B24 (nI n) sd T Q B P x1 (nI i) (fa_fill T U i) (fa_fill (fun _ => (0 : Int32)) F i) = some (Sum.inl (nI (i + 1), fa_fill T U (i + 1), fa_fill (fun _ => (0 : Int32)) F (i + 1)))
    have e0 : upd (fa_fill (fun _ => (0 : Int32)) F i) i (0 : Int32) = fa_fill (fun _ => (0 : Int32)) F (i + 1) := fa_fill_succ (fun _ => (0 : Int32)) F i
    unfold m_X6_pivot_B24
    rw [if_neg (gel 36 hi), ix_ok hi (by omega), ix_ok hi (by omega), ix_ok hi (by omega), nI_clamp (by omega), fa_fill_succ, e0, nI_1]
  · show m_X6_pivot_B24 (nI n) sd T Q B P x1 (nI 36) (fa_fill T U 36) (fa_fill (fun _ => (0 : Int32)) F 36) = _
    unfold m_X6_pivot_B24
    rw [if_pos (lel 36 (by omega))]
/-- the inverse by points, laid below row i, of row i below x -/
def fuI (S : Nat) (B F : Nat → Int32) (i x : Nat) : Prop := ∀ a b, a < 6 → b < 6 → F (6 * a + b) = if S.testBit a = true ∧ S.testBit b = true ∧ (fb_ct S.testBit a < i ∨ fb_ct S.testBit a = i ∧ fb_ct S.testBit b < x) then B (6 * fb_ct S.testBit a + fb_ct S.testBit b) else 0
theorem fuI.step {S : Nat} {B F : Nat → Int32} {i x : Nat} (hS : S < 64) (hi : i < ct6 S) (hx : x < ct6 S) (h : fuI S B F i x) : fuI S B (upd F (6 * pt S i + pt S x) (B (6 * i + x))) i (x + 1) := fun a b ha hb => by
  have h6 := ct6_le6 S
  have p1 := (pt_lt S hS i (by omega)).resolve_left (by omega)
  have p2 := (pt_lt S hS x (by omega)).resolve_left (by omega)
  have q1 := (pt_in S hS i (by omega)).resolve_left (by omega)
  have q2 := (pt_in S hS x (by omega)).resolve_left (by omega)
  have r1 := (pt_rk S hS i (by omega)).resolve_left (by omega)
  have r2 := (pt_rk S hS x (by omega)).resolve_left (by omega)
  by_cases e : a = pt S i ∧ b = pt S x
  · obtain ⟨e1, e2⟩ := e
    rw [e1, e2, pk_us, r1, r2, if_pos ⟨q1, q2, Or.inr ⟨rfl, Nat.lt_succ_self x⟩⟩]
  · rw [pk_un (by omega), h a b ha hb]
    have hiff : (S.testBit a = true ∧ S.testBit b = true ∧ (fb_ct S.testBit a < i ∨ fb_ct S.testBit a = i ∧ fb_ct S.testBit b < x)) ↔ (S.testBit a = true ∧ S.testBit b = true ∧ (fb_ct S.testBit a < i ∨ fb_ct S.testBit a = i ∧ fb_ct S.testBit b < x + 1)) := by
      constructor
      · rintro ⟨z1, z2, z3⟩
        exact ⟨z1, z2, by omega⟩
      · rintro ⟨z1, z2, z3⟩
        refine ⟨z1, z2, ?_⟩
        have pa := (rk_pt S hS a ha).resolve_left (by rw [z1]; decide)
        have pb := (rk_pt S hS b hb).resolve_left (by rw [z2]; decide)
        rcases z3 with z | ⟨z, z'⟩
        · exact Or.inl z
        · refine Or.inr ⟨z, ?_⟩
          by_cases y : fb_ct S.testBit b = x
          · exact absurd ⟨by rw [← pa, z], by rw [← pb, y]⟩ e
          · omega
    simp only [hiff]
theorem v_full {n S : Nat} {T Q B P U F : Nat → Int32} {x1 : Int32} (hS : S < 64) (hP : ∀ j, j < ct6 S → P j = nI (pt S j)) (hF : ∀ q, q < 36 → F q = 0) : ∃ F', gk_lp (fun z => m_X6_pivot_B57 (nI n) (nI (ct6 S)) T Q B P U x1 z.1 z.2) gk_fu ((0 : Int32), F) = some F' ∧ fuI S B F' (ct6 S) 0 := by
  have h6 := ct6_le6 S
  obtain ⟨o, h1, h2⟩ := ruP (f := fun z => m_X6_pivot_B57 (nI n) (nI (ct6 S)) T Q B P U x1 z.1 z.2) (fun i z => z.1 = nI i ∧ fuI S B z.2 i 0) (fun o => fuI S B o (ct6 S) 0) (ct6 S) (s0 := ((0 : Int32), F)) (by omega) ⟨rfl, fun a b ha hb => by
      show F (6 * a + b) = _
      rw [hF _ (by omega), if_neg (fun z => by omega)]⟩ (by
    rintro i ⟨z, F⟩ hi ⟨rfl, hF⟩
    have hF : fuI S B F i 0 := hF
    show ∃ s', m_X6_pivot_B57 (nI n) (nI (ct6 S)) T Q B P U x1 (nI i) F = _ ∧ _
    obtain ⟨o, g1, g2⟩ := ruP (f := fun z => m_X6_pivot_B67 (nI n) (nI (ct6 S)) T Q B P U x1 (nI i) z.1 z.2) (fun x z => z.1 = nI x ∧ fuI S B z.2 i x) (fun o => fuI S B o (i + 1) 0) (ct6 S) (s0 := ((0 : Int32), F)) (by omega) ⟨rfl, hF⟩ (by
      rintro x ⟨z, F⟩ hx ⟨rfl, hF⟩
      have hF : fuI S B F i x := hF
      show ∃ s', m_X6_pivot_B67 (nI n) (nI (ct6 S)) T Q B P U x1 (nI i) (nI x) F = _ ∧ _
      have p1 := (pt_lt S hS i (by omega)).resolve_left (by omega)
      have p2 := (pt_lt S hS x (by omega)).resolve_left (by omega)
      refine ⟨(nI (x + 1), upd F (6 * pt S i + pt S x) (B (6 * i + x))), ?_, rfl, hF.step hS hi hx⟩
      unfold m_X6_pivot_B67
      rw [if_neg (nI_ge hx (by omega)), ix_ok (show i < 6 by omega) (by omega), ix_ok (show x < 6 by omega) (by omega), nI_clamp (by omega), nI_clamp (by omega), hP i hi, hP x hx, ixy p1 p2, ixy (show i < 6 by omega) (show x < 6 by omega)]
      simp only [ix_ok (show 6 * pt S i + pt S x < 36 by omega) (show 36 < 2 ^ 31 by omega), ix_ok (show 6 * i + x < 36 by omega) (show 36 < 2 ^ 31 by omega), nI_clamp (show 6 * pt S i + pt S x < 2 ^ 31 by omega), nI_clamp (show 6 * i + x < 2 ^ 31 by omega), nI_1]) (by
      rintro ⟨z, F⟩ ⟨rfl, hF⟩
      have hF : fuI S B F i (ct6 S) := hF
      refine ⟨F, ?_, fun a b ha hb => ?_⟩
      · show m_X6_pivot_B67 (nI n) (nI (ct6 S)) T Q B P U x1 (nI i) (nI (ct6 S)) F = _
        unfold m_X6_pivot_B67
        rw [if_pos (nI_le (Nat.le_refl _) (by omega))]
      · rw [hF a b ha hb]
        have hiff : (S.testBit a = true ∧ S.testBit b = true ∧ (fb_ct S.testBit a < i ∨ fb_ct S.testBit a = i ∧ fb_ct S.testBit b < ct6 S)) ↔ (S.testBit a = true ∧ S.testBit b = true ∧ (fb_ct S.testBit a < i + 1 ∨ fb_ct S.testBit a = i + 1 ∧ fb_ct S.testBit b < 0)) := by
          constructor
          · rintro ⟨z1, z2, z3⟩
            exact ⟨z1, z2, by omega⟩
          · rintro ⟨z1, z2, z3⟩
            have rb := (rk_lt S hS b hb).resolve_left (by rw [z2]; decide)
            exact ⟨z1, z2, by omega⟩
        simp only [hiff])
    refine ⟨(nI (i + 1), o), ?_, rfl, g2⟩
    unfold m_X6_pivot_B57
    rw [if_neg (nI_ge hi (by omega))]
    show gk_bd1 (gk_lp (fun z => m_X6_pivot_B67 (nI n) (nI (ct6 S)) T Q B P U x1 (nI i) z.1 z.2) gk_fu ((0 : Int32), F)) _ = _
    rw [g1, nI_1]
    rfl) (by
    rintro ⟨z, F⟩ ⟨rfl, hF⟩
    refine ⟨F, ?_, hF⟩
    show m_X6_pivot_B57 (nI n) (nI (ct6 S)) T Q B P U x1 (nI (ct6 S)) F = _
    unfold m_X6_pivot_B57
    rw [if_pos (nI_le (Nat.le_refl _) (by omega))])
  exact ⟨o, h1, h2⟩
theorem full_EN {S : Nat} {B F : Nat → Int32} {D : Nat → Nat → F7} (hS : S < 64) (hB : PM B (ct6 S) D) (hF : fuI S B F (ct6 S) 0) : EN F (fuM S D) := fun a b ha hb => by
  rw [hF a b ha hb]
  unfold fuM
  by_cases e : S.testBit a = true ∧ S.testBit b = true
  · have ra := (rk_lt S hS a ha).resolve_left (by rw [e.1]; decide)
    have rb := (rk_lt S hS b hb).resolve_left (by rw [e.2]; decide)
    rw [if_pos ⟨e.1, e.2, Or.inl ra⟩, if_pos e]
    exact hB _ _ ra rb
  · rw [if_neg (fun z => e ⟨z.1, z.2.1⟩), if_neg e]
    exact ⟨0, by omega, rfl, rfl⟩
/-- the table, new below row i, of row i below x -/
def twI (S n : Nat) (FU M : Nat → Nat → F7) (T0 T : Nat → Int32) (i x : Nat) : Prop := (∀ q, 36 ≤ q → T q = T0 q) ∧ ∀ a b, a < 6 → b < 6 → ((a < n ∧ b < n ∧ (a < i ∨ a = i ∧ b < x)) → ∃ t : Nat, t < 7 ∧ T (6 * a + b) = nI t ∧ ph t = nw6 S FU M a b) ∧ (¬ (a < n ∧ b < n ∧ (a < i ∨ a = i ∧ b < x)) → T (6 * a + b) = T0 (6 * a + b))
theorem twI.step {S n : Nat} {FU M : Nat → Nat → F7} {T0 T : Nat → Int32} {i x t : Nat} (hn : n ≤ 6) (hi : i < n) (hx : x < n) (h : twI S n FU M T0 T i x) (ht : t < 7) (hp : ph t = nw6 S FU M i x) : twI S n FU M T0 (upd T (6 * i + x) (nI t)) i (x + 1) := by
  refine ⟨fun q hq => by rw [pk_un (by omega)]; exact h.1 q hq, fun a b ha hb => ?_⟩
  by_cases e : a = i ∧ b = x
  · obtain ⟨e1, e2⟩ := e
    subst e1 e2
    exact ⟨fun _ => ⟨t, ht, pk_us, hp⟩, fun z => (z (by omega)).elim⟩
  · obtain ⟨h1, h2⟩ := h.2 a b ha hb
    rw [pk_un (by omega)]
    exact ⟨fun z => h1 (by omega), fun z => h2 (by omega)⟩
theorem v_cell {n S i j : Nat} {sd : Int32} {T Q B P U F : Nat → Int32} {M FU : Nat → Nat → F7} (hn : n ≤ 6) (hS : S < 64) (hi : i < n) (hj : j < n) (hU : EN U M) (hF : EN F FU) (hz : ∀ a b, a < 6 → b < 6 → (n ≤ a ∨ n ≤ b) → M a b = 0) : ∃ t : Nat, t < 7 ∧ ph t = nw6 S FU M i j ∧ m_X6_pivot_B131 (nI n) sd Q B P U F (nI S) (nI i) (nI j) T = some (Sum.inl (nI (j + 1), upd T (6 * i + j) (nI t))) := by
  have hi6 : i < 6 := by omega
  have hj6 : j < 6 := by omega
  have hJ : ∀ v, m_X6_pivot_J228 (nI n) sd T Q B P U F (nI S) (nI i) (nI j) v = some (Sum.inl (nI (j + 1), upd T (6 * i + j) v)) := fun v => by
    unfold m_X6_pivot_J228
    rw [ixy hi6 hj6, ix_ok (show 6 * i + j < 36 by omega) (by omega), nI_clamp (by omega), nI_1]
  have bi : ((nI S >>> (nI i &&& 31)) &&& (1 : Int32) = 1) = (S.testBit i = true) := propext (bitI1 (by omega) (by omega))
  have bj : ((nI S >>> (nI j &&& 31)) &&& (1 : Int32) = 1) = (S.testBit j = true) := propext (bitI1 (by omega) (by omega))
  have n10 : ((1 : Int32) = 0) = False := eq_false (by decide)
  have n00 : ((0 : Int32) = 0) = True := eq_true rfl
  unfold m_X6_pivot_B131 m_X6_pivot_J153 m_X6_pivot_J169
  rw [if_neg (nI_ge hj (by omega))]
  simp only [bi, bj, n10, n00, if_true, if_false, hJ]
  cases hib : S.testBit i with
  | false =>
    cases hjb : S.testBit j with
    | false =>
      obtain ⟨t, t1, t2, t3⟩ := v_rest hn hi6 hj6 hU hF hz
      refine ⟨t, t1, ?_, ?_⟩
      · rw [t3]; unfold nw6; simp only [hib, hjb, Bool.false_eq_true, if_false]
      · simp only [Bool.false_eq_true, if_false]
        rw [t2, bd1_some]
    | true =>
      obtain ⟨t, t1, t2, t3⟩ := v_timesB hn hi6 hj6 hU hF (fun a b ha hb h => hz a b ha hb (Or.inr h))
      refine ⟨t, t1, ?_, ?_⟩
      · rw [t3]; unfold nw6; simp only [hib, hjb, Bool.false_eq_true, if_false, if_true]
      · simp only [Bool.false_eq_true, if_false, if_true]
        rw [t2, bd1_some]
  | true =>
    cases hjb : S.testBit j with
    | false =>
      obtain ⟨t, t1, t2, t3⟩ := v_times hn hi6 hj6 hU hF (fun a b ha hb h => hz a b ha hb (Or.inl h))
      obtain ⟨u, u1, u2, u3⟩ := modneg t1
      refine ⟨u, u1, ?_, ?_⟩
      · rw [u3, t3]; unfold nw6; simp only [hib, hjb, Bool.false_eq_true, if_false, if_true]
      · simp only [Bool.false_eq_true, if_false, if_true]
        rw [t2, bd1_some, u2, bd1_some]
    | true =>
      obtain ⟨t, t1, t2, t3⟩ := hF i j hi6 hj6
      refine ⟨t, t1, ?_, ?_⟩
      · rw [t3]; unfold nw6; simp only [hib, hjb, if_true]
      · simp only [if_true]
        rw [ixy hi6 hj6, ix_ok (show 6 * i + j < 36 by omega) (by omega), nI_clamp (by omega), t2]
theorem v_new {n S : Nat} {sd : Int32} {T Q B P U F : Nat → Int32} {M FU : Nat → Nat → F7} (hn : n ≤ 6) (hS : S < 64) (hU : EN U M) (hF : EN F FU) (hz : ∀ a b, a < 6 → b < 6 → (n ≤ a ∨ n ≤ b) → M a b = 0) : ∃ T', gk_lp (fun z => m_X6_pivot_B121 (nI n) sd Q B P U F (nI S) z.1 z.2) gk_fu ((0 : Int32), T) = some T' ∧ twI S n FU M T T' n 0 := by
  obtain ⟨o, h1, h2⟩ := ruP (f := fun z => m_X6_pivot_B121 (nI n) sd Q B P U F (nI S) z.1 z.2) (fun i z => z.1 = nI i ∧ twI S n FU M T z.2 i 0) (fun o => twI S n FU M T o n 0) n (s0 := ((0 : Int32), T)) (by omega) ⟨rfl, fun _ _ => rfl, fun a b ha hb => ⟨fun z => by omega, fun _ => rfl⟩⟩ (by
    rintro i ⟨z, T1⟩ hi ⟨rfl, hI⟩
    have hI : twI S n FU M T T1 i 0 := hI
    show ∃ s', m_X6_pivot_B121 (nI n) sd Q B P U F (nI S) (nI i) T1 = _ ∧ _
    obtain ⟨o, g1, g2⟩ := ruP (f := fun z => m_X6_pivot_B131 (nI n) sd Q B P U F (nI S) (nI i) z.1 z.2) (fun x z => z.1 = nI x ∧ twI S n FU M T z.2 i x) (fun o => twI S n FU M T o (i + 1) 0) n (s0 := ((0 : Int32), T1)) (by omega) ⟨rfl, hI⟩ (by
      rintro x ⟨z, T2⟩ hx ⟨rfl, hI⟩
      have hI : twI S n FU M T T2 i x := hI
      show ∃ s', m_X6_pivot_B131 (nI n) sd Q B P U F (nI S) (nI i) (nI x) T2 = _ ∧ _
      obtain ⟨t, t1, t2, t3⟩ := v_cell (sd := sd) (T := T2) (Q := Q) (B := B) (P := P) hn hS hi hx hU hF hz
      exact ⟨_, t3, rfl, hI.step hn hi hx t1 t2⟩) (by
      rintro ⟨z, T2⟩ ⟨rfl, hI⟩
      have hI : twI S n FU M T T2 i n := hI
      refine ⟨T2, ?_, hI.1, fun a b ha hb => ?_⟩
      · show m_X6_pivot_B131 (nI n) sd Q B P U F (nI S) (nI i) (nI n) T2 = _
        unfold m_X6_pivot_B131
        rw [if_pos (nI_le (Nat.le_refl _) (by omega))]
      · obtain ⟨z1, z2⟩ := hI.2 a b ha hb
        exact ⟨fun z => z1 (by omega), fun z => z2 (by omega)⟩)
    refine ⟨(nI (i + 1), o), ?_, rfl, g2⟩
    unfold m_X6_pivot_B121
    rw [if_neg (nI_ge hi (by omega))]
    show gk_bd1 (gk_lp (fun z => m_X6_pivot_B131 (nI n) sd Q B P U F (nI S) (nI i) z.1 z.2) gk_fu ((0 : Int32), T1)) _ = _
    rw [g1, nI_1]
    rfl) (by
    rintro ⟨z, T1⟩ ⟨rfl, hI⟩
    refine ⟨T1, ?_, hI⟩
    show m_X6_pivot_B121 (nI n) sd Q B P U F (nI S) (nI n) T1 = _
    unfold m_X6_pivot_B121
    rw [if_pos (nI_le (Nat.le_refl _) (by omega))])
  exact ⟨o, h1, h2⟩
theorem nw6_out {n S : Nat} {FU M : Nat → Nat → F7} (hS : S < 2 ^ n) (hz : ∀ a b, a < 6 → b < 6 → (n ≤ a ∨ n ≤ b) → M a b = 0) {a b : Nat} (ha : a < 6) (hb : b < 6) (h : n ≤ a ∨ n ≤ b) : nw6 S FU M a b = 0 := by
  unfold nw6
  by_cases h1 : n ≤ a
  · have sa : S.testBit a = false := tb_hi hS h1
    have z1 : s6 (fun q => M a q * FU q b) = 0 := s6_0 (fun q hq => by rw [hz a q ha hq (Or.inl h1)]; grind)
    have z2 : s6 (fun q => M a q * tiM FU M q b) = 0 := s6_0 (fun q hq => by rw [hz a q ha hq (Or.inl h1)]; grind)
    rw [sa, z1, z2, hz a b ha hb (Or.inl h1)]
    cases S.testBit b
    · simp only [Bool.false_eq_true, if_false]; grind
    · simp only [Bool.false_eq_true, if_false, if_true]
  · have h2 : n ≤ b := h.resolve_left h1
    have sb : S.testBit b = false := tb_hi hS h2
    have z1 : ∀ c, tiM FU M c b = 0 := fun c => s6_0 (fun q hq => by rw [hz q b hq hb (Or.inr h2)]; grind)
    have z2 : s6 (fun q => M a q * tiM FU M q b) = 0 := s6_0 (fun q hq => by rw [z1]; grind)
    rw [sb, z2, z1, hz a b ha hb (Or.inr h2)]
    cases S.testBit a
    · simp only [Bool.false_eq_true, if_false]; grind
    · simp only [Bool.false_eq_true, if_false, if_true]; grind
theorem ph_sum : ∀ a : Nat, a < 7 → ∀ b : Nat, b < 7 → ph (a : Int) = - ph (b : Int) → (a + b) % 7 = 0 := by decide +kernel
theorem VT.of {n : Nat} {T : Nat → Int32} (h : TB T) (hz : ∀ i j, i < 6 → j < 6 → (n ≤ i ∨ n ≤ j) → mt T i j = 0) : VT n T := by
  refine ⟨fun i j => (T (6 * i + j)).toInt.toNat, fun i j hi hj => ?_⟩
  obtain ⟨⟨t, t1, t2⟩, e⟩ := h i j hi hj
  obtain ⟨⟨s, s1, s2⟩, -⟩ := h j i hj hi
  have et : (T (6 * i + j)).toInt.toNat = t := by rw [t2, nI_toInt (by omega)]; omega
  have es : (T (6 * j + i)).toInt.toNat = s := by rw [s2, nI_toInt (by omega)]; omega
  show T (6 * i + j) = nI (T (6 * i + j)).toInt.toNat ∧ (T (6 * i + j)).toInt.toNat < 7 ∧ ((T (6 * i + j)).toInt.toNat + (T (6 * j + i)).toInt.toNat) % 7 = 0 ∧ (n ≤ i → (T (6 * i + j)).toInt.toNat = 0) ∧ (n ≤ j → (T (6 * i + j)).toInt.toNat = 0)
  rw [et, es]
  rw [mt_nI t2 t1, mt_nI s2 s1] at e
  refine ⟨t2, t1, ph_sum t t1 s s1 e, fun y => ?_, fun y => ?_⟩
  · have z := hz i j hi hj (Or.inl y)
    rw [mt_nI t2 t1] at z
    exact ph_inj t1 (by omega) z
  · have z := hz i j hi hj (Or.inr y)
    rw [mt_nI t2 t1] at z
    exact ph_inj t1 (by omega) z
theorem TB.en {T U : Nat → Int32} (h : TB T) : EN (fa_fill T U 36) (mt T) := fun i j hi hj => by
  obtain ⟨⟨t, t1, t2⟩, -⟩ := h i j hi hj
  exact ⟨t, t1, by rw [fa_fill_in (by omega)]; exact t2, (mt_nI t2 t1).symm⟩
theorem two_tab {n S : Nat} {T T5 T6 : Nat → Int32} {D : Nat → Nat → F7} (hn : n ≤ 6) (hS : S < 2 ^ n) (hT : VT n T) (hT5 : TB T5) (h36 : ∀ q, 36 ≤ q → T5 q = T q) (hgr : ∀ u v, GR (mt T5) u v → GR (mt T) (mx S u v) (mx S v u)) (hD : ∀ i j, i < ct6 S → j < ct6 S → mul0 (ct6 S) D (A0 S (mt T)) i j = if i = j then 1 else 0) (hT6 : twI S n (fuM S D) (mt T) T T6 n 0) : T6 = T5 ∧ VT n T5 := by
  have h6 := pow6 hn
  have hS6 : S < 64 := by omega
  have hz := hT.tb.2
  have hfz : ∀ a b, a < 6 → b < 6 → (S.testBit a = false ∨ S.testBit b = false) → fuM S D a b = 0 := fun a b _ _ h => by
    unfold fuM
    rw [if_neg (fun z => by rcases h with h | h <;> simp [h] at z)]
  have hm : ∀ a b, a < 6 → b < 6 → mt T5 a b = nw6 S (fuM S D) (mt T) a b := fun a b ha hb =>
    tab_eq hgr (fun x y hxy => nw6_gr hfz (fun a b ha hb sa sb => fu_inv hS6 hD ha hb sa sb) hxy) ha hb
  refine ⟨funext fun q => ?_, VT.of hT5 (fun a b ha hb h => by rw [hm a b ha hb]; exact nw6_out hS hz ha hb h)⟩
  by_cases hq : q < 36
  · obtain ⟨a, b, ha, hb, rfl⟩ : ∃ a b, a < 6 ∧ b < 6 ∧ q = 6 * a + b := ⟨q / 6, q % 6, by omega, by omega, by omega⟩
    obtain ⟨⟨t, t1, t2⟩, -⟩ := hT5 a b ha hb
    have et := hm a b ha hb
    rw [mt_nI t2 t1] at et
    obtain ⟨z1, z2⟩ := hT6.2 a b ha hb
    by_cases hin : a < n ∧ b < n
    · obtain ⟨u, u1, u2, u3⟩ := z1 ⟨hin.1, hin.2, Or.inl hin.1⟩
      rw [u2, t2, ph_inj u1 t1 (by rw [u3, et])]
    · have ho : n ≤ a ∨ n ≤ b := by omega
      rw [z2 (by omega), t2]
      obtain ⟨⟨u, u1, u2⟩, -⟩ := hT.tb.1 a b ha hb
      have eu := hz a b ha hb ho
      rw [mt_nI u2 u1] at eu
      rw [nw6_out hS hz ha hb ho] at et
      rw [u2, ph_inj u1 t1 (by rw [eu, et])]
  · rw [hT6.1 q (by omega), h36 q (by omega)]
theorem o_pivot {n : Nat} {T R Q B P U F : Nat → Int32} {sd : Int32} (hn : n ≤ 6) (hT : VT n T) (x1 : Int32) : ∃ r T' R' sd' Q' B' P' U' F', m_X5_pivot (nI n) T R x1 = some (r, T', R') ∧ m_X6_pivot (nI n) sd T Q B P U F x1 = some (r, sd', T', Q', B', P', U', F') ∧ VT n T' := by
  have h6 := pow6 hn
  unfold m_X5_pivot m_X5_pivot_0 m_X6_pivot m_X6_pivot_0
  simp only [v5_set hn, v6_set hn, bd1_some, q01, q10]
  by_cases h1 : fok (2 ^ n) x1 = true
  case neg => exact ⟨-2, T, R, sd, Q, B, P, U, F, by simp [h1], by simp [h1], hT⟩
  obtain ⟨S, hS, rfl⟩ := fok_ex (by omega) h1
  have hS6 : S < 64 := by omega
  obtain ⟨d, R', a1, a2, a3⟩ := v_deter (R := R) hT.tb.1 hS6
  obtain ⟨e, Q', B', P', b1, b2, b3, b4⟩ := v_wholeOf (sd := sd) (Q := Q) (B := B) (P := P) hT.tb.1 hn hS
  have hde : e = d := ph_inj b2 a2 (by rw [a3, b3])
  subst hde
  simp only [h1, if_true, not_true, if_false]
  rw [a1, b1, bd2_some, bd5_some]
  by_cases q : e = 0
  · subst q
    rw [if_pos (show nI 0 = 0 from rfl), if_pos (show nI 0 = 0 from rfl)]
    exact ⟨-3, T, R', nI (ct6 S), Q', B', P', U, F, rfl, rfl, hT⟩
  · have q' : ¬ nI e = 0 := fun z => q (by
      rw [show (0 : Int32) = nI 0 from rfl, nI_eq (by omega) (by omega)] at z
      exact z)
    rw [if_neg q', if_neg q']
    obtain ⟨pr, T5, c1, c2, c3, c4⟩ := v_pivotOn hT.tb.1 hS6
    have hpr : pr = e := ph_inj c2 a2 (by rw [c3, a3])
    obtain ⟨c5, c6, c7⟩ := c4 (by rw [hpr]; exact q)
    obtain ⟨D, d1, d2, d3⟩ := b4 q
    rw [c1, bd2_some, v5_notZero, bd1_some, v_was, bd2_some]
    obtain ⟨F6, f1, f2⟩ := v_full (n := n) (T := T) (Q := Q') (B := B') (P := P') (U := fa_fill T U 36) (F := fa_fill (fun _ => (0 : Int32)) F 36) (x1 := nI S) hS6 d2 (fun q hq => fa_fill_in hq)
    rw [f1, bd1_some]
    obtain ⟨T6, g1, g2⟩ := v_new (sd := nI (ct6 S)) (T := T) (Q := Q') (B := B') (P := P') hn hS6 (hT.tb.1.en (U := U)) (full_EN hS6 d1 f2) hT.tb.2
    rw [g1, bd1_some, v6_entries, bd1_some]
    obtain ⟨heq, hV⟩ := two_tab hn hS hT c5 c6 c7 d3 g2
    subst heq
    exact ⟨_, T6, R', nI (ct6 S), Q', B', P', _, F6, rfl, rfl, hV⟩
