/-! ===== the reference's determinant ===== -/
theorem inv_all : ∀ t, t < 7 → (t = 0 ∨ (∃ w, w < 7 ∧ m_X6_inverse (nI t) = some (nI w) ∧ t * w % 7 = 1)) := by decide +kernel
theorem inv6 {t : Nat} (ht : t < 7) (h0 : t ≠ 0) : ∃ w, w < 7 ∧ m_X6_inverse (nI t) = some (nI w) ∧ ph t * ph w = 1 := by
  obtain ⟨w, h1, h2, h3⟩ := (inv_all t ht).resolve_left h0
  refine ⟨w, h1, h2, ?_⟩
  rw [← ph_mul, ← Int.natCast_mul, ← ph_mod, h3]
  rfl
/-! loading -/
theorem v_load1 {n S : Nat} {T Q B P : Nat → Int32} (hn : n ≤ 6) (hS : S < 2 ^ n) : ∃ P', gk_lp (fun z => m_X6_loads_B7 (nI n) T Q B (nI S) z.1 z.2.1 z.2.2) gk_fu ((0 : Int32), (0 : Int32), P) = some (nI (ct6 S), P') ∧ ∀ j, j < ct6 S → P' j = nI (pt S j) := by
  have h6 := pow6 hn
  have hS64 : S < 64 := by omega
  obtain ⟨o, h1, h2⟩ := ruP (f := fun z => m_X6_loads_B7 (nI n) T Q B (nI S) z.1 z.2.1 z.2.2) (fun p z => z.1 = nI p ∧ z.2.1 = nI (fb_ct S.testBit p) ∧ ∀ q, q < p → S.testBit q = true → z.2.2 (fb_ct S.testBit q) = nI q) (fun o => o.1 = nI (ct6 S) ∧ ∀ j, j < ct6 S → o.2 j = nI (pt S j)) n (s0 := ((0 : Int32), (0 : Int32), P)) (by omega) ⟨rfl, rfl, fun q hq => absurd hq (Nat.not_lt_zero _)⟩ (by
    rintro p ⟨z, y, P⟩ hp ⟨rfl, rfl, hP⟩
    show ∃ s', m_X6_loads_B7 (nI n) T Q B (nI S) (nI p) (nI (fb_ct S.testBit p)) P = _ ∧ _
    have hP : ∀ q, q < p → S.testBit q = true → P (fb_ct S.testBit q) = nI q := hP
    unfold m_X6_loads_B7
    rw [if_neg (nI_ge hp (by omega)), nI_1]
    have hb0 := bitI0 (show S < 2 ^ 31 by omega) (show p < 31 by omega)
    cases hb : S.testBit p with
    | false =>
      rw [if_pos (hb0.mpr hb)]
      refine ⟨_, rfl, rfl, ?_, fun q hq hqb => ?_⟩
      · show nI (fb_ct S.testBit p) = nI (fb_ct S.testBit (p + 1))
        rw [fb_ct_succ, hb]; rfl
      · have : q ≠ p := fun z => by rw [z, hb] at hqb; cases hqb
        exact hP q (by omega) hqb
    | true =>
      have hlt := (rk_lt S hS64 p (by omega)).resolve_left (by rw [hb]; decide)
      have := ct6_le6 S
      rw [if_neg (fun z => by rw [hb0.mp z] at hb; cases hb), ix_ok (show fb_ct S.testBit p < 6 by omega) (by omega), nI_clamp (by omega), nI_1]
      refine ⟨_, rfl, rfl, ?_, fun q hq hqb => ?_⟩
      · show nI (fb_ct S.testBit p + 1) = nI (fb_ct S.testBit (p + 1))
        rw [fb_ct_succ, hb]; rfl
      · show upd P (fb_ct S.testBit p) (nI p) (fb_ct S.testBit q) = nI q
        by_cases e : q = p
        · rw [e, pk_us]
        · rw [pk_un (fun z => e (fb_ct_kth_one hqb hb z))]
          exact hP q (by omega) hqb) (by
    rintro ⟨z, y, P⟩ ⟨rfl, rfl, hP⟩
    have hct : fb_ct S.testBit n = ct6 S := by
      have := fb_ct_split S.testBit n (6 - n)
      rw [show n + (6 - n) = 6 by omega] at this
      unfold ct6
      rw [this, fb_ct_zero.mpr (fun q _ => show S.testBit (n + q) = false from tb_hi hS (by omega)), Nat.add_zero]
    refine ⟨(nI (fb_ct S.testBit n), P), ?_, by rw [hct], fun j hj => ?_⟩
    · show m_X6_loads_B7 (nI n) T Q B (nI S) (nI n) (nI (fb_ct S.testBit n)) P = _
      unfold m_X6_loads_B7
      rw [if_pos (nI_le (Nat.le_refl _) (by omega))]
    · have h6' := ct6_le6 S
      have z1 := (pt_in S hS64 j (by omega)).resolve_left (by omega)
      have z2 := (pt_rk S hS64 j (by omega)).resolve_left (by omega)
      have z3 : pt S j < n := Nat.lt_of_not_le (fun z => by rw [tb_hi hS z] at z1; cases z1)
      have := hP (pt S j) z3 z1
      rw [z2] at this
      exact this)
  exact ⟨o.2, by rw [h1, ← h2.1], h2.2⟩
def A0 (S : Nat) (M : Nat → Nat → F7) : Nat → Nat → F7 := fun i j => M (pt S i) (pt S j)
def idM : Nat → Nat → F7 := fun i j => if i = j then 1 else 0
/-- rows below i, of row i the columns below x -/
def PMx (Q : Nat → Int32) (k i x : Nat) (A : Nat → Nat → F7) : Prop := ∀ a j, a < k → j < k → (a < i ∨ a = i ∧ j < x) → ∃ t, t < 7 ∧ Q (6 * a + j) = nI t ∧ ph t = A a j
theorem PMx.set {Q : Nat → Int32} {k i x t : Nat} {A : Nat → Nat → F7} (hk : k ≤ 6) (hi : i < k) (hx : x < k) (h : PMx Q k i x A) (ht : t < 7) (hA : ph t = A i x) : PMx (upd Q (6 * i + x) (nI t)) k i (x + 1) A := fun a j ha hj hlt => by
  by_cases e : a = i ∧ j = x
  · obtain ⟨rfl, rfl⟩ := e
    exact ⟨t, ht, by rw [pk_us], hA⟩
  · obtain ⟨s, h1, h2, h3⟩ := h a j ha hj (by omega)
    exact ⟨s, h1, by rw [pk_un (by omega)]; exact h2, h3⟩
theorem v_load2 {n S : Nat} {T Q B P : Nat → Int32} (hT : TB T) (hn : n ≤ 6) (hS : S < 64) (hP : ∀ j, j < ct6 S → P j = nI (pt S j)) : ∃ Q' B', gk_lp (fun z => m_X6_loads_B54 (nI n) (nI (ct6 S)) T P z.1 z.2.1 z.2.2) gk_fu ((0 : Int32), Q, B) = some (Q', B') ∧ PM Q' (ct6 S) (A0 S (mt T)) ∧ PM B' (ct6 S) idM := by
  have h6 := ct6_le6 S
  obtain ⟨o, h1, h2⟩ := ruP (f := fun z => m_X6_loads_B54 (nI n) (nI (ct6 S)) T P z.1 z.2.1 z.2.2) (fun i z => z.1 = nI i ∧ PMx z.2.1 (ct6 S) i 0 (A0 S (mt T)) ∧ PMx z.2.2 (ct6 S) i 0 idM) (fun o => PM o.1 (ct6 S) (A0 S (mt T)) ∧ PM o.2 (ct6 S) idM) (ct6 S) (s0 := ((0 : Int32), Q, B)) (by omega) ⟨rfl, fun a j _ _ h => by omega, fun a j _ _ h => by omega⟩ (by
    rintro i ⟨z, Q, B⟩ hi ⟨rfl, hQ, hB⟩
    show ∃ s', m_X6_loads_B54 (nI n) (nI (ct6 S)) T P (nI i) Q B = _ ∧ _
    obtain ⟨o, g1, g2⟩ := ruP (f := fun z => m_X6_loads_B64 (nI n) (nI (ct6 S)) T P (nI i) z.1 z.2.1 z.2.2) (fun x z => z.1 = nI x ∧ PMx z.2.1 (ct6 S) i x (A0 S (mt T)) ∧ PMx z.2.2 (ct6 S) i x idM) (fun o => PMx o.1 (ct6 S) (i + 1) 0 (A0 S (mt T)) ∧ PMx o.2 (ct6 S) (i + 1) 0 idM) (ct6 S) (s0 := ((0 : Int32), Q, B)) (by omega) ⟨rfl, hQ, hB⟩ (by
      rintro x ⟨z, Q, B⟩ hx ⟨rfl, hQ, hB⟩
      have hQ : PMx Q (ct6 S) i x (A0 S (mt T)) := hQ
      have hB : PMx B (ct6 S) i x idM := hB
      show ∃ s', m_X6_loads_B64 (nI n) (nI (ct6 S)) T P (nI i) (nI x) Q B = _ ∧ _
      have p1 := (pt_lt S hS i (by omega)).resolve_left (by omega)
      have p2 := (pt_lt S hS x (by omega)).resolve_left (by omega)
      obtain ⟨⟨t, t1, t2⟩, -⟩ := hT (pt S i) (pt S x) p1 p2
      unfold m_X6_loads_B64
      have e1 : (nI i = nI x) = (i = x) := propext (nI_eq (by omega) (by omega))
      rw [if_neg (nI_ge hx (by omega)), ix_ok (show i < 6 by omega) (by omega), ix_ok (show x < 6 by omega) (by omega), nI_clamp (by omega), nI_clamp (by omega), hP i hi, hP x hx, ixy p1 p2, ixy (show i < 6 by omega) (show x < 6 by omega)]
      simp only [ix_ok (show 6 * pt S i + pt S x < 36 by omega) (show 36 < 2 ^ 31 by omega), ix_ok (show 6 * i + x < 36 by omega) (show 36 < 2 ^ 31 by omega), nI_clamp (show 6 * pt S i + pt S x < 2 ^ 31 by omega), nI_clamp (show 6 * i + x < 2 ^ 31 by omega), t2, e1, nI_1]
      have s1 := hQ.set h6 hi hx t1 (show ph t = A0 S (mt T) i x from (mt_nI t2 t1).symm)
      by_cases q : i = x
      · exact ⟨(nI (x + 1), upd Q (6 * i + x) (nI t), upd B (6 * i + x) (nI 1)), by rw [if_pos q]; rfl, rfl, s1, hB.set h6 hi hx (by omega) (by unfold idM; rw [if_pos q]; rfl)⟩
      · exact ⟨(nI (x + 1), upd Q (6 * i + x) (nI t), upd B (6 * i + x) (nI 0)), by rw [if_neg q]; rfl, rfl, s1, hB.set h6 hi hx (by omega) (by unfold idM; rw [if_neg q]; rfl)⟩) (by
      rintro ⟨z, Q, B⟩ ⟨rfl, hQ, hB⟩
      refine ⟨(Q, B), ?_, fun a j ha hj hlt => hQ a j ha hj (by omega), fun a j ha hj hlt => hB a j ha hj (by omega)⟩
      show m_X6_loads_B64 (nI n) (nI (ct6 S)) T P (nI i) (nI (ct6 S)) Q B = _
      unfold m_X6_loads_B64
      rw [if_pos (nI_le (Nat.le_refl _) (by omega))])
    refine ⟨(nI (i + 1), o.1, o.2), ?_, rfl, g2.1, g2.2⟩
    unfold m_X6_loads_B54
    rw [if_neg (nI_ge hi (by omega))]
    show gk_bd2 (gk_lp (fun z => m_X6_loads_B64 (nI n) (nI (ct6 S)) T P (nI i) z.1 z.2.1 z.2.2) gk_fu ((0 : Int32), Q, B)) _ = _
    rw [g1, nI_1]
    rfl) (by
    rintro ⟨z, Q, B⟩ ⟨rfl, hQ, hB⟩
    refine ⟨(Q, B), ?_, fun a j ha hj => hQ a j ha hj (by omega), fun a j ha hj => hB a j ha hj (by omega)⟩
    show m_X6_loads_B54 (nI n) (nI (ct6 S)) T P (nI (ct6 S)) Q B = _
    unfold m_X6_loads_B54
    rw [if_pos (nI_le (Nat.le_refl _) (by omega))])
  exact ⟨o.1, o.2, h1, h2.1, h2.2⟩
theorem v_loads {n S : Nat} {sd : Int32} {T Q B P : Nat → Int32} (hT : TB T) (hn : n ≤ 6) (hS : S < 2 ^ n) : ∃ Q' B' P', m_X6_loads (nI n) sd T Q B P (nI S) = some (nI (ct6 S), Q', B', P') ∧ PM Q' (ct6 S) (A0 S (mt T)) ∧ PM B' (ct6 S) idM ∧ ∀ j, j < ct6 S → P' j = nI (pt S j) := by
  have h6 := pow6 hn
  obtain ⟨P', a1, a2⟩ := v_load1 (T := T) (Q := Q) (B := B) (P := P) hn hS
  obtain ⟨Q', B', b1, b2, b3⟩ := v_load2 (n := n) (Q := Q) (B := B) hT hn (show S < 64 by omega) a2
  unfold m_X6_loads m_X6_loads_0
  rw [a1, bd2_some, b1, bd2_some]
  exact ⟨Q', B', P', rfl, b2, b3, a2⟩
/-! the loop over the columns -/
def mul0 (k : Nat) (D A : Nat → Nat → F7) (i j : Nat) : F7 := s6 (fun l => if l < k then D i l * A l j else 0)
theorem mul_ch {k r c : Nat} {D A X : Nat → Nat → F7} (h : ∀ i j, i < k → j < k → mul0 k D A i j = X i j) (hr : r < k) (hc : c < k) : ∀ i j, i < k → j < k → mul0 k (chA r c D) A i j = chA r c X i j := fun i j hi hj => by
  unfold chA mul0
  by_cases e1 : i = r
  · simp only [e1, if_true]; exact h c j hc hj
  · by_cases e2 : i = c
    · have : ¬ c = r := fun z => e1 (by rw [e2, z])
      simp only [e2, this, if_true, if_false]; exact h r j hr hj
    · simp only [e1, e2, if_false]; exact h i j hi hj
theorem mul_ad {k i c : Nat} {b : F7} {D A X : Nat → Nat → F7} (h : ∀ i j, i < k → j < k → mul0 k D A i j = X i j) (hi : i < k) (hc : c < k) : ∀ a j, a < k → j < k → mul0 k (adA i c b D) A a j = adA i c b X a j := fun a j ha hj => by
  unfold adA mul0
  by_cases e1 : a = i
  · simp only [e1, if_true]
    rw [← h i j hi hj, ← h c j hc hj]
    unfold mul0
    rw [← s6_ax]
    apply s6_cong
    intro l _
    by_cases q : l < k
    · simp only [q, if_true]; grind
    · simp only [q, if_false]; grind
  · simp only [e1, if_false]; exact h a j ha hj
theorem mul_dv {k c : Nat} {b : F7} {D A X : Nat → Nat → F7} (h : ∀ i j, i < k → j < k → mul0 k D A i j = X i j) (hc : c < k) : ∀ a j, a < k → j < k → mul0 k (dvA c b D) A a j = dvA c b X a j := fun a j ha hj => by
  unfold dvA mul0
  by_cases e1 : a = c
  · simp only [e1, if_true]
    rw [← h c j hc hj]
    unfold mul0
    rw [← s6_mul]
    apply s6_cong
    intro l _
    by_cases q : l < k
    · simp only [q, if_true]; grind
    · simp only [q, if_false]; grind
  · simp only [e1, if_false]; exact h a j ha hj
theorem mul_id {k : Nat} (hk : k ≤ 6) (A : Nat → Nat → F7) : ∀ i j, i < k → j < k → mul0 k idM A i j = A i j := fun i j hi hj => by
  unfold mul0
  rw [s6_one (show i < 6 by omega)]
  · simp only [hi, if_true, idM]; grind
  · intro l _ hl
    by_cases q : l < k
    · have : ¬ i = l := fun z => hl z.symm
      simp only [q, if_true, idM, this, if_false]; grind
    · simp only [q, if_false]
/-- how the loop over the columns stands -/
def gin (S : Nat) (M : Nat → Nat → F7) (c d : Nat) (Q B : Nat → Int32) : Prop :=
  c ≤ ct6 S ∧ d < 7 ∧ ∃ A D, PM Q (ct6 S) A ∧ PM B (ct6 S) D ∧ ph d * DT S A = wh7 M S ∧ (∀ i j, i < ct6 S → j < c → A i j = if i = j then 1 else 0) ∧ (∀ i j, i < ct6 S → j < ct6 S → mul0 (ct6 S) D (A0 S M) i j = A i j) ∧ d ≠ 0
theorem modneg {d : Nat} (hd : d < 7) : ∃ t, t < 7 ∧ m_X6_modulo (-(nI d)) = some (nI t) ∧ ph t = - ph d := by
  have e1 : (nI d).toInt = d := nI_toInt (by omega)
  have e2 : (-(nI d)).toInt = -(d : Int) := by rw [fb_negI (by rw [e1]; omega), e1]
  obtain ⟨t, t1, -, t2, t3⟩ := mod_ok (x := -(nI d)) (by rw [e2]; omega)
  exact ⟨t, t1, t2, by rw [t3, e2, ph_neg]⟩
/-- below and above the pivot -/
theorem v_clear {n S c : Nat} {z2 : Int32} {T P Q B : Nat → Int32} {A D : Nat → Nat → F7} (hc : c < ct6 S) (hQ : PM Q (ct6 S) A) (hB : PM B (ct6 S) D) (hcc : A c c = 1) (hcl : ∀ j, j < c → A c j = 0) {M : Nat → Nat → F7} (hmul : ∀ i j, i < ct6 S → j < ct6 S → mul0 (ct6 S) D (A0 S M) i j = A i j) : ∃ Q' B' A' D', gk_lp (fun z => m_X6_wholeOf_B119 (nI n) (nI (ct6 S)) T P z2 (nI c) z.1 z.2.1 z.2.2) gk_fu ((0 : Int32), Q, B) = some (Q', B') ∧ PM Q' (ct6 S) A' ∧ PM B' (ct6 S) D' ∧ DT S A' = DT S A ∧ (∀ i, i < ct6 S → A' i c = if i = c then 1 else 0) ∧ (∀ i j, i < ct6 S → j < c → A' i j = A i j) ∧ ∀ i j, i < ct6 S → j < ct6 S → mul0 (ct6 S) D' (A0 S M) i j = A' i j := by
  have h6 := ct6_le6 S
  obtain ⟨o, h1, A', D', h2⟩ := ruP (f := fun z => m_X6_wholeOf_B119 (nI n) (nI (ct6 S)) T P z2 (nI c) z.1 z.2.1 z.2.2) (fun i z => z.1 = nI i ∧ ∃ A' D', PM z.2.1 (ct6 S) A' ∧ PM z.2.2 (ct6 S) D' ∧ DT S A' = DT S A ∧ (∀ a, a < i → a < ct6 S → a ≠ c → A' a c = 0) ∧ (∀ j, A' c j = A c j) ∧ (∀ a j, a < ct6 S → j < c → A' a j = A a j) ∧ ∀ a j, a < ct6 S → j < ct6 S → mul0 (ct6 S) D' (A0 S M) a j = A' a j) (fun o => ∃ A' D', PM o.1 (ct6 S) A' ∧ PM o.2 (ct6 S) D' ∧ DT S A' = DT S A ∧ (∀ a, a < ct6 S → a ≠ c → A' a c = 0) ∧ (∀ j, A' c j = A c j) ∧ (∀ a j, a < ct6 S → j < c → A' a j = A a j) ∧ ∀ a j, a < ct6 S → j < ct6 S → mul0 (ct6 S) D' (A0 S M) a j = A' a j) (ct6 S) (s0 := ((0 : Int32), Q, B)) (by omega) ⟨rfl, A, D, hQ, hB, rfl, fun a ha => absurd ha (Nat.not_lt_zero _), fun _ => rfl, fun _ _ _ _ => rfl, hmul⟩ (by
    rintro i ⟨z, Q, B⟩ hi ⟨rfl, A', D', hQ, hB, h3, h4, h5, h7, h8⟩
    have hQ : PM Q (ct6 S) A' := hQ
    have hB : PM B (ct6 S) D' := hB
    show ∃ s', m_X6_wholeOf_B119 (nI n) (nI (ct6 S)) T P z2 (nI c) (nI i) Q B = _ ∧ _
    unfold m_X6_wholeOf_B119
    have e1 : (nI i = nI c) = (i = c) := propext (nI_eq (by omega) (by omega))
    rw [if_neg (nI_ge hi (by omega)), nI_1]
    simp only [e1]
    by_cases q : i = c
    · rw [if_pos q]
      refine ⟨(nI (i + 1), Q, B), rfl, rfl, A', D', hQ, hB, h3, fun a ha ha2 hac => h4 a (by omega) ha2 hac, h5, h7, h8⟩
    · rw [if_neg q]
      obtain ⟨t, t1, t2, t3⟩ := hQ.get hi hc
      obtain ⟨s, s1, s2, s3⟩ := modneg t1
      obtain ⟨Q2, B2, g1, g2, g3⟩ := v_adds h6 hi hc q s1 hQ hB
      rw [ixy (show i < 6 by omega) (show c < 6 by omega), ix_ok (show 6 * i + c < 36 by omega) (by omega), nI_clamp (by omega), t2, s2, bd1_some, g1, bd2_some]
      refine ⟨(nI (i + 1), Q2, B2), rfl, rfl, adA i c (ph s) A', adA i c (ph s) D', g2, g3, ?_, ?_, ?_, ?_, ?_⟩
      · rw [DT_ad hi hc q, h3]
      · intro a ha ha2 hac
        unfold adA
        by_cases e : a = i
        · rw [if_pos e, h5 c, hcc, s3, t3]; grind
        · rw [if_neg e]; exact h4 a (by omega) ha2 hac
      · intro j
        unfold adA
        rw [if_neg (fun z => q z.symm)]; exact h5 j
      · intro a j ha hj
        unfold adA
        by_cases e : a = i
        · rw [if_pos e, h5 j, hcl j hj, e, h7 i j hi hj]; grind
        · rw [if_neg e]; exact h7 a j ha hj
      · exact mul_ad h8 hi hc) (by
    rintro ⟨z, Q, B⟩ ⟨rfl, A', D', hQ, hB, h3, h4, h5, h7, h8⟩
    refine ⟨(Q, B), ?_, A', D', hQ, hB, h3, fun a ha hac => h4 a ha ha hac, h5, h7, h8⟩
    show m_X6_wholeOf_B119 (nI n) (nI (ct6 S)) T P z2 (nI c) (nI (ct6 S)) Q B = _
    unfold m_X6_wholeOf_B119
    rw [if_pos (nI_le (Nat.le_refl _) (by omega))])
  obtain ⟨k1, k2, k3, k4, k5, k7, k8⟩ := h2
  refine ⟨o.1, o.2, A', D', h1, k1, k2, k3, fun i hi => ?_, k7, k8⟩
  by_cases e : i = c
  · rw [if_pos e, e, k5 c, hcc]
  · rw [if_neg e]; exact k4 i hi e
theorem v_search {n S c : Nat} {z2 : Int32} {T P Q B : Nat → Int32} {A : Nat → Nat → F7} (hc : c < ct6 S) (hQ : PM Q (ct6 S) A) : ∃ r, gk_lp (fun z => m_X6_wholeOf_B20 (nI n) (nI (ct6 S)) T Q B P z2 (nI c) z) gk_fu (nI c) = some (nI r) ∧ c ≤ r ∧ r ≤ ct6 S ∧ (∀ a, c ≤ a → a < r → A a c = 0) ∧ (r < ct6 S → A r c ≠ 0) := by
  have h6 := ct6_le6 S
  obtain ⟨o, h1, r, rfl, h2⟩ := ruI (f := fun z => m_X6_wholeOf_B20 (nI n) (nI (ct6 S)) T Q B P z2 (nI c) z) (fun z => ∃ r, z = nI r ∧ c ≤ r ∧ r ≤ ct6 S ∧ ∀ a, c ≤ a → a < r → A a c = 0) (fun o => ∃ r, o = nI r ∧ c ≤ r ∧ r ≤ ct6 S ∧ (∀ a, c ≤ a → a < r → A a c = 0) ∧ (r < ct6 S → A r c ≠ 0)) (fun z => 6 - z.toNatClampNeg) (by
    rintro z ⟨r, rfl, r1, r2, r3⟩
    unfold m_X6_wholeOf_B20
    by_cases e : r = ct6 S
    · subst e
      rw [if_pos (nI_le (Nat.le_refl _) (by omega))]
      exact Or.inr ⟨_, rfl, ct6 S, rfl, r1, r2, r3, fun z => absurd z (Nat.lt_irrefl _)⟩
    · have hr : r < ct6 S := by omega
      obtain ⟨t, t1, t2, t3⟩ := hQ.get hr hc
      rw [if_neg (nI_ge hr (by omega)), ixy (show r < 6 by omega) (show c < 6 by omega), ix_ok (show 6 * r + c < 36 by omega) (by omega), nI_clamp (by omega), t2, nI_1]
      by_cases q : nI t = 0
      · rw [if_pos q]
        refine Or.inl ⟨nI (r + 1), rfl, ⟨r + 1, rfl, by omega, by omega, fun a ha hb => ?_⟩, ?_⟩
        · by_cases e2 : a = r
          · rw [e2, ← t3]; exact (ph_z t1).mp q
          · exact r3 a ha (by omega)
        · rw [nI_clamp (by omega), nI_clamp (by omega)]; omega
      · rw [if_neg q]
        exact Or.inr ⟨_, rfl, r, rfl, r1, r2, r3, fun _ => by rw [← t3]; exact fun z => q ((ph_z t1).mpr z)⟩) gk_fu (nI c) ⟨c, rfl, Nat.le_refl c, by omega, fun a h1 h2 => by omega⟩ (by rw [nI_clamp (by omega)]; show 6 - c < 800; omega)
  exact ⟨r, h1, h2⟩
/-- from the pivot on -/
theorem v_J80 {n S c d : Nat} {T P Q B : Nat → Int32} {M A D : Nat → Nat → F7} (hc : c < ct6 S) (hd : d < 7) (hd0 : d ≠ 0) (hQ : PM Q (ct6 S) A) (hB : PM B (ct6 S) D) (hdet : ph d * DT S A = wh7 M S) (hun : ∀ i j, i < ct6 S → j < c → A i j = if i = j then 1 else 0) (hmul : ∀ i j, i < ct6 S → j < ct6 S → mul0 (ct6 S) D (A0 S M) i j = A i j) (hne : A c c ≠ 0) : ∃ d' Q' B', m_X6_wholeOf_J80 (nI n) (nI (ct6 S)) T Q B P (nI d) (nI c) = some (Sum.inl (nI d', nI (c + 1), Q', B')) ∧ gin S M (c + 1) d' Q' B' := by
  have h6 := ct6_le6 S
  obtain ⟨t, t1, t2, t3⟩ := hQ.get hc hc
  have ht0 : t ≠ 0 := fun z => hne (by rw [← t3, z]; rfl)
  obtain ⟨w, w1, w2, w3⟩ := inv6 t1 ht0
  obtain ⟨Q1, B1, g1, g2, g3⟩ := v_divides h6 hc w1 hQ hB
  obtain ⟨y1, y2⟩ := dv_val hd t1
  obtain ⟨Q2, B2, A2, D2, k1, k2, k3, k4, k5, k6, k7⟩ := v_clear (n := n) (z2 := nI (d * t % 7)) (T := T) (P := P) (M := M) hc g2 g3 (by
    unfold dvA
    rw [if_pos rfl, ← t3]
    grind) (fun j hj => by
    unfold dvA
    rw [if_pos rfl, hun c j hc hj, if_neg (by omega)]
    grind) (mul_dv hmul hc)
  refine ⟨d * t % 7, Q2, B2, ?_, by omega, Nat.mod_lt _ (by omega), A2, D2, k2, k3, ?_, fun i j hi hj => ?_, k7, ?_⟩
  · unfold m_X6_wholeOf_J80
    rw [ixy (show c < 6 by omega) (show c < 6 by omega), ix_ok (show 6 * c + c < 36 by omega) (by omega), nz7, ix_ok (show 6 * c + c < 36 by omega) (by omega), nI_clamp (by omega), t2, w2, bd1_some, g1, bd2_some, y1, k1, bd2_some, nI_1]
  · rw [y2, k4, DT_dv hc, ← hdet, t3]
    rw [t3] at w3
    grind
  · by_cases e : j = c
    · subst e; exact k5 i hi
    · rw [k6 i j hi (by omega)]
      unfold dvA
      by_cases e2 : i = c
      · rw [if_pos e2, hun c j hc (by omega), e2]
        have : ¬ c = j := by omega
        rw [if_neg this]; grind
      · rw [if_neg e2]; exact hun i j hi (by omega)
  · intro z
    have z1 : ph ((d * t % 7 : Nat) : Int) = 0 := by rw [z]; rfl
    rw [y2] at z1
    have p1 : ph d ≠ 0 := fun y => hd0 (ph_inj hd (by omega) y)
    have p2 : ph t ≠ 0 := fun y => ht0 (ph_inj t1 (by omega) y)
    exact f7_ne p2 p1 z1
theorem v_wholeOf {n S : Nat} {sd : Int32} {T Q B P : Nat → Int32} (hT : TB T) (hn : n ≤ 6) (hS : S < 2 ^ n) : ∃ d Q' B' P', m_X6_wholeOf (nI n) sd T Q B P (nI S) = some (nI d, nI (ct6 S), Q', B', P') ∧ d < 7 ∧ ph d = wh7 (mt T) S ∧ (d ≠ 0 → ∃ D, PM B' (ct6 S) D ∧ (∀ j, j < ct6 S → P' j = nI (pt S j)) ∧ ∀ i j, i < ct6 S → j < ct6 S → mul0 (ct6 S) D (A0 S (mt T)) i j = if i = j then 1 else 0) := by
  have h6 := pow6 hn
  have hS64 : S < 64 := by omega
  have hk := ct6_le6 S
  obtain ⟨Q0, B0, P0, l1, l2, l3, l4⟩ := v_loads (sd := sd) (Q := Q) (B := B) (P := P) hT hn hS
  unfold m_X6_wholeOf m_X6_wholeOf_0
  rw [l1, bd4_some]
  obtain ⟨o, h1, h2⟩ := ruI (f := fun z => m_X6_wholeOf_B9 (nI n) (nI (ct6 S)) T P0 z.1 z.2.1 z.2.2.1 z.2.2.2) (fun z => ∃ c d Q B, z = (nI d, nI c, Q, B) ∧ gin S (mt T) c d Q B) (fun o => (∃ Q B, o = Sum.inl (0, nI (ct6 S), Q, B, P0) ∧ wh7 (mt T) S = 0) ∨ (∃ d Q B, o = Sum.inr (nI d, Q, B) ∧ gin S (mt T) (ct6 S) d Q B)) (fun z => 6 - z.2.1.toNatClampNeg) (by
    rintro z ⟨c, d, Q, B, rfl, hg⟩
    have hg0 := hg
    obtain ⟨hc, hd, A, D, hQ, hB, hdet, hun, hmul, hd0⟩ := hg
    show (∃ s', m_X6_wholeOf_B9 (nI n) (nI (ct6 S)) T P0 (nI d) (nI c) Q B = _ ∧ _) ∨ (∃ r, m_X6_wholeOf_B9 (nI n) (nI (ct6 S)) T P0 (nI d) (nI c) Q B = _ ∧ _)
    unfold m_X6_wholeOf_B9
    by_cases ec : c = ct6 S
    · rw [ec, if_pos (nI_le (Nat.le_refl _) (by omega))]
      rw [ec] at hg0
      exact Or.inr ⟨_, rfl, Or.inr ⟨d, Q, B, rfl, hg0⟩⟩
    have hc' : c < ct6 S := by omega
    obtain ⟨r, r1, r2, r3, r4, r5⟩ := v_search (n := n) (z2 := nI d) (T := T) (P := P0) (B := B) hc' hQ
    rw [if_neg (nI_ge hc' (by omega)), r1, bd1_some]
    unfold m_X6_wholeOf_J50
    have e1 : (nI r = nI (ct6 S)) = (r = ct6 S) := propext (nI_eq (by omega) (by omega))
    have e2 : (nI r = nI c) = (r = c) := propext (nI_eq (by omega) (by omega))
    simp only [e1, e2]
    by_cases q1 : r = ct6 S
    · rw [if_pos q1]
      refine Or.inr ⟨_, rfl, Or.inl ⟨Q, B, rfl, ?_⟩⟩
      rw [← hdet, DT_sing hS64 hc' (fun i j hi1 hi2 hj => by
        by_cases e : j = c
        · rw [e]; exact r4 i hi1 (by omega)
        · rw [hun i j hi2 (by omega), if_neg (by omega)])]
      grind
    · rw [if_neg q1]
      have hfin : ∀ {o : Option ((Int32 × Int32 × (Nat → Int32) × (Nat → Int32)) ⊕ ((Int32 × Int32 × (Nat → Int32) × (Nat → Int32) × (Nat → Int32)) ⊕ (Int32 × (Nat → Int32) × (Nat → Int32))))}, (∃ d' Q' B', o = some (Sum.inl (nI d', nI (c + 1), Q', B')) ∧ gin S (mt T) (c + 1) d' Q' B') → ((∃ s', o = some (Sum.inl s') ∧ (∃ c d Q B, s' = (nI d, nI c, Q, B) ∧ gin S (mt T) c d Q B) ∧ 6 - s'.2.1.toNatClampNeg < 6 - (nI d, nI c, Q, B).2.1.toNatClampNeg) ∨ (∃ r, o = some (Sum.inr r) ∧ ((∃ Q B, r = Sum.inl (0, nI (ct6 S), Q, B, P0) ∧ wh7 (mt T) S = 0) ∨ (∃ d Q B, r = Sum.inr (nI d, Q, B) ∧ gin S (mt T) (ct6 S) d Q B)))) := by
        rintro o ⟨d', Q', B', ho, hgi⟩
        refine Or.inl ⟨_, ho, ⟨c + 1, d', Q', B', rfl, hgi⟩, ?_⟩
        show 6 - (nI (c + 1)).toNatClampNeg < 6 - (nI c).toNatClampNeg
        rw [nI_clamp (by omega), nI_clamp (by omega)]; omega
      by_cases q2 : r = c
      · rw [if_pos q2]
        refine hfin (v_J80 hc' hd hd0 hQ hB hdet hun hmul ?_)
        rw [← q2]
        have := r5 (by omega)
        rw [q2] at this ⊢
        exact this
      · rw [if_neg q2]
        obtain ⟨Q1, B1, g1, g2, g3⟩ := v_changes hk (show r < ct6 S by omega) hc' q2 hQ hB
        obtain ⟨s, s1, s2, s3⟩ := modneg hd
        rw [g1, bd2_some, s2, bd1_some]
        refine hfin (v_J80 hc' s1 ?_ g2 g3 ?_ (fun i j hi hj => ?_) (mul_ch hmul (show r < ct6 S by omega) hc') ?_)
        · intro z
          have z1 : ph s = 0 := by rw [z]; rfl
          rw [s3] at z1
          exact hd0 (ph_inj hd (by omega) (by rw [show ph ((0 : Nat) : Int) = 0 from rfl]; grind))
        · rw [DT_ch (show r < ct6 S by omega) hc' q2, s3, ← hdet]; grind
        · unfold chA
          by_cases e3 : i = r
          · rw [if_pos e3, hun c j hc' hj, if_neg (by omega), if_neg (by omega)]
          · rw [if_neg e3]
            by_cases e4 : i = c
            · rw [if_pos e4, hun r j (by omega) hj, if_neg (by omega), if_neg (by omega)]
            · rw [if_neg e4]; exact hun i j hi hj
        · unfold chA
          rw [if_neg (fun z => q2 z.symm), if_pos rfl]
          exact r5 (by omega)) gk_fu ((1 : Int32), (0 : Int32), Q0, B0) ⟨0, 1, Q0, B0, rfl, by omega, by omega, A0 S (mt T), idM, l2, l3, by
      rw [show DT S (A0 S (mt T)) = wh7 (mt T) S from DT_0 hS64 (mt T)]
      have : ph ((1 : Nat) : Int) = 1 := rfl
      rw [this]; grind, fun i j _ hj => absurd hj (Nat.not_lt_zero _), mul_id hk _, by omega⟩ (by show 6 - (nI 0).toNatClampNeg < 800; rw [nI_clamp (by omega)]; omega)
  rw [h1]
  rcases h2 with ⟨Q1, B1, rfl, hz⟩ | ⟨d, Q1, B1, rfl, hg⟩
  · exact ⟨0, Q1, B1, P0, rfl, by omega, by rw [hz]; rfl, fun z => absurd rfl z⟩
  · obtain ⟨-, hd, A, D, hQ, hB, hdet, hun, hmul, hd0⟩ := hg
    refine ⟨d, Q1, B1, P0, rfl, hd, ?_, fun _ => ⟨D, hB, l4, fun i j hi hj => by rw [hmul i j hi hj, hun i j hi hj]⟩⟩
    rw [DT_id hS64 (fun i j hi hj => hun i j hi hj)] at hdet
    rw [← hdet]; grind
