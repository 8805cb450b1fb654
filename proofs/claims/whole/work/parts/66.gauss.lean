/-! ===== the reference: rows changed, added, divided ===== -/
def PM (Q : Nat → Int32) (k : Nat) (A : Nat → Nat → F7) : Prop := ∀ i j, i < k → j < k → ∃ t, t < 7 ∧ Q (6 * i + j) = nI t ∧ ph t = A i j
def mixc (x : Nat) (A' A : Nat → Nat → F7) : Nat → Nat → F7 := fun i j => if j < x then A' i j else A i j
theorem mixc_0 (A' A : Nat → Nat → F7) : mixc 0 A' A = A := by
  funext i j
  exact if_neg (by omega)
theorem mixc_k {Q : Nat → Int32} {k : Nat} {A' A : Nat → Nat → F7} (h : PM Q k (mixc k A' A)) : PM Q k A' := fun i j hi hj => by
  obtain ⟨t, h1, h2, h3⟩ := h i j hi hj
  exact ⟨t, h1, h2, by rw [h3]; exact if_pos hj⟩
theorem PM.get {Q : Nat → Int32} {k : Nat} {A : Nat → Nat → F7} (h : PM Q k A) {i j : Nat} (hi : i < k) (hj : j < k) : ∃ t, t < 7 ∧ Q (6 * i + j) = nI t ∧ ph t = A i j := h i j hi hj
/-- one entry written -/
theorem PM.set {Q : Nat → Int32} {k : Nat} {A : Nat → Nat → F7} (hk : k ≤ 6) (h : PM Q k A) {i x t : Nat} (hi : i < k) (hx : x < k) (ht : t < 7) : PM (upd Q (6 * i + x) (nI t)) k (fun a b => if a = i ∧ b = x then ph t else A a b) := fun a b ha hb => by
  by_cases e : a = i ∧ b = x
  · obtain ⟨rfl, rfl⟩ := e
    refine ⟨t, ht, by rw [pk_us], ?_⟩
    simp
  · obtain ⟨s, h1, h2, h3⟩ := h a b ha hb
    refine ⟨s, h1, by rw [pk_un (by omega)]; exact h2, ?_⟩
    rw [h3]
    show _ = if a = i ∧ b = x then ph t else A a b
    rw [if_neg e]
theorem PM.congr {Q : Nat → Int32} {k : Nat} {A A' : Nat → Nat → F7} (h : PM Q k A) (e : ∀ i j, i < k → j < k → A i j = A' i j) : PM Q k A' := fun i j hi hj => by
  obtain ⟨t, h1, h2, h3⟩ := h i j hi hj
  exact ⟨t, h1, h2, by rw [h3, e i j hi hj]⟩
def chA (r c : Nat) (A : Nat → Nat → F7) : Nat → Nat → F7 := fun i j => if i = r then A c j else if i = c then A r j else A i j
def adA (i c : Nat) (b : F7) (A : Nat → Nat → F7) : Nat → Nat → F7 := fun a j => if a = i then A i j + b * A c j else A a j
def dvA (c : Nat) (b : F7) (A : Nat → Nat → F7) : Nat → Nat → F7 := fun a j => if a = c then b * A c j else A a j
theorem v_changes {Q B : Nat → Int32} {k r c : Nat} {A D : Nat → Nat → F7} (hk : k ≤ 6) (hr : r < k) (hc : c < k) (hrc : r ≠ c) (hQ : PM Q k A) (hB : PM B k D) : ∃ Q' B', m_X6_changes (nI k) Q B (nI r) (nI c) = some (Q', B') ∧ PM Q' k (chA r c A) ∧ PM B' k (chA r c D) := by
  unfold m_X6_changes m_X6_changes_0
  obtain ⟨o, h1, h2⟩ := ruP (f := fun z => m_X6_changes_B2 (nI k) (nI r) (nI c) z.1 z.2.1 z.2.2) (fun x z => z.1 = nI x ∧ PM z.2.1 k (mixc x (chA r c A) A) ∧ PM z.2.2 k (mixc x (chA r c D) D)) (fun o => PM o.1 k (chA r c A) ∧ PM o.2 k (chA r c D)) k (s0 := ((0 : Int32), Q, B)) (by omega) ⟨rfl, by rw [mixc_0]; exact hQ, by rw [mixc_0]; exact hB⟩ (by
    rintro x ⟨z, Q, B⟩ hx ⟨rfl, hQ, hB⟩
    have hQ : PM Q k (mixc x (chA r c A) A) := hQ
    have hB : PM B k (mixc x (chA r c D) D) := hB
    show ∃ s', m_X6_changes_B2 (nI k) (nI r) (nI c) (nI x) Q B = _ ∧ _
    obtain ⟨t1, a1, b1, c1⟩ := hQ.get hr hx
    obtain ⟨t2, a2, b2, c2⟩ := hQ.get hc hx
    obtain ⟨t3, a3, b3, c3⟩ := hB.get hr hx
    obtain ⟨t4, a4, b4, c4⟩ := hB.get hc hx
    refine ⟨(nI (x + 1), upd (upd Q (6 * r + x) (nI t2)) (6 * c + x) (nI t1), upd (upd B (6 * r + x) (nI t4)) (6 * c + x) (nI t3)), ?_, rfl, ?_, ?_⟩
    · unfold m_X6_changes_B2
      rw [if_neg (nI_ge hx (by omega)), ixy (show r < 6 by omega) (show x < 6 by omega), ixy (show c < 6 by omega) (show x < 6 by omega)]
      simp only [ix_ok (show 6 * r + x < 36 by omega) (show 36 < 2 ^ 31 by omega), ix_ok (show 6 * c + x < 36 by omega) (show 36 < 2 ^ 31 by omega), nI_clamp (show 6 * r + x < 2 ^ 31 by omega), nI_clamp (show 6 * c + x < 2 ^ 31 by omega), b1, b2, b3, b4, nI_1]
    · refine ((hQ.set hk hr hx a2).set hk hc hx a1).congr (fun i j hi hj => ?_)
      rw [c1, c2]
      unfold mixc chA
      by_cases e1 : j = x
      · subst e1
        by_cases e2 : i = c
        · subst e2
          have : ¬ i = r := fun z => hrc z.symm
          simp [this]
        · by_cases e3 : i = r
          · subst e3; simp [hrc]
          · simp [e2, e3]
      · have q1 : (j < x + 1) ↔ (j < x) := by omega
        simp [e1, q1]
    · refine ((hB.set hk hr hx a4).set hk hc hx a3).congr (fun i j hi hj => ?_)
      rw [c3, c4]
      unfold mixc chA
      by_cases e1 : j = x
      · subst e1
        by_cases e2 : i = c
        · subst e2
          have : ¬ i = r := fun z => hrc z.symm
          simp [this]
        · by_cases e3 : i = r
          · subst e3; simp [hrc]
          · simp [e2, e3]
      · have q1 : (j < x + 1) ↔ (j < x) := by omega
        simp [e1, q1]) (by
    rintro ⟨z, Q, B⟩ ⟨rfl, hQ, hB⟩
    refine ⟨(Q, B), ?_, mixc_k hQ, mixc_k hB⟩
    show m_X6_changes_B2 (nI k) (nI r) (nI c) (nI k) Q B = _
    unfold m_X6_changes_B2
    rw [if_pos (nI_le (Nat.le_refl _) (by omega))])
  rw [h1]
  exact ⟨o.1, o.2, rfl, h2⟩
theorem ad_val {a b s : Nat} (ha : a < 7) (hb : b < 7) (hs : s < 7) : ∃ t, t < 7 ∧ m_X6_modulo (nI a + nI b * nI s) = some (nI t) ∧ ph t = ph a + ph b * ph s := by
  have h1 := ml7 hb hs
  have e1 : (nI a + nI b * nI s).toInt = (a : Int) + (b : Int) * s := by
    rw [fb_addI (by rw [nI_mulI hb hs, nI_toInt (by omega)]; omega) (by rw [nI_mulI hb hs, nI_toInt (by omega)]; omega), nI_mulI hb hs, nI_toInt (by omega)]
  obtain ⟨t, t1, -, t2, t3⟩ := mod_ok (x := nI a + nI b * nI s) (by rw [e1]; omega)
  refine ⟨t, t1, t2, ?_⟩
  rw [t3, e1, ph_add, ph_mul]
theorem v_adds {Q B : Nat → Int32} {k i c b : Nat} {A D : Nat → Nat → F7} (hk : k ≤ 6) (hi : i < k) (hc : c < k) (hic : i ≠ c) (hb : b < 7) (hQ : PM Q k A) (hB : PM B k D) : ∃ Q' B', m_X6_adds (nI k) Q B (nI i) (nI c) (nI b) = some (Q', B') ∧ PM Q' k (adA i c (ph b) A) ∧ PM B' k (adA i c (ph b) D) := by
  unfold m_X6_adds m_X6_adds_0
  obtain ⟨o, h1, h2⟩ := ruP (f := fun z => m_X6_adds_B3 (nI k) (nI i) (nI c) (nI b) z.1 z.2.1 z.2.2) (fun x z => z.1 = nI x ∧ PM z.2.1 k (mixc x (adA i c (ph b) A) A) ∧ PM z.2.2 k (mixc x (adA i c (ph b) D) D)) (fun o => PM o.1 k (adA i c (ph b) A) ∧ PM o.2 k (adA i c (ph b) D)) k (s0 := ((0 : Int32), Q, B)) (by omega) ⟨rfl, by rw [mixc_0]; exact hQ, by rw [mixc_0]; exact hB⟩ (by
    rintro x ⟨z, Q, B⟩ hx ⟨rfl, hQ, hB⟩
    have hQ : PM Q k (mixc x (adA i c (ph b) A) A) := hQ
    have hB : PM B k (mixc x (adA i c (ph b) D) D) := hB
    show ∃ s', m_X6_adds_B3 (nI k) (nI i) (nI c) (nI b) (nI x) Q B = _ ∧ _
    obtain ⟨t1, a1, b1, c1⟩ := hQ.get hi hx
    obtain ⟨t2, a2, b2, c2⟩ := hQ.get hc hx
    obtain ⟨t3, a3, b3, c3⟩ := hB.get hi hx
    obtain ⟨t4, a4, b4, c4⟩ := hB.get hc hx
    obtain ⟨v1, x1, y1, z1⟩ := ad_val a1 hb a2
    obtain ⟨v2, x2, y2, z2⟩ := ad_val a3 hb a4
    refine ⟨(nI (x + 1), upd Q (6 * i + x) (nI v1), upd B (6 * i + x) (nI v2)), ?_, rfl, ?_, ?_⟩
    · unfold m_X6_adds_B3
      rw [if_neg (nI_ge hx (by omega)), ixy (show i < 6 by omega) (show x < 6 by omega), ixy (show c < 6 by omega) (show x < 6 by omega)]
      simp only [ix_ok (show 6 * i + x < 36 by omega) (show 36 < 2 ^ 31 by omega), ix_ok (show 6 * c + x < 36 by omega) (show 36 < 2 ^ 31 by omega), nI_clamp (show 6 * i + x < 2 ^ 31 by omega), nI_clamp (show 6 * c + x < 2 ^ 31 by omega), b1, b2, b3, b4, nI_1, y1, y2, bd1_some]
    · refine (hQ.set hk hi hx x1).congr (fun a j ha hj => ?_)
      rw [z1, c1, c2]
      unfold mixc adA
      by_cases e1 : j = x
      · subst e1
        by_cases e2 : a = i
        · subst e2; simp
        · simp [e2]
      · have q1 : (j < x + 1) ↔ (j < x) := by omega
        simp [e1, q1]
    · refine (hB.set hk hi hx x2).congr (fun a j ha hj => ?_)
      rw [z2, c3, c4]
      unfold mixc adA
      by_cases e1 : j = x
      · subst e1
        by_cases e2 : a = i
        · subst e2; simp
        · simp [e2]
      · have q1 : (j < x + 1) ↔ (j < x) := by omega
        simp [e1, q1]) (by
    rintro ⟨z, Q, B⟩ ⟨rfl, hQ, hB⟩
    refine ⟨(Q, B), ?_, mixc_k hQ, mixc_k hB⟩
    show m_X6_adds_B3 (nI k) (nI i) (nI c) (nI b) (nI k) Q B = _
    unfold m_X6_adds_B3
    rw [if_pos (nI_le (Nat.le_refl _) (by omega))])
  rw [h1]
  exact ⟨o.1, o.2, rfl, h2⟩
theorem dv_val {a b : Nat} (ha : a < 7) (hb : b < 7) : nI a * nI b - nI a * nI b / (7 : Int32) * (7 : Int32) = nI (a * b % 7) ∧ ph ((a * b % 7 : Nat) : Int) = ph b * ph a := by
  have z1 : a * b ≤ 6 * 6 := Nat.mul_le_mul (by omega) (by omega)
  refine ⟨by rw [pk_mul, show (7 : Int32) = nI 7 from rfl, pk_rem (by omega) (by omega) (by omega)], ?_⟩
  rw [ph_mod, Int.natCast_mul, ph_mul]
  grind
theorem v_divides {Q B : Nat → Int32} {k c b : Nat} {A D : Nat → Nat → F7} (hk : k ≤ 6) (hc : c < k) (hb : b < 7) (hQ : PM Q k A) (hB : PM B k D) : ∃ Q' B', m_X6_divides (nI k) Q B (nI c) (nI b) = some (Q', B') ∧ PM Q' k (dvA c (ph b) A) ∧ PM B' k (dvA c (ph b) D) := by
  unfold m_X6_divides m_X6_divides_0
  obtain ⟨o, h1, h2⟩ := ruP (f := fun z => m_X6_divides_B2 (nI k) (nI c) (nI b) z.1 z.2.1 z.2.2) (fun x z => z.1 = nI x ∧ PM z.2.1 k (mixc x (dvA c (ph b) A) A) ∧ PM z.2.2 k (mixc x (dvA c (ph b) D) D)) (fun o => PM o.1 k (dvA c (ph b) A) ∧ PM o.2 k (dvA c (ph b) D)) k (s0 := ((0 : Int32), Q, B)) (by omega) ⟨rfl, by rw [mixc_0]; exact hQ, by rw [mixc_0]; exact hB⟩ (by
    rintro x ⟨z, Q, B⟩ hx ⟨rfl, hQ, hB⟩
    have hQ : PM Q k (mixc x (dvA c (ph b) A) A) := hQ
    have hB : PM B k (mixc x (dvA c (ph b) D) D) := hB
    show ∃ s', m_X6_divides_B2 (nI k) (nI c) (nI b) (nI x) Q B = _ ∧ _
    obtain ⟨t1, a1, b1, c1⟩ := hQ.get hc hx
    obtain ⟨t3, a3, b3, c3⟩ := hB.get hc hx
    obtain ⟨y1, z1⟩ := dv_val a1 hb
    obtain ⟨y2, z2⟩ := dv_val a3 hb
    refine ⟨(nI (x + 1), upd Q (6 * c + x) (nI (t1 * b % 7)), upd B (6 * c + x) (nI (t3 * b % 7))), ?_, rfl, ?_, ?_⟩
    · unfold m_X6_divides_B2
      rw [if_neg (nI_ge hx (by omega)), ixy (show c < 6 by omega) (show x < 6 by omega)]
      simp only [ix_ok (show 6 * c + x < 36 by omega) (show 36 < 2 ^ 31 by omega), nI_clamp (show 6 * c + x < 2 ^ 31 by omega), b1, b3, nI_1, y1, y2, nz7]
    · refine (hQ.set hk hc hx (Nat.mod_lt _ (by omega))).congr (fun a j ha hj => ?_)
      rw [z1, c1]
      unfold mixc dvA
      by_cases e1 : j = x
      · subst e1
        by_cases e2 : a = c
        · subst e2; simp
        · simp [e2]
      · have q1 : (j < x + 1) ↔ (j < x) := by omega
        simp [e1, q1]
    · refine (hB.set hk hc hx (Nat.mod_lt _ (by omega))).congr (fun a j ha hj => ?_)
      rw [z2, c3]
      unfold mixc dvA
      by_cases e1 : j = x
      · subst e1
        by_cases e2 : a = c
        · subst e2; simp
        · simp [e2]
      · have q1 : (j < x + 1) ↔ (j < x) := by omega
        simp [e1, q1]) (by
    rintro ⟨z, Q, B⟩ ⟨rfl, hQ, hB⟩
    refine ⟨(Q, B), ?_, mixc_k hQ, mixc_k hB⟩
    show m_X6_divides_B2 (nI k) (nI c) (nI b) (nI k) Q B = _
    unfold m_X6_divides_B2
    rw [if_pos (nI_le (Nat.le_refl _) (by omega))])
  rw [h1]
  exact ⟨o.1, o.2, rfl, h2⟩
/-! the columns of a set -/
def ct6 (S : Nat) : Nat := fb_ct S.testBit 6
def pt (S j : Nat) : Nat := (ffO (fun q => S.testBit q && decide (fb_ct S.testBit q = j)) 6).getD 0
theorem pt_lt : ∀ S, S < 64 → ∀ j, j < 6 → (ct6 S ≤ j ∨ pt S j < 6) := by decide +kernel
theorem pt_in : ∀ S, S < 64 → ∀ j, j < 6 → (ct6 S ≤ j ∨ S.testBit (pt S j) = true) := by decide +kernel
theorem pt_rk : ∀ S, S < 64 → ∀ j, j < 6 → (ct6 S ≤ j ∨ fb_ct S.testBit (pt S j) = j) := by decide +kernel
theorem rk_pt : ∀ S, S < 64 → ∀ q, q < 6 → (S.testBit q = false ∨ pt S (fb_ct S.testBit q) = q) := by decide +kernel
theorem rk_lt : ∀ S, S < 64 → ∀ q, q < 6 → (S.testBit q = false ∨ fb_ct S.testBit q < ct6 S) := by decide +kernel
theorem hi_ct : ∀ S, S < 64 → ∀ c, c < 6 → (ct6 S ≤ c ∨ fb_ct (fun q => S.testBit q && decide (c < fb_ct S.testBit q)) 6 + (c + 1) = ct6 S) := by decide +kernel
theorem ct6_le6 (S : Nat) : ct6 S ≤ 6 := fb_ct_le _ _
def rowsOf (S : Nat) (A : Nat → Nat → F7) : Nat → Nat → F7 := fun i q => if S.testBit q then A i (fb_ct S.testBit q) else 0
def DT (S : Nat) (A : Nat → Nat → F7) : F7 := eW (rowsOf S A) (2 ^ ct6 S - 1) 0 6 onW S
theorem mask_bit (k q : Nat) : (2 ^ k - 1).testBit q = decide (q < k) := Nat.testBit_two_pow_sub_one k q
theorem DT_ch {S r c : Nat} {A : Nat → Nat → F7} (hr : r < ct6 S) (hc : c < ct6 S) (hrc : r ≠ c) : DT S (chA r c A) = - DT S A := by
  have h6 := ct6_le6 S
  have e : rowsOf S (chA r c A) = rsW (rsW (rowsOf S A) r (rowsOf S A c)) c (rowsOf S A r) := by
    funext i q
    unfold rowsOf chA rsW
    by_cases e1 : i = c
    · subst e1
      have : ¬ i = r := fun z => hrc z.symm
      simp [this]
    · by_cases e2 : i = r
      · subst e2; simp [hrc]
      · simp [e1, e2]
  unfold DT
  rw [e, eW_chg onW (show c < 6 by omega) (show r < 6 by omega) (by rw [mask_bit]; simp [hc]) (by rw [mask_bit]; simp [hr]) hrc]
  show -1 * _ = - _
  grind
theorem DT_ad {S i c : Nat} {b : F7} {A : Nat → Nat → F7} (hi : i < ct6 S) (hc : c < ct6 S) (hic : i ≠ c) : DT S (adA i c b A) = DT S A := by
  have h6 := ct6_le6 S
  have e : rowsOf S (adA i c b A) = rsW (rowsOf S A) i (fun p => rowsOf S A i p + b * rowsOf S A c p) := by
    funext a q
    unfold rowsOf adA rsW
    by_cases e1 : a = i
    · subst e1
      simp only [if_true]
      cases S.testBit q
      · simp only [Bool.false_eq_true, if_false]; grind
      · simp only [if_true]
    · simp only [e1, if_false]
  unfold DT
  rw [e, eW_add onW (show i < 6 by omega) (show c < 6 by omega) (by rw [mask_bit]; simp [hi]) (by rw [mask_bit]; simp [hc]) (fun z => hic z.symm)]
theorem DT_dv {S c : Nat} {b : F7} {A : Nat → Nat → F7} (hc : c < ct6 S) : DT S (dvA c b A) = b * DT S A := by
  have h6 := ct6_le6 S
  have e : rowsOf S (dvA c b A) = rsW (rowsOf S A) c (fun p => b * rowsOf S A c p) := by
    funext a q
    unfold rowsOf dvA rsW
    by_cases e1 : a = c
    · subst e1
      simp only [if_true]
      cases S.testBit q
      · simp only [Bool.false_eq_true, if_false]; grind
      · simp only [if_true]
    · simp only [e1, if_false]
  unfold DT
  rw [e, eW_scale onW (show c < 6 by omega) (by rw [mask_bit]; simp [hc]), rsW_self]
  rfl
/-- the rows of the places of S, one after the other -/
theorem enum_from {S : Nat} (hS : S < 64) (M : Nat → Nat → F7) (w : Nat → F7) : ∀ m p, p + m = 6 → eW (fun i => M (pt S i)) (2 ^ ct6 S - 1) (fb_ct S.testBit p) (ct6 S - fb_ct S.testBit p) w = eW M S p m w
  | 0, p, h => by
    have : p = 6 := by omega
    subst this
    rw [show ct6 S - fb_ct S.testBit 6 = 0 from Nat.sub_self _]
    rfl
  | m + 1, p, h => by
    have ih := enum_from hS M w m (p + 1) (by omega)
    rw [eW]
    rw [fb_ct_succ] at ih
    cases hb : S.testBit p with
    | false =>
      rw [hb] at ih
      simp only [Bool.false_eq_true, if_false, Nat.add_zero] at ih ⊢
      exact ih
    | true =>
      rw [hb] at ih
      simp only [if_true] at ih ⊢
      have hlt := (rk_lt S hS p (by omega)).resolve_left (by rw [hb]; decide)
      have hpt := (rk_pt S hS p (by omega)).resolve_left (by rw [hb]; decide)
      rw [show ct6 S - fb_ct S.testBit p = (ct6 S - (fb_ct S.testBit p + 1)) + 1 by omega, eW, mask_bit, decide_eq_true hlt, if_pos rfl, ih, hpt]
theorem enum_S {S : Nat} (hS : S < 64) (M : Nat → Nat → F7) : eW (fun i => M (pt S i)) (2 ^ ct6 S - 1) 0 6 onW = eW M S 0 6 onW := by
  have h6 := ct6_le6 S
  have h := enum_from hS M onW 6 0 (by omega)
  have e := eW_split (fun i => M (pt S i)) (2 ^ ct6 S - 1) onW (6 - ct6 S) (ct6 S) 0
  rw [show ct6 S + (6 - ct6 S) = 6 by omega, eW_none onW (6 - ct6 S) (0 + ct6 S) (fun q h1 h2 => by
    rw [mask_bit]
    have : ¬ q < ct6 S := by omega
    simp [this])] at e
  rw [e]
  exact h
theorem DT_0 {S : Nat} (hS : S < 64) (M : Nat → Nat → F7) : DT S (fun i j => M (pt S i) (pt S j)) = wh7 M S := by
  unfold DT wh7
  rw [← enum_S hS M]
  refine eW_cols (C := S) onW 6 0 (fun q _ h2 hq c hc hcb => ?_) S (fun _ z => z)
  show (if S.testBit c then M (pt S q) (pt S (fb_ct S.testBit c)) else 0) = M (pt S q) c
  rw [if_pos hcb, (rk_pt S hS c hc).resolve_left (by rw [hcb]; decide)]
theorem id_wh : ∀ S, S < 64 → wh7 (fun a b => if a = b then 1 else 0) S = 1 := by decide +kernel
theorem DT_id {S : Nat} {A : Nat → Nat → F7} (hS : S < 64) (hA : ∀ i j, i < ct6 S → j < ct6 S → A i j = if i = j then 1 else 0) : DT S A = 1 := by
  have e : DT S A = DT S (fun i j => (fun a b => if a = b then (1 : F7) else 0) (pt S i) (pt S j)) := by
    unfold DT
    refine eW_cols (C := S) onW 6 0 (fun q _ h2 hq c hc hcb => ?_) S (fun _ z => z)
    rw [mask_bit, decide_eq_true_iff] at hq
    have hlt := (rk_lt S hS c hc).resolve_left (by rw [hcb]; decide)
    show (if S.testBit c then A q (fb_ct S.testBit c) else 0) = if S.testBit c then (if pt S q = pt S (fb_ct S.testBit c) then (1 : F7) else 0) else 0
    rw [if_pos hcb, if_pos hcb, hA q _ hq hlt]
    have h6 := ct6_le6 S
    have z1 := (pt_rk S hS q (by omega)).resolve_left (by omega)
    have z2 := (pt_rk S hS (fb_ct S.testBit c) (by omega)).resolve_left (by omega)
    by_cases z : q = fb_ct S.testBit c
    · rw [if_pos z, if_pos (by rw [z])]
    · rw [if_neg z, if_neg (fun y => z (by rw [← z1, ← z2, y]))]
  rw [e]
  exact (DT_0 hS (fun a b => if a = b then 1 else 0)).trans (id_wh S hS)
/-- no row left for a column -/
theorem DT_sing {S c : Nat} {A : Nat → Nat → F7} (hS : S < 64) (hc : c < ct6 S) (hA : ∀ i j, c ≤ i → i < ct6 S → j ≤ c → A i j = 0) : DT S A = 0 := by
  have h6 := ct6_le6 S
  unfold DT
  have e := eW_split (rowsOf S A) (2 ^ ct6 S - 1) onW (6 - c) c 0
  rw [show c + (6 - c) = 6 by omega, Nat.zero_add] at e
  rw [e]
  refine eW_null (C := S) (fun D hD => ?_) c 0 S (fun _ z => z)
  have hD64 : D < 64 := by
    apply Nat.lt_of_not_le
    intro z
    obtain ⟨b, hb⟩ : ∃ b, D.testBit b = true ∧ 6 ≤ b := by
      have hne : D / 2 ^ 6 ≠ 0 := by omega
      obtain ⟨i, hi, -, -⟩ := low_bits hne
      rw [Nat.testBit_div_two_pow] at hi
      exact ⟨i + 6, hi, by omega⟩
    have := hD b hb.1
    rw [tb_hi (n := 6) hS hb.2] at this
    cases this
  have hcnt : fb_ct (fun q => (2 ^ ct6 S - 1).testBit (c + q)) (6 - c) = ct6 S - c := by
    have h1 : fb_ct (fun q => (2 ^ ct6 S - 1).testBit (c + q)) (6 - c) = fb_ct (fun q => decide (q < ct6 S - c)) (6 - c) := fb_ct_cong (fun q _ => by
      rw [mask_bit]
      apply decide_eq_decide.mpr
      omega)
    rw [h1]
    have h2 := fb_ct_split (fun q => decide (q < ct6 S - c)) (ct6 S - c) (6 - ct6 S)
    rw [show ct6 S - c + (6 - ct6 S) = 6 - c by omega] at h2
    rw [h2, fb_ct_all.mpr (fun q hq => decide_eq_true hq), fb_ct_zero.mpr (fun q _ => decide_eq_false (by omega))]
    rfl
  by_cases hd : fb_ct D.testBit 6 = ct6 S - c
  case neg => exact eW_deg _ _ D hD64 (by rw [hcnt]; exact hd)
  have hex : ∃ q, q < 6 ∧ D.testBit q = true ∧ fb_ct S.testBit q ≤ c := by
    apply Classical.byContradiction
    intro hno
    have hsub : fb_ct D.testBit 6 ≤ fb_ct (fun q => S.testBit q && decide (c < fb_ct S.testBit q)) 6 := fb_ct_sub (fun q hq hb => by
      rw [hD q hb, Bool.true_and, decide_eq_true_iff]
      apply Nat.lt_of_not_le
      intro z
      exact hno ⟨q, hq, hb, z⟩)
    have := (hi_ct S hS c (by omega)).resolve_left (by omega)
    omega
  obtain ⟨q, hq, hqb, hqr⟩ := hex
  refine eW_out _ _ (fun p h1 h2 hp => ?_) D hqb
  rw [mask_bit, decide_eq_true_iff] at hp
  show (if S.testBit q then A p (fb_ct S.testBit q) else 0) = 0
  rw [if_pos (hD q hqb), hA p _ h1 hp hqr]
