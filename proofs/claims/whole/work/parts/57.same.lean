/-! ===== same ===== -/
def pmP (n : Nat) (σ : Nat → Nat) (s i q : Nat) : Bool := decide (∃ p, p < i ∧ s.testBit p = true ∧ σ p = q)
def pm (n : Nat) (σ : Nat → Nat) (s : Nat) : Nat := bsn (pmP n σ s n) n
def PermN (n : Nat) (σ : Nat → Nat) : Prop := (∀ p, p < n → σ p < n) ∧ ∀ p q, p < q → q < n → σ p ≠ σ q
def Ren (n a b : Nat) (σ : Nat → Nat) : Prop := ∀ s, s < 2 ^ n → a.testBit s = b.testBit (pm n σ s)
theorem pm_lt (n : Nat) (σ : Nat → Nat) (s : Nat) : pm n σ s < 2 ^ n := bsn_lt _ _
theorem pm_iff {n : Nat} {σ : Nat → Nat} {s q : Nat} : (pm n σ s).testBit q = true ↔ q < n ∧ ∃ p, p < n ∧ s.testBit p = true ∧ σ p = q := by
  rw [pm, bsn_bit, Bool.and_eq_true, decide_eq_true_iff, pmP, decide_eq_true_iff]
theorem tb_iff {a b : Nat} (h : ∀ q, a.testBit q = true ↔ b.testBit q = true) : a = b := by
  apply Nat.eq_of_testBit_eq
  intro q
  rw [Bool.eq_iff_iff]
  exact h q
theorem pm_cong {n : Nat} {σ τ : Nat → Nat} (s : Nat) (h : ∀ p, p < n → σ p = τ p) : pm n σ s = pm n τ s := by
  apply tb_iff
  intro q
  rw [pm_iff, pm_iff]
  constructor
  · rintro ⟨h1, p, h2, h3, h4⟩; exact ⟨h1, p, h2, h3, by rw [← h p h2]; exact h4⟩
  · rintro ⟨h1, p, h2, h3, h4⟩; exact ⟨h1, p, h2, h3, by rw [h p h2]; exact h4⟩
theorem pm_id {n s : Nat} {σ : Nat → Nat} (h : ∀ p, p < n → σ p = p) (hs : s < 2 ^ n) : pm n σ s = s := by
  apply tb_iff
  intro q
  rw [pm_iff]
  constructor
  · rintro ⟨h1, p, h2, h3, h4⟩; rw [h p h2] at h4; rw [← h4]; exact h3
  · intro h1
    have hq : q < n := Nat.lt_of_not_le (fun z => by rw [tb_hi hs z] at h1; cases h1)
    exact ⟨hq, q, hq, h1, h q hq⟩
/-! points i and j change names -/
def tr (i j p : Nat) : Nat := if p = i then j else if p = j then i else p
theorem tr_tr (i j p : Nat) : tr i j (tr i j p) = p := by
  unfold tr
  by_cases h1 : p = i
  · subst h1
    by_cases h2 : j = p
    · simp [h2]
    · simp [h2]
  · by_cases h2 : p = j
    · subst h2; simp [h1]
    · simp [h1, h2]
def sw (i j s : Nat) : Nat := if s.testBit i = s.testBit j then s else s ^^^ (2 ^ i ||| 2 ^ j)
theorem sw_bit {i j : Nat} (hij : i ≠ j) (s p : Nat) : (sw i j s).testBit p = s.testBit (tr i j p) := by
  unfold sw tr
  by_cases h : s.testBit i = s.testBit j
  · rw [if_pos h]
    by_cases h1 : p = i
    · subst h1; simp [h]
    · by_cases h2 : p = j
      · subst h2; simp [h1, h]
      · simp [h1, h2]
  · rw [if_neg h, Nat.testBit_xor, Nat.testBit_or, Nat.testBit_two_pow, Nat.testBit_two_pow]
    by_cases h1 : p = i
    · subst h1
      simp
      cases a : s.testBit p <;> cases b : s.testBit j <;> simp_all
    · by_cases h2 : p = j
      · subst h2
        simp [h1]
        cases a : s.testBit i <;> cases b : s.testBit p <;> simp_all
      · have h1' : ¬ i = p := fun z => h1 z.symm
        have h2' : ¬ j = p := fun z => h2 z.symm
        simp [h1, h2, h1', h2']
theorem tr_lt {i j p n : Nat} (hi : i < n) (hj : j < n) (hp : p < n) : tr i j p < n := by
  unfold tr
  split
  · exact hj
  · split
    · exact hi
    · exact hp
theorem pm_sw {n i j s : Nat} {σ : Nat → Nat} (hi : i < n) (hj : j < n) (hij : i ≠ j) : pm n σ (sw i j s) = pm n (fun p => σ (tr i j p)) s := by
  apply tb_iff
  intro q
  rw [pm_iff, pm_iff]
  constructor
  · rintro ⟨h1, p, h2, h3, h4⟩
    rw [sw_bit hij] at h3
    exact ⟨h1, tr i j p, tr_lt hi hj h2, h3, by rw [tr_tr]; exact h4⟩
  · rintro ⟨h1, p, h2, h3, h4⟩
    refine ⟨h1, tr i j p, tr_lt hi hj h2, ?_, h4⟩
    rw [sw_bit hij, tr_tr]; exact h3
theorem sw_lt {n i j s : Nat} (hi : i < n) (hj : j < n) (hs : s < 2 ^ n) : sw i j s < 2 ^ n := by
  unfold sw
  split
  · exact hs
  · exact xlt hs (Nat.or_lt_two_pow (Nat.pow_lt_pow_right (by omega) hi) (Nat.pow_lt_pow_right (by omega) hj))
theorem sw_sw {i j s : Nat} (hij : i ≠ j) : sw i j (sw i j s) = s := by
  apply tb_iff
  intro q
  rw [sw_bit hij, sw_bit hij, tr_tr]
def swp (i j a : Nat) : Nat := bsn (fun s => a.testBit (sw i j s)) 64
theorem swp_lt (i j a : Nat) : swp i j a < 2 ^ 64 := bsn_lt _ _
theorem swp_bit {i j a s : Nat} (hs : s < 64) : (swp i j a).testBit s = a.testBit (sw i j s) := by rw [swp, bsn_bit]; simp [hs]
theorem swp_fam {n i j a : Nat} (hn : n ≤ 6) (hi : i < n) (hj : j < n) (hij : i ≠ j) (ha : a < 2 ^ 2 ^ n) : swp i j a < 2 ^ 2 ^ n := by
  have h6 := pow6 hn
  have : swp i j a = bsn (fun s => a.testBit (sw i j s)) (2 ^ n) := by
    refine tb_ext (n := 64) (swp_lt _ _ _) (Nat.lt_of_lt_of_le (bsn_lt _ _) (pp6 hn)) (fun s hs => ?_)
    rw [swp_bit hs, bsn_bit]
    by_cases h : s < 2 ^ n
    · simp [h]
    · have : ¬ sw i j s < 2 ^ n := fun q => h (by
        have := sw_lt hi hj q
        rwa [sw_sw hij] at this)
      rw [tb_hi ha (by omega)]
      simp [h]
  rw [this]
  exact bsn_lt _ _
/-- what the three pieces of swapped take -/
theorem sw1 : ∀ i, i < 6 → ∀ j, j < 6 → ∀ s, s < 64 → (j ≤ i ∨ 2 ^ j - 2 ^ i ≤ s ∨ s.testBit j = false ∨ s.testBit i = true) := by decide +kernel
theorem sw2 : ∀ i, i < 6 → ∀ j, j < 6 → ∀ s, s < 64 → (j ≤ i ∨ s < 2 ^ j - 2 ^ i ∨ ((s - (2 ^ j - 2 ^ i)).testBit i && !(s - (2 ^ j - 2 ^ i)).testBit j) = (s.testBit j && !s.testBit i)) := by decide +kernel
theorem sw3 : ∀ i, i < 6 → ∀ j, j < 6 → ∀ s, s < 64 → (j ≤ i ∨ s.testBit j = false ∨ s.testBit i = true ∨ s - (2 ^ j - 2 ^ i) = sw i j s) := by decide +kernel
theorem sw4 : ∀ i, i < 6 → ∀ j, j < 6 → ∀ s, s < 64 → (j ≤ i ∨ s.testBit i = false ∨ s.testBit j = true ∨ s + (2 ^ j - 2 ^ i) = sw i j s) := by decide +kernel
theorem sw4' : ∀ i, i < 6 → ∀ j, j < 6 → ∀ s, s < 64 → (j ≤ i ∨ s.testBit i = false ∨ s.testBit j = true ∨ s + (2 ^ j - 2 ^ i) < 64) := by decide +kernel
theorem sw5 : ∀ i, i < 6 → ∀ j, j < 6 → ∀ s, s < 64 → (j ≤ i ∨ 64 ≤ s + (2 ^ j - 2 ^ i) ∨ ((s + (2 ^ j - 2 ^ i)).testBit j && !(s + (2 ^ j - 2 ^ i)).testBit i) = (s.testBit i && !s.testBit j)) := by decide +kernel
theorem up_ok : ∀ i, i < 6 → ∀ j, j < 6 → (j ≤ i ∨ ((1 : Int32) <<< (nI j &&& 31)) - ((1 : Int32) <<< (nI i &&& 31)) = nI (2 ^ j - 2 ^ i) ∧ 2 ^ j - 2 ^ i < 64) := by decide +kernel
theorem v_swapped {i j a : Nat} (hi : i < 6) (hj : j < 6) (hij : i < j) (ha : a < 2 ^ 64) : m_X0_swapped (lN a) (nI i) (nI j) = some (lN (swp i j a)) := by
  unfold m_X0_swapped m_X0_swapped_0
  have hne : ¬ nI i = nI j := fun q => by
    have := (nI_eq (by omega) (by omega)).mp q; omega
  obtain ⟨u1, u2⟩ := (up_ok i hi j hj).resolve_left (by omega)
  rw [if_neg hne, ix_ok hi (by omega), ix_ok hj (by omega), ix_ok hj (by omega), ix_ok hi (by omega), nI_clamp (by omega), nI_clamp (by omega), u1, hv_not i hi, hv_not j hj, hv_lN i hi, hv_lN j hj, lN_m1]
  simp only [fb_andL, fb_orL, fb_xorL]
  rw [wb_shl _ u2, wb_shr (Nat.lt_of_le_of_lt Nat.and_le_left ha) u2, fb_orL, fb_orL]
  congr 1
  refine lN_mod64 (swp_lt _ _ _) (fun s hs => ?_)
  rw [swp_bit hs, Nat.testBit_or, Nat.testBit_or, Nat.testBit_and, Nat.testBit_xor, Nat.testBit_or, Nat.testBit_and, Nat.testBit_and, Nat.testBit_mul_two_pow, Nat.testBit_and, Nat.testBit_and, Nat.testBit_div_two_pow, Nat.testBit_and, Nat.testBit_and, Nat.testBit_two_pow_sub_one]
  rw [hv_bit i hi s hs, hv_bit j hj s hs, hvn_bit i hi s hs, hvn_bit j hj s hs, hv_bit i hi _ (show s - (2 ^ j - 2 ^ i) < 64 by omega), hvn_bit j hj _ (show s - (2 ^ j - 2 ^ i) < 64 by omega)]
  have f1 := (sw1 i hi j hj s hs).resolve_left (by omega)
  have f2 := (sw2 i hi j hj s hs).resolve_left (by omega)
  have f3 := (sw3 i hi j hj s hs).resolve_left (by omega)
  have f4 := (sw4 i hi j hj s hs).resolve_left (by omega)
  have f4' := (sw4' i hi j hj s hs).resolve_left (by omega)
  have f5 := (sw5 i hi j hj s hs).resolve_left (by omega)
  have t2 : (decide (s ≥ 2 ^ j - 2 ^ i) && (a.testBit (s - (2 ^ j - 2 ^ i)) && ((s - (2 ^ j - 2 ^ i)).testBit i && !(s - (2 ^ j - 2 ^ i)).testBit j))) = ((s.testBit j && !s.testBit i) && a.testBit (sw i j s)) := by
    by_cases q : 2 ^ j - 2 ^ i ≤ s
    · rw [f2.resolve_left (by omega), decide_eq_true q, Bool.true_and]
      cases b1 : s.testBit j with
      | false => simp
      | true =>
        cases b2 : s.testBit i with
        | true => simp
        | false =>
          have := (f3.resolve_left (by rw [b1]; decide)).resolve_left (by rw [b2]; decide)
          rw [this]; simp
    · have hd : decide (s ≥ 2 ^ j - 2 ^ i) = false := decide_eq_false q
      rw [hd, Bool.false_and]
      rcases f1.resolve_left q with z | z
      · rw [z]; rfl
      · rw [z]; simp
  have t3 : (a.testBit (s + (2 ^ j - 2 ^ i)) && ((hv j).testBit (s + (2 ^ j - 2 ^ i)) && (2 ^ 64 - 1 - hv i).testBit (s + (2 ^ j - 2 ^ i)))) = ((s.testBit i && !s.testBit j) && a.testBit (sw i j s)) := by
    by_cases q : s + (2 ^ j - 2 ^ i) < 64
    · rw [hv_bit j hj _ q, hvn_bit i hi _ q, f5.resolve_left (by omega)]
      cases b1 : s.testBit i with
      | false => simp
      | true =>
        cases b2 : s.testBit j with
        | true => simp
        | false =>
          have := (f4.resolve_left (by rw [b1]; decide)).resolve_left (by rw [b2]; decide)
          rw [this]; simp
    · rw [tb_hi ha (by omega), Bool.false_and]
      cases b1 : s.testBit i with
      | false => simp
      | true =>
        cases b2 : s.testBit j with
        | true => simp
        | false =>
          have := (f4'.resolve_left (by rw [b1]; decide)).resolve_left (by rw [b2]; decide)
          omega
  rw [t2, t3]
  unfold sw
  cases b1 : s.testBit i <;> cases b2 : s.testBit j <;> simp [hs]
/-! points from one on -/
def Alk (n a b frm : Nat) : Prop := ∃ σ, PermN n σ ∧ (∀ p, p < frm → σ p = p) ∧ Ren n a b σ
theorem PermN.trn {n i j : Nat} {σ : Nat → Nat} (h : PermN n σ) (hi : i < n) (hj : j < n) : PermN n (fun p => σ (tr i j p)) := by
  refine ⟨fun p hp => h.1 _ (tr_lt hi hj hp), fun p q hpq hq => ?_⟩
  have hne : tr i j p ≠ tr i j q := fun z => by
    have := congrArg (tr i j) z
    rw [tr_tr, tr_tr] at this
    omega
  have a := tr_lt hi hj (show p < n by omega)
  have b := tr_lt hi hj hq
  rcases Nat.lt_or_gt_of_ne hne with z | z
  · exact h.2 _ _ z b
  · exact fun e => h.2 _ _ z a e.symm
theorem Alk.step {n a b f : Nat} (hn : n ≤ 6) (ha : a < 2 ^ 2 ^ n) (hf : f < n) : Alk n a b f ↔ ∃ p, f ≤ p ∧ p < n ∧ Alk n (if p = f then a else swp f p a) b (f + 1) := by
  have h6 := pow6 hn
  constructor
  · rintro ⟨σ, hp, hfix, hr⟩
    obtain ⟨p, h1, h2⟩ := fb_onto hp.1 hp.2 hf
    have hge : f ≤ p := by
      apply Nat.le_of_not_lt
      intro q
      rw [hfix p q] at h2; omega
    refine ⟨p, hge, h1, ?_⟩
    by_cases e : p = f
    · subst e
      rw [if_pos rfl]
      refine ⟨σ, hp, fun q hq => ?_, hr⟩
      by_cases e : q = p
      · rw [e]; exact h2
      · exact hfix q (by omega)
    · rw [if_neg e]
      refine ⟨fun q => σ (tr f p q), hp.trn hf h1, fun q hq => ?_, fun s hs => ?_⟩
      · by_cases e2 : q = f
        · subst e2; simp only [tr, if_true]; exact h2
        · have e3 : q ≠ p := by omega
          simp only [tr, e2, e3, if_false]
          exact hfix q (by omega)
      · rw [swp_bit (by omega), hr _ (sw_lt hf h1 hs), pm_sw hf h1 (fun z => e z.symm)]
  · rintro ⟨p, hge, h1, σ, hp, hfix, hr⟩
    by_cases e : p = f
    · rw [if_pos e] at hr
      exact ⟨σ, hp, fun q hq => hfix q (by omega), hr⟩
    · rw [if_neg e] at hr
      have hne : f ≠ p := fun z => e z.symm
      refine ⟨fun q => σ (tr f p q), hp.trn hf h1, fun q hq => ?_, fun s hs => ?_⟩
      · have e2 : q ≠ f := by omega
        have e3 : q ≠ p := by omega
        simp only [tr, e2, e3, if_false]
        exact hfix q (by omega)
      · have := hr (sw f p s) (sw_lt hf h1 hs)
        rw [swp_bit (by have := sw_lt hf h1 hs; omega), sw_sw hne, pm_sw hf h1 hne] at this
        exact this
theorem Alk.all {n a b : Nat} (ha : a < 2 ^ 2 ^ n) (hb : b < 2 ^ 2 ^ n) {f : Nat} (hf : n ≤ f) : Alk n a b f ↔ a = b := by
  constructor
  · rintro ⟨σ, hp, hfix, hr⟩
    refine tb_ext ha hb (fun s hs => ?_)
    rw [hr s hs, pm_id (fun p h => hfix p (by omega)) hs]
  · rintro rfl
    exact ⟨fun p => p, ⟨fun p hp => hp, fun p q h1 h2 => Nat.ne_of_lt h1⟩, fun p _ => rfl, fun s hs => by rw [pm_id (fun p _ => rfl) hs]⟩
theorem Alk.same {n a f : Nat} : Alk n a a f := ⟨fun p => p, ⟨fun p hp => hp, fun p q h1 h2 => Nat.ne_of_lt h1⟩, fun p _ => rfl, fun s hs => by rw [pm_id (fun p _ => rfl) hs]⟩
theorem v_alike {n b : Nat} (hn : n ≤ 6) (hb : b < 2 ^ 2 ^ n) : ∀ (d f a : Nat), f ≤ n → n - f < d → a < 2 ^ 2 ^ n → ∃ r : Bool, m_X0_areAlike d (lN a) (lN b) (nI f) (nI n) = some (if r then 1 else 0) ∧ (r = true ↔ Alk n a b f)
  | 0, f, a, _, hd, _ => absurd hd (Nat.not_lt_zero _)
  | d + 1, f, a, hf, hd, ha => by
    have ha64 : a < 2 ^ 64 := Nat.lt_of_lt_of_le ha (pp6 hn)
    have hb64 : b < 2 ^ 64 := Nat.lt_of_lt_of_le hb (pp6 hn)
    show ∃ r : Bool, m_X0_areAlike_0 (m_X0_areAlike d) (lN a) (lN b) (nI f) (nI n) = some (if r then 1 else 0) ∧ (r = true ↔ Alk n a b f)
    unfold m_X0_areAlike_0
    simp only [cmp0, lN_inj64 ha64 hb64]
    by_cases e : a = b
    · subst e
      exact ⟨true, by simp, fun _ => Alk.same, fun _ => rfl⟩
    rw [if_neg e]
    have hlt : nI f < nI n ↔ f < n := by
      rw [Int32.lt_iff_toInt_lt, nI_toInt (by omega), nI_toInt (by omega)]; omega
    by_cases hfn : f < n
    case neg =>
      rw [if_neg (fun q => hfn (hlt.mp q))]
      refine ⟨false, rfl, ?_⟩
      rw [Alk.all ha hb (by omega)]
      simp [e]
    rw [if_pos (hlt.mpr hfn)]
    have hrec : ∀ p, f ≤ p → p < n → ∃ r : Bool, m_X0_areAlike d (lN (if p = f then a else swp f p a)) (lN b) (nI (f + 1)) (nI n) = some (if r then 1 else 0) ∧ (r = true ↔ Alk n (if p = f then a else swp f p a) b (f + 1)) := fun p hp hpn => by
      refine v_alike hn hb d (f + 1) _ (by omega) (by omega) ?_
      split
      · exact ha
      · exact swp_fam hn hfn hpn (by omega) ha
    have hsw : ∀ p, f ≤ p → p < n → m_X0_swapped (lN a) (nI f) (nI p) = some (lN (if p = f then a else swp f p a)) := fun p hp hpn => by
      by_cases e : p = f
      · subst e
        unfold m_X0_swapped m_X0_swapped_0
        rw [if_pos rfl, if_pos rfl]
      · rw [if_neg e, v_swapped (by omega) (by omega) (by omega) ha64]
    obtain ⟨r, hr, hpost⟩ := ruI (f := fun z => m_X0_areAlike_B21 (m_X0_areAlike d) (lN a) (lN b) (nI f) (nI n) z) (fun z => ∃ p, z = nI p ∧ f ≤ p ∧ p ≤ n ∧ ∀ p', f ≤ p' → p' < p → ¬ Alk n (if p' = f then a else swp f p' a) b (f + 1)) (fun r => (r = Sum.inl 1 ∧ Alk n a b f) ∨ (r = Sum.inr () ∧ ¬ Alk n a b f)) (fun z => n - z.toNatClampNeg) (by
      rintro z ⟨p, rfl, h1, h2, h3⟩
      unfold m_X0_areAlike_B21
      by_cases hp : p < n
      · rw [if_neg (nI_ge hp (by omega)), hsw p h1 hp, bd1_some, nI_1]
        obtain ⟨r, hr, hiff⟩ := hrec p h1 hp
        rw [hr, bd1_some]
        cases r with
        | true =>
          refine Or.inr ⟨Sum.inl 1, by simp, Or.inl ⟨rfl, ?_⟩⟩
          exact (Alk.step hn ha hfn).mpr ⟨p, h1, hp, hiff.mp rfl⟩
        | false =>
          refine Or.inl ⟨nI (p + 1), by simp [nI_1], ⟨p + 1, rfl, by omega, by omega, fun p' q1 q2 => ?_⟩, ?_⟩
          · by_cases e : p' = p
            · subst e
              intro q
              have := hiff.mpr q
              cases this
            · exact h3 p' q1 (by omega)
          · rw [nI_clamp (by omega), nI_clamp (by omega)]; omega
      · rw [if_pos (nI_le (by omega) (by omega))]
        refine Or.inr ⟨Sum.inr (), rfl, Or.inr ⟨rfl, fun q => ?_⟩⟩
        obtain ⟨p', q1, q2, q3⟩ := (Alk.step hn ha hfn).mp q
        exact h3 p' q1 (by omega) q3) gk_fu (nI f) ⟨f, rfl, Nat.le_refl f, by omega, fun p' q1 q2 => by omega⟩ (by rw [nI_clamp (by omega)]; show n - f < 800; omega)
    rw [hr]
    rcases hpost with ⟨rfl, q⟩ | ⟨rfl, q⟩
    · exact ⟨true, rfl, fun _ => q, fun _ => rfl⟩
    · exact ⟨false, rfl, ⟨fun z => (by cases z), fun z => absurd z q⟩⟩
/-! the reference: names -/
theorem shl01 : ∀ k, k < 6 → ((0 : Int32) <<< (nI k &&& 31) = 0) := by decide +kernel
theorem v_to {n s : Nat} {M : Nat → Int64} {N : Nat → Int32} {σ : Nat → Nat} {x1 x2 : Int32} (hn : n ≤ 6) (hs : s < 64) (hN : ∀ p, p < n → N p = nI (σ p)) (hσ : ∀ p, p < n → σ p < n) : gk_lp (fun z => m_X6_isRenamed_B18 (nI n) M N x1 x2 (nI s) z.1 z.2) gk_fu ((0 : Int32), (0 : Int32)) = some (nI (pm n σ s)) := by
  refine ru (fun i => (nI (bsn (pmP n σ s i) n), nI i)) n ?_ (by omega) (fun i hi => ?_) ?_
  · show _ = (nI (bsn (pmP n σ s 0) n), nI 0)
    have : bsn (pmP n σ s 0) n = 0 := tb_ext (n := n) (bsn_lt _ _) (Nat.two_pow_pos n) (fun q _ => by rw [bsn_bit, Nat.zero_testBit]; simp [pmP])
    rw [this]; rfl
  · show m_X6_isRenamed_B18 (nI n) M N x1 x2 (nI s) (nI (bsn (pmP n σ s i) n)) (nI i) = some (Sum.inl (nI (bsn (pmP n σ s (i + 1)) n), nI (i + 1)))
    unfold m_X6_isRenamed_B18
    have hsi := hσ i hi
    rw [if_neg (nI_ge hi (by omega)), ix_ok (show i < 6 by omega) (by omega), nI_clamp (by omega), hN i hi, bitI (by omega) (by omega), nI_1]
    have e : nI (if s.testBit i = true then 1 else 0) <<< (nI (σ i) &&& 31) = nI (if s.testBit i then 2 ^ σ i else 0) := by
      cases s.testBit i
      · exact shl01 _ (by omega)
      · exact shl1 (by omega)
    rw [e, fa_or]
    congr 4
    refine tb_ext (n := n) (Nat.or_lt_two_pow (bsn_lt _ _) ?_) (bsn_lt _ _) (fun q hq => ?_)
    · split
      · exact Nat.pow_lt_pow_right (by omega) hsi
      · exact Nat.two_pow_pos n
    · rw [Nat.testBit_or, bsn_bit, bsn_bit, Bool.eq_iff_iff]
      have e2 : (if s.testBit i = true then 2 ^ σ i else 0).testBit q = (s.testBit i && decide (σ i = q)) := by
        cases s.testBit i
        · simp
        · simp [Nat.testBit_two_pow]
      rw [e2, Bool.or_eq_true, Bool.and_eq_true, Bool.and_eq_true, Bool.and_eq_true, pmP, pmP, decide_eq_true_iff, decide_eq_true_iff, decide_eq_true_iff, decide_eq_true_iff]
      constructor
      · rintro (⟨-, p, h1, h2, h3⟩ | ⟨h1, h2⟩)
        · exact ⟨hq, p, by omega, h2, h3⟩
        · exact ⟨hq, i, by omega, h1, h2⟩
      · rintro ⟨-, p, h1, h2, h3⟩
        by_cases e : p = i
        · subst e; exact Or.inr ⟨h2, h3⟩
        · exact Or.inl ⟨hq, p, by omega, h2, h3⟩
  · show m_X6_isRenamed_B18 (nI n) M N x1 x2 (nI s) _ (nI n) = _
    unfold m_X6_isRenamed_B18
    rw [if_pos (nI_le (Nat.le_refl _) (by omega))]
    rfl
theorem v_renamed {n a b i j : Nat} {M : Nat → Int64} {N : Nat → Int32} {σ : Nat → Nat} (hn : n ≤ 6) (hi : i < 6) (hj : j < 6) (hA : M i = lN a) (hB : M j = lN b) (ha : a < 2 ^ 64) (hb : b < 2 ^ 64) (hN : ∀ p, p < n → N p = nI (σ p)) (hσ : ∀ p, p < n → σ p < n) : ∃ r : Bool, m_X6_isRenamed (nI n) M N (nI i) (nI j) = some (if r then 1 else 0) ∧ (r = true ↔ Ren n a b σ) := by
  have h6 := pow6 hn
  unfold m_X6_isRenamed m_X6_isRenamed_0
  have hst : ∀ s, s < 2 ^ n → m_X6_isRenamed_B2 (nI n) M N (nI i) (nI j) (nI s) = if a.testBit s = b.testBit (pm n σ s) then some (Sum.inl (nI (s + 1))) else some (Sum.inr (Sum.inl 0)) := fun s hs => by
    unfold m_X6_isRenamed_B2 m_X6_isRenamed_J52
    have := pm_lt n σ s
    rw [shl1 (by omega), if_neg (nI_ge hs (by omega)), v_to hn (by omega) hN hσ, bd1_some, v_isMember hi hA ha (by omega), bd1_some, v_isMember hj hB hb (by omega), bd1_some, nI_1]
    cases a.testBit s <;> cases b.testBit (pm n σ s) <;> rfl
  have hl : gk_bs0 (gk_lp (fun z => m_X6_isRenamed_B2 (nI n) M N (nI i) (nI j) z) gk_fu (0 : Int32)) (fun r => some r) (some (1 : Int32)) = match ffO (fun s => decide (¬ a.testBit s = b.testBit (pm n σ s))) (2 ^ n) with
      | some _ => some (0 : Int32)
      | none => some (1 : Int32) := by
    refine ruB (fun i => nI i) (fun s => decide (¬ a.testBit s = b.testBit (pm n σ s))) (fun _ => 0) (2 ^ n) rfl (by omega) (fun s hs _ hp => ?_) (fun s hs _ hp => ?_) (fun _ => ?_)
    · show m_X6_isRenamed_B2 (nI n) M N (nI i) (nI j) (nI s) = _
      have hp' : a.testBit s = b.testBit (pm n σ s) := by simpa using hp
      rw [hst s hs, if_pos hp']
    · show m_X6_isRenamed_B2 (nI n) M N (nI i) (nI j) (nI s) = _
      have hp' : ¬ a.testBit s = b.testBit (pm n σ s) := by simpa using hp
      rw [hst s hs, if_neg hp']
    · show m_X6_isRenamed_B2 (nI n) M N (nI i) (nI j) (nI (2 ^ n)) = _
      unfold m_X6_isRenamed_B2
      rw [shl1 (by omega), if_pos (nI_le (Nat.le_refl _) (by omega))]
  rw [hl]
  cases e : ffO (fun s => decide (¬ a.testBit s = b.testBit (pm n σ s))) (2 ^ n) with
  | none =>
    refine ⟨true, rfl, fun _ s hs => ?_, fun _ => rfl⟩
    have := ffO_none e s hs
    simpa using this
  | some s =>
    obtain ⟨h1, h2, -⟩ := ffO_some e
    refine ⟨false, rfl, ⟨fun z => (by cases z), fun z => ?_⟩⟩
    have h2' : ¬ a.testBit s = b.testBit (pm n σ s) := by simpa using h2
    exact absurd (z s h1) h2'
def Cmp (n a b : Nat) (τ : Nat → Nat) (k : Nat) : Prop := ∃ σ, PermN n σ ∧ (∀ p, p < k → σ p = τ p) ∧ Ren n a b σ
def usd (n : Nat) (τ : Nat → Nat) (k : Nat) : Nat := bsn (fun q => decide (∃ p, p < k ∧ τ p = q)) n
theorem usd_lt (n : Nat) (τ : Nat → Nat) (k : Nat) : usd n τ k < 2 ^ n := bsn_lt _ _
theorem usd_iff {n : Nat} {τ : Nat → Nat} {k q : Nat} : (usd n τ k).testBit q = true ↔ q < n ∧ ∃ p, p < k ∧ τ p = q := by
  rw [usd, bsn_bit, Bool.and_eq_true, decide_eq_true_iff, decide_eq_true_iff]
def stp (τ : Nat → Nat) (k v : Nat) : Nat → Nat := fun p => if p = k then v else τ p
theorem usd_s {n k v : Nat} {τ : Nat → Nat} (hv : v < n) : usd n τ k ||| 2 ^ v = usd n (stp τ k v) (k + 1) := by
  apply tb_iff
  intro q
  rw [fb_bit_set, Bool.or_eq_true, usd_iff, usd_iff, decide_eq_true_iff]
  constructor
  · rintro (⟨h1, p, h2, h3⟩ | h)
    · refine ⟨h1, p, by omega, ?_⟩
      have : p ≠ k := by omega
      simp only [stp, this, if_false]; exact h3
    · exact ⟨by omega, k, by omega, by simp [stp, h]⟩
  · rintro ⟨h1, p, h2, h3⟩
    by_cases e : p = k
    · subst e; simp only [stp, if_true] at h3; exact Or.inr h3.symm
    · simp only [stp, e, if_false] at h3
      exact Or.inl ⟨h1, p, by omega, h3⟩
def Inj (n : Nat) (τ : Nat → Nat) (k : Nat) : Prop := (∀ p, p < k → τ p < n) ∧ ∀ p q, p < q → q < k → τ p ≠ τ q
theorem v_alike6 {n a b i j : Nat} {M : Nat → Int64} (hn : n ≤ 6) (hi : i < 6) (hj : j < 6) (hA : M i = lN a) (hB : M j = lN b) (ha : a < 2 ^ 64) (hb : b < 2 ^ 64) : ∀ (d k : Nat) (τ : Nat → Nat) (N : Nat → Int32), k ≤ n → n - k < d → Inj n τ k → (∀ p, p < k → N p = nI (τ p)) → ∃ (r : Bool) (N' : Nat → Int32), m_X6_areAlike d (nI n) M N (nI i) (nI j) (nI k) (nI (usd n τ k)) = some (if r then 1 else 0, N') ∧ (r = true ↔ Cmp n a b τ k) ∧ ∀ p, p < k → N' p = nI (τ p)
  | 0, k, τ, N, _, hd, _, _ => absurd hd (Nat.not_lt_zero _)
  | d + 1, k, τ, N, hk, hd, hτ, hN => by
    have h6 := pow6 hn
    have hul := usd_lt n τ k
    show ∃ (r : Bool) (N' : Nat → Int32), m_X6_areAlike_0 (m_X6_areAlike d) (nI n) M N (nI i) (nI j) (nI k) (nI (usd n τ k)) = some (if r then 1 else 0, N') ∧ (r = true ↔ Cmp n a b τ k) ∧ ∀ p, p < k → N' p = nI (τ p)
    unfold m_X6_areAlike_0
    by_cases e : k = n
    · subst e
      rw [if_pos rfl]
      obtain ⟨r, h1, h2⟩ := v_renamed hn hi hj hA hB ha hb hN hτ.1
      rw [h1, bd1_some, bo01]
      refine ⟨r, N, rfl, ?_, hN⟩
      rw [h2]
      constructor
      · intro h; exact ⟨τ, hτ, fun _ _ => rfl, h⟩
      · rintro ⟨σ, q1, q2, q3⟩ s hs
        rw [q3 s hs, pm_cong s q2]
    · have hkn : k < n := by omega
      rw [if_neg (fun q => e ((nI_eq (by omega) (by omega)).mp q))]
      obtain ⟨r, hr, hpost⟩ := ruI (f := fun z => m_X6_areAlike_B18 (m_X6_areAlike d) (nI n) M (nI i) (nI j) (nI k) (nI (usd n τ k)) z.1 z.2) (fun z => ∃ p N', z = (nI p, N') ∧ p ≤ n ∧ (∀ q, q < k → N' q = nI (τ q)) ∧ ∀ p', p' < p → ¬ ∃ σ, PermN n σ ∧ (∀ q, q < k → σ q = τ q) ∧ σ k = p' ∧ Ren n a b σ) (fun r => (∃ N', r = Sum.inl (1, N') ∧ Cmp n a b τ k ∧ ∀ q, q < k → N' q = nI (τ q)) ∨ (∃ N', r = Sum.inr N' ∧ ¬ Cmp n a b τ k ∧ ∀ q, q < k → N' q = nI (τ q))) (fun z => n - z.1.toNatClampNeg) (by
        rintro z ⟨p, N', rfl, h2, h3, h4⟩
        show (∃ s', m_X6_areAlike_B18 (m_X6_areAlike d) (nI n) M (nI i) (nI j) (nI k) (nI (usd n τ k)) (nI p) N' = _ ∧ _) ∨ (∃ r, m_X6_areAlike_B18 (m_X6_areAlike d) (nI n) M (nI i) (nI j) (nI k) (nI (usd n τ k)) (nI p) N' = _ ∧ _)
        unfold m_X6_areAlike_B18
        by_cases hp : p < n
        · rw [if_neg (nI_ge hp (by omega)), ix_ok (show k < 6 by omega) (by omega), nI_clamp (by omega), nI_1, nI_1, shl1 (by omega), fa_or]
          simp only [bitI1 (show usd n τ k < 2 ^ 31 by omega) (show p < 31 by omega)]
          by_cases hu : (usd n τ k).testBit p = true
          · rw [if_pos hu]
            refine Or.inl ⟨(nI (p + 1), N'), rfl, ⟨p + 1, N', rfl, by omega, h3, fun p' hp' => ?_⟩, ?_⟩
            · by_cases e : p' = p
              · subst e
                rintro ⟨σ, q1, q2, q3, q4⟩
                obtain ⟨-, l, q5, q6⟩ := usd_iff.mp hu
                exact q1.2 l k q5 hkn (by rw [q2 l q5, q6, q3])
              · exact h4 p' (by omega)
            · show n - (nI (p + 1)).toNatClampNeg < n - (nI p).toNatClampNeg
              rw [nI_clamp (by omega), nI_clamp (by omega)]; omega
          · rw [if_neg hu, usd_s hp]
            have hnew : ∀ q, q < k → τ q ≠ p := fun q hq z => hu (usd_iff.mpr ⟨hp, q, hq, z⟩)
            have hτ' : Inj n (stp τ k p) (k + 1) := by
              constructor
              · intro q hq
                by_cases e : q = k
                · simp [stp, e]; exact hp
                · simp only [stp, e, if_false]; exact hτ.1 q (by omega)
              · intro q l hql hl
                have e1 : q ≠ k := by omega
                simp only [stp, e1, if_false]
                by_cases e2 : l = k
                · simp only [e2, if_true]; exact hnew q (by omega)
                · simp only [e2, if_false]; exact hτ.2 q l hql (by omega)
            have hN' : ∀ q, q < k + 1 → upd N' k (nI p) q = nI (stp τ k p q) := by
              intro q hq
              by_cases e : q = k
              · subst e; rw [pk_us]; simp [stp]
              · rw [pk_un e]; simp only [stp, e, if_false]; exact h3 q (by omega)
            obtain ⟨r, N2, r1, r2, r3⟩ := v_alike6 hn hi hj hA hB ha hb d (k + 1) (stp τ k p) (upd N' k (nI p)) (by omega) (by omega) hτ' hN'
            rw [r1, bd2_some]
            have hN2 : ∀ q, q < k → N2 q = nI (τ q) := fun q hq => by
              rw [r3 q (by omega)]
              have : q ≠ k := by omega
              simp only [stp, this, if_false]
            have hcmp : Cmp n a b (stp τ k p) (k + 1) ↔ ∃ σ, PermN n σ ∧ (∀ q, q < k → σ q = τ q) ∧ σ k = p ∧ Ren n a b σ := by
              constructor
              · rintro ⟨σ, q1, q2, q3⟩
                refine ⟨σ, q1, fun q hq => ?_, ?_, q3⟩
                · rw [q2 q (by omega)]
                  have : q ≠ k := by omega
                  simp only [stp, this, if_false]
                · rw [q2 k (by omega)]; simp [stp]
              · rintro ⟨σ, q1, q2, q3, q4⟩
                refine ⟨σ, q1, fun q hq => ?_, q4⟩
                by_cases e : q = k
                · subst e; simp only [stp, if_true]; exact q3
                · simp only [stp, e, if_false]; exact q2 q (by omega)
            cases r with
            | true =>
              refine Or.inr ⟨Sum.inl (1, N2), by simp, Or.inl ⟨N2, rfl, ?_, hN2⟩⟩
              obtain ⟨σ, q1, q2, -, q3⟩ := hcmp.mp (r2.mp rfl)
              exact ⟨σ, q1, q2, q3⟩
            | false =>
              refine Or.inl ⟨(nI (p + 1), N2), by simp, ⟨p + 1, N2, rfl, by omega, hN2, fun p' hp' => ?_⟩, ?_⟩
              · by_cases e : p' = p
                · subst e
                  intro z
                  have := r2.mpr (hcmp.mpr z)
                  cases this
                · exact h4 p' (by omega)
              · show n - (nI (p + 1)).toNatClampNeg < n - (nI p).toNatClampNeg
                rw [nI_clamp (by omega), nI_clamp (by omega)]; omega
        · rw [if_pos (nI_le (by omega) (by omega))]
          refine Or.inr ⟨Sum.inr N', rfl, Or.inr ⟨N', rfl, ?_, h3⟩⟩
          rintro ⟨σ, q1, q2, q3⟩
          exact h4 (σ k) (by have := q1.1 k hkn; omega) ⟨σ, q1, q2, rfl, q3⟩) gk_fu (nI 0, N) ⟨0, N, rfl, by omega, hN, fun p' hp' => absurd hp' (Nat.not_lt_zero _)⟩ (by
          show n - (nI 0).toNatClampNeg < 800
          rw [nI_clamp (by omega)]; omega)
      rw [show ((0 : Int32), N) = (nI 0, N) from rfl, hr]
      rcases hpost with ⟨N', rfl, q, q2⟩ | ⟨N', rfl, q, q2⟩
      · exact ⟨true, N', rfl, ⟨fun _ => q, fun _ => rfl⟩, q2⟩
      · exact ⟨false, N', rfl, ⟨fun z => (by cases z), fun z => absurd z q⟩, q2⟩
theorem o_same {n : Nat} {M : Nat → Int64} {K N : Nat → Int32} (hn : n ≤ 6) (hV : VF n M K) (x1 x2 x3 : Int32) : ∃ r N', m_X5_same (nI n) M K x1 x2 x3 = some r ∧ m_X6_same (nI n) M K N x1 x2 x3 = some (r, N') := by
  have h6 := pow6 hn
  unfold m_X5_same m_X5_same_0 m_X6_same m_X6_same_0
  simp only [v5_fam, v6_fam, bd1_some, q01, q10, show m_X6_isIn x3.toInt64 (0 : Int64) (2 : Int64) = _ from v6_in x3 2 (by omega)]
  have e3 : ∀ A B : Option Int32, (if x3 < 0 then A else if x3 ≤ 2 then B else A) = if fok (2 + 1) x3 = true then B else A := fun A B => sel_le x3 2 (by omega) A B
  rw [e3]
  by_cases h1 : fok 6 x1 = true
  case neg => exact ⟨-2, N, by simp [h1], by simp [h1]⟩
  by_cases h2 : fok 6 x2 = true
  case neg => exact ⟨-2, N, by simp [h1, h2], by simp [h1, h2]⟩
  by_cases h3 : fok (2 + 1) x3 = true
  case neg => exact ⟨-2, N, by simp only [h1, h2, h3, if_true, if_false, Bool.false_eq_true], by simp only [h1, h2, h3, if_true, not_true, if_false, Bool.false_eq_true, not_false_eq_true]⟩
  obtain ⟨i, hi, rfl⟩ := fok_ex (by omega) h1
  obtain ⟨j, hj, rfl⟩ := fok_ex (by omega) h2
  obtain ⟨⟨a, ha, hA⟩, -⟩ := hV i hi
  obtain ⟨⟨b, hb, hB⟩, -⟩ := hV j hj
  have ha64 : a < 2 ^ 64 := Nat.lt_of_lt_of_le ha (pp6 hn)
  have hb64 : b < 2 ^ 64 := Nat.lt_of_lt_of_le hb (pp6 hn)
  simp only [h1, h2, h3, if_true, not_true, if_false, v5_missing hi, v5_missing hj, bd1_some, q10, ix_ok hi (show 6 < 2 ^ 31 by omega), ix_ok hj (show 6 < 2 ^ 31 by omega), nI_clamp (show i < 2 ^ 31 by omega), nI_clamp (show j < 2 ^ 31 by omega), hA, hB]
  by_cases k1 : K i = -1
  · exact ⟨-11, N, by simp [k1], by simp [k1]⟩
  by_cases k2 : K j = -1
  · exact ⟨-11, N, by simp [k1, k2], by simp [k1, k2]⟩
  simp only [k1, k2, not_false_eq_true, if_true, if_false]
  by_cases w0 : x3 = 0
  · subst w0
    rw [if_pos rfl, if_neg (show ¬ (0 : Int32) = 1 by decide), if_pos rfl]
    split
    · exact ⟨_, _, rfl, rfl⟩
    · exact ⟨_, _, rfl, rfl⟩
  rw [if_neg w0]
  by_cases w1 : x3 = 1
  · subst w1
    rw [if_pos rfl, if_pos rfl]
    have hz : m_X0_leastTwist (lN a) (lN b) (nI n) = some (enc (ffO (fun s => decide (tw a s = b)) (2 ^ n))) := by
      unfold m_X0_leastTwist m_X0_leastTwist_0
      have hl : gk_bs0 (gk_lp (fun z => m_X0_leastTwist_B3 (lN a) (lN b) (nI n) z) gk_fu (0 : Int32)) (fun r => some r) (some (-1 : Int32)) = match ffO (fun s => decide (tw a s = b)) (2 ^ n) with
          | some i => some (nI i)
          | none => some (-1 : Int32) := by
        refine ruB (fun i => nI i) (fun s => decide (tw a s = b)) (fun i => nI i) (2 ^ n) rfl (by omega) (fun s hs _ hp => ?_) (fun s hs _ hp => ?_) (fun _ => ?_)
        · show m_X0_leastTwist_B3 (lN a) (lN b) (nI n) (nI s) = _
          unfold m_X0_leastTwist_B3
          have hp' : ¬ tw a s = b := by simpa using hp
          rw [shl1 (by omega), if_neg (nI_ge hs (by omega)), v5_tw ha64 (by omega), bd1_some, nI_1]
          simp only [cmp0, lN_inj64 (tw_lt a s) hb64, hp', if_false]
        · show m_X0_leastTwist_B3 (lN a) (lN b) (nI n) (nI s) = _
          unfold m_X0_leastTwist_B3
          have hp' : tw a s = b := by simpa using hp
          rw [shl1 (by omega), if_neg (nI_ge hs (by omega)), v5_tw ha64 (by omega), bd1_some]
          simp only [cmp0, lN_inj64 (tw_lt a s) hb64, hp', if_true]
        · show m_X0_leastTwist_B3 (lN a) (lN b) (nI n) (nI (2 ^ n)) = _
          unfold m_X0_leastTwist_B3
          rw [shl1 (by omega), if_pos (nI_le (Nat.le_refl _) (by omega))]
      rw [hl]
      cases ffO (fun s => decide (tw a s = b)) (2 ^ n) <;> rfl
    have hz6 : m_X6_twistTo (nI n) M (nI i) (nI j) = some (enc (ffO (fun s => decide (tw a s = b)) (2 ^ n))) := by
      unfold m_X6_twistTo m_X6_twistTo_0
      have hl : gk_bs0 (gk_lp (fun z => m_X6_twistTo_B2 (nI n) M (nI i) (nI j) z) gk_fu (0 : Int32)) (fun r => some r) (some (-1 : Int32)) = match ffO (fun s => decide (tw a s = b)) (2 ^ n) with
          | some i => some (nI i)
          | none => some (-1 : Int32) := by
        refine ruB (fun i => nI i) (fun s => decide (tw a s = b)) (fun i => nI i) (2 ^ n) rfl (by omega) (fun s hs _ hp => ?_) (fun s hs _ hp => ?_) (fun _ => ?_)
        · show m_X6_twistTo_B2 (nI n) M (nI i) (nI j) (nI s) = _
          unfold m_X6_twistTo_B2
          have hp' : ¬ tw a s = b := by simpa using hp
          rw [shl1 (by omega), if_neg (nI_ge hs (by omega)), ix_ok hi (by omega), nI_clamp (by omega), nI_clamp (by omega), hA, hB, v6_tw hn ha hs, bd1_some, ix_ok hj (by omega), nI_1]
          simp only [cmp0, lN_inj64 (tw_lt a s) hb64, hp', if_false]
        · show m_X6_twistTo_B2 (nI n) M (nI i) (nI j) (nI s) = _
          unfold m_X6_twistTo_B2
          have hp' : tw a s = b := by simpa using hp
          rw [shl1 (by omega), if_neg (nI_ge hs (by omega)), ix_ok hi (by omega), nI_clamp (by omega), nI_clamp (by omega), hA, hB, v6_tw hn ha hs, bd1_some, ix_ok hj (by omega)]
          simp only [cmp0, lN_inj64 (tw_lt a s) hb64, hp', if_true]
        · show m_X6_twistTo_B2 (nI n) M (nI i) (nI j) (nI (2 ^ n)) = _
          unfold m_X6_twistTo_B2
          rw [shl1 (by omega), if_pos (nI_le (Nat.le_refl _) (by omega))]
      rw [hl]
      cases ffO (fun s => decide (tw a s = b)) (2 ^ n) <;> rfl
    rw [hz, hz6]
    exact ⟨_, _, rfl, rfl⟩
  rw [if_neg w1, if_neg w1, if_neg w0]
  obtain ⟨r, q1, q2⟩ := v_alike hn hb 8 0 a (by omega) (by omega) ha
  obtain ⟨r', N', p1, p2, -⟩ := v_alike6 hn hi hj hA hB ha64 hb64 8 0 (fun p => p) N (by omega) (by omega) ⟨fun p hp => absurd hp (Nat.not_lt_zero _), fun p q _ hq => absurd hq (Nat.not_lt_zero _)⟩ (fun p hp => absurd hp (Nat.not_lt_zero _))
  have hu : usd n (fun p => p) 0 = 0 := tb_ext (n := n) (usd_lt _ _ _) (Nat.two_pow_pos n) (fun q _ => by rw [usd, bsn_bit, Nat.zero_testBit]; simp)
  rw [hu] at p1
  rw [show m_X0_areAlike 8 (lN a) (lN b) 0 (nI n) = _ from q1, show m_X6_areAlike 8 (nI n) M N (nI i) (nI j) 0 0 = _ from p1, bd1_some, bd2_some]
  have e : r = r' := by
    rw [Bool.eq_iff_iff, q2, p2]
    constructor
    · rintro ⟨σ, z1, -, z2⟩; exact ⟨σ, z1, fun p hp => absurd hp (Nat.not_lt_zero _), z2⟩
    · rintro ⟨σ, z1, -, z2⟩; exact ⟨σ, z1, fun p hp => absurd hp (Nat.not_lt_zero _), z2⟩
  subst e
  cases r
  · exact ⟨0, N', rfl, rfl⟩
  · exact ⟨1, N', rfl, rfl⟩
