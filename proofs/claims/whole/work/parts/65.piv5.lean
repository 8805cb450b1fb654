/-! ===== pivoting on a set ===== -/
theorem ph_z {t : Nat} (ht : t < 7) : (nI t = 0) ↔ ph t = 0 := by
  rw [show (0 : Int32) = nI 0 from rfl, nI_eq (by omega) (by omega)]
  constructor
  · intro z; rw [z]; rfl
  · intro z; exact ph_inj ht (by omega) z
theorem v_mate {T : Nat → Int32} {i L : Nat} (hT : TB T) (hi : i < 6) (hL : L < 64) : m_X4_mate T (nI i) (nI L) = some (enc (ffO (fun j => L.testBit j && decide (mt T i j ≠ 0)) 6)) := by
  unfold m_X4_mate m_X4_mate_0
  have hst : ∀ j, j < 6 → m_X4_mate_B2 T (nI i) (nI L) (nI j) = if L.testBit j = true ∧ mt T i j ≠ 0 then some (Sum.inr (Sum.inl (nI j))) else some (Sum.inl (nI (j + 1))) := fun j hj => by
    obtain ⟨t, a1, b1, d1⟩ := hT.at hi hj
    unfold m_X4_mate_B2
    rw [if_neg (gel 6 hj), a1, bd1_some, nI_1]
    simp only [bitI0 (show L < 2 ^ 31 by omega) (show j < 31 by omega), ph_z b1, d1]
    cases L.testBit j with
    | false => simp
    | true =>
      by_cases z : mt T i j = 0
      · simp [z]
      · simp [z]
  have hl : gk_bs0 (gk_lp (fun z => m_X4_mate_B2 T (nI i) (nI L) z) gk_fu (0 : Int32)) (fun r => some r) (some (-1 : Int32)) = match ffO (fun j => L.testBit j && decide (mt T i j ≠ 0)) 6 with
      | some i => some (nI i)
      | none => some (-1 : Int32) := by
    refine ruB (fun i => nI i) (fun j => L.testBit j && decide (mt T i j ≠ 0)) (fun i => nI i) 6 rfl (by omega) (fun j hj _ hp => ?_) (fun j hj _ hp => ?_) (fun _ => ?_)
    · show m_X4_mate_B2 T (nI i) (nI L) (nI j) = _
      rw [hst j hj, if_neg (fun z => by
        have hp' : (L.testBit j && decide (mt T i j ≠ 0)) = false := hp
        rw [z.1, decide_eq_true z.2] at hp'
        cases hp')]
    · show m_X4_mate_B2 T (nI i) (nI L) (nI j) = _
      rw [Bool.and_eq_true, decide_eq_true_iff] at hp
      rw [hst j hj, if_pos hp]
    · show m_X4_mate_B2 T (nI i) (nI L) (nI 6) = _
      unfold m_X4_mate_B2
      rw [if_pos (lel 6 (by omega))]
  rw [hl]
  cases ffO (fun j => L.testBit j && decide (mt T i j ≠ 0)) 6 <;> rfl
theorem ph_mod (a : Nat) : ph ((a % 7 : Nat) : Int) = ph a := by
  apply Fin.ext
  show ((((a % 7 : Nat) : Int)) % 7).toNat = ((a : Int) % 7).toNat
  omega
theorem lft_ok {L i j : Nat} (hL : L < 64) (hi : i < 6) (hj : j < 6) (hij : i ≠ j) (hi1 : L.testBit i = true) (hj1 : L.testBit j = true) : nI L &&& ((((1 : Int32) <<< (nI i &&& 31)) ||| ((1 : Int32) <<< (nI j &&& 31))) ^^^ (-1 : Int32)) = nI (L ^^^ 2 ^ i ^^^ 2 ^ j) := by
  rw [uv_I hi hj, nI_m1, fb_xorI, fa_and]
  congr 1
  refine tb_ext (n := 6) (Nat.lt_of_le_of_lt Nat.and_le_left hL) (xlt6 (xlt6 hL (p6 i hi)) (p6 j hj)) (fun q hq => ?_)
  have h32 : q < 32 := by omega
  rw [Nat.testBit_and, Nat.testBit_xor, Nat.testBit_two_pow_sub_one, fb_bit_flip, fb_bit_flip]
  unfold uv
  rw [Nat.testBit_or, Nat.testBit_two_pow, Nat.testBit_two_pow]
  by_cases q1 : q = i
  · subst q1
    have z : ¬ j = q := fun z => hij z.symm
    have z' : ¬ q = j := hij
    simp [hi1, h32, z, z']
  · by_cases q2 : q = j
    · subst q2
      have z : ¬ i = q := hij
      simp [hj1, h32, z, q1]
    · have z1 : ¬ i = q := fun z => q1 z.symm
      have z2 : ¬ j = q := fun z => q2 z.symm
      simp [h32, z1, z2, q1, q2]
/-- how the loop stands -/
def pin (M0 : Nat → Nat → F7) (T0 : Nat → Int32) (S : Nat) (i L pr : Nat) (T : Nat → Int32) : Prop :=
  i ≤ 6 ∧ L < 64 ∧ L % 2 ^ i = 0 ∧ (∀ q, L.testBit q = true → S.testBit q = true) ∧ pr < 7 ∧ pr ≠ 0 ∧ TB T ∧ (∀ q, 36 ≤ q → T q = T0 q) ∧ ph pr * wh7 (mt T) L = wh7 M0 S ∧ ∀ u v, GR (mt T) u v → GR M0 (mx (S ^^^ L) u v) (mx (S ^^^ L) v u)
theorem low_s {L i : Nat} (h : L % 2 ^ i = 0) (hb : L.testBit i = false) : L % 2 ^ (i + 1) = 0 := by
  apply Nat.eq_of_testBit_eq
  intro q
  rw [Nat.testBit_mod_two_pow, Nat.zero_testBit]
  by_cases q1 : q < i
  · rw [low0 h q1, Bool.and_false]
  · by_cases q2 : q = i
    · subst q2; rw [hb, Bool.and_false]
    · have : ¬ q < i + 1 := by omega
      simp [this]
theorem GR.congr {M M' : Nat → Nat → F7} {x y : Nat → F7} (e : ∀ a b, a < 6 → b < 6 → M a b = M' a b) (h : GR M x y) : GR M' x y := fun k hk => by
  rw [h k hk]
  exact s6_cong (fun l hl => by rw [e k l hk hl])
theorem wh7_congr {M M' : Nat → Nat → F7} {L : Nat} (hL : L < 64) (e : ∀ a b, a < 6 → b < 6 → M a b = M' a b) : wh7 M L = wh7 M' L :=
  eW_cols (C := L) onW 6 0 (fun q _ h2 _ c hc _ => e q c (by omega) hc) L (fun _ z => z)
theorem f7_ne {a b : F7} (ha : a ≠ 0) (hb : b ≠ 0) : a * b ≠ 0 := by
  revert a b
  decide
theorem v_pivotOn {T : Nat → Int32} {S : Nat} (hT : TB T) (hS : S < 64) : ∃ pr T', m_X4_pivotOn T (nI S) = some (nI pr, T') ∧ pr < 7 ∧ ph pr = wh7 (mt T) S ∧ (pr ≠ 0 → TB T' ∧ (∀ q, 36 ≤ q → T' q = T q) ∧ ∀ u v, GR (mt T') u v → GR (mt T) (mx S u v) (mx S v u)) := by
  unfold m_X4_pivotOn m_X4_pivotOn_0
  obtain ⟨r, h1, h2⟩ := ruI (f := fun z => m_X4_pivotOn_B7 z.1 z.2.1 z.2.2.1 z.2.2.2) (fun z => ∃ i L pr T1, z = (nI pr, nI L, nI i, T1) ∧ pin (mt T) T S i L pr T1) (fun r => (∃ T1, r = Sum.inl (0, T1) ∧ wh7 (mt T) S = 0) ∨ (∃ pr T1, r = Sum.inr (nI pr, T1) ∧ pin (mt T) T S 6 0 pr T1)) (fun z => 6 - z.2.2.1.toNatClampNeg) (by
    rintro z ⟨i, L, pr, T1, rfl, hI⟩
    obtain ⟨hi6, hL, hlow, hsub, hpr, hpr0, hT1, hq, hdet, hgr⟩ := hI
    show (∃ s', m_X4_pivotOn_B7 (nI pr) (nI L) (nI i) T1 = _ ∧ _) ∨ (∃ r, m_X4_pivotOn_B7 (nI pr) (nI L) (nI i) T1 = _ ∧ _)
    unfold m_X4_pivotOn_B7
    by_cases e6 : i = 6
    · subst e6
      have hL0 : L = 0 := by
        have : L % 2 ^ 6 = L := Nat.mod_eq_of_lt hL
        omega
      subst hL0
      rw [if_pos (lel 6 (by omega))]
      exact Or.inr ⟨_, rfl, Or.inr ⟨pr, T1, rfl, hi6, hL, hlow, hsub, hpr, hpr0, hT1, hq, hdet, hgr⟩⟩
    have hi : i < 6 := by omega
    rw [if_neg (gel 6 hi), nI_1]
    have hb0 := bitI0 (show L < 2 ^ 31 by omega) (show i < 31 by omega)
    cases hbit : L.testBit i with
    | false =>
      rw [if_pos (hb0.mpr hbit)]
      refine Or.inl ⟨(nI pr, nI L, nI (i + 1), T1), rfl, ⟨i + 1, L, pr, T1, rfl, by omega, hL, low_s hlow hbit, hsub, hpr, hpr0, hT1, hq, hdet, hgr⟩, ?_⟩
      show 6 - (nI (i + 1)).toNatClampNeg < 6 - (nI i).toNatClampNeg
      rw [nI_clamp (by omega), nI_clamp (by omega)]; omega
    | true =>
      rw [if_neg (fun z => by rw [hb0.mp z] at hbit; cases hbit), v_mate hT1 hi hL, bd1_some]
      have hM : ∀ a b, a < 6 → b < 6 → mt T1 a b = - mt T1 b a := fun a b ha hb => (hT1 a b ha hb).2
      cases e : ffO (fun j => L.testBit j && decide (mt T1 i j ≠ 0)) 6 with
      | none =>
        rw [if_pos (show enc none = -1 from rfl)]
        refine Or.inr ⟨_, rfl, Or.inl ⟨T1, rfl, ?_⟩⟩
        rw [← hdet, wh7_row hi hbit (fun q hq6 hqb => by
          have := ffO_none e q hq6
          rw [hqb, Bool.true_and, decide_eq_false_iff_not] at this
          exact Classical.byContradiction (fun z => this z))]
        grind
      | some j =>
        obtain ⟨hj, hp, -⟩ := ffO_some e
        rw [Bool.and_eq_true, decide_eq_true_iff] at hp
        obtain ⟨hjb, hm0⟩ := hp
        have hij : i ≠ j := fun z => by rw [← z] at hm0; exact hm0 (hT1.diag hi)
        have hlt : i < j := by
          apply Nat.lt_of_not_le
          intro z
          rw [low0 hlow (show j < i by omega)] at hjb; cases hjb
        obtain ⟨t, a1, b1, d1⟩ := hT1.at hi hj
        obtain ⟨T2, w, g1, g2, g3, g4, g5⟩ := v_two hi hj hij hT1
        have hw := g4.resolve_left hm0
        rw [show enc (some j) = nI j from rfl, if_neg (nI_ne (by omega)), a1, bd1_some, bd1_some, nz7, g1, bd1_some, lft_ok hL hi hj hij hbit hjb]
        have hprod : nI pr * nI t * nI t - nI pr * nI t * nI t / 7 * 7 = nI (pr * t * t % 7) := by
          have z1 : pr * t ≤ 6 * 6 := Nat.mul_le_mul (by omega) (by omega)
          have z2 : pr * t * t ≤ 36 * 6 := Nat.mul_le_mul z1 (by omega)
          rw [pk_mul, pk_mul, show (7 : Int32) = nI 7 from rfl, pk_rem (by omega) (by omega) (by omega)]
        rw [hprod]
        have hphi : ph ((pr * t * t % 7 : Nat) : Int) = ph pr * mt T1 i j * mt T1 i j := by
          rw [ph_mod, Int.natCast_mul, Int.natCast_mul, ph_mul, ph_mul, d1]
        have hLb : ∀ q, (L ^^^ 2 ^ i ^^^ 2 ^ j).testBit q = (L.testBit q && decide (q ≠ i ∧ q ≠ j)) := fun q => by
          rw [fb_bit_flip, fb_bit_flip]
          by_cases q1 : q = i
          · subst q1
            have : q ≠ j := hij
            simp [hbit, this]
          · by_cases q2 : q = j
            · subst q2; simp [hjb, q1]
            · simp [q1, q2]
        refine Or.inl ⟨_, rfl, ⟨i + 1, L ^^^ 2 ^ i ^^^ 2 ^ j, pr * t * t % 7, T2, rfl, by omega, xlt6 (xlt6 hL (p6 i hi)) (p6 j hj), ?_, fun q hqb => ?_, Nat.mod_lt _ (by omega), ?_, g2, fun q h36 => by rw [g3 q h36, hq q h36], ?_, fun u v huv => ?_⟩, ?_⟩
        · apply Nat.eq_of_testBit_eq
          intro q
          rw [Nat.testBit_mod_two_pow, hLb, Nat.zero_testBit]
          by_cases q1 : q < i
          · rw [low0 hlow q1]; simp
          · by_cases q2 : q = i
            · simp [q2]
            · have : ¬ q < i + 1 := by omega
              simp [this]
        · rw [hLb, Bool.and_eq_true] at hqb
          exact hsub q hqb.1
        · intro z
          have : ph ((pr * t * t % 7 : Nat) : Int) = 0 := by rw [z]; rfl
          rw [hphi] at this
          have hp7 : ph pr ≠ 0 := fun y => hpr0 (ph_inj hpr (by omega) y)
          exact f7_ne (f7_ne hp7 hm0) hm0 this
        · rw [hphi, wh7_congr (xlt6 (xlt6 hL (p6 i hi)) (p6 j hj)) g5, ← hdet, schur hM hL hi hj hlt hbit hjb hlow hw]
          grind
        · have h1 := GR.two hM hi hj hij hw (huv.congr g5)
          have h2 := hgr _ _ h1
          have hmx : ∀ u v : Nat → F7, mx (S ^^^ L) (x2 i j u v) (x2 i j v u) = mx (S ^^^ (L ^^^ 2 ^ i ^^^ 2 ^ j)) u v := fun u v => by
            funext q
            unfold mx x2
            rw [Nat.testBit_xor, Nat.testBit_xor, hLb]
            by_cases q1 : q = i
            · subst q1
              have := hsub q hbit
              simp [this, hbit]
            · by_cases q2 : q = j
              · subst q2
                have := hsub q hjb
                simp [this, hjb]
              · simp [q1, q2]
          rw [hmx, hmx] at h2
          exact h2
        · show 6 - (nI (i + 1)).toNatClampNeg < 6 - (nI i).toNatClampNeg
          rw [nI_clamp (by omega), nI_clamp (by omega)]; omega) gk_fu ((1 : Int32), nI S, (0 : Int32), T) ⟨0, S, 1, T, rfl, by omega, hS, by rw [Nat.pow_zero, Nat.mod_one], fun _ z => z, by omega, by omega, hT, fun _ _ => rfl, by
        have : ph ((1 : Nat) : Int) = 1 := rfl
        rw [this]; grind, fun u v h => by
        have hz : ∀ u v : Nat → F7, mx (S ^^^ S) u v = u := fun u v => by
          funext q
          unfold mx
          rw [Nat.xor_self, Nat.zero_testBit]
          rfl
        rw [hz, hz]; exact h⟩ (by show 6 - (nI 0).toNatClampNeg < 800; rw [nI_clamp (by omega)]; omega)
  rw [h1]
  rcases h2 with ⟨T1, rfl, hz⟩ | ⟨pr, T1, rfl, hI⟩
  · exact ⟨0, T1, rfl, by omega, by rw [hz]; rfl, fun z => absurd rfl z⟩
  · obtain ⟨-, -, -, -, hpr, hpr0, hT1, hq, hdet, hgr⟩ := hI
    refine ⟨pr, T1, rfl, hpr, ?_, fun _ => ⟨hT1, hq, ?_⟩⟩
    · rw [wh7_0] at hdet
      rw [← hdet]; grind
    · rw [Nat.xor_zero] at hgr
      exact hgr
