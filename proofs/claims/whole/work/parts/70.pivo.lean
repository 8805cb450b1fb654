/-! ===== the reference's pivot ===== -/
/-- entries of a 6 by 6 row as numbers -/
def EN (Q : Nat → Int32) (A : Nat → Nat → F7) : Prop := ∀ i j, i < 6 → j < 6 → ∃ t, t < 7 ∧ Q (6 * i + j) = nI t ∧ ph t = A i j
theorem v_sums {n : Nat} {f g : Nat → Nat} (hn : n ≤ 6) (hf : ∀ k, k < 6 → f k < 7) (hg : ∀ k, k < 6 → g k < 7) : ∀ m, m ≤ 6 → ∃ z : Int32, z.toInt = fb_si (fun k => (f k : Int) * g k) m ∧ 0 ≤ z.toInt ∧ z.toInt ≤ 36 * m := by
  intro m
  induction m with
  | zero => intro _; exact ⟨0, rfl, by decide, by decide⟩
  | succ m ih =>
    intro hm
    obtain ⟨z, h1, h2, h3⟩ := ih (by omega)
    have hb := ml7 (hf m (by omega)) (hg m (by omega))
    have e : (z + nI (f m) * nI (g m)).toInt = z.toInt + (f m : Int) * g m := by
      rw [fb_addI (by rw [nI_mulI (hf m (by omega)) (hg m (by omega))]; omega) (by rw [nI_mulI (hf m (by omega)) (hg m (by omega))]; omega), nI_mulI (hf m (by omega)) (hg m (by omega))]
    refine ⟨z + nI (f m) * nI (g m), ?_, ?_, ?_⟩
    · rw [e, h1]; rfl
    · rw [e]; omega
    · rw [e]; push_cast; omega
theorem ph_si (f g : Nat → Nat) : ∀ m, ph (fb_si (fun k => (f k : Int) * g k) m) = sK (fun k => ph (f k) * ph (g k)) m
  | 0 => rfl
  | m + 1 => by rw [fb_si_succ, ph_add, ph_si f g m, ph_mul]; rfl
theorem sK_n {n : Nat} {f : Nat → F7} (hn : n ≤ 6) (hz : ∀ k, n ≤ k → k < 6 → f k = 0) : sK f n = s6 f := by
  rw [← sK_6]
  have key : ∀ d, n + d ≤ 6 → sK f (n + d) = sK f n := by
    intro d
    induction d with
    | zero => intro _; rfl
    | succ d ih =>
      intro h
      rw [show n + (d + 1) = (n + d) + 1 by omega, sK, ih (by omega), hz (n + d) (by omega) (by omega)]
      grind
  have := key (6 - n) (by omega)
  rw [show n + (6 - n) = 6 by omega] at this
  exact this.symm
theorem v_times {n i j : Nat} {U F : Nat → Int32} {M FU : Nat → Nat → F7} (hn : n ≤ 6) (hi : i < 6) (hj : j < 6) (hU : EN U M) (hF : EN F FU) (hz : ∀ a b, a < 6 → b < 6 → n ≤ a → M a b = 0) : ∃ t, t < 7 ∧ m_X6_times (nI n) U F (nI i) (nI j) = some (nI t) ∧ ph t = tiM FU M i j := by
  obtain ⟨f, hf⟩ : ∃ f : Nat → Nat, ∀ k, k < 6 → f k < 7 ∧ F (6 * i + k) = nI (f k) ∧ ph (f k) = FU i k := by
    refine ⟨fun k => (F (6 * i + k)).toInt.toNat, fun k hk => ?_⟩
    obtain ⟨t, t1, t2, t3⟩ := hF i k hi hk
    have : (F (6 * i + k)).toInt.toNat = t := by rw [t2, nI_toInt (by omega)]; omega
    dsimp only
    rw [this]
    exact ⟨t1, t2, t3⟩
  obtain ⟨g, hg⟩ : ∃ g : Nat → Nat, ∀ k, k < 6 → g k < 7 ∧ U (6 * k + j) = nI (g k) ∧ ph (g k) = M k j := by
    refine ⟨fun k => (U (6 * k + j)).toInt.toNat, fun k hk => ?_⟩
    obtain ⟨t, t1, t2, t3⟩ := hU k j hk hj
    have : (U (6 * k + j)).toInt.toNat = t := by rw [t2, nI_toInt (by omega)]; omega
    dsimp only
    rw [this]
    exact ⟨t1, t2, t3⟩
  obtain ⟨o, h1, h2, h3, h4⟩ := ruP (f := fun z => m_X6_times_B5 (nI n) U F (nI i) (nI j) z.1 z.2) (fun m z => z.2 = nI m ∧ z.1.toInt = fb_si (fun k => (f k : Int) * g k) m ∧ 0 ≤ z.1.toInt ∧ z.1.toInt ≤ 36 * m) (fun o => o.toInt = fb_si (fun k => (f k : Int) * g k) n ∧ 0 ≤ o.toInt ∧ o.toInt ≤ 36 * n) n (s0 := ((0 : Int32), (0 : Int32))) (by omega) ⟨rfl, rfl, by decide, by decide⟩ (by
    rintro m ⟨z, y⟩ hm ⟨rfl, z1, z2, z3⟩
    have z1 : z.toInt = fb_si (fun k => (f k : Int) * g k) m := z1
    have z2 : 0 ≤ z.toInt := z2
    have z3 : z.toInt ≤ 36 * m := z3
    show ∃ s', m_X6_times_B5 (nI n) U F (nI i) (nI j) z (nI m) = _ ∧ _
    obtain ⟨f1, f2, -⟩ := hf m (by omega)
    obtain ⟨g1, g2, -⟩ := hg m (by omega)
    have hb := ml7 f1 g1
    have e : (z + nI (f m) * nI (g m)).toInt = z.toInt + (f m : Int) * g m := by
      rw [fb_addI (by rw [nI_mulI f1 g1]; omega) (by rw [nI_mulI f1 g1]; omega), nI_mulI f1 g1]
    unfold m_X6_times_B5
    rw [if_neg (nI_ge hm (by omega)), ixy hi (show m < 6 by omega), ixy (show m < 6 by omega) hj, ix_ok (show 6 * i + m < 36 by omega) (by omega), ix_ok (show 6 * m + j < 36 by omega) (by omega), nI_clamp (by omega), nI_clamp (by omega), f2, g2, nI_1]
    refine ⟨_, rfl, rfl, ?_, ?_, ?_⟩
    · show (z + nI (f m) * nI (g m)).toInt = _
      rw [e, z1]; rfl
    · show 0 ≤ (z + nI (f m) * nI (g m)).toInt
      rw [e]; omega
    · show (z + nI (f m) * nI (g m)).toInt ≤ _
      rw [e]; push_cast; omega) (by
    rintro ⟨z, y⟩ ⟨rfl, hz⟩
    refine ⟨z, ?_, hz⟩
    show m_X6_times_B5 (nI n) U F (nI i) (nI j) z (nI n) = _
    unfold m_X6_times_B5
    rw [if_pos (nI_le (Nat.le_refl _) (by omega))])
  unfold m_X6_times m_X6_times_0
  obtain ⟨t, t1, -, t2, t3⟩ := mod_ok (x := o) (by omega)
  rw [h1, bd1_some, t2, bd1_some]
  refine ⟨t, t1, rfl, ?_⟩
  rw [t3, h2, ph_si]
  have e : sK (fun k => ph (f k) * ph (g k)) n = s6 (fun k => ph (f k) * ph (g k)) := sK_n hn (fun k h1 h2 => by
    rw [(hg k h2).2.2, hz k j h2 hj h1]; grind)
  rw [e]
  exact s6_cong (fun k hk => by rw [(hf k hk).2.2, (hg k hk).2.2])
theorem v_timesB {n i j : Nat} {U F : Nat → Int32} {M FU : Nat → Nat → F7} (hn : n ≤ 6) (hi : i < 6) (hj : j < 6) (hU : EN U M) (hF : EN F FU) (hz : ∀ a b, a < 6 → b < 6 → n ≤ b → M a b = 0) : ∃ t, t < 7 ∧ m_X6_timesBehind (nI n) U F (nI i) (nI j) = some (nI t) ∧ ph t = s6 (fun q => M i q * FU q j) := by
  obtain ⟨f, hf⟩ : ∃ f : Nat → Nat, ∀ k, k < 6 → f k < 7 ∧ U (6 * i + k) = nI (f k) ∧ ph (f k) = M i k := by
    refine ⟨fun k => (U (6 * i + k)).toInt.toNat, fun k hk => ?_⟩
    obtain ⟨t, t1, t2, t3⟩ := hU i k hi hk
    have : (U (6 * i + k)).toInt.toNat = t := by rw [t2, nI_toInt (by omega)]; omega
    dsimp only
    rw [this]
    exact ⟨t1, t2, t3⟩
  obtain ⟨g, hg⟩ : ∃ g : Nat → Nat, ∀ k, k < 6 → g k < 7 ∧ F (6 * k + j) = nI (g k) ∧ ph (g k) = FU k j := by
    refine ⟨fun k => (F (6 * k + j)).toInt.toNat, fun k hk => ?_⟩
    obtain ⟨t, t1, t2, t3⟩ := hF k j hk hj
    have : (F (6 * k + j)).toInt.toNat = t := by rw [t2, nI_toInt (by omega)]; omega
    dsimp only
    rw [this]
    exact ⟨t1, t2, t3⟩
  obtain ⟨o, h1, h2, h3, h4⟩ := ruP (f := fun z => m_X6_timesBehind_B5 (nI n) U F (nI i) (nI j) z.1 z.2) (fun m z => z.2 = nI m ∧ z.1.toInt = fb_si (fun k => (f k : Int) * g k) m ∧ 0 ≤ z.1.toInt ∧ z.1.toInt ≤ 36 * m) (fun o => o.toInt = fb_si (fun k => (f k : Int) * g k) n ∧ 0 ≤ o.toInt ∧ o.toInt ≤ 36 * n) n (s0 := ((0 : Int32), (0 : Int32))) (by omega) ⟨rfl, rfl, by decide, by decide⟩ (by
    rintro m ⟨z, y⟩ hm ⟨rfl, z1, z2, z3⟩
    have z1 : z.toInt = fb_si (fun k => (f k : Int) * g k) m := z1
    have z2 : 0 ≤ z.toInt := z2
    have z3 : z.toInt ≤ 36 * m := z3
    show ∃ s', m_X6_timesBehind_B5 (nI n) U F (nI i) (nI j) z (nI m) = _ ∧ _
    obtain ⟨f1, f2, -⟩ := hf m (by omega)
    obtain ⟨g1, g2, -⟩ := hg m (by omega)
    have hb := ml7 f1 g1
    have e : (z + nI (f m) * nI (g m)).toInt = z.toInt + (f m : Int) * g m := by
      rw [fb_addI (by rw [nI_mulI f1 g1]; omega) (by rw [nI_mulI f1 g1]; omega), nI_mulI f1 g1]
    unfold m_X6_timesBehind_B5
    rw [if_neg (nI_ge hm (by omega)), ixy hi (show m < 6 by omega), ixy (show m < 6 by omega) hj, ix_ok (show 6 * i + m < 36 by omega) (by omega), ix_ok (show 6 * m + j < 36 by omega) (by omega), nI_clamp (by omega), nI_clamp (by omega), f2, g2, nI_1]
    refine ⟨_, rfl, rfl, ?_, ?_, ?_⟩
    · show (z + nI (f m) * nI (g m)).toInt = _
      rw [e, z1]; rfl
    · show 0 ≤ (z + nI (f m) * nI (g m)).toInt
      rw [e]; omega
    · show (z + nI (f m) * nI (g m)).toInt ≤ _
      rw [e]; push_cast; omega) (by
    rintro ⟨z, y⟩ ⟨rfl, hz⟩
    refine ⟨z, ?_, hz⟩
    show m_X6_timesBehind_B5 (nI n) U F (nI i) (nI j) z (nI n) = _
    unfold m_X6_timesBehind_B5
    rw [if_pos (nI_le (Nat.le_refl _) (by omega))])
  unfold m_X6_timesBehind m_X6_timesBehind_0
  obtain ⟨t, t1, -, t2, t3⟩ := mod_ok (x := o) (by omega)
  rw [h1, bd1_some, t2, bd1_some]
  refine ⟨t, t1, rfl, ?_⟩
  rw [t3, h2, ph_si]
  have e : sK (fun k => ph (f k) * ph (g k)) n = s6 (fun k => ph (f k) * ph (g k)) := sK_n hn (fun k h1 h2 => by
    rw [(hf k h2).2.2, hz i k hi h2 h1]; grind)
  rw [e]
  exact s6_cong (fun k hk => by rw [(hf k hk).2.2, (hg k hk).2.2])
theorem v_rest {n i j : Nat} {U F : Nat → Int32} {M FU : Nat → Nat → F7} (hn : n ≤ 6) (hi : i < 6) (hj : j < 6) (hU : EN U M) (hF : EN F FU) (hz : ∀ a b, a < 6 → b < 6 → (n ≤ a ∨ n ≤ b) → M a b = 0) : ∃ t, t < 7 ∧ m_X6_rest (nI n) U F (nI i) (nI j) = some (nI t) ∧ ph t = M i j - s6 (fun q => M i q * tiM FU M q j) := by
  obtain ⟨t0, a1, a2, a3⟩ := hU i j hi hj
  obtain ⟨o, h1, h2, h3, h4⟩ := ruP (f := fun z => m_X6_rest_B15 (nI n) U F (nI i) (nI j) z.1 z.2) (fun m z => z.2 = nI m ∧ ph z.1.toInt = M i j - sK (fun q => M i q * tiM FU M q j) m ∧ -36 * m ≤ z.1.toInt ∧ z.1.toInt ≤ 6) (fun o => ph o.toInt = M i j - sK (fun q => M i q * tiM FU M q j) n ∧ -36 * n ≤ o.toInt ∧ o.toInt ≤ 6) n (s0 := (nI t0, (0 : Int32))) (by omega) ⟨rfl, by
      show ph (nI t0).toInt = M i j - 0
      rw [nI_toInt (by omega), a3]; grind, by show -36 * ((0 : Nat) : Int) ≤ (nI t0).toInt; rw [nI_toInt (by omega)]; omega, by show (nI t0).toInt ≤ 6; rw [nI_toInt (by omega)]; omega⟩ (by
    rintro m ⟨z, y⟩ hm ⟨rfl, z1, z2, z3⟩
    have z1 : ph z.toInt = M i j - sK (fun q => M i q * tiM FU M q j) m := z1
    have z2 : -36 * m ≤ z.toInt := z2
    have z3 : z.toInt ≤ 6 := z3
    show ∃ s', m_X6_rest_B15 (nI n) U F (nI i) (nI j) z (nI m) = _ ∧ _
    obtain ⟨u, u1, u2, u3⟩ := hU i m hi (show m < 6 by omega)
    obtain ⟨s, s1, s2, s3⟩ := v_times hn (show m < 6 by omega) hj hU hF (fun a b ha hb h => hz a b ha hb (Or.inl h))
    have hb := ml7 u1 s1
    have e : (z - nI u * nI s).toInt = z.toInt - (u : Int) * s := by
      rw [fb_subI (by rw [nI_mulI u1 s1]; omega) (by rw [nI_mulI u1 s1]; omega), nI_mulI u1 s1]
    unfold m_X6_rest_B15
    rw [if_neg (nI_ge hm (by omega)), ixy hi (show m < 6 by omega), ix_ok (show 6 * i + m < 36 by omega) (by omega), nI_clamp (by omega), u2, s2, bd1_some, nI_1]
    refine ⟨_, rfl, rfl, ?_, ?_, ?_⟩
    · show ph (z - nI u * nI s).toInt = M i j - (sK (fun q => M i q * tiM FU M q j) m + M i m * tiM FU M m j)
      rw [e, ph_sub, ph_mul, z1, u3, s3]; grind
    · show _ ≤ (z - nI u * nI s).toInt
      rw [e]; push_cast; omega
    · show (z - nI u * nI s).toInt ≤ 6
      rw [e]; omega) (by
    rintro ⟨z, y⟩ ⟨rfl, hz⟩
    refine ⟨z, ?_, hz⟩
    show m_X6_rest_B15 (nI n) U F (nI i) (nI j) z (nI n) = _
    unfold m_X6_rest_B15
    rw [if_pos (nI_le (Nat.le_refl _) (by omega))])
  unfold m_X6_rest m_X6_rest_0
  obtain ⟨t, t1, -, t2, t3⟩ := mod_ok (x := o) (by omega)
  rw [ixy hi hj, ix_ok (show 6 * i + j < 36 by omega) (by omega), nI_clamp (by omega), a2, h1, bd1_some, t2, bd1_some]
  refine ⟨t, t1, rfl, ?_⟩
  rw [t3, h2, sK_n hn (fun k h1 h2 => by rw [hz i k hi h2 (Or.inr h1)]; grind)]
