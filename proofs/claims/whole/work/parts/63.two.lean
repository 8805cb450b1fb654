/-! ===== pivoting on two points: the loops ===== -/
theorem dnT_k {i j k a b : Nat} (ha : a < 6) (hb : b < 6) : dnT i j k 6 a b ↔ dnT i j (k + 1) (k + 2) a b := by
  unfold dnT
  omega
theorem inv1.row {M : Nat → Nat → F7} {i j k w : Nat} {T0 T : Nat → Int32} (hM : ∀ a b, a < 6 → b < 6 → M a b = - M b a) (hi : i < 6) (hj : j < 6) (hw : w < 7) (hk : k < 6) (h : inv1 M i j (ph w) T0 k (k + 1) T) : ∃ T', gk_lp (fun z => m_X4_pivotOnTwo_B27 (nI i) (nI j) (nI w) (nI k) z.1 z.2) gk_fu (nI k + 1, T) = some T' ∧ inv1 M i j (ph w) T0 (k + 1) (k + 2) T' := by
  obtain ⟨r, h1, h2⟩ := ruP (f := fun z => m_X4_pivotOnTwo_B27 (nI i) (nI j) (nI w) (nI k) z.1 z.2) (fun d z => z.1 = nI (k + 1 + d) ∧ inv1 M i j (ph w) T0 k (k + 1 + d) z.2) (fun T' => inv1 M i j (ph w) T0 (k + 1) (k + 2) T') (5 - k) (s0 := (nI k + 1, T)) (by omega) ⟨nI_1 k, h⟩ (by
    rintro d ⟨z, T⟩ hd ⟨rfl, hI⟩
    show ∃ s', m_X4_pivotOnTwo_B27 (nI i) (nI j) (nI w) (nI k) (nI (k + 1 + d)) T = _ ∧ _
    obtain ⟨T', g1, g2⟩ := inv1.step hM hi hj hw (show k < k + 1 + d by omega) (by omega) hI
    exact ⟨(nI (k + 1 + d + 1), T'), g1, rfl, g2⟩) (by
    rintro ⟨z, T⟩ ⟨rfl, hI⟩
    refine ⟨T, ?_, ?_⟩
    · show m_X4_pivotOnTwo_B27 (nI i) (nI j) (nI w) (nI k) (nI (k + 1 + (5 - k))) T = _
      unfold m_X4_pivotOnTwo_B27
      rw [show k + 1 + (5 - k) = 6 by omega, if_pos (lel 6 (by omega))]
    · have hI' : inv1 M i j (ph w) T0 k (k + 1 + (5 - k)) T := hI
      rw [show k + 1 + (5 - k) = 6 by omega] at hI'
      exact ⟨hI'.1, hI'.2.1, fun a b ha hb => by rw [← dnT_k ha hb]; exact hI'.2.2 a b ha hb⟩)
  exact ⟨r, h1, h2⟩
/-- after the first loops -/
def bs1 (M : Nat → Nat → F7) (i j : Nat) (w : F7) (a b : Nat) : F7 := if a ≠ b ∧ a ≠ i ∧ a ≠ j ∧ b ≠ i ∧ b ≠ j then nwT M i j w a b else M a b
theorem two_1 {M : Nat → Nat → F7} {i j w : Nat} {T : Nat → Int32} (hM : ∀ a b, a < 6 → b < 6 → M a b = - M b a) (hi : i < 6) (hj : j < 6) (hw : w < 7) (hT : TB T) (hTM : ∀ a b, a < 6 → b < 6 → mt T a b = M a b) : ∃ T', gk_lp (fun z => m_X4_pivotOnTwo_B14 (nI i) (nI j) (nI w) z.1 z.2) gk_fu ((0 : Int32), T) = some T' ∧ TB T' ∧ (∀ q, 36 ≤ q → T' q = T q) ∧ ∀ a b, a < 6 → b < 6 → mt T' a b = bs1 M i j (ph w) a b := by
  obtain ⟨r, h1, h2⟩ := ruP (f := fun z => m_X4_pivotOnTwo_B14 (nI i) (nI j) (nI w) z.1 z.2) (fun k z => z.1 = nI k ∧ inv1 M i j (ph w) T k (k + 1) z.2) (fun T' => TB T' ∧ (∀ q, 36 ≤ q → T' q = T q) ∧ ∀ a b, a < 6 → b < 6 → mt T' a b = bs1 M i j (ph w) a b) 6 (s0 := ((0 : Int32), T)) (by omega) ⟨rfl, hT, fun _ _ => rfl, fun a b ha hb => ⟨fun z => by unfold dnT at z; omega, fun _ => hTM a b ha hb⟩⟩ (by
    rintro k ⟨z, T⟩ hk ⟨rfl, hI⟩
    show ∃ s', m_X4_pivotOnTwo_B14 (nI i) (nI j) (nI w) (nI k) T = _ ∧ _
    obtain ⟨T', g1, g2⟩ := inv1.row hM hi hj hw hk hI
    refine ⟨(nI (k + 1), T'), ?_, rfl, g2⟩
    unfold m_X4_pivotOnTwo_B14
    rw [if_neg (gel 6 hk)]
    show gk_bd1 (gk_lp (fun z => m_X4_pivotOnTwo_B27 (nI i) (nI j) (nI w) (nI k) z.1 z.2) gk_fu (nI k + 1, T)) _ = _
    rw [g1, bd1_some, nI_1]) (by
    rintro ⟨z, T'⟩ ⟨rfl, hI⟩
    refine ⟨T', ?_, hI.1, hI.2.1, fun a b ha hb => ?_⟩
    · show m_X4_pivotOnTwo_B14 (nI i) (nI j) (nI w) (nI 6) T' = _
      unfold m_X4_pivotOnTwo_B14
      rw [if_pos (lel 6 (by omega))]
    · obtain ⟨z1, z2⟩ := hI.2.2 a b ha hb
      unfold bs1
      by_cases q : a ≠ b ∧ a ≠ i ∧ a ≠ j ∧ b ≠ i ∧ b ≠ j
      · rw [if_pos q]; exact z1 (by unfold dnT; omega)
      · rw [if_neg q]; exact z2 (by unfold dnT; omega))
  exact ⟨r, h1, h2⟩
/-- rows and columns i and j, done below kk -/
def bs2 (M : Nat → Nat → F7) (i j : Nat) (w : F7) (kk a b : Nat) : F7 :=
  if a = i ∧ b ≠ i ∧ b ≠ j ∧ b < kk then M j b * w
  else if a = j ∧ b ≠ i ∧ b ≠ j ∧ b < kk then - M i b * w
  else if b = i ∧ a ≠ i ∧ a ≠ j ∧ a < kk then - (M j a * w)
  else if b = j ∧ a ≠ i ∧ a ≠ j ∧ a < kk then M i a * w
  else bs1 M i j w a b
theorem mul_val {a w : Nat} (ha : a < 7) (hw : w < 7) : (nI a * nI w).toInt = (a : Int) * w ∧ (-(nI a) * nI w).toInt = -(a : Int) * w ∧ -1000 ≤ (a : Int) * w ∧ (a : Int) * w ≤ 1000 ∧ -1000 ≤ -(a : Int) * w ∧ -(a : Int) * w ≤ 1000 := by
  have h1 := ml7 ha hw
  have e1 : (nI a).toInt = a := nI_toInt (by omega)
  have e2 : (-(nI a)).toInt = -(a : Int) := by rw [fb_negI (by rw [e1]; omega), e1]
  have ew : (nI w).toInt = w := nI_toInt (by omega)
  have h2 : -(a : Int) * w = -((a : Int) * w) := Int.neg_mul _ _
  refine ⟨nI_mulI ha hw, ?_, by omega, by omega, by omega, by omega⟩
  rw [fb_mulI (by rw [e2, ew]; omega) (by rw [e2, ew]; omega), e2, ew]
theorem two_2 {M : Nat → Nat → F7} {i j w : Nat} {T : Nat → Int32} (hM : ∀ a b, a < 6 → b < 6 → M a b = - M b a) (hi : i < 6) (hj : j < 6) (hij : i ≠ j) (hw : w < 7) (hT : TB T) (hTM : ∀ a b, a < 6 → b < 6 → mt T a b = bs1 M i j (ph w) a b) : ∃ T', gk_lp (fun z => m_X4_pivotOnTwo_B127 (nI i) (nI j) (nI w) z.1 z.2) gk_fu ((0 : Int32), T) = some T' ∧ TB T' ∧ (∀ q, 36 ≤ q → T' q = T q) ∧ ∀ a b, a < 6 → b < 6 → mt T' a b = bs2 M i j (ph w) 6 a b := by
  obtain ⟨r, h1, h2⟩ := ruP (f := fun z => m_X4_pivotOnTwo_B127 (nI i) (nI j) (nI w) z.1 z.2) (fun k z => z.1 = nI k ∧ TB z.2 ∧ (∀ q, 36 ≤ q → z.2 q = T q) ∧ ∀ a b, a < 6 → b < 6 → mt z.2 a b = bs2 M i j (ph w) k a b) (fun T' => TB T' ∧ (∀ q, 36 ≤ q → T' q = T q) ∧ ∀ a b, a < 6 → b < 6 → mt T' a b = bs2 M i j (ph w) 6 a b) 6 (s0 := ((0 : Int32), T)) (by omega) ⟨rfl, hT, fun _ _ => rfl, fun a b ha hb => by
      rw [hTM a b ha hb]
      unfold bs2
      simp⟩ (by
    rintro k ⟨z, T1⟩ hk ⟨rfl, hT1, hq, hm⟩
    show ∃ s', m_X4_pivotOnTwo_B127 (nI i) (nI j) (nI w) (nI k) T1 = _ ∧ _
    have hm : ∀ a b, a < 6 → b < 6 → mt T1 a b = bs2 M i j (ph w) k a b := hm
    have hq : ∀ q, 36 ≤ q → T1 q = T q := hq
    have hT1 : TB T1 := hT1
    unfold m_X4_pivotOnTwo_B127
    have e1 : (nI k = nI i) = (k = i) := propext (nI_eq (by omega) (by omega))
    have e2 : (nI k = nI j) = (k = j) := propext (nI_eq (by omega) (by omega))
    rw [if_neg (gel 6 hk), nI_1]
    simp only [e1, e2]
    by_cases hc : k = i ∨ k = j
    · have hsame : ∀ a b, bs2 M i j (ph w) (k + 1) a b = bs2 M i j (ph w) k a b := fun a b => by
        unfold bs2
        have q1 : (a = i ∧ b ≠ i ∧ b ≠ j ∧ b < k + 1) ↔ (a = i ∧ b ≠ i ∧ b ≠ j ∧ b < k) := by omega
        have q2 : (a = j ∧ b ≠ i ∧ b ≠ j ∧ b < k + 1) ↔ (a = j ∧ b ≠ i ∧ b ≠ j ∧ b < k) := by omega
        have q3 : (b = i ∧ a ≠ i ∧ a ≠ j ∧ a < k + 1) ↔ (b = i ∧ a ≠ i ∧ a ≠ j ∧ a < k) := by omega
        have q4 : (b = j ∧ a ≠ i ∧ a ≠ j ∧ a < k + 1) ↔ (b = j ∧ a ≠ i ∧ a ≠ j ∧ a < k) := by omega
        simp only [q1, q2, q3, q4]
      refine ⟨(nI (k + 1), T1), ?_, rfl, hT1, hq, fun a b ha hb => by rw [hsame]; exact hm a b ha hb⟩
      rcases hc with c | c
      · simp [c]
      · by_cases c' : k = i
        · simp [c']
        · simp [c]
    · have c1 : k ≠ i := fun z => hc (Or.inl z)
      have c2 : k ≠ j := fun z => hc (Or.inr z)
      obtain ⟨t1, a1, b1, d1⟩ := hT1.at hi hk
      obtain ⟨t2, a2, b2, d2⟩ := hT1.at hj hk
      obtain ⟨v1, -, v3, v4, -⟩ := mul_val b2 hw
      obtain ⟨T2, g1, g2, g3, g4⟩ := hT1.write (k := i) (l := k) (v := nI t2 * nI w) hi hk (fun z => c1 z.symm) (by rw [v1]; exact ⟨v3, v4⟩)
      obtain ⟨-, u2, -, -, u5, u6⟩ := mul_val b1 hw
      obtain ⟨T3, f1, f2, f3, f4⟩ := g2.write (k := j) (l := k) (v := -(nI t1) * nI w) hj hk (fun z => c2 z.symm) (by rw [u2]; exact ⟨u5, u6⟩)
      refine ⟨(nI (k + 1), T3), ?_, rfl, f2, fun q h36 => by show T3 q = T q; rw [f4 q h36, g4 q h36, hq q h36], fun a b ha hb => ?_⟩
      · simp only [c1, c2, if_false]
        rw [a1, bd1_some, a2, bd1_some, g1, bd1_some, f1, bd1_some]
      · show mt T3 a b = _
        rw [f3 a b ha hb, g3 a b ha hb, u2, v1, ph_mul, ph_mul, ph_neg, d1, d2, hm i k hi hk, hm j k hj hk, hm a b ha hb]
        have mi : bs2 M i j (ph w) k i k = M i k := by
          unfold bs2 bs1
          rw [if_neg (by omega), if_neg (by omega), if_neg (by omega), if_neg (by omega), if_neg (by omega)]
        have mj : bs2 M i j (ph w) k j k = M j k := by
          unfold bs2 bs1
          rw [if_neg (by omega), if_neg (by omega), if_neg (by omega), if_neg (by omega), if_neg (by omega)]
        rw [mi, mj]
        unfold bs2
        by_cases p1 : a = i ∧ b = k
        · obtain ⟨rfl, rfl⟩ := p1
          rw [if_neg (by omega), if_neg (by omega), if_pos ⟨rfl, rfl⟩, if_pos (by omega)]
        by_cases p2 : a = k ∧ b = i
        · obtain ⟨rfl, rfl⟩ := p2
          rw [if_neg (by omega), if_neg (by omega), if_neg (by omega), if_pos ⟨rfl, rfl⟩, if_neg (by omega), if_neg (by omega), if_pos (by omega)]
        by_cases p3 : a = j ∧ b = k
        · obtain ⟨rfl, rfl⟩ := p3
          rw [if_pos ⟨rfl, rfl⟩, if_neg (by omega), if_pos (by omega)]
        by_cases p4 : a = k ∧ b = j
        · obtain ⟨rfl, rfl⟩ := p4
          rw [if_neg (by omega), if_pos ⟨rfl, rfl⟩, if_neg (by omega), if_neg (by omega), if_neg (by omega), if_pos (by omega)]
          grind
        rw [if_neg p3, if_neg p4, if_neg p1, if_neg p2]
        have q1 : (a = i ∧ b ≠ i ∧ b ≠ j ∧ b < k + 1) ↔ (a = i ∧ b ≠ i ∧ b ≠ j ∧ b < k) := by omega
        have q2 : (a = j ∧ b ≠ i ∧ b ≠ j ∧ b < k + 1) ↔ (a = j ∧ b ≠ i ∧ b ≠ j ∧ b < k) := by omega
        have q3 : (b = i ∧ a ≠ i ∧ a ≠ j ∧ a < k + 1) ↔ (b = i ∧ a ≠ i ∧ a ≠ j ∧ a < k) := by omega
        have q4 : (b = j ∧ a ≠ i ∧ a ≠ j ∧ a < k + 1) ↔ (b = j ∧ a ≠ i ∧ a ≠ j ∧ a < k) := by omega
        simp only [q1, q2, q3, q4]) (by
    rintro ⟨z, T'⟩ ⟨rfl, hI⟩
    refine ⟨T', ?_, hI⟩
    show m_X4_pivotOnTwo_B127 (nI i) (nI j) (nI w) (nI 6) T' = _
    unfold m_X4_pivotOnTwo_B127
    rw [if_pos (lel 6 (by omega))])
  exact ⟨r, h1, h2⟩
/-- the table pivoted on i and j -/
def pv2 (M : Nat → Nat → F7) (i j : Nat) (w : F7) (a b : Nat) : F7 :=
  if a = i then (if b = i then 0 else if b = j then - w else M j b * w)
  else if a = j then (if b = i then w else if b = j then 0 else - M i b * w)
  else if b = i then - (M j a * w)
  else if b = j then M i a * w
  else nwT M i j w a b
theorem v_two {i j : Nat} {T : Nat → Int32} (hi : i < 6) (hj : j < 6) (hij : i ≠ j) (hT : TB T) : ∃ T' w, m_X4_pivotOnTwo T (nI i) (nI j) = some T' ∧ TB T' ∧ (∀ q, 36 ≤ q → T' q = T q) ∧ (mt T i j = 0 ∨ mt T i j * w = 1) ∧ ∀ a b, a < 6 → b < 6 → mt T' a b = pv2 (mt T) i j w a b := by
  have hM : ∀ a b, a < 6 → b < 6 → mt T a b = - mt T b a := fun a b ha hb => (hT a b ha hb).2
  obtain ⟨t, a1, b1, d1⟩ := hT.at hi hj
  obtain ⟨w, hw, hinv, hone⟩ := inv_val t b1
  obtain ⟨T1, g1, g2, g3, g4⟩ := two_1 hM hi hj hw hT (fun _ _ _ _ => rfl)
  obtain ⟨T2, f1, f2, f3, f4⟩ := two_2 hM hi hj hij hw g2 g4
  have hwI : (nI w).toInt = w := nI_toInt (by omega)
  have hnw : (-(nI w)).toInt = -(w : Int) := by rw [fb_negI (by rw [hwI]; omega), hwI]
  obtain ⟨T3, e1, e2, e3, e4⟩ := f2.write (k := i) (l := j) (v := -(nI w)) hi hj hij (by rw [hnw]; omega)
  refine ⟨T3, ph w, ?_, e2, fun q h36 => by rw [e4 q h36, f3 q h36, g3 q h36], ?_, fun a b ha hb => ?_⟩
  · unfold m_X4_pivotOnTwo m_X4_pivotOnTwo_0
    rw [a1, bd1_some, ix_ok b1 (by omega), nI_clamp (by omega), hinv, g1, bd1_some, f1, bd1_some, e1, bd1_some]
  · rcases hone with z | z
    · left; rw [← d1, z]; rfl
    · right; rw [← d1]; exact z
  · rw [e3 a b ha hb, hnw, ph_neg, f4 a b ha hb]
    have di : mt T i i = 0 := hT.diag hi
    have dj : mt T j j = 0 := hT.diag hj
    unfold pv2 bs2 bs1
    by_cases ai : a = i
    · subst ai
      by_cases bi : b = a
      · subst bi
        rw [if_neg (by omega), if_neg (by omega), if_neg (by omega), if_neg (by omega), if_neg (by omega), if_neg (by omega), if_neg (by omega), if_pos rfl, if_pos rfl, di]
      · by_cases bj : b = j
        · subst bj
          rw [if_pos ⟨rfl, rfl⟩, if_pos rfl, if_neg bi, if_pos rfl]
        · rw [if_neg (by omega), if_neg (by omega), if_pos (by omega), if_pos rfl, if_neg bi, if_neg bj]
    · by_cases aj : a = j
      · subst aj
        by_cases bi : b = i
        · subst bi
          rw [if_neg (by omega), if_pos ⟨rfl, rfl⟩, if_neg ai, if_pos rfl, if_pos rfl]
          grind
        · by_cases bj : b = a
          · subst bj
            rw [if_neg (by omega), if_neg (by omega), if_neg (by omega), if_neg (by omega), if_neg (by omega), if_neg (by omega), if_neg (by omega), if_neg ai, if_pos rfl, if_neg bi, if_pos rfl, dj]
          · rw [if_neg (by omega), if_neg (by omega), if_neg (by omega), if_pos (by omega), if_neg ai, if_pos rfl, if_neg bi, if_neg bj]
      · rw [if_neg (by omega), if_neg (by omega), if_neg (by omega), if_neg (by omega), if_neg ai, if_neg aj]
        by_cases bi : b = i
        · subst bi
          rw [if_pos (by omega), if_pos rfl]
        · by_cases bj : b = j
          · subst bj
            rw [if_neg (by omega), if_pos (by omega), if_neg bi, if_pos rfl]
          · rw [if_neg (by omega), if_neg (by omega), if_neg bi, if_neg bj]
            by_cases ab : a = b
            · subst ab
              rw [if_neg (by omega), hT.diag ha]
              unfold nwT
              rw [hT.diag ha, hM a i ha hi, hM j a hj ha]
              grind
            · rw [if_pos (by omega)]
