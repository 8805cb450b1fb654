/-! ===== whole, tabled ===== -/
theorem fill_mt {T R : Nat → Int32} {a b : Nat} (ha : a < 6) (hb : b < 6) : mt (fa_fill T R 36) a b = mt T a b := by
  unfold mt
  rw [fa_fill_in (by omega)]
theorem TB.fill {T R : Nat → Int32} (h : TB T) : TB (fa_fill T R 36) := fun i j hi hj => by
  rw [fill_mt hi hj, fill_mt hj hi, fa_fill_in (by omega)]
  exact h i j hi hj
theorem v_take4 (R T : Nat → Int32) : m_X4_takeOver R T = some (fa_fill T R 36) := by
  unfold m_X4_takeOver m_X4_takeOver_0 gk_cp
  rw [if_pos (by decide), c0, show (Int32.ofNat 36).toNatClampNeg = 36 from by decide, cpy_fill]
theorem v_deter {T R : Nat → Int32} {S : Nat} (hT : TB T) (hS : S < 64) : ∃ d R', m_X5_determinant T R (nI S) = some (nI d, R') ∧ d < 7 ∧ ph d = wh7 (mt T) S := by
  unfold m_X5_determinant m_X5_determinant_0
  rw [v_take4, bd1_some]
  obtain ⟨d, R', h1, h2, h3, -⟩ := v_pivotOn hT.fill hS (T := fa_fill T R 36)
  rw [h1, bd2_some]
  refine ⟨d, R', rfl, h2, ?_⟩
  rw [h3]
  exact wh7_congr hS (fun a b ha hb => fill_mt ha hb)
theorem o_whole {n : Nat} {T R Q B P : Nat → Int32} {sd : Int32} (hn : n ≤ 6) (hT : VT n T) (x1 : Int32) : ∃ r R' sd' Q' B' P', m_X5_whole (nI n) T R x1 = some (r, R') ∧ m_X6_whole (nI n) sd T Q B P x1 = some (r, sd', Q', B', P') := by
  have h6 := pow6 hn
  unfold m_X5_whole m_X5_whole_0 m_X6_whole m_X6_whole_0
  simp only [v5_set hn, v6_set hn, bd1_some, q01, q10]
  by_cases h1 : fok (2 ^ n) x1 = true
  case neg => exact ⟨-2, R, sd, Q, B, P, by simp [h1], by simp [h1]⟩
  obtain ⟨S, hS, rfl⟩ := fok_ex (by omega) h1
  obtain ⟨d, R', a1, a2, a3⟩ := v_deter (R := R) hT.tb.1 (show S < 64 by omega)
  obtain ⟨e, Q', B', P', b1, b2, b3, -⟩ := v_wholeOf (sd := sd) (Q := Q) (B := B) (P := P) hT.tb.1 hn hS
  have : d = e := ph_inj a2 b2 (by rw [a3, b3])
  subst this
  rw [a1, b1]
  exact ⟨nI d, R', nI (ct6 S), Q', B', P', by simp [h1, gk_bd2], by simp [h1, gk_bd5]⟩
def tbP (M : Nat → Nat → F7) (S : Nat) : Bool := decide (wh7 M S ≠ 0)
theorem o_tabled {n : Nat} {M : Nat → Int64} {K T R Q B P : Nat → Int32} {sd : Int32} (hn : n ≤ 6) (hV : VF n M K) (hT : VT n T) (x1 : Int32) : ∃ r M' K' R' sd' Q' B' P', m_X5_tabled (nI n) M K T R x1 = some (r, M', K', R') ∧ m_X6_tabled (nI n) sd M K T Q B P x1 = some (r, sd', M', K', Q', B', P') ∧ VF n M' K' := by
  have h6 := pow6 hn
  unfold m_X5_tabled m_X5_tabled_0 m_X6_tabled m_X6_tabled_0
  simp only [v5_fam, v6_fam, bd1_some, q01, q10]
  by_cases h1 : fok 6 x1 = true
  case neg => exact ⟨-2, M, K, R, sd, Q, B, P, by simp [h1], by simp [h1], hV⟩
  obtain ⟨j, hj, rfl⟩ := fok_ex (by omega) h1
  obtain ⟨o5, a1, a2⟩ := ruP (f := fun z => m_X5_tabled_B15 (nI n) M K T (nI j) z.1 z.2.1 z.2.2) (fun S z => z.1 = lN (bsn (tbP (mt T)) S) ∧ z.2.1 = nI S) (fun o => o.1 = lN (bsn (tbP (mt T)) (2 ^ n))) (2 ^ n) (s0 := ((0 : Int64), (0 : Int32), R)) (by omega) ⟨rfl, rfl⟩ (by
    rintro S ⟨w, z, R⟩ hS ⟨rfl, rfl⟩
    show ∃ s', m_X5_tabled_B15 (nI n) M K T (nI j) (lN (bsn (tbP (mt T)) S)) (nI S) R = _ ∧ _
    obtain ⟨d, R', a1, a2, a3⟩ := v_deter (R := R) hT.tb.1 (show S < 64 by omega)
    unfold m_X5_tabled_B15
    rw [shl1 (by omega), if_neg (nI_ge hS (by omega)), a1, bd2_some, shlL (by omega), fb_orL, nI_1]
    by_cases q : nI d = 0
    · have hz : tbP (mt T) S = false := by
        unfold tbP
        rw [← a3, (ph_z a2).mp q]; rfl
      rw [if_pos q]
      refine ⟨_, rfl, ?_, rfl⟩
      show lN (bsn (tbP (mt T)) S) = lN (bsn (tbP (mt T)) (S + 1))
      rw [bsn, hz]; rfl
    · have hz : tbP (mt T) S = true := by
        unfold tbP
        rw [← a3]
        exact decide_eq_true (fun z => q ((ph_z a2).mpr z))
      rw [if_neg q]
      refine ⟨_, rfl, ?_, rfl⟩
      show lN (bsn (tbP (mt T)) S ||| 2 ^ S) = lN (bsn (tbP (mt T)) (S + 1))
      rw [bsn, hz]; rfl) (by
    rintro ⟨w, z, R⟩ ⟨rfl, rfl⟩
    refine ⟨(lN (bsn (tbP (mt T)) (2 ^ n)), R), ?_, rfl⟩
    show m_X5_tabled_B15 (nI n) M K T (nI j) (lN (bsn (tbP (mt T)) (2 ^ n))) (nI (2 ^ n)) R = _
    unfold m_X5_tabled_B15
    rw [shl1 (by omega), if_pos (nI_le (Nat.le_refl _) (by omega))])
  obtain ⟨o6, b1, b2⟩ := ruP (f := fun z => m_X6_tabled_B15 (nI n) M K T (nI j) z.1 z.2.1 z.2.2.1 z.2.2.2.1 z.2.2.2.2.1 z.2.2.2.2.2) (fun S z => z.1 = lN (bsn (tbP (mt T)) S) ∧ z.2.1 = nI S) (fun o => o.1 = lN (bsn (tbP (mt T)) (2 ^ n))) (2 ^ n) (s0 := ((0 : Int64), (0 : Int32), sd, Q, B, P)) (by omega) ⟨rfl, rfl⟩ (by
    rintro S ⟨w, z, sd, Q, B, P⟩ hS ⟨rfl, rfl⟩
    show ∃ s', m_X6_tabled_B15 (nI n) M K T (nI j) (lN (bsn (tbP (mt T)) S)) (nI S) sd Q B P = _ ∧ _
    obtain ⟨d, Q', B', P', a1, a2, a3, -⟩ := v_wholeOf (sd := sd) (Q := Q) (B := B) (P := P) hT.tb.1 hn hS
    unfold m_X6_tabled_B15
    rw [shl1 (by omega), if_neg (nI_ge hS (by omega)), a1, bd5_some, shlL (by omega), lN_0, fb_orL, fb_orL, nI_1]
    by_cases q : nI d = 0
    · have hz : tbP (mt T) S = false := by
        unfold tbP
        rw [← a3, (ph_z a2).mp q]; rfl
      rw [if_pos q]
      refine ⟨_, rfl, ?_, rfl⟩
      show lN (bsn (tbP (mt T)) S ||| 0) = lN (bsn (tbP (mt T)) (S + 1))
      rw [bsn, hz, Nat.or_zero]; rfl
    · have hz : tbP (mt T) S = true := by
        unfold tbP
        rw [← a3]
        exact decide_eq_true (fun z => q ((ph_z a2).mpr z))
      rw [if_neg q]
      refine ⟨_, rfl, ?_, rfl⟩
      show lN (bsn (tbP (mt T)) S ||| 2 ^ S) = lN (bsn (tbP (mt T)) (S + 1))
      rw [bsn, hz]; rfl) (by
    rintro ⟨w, z, sd, Q, B, P⟩ ⟨rfl, rfl⟩
    refine ⟨(lN (bsn (tbP (mt T)) (2 ^ n)), sd, Q, B, P), ?_, rfl⟩
    show m_X6_tabled_B15 (nI n) M K T (nI j) (lN (bsn (tbP (mt T)) (2 ^ n))) (nI (2 ^ n)) sd Q B P = _
    unfold m_X6_tabled_B15
    rw [shl1 (by omega), if_pos (nI_le (Nat.le_refl _) (by omega))])
  simp only [h1, if_true, not_true, if_false]
  rw [a1, b1]
  obtain ⟨w5, R'⟩ := o5
  obtain ⟨w6, sd', Q', B', P'⟩ := o6
  have e5 : w5 = lN (bsn (tbP (mt T)) (2 ^ n)) := a2
  have e6 : w6 = lN (bsn (tbP (mt T)) (2 ^ n)) := b2
  subst e5 e6
  have hlt := bsn_lt (tbP (mt T)) (2 ^ n)
  have hlt64 : bsn (tbP (mt T)) (2 ^ n) < 2 ^ 64 := Nat.lt_of_lt_of_le hlt (pp6 hn)
  rw [bd2_some, bd5_some, v5_become (n := n) hj hlt64, v6_becomes (n := n) hj hlt64]
  exact ⟨_, _, _, R', sd', Q', B', P', rfl, rfl, hV.set hlt (by decide)⟩
