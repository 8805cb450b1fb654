/-! ===== jumps: how many, least, greatest ===== -/
theorem ct_inj {P : Nat → Bool} {f : Nat → Nat} {M : Nat} : ∀ (N : Nat) (Q : Nat → Bool), (∀ k, k < N → P k = true → f k < M ∧ Q (f k) = true) → (∀ k l, k < N → l < N → P k = true → P l = true → f k = f l → k = l) → fb_ct P N ≤ fb_ct Q M
  | 0, Q, _, _ => Nat.zero_le _
  | N + 1, Q, h1, h2 => by
    cases hp : P N with
    | false =>
      rw [fb_ct_succ, hp]
      exact ct_inj N Q (fun k hk => h1 k (by omega)) (fun k l hk hl => h2 k l (by omega) (by omega))
    | true =>
      rw [fb_ct_succ, hp]
      obtain ⟨a, b⟩ := h1 N (by omega) hp
      have hu := fb_ct_upd Q false a
      have ih := ct_inj N (fun k => if k = f N then false else Q k) (fun k hk hpk => by
        obtain ⟨c, d⟩ := h1 k (by omega) hpk
        refine ⟨c, ?_⟩
        have : f k ≠ f N := fun z => by
          have := h2 k N (by omega) (by omega) hpk hp z
          omega
        simp only [this, if_false]
        exact d) (fun k l hk hl => h2 k l (by omega) (by omega))
      rw [b] at hu
      simp only [if_true, Bool.false_eq_true, if_false, Nat.add_zero] at hu
      simp only [if_true]
      omega
theorem ct_flat (P : Nat → Nat → Bool) : ∀ k, fb_sm (fun s => fb_ct (P s) 64) k = fb_ct (fun i => P (i / 64) (i % 64)) (k * 64)
  | 0 => by rw [Nat.zero_mul]; rfl
  | k + 1 => by
    rw [fb_sm_succ, ct_flat P k, Nat.succ_mul, fb_ct_split]
    congr 1
    apply fb_ct_cong
    intro j hj
    rw [show (k * 64 + j) / 64 = k by omega, show (k * 64 + j) % 64 = j by omega]
theorem hb_le {n a b s c : Nat} (hn : n ≤ 6) (h : hb n a b s c = true) : s < 64 ∧ c < 64 ∧ tern s + tern c < 3 ^ n ∧ jb n a b (tern s + tern c) = true ∧ sof (tern s + tern c) = s ∧ bof (tern s + tern c) = c := by
  have h6 := pow6 hn
  obtain ⟨h1, h2, h3⟩ := hb_sub h
  have hc : c < 2 ^ n := by rw [← h3]; exact Nat.lt_of_le_of_lt Nat.and_le_left h1
  refine ⟨by omega, by omega, tt_n hn h1 hc, ?_, ?_, ?_⟩
  · rw [← hb_jb hn (by omega) (by omega) h2 h3]; exact h
  · rw [T2s s (by omega) c (by omega), h2]
  · rw [T2b s (by omega) c (by omega), h3]
theorem many_eq {n a b : Nat} (hn : n ≤ 6) : fb_sm (fun s => fb_ct (hb n a b s) 64) 64 = fb_ct (jb n a b) (3 ^ n) := by
  have h3 := p3_le n (by omega)
  rw [ct_flat]
  apply Nat.le_antisymm
  · refine ct_inj (f := fun i => tern (i / 64) + tern (i % 64)) _ _ (fun k hk h => ?_) (fun k l hk hl h1 h2 e => ?_)
    · obtain ⟨-, -, c, d, -⟩ := hb_le hn h
      exact ⟨c, d⟩
    · obtain ⟨-, -, -, -, c1, d1⟩ := hb_le hn h1
      obtain ⟨-, -, -, -, c2, d2⟩ := hb_le hn h2
      have e' : tern (k / 64) + tern (k % 64) = tern (l / 64) + tern (l % 64) := e
      rw [e'] at c1 d1
      rw [c1] at c2
      rw [d1] at d2
      omega
  · refine ct_inj (f := fun t => sof t * 64 + bof t) _ _ (fun t ht h => ?_) (fun t u ht hu h1 h2 e => ?_)
    · have hs := sof_lt t
      have hb' := bof_lt t
      refine ⟨by show sof t * 64 + bof t < 64 * 64; omega, ?_⟩
      show hb n a b ((sof t * 64 + bof t) / 64) ((sof t * 64 + bof t) % 64) = true
      rw [show (sof t * 64 + bof t) / 64 = sof t by omega, show (sof t * 64 + bof t) % 64 = bof t by omega, ← jb_hb hn (by omega)]
      exact h
    · have e' : sof t * 64 + bof t = sof u * 64 + bof u := e
      have := bof_lt t
      have := bof_lt u
      have es : sof t = sof u := by omega
      have eb : bof t = bof u := by omega
      rw [← T1 t (by omega), ← T1 u (by omega), es, eb]
theorem v_howMany {n a b : Nat} {B : Nat → Int64} (h : BP n a b B) : m_X3_howMany B = some (nI (fb_sm (fun s => fb_ct (hb n a b s) 64) 64)) := by
  unfold m_X3_howMany m_X3_howMany_0
  have hl : gk_lp (fun z => m_X3_howMany_B13 B (Int32.ofNat 64) z.1 z.2) gk_fu ((0 : Int32), (0 : Int32)) = some (nI (fb_sm (fun s => fb_ct (hb n a b s) 64) 64)) := by
    refine ru (fun i => (nI (fb_sm (fun s => fb_ct (hb n a b s) 64) i), nI i)) 64 rfl (by omega) (fun i hi => ?_) ?_
    · show m_X3_howMany_B13 B (nI 64) (nI (fb_sm (fun s => fb_ct (hb n a b s) 64) i)) (nI i) = some (Sum.inl (nI (fb_sm (fun s => fb_ct (hb n a b s) 64) (i + 1)), nI (i + 1)))
      unfold m_X3_howMany_B13
      rw [if_neg (nI_ge hi (by omega)), ix_ok hi (by omega), nI_clamp (by omega), h i hi, popL (hbN_lt n a b i), bd1_some, nI_add, nI_1, fb_sm_succ]
      congr 5
      apply fb_ct_cong
      intro c hc
      rw [bsn_bit]; simp [hc]
    · show m_X3_howMany_B13 B (nI 64) _ (nI 64) = _
      unfold m_X3_howMany_B13
      rw [if_pos (nI_le (Nat.le_refl _) (by omega))]
  rw [hl]
  rfl
def LM (R : Nat → Prop) (o : Option Nat) : Prop := match o with
  | none => ∀ t, ¬ R t
  | some m => R m ∧ ∀ t, R t → m ≤ t
def GM (R : Nat → Prop) (o : Option Nat) : Prop := match o with
  | none => ∀ t, ¬ R t
  | some m => R m ∧ ∀ t, R t → t ≤ m
def mnA (o : Option Nat) (v : Nat) : Option Nat := match o with
  | none => some v
  | some m => if m ≤ v then some m else some v
def mxA (o : Option Nat) (v : Nat) : Option Nat := match o with
  | none => some v
  | some m => if m < v then some v else some m
theorem LM.add {R : Nat → Prop} {o : Option Nat} (h : LM R o) (v : Nat) : LM (fun t => R t ∨ t = v) (mnA o v) := by
  cases o with
  | none =>
    refine ⟨Or.inr rfl, fun t ht => ?_⟩
    rcases ht with q | q
    · exact absurd q (h t)
    · omega
  | some m =>
    unfold mnA
    by_cases e : m ≤ v
    · simp only [e, if_true]
      refine ⟨Or.inl h.1, fun t ht => ?_⟩
      rcases ht with q | q
      · exact h.2 t q
      · omega
    · simp only [e, if_false]
      refine ⟨Or.inr rfl, fun t ht => ?_⟩
      rcases ht with q | q
      · have := h.2 t q; omega
      · omega
theorem GM.add {R : Nat → Prop} {o : Option Nat} (h : GM R o) (v : Nat) : GM (fun t => R t ∨ t = v) (mxA o v) := by
  cases o with
  | none =>
    refine ⟨Or.inr rfl, fun t ht => ?_⟩
    rcases ht with q | q
    · exact absurd q (h t)
    · omega
  | some m =>
    unfold mxA
    by_cases e : m < v
    · simp only [e, if_true]
      refine ⟨Or.inr rfl, fun t ht => ?_⟩
      rcases ht with q | q
      · have := h.2 t q; omega
      · omega
    · simp only [e, if_false]
      refine ⟨Or.inl h.1, fun t ht => ?_⟩
      rcases ht with q | q
      · exact h.2 t q
      · omega
theorem LM.congr {R R' : Nat → Prop} {o : Option Nat} (h : LM R o) (e : ∀ t, R t ↔ R' t) : LM R' o := by
  cases o with
  | none => exact fun t q => h t ((e t).mpr q)
  | some m => exact ⟨(e m).mp h.1, fun t q => h.2 t ((e t).mpr q)⟩
theorem GM.congr {R R' : Nat → Prop} {o : Option Nat} (h : GM R o) (e : ∀ t, R t ↔ R' t) : GM R' o := by
  cases o with
  | none => exact fun t q => h t ((e t).mpr q)
  | some m => exact ⟨(e m).mp h.1, fun t q => h.2 t ((e t).mpr q)⟩
/-- the values of the pairs (s, c) so far -/
def pv (n a b : Nat) (S s i t : Nat) : Prop := (∃ s', s' < S ∧ ∃ c, c ≤ s' ∧ hb n a b s' c = true ∧ t = tern s' + tern c) ∨ ∃ c, c < i ∧ hb n a b s c = true ∧ t = tern s + tern c
theorem pv_lt {n a b S s i t : Nat} (hn : n ≤ 6) (h : pv n a b S s i t) : t < 729 := by
  have h3 := p3_le n (by omega)
  rcases h with ⟨s', -, c, -, h1, rfl⟩ | ⟨c, -, h1, rfl⟩
  · have := (hb_le hn h1).2.2.1; omega
  · have := (hb_le hn h1).2.2.1; omega
theorem pv_s {n a b s i t : Nat} : pv n a b s s (i + 1) t ↔ (pv n a b s s i t ∨ (hb n a b s i = true ∧ t = tern s + tern i)) := by
  unfold pv
  constructor
  · rintro (q | ⟨c, q1, q2⟩)
    · exact Or.inl (Or.inl q)
    · by_cases e : c = i
      · subst e; exact Or.inr q2
      · exact Or.inl (Or.inr ⟨c, by omega, q2⟩)
  · rintro ((q | ⟨c, q1, q2⟩) | q)
    · exact Or.inl q
    · exact Or.inr ⟨c, by omega, q2⟩
    · exact Or.inr ⟨i, by omega, q⟩
theorem pv_n {n a b s t : Nat} : pv n a b s s (s + 1) t ↔ pv n a b (s + 1) (s + 1) 0 t := by
  unfold pv
  constructor
  · rintro (⟨s', q1, q2⟩ | ⟨c, q1, q2⟩)
    · exact Or.inl ⟨s', by omega, q2⟩
    · exact Or.inl ⟨s, by omega, c, by omega, q2⟩
  · rintro (⟨s', q1, c, q2, q3⟩ | ⟨c, q1, q2⟩)
    · by_cases e : s' = s
      · subst e; exact Or.inr ⟨c, by omega, q3⟩
      · exact Or.inl ⟨s', by omega, c, q2, q3⟩
    · omega
theorem pv_all {n a b t : Nat} (hn : n ≤ 6) : pv n a b (2 ^ n) (2 ^ n) 0 t ↔ jb n a b t = true := by
  have h3 := p3_le n (by omega)
  constructor
  · rintro (⟨s', q1, c, q2, q3, rfl⟩ | ⟨c, q1, q2⟩)
    · exact (hb_le hn q3).2.2.2.1
    · omega
  · intro h
    have ht := jb_lt hn h
    rw [jb_hb hn (by omega)] at h
    refine Or.inl ⟨sof t, (hb_sub h).1, bof t, ?_, h, (T1 t (by omega)).symm⟩
    rw [← T8 t (by omega)]
    exact Nat.and_le_left
def VS (T : Nat → Int32) : Prop := ∀ s, s < 64 → T s = nI (tern s)
theorem nI_s_lt {s c : Nat} (hs : s < 64) (hc : c < 65) : nI s < nI c ↔ s < c := nI_ltI (by omega) (by omega)
theorem v_leastL {n a b s : Nat} {B : Nat → Int64} {T : Nat → Int32} (hn : n ≤ 6) (h : BP n a b B) (hT : VS T) (hs : s < 2 ^ n) {o : Option Nat} (ho : LM (pv n a b s s 0) o) : ∃ o', gk_lp (fun z => m_X3_least_B16 (nI n) B T (nI s) z.1 z.2) gk_fu (enc o, (0 : Int32)) = some (enc o') ∧ LM (pv n a b (s + 1) (s + 1) 0) o' := by
  have h6 := pow6 hn
  obtain ⟨r, h1, o', h2, h3⟩ := ruP (f := fun z => m_X3_least_B16 (nI n) B T (nI s) z.1 z.2) (fun i z => ∃ o, z = (enc o, nI i) ∧ LM (pv n a b s s i) o) (fun r => ∃ o', r = enc o' ∧ LM (pv n a b (s + 1) (s + 1) 0) o') (s + 1) (s0 := (enc o, (0 : Int32))) (by omega) ⟨o, rfl, ho⟩ (by
    rintro i z hi ⟨o, rfl, ho⟩
    show ∃ s', m_X3_least_B16 (nI n) B T (nI s) (enc o) (nI i) = _ ∧ _
    unfold m_X3_least_B16
    rw [if_neg (fun q => by have := (nI_s_lt (by omega) (by omega)).mp q; omega), ix_ok (show s < 64 by omega) (by omega), ix_ok (show i < 64 by omega) (by omega), nI_clamp (by omega), nI_clamp (by omega), v_holdsRow h (by omega) (by omega), bd1_some, hT s (by omega), hT i (by omega), nI_add, nI_1]
    simp only [q10]
    have htl := tt_lt (show s < 64 by omega) (show i < 64 by omega)
    cases hh : hb n a b s i with
    | false =>
      refine ⟨(enc o, nI (i + 1)), by simp, o, rfl, ho.congr (fun t => ?_)⟩
      rw [pv_s, hh]; simp
    | true =>
      refine ⟨(enc (mnA o (tern s + tern i)), nI (i + 1)), ?_, _, rfl, (ho.add (tern s + tern i)).congr (fun t => ?_)⟩
      · cases o with
        | none => simp [enc, mnA]
        | some m =>
          have hm : m < 729 := pv_lt hn ho.1
          rw [show enc (some m) = nI m from rfl]
          simp only [not_true, if_false]
          rw [if_neg (nI_ne (by omega))]
          unfold mnA
          simp only [nI_leI (show m < 2 ^ 31 by omega) (show tern s + tern i < 2 ^ 31 by omega)]
          by_cases q : m ≤ tern s + tern i
          · simp only [q, if_true]; rfl
          · simp only [q, if_false]; rfl
      · rw [pv_s, hh]; simp) (by
    rintro z ⟨o, rfl, ho⟩
    refine ⟨enc o, ?_, o, rfl, ho.congr (fun t => pv_n)⟩
    show m_X3_least_B16 (nI n) B T (nI s) (enc o) (nI (s + 1)) = _
    unfold m_X3_least_B16
    rw [if_pos ((nI_s_lt (by omega) (by omega)).mpr (by omega))])
  exact ⟨o', by rw [h1, h2], h3⟩
theorem v_least3 {n a b : Nat} {B : Nat → Int64} {T : Nat → Int32} (hn : n ≤ 6) (h : BP n a b B) (hT : VS T) : ∃ o, m_X3_least (nI n) B T = some (enc o) ∧ LM (fun t => jb n a b t = true) o := by
  have h6 := pow6 hn
  unfold m_X3_least m_X3_least_0
  obtain ⟨r, h1, o', h2, h3⟩ := ruP (f := fun z => m_X3_least_B4 (nI n) B T z.1 z.2) (fun i z => ∃ o, z = (enc o, nI i) ∧ LM (pv n a b i i 0) o) (fun r => ∃ o', r = enc o' ∧ LM (fun t => jb n a b t = true) o') (2 ^ n) (s0 := ((-1 : Int32), (0 : Int32))) (by omega) ⟨none, rfl, fun t q => by
      rcases q with ⟨s', q1, -⟩ | ⟨c, q1, -⟩ <;> omega⟩ (by
    rintro i z hi ⟨o, rfl, ho⟩
    show ∃ s', m_X3_least_B4 (nI n) B T (enc o) (nI i) = _ ∧ _
    obtain ⟨o', q1, q2⟩ := v_leastL hn h hT hi ho
    unfold m_X3_least_B4
    rw [shl1 (by omega), if_neg (nI_ge hi (by omega)), q1, bd1_some, nI_1]
    exact ⟨(enc o', nI (i + 1)), rfl, o', rfl, q2⟩) (by
    rintro z ⟨o, rfl, ho⟩
    refine ⟨enc o, ?_, o, rfl, ho.congr (fun t => pv_all hn)⟩
    show m_X3_least_B4 (nI n) B T (enc o) (nI (2 ^ n)) = _
    unfold m_X3_least_B4
    rw [shl1 (by omega), if_pos (nI_le (Nat.le_refl _) (by omega))])
  rw [h1]
  exact ⟨o', by rw [h2]; rfl, h3⟩
theorem v_greatL {n a b s : Nat} {B : Nat → Int64} {T : Nat → Int32} (hn : n ≤ 6) (h : BP n a b B) (hT : VS T) (hs : s < 2 ^ n) {o : Option Nat} (ho : GM (pv n a b s s 0) o) : ∃ o', gk_lp (fun z => m_X3_greatest_B16 (nI n) B T (nI s) z.1 z.2) gk_fu (enc o, (0 : Int32)) = some (enc o') ∧ GM (pv n a b (s + 1) (s + 1) 0) o' := by
  have h6 := pow6 hn
  obtain ⟨r, h1, o', h2, h3⟩ := ruP (f := fun z => m_X3_greatest_B16 (nI n) B T (nI s) z.1 z.2) (fun i z => ∃ o, z = (enc o, nI i) ∧ GM (pv n a b s s i) o) (fun r => ∃ o', r = enc o' ∧ GM (pv n a b (s + 1) (s + 1) 0) o') (s + 1) (s0 := (enc o, (0 : Int32))) (by omega) ⟨o, rfl, ho⟩ (by
    rintro i z hi ⟨o, rfl, ho⟩
    show ∃ s', m_X3_greatest_B16 (nI n) B T (nI s) (enc o) (nI i) = _ ∧ _
    unfold m_X3_greatest_B16
    rw [if_neg (fun q => by have := (nI_s_lt (by omega) (by omega)).mp q; omega), ix_ok (show s < 64 by omega) (by omega), ix_ok (show i < 64 by omega) (by omega), nI_clamp (by omega), nI_clamp (by omega), v_holdsRow h (by omega) (by omega), bd1_some, hT s (by omega), hT i (by omega), nI_add, nI_1]
    simp only [q10]
    have htl := tt_lt (show s < 64 by omega) (show i < 64 by omega)
    cases hh : hb n a b s i with
    | false =>
      refine ⟨(enc o, nI (i + 1)), by simp, o, rfl, ho.congr (fun t => ?_)⟩
      rw [pv_s, hh]; simp
    | true =>
      refine ⟨(enc (mxA o (tern s + tern i)), nI (i + 1)), ?_, _, rfl, (ho.add (tern s + tern i)).congr (fun t => ?_)⟩
      · cases o with
        | none =>
          have : (-1 : Int32) < nI (tern s + tern i) := by
            rw [Int32.lt_iff_toInt_lt, nI_toInt (by omega), show (-1 : Int32).toInt = -1 from by decide]; omega
          simp [enc, mxA, this]
        | some m =>
          have hm : m < 729 := pv_lt hn ho.1
          rw [show enc (some m) = nI m from rfl]
          simp only [not_true, if_false]
          unfold mxA
          simp only [nI_ltI (show m < 2 ^ 31 by omega) (show tern s + tern i < 2 ^ 31 by omega)]
          by_cases q : m < tern s + tern i
          · simp only [q, if_true]; rfl
          · simp only [q, if_false]; rfl
      · rw [pv_s, hh]; simp) (by
    rintro z ⟨o, rfl, ho⟩
    refine ⟨enc o, ?_, o, rfl, ho.congr (fun t => pv_n)⟩
    show m_X3_greatest_B16 (nI n) B T (nI s) (enc o) (nI (s + 1)) = _
    unfold m_X3_greatest_B16
    rw [if_pos ((nI_s_lt (by omega) (by omega)).mpr (by omega))])
  exact ⟨o', by rw [h1, h2], h3⟩
theorem v_great3 {n a b : Nat} {B : Nat → Int64} {T : Nat → Int32} (hn : n ≤ 6) (h : BP n a b B) (hT : VS T) : ∃ o, m_X3_greatest (nI n) B T = some (enc o) ∧ GM (fun t => jb n a b t = true) o := by
  have h6 := pow6 hn
  unfold m_X3_greatest m_X3_greatest_0
  obtain ⟨r, h1, o', h2, h3⟩ := ruP (f := fun z => m_X3_greatest_B4 (nI n) B T z.1 z.2) (fun i z => ∃ o, z = (enc o, nI i) ∧ GM (pv n a b i i 0) o) (fun r => ∃ o', r = enc o' ∧ GM (fun t => jb n a b t = true) o') (2 ^ n) (s0 := ((-1 : Int32), (0 : Int32))) (by omega) ⟨none, rfl, fun t q => by
      rcases q with ⟨s', q1, -⟩ | ⟨c, q1, -⟩ <;> omega⟩ (by
    rintro i z hi ⟨o, rfl, ho⟩
    show ∃ s', m_X3_greatest_B4 (nI n) B T (enc o) (nI i) = _ ∧ _
    obtain ⟨o', q1, q2⟩ := v_greatL hn h hT hi ho
    unfold m_X3_greatest_B4
    rw [shl1 (by omega), if_neg (nI_ge hi (by omega)), q1, bd1_some, nI_1]
    exact ⟨(enc o', nI (i + 1)), rfl, o', rfl, q2⟩) (by
    rintro z ⟨o, rfl, ho⟩
    refine ⟨enc o, ?_, o, rfl, ho.congr (fun t => pv_all hn)⟩
    show m_X3_greatest_B4 (nI n) B T (enc o) (nI (2 ^ n)) = _
    unfold m_X3_greatest_B4
    rw [shl1 (by omega), if_pos (nI_le (Nat.le_refl _) (by omega))])
  rw [h1]
  exact ⟨o', by rw [h2]; rfl, h3⟩
theorem LM.first {P : Nat → Bool} {N : Nat} {o : Option Nat} (h : LM (fun t => P t = true) o) (hN : ∀ t, P t = true → t < N) : o = ffO P N := by
  cases o with
  | none =>
    symm
    exact ffO_no (fun j _ => by
      cases q : P j with
      | false => rfl
      | true => exact absurd q (h j))
  | some m =>
    symm
    refine ffO_is (hN m h.1) h.1 (fun j hj => ?_)
    cases q : P j with
    | false => rfl
    | true => have := h.2 j q; omega
def lsO (P : Nat → Bool) : Nat → Option Nat
  | 0 => none
  | t + 1 => if P t then some t else lsO P t
theorem lsO_ok (P : Nat → Bool) : ∀ n, match lsO P n with
    | none => ∀ j, j < n → P j = false
    | some m => m < n ∧ P m = true ∧ ∀ j, j < n → P j = true → j ≤ m
  | 0 => by simp [lsO]
  | n + 1 => by
    have ih := lsO_ok P n
    unfold lsO
    by_cases h : P n = true
    · rw [if_pos h]
      exact ⟨by omega, h, fun j hj _ => by omega⟩
    · rw [if_neg h]
      cases e : lsO P n with
      | none =>
        rw [e] at ih
        intro j hj
        by_cases q : j = n
        · subst q; simpa using h
        · exact ih j (by omega)
      | some m =>
        rw [e] at ih
        refine ⟨by omega, ih.2.1, fun j hj hp => ?_⟩
        by_cases q : j = n
        · subst q; exact absurd hp h
        · exact ih.2.2 j (by omega) hp
theorem GM.last {P : Nat → Bool} {N : Nat} {o : Option Nat} (h : GM (fun t => P t = true) o) (hN : ∀ t, P t = true → t < N) : o = lsO P N := by
  have hk := lsO_ok P N
  cases o with
  | none =>
    cases e : lsO P N with
    | none => rfl
    | some m => rw [e] at hk; exact absurd hk.2.1 (h m)
  | some m =>
    cases e : lsO P N with
    | none =>
      rw [e] at hk
      have h1 : P m = true := h.1
      rw [hk m (hN m h.1)] at h1
      cases h1
    | some k =>
      rw [e] at hk
      have h1 := h.2 k hk.2.1
      have h2 := hk.2.2 m (hN m h.1) h.1
      congr 1
      omega
theorem v_jumpsL {n a b : Nat} {M : Nat → Int64} {K J : Nat → Int32} {x3 : Int32} (hn : n ≤ 6) (h : JP n a b J) : gk_lp (fun z => m_X6_jumps_B88 (nI n) (nI (3 ^ n)) M K J x3 z.1 z.2.1 z.2.2.1 z.2.2.2) gk_fu ((0 : Int32), (-1 : Int32), (-1 : Int32), (0 : Int32)) = some (nI (fb_ct (jb n a b) (3 ^ n)), enc (ffO (jb n a b) (3 ^ n)), enc (lsO (jb n a b) (3 ^ n))) := by
  have h3 := p3_le n (by omega)
  refine ru (fun i => (nI (fb_ct (jb n a b) i), enc (ffO (jb n a b) i), enc (lsO (jb n a b) i), nI i)) (3 ^ n) rfl (by omega) (fun i hi => ?_) ?_
  · show m_X6_jumps_B88 (nI n) (nI (3 ^ n)) M K J x3 (nI (fb_ct (jb n a b) i)) (enc (ffO (jb n a b) i)) (enc (lsO (jb n a b) i)) (nI i) = some (Sum.inl (nI (fb_ct (jb n a b) (i + 1)), enc (ffO (jb n a b) (i + 1)), enc (lsO (jb n a b) (i + 1)), nI (i + 1)))
    unfold m_X6_jumps_B88
    rw [if_neg (nI_ge hi (by omega)), ix_ok (show i < 729 by omega) (by omega), nI_clamp (by omega), h i hi, fb_ct_succ, nI_1, nI_1, ffO, lsO]
    simp only [q10]
    cases hj : jb n a b i with
    | false => cases e : ffO (jb n a b) i <;> simp
    | true =>
      cases e : ffO (jb n a b) i with
      | none => simp [enc]
      | some k =>
        have := (ffO_some e).1
        have hk : ¬ nI k = -1 := nI_ne (by omega)
        simp [enc, hk]
  · show m_X6_jumps_B88 (nI n) (nI (3 ^ n)) M K J x3 _ _ _ (nI (3 ^ n)) = _
    unfold m_X6_jumps_B88
    rw [if_pos (nI_le (Nat.le_refl _) (by omega))]
