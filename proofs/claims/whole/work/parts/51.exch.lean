/-! ===== exchange ===== -/
def uv (u v : Nat) : Nat := 2 ^ u ||| 2 ^ v
theorem uv_lt {u v : Nat} (hu : u < 6) (hv : v < 6) : uv u v < 64 := Nat.or_lt_two_pow (n := 6) (p6 u hu) (p6 v hv)
theorem uv_I {u v : Nat} (hu : u < 6) (hv : v < 6) : ((1 : Int32) <<< (nI u &&& 31)) ||| ((1 : Int32) <<< (nI v &&& 31)) = nI (uv u v) := by
  rw [shl1 (by omega), shl1 (by omega), fa_or]; rfl
theorem uv_self (u : Nat) : uv u u = 2 ^ u := Nat.or_self _
def ptn (n w x u : Nat) : Nat := bsn (fun v => w.testBit (x ^^^ uv u v)) n
theorem ptn_lt {n w x u : Nat} (hn : n ≤ 6) : ptn n w x u < 64 := Nat.lt_of_lt_of_le (bsn_lt _ _) (pow6 hn)
theorem ptn_bit (n w x u v : Nat) : (ptn n w x u).testBit v = (decide (v < n) && w.testBit (x ^^^ uv u v)) := by rw [ptn, bsn_bit]
theorem v_partners {n w x u : Nat} (hn : n ≤ 6) (hw : w < 2 ^ 64) (hx : x < 64) (hu : u < 6) : m_X0_partners (lN w) (nI x) (nI u) (nI n) = some (nI (ptn n w x u)) := by
  unfold m_X0_partners m_X0_partners_0
  have hl : gk_lp (fun z => m_X0_partners_B6 (lN w) (nI x) (nI u) (nI n) z.1 z.2) gk_fu ((0 : Int32), (0 : Int32)) = some (nI (ptn n w x u)) := by
    refine ru (fun i => (nI (bsn (fun v => w.testBit (x ^^^ uv u v)) i), nI i)) n rfl (by omega) (fun i hi => ?_) ?_
    · show m_X0_partners_B6 (lN w) (nI x) (nI u) (nI n) (nI (bsn (fun v => w.testBit (x ^^^ uv u v)) i)) (nI i) = some (Sum.inl (nI (bsn (fun v => w.testBit (x ^^^ uv u v)) (i + 1)), nI (i + 1)))
      unfold m_X0_partners_B6
      rw [if_neg (nI_ge hi (by omega)), uv_I hu (by omega), fb_xorI, v_holds hw (xlt6 hx (uv_lt hu (by omega))), bd1_some, shl1 (by omega), bsn_or, nI_1, fa_or]
      simp only [q10]
      cases w.testBit (x ^^^ uv u i) <;> simp
    · show m_X0_partners_B6 (lN w) (nI x) (nI u) (nI n) _ (nI n) = _
      unfold m_X0_partners_B6
      rw [if_pos (nI_le (Nat.le_refl _) (by omega))]
      rfl
  rw [hl]
  rfl
def lkP (x pts i s : Nat) : Bool := decide (∀ p, p < i → pts.testBit p = true → s.testBit p = x.testBit p)
theorem lkP_s (x pts i s : Nat) : lkP x pts (i + 1) s = (lkP x pts i s && (!pts.testBit i || (s.testBit i == x.testBit i))) := by
  unfold lkP
  rw [Bool.eq_iff_iff, Bool.and_eq_true, decide_eq_true_iff, decide_eq_true_iff, Nat.forall_lt_succ_right]
  apply and_congr Iff.rfl
  cases pts.testBit i <;> cases s.testBit i <;> cases x.testBit i <;> simp
theorem v_likeAt {x pts : Nat} (hx : x < 64) (hp : pts < 64) : m_X0_likeAt (nI x) (nI pts) = some (lN (bsn (lkP x pts 6) 64)) := by
  unfold m_X0_likeAt m_X0_likeAt_0
  have hl : gk_lp (fun z => m_X0_likeAt_B7 (nI x) (nI pts) z.1 z.2) gk_fu ((-1 : Int64), (0 : Int32)) = some (lN (bsn (lkP x pts 6) 64)) := by
    refine ru (fun i => (lN (bsn (lkP x pts i) 64), nI i)) 6 ?_ (by omega) (fun i hi => ?_) ?_
    · show _ = (lN (bsn (lkP x pts 0) 64), nI 0)
      rw [lN_m1]
      congr 2
      refine tb_ext (n := 64) (by omega) (bsn_lt _ _) (fun s hs => ?_)
      rw [bsn_bit, Nat.testBit_two_pow_sub_one]
      simp [hs, lkP]
    · show m_X0_likeAt_B7 (nI x) (nI pts) (lN (bsn (lkP x pts i) 64)) (nI i) = some (Sum.inl (lN (bsn (lkP x pts (i + 1)) 64), nI (i + 1)))
      unfold m_X0_likeAt_B7
      simp only [if_neg (gel 6 hi), bitI0 (show pts < 2 ^ 31 by omega) (show i < 31 by omega), bitI0 (show x < 2 ^ 31 by omega) (show i < 31 by omega), ix_ok hi (show 6 < 2 ^ 31 by omega), nI_clamp (show i < 2 ^ 31 by omega), nI_1]
      cases h1 : pts.testBit i with
      | false =>
        rw [if_pos rfl]
        congr 4
        refine tb_ext (bsn_lt _ _) (bsn_lt _ _) (fun s hs => ?_)
        rw [bsn_bit, bsn_bit, lkP_s, h1]; simp
      | true =>
        rw [if_neg (by decide)]
        cases h2 : x.testBit i with
        | false =>
          rw [if_pos rfl, hv_not i hi, fb_andL]
          congr 3
          refine lN_mod64 (bsn_lt _ _) (fun s hs => ?_)
          rw [Nat.testBit_and, bsn_bit, bsn_bit, lkP_s, h1, h2, hvn_bit i hi s hs]
          cases s.testBit i <;> simp
        | true =>
          rw [if_neg (by decide), hv_lN i hi, fb_andL]
          congr 3
          refine lN_mod64 (bsn_lt _ _) (fun s hs => ?_)
          rw [Nat.testBit_and, bsn_bit, bsn_bit, lkP_s, h1, h2, hv_bit i hi s hs]
          cases s.testBit i <;> simp
    · show m_X0_likeAt_B7 (nI x) (nI pts) _ (nI 6) = _
      unfold m_X0_likeAt_B7
      rw [if_pos (lel 6 (by omega))]
  rw [hl]
  rfl
def lone (n w x y u : Nat) : Bool := (x ^^^ y).testBit u && decide (∀ v, v < n → (x ^^^ y).testBit v = true → w.testBit (x ^^^ uv u v) = false)
def unm (n w x u : Nat) : Nat := bsn (fun y => w.testBit y && lone n w x y u) 64
theorem unm_lt (n w x u : Nat) : unm n w x u < 2 ^ 64 := bsn_lt _ _
theorem unm_bit {n w x u y : Nat} (hy : y < 64) : (unm n w x u).testBit y = (w.testBit y && lone n w x y u) := by rw [unm, bsn_bit]; simp [hy]
theorem v_unmet {n w x u : Nat} (hn : n ≤ 6) (hw : w < 2 ^ 64) (hx : x < 64) (hu : u < n) : m_X0_unmet (lN w) (nI x) (nI u) (nI n) = some (lN (unm n w x u)) := by
  have hu6 : u < 6 := by omega
  unfold m_X0_unmet m_X0_unmet_0
  have hpl := ptn_lt (w := w) (x := x) (u := u) hn
  have h64 := p6 u hu6
  rw [v_partners hn hw hx hu6, bd1_some, shl1 (by omega), fb_xorI, fa_or, v_likeAt (xlt6 hx h64) (Nat.or_lt_two_pow (n := 6) hpl h64), bd1_some, fb_andL]
  simp only [bitI0 (show ptn n w x u < 2 ^ 31 by omega) (show u < 31 by omega), ptn_bit, hu, decide_true, Bool.true_and, uv_self]
  cases hb : w.testBit (x ^^^ 2 ^ u) with
  | true =>
    rw [if_neg (by decide)]
    rw [lN_0]
    congr 2
    refine tb_ext (n := 64) (by omega) (bsn_lt _ _) (fun y hy => ?_)
    rw [Nat.zero_testBit]
    symm
    show (unm n w x u).testBit y = false
    rw [unm_bit hy]
    have : lone n w x y u = false := by
      cases hl : lone n w x y u with
      | false => rfl
      | true =>
        unfold lone at hl
        rw [Bool.and_eq_true, decide_eq_true_iff] at hl
        have := hl.2 u hu hl.1
        rw [uv_self, hb] at this; cases this
    rw [this, Bool.and_false]
  | false =>
    rw [if_pos rfl]
    congr 1
    refine lN_mod64 (bsn_lt _ _) (fun y hy => ?_)
    rw [Nat.testBit_and, bsn_bit]
    show _ = (unm n w x u).testBit y
    rw [unm_bit hy]
    congr 1
    rw [show (decide (y < 64) && lkP (x ^^^ 2 ^ u) (ptn n w x u ||| 2 ^ u) 6 y) = lkP (x ^^^ 2 ^ u) (ptn n w x u ||| 2 ^ u) 6 y from by simp [hy]]
    rw [Bool.eq_iff_iff]
    unfold lkP lone
    rw [decide_eq_true_iff, Bool.and_eq_true, decide_eq_true_iff]
    have hx2 : ∀ p, (x ^^^ 2 ^ u).testBit p = (x.testBit p ^^ decide (p = u)) := fun p => fb_bit_flip x u p
    have ho : ∀ p, (ptn n w x u ||| 2 ^ u).testBit p = ((decide (p < n) && w.testBit (x ^^^ uv u p)) || decide (p = u)) := fun p => by rw [fb_bit_set, ptn_bit]
    constructor
    · intro h
      have h1 := h u hu6 (by rw [ho]; simp)
      rw [hx2] at h1
      have h2 : (x ^^^ y).testBit u = true := by rw [Nat.testBit_xor, h1]; cases x.testBit u <;> simp
      refine ⟨h2, fun v hv hxy => ?_⟩
      by_cases e : v = u
      · subst e; rw [uv_self]; exact hb
      · cases hq : w.testBit (x ^^^ uv u v) with
        | false => rfl
        | true =>
          have h3 := h v (by omega) (by rw [ho, hq]; simp [hv])
          rw [hx2] at h3
          rw [Nat.testBit_xor, h3] at hxy
          simp [e] at hxy
    · rintro ⟨h1, h2⟩ p hp hpt
      rw [hx2]
      by_cases e : p = u
      · subst e
        rw [Nat.testBit_xor] at h1
        simp
        cases hx1 : x.testBit p <;> cases hy1 : y.testBit p <;> simp_all
      · rw [ho] at hpt
        simp only [e, decide_false, Bool.or_false, Bool.and_eq_true, decide_eq_true_iff] at hpt
        simp only [e, decide_false, Bool.xor_false]
        cases hxy : (x ^^^ y).testBit p with
        | true => rw [h2 p hpt.1 hxy] at hpt; cases hpt.2
        | false =>
          rw [Nat.testBit_xor] at hxy
          cases hx1 : x.testBit p <;> cases hy1 : y.testBit p <;> simp_all
def anyU (n w x y : Nat) : Nat → Bool
  | 0 => false
  | i + 1 => anyU n w x y i || lone n w x y i
theorem anyU_iff (n w x y : Nat) : ∀ i, anyU n w x y i = true ↔ ∃ u, u < i ∧ lone n w x y u = true
  | 0 => by simp [anyU]
  | i + 1 => by
    rw [anyU, Bool.or_eq_true, anyU_iff n w x y i]
    constructor
    · rintro (⟨u, h1, h2⟩ | h)
      · exact ⟨u, by omega, h2⟩
      · exact ⟨i, by omega, h⟩
    · rintro ⟨u, h1, h2⟩
      by_cases e : u = i
      · subst e; exact Or.inr h2
      · exact Or.inl ⟨u, by omega, h2⟩
def una (n w x : Nat) : Nat := bsn (fun y => w.testBit y && anyU n w x y n) 64
theorem una_lt (n w x : Nat) : una n w x < 2 ^ 64 := bsn_lt _ _
theorem una_bit {n w x y : Nat} (hy : y < 64) : (una n w x).testBit y = (w.testBit y && anyU n w x y n) := by rw [una, bsn_bit]; simp [hy]
theorem v_unmetAny {n w x : Nat} (hn : n ≤ 6) (hw : w < 2 ^ 64) (hx : x < 64) : m_X0_unmetByAny (lN w) (nI x) (nI n) = some (lN (una n w x)) := by
  unfold m_X0_unmetByAny m_X0_unmetByAny_0
  have hl : gk_lp (fun z => m_X0_unmetByAny_B6 (lN w) (nI x) (nI n) z.1 z.2) gk_fu ((0 : Int64), (0 : Int32)) = some (lN (una n w x)) := by
    refine ru (fun i => (lN (bsn (fun y => w.testBit y && anyU n w x y i) 64), nI i)) n ?_ (by omega) (fun i hi => ?_) ?_
    · show _ = (lN (bsn (fun y => w.testBit y && anyU n w x y 0) 64), nI 0)
      rw [lN_0]
      congr 2
      refine tb_ext (n := 64) (by omega) (bsn_lt _ _) (fun s hs => ?_)
      rw [bsn_bit, Nat.zero_testBit]; simp [anyU]
    · show m_X0_unmetByAny_B6 (lN w) (nI x) (nI n) (lN (bsn (fun y => w.testBit y && anyU n w x y i) 64)) (nI i) = some (Sum.inl (lN (bsn (fun y => w.testBit y && anyU n w x y (i + 1)) 64), nI (i + 1)))
      unfold m_X0_unmetByAny_B6
      rw [if_neg (nI_ge hi (by omega)), v_unmet hn hw hx hi, bd1_some, fb_orL, nI_1]
      congr 3
      refine lN_mod64 (bsn_lt _ _) (fun s hs => ?_)
      rw [Nat.testBit_or, bsn_bit, bsn_bit, unm_bit hs, anyU]
      cases w.testBit s <;> simp [hs]
    · show m_X0_unmetByAny_B6 (lN w) (nI x) (nI n) _ (nI n) = _
      unfold m_X0_unmetByAny_B6
      rw [if_pos (nI_le (Nat.le_refl _) (by omega))]
      rfl
  rw [hl]
  rfl
/-- the first u, the first y, the first x that fail -/
def fU (n w x y : Nat) : Option Nat := ffO (lone n w x y) n
def fYP (n w x y : Nat) : Bool := w.testBit y && (fU n w x y).isSome
def fY (n w x : Nat) : Option Nat := ffO (fYP n w x) (2 ^ n)
def fXP (n w x : Nat) : Bool := w.testBit x && (fY n w x).isSome
def fX (n w : Nat) : Option Nat := ffO (fXP n w) (2 ^ n)
theorem ffO_isSome {P : Nat → Bool} {n : Nat} : (ffO P n).isSome = true ↔ ∃ i, i < n ∧ P i = true := by
  cases e : ffO P n with
  | none =>
    have := ffO_none e
    constructor
    · intro h; cases h
    · rintro ⟨i, h1, h2⟩; rw [this i h1] at h2; cases h2
  | some i =>
    obtain ⟨a, b, -⟩ := ffO_some e
    exact ⟨fun _ => ⟨i, a, b⟩, fun _ => rfl⟩
theorem fU_any (n w x y : Nat) : (fU n w x y).isSome = anyU n w x y n := by
  rw [Bool.eq_iff_iff, fU, ffO_isSome, anyU_iff]
theorem una_fY {n w x : Nat} (hn : n ≤ 6) (hw : w < 2 ^ 2 ^ n) : ffO (una n w x).testBit 64 = fY n w x := by
  have h6 := pow6 hn
  unfold fY
  refine ffO_ext h6 (fun y hy => ?_)
  rw [una_bit hy, fYP, fU_any]
  by_cases q : y < 2 ^ n
  · simp [q]
  · rw [tb_hi hw (by omega)]; simp [q]
theorem una_0 {n w x : Nat} (hn : n ≤ 6) (hw : w < 2 ^ 2 ^ n) : una n w x = 0 ↔ (fY n w x).isSome = false := by
  rw [← una_fY hn hw]
  constructor
  · intro h
    rw [h, ffO_no (fun j _ => Nat.zero_testBit j)]; rfl
  · intro h
    have e : ffO (una n w x).testBit 64 = none := by
      cases q : ffO (una n w x).testBit 64 with
      | none => rfl
      | some i => rw [q] at h; cases h
    exact tb_ext (una_lt _ _ _) (by omega) (fun s hs => by rw [ffO_none e s hs, Nat.zero_testBit])
theorem v_firstStuck {n w : Nat} (hn : n ≤ 6) (hw : w < 2 ^ 2 ^ n) : m_X0_firstStuck (lN w) (nI n) = some (enc (fX n w)) := by
  have h6 := pow6 hn
  have hw64 : w < 2 ^ 64 := Nat.lt_of_lt_of_le hw (pp6 hn)
  unfold m_X0_firstStuck m_X0_firstStuck_0
  have hl : gk_bs0 (gk_lp (fun z => m_X0_firstStuck_B2 (lN w) (nI n) z) gk_fu (0 : Int32)) (fun r => some r) (some (-1 : Int32)) = match fX n w with
      | some i => some (nI i)
      | none => some (-1 : Int32) := by
    refine ruB (fun i => nI i) (fXP n w) (fun i => nI i) (2 ^ n) rfl (by omega) (fun i hi _ hp => ?_) (fun i hi _ hp => ?_) (fun _ => ?_)
    · show m_X0_firstStuck_B2 (lN w) (nI n) (nI i) = _
      unfold m_X0_firstStuck_B2
      rw [shl1 (by omega), if_neg (nI_ge hi (by omega)), v_holds hw64 (by omega), bd1_some, v_unmetAny hn hw64 (by omega), bd1_some, nI_1]
      simp only [q10, cmp0, lN_0, lN_inj64 (una_lt n w i) (show 0 < 2 ^ 64 by omega), una_0 hn hw]
      unfold fXP at hp
      cases hb : w.testBit i with
      | false => simp
      | true => rw [hb, Bool.true_and] at hp; simp [hp]
    · show m_X0_firstStuck_B2 (lN w) (nI n) (nI i) = _
      unfold m_X0_firstStuck_B2
      rw [shl1 (by omega), if_neg (nI_ge hi (by omega)), v_holds hw64 (by omega), bd1_some, v_unmetAny hn hw64 (by omega), bd1_some]
      simp only [q10, cmp0, lN_0, lN_inj64 (una_lt n w i) (show 0 < 2 ^ 64 by omega), una_0 hn hw]
      unfold fXP at hp
      rw [Bool.and_eq_true] at hp
      simp [hp.1, hp.2]
    · show m_X0_firstStuck_B2 (lN w) (nI n) (nI (2 ^ n)) = _
      unfold m_X0_firstStuck_B2
      rw [shl1 (by omega), if_pos (nI_le (Nat.le_refl _) (by omega))]
  rw [hl]
  cases fX n w <;> rfl
theorem v_lonePoint {n w x y : Nat} (hn : n ≤ 6) (hw : w < 2 ^ 64) (hx : x < 64) (hy : y < 64) (hm : w.testBit y = true) : m_X0_firstLonePoint (lN w) (nI x) (nI y) (nI n) = some (enc (fU n w x y)) := by
  unfold m_X0_firstLonePoint m_X0_firstLonePoint_0
  have hl : gk_bs0 (gk_lp (fun z => m_X0_firstLonePoint_B3 (lN w) (nI x) (nI y) (nI n) z) gk_fu (0 : Int32)) (fun r => some r) (some (-1 : Int32)) = match fU n w x y with
      | some i => some (nI i)
      | none => some (-1 : Int32) := by
    refine ruB (fun i => nI i) (lone n w x y) (fun i => nI i) n rfl (by omega) (fun i hi _ hp => ?_) (fun i hi _ hp => ?_) (fun _ => ?_)
    · show m_X0_firstLonePoint_B3 (lN w) (nI x) (nI y) (nI n) (nI i) = _
      unfold m_X0_firstLonePoint_B3
      rw [if_neg (nI_ge hi (by omega)), v_unmet hn hw hx hi, bd1_some, v_holds (unm_lt _ _ _ _) hy, bd1_some, nI_1, unm_bit hy, hp]
      simp
    · show m_X0_firstLonePoint_B3 (lN w) (nI x) (nI y) (nI n) (nI i) = _
      unfold m_X0_firstLonePoint_B3
      rw [if_neg (nI_ge hi (by omega)), v_unmet hn hw hx hi, bd1_some, v_holds (unm_lt _ _ _ _) hy, bd1_some, unm_bit hy, hp, hm]
      simp
    · show m_X0_firstLonePoint_B3 (lN w) (nI x) (nI y) (nI n) (nI n) = _
      unfold m_X0_firstLonePoint_B3
      rw [if_pos (nI_le (Nat.le_refl _) (by omega))]
  rw [hl]
  cases fU n w x y <;> rfl
/-! the reference's -/
def pOf (n w x y u : Nat) : Option Nat := ffO (fun v => (x ^^^ y).testBit v && w.testBit (x ^^^ uv u v)) n
theorem v_partnerOf {n w x y u j : Nat} {M : Nat → Int64} (hn : n ≤ 6) (hj : j < 6) (hM : M j = lN w) (hw : w < 2 ^ 64) (hx : x < 64) (hy : y < 64) (hu : u < 6) : m_X6_partnerOf (nI n) M (nI j) (nI x) (nI y) (nI u) = some (enc (pOf n w x y u)) := by
  unfold m_X6_partnerOf m_X6_partnerOf_0
  have hxy := xlt6 hx hy
  have hl : gk_bs0 (gk_lp (fun z => m_X6_partnerOf_B3 (nI n) M (nI j) (nI x) (nI y) (nI u) z) gk_fu (0 : Int32)) (fun r => some r) (some (-1 : Int32)) = match pOf n w x y u with
      | some i => some (nI i)
      | none => some (-1 : Int32) := by
    refine ruB (fun i => nI i) (fun v => (x ^^^ y).testBit v && w.testBit (x ^^^ uv u v)) (fun i => nI i) n rfl (by omega) (fun i hi _ hp => ?_) (fun i hi _ hp => ?_) (fun _ => ?_)
    · show m_X6_partnerOf_B3 (nI n) M (nI j) (nI x) (nI y) (nI u) (nI i) = _
      unfold m_X6_partnerOf_B3
      rw [if_neg (nI_ge hi (by omega)), uv_I hu (by omega), fb_xorI, fb_xorI, v_isMember hj hM hw (xlt6 hx (uv_lt hu (by omega))), bd1_some, nI_1]
      simp only [bitI1 (show x ^^^ y < 2 ^ 31 by omega) (show i < 31 by omega), q10]
      cases h1 : (x ^^^ y).testBit i with
      | false => simp
      | true => rw [h1, Bool.true_and] at hp; simp [hp]
    · show m_X6_partnerOf_B3 (nI n) M (nI j) (nI x) (nI y) (nI u) (nI i) = _
      unfold m_X6_partnerOf_B3
      rw [if_neg (nI_ge hi (by omega)), uv_I hu (by omega), fb_xorI, fb_xorI, v_isMember hj hM hw (xlt6 hx (uv_lt hu (by omega))), bd1_some]
      simp only [bitI1 (show x ^^^ y < 2 ^ 31 by omega) (show i < 31 by omega), q10]
      rw [Bool.and_eq_true] at hp
      simp [hp.1, hp.2]
    · show m_X6_partnerOf_B3 (nI n) M (nI j) (nI x) (nI y) (nI u) (nI n) = _
      unfold m_X6_partnerOf_B3
      rw [if_pos (nI_le (Nat.le_refl _) (by omega))]
  rw [hl]
  cases pOf n w x y u <;> rfl
theorem enc_m1 {o : Option Nat} (h : ∀ i, o = some i → i < 2 ^ 31) : (enc o = -1) ↔ o = none := by
  cases o with
  | none => exact ⟨fun _ => rfl, fun _ => rfl⟩
  | some i =>
    constructor
    · intro q; exact absurd q (nI_ne (h i rfl))
    · intro q; cases q
theorem pOf_m1 {n w x y u : Nat} (hn : n ≤ 6) : (enc (pOf n w x y u) = -1) ↔ pOf n w x y u = none := enc_m1 (fun v hv => by
  have := (ffO_some (P := fun v => (x ^^^ y).testBit v && w.testBit (x ^^^ uv u v)) (n := n) hv).1
  omega)
theorem fX_m1 {n w : Nat} (hn : n ≤ 6) : (enc (fX n w) = -1) ↔ fX n w = none := enc_m1 (fun v hv => by
  have := (ffO_some (P := fXP n w) (n := 2 ^ n) hv).1
  have := pow6 hn
  omega)
theorem lone_pOf (n w x y u : Nat) : lone n w x y u = ((x ^^^ y).testBit u && decide (pOf n w x y u = none)) := by
  unfold lone
  congr 1
  apply decide_eq_decide.mpr
  constructor
  · intro h
    refine ffO_no (fun v hv => ?_)
    cases q : (x ^^^ y).testBit v with
    | false => rfl
    | true => rw [h v hv q]; rfl
  · intro h v hv q
    have := ffO_none h v hv
    simp only [q, Bool.true_and] at this
    exact this
/-- which of x, y, u is asked for -/
def wh (k x y u : Nat) : Nat := if k = 0 then x else if k = 1 then y else u
def fUv (n w x y k : Nat) : Option Nat := (fU n w x y).map (fun u => wh k x y u)
def fYv (n w x k : Nat) : Option Nat := (fY n w x).bind (fun y => fUv n w x y k)
def fXv (n w k : Nat) : Option Nat := (fX n w).bind (fun x => fYv n w x k)
theorem v6_inner {n w x y k j : Nat} {M : Nat → Int64} {γ : Type} {kr : Int32 → Option γ} {ke : Option γ} (h0 : 1 ≤ n) (hn : n ≤ 6) (hj : j < 6) (hM : M j = lN w) (hw : w < 2 ^ 64) (hx : x < 64) (hy : y < 64) (hk : k < 3) : gk_bs0 (gk_lp (fun z => m_X6_failing_B38 (nI n) M (nI j) (nI k) (nI x) (nI y) z) gk_fu (0 : Int32)) kr ke = if w.testBit y then (match fU n w x y with
      | some u => kr (nI (wh k x y u))
      | none => ke) else ke := by
  have hxy := xlt6 hx hy
  have hk0 : (nI k = 0) = (k = 0) := propext (nI_eq (show k < 2 ^ 31 by omega) (show 0 < 2 ^ 31 by omega))
  have hk1 : (nI k = 1) = (k = 1) := propext (nI_eq (show k < 2 ^ 31 by omega) (show 1 < 2 ^ 31 by omega))
  cases hb : w.testBit y with
  | false =>
    have : gk_lp (fun z => m_X6_failing_B38 (nI n) M (nI j) (nI k) (nI x) (nI y) z) gk_fu (0 : Int32) = some (Sum.inr ()) := by
      refine ru (fun i => nI i) 0 rfl (by omega) (fun i hi => absurd hi (by omega)) ?_
      show m_X6_failing_B38 (nI n) M (nI j) (nI k) (nI x) (nI y) (nI 0) = _
      unfold m_X6_failing_B38
      rw [if_neg (nI_ge (by omega) (by omega)), v_isMember hj hM hw hy, bd1_some, hb]
      simp
    rw [this]
    rfl
  | true =>
    rw [if_pos rfl]
    unfold fU
    refine ruB (fun i => nI i) (lone n w x y) (fun i => nI (wh k x y i)) n rfl (by omega) (fun i hi _ hp => ?_) (fun i hi _ hp => ?_) (fun _ => ?_)
    · show m_X6_failing_B38 (nI n) M (nI j) (nI k) (nI x) (nI y) (nI i) = _
      unfold m_X6_failing_B38
      rw [if_neg (nI_ge hi (by omega)), v_isMember hj hM hw hy, bd1_some, hb, v_partnerOf hn hj hM hw hx hy (by omega), bd1_some, fb_xorI, nI_1]
      rw [lone_pOf] at hp
      simp only [bitI1 (show x ^^^ y < 2 ^ 31 by omega) (show i < 31 by omega), pOf_m1 hn]
      cases h1 : (x ^^^ y).testBit i with
      | false => simp
      | true =>
        rw [h1, Bool.true_and, decide_eq_false_iff_not] at hp
        simp [hp]
    · show m_X6_failing_B38 (nI n) M (nI j) (nI k) (nI x) (nI y) (nI i) = _
      unfold m_X6_failing_B38
      rw [if_neg (nI_ge hi (by omega)), v_isMember hj hM hw hy, bd1_some, hb, v_partnerOf hn hj hM hw hx hy (by omega), bd1_some, fb_xorI]
      rw [lone_pOf, Bool.and_eq_true, decide_eq_true_iff] at hp
      simp only [bitI1 (show x ^^^ y < 2 ^ 31 by omega) (show i < 31 by omega), pOf_m1 hn, hp.1, hp.2, hk0, hk1, if_true]
      unfold wh
      by_cases a : k = 0
      · simp [a, enc]
      · by_cases b : k = 1 <;> simp [a, b, enc]
    · show m_X6_failing_B38 (nI n) M (nI j) (nI k) (nI x) (nI y) (nI n) = _
      unfold m_X6_failing_B38
      rw [if_pos (nI_le (Nat.le_refl _) (by omega))]
theorem v6_mid {n w x k j : Nat} {M : Nat → Int64} {γ : Type} {kr : Int32 → Option γ} {ke : Option γ} (h0 : 1 ≤ n) (hn : n ≤ 6) (hj : j < 6) (hM : M j = lN w) (hw : w < 2 ^ 64) (hx : x < 64) (hk : k < 3) : gk_bs0 (gk_lp (fun z => m_X6_failing_B15 (nI n) M (nI j) (nI k) (nI x) z) gk_fu (0 : Int32)) kr ke = if w.testBit x then (match fYv n w x k with
      | some u => kr (nI u)
      | none => ke) else ke := by
  have h6 := pow6 hn
  have hp0 : 0 < 2 ^ n := Nat.two_pow_pos n
  cases hb : w.testBit x with
  | false =>
    have : gk_lp (fun z => m_X6_failing_B15 (nI n) M (nI j) (nI k) (nI x) z) gk_fu (0 : Int32) = some (Sum.inr ()) := by
      refine ru (fun i => nI i) 0 rfl (by omega) (fun i hi => absurd hi (by omega)) ?_
      show m_X6_failing_B15 (nI n) M (nI j) (nI k) (nI x) (nI 0) = _
      unfold m_X6_failing_B15
      rw [shl1 (by omega), if_neg (nI_ge hp0 (by omega)), v_isMember hj hM hw hx, bd1_some, hb]
      simp
    rw [this]
    rfl
  | true =>
    rw [if_pos rfl]
    have hl : gk_bs0 (gk_lp (fun z => m_X6_failing_B15 (nI n) M (nI j) (nI k) (nI x) z) gk_fu (0 : Int32)) kr ke = match fY n w x with
        | some y => kr (nI ((fUv n w x y k).getD 0))
        | none => ke := by
      unfold fY
      refine ruB (fun i => nI i) (fYP n w x) (fun y => nI ((fUv n w x y k).getD 0)) (2 ^ n) rfl (by omega) (fun i hi _ hp => ?_) (fun i hi _ hp => ?_) (fun _ => ?_)
      · show m_X6_failing_B15 (nI n) M (nI j) (nI k) (nI x) (nI i) = _
        unfold m_X6_failing_B15
        rw [shl1 (by omega), if_neg (nI_ge hi (by omega)), v_isMember hj hM hw hx, bd1_some, hb, v6_inner h0 hn hj hM hw hx (by omega) hk, nI_1]
        unfold fYP at hp
        cases h1 : w.testBit i with
        | false => simp
        | true =>
          rw [h1, Bool.true_and] at hp
          cases e : fU n w x i with
          | none => simp
          | some u => rw [e] at hp; cases hp
      · show m_X6_failing_B15 (nI n) M (nI j) (nI k) (nI x) (nI i) = _
        unfold m_X6_failing_B15
        rw [shl1 (by omega), if_neg (nI_ge hi (by omega)), v_isMember hj hM hw hx, bd1_some, hb, v6_inner h0 hn hj hM hw hx (by omega) hk]
        unfold fYP at hp
        rw [Bool.and_eq_true] at hp
        cases e : fU n w x i with
        | none => rw [e] at hp; cases hp.2
        | some u => simp [hp.1, fUv, e]
      · show m_X6_failing_B15 (nI n) M (nI j) (nI k) (nI x) (nI (2 ^ n)) = _
        unfold m_X6_failing_B15
        rw [shl1 (by omega), if_pos (nI_le (Nat.le_refl _) (by omega))]
    rw [hl]
    unfold fYv
    cases e : fY n w x with
    | none => rfl
    | some y =>
      obtain ⟨-, b, -⟩ := ffO_some e
      unfold fYP at b
      rw [Bool.and_eq_true] at b
      cases e2 : fU n w x y with
      | none => rw [e2] at b; cases b.2
      | some u => simp [fUv, e2]
theorem v6_failing {n w k j : Nat} {M : Nat → Int64} (h0 : 1 ≤ n) (hn : n ≤ 6) (hj : j < 6) (hM : M j = lN w) (hw : w < 2 ^ 64) (hk : k < 3) : m_X6_failing (nI n) M (nI j) (nI k) = some (enc (fXv n w k)) := by
  have h6 := pow6 hn
  unfold m_X6_failing m_X6_failing_0
  have hl : gk_bs0 (gk_lp (fun z => m_X6_failing_B2 (nI n) M (nI j) (nI k) z) gk_fu (0 : Int32)) (fun r => some r) (some (-1 : Int32)) = match fX n w with
      | some x => some (nI ((fYv n w x k).getD 0))
      | none => some (-1 : Int32) := by
    unfold fX
    refine ruB (fun i => nI i) (fXP n w) (fun x => nI ((fYv n w x k).getD 0)) (2 ^ n) rfl (by omega) (fun i hi _ hp => ?_) (fun i hi _ hp => ?_) (fun _ => ?_)
    · show m_X6_failing_B2 (nI n) M (nI j) (nI k) (nI i) = _
      unfold m_X6_failing_B2
      rw [shl1 (by omega), if_neg (nI_ge hi (by omega)), v6_mid h0 hn hj hM hw (by omega) hk, nI_1]
      unfold fXP at hp
      cases h1 : w.testBit i with
      | false => simp
      | true =>
        rw [h1, Bool.true_and] at hp
        cases e : fY n w i with
        | none => simp [fYv, e]
        | some u => rw [e] at hp; cases hp
    · show m_X6_failing_B2 (nI n) M (nI j) (nI k) (nI i) = _
      unfold m_X6_failing_B2
      rw [shl1 (by omega), if_neg (nI_ge hi (by omega)), v6_mid h0 hn hj hM hw (by omega) hk]
      unfold fXP at hp
      rw [Bool.and_eq_true] at hp
      cases e : fY n w i with
      | none => rw [e] at hp; cases hp.2
      | some y =>
        obtain ⟨-, b, -⟩ := ffO_some e
        unfold fYP at b
        rw [Bool.and_eq_true] at b
        cases e2 : fU n w i y with
        | none => rw [e2] at b; cases b.2
        | some u => simp [hp.1, fYv, e, fUv, e2]
    · show m_X6_failing_B2 (nI n) M (nI j) (nI k) (nI (2 ^ n)) = _
      unfold m_X6_failing_B2
      rw [shl1 (by omega), if_pos (nI_le (Nat.le_refl _) (by omega))]
  rw [hl]
  unfold fXv
  cases e : fX n w with
  | none => rfl
  | some x =>
    obtain ⟨-, b, -⟩ := ffO_some e
    unfold fXP at b
    rw [Bool.and_eq_true] at b
    cases e1 : fY n w x with
    | none => rw [e1] at b; cases b.2
    | some y =>
      obtain ⟨-, b, -⟩ := ffO_some e1
      unfold fYP at b
      rw [Bool.and_eq_true] at b
      cases e2 : fU n w x y with
      | none => rw [e2] at b; cases b.2
      | some u => simp [fYv, e1, fUv, e2, enc]
theorem fX0 (n w : Nat) : fXv n w 0 = fX n w := by
  unfold fXv
  cases e : fX n w with
  | none => rfl
  | some x =>
    obtain ⟨-, b, -⟩ := ffO_some e
    unfold fXP at b
    rw [Bool.and_eq_true] at b
    cases e1 : fY n w x with
    | none => rw [e1] at b; cases b.2
    | some y =>
      obtain ⟨-, b, -⟩ := ffO_some e1
      unfold fYP at b
      rw [Bool.and_eq_true] at b
      cases e2 : fU n w x y with
      | none => rw [e2] at b; cases b.2
      | some u => simp [fYv, e1, fUv, e2, wh]
theorem o_fails {n : Nat} {M : Nat → Int64} {K : Nat → Int32} (h0 : 1 ≤ n) (hn : n ≤ 6) (hV : VF n M K) (x1 x2 : Int32) : ∃ r, m_X5_fails (nI n) M K x1 x2 = some r ∧ m_X6_fails (nI n) M K x1 x2 = some r := by
  have h6 := pow6 hn
  unfold m_X5_fails m_X5_fails_0 m_X6_fails m_X6_fails_0
  simp only [v5_fam, v6_fam, bd1_some, q01, q10, show m_X6_isIn x2.toInt64 (0 : Int64) (2 : Int64) = _ from v6_in x2 2 (by omega)]
  have e3 : ∀ A B : Option Int32, (if x2 < 0 then A else if x2 ≤ 2 then B else A) = if fok (2 + 1) x2 = true then B else A := fun A B => sel_le x2 2 (by omega) A B
  rw [e3]
  by_cases h1 : fok 6 x1 = true
  case neg => exact ⟨-2, by simp [h1], by simp [h1]⟩
  by_cases h2 : fok (2 + 1) x2 = true
  case neg => exact ⟨-2, by simp only [h1, h2, if_true]; simp, by simp only [h1, h2, if_true, not_true, if_false]; simp⟩
  obtain ⟨j, hj, rfl⟩ := fok_ex (by omega) h1
  obtain ⟨k, hk3, rfl⟩ := fok_ex (by omega) h2
  obtain ⟨⟨w, hw, hM⟩, -⟩ := hV j hj
  have hw64 : w < 2 ^ 64 := Nat.lt_of_lt_of_le hw (pp6 hn)
  simp only [h1, h2, if_true, not_true, if_false, v5_missing hj, bd1_some, q10, ix_ok hj (show 6 < 2 ^ 31 by omega), nI_clamp (show j < 2 ^ 31 by omega), hM, v_firstStuck hn hw, v6_failing h0 hn hj hM hw64 hk3]
  by_cases hk : K j = -1
  · exact ⟨-11, by simp [hk], by simp [hk]⟩
  simp only [hk, not_false_eq_true, if_true, if_false]
  have hk0 : (nI k = 0) = (k = 0) := propext (nI_eq (show k < 2 ^ 31 by omega) (show 0 < 2 ^ 31 by omega))
  have hk1 : (nI k = 1) = (k = 1) := propext (nI_eq (show k < 2 ^ 31 by omega) (show 1 < 2 ^ 31 by omega))
  refine ⟨_, ?_, rfl⟩
  simp only [fX_m1 hn, hk0, hk1]
  unfold fXv
  cases e : fX n w with
  | none => rfl
  | some x =>
    obtain ⟨hx, b, -⟩ := ffO_some e
    unfold fXP at b
    rw [Bool.and_eq_true] at b
    cases e1 : fY n w x with
    | none => rw [e1] at b; cases b.2
    | some y =>
      obtain ⟨hy, b2, -⟩ := ffO_some e1
      unfold fYP at b2
      rw [Bool.and_eq_true] at b2
      cases e2 : fU n w x y with
      | none => rw [e2] at b2; cases b2.2
      | some u =>
        have hf : m_X0_firstUnmet (lN w) (enc (some x)) (nI n) = some (nI y) := by
          show m_X0_firstUnmet (lN w) (nI x) (nI n) = some (nI y)
          unfold m_X0_firstUnmet m_X0_firstUnmet_0
          rw [v_unmetAny hn hw64 (by omega), bd1_some, v_first (una_lt _ _ _) (by rw [una_fY hn hw, e1]), bd1_some]
        have hg : m_X0_firstLonePoint (lN w) (enc (some x)) (nI y) (nI n) = some (nI u) := by
          show m_X0_firstLonePoint (lN w) (nI x) (nI y) (nI n) = some (nI u)
          rw [v_lonePoint hn hw64 (by omega) (by omega) b2.1, e2]
          rfl
        rw [hf, bd1_some, hg, bd1_some]
        simp only [fYv, e1, fUv, e2, Option.bind_some, Option.map_some, wh]
        by_cases a : k = 0
        · simp [a]
        · by_cases b : k = 1 <;> simp [a, b, enc]
theorem lb_ff : ∀ b, b < 128 → lbO b = ffO b.testBit 7 := by decide +kernel
theorem o_partner {n : Nat} {M : Nat → Int64} {K : Nat → Int32} (h0 : 1 ≤ n) (hn : n ≤ 6) (hV : VF n M K) (x1 x2 x3 x4 : Int32) : ∃ r, m_X5_partner (nI n) M K x1 x2 x3 x4 = some r ∧ m_X6_partner (nI n) M K x1 x2 x3 x4 = some r := by
  have h6 := pow6 hn
  unfold m_X5_partner m_X5_partner_0 m_X6_partner m_X6_partner_0
  simp only [v5_fam, v6_fam, v5_set hn, v6_set hn, v5_pt hn, v6_pt h0 hn, bd1_some, q01, q10]
  by_cases h1 : fok 6 x1 = true
  case neg => exact ⟨-2, by simp [h1], by simp [h1]⟩
  by_cases h2 : fok (2 ^ n) x2 = true
  case neg => exact ⟨-2, by simp [h1, h2], by simp [h1, h2]⟩
  by_cases h3 : fok (2 ^ n) x3 = true
  case neg => exact ⟨-2, by simp [h1, h2, h3], by simp [h1, h2, h3]⟩
  by_cases h4 : fok n x4 = true
  case neg => exact ⟨-2, by simp [h1, h2, h3, h4], by simp [h1, h2, h3, h4]⟩
  obtain ⟨j, hj, rfl⟩ := fok_ex (by omega) h1
  obtain ⟨x, hx, rfl⟩ := fok_ex (by omega) h2
  obtain ⟨y, hy, rfl⟩ := fok_ex (by omega) h3
  obtain ⟨u, hu, rfl⟩ := fok_ex (by omega) h4
  obtain ⟨⟨w, hw, hM⟩, -⟩ := hV j hj
  have hw64 : w < 2 ^ 64 := Nat.lt_of_lt_of_le hw (pp6 hn)
  have hx6 : x < 64 := by omega
  have hy6 : y < 64 := by omega
  have hxy := xlt6 hx6 hy6
  have hpl := ptn_lt (w := w) (x := x) (u := u) hn
  simp only [h1, h2, h3, h4, if_true, not_true, if_false, v5_missing hj, bd1_some, q10, ix_ok hj (show 6 < 2 ^ 31 by omega), nI_clamp (show j < 2 ^ 31 by omega), hM, v_holds hw64 hx6, v_holds hw64 hy6, v_isMember hj hM hw64 hx6, v_isMember hj hM hw64 hy6, fb_xorI, v_partners hn hw64 hx6 (show u < 6 by omega), v_partnerOf hn hj hM hw64 hx6 hy6 (show u < 6 by omega), fa_and, v_least _ (show ptn n w x u &&& (x ^^^ y) < 128 from Nat.lt_of_le_of_lt Nat.and_le_left (by omega))]
  by_cases hk : K j = -1
  · exact ⟨-11, by simp [hk], by simp [hk]⟩
  simp only [hk, not_false_eq_true, if_true, if_false]
  have e : lbO (ptn n w x u &&& (x ^^^ y)) = pOf n w x y u := by
    rw [lb_ff _ (show ptn n w x u &&& (x ^^^ y) < 128 from Nat.lt_of_le_of_lt Nat.and_le_left (by omega))]
    unfold pOf
    refine ffO_ext (by omega) (fun v hv => ?_)
    rw [Nat.testBit_and, ptn_bit]
    cases decide (v < n) <;> cases w.testBit (x ^^^ uv u v) <;> cases (x ^^^ y).testBit v <;> rfl
  rw [e]
  by_cases a : w.testBit x = true
  · by_cases b : w.testBit y = true
    · simp only [a, b, not_true, if_false]
      split
      · exact ⟨_, rfl, rfl⟩
      · exact ⟨_, rfl, rfl⟩
    · exact ⟨-3, by simp [a, b], by simp [a, b]⟩
  · exact ⟨-3, by simp [a], by simp [a]⟩
