/-! ===== tables of numbers modulo 7 ===== -/
def ph (z : Int) : F7 := ⟨(z % 7).toNat, by omega⟩
theorem ph_add (a b : Int) : ph (a + b) = ph a + ph b := by
  apply Fin.ext
  rw [Fin.val_add]
  show ((a + b) % 7).toNat = ((a % 7).toNat + (b % 7).toNat) % 7
  omega
theorem ph_neg (a : Int) : ph (-a) = - ph a := by
  have h : ph (-a) + ph a = 0 := by
    rw [← ph_add]
    apply Fin.ext
    show ((-a + a) % 7).toNat = 0
    omega
  grind
theorem ph_sub (a b : Int) : ph (a - b) = ph a - ph b := by
  rw [Int.sub_eq_add_neg, ph_add, ph_neg]
  grind
theorem ph_mul (a b : Int) : ph (a * b) = ph a * ph b := by
  apply Fin.ext
  rw [Fin.val_mul]
  show ((a * b) % 7).toNat = ((a % 7).toNat * (b % 7).toNat) % 7
  rw [Int.mul_emod]
  obtain ⟨x, hx⟩ : ∃ x : Nat, a % 7 = x := ⟨(a % 7).toNat, by omega⟩
  obtain ⟨y, hy⟩ : ∃ y : Nat, b % 7 = y := ⟨(b % 7).toNat, by omega⟩
  rw [hx, hy]
  have e : ((x : Int) * (y : Int)) % 7 = ((x * y % 7 : Nat) : Int) := by
    rw [Int.natCast_emod, Int.natCast_mul]
    rfl
  rw [e, Int.toNat_natCast, Int.toNat_natCast, Int.toNat_natCast]
theorem ph_inj {a b : Nat} (ha : a < 7) (hb : b < 7) (h : ph a = ph b) : a = b := by
  have := congrArg Fin.val h
  have h2 : (((a : Int) % 7).toNat) = (((b : Int) % 7).toNat) := this
  omega
theorem ph_val (a : F7) : ph (a.val : Int) = a := by
  apply Fin.ext
  show (((a.val : Int)) % 7).toNat = a.val
  have := a.isLt
  omega
theorem ph_0 : ph 0 = 0 := rfl
theorem ph_1 : ph 1 = 1 := rfl
/-- a small number, brought to 0 .. 6 -/
theorem mod_all : ∀ k, k < 2001 → gk_fmod (nI k - 1000) 7 = nI ((k + 1) % 7) ∧ m_X6_modulo (nI k - 1000) = some (nI ((k + 1) % 7)) := by decide +kernel
theorem mod_ok {x : Int32} (h : -1000 ≤ x.toInt ∧ x.toInt ≤ 1000) : ∃ t, t < 7 ∧ gk_fmod x 7 = nI t ∧ m_X6_modulo x = some (nI t) ∧ ph t = ph x.toInt := by
  obtain ⟨k, hk, rfl⟩ : ∃ k, k < 2001 ∧ x = nI k - 1000 := by
    refine ⟨(x.toInt + 1000).toNat, by omega, ?_⟩
    apply Int32.toInt_inj.mp
    have e : (1000 : Int32).toInt = 1000 := by decide
    have e2 : (nI (x.toInt + 1000).toNat).toInt = x.toInt + 1000 := by
      rw [nI_toInt (by omega)]; omega
    rw [fb_subI (by rw [e, e2]; omega) (by rw [e, e2]; omega), e, e2]
    omega
  obtain ⟨h1, h2⟩ := mod_all k hk
  refine ⟨(k + 1) % 7, by omega, h1, h2, ?_⟩
  have e : (1000 : Int32).toInt = 1000 := by decide
  have e2 : (nI k - 1000).toInt = (k : Int) - 1000 := by
    rw [fb_subI (by rw [e, nI_toInt (by omega)]; omega) (by rw [e, nI_toInt (by omega)]; omega), e, nI_toInt (by omega)]
  rw [e2]
  apply Fin.ext
  show (((((k + 1) % 7 : Nat) : Int)) % 7).toNat = (((k : Int) - 1000) % 7).toNat
  omega
def mt (T : Nat → Int32) (i j : Nat) : F7 := ph (T (6 * i + j)).toInt
/-- the table: 0 .. 6, its sign turns -/
def TB (T : Nat → Int32) : Prop := ∀ i j, i < 6 → j < 6 → (∃ t, t < 7 ∧ T (6 * i + j) = nI t) ∧ mt T i j = - mt T j i
theorem neg_self {x : F7} (h : x = - x) : x = 0 := by
  revert x
  decide
theorem TB.diag {T : Nat → Int32} (h : TB T) {i : Nat} (hi : i < 6) : mt T i i = 0 := neg_self (h i i hi hi).2
theorem mt_nI {T : Nat → Int32} {i j t : Nat} (h : T (6 * i + j) = nI t) (ht : t < 7) : mt T i j = ph t := by
  unfold mt
  rw [h, nI_toInt (by omega)]
theorem VT.tb {n : Nat} {T : Nat → Int32} (h : VT n T) : TB T ∧ ∀ i j, i < 6 → j < 6 → (n ≤ i ∨ n ≤ j) → mt T i j = 0 := by
  obtain ⟨t, ht⟩ := h
  constructor
  · intro i j hi hj
    obtain ⟨h1, h2, h3, -⟩ := ht i j hi hj
    obtain ⟨g1, g2, -⟩ := ht j i hj hi
    refine ⟨⟨t i j, h2, h1⟩, ?_⟩
    rw [mt_nI h1 h2, mt_nI g1 g2]
    have : ph (t i j) + ph (t j i) = 0 := by
      rw [← ph_add]
      apply Fin.ext
      show (((t i j : Int) + (t j i : Int)) % 7).toNat = 0
      omega
    grind
  · intro i j hi hj hn
    obtain ⟨h1, h2, -, h4, h5⟩ := ht i j hi hj
    have : t i j = 0 := by
      rcases hn with z | z
      · exact h4 z
      · exact h5 z
    rw [mt_nI h1 h2, this]
    rfl
/-- written at two places -/
theorem TB.write {T : Nat → Int32} (h : TB T) {k l : Nat} {v : Int32} (hk : k < 6) (hl : l < 6) (hkl : k ≠ l) (hv : -1000 ≤ v.toInt ∧ v.toInt ≤ 1000) : ∃ T', m_X4_write T (nI k) (nI l) v = some T' ∧ TB T' ∧ (∀ a b, a < 6 → b < 6 → mt T' a b = if a = k ∧ b = l then ph v.toInt else if a = l ∧ b = k then - ph v.toInt else mt T a b) ∧ ∀ q, 36 ≤ q → T' q = T q := by
  have hmin : v.toInt ≠ -2147483648 := by omega
  have hnv : (-v).toInt = - v.toInt := fb_negI hmin
  obtain ⟨t, t1, t2, -, t3⟩ := mod_ok hv
  obtain ⟨s, s1, s2, -, s3⟩ := mod_ok (x := -v) (by rw [hnv]; omega)
  refine ⟨_, v_write hk hl T v, ?_⟩
  rw [t2, s2]
  rw [hnv, ph_neg] at s3
  have hval : ∀ a b, a < 6 → b < 6 → (upd (upd T (6 * k + l) (nI t)) (6 * l + k) (nI s)) (6 * a + b) = if a = k ∧ b = l then nI t else if a = l ∧ b = k then nI s else T (6 * a + b) := by
    intro a b ha hb
    by_cases e1 : a = l ∧ b = k
    · obtain ⟨rfl, rfl⟩ := e1
      rw [pk_us]
      have : ¬ (a = b ∧ b = a) := fun z => hkl z.2
      simp [this]
    · rw [pk_un (by omega)]
      by_cases e2 : a = k ∧ b = l
      · obtain ⟨rfl, rfl⟩ := e2
        rw [pk_us]
        simp
      · rw [pk_un (by omega)]
        simp [e1, e2]
  have hm : ∀ a b, a < 6 → b < 6 → mt (upd (upd T (6 * k + l) (nI t)) (6 * l + k) (nI s)) a b = if a = k ∧ b = l then ph v.toInt else if a = l ∧ b = k then - ph v.toInt else mt T a b := by
    intro a b ha hb
    unfold mt
    rw [hval a b ha hb]
    by_cases e2 : a = k ∧ b = l
    · rw [if_pos e2, if_pos e2, nI_toInt (by omega)]; exact t3
    · rw [if_neg e2, if_neg e2]
      by_cases e1 : a = l ∧ b = k
      · rw [if_pos e1, if_pos e1, nI_toInt (by omega)]; exact s3
      · rw [if_neg e1, if_neg e1]
  refine ⟨fun a b ha hb => ⟨?_, ?_⟩, hm, fun q hq => ?_⟩
  · rw [hval a b ha hb]
    by_cases e2 : a = k ∧ b = l
    · rw [if_pos e2]; exact ⟨t, t1, rfl⟩
    · rw [if_neg e2]
      by_cases e1 : a = l ∧ b = k
      · rw [if_pos e1]; exact ⟨s, s1, rfl⟩
      · rw [if_neg e1]; exact (h a b ha hb).1
  · rw [hm a b ha hb, hm b a hb ha]
    by_cases e2 : a = k ∧ b = l
    · have e3 : ¬ (b = k ∧ a = l) := fun z => hkl (z.1.symm.trans (e2.2.trans rfl) |>.symm ▸ rfl)
      rw [if_pos e2, if_neg e3, if_pos ⟨e2.2, e2.1⟩]; grind
    · rw [if_neg e2]
      by_cases e1 : a = l ∧ b = k
      · rw [if_pos e1, if_pos ⟨e1.2, e1.1⟩]
      · rw [if_neg e1, if_neg (fun z => e1 ⟨z.2, z.1⟩), if_neg (fun z => e2 ⟨z.2, z.1⟩)]
        exact (h a b ha hb).2
  · rw [pk_un (by omega), pk_un (by omega)]
theorem TB.at {T : Nat → Int32} (h : TB T) {i j : Nat} (hi : i < 6) (hj : j < 6) : ∃ t : Nat, m_X4_at T (nI i) (nI j) = some (nI t) ∧ t < 7 ∧ ph t = mt T i j := by
  obtain ⟨t, h1, h2⟩ := (h i j hi hj).1
  exact ⟨t, by rw [v_at hi hj, h2], h1, (mt_nI h2 h1).symm⟩
/-! pivoting on two points -/
def nwT (M : Nat → Nat → F7) (i j : Nat) (w : F7) (a b : Nat) : F7 := M a b + (M a i * M j b - M a j * M i b) * w
def dnT (i j kk ll a b : Nat) : Prop := a ≠ b ∧ a ≠ i ∧ a ≠ j ∧ b ≠ i ∧ b ≠ j ∧ ((a < b ∧ (a < kk ∨ a = kk ∧ b < ll)) ∨ (b < a ∧ (b < kk ∨ b = kk ∧ a < ll)))
def inv1 (M : Nat → Nat → F7) (i j : Nat) (w : F7) (T0 : Nat → Int32) (kk ll : Nat) (T : Nat → Int32) : Prop := TB T ∧ (∀ q, 36 ≤ q → T q = T0 q) ∧ ∀ a b, a < 6 → b < 6 → (dnT i j kk ll a b → mt T a b = nwT M i j w a b) ∧ (¬ dnT i j kk ll a b → mt T a b = M a b)
theorem inv_val : ∀ t, t < 7 → ∃ w, w < 7 ∧ gk_inv t = nI w ∧ (t = 0 ∨ ph t * ph w = 1) := by
  intro t ht
  obtain rfl | rfl | rfl | rfl | rfl | rfl | rfl : t = 0 ∨ t = 1 ∨ t = 2 ∨ t = 3 ∨ t = 4 ∨ t = 5 ∨ t = 6 := by omega
  · exact ⟨0, by omega, rfl, Or.inl rfl⟩
  · exact ⟨1, by omega, rfl, Or.inr (by decide)⟩
  · exact ⟨4, by omega, rfl, Or.inr (by decide)⟩
  · exact ⟨5, by omega, rfl, Or.inr (by decide)⟩
  · exact ⟨2, by omega, rfl, Or.inr (by decide)⟩
  · exact ⟨3, by omega, rfl, Or.inr (by decide)⟩
  · exact ⟨6, by omega, rfl, Or.inr (by decide)⟩
theorem nI_mulI {a b : Nat} (ha : a < 7) (hb : b < 7) : (nI a * nI b).toInt = (a : Int) * b := by
  have : a * b ≤ 6 * 6 := Nat.mul_le_mul (by omega) (by omega)
  rw [pk_mul, nI_toInt (by omega), Int.natCast_mul]
theorem ml7 {a b : Nat} (ha : a < 7) (hb : b < 7) : 0 ≤ (a : Int) * b ∧ (a : Int) * b ≤ 36 := by
  have : a * b ≤ 6 * 6 := Nat.mul_le_mul (by omega) (by omega)
  have e : (a : Int) * b = ((a * b : Nat) : Int) := (Int.natCast_mul a b).symm
  omega
theorem chg_val {a b c d e w : Nat} (ha : a < 7) (hb : b < 7) (hc : c < 7) (hd : d < 7) (he : e < 7) (hw : w < 7) : (nI e + (nI a * nI b - nI c * nI d) * nI w).toInt = (e : Int) + ((a : Int) * b - c * d) * w ∧ -1000 ≤ (e : Int) + ((a : Int) * b - c * d) * w ∧ (e : Int) + ((a : Int) * b - c * d) * w ≤ 1000 := by
  have h1 := ml7 ha hb
  have h2 := ml7 hc hd
  have e1 : (nI a * nI b - nI c * nI d).toInt = (a : Int) * b - c * d := by
    rw [fb_subI (by rw [nI_mulI ha hb, nI_mulI hc hd]; omega) (by rw [nI_mulI ha hb, nI_mulI hc hd]; omega), nI_mulI ha hb, nI_mulI hc hd]
  generalize hx : (a : Int) * b - c * d = x at *
  have hxb : -36 ≤ x ∧ x ≤ 36 := by omega
  have hprod : -216 ≤ x * w ∧ x * w ≤ 216 := by
    obtain rfl | rfl | rfl | rfl | rfl | rfl | rfl : w = 0 ∨ w = 1 ∨ w = 2 ∨ w = 3 ∨ w = 4 ∨ w = 5 ∨ w = 6 := by omega
    all_goals omega
  have ew : (nI w).toInt = w := nI_toInt (by omega)
  have e2 : ((nI a * nI b - nI c * nI d) * nI w).toInt = x * w := by
    rw [fb_mulI (by rw [e1, ew]; omega) (by rw [e1, ew]; omega), e1, ew]
  have ee : (nI e).toInt = e := nI_toInt (by omega)
  rw [fb_addI (by rw [ee, e2]; omega) (by rw [ee, e2]; omega), ee, e2]
  omega
theorem inv1.step {M : Nat → Nat → F7} {i j k l w : Nat} {T0 T : Nat → Int32} (hM : ∀ a b, a < 6 → b < 6 → M a b = - M b a) (hi : i < 6) (hj : j < 6) (hw : w < 7) (hkl : k < l) (hl : l < 6) (h : inv1 M i j (ph w) T0 k l T) : ∃ T', m_X4_pivotOnTwo_B27 (nI i) (nI j) (nI w) (nI k) (nI l) T = some (Sum.inl (nI (l + 1), T')) ∧ inv1 M i j (ph w) T0 k (l + 1) T' := by
  obtain ⟨hT, hq, hm⟩ := h
  unfold m_X4_pivotOnTwo_B27
  rw [if_neg (gel 6 hl), nI_1]
  have e1 : (nI k = nI i) = (k = i) := propext (nI_eq (by omega) (by omega))
  have e2 : (nI k = nI j) = (k = j) := propext (nI_eq (by omega) (by omega))
  have e3 : (nI l = nI i) = (l = i) := propext (nI_eq (by omega) (by omega))
  have e4 : (nI l = nI j) = (l = j) := propext (nI_eq (by omega) (by omega))
  simp only [e1, e2, e3, e4]
  by_cases hc : k ≠ i ∧ k ≠ j ∧ l ≠ i ∧ l ≠ j
  case neg =>
    have hsame : ∀ a b, dnT i j k (l + 1) a b ↔ dnT i j k l a b := fun a b => by
      unfold dnT
      omega
    have hI : inv1 M i j (ph w) T0 k (l + 1) T := ⟨hT, hq, fun a b ha hb => by
      rw [hsame a b]; exact hm a b ha hb⟩
    by_cases c1 : k = i
    · exact ⟨T, by simp [c1], hI⟩
    by_cases c2 : k = j
    · exact ⟨T, by simp [c2], hI⟩
    by_cases c3 : l = i
    · exact ⟨T, by simp [c3], hI⟩
    have c4 : l = j := by omega
    exact ⟨T, by simp [c4], hI⟩
  obtain ⟨c1, c2, c3, c4⟩ := hc
  obtain ⟨t1, a1, b1, d1⟩ := hT.at (show k < 6 by omega) hi
  obtain ⟨t2, a2, b2, d2⟩ := hT.at hj hl
  obtain ⟨t3, a3, b3, d3⟩ := hT.at (show k < 6 by omega) hj
  obtain ⟨t4, a4, b4, d4⟩ := hT.at hi hl
  obtain ⟨t5, a5, b5, d5⟩ := hT.at (show k < 6 by omega) hl
  obtain ⟨z1, z2, z3⟩ := chg_val b1 b2 b3 b4 b5 hw
  obtain ⟨T', g1, g2, g3, g4⟩ := hT.write (k := k) (l := l) (v := nI t5 + (nI t1 * nI t2 - nI t3 * nI t4) * nI w) (by omega) hl (by omega) (by rw [z1]; exact ⟨z2, z3⟩)
  refine ⟨T', ?_, g2, fun q h36 => by rw [g4 q h36, hq q h36], fun a b ha hb => ?_⟩
  · simp only [c1, c2, c3, c4, if_false]
    rw [a1, bd1_some, a2, bd1_some, a3, bd1_some, a4, bd1_some, a5, bd1_some, g1, bd1_some]
  · rw [g3 a b ha hb, z1]
    have n1 : ∀ x y, (x = i ∨ x = j ∨ y = i ∨ y = j) → x < 6 → y < 6 → mt T x y = M x y := fun x y hx h1 h2 => (hm x y h1 h2).2 (by unfold dnT; omega)
    have m1 := n1 k i (by omega) (by omega) hi
    have m2 := n1 j l (by omega) hj hl
    have m3 := n1 k j (by omega) (by omega) hj
    have m4 := n1 i l (by omega) hi hl
    have m5 : mt T k l = M k l := (hm k l (by omega) hl).2 (by unfold dnT; omega)
    have hphi : ph ((t5 : Int) + ((t1 : Int) * t2 - t3 * t4) * w) = nwT M i j (ph w) k l := by
      rw [ph_add, ph_mul, ph_sub, ph_mul, ph_mul, d1, d2, d3, d4, d5, m1, m2, m3, m4, m5]
      rfl
    rw [hphi]
    by_cases q1 : a = k ∧ b = l
    · obtain ⟨rfl, rfl⟩ := q1
      refine ⟨fun _ => by simp, fun z => absurd (show dnT i j a (b + 1) a b by unfold dnT; omega) z⟩
    · rw [if_neg q1]
      by_cases q2 : a = l ∧ b = k
      · obtain ⟨rfl, rfl⟩ := q2
        rw [if_pos ⟨rfl, rfl⟩]
        refine ⟨fun _ => ?_, fun z => absurd (show dnT i j b (a + 1) a b by unfold dnT; omega) z⟩
        unfold nwT
        rw [hM a b ha hb, hM a i ha hi, hM j b hj hb, hM a j ha hj, hM i b hi hb]
        grind
      · rw [if_neg q2]
        have hsame : dnT i j k (l + 1) a b ↔ dnT i j k l a b := by
          unfold dnT
          omega
        rw [hsame]
        exact hm a b ha hb
