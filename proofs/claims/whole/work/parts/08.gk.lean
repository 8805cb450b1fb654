/-! ===== gk: one form of contract for every method; every method has a pure picture in Option; loops are 'gk_lp' of a pure body ===== -/
abbrev gk_G : Type := va_G × (Nat → ClassId) × (Nat → Nat)
abbrev gk_tys (G : gk_G) : List (ClassId × FieldType) := [(G.2.1 0, .int), (G.2.1 1, .long), (G.2.1 2, .boolean), (G.2.1 3, .object "ExchangeFamilies$Numbers")]
abbrev gk_I (G : gk_G) (n : Nat) (f : Nat → Int32) : va_E := .inl (G.2.1 0, n, .inl f)
abbrev gk_J (G : gk_G) (n : Nat) (f : Nat → Int64) : va_E := .inl (G.2.1 1, n, .inr (.inl f))
abbrev gk_Z (G : gk_G) (n : Nat) (f : Nat → Int32) : va_E := .inl (G.2.1 2, n, .inl f)
abbrev gk_R (G : gk_G) (n : Nat) (f : Nat → Option Nat) : va_E := .inl (G.2.1 3, n, .inr (.inr (.inr (.inr f))))
def gk_hav : Nat → Int64 := fun k => match k with
  | 0 => -6148914691236517206
  | 1 => -3689348814741910324
  | 2 => -1085102592571150096
  | 3 => -71777214294589696
  | 4 => -281470681808896
  | _ => -4294967296
def gk_inv : Nat → Int32 := fun k => match k with
  | 0 => 0
  | 1 => 1
  | 2 => 4
  | 3 => 5
  | 4 => 2
  | 5 => 3
  | _ => 6
def gk_abv : Nat → Int32 := fun k => match k with
  | 0 => -1
  | 1 => 0
  | 2 => 0
  | 3 => 0
  | 4 => 0
  | _ => 3
def gk_four (a b c d : Nat) : Nat → Option Nat := fun k => match k with
  | 0 => some a
  | 1 => some b
  | 2 => some c
  | _ => some d
/-- what no method writes: the three static tables, the links across the nest -/
def gk_S (b : Bool) (G : gk_G) (A : Nat → Prop) (U : State) (H : Heap) : Prop := b = true →
  (va_Z "ExchangeFamilies" "HAVING" "[J" (.ref (G.2.2 0)) A U H ∧ va_T .long (G.2.2 0) 6 (fun j => .long (gk_hav j)) A U H) ∧
  (va_Z "ExchangeFamilies" "INVERSE" "[I" (.ref (G.2.2 1)) A U H ∧ va_T .int (G.2.2 1) 7 (fun j => .int (gk_inv j)) A U H) ∧
  (va_Z "ExchangeFamilies" "ABOVE" "[I" (.ref (G.2.2 2)) A U H ∧ va_T .int (G.2.2 2) 6 (fun j => .int (gk_abv j)) A U H) ∧
  va_Nw (.fieldLinkNest "ExchangeFamilies$Family" 15 "ExchangeFamilies" "HAVING" "[J" "ExchangeFamilies") U ∧
  va_Nw (.fieldLinkNest "ExchangeFamilies$Ground" 69 "ExchangeFamilies" "HAVING" "[J" "ExchangeFamilies") U ∧
  va_Nw (.fieldLinkNest "ExchangeFamilies$Table" 43 "ExchangeFamilies" "INVERSE" "[I" "ExchangeFamilies") U ∧
  va_Nw (.methodLinkNest "ExchangeFamilies" 216 yX0_areAlike "ExchangeFamilies") U ∧
  va_Nw (.methodLinkNest "ExchangeFamilies" 27 yX4_init "ExchangeFamilies") U ∧
  va_Nw (.methodLinkNest "ExchangeFamilies" 45 yX2_init "ExchangeFamilies") U ∧
  va_Nw (.methodLinkNest "ExchangeFamilies$Ground" 28 yX4_init "ExchangeFamilies") U
theorem gk_S.go {b b' : Bool} {G : gk_G} {A0 B : Nat → Prop} {s U : State} {H : Heap} {locs : List Loc} (h : gk_S b G A0 s s.heap) (hbb : b' = true → b = true) (hS : va_S A0 s.heap H locs) (hAB : ∀ q, B q → A0 q) (hU : U.heap = H) (hW : s.WarmedH U.vm) : gk_S b' G B U U.heap := by
  intro hb
  obtain ⟨⟨z1, t1⟩, ⟨z2, t2⟩, ⟨z3, t3⟩, n1, n2, n3, n4, n5, n6, n7⟩ := h (hbb hb)
  rw [hU]
  have hq : ∀ a : Nat, a < s.heap.size → ¬ A0 a → H[a]? = s.heap[a]? := hS.2.1
  exact ⟨⟨((z1.kept hq).narrow hAB).moved hW.alike, ((t1.kept hq).narrow hAB).moved hW.alike⟩, ⟨((z2.kept hq).narrow hAB).moved hW.alike, ((t2.kept hq).narrow hAB).moved hW.alike⟩, ⟨((z3.kept hq).narrow hAB).moved hW.alike, ((t3.kept hq).narrow hAB).moved hW.alike⟩, va_Nw.warmF hW n1, va_Nw.warmF hW n2, va_Nw.warmF hW n3, va_Nw.warmM hW n4, va_Nw.warmM hW n5, va_Nw.warmM hW n6, va_Nw.warmM hW n7⟩
theorem gk_S.blind {b : Bool} {G : gk_G} {A : Nat → Prop} {U : State} {g : JFrame} {mk : MethodId} {a : Array Value} (h : gk_S b G A U U.heap) : gk_S b G A (U.calling g mk a) (U.calling g mk a).heap := by
  intro hb
  obtain ⟨⟨z1, t1⟩, ⟨z2, t2⟩, ⟨z3, t3⟩, n1, n2, n3, n4, n5, n6, n7⟩ := h hb
  exact ⟨⟨va_Z.moved (u := U) (U := U.calling g mk a) (Vm.Alike.refl U.vm) z1, va_T.moved (u := U) (U := U.calling g mk a) (Vm.Alike.refl U.vm) t1⟩, ⟨va_Z.moved (u := U) (U := U.calling g mk a) (Vm.Alike.refl U.vm) z2, va_T.moved (u := U) (U := U.calling g mk a) (Vm.Alike.refl U.vm) t2⟩, ⟨va_Z.moved (u := U) (U := U.calling g mk a) (Vm.Alike.refl U.vm) z3, va_T.moved (u := U) (U := U.calling g mk a) (Vm.Alike.refl U.vm) t3⟩, va_Nw.same rfl (u := U) rfl n1, va_Nw.same rfl (u := U) rfl n2, va_Nw.same rfl (u := U) rfl n3, va_Nw.same rfl (u := U) rfl n4, va_Nw.same rfl (u := U) rfl n5, va_Nw.same rfl (u := U) rfl n6, va_Nw.same rfl (u := U) rfl n7⟩
def gk_Q (G : gk_G) (rv : Option Value) (w1 : va_W) (A : Nat → Prop) : Array Value → State → Outcome → State → Prop := fun _ st oc t => (oc = .returned rv ∧ va_P G.1 vwCl w1 t.heap ∧ va_D A w1) ∧ va_F A st t
def gk_P (b : Bool) (G : gk_G) (wc : va_W) (sz : Nat) (U : State) : Prop := U.heap.size = sz ∧ va_P G.1 vwCl wc U.heap ∧ va_K G.1 vwCl (gk_tys G) U ∧ va_D (fun _ => True) wc ∧ gk_S b G (va_A wc sz) U U.heap
/-- THE CONTRACT: from the cells wc and the arguments av the method returns rv, and the cells are w1 -/
def gk_M (l : Launch) (y : MethodName) (ws : List Cond) (rm : Room) (b : Bool) (G : gk_G) (av : List Value) (wc : va_W) (rv : Option Value) (w1 : va_W) : Prop := ∀ sz : Nat, Met l y ws rm (va_Pc av (gk_P b G wc sz)) (gk_Q G rv w1 (va_A wc sz)) 0 0 (va_A wc sz)
def gk_C (p : Program) (s : State) (m : MethodId) (args : Array Value) (meth : Method) (c : Code) (cc : ByteArray) (nL : Nat) (rt : Option FieldType) (y : MethodName) (Ts : List Cond) (b : Bool) (G : gk_G) (A : Nat → Prop) : Prop :=
  p.tables.exec = Jvm.exec ∧ c.code = cc ∧ c.maxLocals = nL ∧ meth.sig.returnType = rt ∧ s.vm.findClass y.cls = some m.cls ∧ meth.name = y.name ∧ (∀ w ∈ Ts, w.before args s = true) ∧ meth.locks = false ∧ va_K G.1 vwCl (gk_tys G) s ∧ gk_S b G A s s.heap ∧ ∀ q : Nat, s.heap.size ≤ q → A q
def gk_H (G : gk_G) (A : Nat → Prop) (s : State) (ws : va_W) (H : Heap) (locs : List Loc) : Prop := va_P G.1 vwCl ws H ∧ va_D A ws ∧ va_S A s.heap H locs
theorem gk_of {l : Launch} {y : MethodName} {ws ws' : List Cond} {rm : Room} {b : Bool} {G : gk_G} {av : List Value} {wc w1 : va_W} {rv : Option Value} {cc : ByteArray} {nL : Nat} {rt : Option FieldType} (hy : plainName y.cls = true) (hw : ws = Cond.code y cc nL rt :: ws') (hn : (lg_sl av).length ≤ nL)
    (body : ∀ (p : Program) (e : Env) (s : State) (m : MethodId) (below : List Frame) (meth : Method) (c : Code) (A : Nat → Prop) (ls : Array Slot), gk_C p s m av.toArray meth c cc nL rt y ws b G A → gk_H G A s wc s.heap [] → lv_has ls nL (lv_args 0 av) → W p l e rm s m av.toArray below meth c s.heap [] 0 0 (MQ below (gk_Q G rv w1 A) av.toArray s 0 0 A) (F0 m 0 ls [])) : gk_M l y ws rm b G av wc rv w1 := by
  intro sz
  refine Met.ofW (cc := cc) (maxL := nL) (ret := rt) hy hw ?_
  intro p e s m args below meth c s₁ B hml hv
  obtain ⟨rfl, hsz, hP, hK, hD0, hSt⟩ := hv
  subst hsz
  rw [lg_entry_eq]
  exact body p e s m below meth c (va_A wc s.heap.size) _ ⟨B.exec, B.bytes, hml, B.returns, findClass_of_methodNamed B.named, (name_of_methodNamed B.named B.method).1, atoms_spec (ws := ws) B.pre, B.notSynchronized, hK, hSt, fun q h => Or.inr h⟩ ⟨hP, hD0.self, va_S.rf⟩ (lv_entry av hn)
section GKR
variable {p : Program} {l : Launch} {e : Env} {R : Room} {s : State} {m : MethodId} {args : Array Value} {below : List Frame} {meth : Method} {c : Code} {H : Heap} {locs : List Loc} {Q : State → Prop}
variable {cc : ByteArray} {nL : Nat} {y : MethodName} {Ts : List Cond} {b : Bool} {G : gk_G} {A : Nat → Prop} {ws : va_W} {pc : Nat} {ls : Array Slot}
theorem gk_iret (C : gk_C p s m args meth c cc nL (some .int) y Ts b G A) (h : gk_H G A s ws H locs) {v : Int32} (hd : decode cc pc = .ok (.ireturn, 1)) : W p l e R s m args below meth c H locs 0 0 (MQ below (gk_Q G (some (.int v)) ws A) args s 0 0 A) (F0 m pc ls [.int v]) :=
  W.iret C.1 C.2.1 C.2.2.2.1 (fun t ht hW => ⟨⟨rfl, by rw [ht]; exact h.1, h.2.1⟩, h.2.2.F ht⟩) h.2.2.2.2 hd (hlocks := C.2.2.2.2.2.2.2.1)
theorem gk_zret (C : gk_C p s m args meth c cc nL (some .boolean) y Ts b G A) (h : gk_H G A s ws H locs) {v : Int32} (hv : v &&& 1 = v) (hd : decode cc pc = .ok (.ireturn, 1)) : W p l e R s m args below meth c H locs 0 0 (MQ below (gk_Q G (some (.int v)) ws A) args s 0 0 A) (F0 m pc ls [.int v]) :=
  W.zret C.1 C.2.1 C.2.2.2.1 (show Value.int (v &&& 1) = .int v by rw [hv]) (fun t ht hW => ⟨⟨rfl, by rw [ht]; exact h.1, h.2.1⟩, h.2.2.F ht⟩) h.2.2.2.2 hd (hlocks := C.2.2.2.2.2.2.2.1)
theorem gk_lret (C : gk_C p s m args meth c cc nL (some .long) y Ts b G A) (h : gk_H G A s ws H locs) {v : Int64} (hd : decode cc pc = .ok (.lreturn, 1)) : W p l e R s m args below meth c H locs 0 0 (MQ below (gk_Q G (some (.long v)) ws A) args s 0 0 A) (F0 m pc ls [.long v]) :=
  W.lret C.1 C.2.1 C.2.2.2.1 (fun t ht hW => ⟨⟨rfl, by rw [ht]; exact h.1, h.2.1⟩, h.2.2.F ht⟩) h.2.2.2.2 hd (hlocks := C.2.2.2.2.2.2.2.1)
theorem gk_vret (C : gk_C p s m args meth c cc nL none y Ts b G A) (h : gk_H G A s ws H locs) (hd : decode cc pc = .ok (.return_, 1)) : W p l e R s m args below meth c H locs 0 0 (MQ below (gk_Q G none ws A) args s 0 0 A) (F0 m pc ls []) :=
  W.vret C.1 C.2.1 C.2.2.2.1 (fun t ht hW => ⟨⟨rfl, by rw [ht]; exact h.1, h.2.1⟩, h.2.2.F ht⟩) h.2.2.2.2 hd (hlocks := C.2.2.2.2.2.2.2.1)
theorem gk_fm {α β : Type} (f : α → Option β) : ∀ (js : List α) (ws : List β), js.map f = ws.map some → js.filterMap f = ws
  | [], [], _ => rfl
  | [], _ :: _, h => by simp at h
  | _ :: _, [], h => by simp at h
  | j :: js, w :: ws, h => by
    simp only [List.map_cons, List.cons.injEq] at h
    rw [List.filterMap_cons, h.1]
    simp only [gk_fm f js ws h.2]
/-- behind a call's run: the caller's cells, the callee's ones as they came back -/
theorem gk_run {rt : Option FieldType} {rv : Option Value} {wc wr w1 ws' : va_W} {st0 rest : List Value} {a : Array Value} (C : gk_C p s m args meth c cc nL rt y Ts b G A) (h : gk_H G A s ws H locs)
    (hr : va_Run p l e R s m args below meth c H locs 0 0 0 0 (F0 m pc ls st0) rest (gk_Q G rv w1 (va_A wc H.size) a) (va_A wc H.size))
    (isC isR js : List Nat) (hC : isC.map (fun i => ws[i]?) = wc.map some) (hR : isR.map (fun i => ws[i]?) = wr.map some) (hn : va_nd isR = true) (hdis : ∀ i ∈ isR, i ∉ isC) (hj : va_nd js = true) (hJ : js.map (fun i => (wr ++ w1)[i]?) = ws'.map some)
    (kk : ∀ (H1 : Heap) (locs1 : List Loc), gk_H G A s ws' H1 locs1 → W p l e R s m args below meth c H1 locs1 0 0 Q (F0 m (pc + 3) ls (rv.toList ++ rest))) : W p l e R s m args below meth c H locs 0 0 Q (F0 m pc ls st0) := by
  intro T hT X
  obtain ⟨v, st₀, t, T', L, h0, X', hL, e1, e2, ⟨⟨ho, hP1, hD1⟩, hz, hk⟩, st⟩ := hr T hT X
  have hv : v = rv := by injection ho
  subst hv
  have hFc : ∀ q, va_A wc H.size q → A q := va_free h.2.1 h.2.2 C.2.2.2.2.2.2.2.2.2.2 isC hC
  rw [h0] at hz hk
  obtain ⟨hP, hD⟩ := va_join h.1 h.2.1 isC isR hC hR hn hdis hk hFc hP1 hD1
  have hS' : va_S A s.heap t.heap (locs ++ L) := ⟨Nat.le_trans h.2.2.1 hz, fun q h1 h2 => by rw [hk q (Nat.lt_of_lt_of_le h1 h.2.2.1) (fun z => h2 (hFc q z))]; exact h.2.2.2.1 q h1 h2, fun q hq => by
      rcases List.mem_append.mp hq with h' | h'
      · exact h.2.2.2.2 q h'
      · exact hFc _ (hL q h')⟩
  have K := kk t.heap (locs ++ L) ⟨hP.sub js (gk_fm _ _ _ hJ), hD.sub js hj hJ, hS'⟩
  obtain ⟨t2, a1, b1⟩ := K T' e1 X'
  exact ⟨t2, st t2 a1, b1⟩
theorem gk_blind {b' : Bool} {As : List Value} {wc : va_W} {sz : Nat} : FrameBlind (va_Pc As (gk_P b' G wc sz)) := fun a U g mk q => by
  obtain ⟨q0, q1, qP, qK, qD, qS⟩ := q
  exact ⟨q0, q1, qP, va_K.moved (u := U) (U := U.calling g mk a) (Vm.Alike.refl U.vm) qK, qD, qS.blind⟩
theorem gk_pre {rt : Option FieldType} {b' : Bool} {As : List Value} {wc : va_W} (C : gk_C p s m args meth c cc nL rt y Ts b G A) (h : gk_H G A s ws H locs) (hbb : b' = true → b = true) (isC : List Nat) (hC : isC.map (fun i => ws[i]?) = wc.map some) (hnC : va_nd isC = true) : ∀ U : State, U.heap = H → s.WarmedH U.vm → va_Pc As (gk_P b' G wc H.size) As.toArray U := fun U hU hW => by
  have hFc : ∀ q, va_A wc H.size q → A q := va_free h.2.1 h.2.2 C.2.2.2.2.2.2.2.2.2.2 isC hC
  exact ⟨rfl, by rw [hU], by rw [hU]; exact h.1.sub isC (gk_fm _ _ _ hC), va_K.moved hW.alike C.2.2.2.2.2.2.2.2.1, (h.2.1.sub isC hnC hC).weaken (fun _ _ _ _ => trivial), C.2.2.2.2.2.2.2.2.2.1.go hbb h.2.2 hFc hU hW⟩
/-- a call of a static method -/
theorem gk_callS {rt ret : Option FieldType} {rv : Option Value} {y' : MethodName} {wsy wsy' : List Cond} {rm : Room} {b' : Bool} {bytes : ByteArray} {maxL n index : Nat} {wc w1 : va_W} {As : List Value} (wr ws' : va_W) (rest : List Value) (C : gk_C p s m args meth c cc nL rt y Ts b G A) (h : gk_H G A s ws H locs) (hM : gk_M l y' wsy rm b' G As wc rv w1) (hT : GoodIn Ts (va_wsS y.cls index y' wsy)) (hd : decode cc pc = .ok (.invokestatic index, 3)) (hsz : ls.size = nL)
    (isC isR js : List Nat)
    (hw : wsy = Cond.code y' bytes maxL ret :: wsy') (hrm : rm.cells = 0 ∧ rm.slots = 0) (hR0 : rm.frames + 1 ≤ R.frames ∧ 8 + (maxL + 11) + rm.locals ≤ R.locals) (hy : y'.cls ≠ "java/lang/invoke/MethodHandle" ∧ y'.cls ≠ "java/lang/invoke/VarHandle" ∧ (parseMethodDescriptor y'.desc).map (fun d => d.parameters.length) = some n) (hn : As.length = n) (hbb : b' = true → b = true) (hcat : (rest.map fun v => v.category).sum ≤ 8)
    (hnC : va_nd isC = true) (hC : isC.map (fun i => ws[i]?) = wc.map some) (hR : isR.map (fun i => ws[i]?) = wr.map some) (hnR : va_nd isR = true) (hdis : ∀ i ∈ isR, i ∉ isC) (hj : va_nd js = true) (hJ : js.map (fun i => (wr ++ w1)[i]?) = ws'.map some)
    (kk : ∀ (H1 : Heap) (locs1 : List Loc), gk_H G A s ws' H1 locs1 → W p l e R s m args below meth c H1 locs1 0 0 Q (F0 m (pc + 3) ls (rv.toList ++ rest))) : W p l e R s m args below meth c H locs 0 0 Q (F0 m pc ls (As.reverse ++ rest)) := by
  refine gk_run C h (va_runS (rest := rest) (As := As) ⟨C.1, C.2.1, C.2.2.1, C.2.2.2.2.1, C.2.2.2.2.2.2.1⟩ (hM H.size) (va_cwS n C.2.2.2.2.2.2.1 hT hw hrm.1 hrm.2 hy hR0) ⟨gk_blind, gk_pre C h hbb isC hC hnC⟩ rfl hn hsz rfl (lv_room hcat) hd ⟨Nat.zero_le _, Nat.zero_le _⟩) isC isR js hC hR hnR hdis hj hJ kk
/-- a call of a method of an object, whose cell is the callee's first -/
theorem gk_callV {rt ret : Option FieldType} {rv : Option Value} {y' : MethodName} {wsy wsy' : List Cond} {rm : Room} {b' : Bool} {bytes : ByteArray} {maxL n index ci a0 : Nat} {fs : List Value} {wc w1 : va_W} {As : List Value} {T : u_T} {N : Nat} {Cn : String} (wr ws' : va_W) (rest : List Value) (C : gk_C p s m args meth c cc nL rt y Ts b G A) (h : gk_H G A s ws H locs) (hM : gk_M l y' wsy rm b' G (.ref a0 :: As) ((a0, .inr (ci, fs)) :: wc) rv w1) (hT : GoodIn Ts (wsV y.cls index Cn y' wsy)) (hd : decode cc pc = .ok (.invokevirtual index, 3)) (hsz : ls.size = nL)
    (isC isR js : List Nat)
    (hw : wsy = Cond.code y' bytes maxL ret :: wsy') (hci : vwCl[ci]? = some (Cn, T, N)) (hrm : rm.cells = 0 ∧ rm.slots = 0) (hR0 : rm.frames + 1 ≤ R.frames ∧ 8 + (maxL + 11) + rm.locals ≤ R.locals) (hy : y'.cls = Cn ∧ y'.cls ≠ "java/lang/invoke/MethodHandle" ∧ y'.cls ≠ "java/lang/invoke/VarHandle" ∧ (parseMethodDescriptor y'.desc).map (fun d => d.parameters.length) = some n) (hn : As.length = n) (hbb : b' = true → b = true) (hcat : (rest.map fun v => v.category).sum ≤ 8)
    (hnC : va_nd isC = true) (hC : isC.map (fun i => ws[i]?) = ((a0, .inr (ci, fs)) :: wc : va_W).map some) (hR : isR.map (fun i => ws[i]?) = wr.map some) (hnR : va_nd isR = true) (hdis : ∀ i ∈ isR, i ∉ isC) (hj : va_nd js = true) (hJ : js.map (fun i => (wr ++ w1)[i]?) = ws'.map some)
    (kk : ∀ (H1 : Heap) (locs1 : List Loc), gk_H G A s ws' H1 locs1 → W p l e R s m args below meth c H1 locs1 0 0 Q (F0 m (pc + 3) ls (rv.toList ++ rest))) : W p l e R s m args below meth c H locs 0 0 Q (F0 m pc ls (As.reverse ++ .ref a0 :: rest)) := by
  have hPc := h.1.sub (ws' := (a0, .inr (ci, fs)) :: wc) isC (gk_fm _ _ _ hC)
  have hrec := va_recv C.2.2.2.2.2.2.2.2.1 hPc (ci := ci) (q0 := 0) hci rfl
  refine gk_run C h (va_runV (C := Cn) (rest := rest) (b := a0) (As := As) ⟨C.1, C.2.1, C.2.2.1, C.2.2.2.2.1, C.2.2.2.2.2.2.1⟩ (hM H.size) (cwV n C.2.2.2.2.2.2.1 hT hw hrm.1 hrm.2 hy hR0) ⟨gk_blind, hrec, gk_pre C h hbb isC hC hnC⟩ rfl hn hsz rfl (lv_room hcat) hd ⟨Nat.zero_le _, Nat.zero_le _⟩) isC isR js hC hR hnR hdis hj hJ kk
/-- a call of a private static method of a nest mate -/
theorem gk_callSN {rt ret : Option FieldType} {rv : Option Value} {y' : MethodName} {wsy wsy' : List Cond} {rm : Room} {b' : Bool} {bytes : ByteArray} {maxL n index : Nat} {host : String} {wc w1 : va_W} {As : List Value} (wr ws' : va_W) (rest : List Value) (C : gk_C p s m args meth c cc nL rt y Ts b G A) (h : gk_H G A s ws H locs) (hM : gk_M l y' wsy rm b' G As wc rv w1) (hT : GoodIn Ts wsy) (hl : va_Nw (.methodLinkNest y.cls index y' host) s) (hst : (Cond.static y').before args s = true) (hini : (Cond.initialized y'.cls).before args s = true) (hd : decode cc pc = .ok (.invokestatic index, 3)) (hsz : ls.size = nL)
    (isC isR js : List Nat)
    (hw : wsy = Cond.code y' bytes maxL ret :: wsy') (hrm : rm.cells = 0 ∧ rm.slots = 0) (hR0 : rm.frames + 1 ≤ R.frames ∧ 8 + (maxL + 11) + rm.locals ≤ R.locals) (hy : y'.cls ≠ "java/lang/invoke/MethodHandle" ∧ y'.cls ≠ "java/lang/invoke/VarHandle" ∧ (parseMethodDescriptor y'.desc).map (fun d => d.parameters.length) = some n) (hn : As.length = n) (hbb : b' = true → b = true) (hcat : (rest.map fun v => v.category).sum ≤ 8)
    (hnC : va_nd isC = true) (hC : isC.map (fun i => ws[i]?) = wc.map some) (hR : isR.map (fun i => ws[i]?) = wr.map some) (hnR : va_nd isR = true) (hdis : ∀ i ∈ isR, i ∉ isC) (hj : va_nd js = true) (hJ : js.map (fun i => (wr ++ w1)[i]?) = ws'.map some)
    (kk : ∀ (H1 : Heap) (locs1 : List Loc), gk_H G A s ws' H1 locs1 → W p l e R s m args below meth c H1 locs1 0 0 Q (F0 m (pc + 3) ls (rv.toList ++ rest))) : W p l e R s m args below meth c H locs 0 0 Q (F0 m pc ls (As.reverse ++ rest)) := by
  refine gk_run C h (va_runSN (rest := rest) (As := As) ⟨C.1, C.2.1, C.2.2.1, C.2.2.2.2.1, C.2.2.2.2.2.2.1⟩ (hM H.size) ⟨va_cnB n C.2.2.2.2.2.2.1 hT hw hrm.1 hrm.2 hl hini hy hR0, hst, trivial⟩ ⟨gk_blind, gk_pre C h hbb isC hC hnC⟩ rfl hn hsz rfl (lv_room hcat) hd ⟨Nat.zero_le _, Nat.zero_le _⟩) isC isR js hC hR hnR hdis hj hJ kk
theorem gk_aald {rt : Option FieldType} {a k v n : Nat} {rest : List Value} {f : Nat → Option Nat} {i : Int32} (C : gk_C p s m args meth c cc nL rt y Ts b G A) (hP : va_P G.1 vwCl ws H) (q0 : Nat) (ha : ws[q0]? = some (a, gk_R G n f)) (hi : i = nI k) (hk : k < n) (hn : n < 2 ^ 31) (hf : f k = some v) (hd : decode cc pc = .ok (.aaload, 1))
    (kk : W p l e R s m args below meth c H locs 0 0 Q (F0 m (pc + 1) ls (.ref v :: rest))) : W p l e R s m args below meth c H locs 0 0 Q (F0 m pc ls (.int i :: .ref a :: rest)) := by
  subst hi
  refine va_aldq C.1 C.2.1 C.2.2.2.2.2.2.2.2.1 hP q0 3 ha rfl (vp_in_nI hk hn) hd ?_
  rw [nI_clamp (Nat.lt_trans hk hn), hf]
  exact kk
end GKR
/-! the pure side: guards, binds, loops -/
def gk_fu : Nat := 800
/-- an index that must be in its row -/
def gk_ix {α : Type} (i : Int32) (n : Nat) (k : Option α) : Option α := if 0 ≤ i.toInt ∧ i.toInt < n then k else none
theorem gk_ix_some {α : Type} {i : Int32} {n : Nat} {k : Option α} {r : α} (h : gk_ix i n k = some r) : vp_in i n ∧ k = some r := by
  unfold gk_ix at h
  split at h
  · exact ⟨vp_in_iff.mpr (by assumption), h⟩
  · cases h
/-- a number that must not be 0 -/
def gk_nz {α : Type} (x : Int32) (k : Option α) : Option α := if x = 0 then none else k
theorem gk_nz_some {α : Type} {x : Int32} {k : Option α} {r : α} (h : gk_nz x k = some r) : ¬ x = 0 ∧ k = some r := by
  unfold gk_nz at h
  split at h
  · cases h
  · exact ⟨by assumption, h⟩
/-- a number that must be a truth value -/
def gk_bo {α : Type} (x : Int32) (k : Option α) : Option α := if x &&& 1 = x then k else none
theorem gk_bo_some {α : Type} {x : Int32} {k : Option α} {r : α} (h : gk_bo x k = some r) : x &&& 1 = x ∧ k = some r := by
  unfold gk_bo at h
  split at h
  · exact ⟨by assumption, h⟩
  · cases h
/-- a stretch that must lie in both rows -/
def gk_cp {α : Type} (sp dp n : Int32) (n0 n1 : Nat) (k : Option α) : Option α := if 0 ≤ sp.toInt ∧ 0 ≤ dp.toInt ∧ 0 ≤ n.toInt ∧ sp.toInt + n.toInt ≤ n0 ∧ dp.toInt + n.toInt ≤ n1 then k else none
theorem gk_cp_some {α : Type} {sp dp n : Int32} {n0 n1 : Nat} {k : Option α} {r : α} (h : gk_cp sp dp n n0 n1 k = some r) : (¬ sp < 0 ∧ ¬ dp < 0 ∧ ¬ n < 0 ∧ sp.toNatClampNeg + n.toNatClampNeg ≤ n0 ∧ dp.toNatClampNeg + n.toNatClampNeg ≤ n1) ∧ k = some r := by
  unfold gk_cp at h
  split at h
  · rename_i q
    obtain ⟨q1, q2, q3, q4, q5⟩ := q
    refine ⟨⟨?_, ?_, ?_, ?_, ?_⟩, h⟩
    · intro z; rw [Int32.lt_iff_toInt_lt] at z; simp at z; omega
    · intro z; rw [Int32.lt_iff_toInt_lt] at z; simp at z; omega
    · intro z; rw [Int32.lt_iff_toInt_lt] at z; simp at z; omega
    · simp only [Int32.toNatClampNeg]; omega
    · simp only [Int32.toNatClampNeg]; omega
  · cases h
theorem gk_it {α : Type} {c : Prop} [Decidable c] {a b : Option α} {r : α} (hc : c) (h : (if c then a else b) = some r) : a = some r := by
  rwa [if_pos hc] at h
theorem gk_if {α : Type} {c : Prop} [Decidable c] {a b : Option α} {r : α} (hc : ¬ c) (h : (if c then a else b) = some r) : b = some r := by
  rwa [if_neg hc] at h
/-- a loop: its body says on what it goes, or with what it ends -/
def gk_lp {S R : Type} (f : S → Option (S ⊕ R)) : Nat → S → Option R
  | 0, _ => none
  | k + 1, s => match f s with
    | none => none
    | some (.inl s') => gk_lp f k s'
    | some (.inr r) => some r
theorem gk_lp_some {S R : Type} {f : S → Option (S ⊕ R)} {P : S → Prop} {E : R → Prop} (hs : ∀ (s : S) (x : S ⊕ R), f s = some x → (∀ s', x = .inl s' → P s') → (∀ r, x = .inr r → E r) → P s) : ∀ (k : Nat) (s : S) (r : R), gk_lp f k s = some r → E r → P s
  | 0, _, _, h, _ => by cases h
  | k + 1, s, r, h, hE => by
    rw [gk_lp] at h
    split at h
    · cases h
    · rename_i s' hf
      exact hs s _ hf (fun s2 e => by cases e; exact gk_lp_some hs k s' r h hE) (fun r2 e => by cases e)
    · rename_i r' hf
      cases h
      exact hs s _ hf (fun s2 e => by cases e) (fun r2 e => by cases e; exact hE)
def gk_bd0 {γ : Type} (o : Option Unit) (k : Option γ) : Option γ := match o with
  | none => none
  | some _ => k
theorem gk_bd0_some {γ : Type} {o : Option Unit} {k : Option γ} {r : γ} (h : gk_bd0 o k = some r) : o = some () ∧ k = some r := by
  unfold gk_bd0 at h
  split at h
  · cases h
  · exact ⟨rfl, h⟩
def gk_bd1 {α1 γ : Type} (o : Option (α1)) (k : α1 → Option γ) : Option γ := match o with
  | none => none
  | some a1 => k a1
theorem gk_bd1_some {α1 γ : Type} {o : Option (α1)} {k : α1 → Option γ} {r : γ} (h : gk_bd1 o k = some r) : ∃ (a1 : α1), o = some a1 ∧ k a1 = some r := by
  unfold gk_bd1 at h
  split at h
  · cases h
  · exact ⟨_, rfl, h⟩
def gk_bs1 {ρ α1 γ : Type} (o : Option (ρ ⊕ (α1))) (kr : ρ → Option γ) (k : α1 → Option γ) : Option γ := match o with
  | none => none
  | some (.inl r) => kr r
  | some (.inr a1) => k a1
theorem gk_bs1_some {ρ α1 γ : Type} {o : Option (ρ ⊕ (α1))} {kr : ρ → Option γ} {k : α1 → Option γ} {y : γ} (h : gk_bs1 o kr k = some y) : (∃ r : ρ, o = some (.inl r) ∧ kr r = some y) ∨ ∃ (a1 : α1), o = some (.inr a1) ∧ k a1 = some y := by
  unfold gk_bs1 at h
  split at h
  · cases h
  · exact Or.inl ⟨_, rfl, h⟩
  · exact Or.inr ⟨_, rfl, h⟩
def gk_bd2 {α1 α2 γ : Type} (o : Option (α1 × α2)) (k : α1 → α2 → Option γ) : Option γ := match o with
  | none => none
  | some (a1, a2) => k a1 a2
theorem gk_bd2_some {α1 α2 γ : Type} {o : Option (α1 × α2)} {k : α1 → α2 → Option γ} {r : γ} (h : gk_bd2 o k = some r) : ∃ (a1 : α1) (a2 : α2), o = some (a1, a2) ∧ k a1 a2 = some r := by
  unfold gk_bd2 at h
  split at h
  · cases h
  · exact ⟨_, _, rfl, h⟩
def gk_bs2 {ρ α1 α2 γ : Type} (o : Option (ρ ⊕ (α1 × α2))) (kr : ρ → Option γ) (k : α1 → α2 → Option γ) : Option γ := match o with
  | none => none
  | some (.inl r) => kr r
  | some (.inr (a1, a2)) => k a1 a2
theorem gk_bs2_some {ρ α1 α2 γ : Type} {o : Option (ρ ⊕ (α1 × α2))} {kr : ρ → Option γ} {k : α1 → α2 → Option γ} {y : γ} (h : gk_bs2 o kr k = some y) : (∃ r : ρ, o = some (.inl r) ∧ kr r = some y) ∨ ∃ (a1 : α1) (a2 : α2), o = some (.inr (a1, a2)) ∧ k a1 a2 = some y := by
  unfold gk_bs2 at h
  split at h
  · cases h
  · exact Or.inl ⟨_, rfl, h⟩
  · exact Or.inr ⟨_, _, rfl, h⟩
def gk_bd3 {α1 α2 α3 γ : Type} (o : Option (α1 × α2 × α3)) (k : α1 → α2 → α3 → Option γ) : Option γ := match o with
  | none => none
  | some (a1, a2, a3) => k a1 a2 a3
theorem gk_bd3_some {α1 α2 α3 γ : Type} {o : Option (α1 × α2 × α3)} {k : α1 → α2 → α3 → Option γ} {r : γ} (h : gk_bd3 o k = some r) : ∃ (a1 : α1) (a2 : α2) (a3 : α3), o = some (a1, a2, a3) ∧ k a1 a2 a3 = some r := by
  unfold gk_bd3 at h
  split at h
  · cases h
  · exact ⟨_, _, _, rfl, h⟩
def gk_bs3 {ρ α1 α2 α3 γ : Type} (o : Option (ρ ⊕ (α1 × α2 × α3))) (kr : ρ → Option γ) (k : α1 → α2 → α3 → Option γ) : Option γ := match o with
  | none => none
  | some (.inl r) => kr r
  | some (.inr (a1, a2, a3)) => k a1 a2 a3
theorem gk_bs3_some {ρ α1 α2 α3 γ : Type} {o : Option (ρ ⊕ (α1 × α2 × α3))} {kr : ρ → Option γ} {k : α1 → α2 → α3 → Option γ} {y : γ} (h : gk_bs3 o kr k = some y) : (∃ r : ρ, o = some (.inl r) ∧ kr r = some y) ∨ ∃ (a1 : α1) (a2 : α2) (a3 : α3), o = some (.inr (a1, a2, a3)) ∧ k a1 a2 a3 = some y := by
  unfold gk_bs3 at h
  split at h
  · cases h
  · exact Or.inl ⟨_, rfl, h⟩
  · exact Or.inr ⟨_, _, _, rfl, h⟩
def gk_bd4 {α1 α2 α3 α4 γ : Type} (o : Option (α1 × α2 × α3 × α4)) (k : α1 → α2 → α3 → α4 → Option γ) : Option γ := match o with
  | none => none
  | some (a1, a2, a3, a4) => k a1 a2 a3 a4
theorem gk_bd4_some {α1 α2 α3 α4 γ : Type} {o : Option (α1 × α2 × α3 × α4)} {k : α1 → α2 → α3 → α4 → Option γ} {r : γ} (h : gk_bd4 o k = some r) : ∃ (a1 : α1) (a2 : α2) (a3 : α3) (a4 : α4), o = some (a1, a2, a3, a4) ∧ k a1 a2 a3 a4 = some r := by
  unfold gk_bd4 at h
  split at h
  · cases h
  · exact ⟨_, _, _, _, rfl, h⟩
def gk_bs4 {ρ α1 α2 α3 α4 γ : Type} (o : Option (ρ ⊕ (α1 × α2 × α3 × α4))) (kr : ρ → Option γ) (k : α1 → α2 → α3 → α4 → Option γ) : Option γ := match o with
  | none => none
  | some (.inl r) => kr r
  | some (.inr (a1, a2, a3, a4)) => k a1 a2 a3 a4
theorem gk_bs4_some {ρ α1 α2 α3 α4 γ : Type} {o : Option (ρ ⊕ (α1 × α2 × α3 × α4))} {kr : ρ → Option γ} {k : α1 → α2 → α3 → α4 → Option γ} {y : γ} (h : gk_bs4 o kr k = some y) : (∃ r : ρ, o = some (.inl r) ∧ kr r = some y) ∨ ∃ (a1 : α1) (a2 : α2) (a3 : α3) (a4 : α4), o = some (.inr (a1, a2, a3, a4)) ∧ k a1 a2 a3 a4 = some y := by
  unfold gk_bs4 at h
  split at h
  · cases h
  · exact Or.inl ⟨_, rfl, h⟩
  · exact Or.inr ⟨_, _, _, _, rfl, h⟩
def gk_bd5 {α1 α2 α3 α4 α5 γ : Type} (o : Option (α1 × α2 × α3 × α4 × α5)) (k : α1 → α2 → α3 → α4 → α5 → Option γ) : Option γ := match o with
  | none => none
  | some (a1, a2, a3, a4, a5) => k a1 a2 a3 a4 a5
theorem gk_bd5_some {α1 α2 α3 α4 α5 γ : Type} {o : Option (α1 × α2 × α3 × α4 × α5)} {k : α1 → α2 → α3 → α4 → α5 → Option γ} {r : γ} (h : gk_bd5 o k = some r) : ∃ (a1 : α1) (a2 : α2) (a3 : α3) (a4 : α4) (a5 : α5), o = some (a1, a2, a3, a4, a5) ∧ k a1 a2 a3 a4 a5 = some r := by
  unfold gk_bd5 at h
  split at h
  · cases h
  · exact ⟨_, _, _, _, _, rfl, h⟩
def gk_bs5 {ρ α1 α2 α3 α4 α5 γ : Type} (o : Option (ρ ⊕ (α1 × α2 × α3 × α4 × α5))) (kr : ρ → Option γ) (k : α1 → α2 → α3 → α4 → α5 → Option γ) : Option γ := match o with
  | none => none
  | some (.inl r) => kr r
  | some (.inr (a1, a2, a3, a4, a5)) => k a1 a2 a3 a4 a5
theorem gk_bs5_some {ρ α1 α2 α3 α4 α5 γ : Type} {o : Option (ρ ⊕ (α1 × α2 × α3 × α4 × α5))} {kr : ρ → Option γ} {k : α1 → α2 → α3 → α4 → α5 → Option γ} {y : γ} (h : gk_bs5 o kr k = some y) : (∃ r : ρ, o = some (.inl r) ∧ kr r = some y) ∨ ∃ (a1 : α1) (a2 : α2) (a3 : α3) (a4 : α4) (a5 : α5), o = some (.inr (a1, a2, a3, a4, a5)) ∧ k a1 a2 a3 a4 a5 = some y := by
  unfold gk_bs5 at h
  split at h
  · cases h
  · exact Or.inl ⟨_, rfl, h⟩
  · exact Or.inr ⟨_, _, _, _, _, rfl, h⟩
def gk_bd6 {α1 α2 α3 α4 α5 α6 γ : Type} (o : Option (α1 × α2 × α3 × α4 × α5 × α6)) (k : α1 → α2 → α3 → α4 → α5 → α6 → Option γ) : Option γ := match o with
  | none => none
  | some (a1, a2, a3, a4, a5, a6) => k a1 a2 a3 a4 a5 a6
theorem gk_bd6_some {α1 α2 α3 α4 α5 α6 γ : Type} {o : Option (α1 × α2 × α3 × α4 × α5 × α6)} {k : α1 → α2 → α3 → α4 → α5 → α6 → Option γ} {r : γ} (h : gk_bd6 o k = some r) : ∃ (a1 : α1) (a2 : α2) (a3 : α3) (a4 : α4) (a5 : α5) (a6 : α6), o = some (a1, a2, a3, a4, a5, a6) ∧ k a1 a2 a3 a4 a5 a6 = some r := by
  unfold gk_bd6 at h
  split at h
  · cases h
  · exact ⟨_, _, _, _, _, _, rfl, h⟩
def gk_bs6 {ρ α1 α2 α3 α4 α5 α6 γ : Type} (o : Option (ρ ⊕ (α1 × α2 × α3 × α4 × α5 × α6))) (kr : ρ → Option γ) (k : α1 → α2 → α3 → α4 → α5 → α6 → Option γ) : Option γ := match o with
  | none => none
  | some (.inl r) => kr r
  | some (.inr (a1, a2, a3, a4, a5, a6)) => k a1 a2 a3 a4 a5 a6
theorem gk_bs6_some {ρ α1 α2 α3 α4 α5 α6 γ : Type} {o : Option (ρ ⊕ (α1 × α2 × α3 × α4 × α5 × α6))} {kr : ρ → Option γ} {k : α1 → α2 → α3 → α4 → α5 → α6 → Option γ} {y : γ} (h : gk_bs6 o kr k = some y) : (∃ r : ρ, o = some (.inl r) ∧ kr r = some y) ∨ ∃ (a1 : α1) (a2 : α2) (a3 : α3) (a4 : α4) (a5 : α5) (a6 : α6), o = some (.inr (a1, a2, a3, a4, a5, a6)) ∧ k a1 a2 a3 a4 a5 a6 = some y := by
  unfold gk_bs6 at h
  split at h
  · cases h
  · exact Or.inl ⟨_, rfl, h⟩
  · exact Or.inr ⟨_, _, _, _, _, _, rfl, h⟩
def gk_bd7 {α1 α2 α3 α4 α5 α6 α7 γ : Type} (o : Option (α1 × α2 × α3 × α4 × α5 × α6 × α7)) (k : α1 → α2 → α3 → α4 → α5 → α6 → α7 → Option γ) : Option γ := match o with
  | none => none
  | some (a1, a2, a3, a4, a5, a6, a7) => k a1 a2 a3 a4 a5 a6 a7
theorem gk_bd7_some {α1 α2 α3 α4 α5 α6 α7 γ : Type} {o : Option (α1 × α2 × α3 × α4 × α5 × α6 × α7)} {k : α1 → α2 → α3 → α4 → α5 → α6 → α7 → Option γ} {r : γ} (h : gk_bd7 o k = some r) : ∃ (a1 : α1) (a2 : α2) (a3 : α3) (a4 : α4) (a5 : α5) (a6 : α6) (a7 : α7), o = some (a1, a2, a3, a4, a5, a6, a7) ∧ k a1 a2 a3 a4 a5 a6 a7 = some r := by
  unfold gk_bd7 at h
  split at h
  · cases h
  · exact ⟨_, _, _, _, _, _, _, rfl, h⟩
def gk_bs7 {ρ α1 α2 α3 α4 α5 α6 α7 γ : Type} (o : Option (ρ ⊕ (α1 × α2 × α3 × α4 × α5 × α6 × α7))) (kr : ρ → Option γ) (k : α1 → α2 → α3 → α4 → α5 → α6 → α7 → Option γ) : Option γ := match o with
  | none => none
  | some (.inl r) => kr r
  | some (.inr (a1, a2, a3, a4, a5, a6, a7)) => k a1 a2 a3 a4 a5 a6 a7
theorem gk_bs7_some {ρ α1 α2 α3 α4 α5 α6 α7 γ : Type} {o : Option (ρ ⊕ (α1 × α2 × α3 × α4 × α5 × α6 × α7))} {kr : ρ → Option γ} {k : α1 → α2 → α3 → α4 → α5 → α6 → α7 → Option γ} {y : γ} (h : gk_bs7 o kr k = some y) : (∃ r : ρ, o = some (.inl r) ∧ kr r = some y) ∨ ∃ (a1 : α1) (a2 : α2) (a3 : α3) (a4 : α4) (a5 : α5) (a6 : α6) (a7 : α7), o = some (.inr (a1, a2, a3, a4, a5, a6, a7)) ∧ k a1 a2 a3 a4 a5 a6 a7 = some y := by
  unfold gk_bs7 at h
  split at h
  · cases h
  · exact Or.inl ⟨_, rfl, h⟩
  · exact Or.inr ⟨_, _, _, _, _, _, _, rfl, h⟩
def gk_bd8 {α1 α2 α3 α4 α5 α6 α7 α8 γ : Type} (o : Option (α1 × α2 × α3 × α4 × α5 × α6 × α7 × α8)) (k : α1 → α2 → α3 → α4 → α5 → α6 → α7 → α8 → Option γ) : Option γ := match o with
  | none => none
  | some (a1, a2, a3, a4, a5, a6, a7, a8) => k a1 a2 a3 a4 a5 a6 a7 a8
theorem gk_bd8_some {α1 α2 α3 α4 α5 α6 α7 α8 γ : Type} {o : Option (α1 × α2 × α3 × α4 × α5 × α6 × α7 × α8)} {k : α1 → α2 → α3 → α4 → α5 → α6 → α7 → α8 → Option γ} {r : γ} (h : gk_bd8 o k = some r) : ∃ (a1 : α1) (a2 : α2) (a3 : α3) (a4 : α4) (a5 : α5) (a6 : α6) (a7 : α7) (a8 : α8), o = some (a1, a2, a3, a4, a5, a6, a7, a8) ∧ k a1 a2 a3 a4 a5 a6 a7 a8 = some r := by
  unfold gk_bd8 at h
  split at h
  · cases h
  · exact ⟨_, _, _, _, _, _, _, _, rfl, h⟩
def gk_bs8 {ρ α1 α2 α3 α4 α5 α6 α7 α8 γ : Type} (o : Option (ρ ⊕ (α1 × α2 × α3 × α4 × α5 × α6 × α7 × α8))) (kr : ρ → Option γ) (k : α1 → α2 → α3 → α4 → α5 → α6 → α7 → α8 → Option γ) : Option γ := match o with
  | none => none
  | some (.inl r) => kr r
  | some (.inr (a1, a2, a3, a4, a5, a6, a7, a8)) => k a1 a2 a3 a4 a5 a6 a7 a8
theorem gk_bs8_some {ρ α1 α2 α3 α4 α5 α6 α7 α8 γ : Type} {o : Option (ρ ⊕ (α1 × α2 × α3 × α4 × α5 × α6 × α7 × α8))} {kr : ρ → Option γ} {k : α1 → α2 → α3 → α4 → α5 → α6 → α7 → α8 → Option γ} {y : γ} (h : gk_bs8 o kr k = some y) : (∃ r : ρ, o = some (.inl r) ∧ kr r = some y) ∨ ∃ (a1 : α1) (a2 : α2) (a3 : α3) (a4 : α4) (a5 : α5) (a6 : α6) (a7 : α7) (a8 : α8), o = some (.inr (a1, a2, a3, a4, a5, a6, a7, a8)) ∧ k a1 a2 a3 a4 a5 a6 a7 a8 = some y := by
  unfold gk_bs8 at h
  split at h
  · cases h
  · exact Or.inl ⟨_, rfl, h⟩
  · exact Or.inr ⟨_, _, _, _, _, _, _, _, rfl, h⟩
def gk_bd9 {α1 α2 α3 α4 α5 α6 α7 α8 α9 γ : Type} (o : Option (α1 × α2 × α3 × α4 × α5 × α6 × α7 × α8 × α9)) (k : α1 → α2 → α3 → α4 → α5 → α6 → α7 → α8 → α9 → Option γ) : Option γ := match o with
  | none => none
  | some (a1, a2, a3, a4, a5, a6, a7, a8, a9) => k a1 a2 a3 a4 a5 a6 a7 a8 a9
theorem gk_bd9_some {α1 α2 α3 α4 α5 α6 α7 α8 α9 γ : Type} {o : Option (α1 × α2 × α3 × α4 × α5 × α6 × α7 × α8 × α9)} {k : α1 → α2 → α3 → α4 → α5 → α6 → α7 → α8 → α9 → Option γ} {r : γ} (h : gk_bd9 o k = some r) : ∃ (a1 : α1) (a2 : α2) (a3 : α3) (a4 : α4) (a5 : α5) (a6 : α6) (a7 : α7) (a8 : α8) (a9 : α9), o = some (a1, a2, a3, a4, a5, a6, a7, a8, a9) ∧ k a1 a2 a3 a4 a5 a6 a7 a8 a9 = some r := by
  unfold gk_bd9 at h
  split at h
  · cases h
  · exact ⟨_, _, _, _, _, _, _, _, _, rfl, h⟩
def gk_bs9 {ρ α1 α2 α3 α4 α5 α6 α7 α8 α9 γ : Type} (o : Option (ρ ⊕ (α1 × α2 × α3 × α4 × α5 × α6 × α7 × α8 × α9))) (kr : ρ → Option γ) (k : α1 → α2 → α3 → α4 → α5 → α6 → α7 → α8 → α9 → Option γ) : Option γ := match o with
  | none => none
  | some (.inl r) => kr r
  | some (.inr (a1, a2, a3, a4, a5, a6, a7, a8, a9)) => k a1 a2 a3 a4 a5 a6 a7 a8 a9
theorem gk_bs9_some {ρ α1 α2 α3 α4 α5 α6 α7 α8 α9 γ : Type} {o : Option (ρ ⊕ (α1 × α2 × α3 × α4 × α5 × α6 × α7 × α8 × α9))} {kr : ρ → Option γ} {k : α1 → α2 → α3 → α4 → α5 → α6 → α7 → α8 → α9 → Option γ} {y : γ} (h : gk_bs9 o kr k = some y) : (∃ r : ρ, o = some (.inl r) ∧ kr r = some y) ∨ ∃ (a1 : α1) (a2 : α2) (a3 : α3) (a4 : α4) (a5 : α5) (a6 : α6) (a7 : α7) (a8 : α8) (a9 : α9), o = some (.inr (a1, a2, a3, a4, a5, a6, a7, a8, a9)) ∧ k a1 a2 a3 a4 a5 a6 a7 a8 a9 = some y := by
  unfold gk_bs9 at h
  split at h
  · cases h
  · exact Or.inl ⟨_, rfl, h⟩
  · exact Or.inr ⟨_, _, _, _, _, _, _, _, _, rfl, h⟩
def gk_bd10 {α1 α2 α3 α4 α5 α6 α7 α8 α9 α10 γ : Type} (o : Option (α1 × α2 × α3 × α4 × α5 × α6 × α7 × α8 × α9 × α10)) (k : α1 → α2 → α3 → α4 → α5 → α6 → α7 → α8 → α9 → α10 → Option γ) : Option γ := match o with
  | none => none
  | some (a1, a2, a3, a4, a5, a6, a7, a8, a9, a10) => k a1 a2 a3 a4 a5 a6 a7 a8 a9 a10
theorem gk_bd10_some {α1 α2 α3 α4 α5 α6 α7 α8 α9 α10 γ : Type} {o : Option (α1 × α2 × α3 × α4 × α5 × α6 × α7 × α8 × α9 × α10)} {k : α1 → α2 → α3 → α4 → α5 → α6 → α7 → α8 → α9 → α10 → Option γ} {r : γ} (h : gk_bd10 o k = some r) : ∃ (a1 : α1) (a2 : α2) (a3 : α3) (a4 : α4) (a5 : α5) (a6 : α6) (a7 : α7) (a8 : α8) (a9 : α9) (a10 : α10), o = some (a1, a2, a3, a4, a5, a6, a7, a8, a9, a10) ∧ k a1 a2 a3 a4 a5 a6 a7 a8 a9 a10 = some r := by
  unfold gk_bd10 at h
  split at h
  · cases h
  · exact ⟨_, _, _, _, _, _, _, _, _, _, rfl, h⟩
def gk_bs10 {ρ α1 α2 α3 α4 α5 α6 α7 α8 α9 α10 γ : Type} (o : Option (ρ ⊕ (α1 × α2 × α3 × α4 × α5 × α6 × α7 × α8 × α9 × α10))) (kr : ρ → Option γ) (k : α1 → α2 → α3 → α4 → α5 → α6 → α7 → α8 → α9 → α10 → Option γ) : Option γ := match o with
  | none => none
  | some (.inl r) => kr r
  | some (.inr (a1, a2, a3, a4, a5, a6, a7, a8, a9, a10)) => k a1 a2 a3 a4 a5 a6 a7 a8 a9 a10
theorem gk_bs10_some {ρ α1 α2 α3 α4 α5 α6 α7 α8 α9 α10 γ : Type} {o : Option (ρ ⊕ (α1 × α2 × α3 × α4 × α5 × α6 × α7 × α8 × α9 × α10))} {kr : ρ → Option γ} {k : α1 → α2 → α3 → α4 → α5 → α6 → α7 → α8 → α9 → α10 → Option γ} {y : γ} (h : gk_bs10 o kr k = some y) : (∃ r : ρ, o = some (.inl r) ∧ kr r = some y) ∨ ∃ (a1 : α1) (a2 : α2) (a3 : α3) (a4 : α4) (a5 : α5) (a6 : α6) (a7 : α7) (a8 : α8) (a9 : α9) (a10 : α10), o = some (.inr (a1, a2, a3, a4, a5, a6, a7, a8, a9, a10)) ∧ k a1 a2 a3 a4 a5 a6 a7 a8 a9 a10 = some y := by
  unfold gk_bs10 at h
  split at h
  · cases h
  · exact Or.inl ⟨_, rfl, h⟩
  · exact Or.inr ⟨_, _, _, _, _, _, _, _, _, _, rfl, h⟩
def gk_bd11 {α1 α2 α3 α4 α5 α6 α7 α8 α9 α10 α11 γ : Type} (o : Option (α1 × α2 × α3 × α4 × α5 × α6 × α7 × α8 × α9 × α10 × α11)) (k : α1 → α2 → α3 → α4 → α5 → α6 → α7 → α8 → α9 → α10 → α11 → Option γ) : Option γ := match o with
  | none => none
  | some (a1, a2, a3, a4, a5, a6, a7, a8, a9, a10, a11) => k a1 a2 a3 a4 a5 a6 a7 a8 a9 a10 a11
theorem gk_bd11_some {α1 α2 α3 α4 α5 α6 α7 α8 α9 α10 α11 γ : Type} {o : Option (α1 × α2 × α3 × α4 × α5 × α6 × α7 × α8 × α9 × α10 × α11)} {k : α1 → α2 → α3 → α4 → α5 → α6 → α7 → α8 → α9 → α10 → α11 → Option γ} {r : γ} (h : gk_bd11 o k = some r) : ∃ (a1 : α1) (a2 : α2) (a3 : α3) (a4 : α4) (a5 : α5) (a6 : α6) (a7 : α7) (a8 : α8) (a9 : α9) (a10 : α10) (a11 : α11), o = some (a1, a2, a3, a4, a5, a6, a7, a8, a9, a10, a11) ∧ k a1 a2 a3 a4 a5 a6 a7 a8 a9 a10 a11 = some r := by
  unfold gk_bd11 at h
  split at h
  · cases h
  · exact ⟨_, _, _, _, _, _, _, _, _, _, _, rfl, h⟩
def gk_bs11 {ρ α1 α2 α3 α4 α5 α6 α7 α8 α9 α10 α11 γ : Type} (o : Option (ρ ⊕ (α1 × α2 × α3 × α4 × α5 × α6 × α7 × α8 × α9 × α10 × α11))) (kr : ρ → Option γ) (k : α1 → α2 → α3 → α4 → α5 → α6 → α7 → α8 → α9 → α10 → α11 → Option γ) : Option γ := match o with
  | none => none
  | some (.inl r) => kr r
  | some (.inr (a1, a2, a3, a4, a5, a6, a7, a8, a9, a10, a11)) => k a1 a2 a3 a4 a5 a6 a7 a8 a9 a10 a11
theorem gk_bs11_some {ρ α1 α2 α3 α4 α5 α6 α7 α8 α9 α10 α11 γ : Type} {o : Option (ρ ⊕ (α1 × α2 × α3 × α4 × α5 × α6 × α7 × α8 × α9 × α10 × α11))} {kr : ρ → Option γ} {k : α1 → α2 → α3 → α4 → α5 → α6 → α7 → α8 → α9 → α10 → α11 → Option γ} {y : γ} (h : gk_bs11 o kr k = some y) : (∃ r : ρ, o = some (.inl r) ∧ kr r = some y) ∨ ∃ (a1 : α1) (a2 : α2) (a3 : α3) (a4 : α4) (a5 : α5) (a6 : α6) (a7 : α7) (a8 : α8) (a9 : α9) (a10 : α10) (a11 : α11), o = some (.inr (a1, a2, a3, a4, a5, a6, a7, a8, a9, a10, a11)) ∧ k a1 a2 a3 a4 a5 a6 a7 a8 a9 a10 a11 = some y := by
  unfold gk_bs11 at h
  split at h
  · cases h
  · exact Or.inl ⟨_, rfl, h⟩
  · exact Or.inr ⟨_, _, _, _, _, _, _, _, _, _, _, rfl, h⟩
def gk_bd12 {α1 α2 α3 α4 α5 α6 α7 α8 α9 α10 α11 α12 γ : Type} (o : Option (α1 × α2 × α3 × α4 × α5 × α6 × α7 × α8 × α9 × α10 × α11 × α12)) (k : α1 → α2 → α3 → α4 → α5 → α6 → α7 → α8 → α9 → α10 → α11 → α12 → Option γ) : Option γ := match o with
  | none => none
  | some (a1, a2, a3, a4, a5, a6, a7, a8, a9, a10, a11, a12) => k a1 a2 a3 a4 a5 a6 a7 a8 a9 a10 a11 a12
theorem gk_bd12_some {α1 α2 α3 α4 α5 α6 α7 α8 α9 α10 α11 α12 γ : Type} {o : Option (α1 × α2 × α3 × α4 × α5 × α6 × α7 × α8 × α9 × α10 × α11 × α12)} {k : α1 → α2 → α3 → α4 → α5 → α6 → α7 → α8 → α9 → α10 → α11 → α12 → Option γ} {r : γ} (h : gk_bd12 o k = some r) : ∃ (a1 : α1) (a2 : α2) (a3 : α3) (a4 : α4) (a5 : α5) (a6 : α6) (a7 : α7) (a8 : α8) (a9 : α9) (a10 : α10) (a11 : α11) (a12 : α12), o = some (a1, a2, a3, a4, a5, a6, a7, a8, a9, a10, a11, a12) ∧ k a1 a2 a3 a4 a5 a6 a7 a8 a9 a10 a11 a12 = some r := by
  unfold gk_bd12 at h
  split at h
  · cases h
  · exact ⟨_, _, _, _, _, _, _, _, _, _, _, _, rfl, h⟩
def gk_bs12 {ρ α1 α2 α3 α4 α5 α6 α7 α8 α9 α10 α11 α12 γ : Type} (o : Option (ρ ⊕ (α1 × α2 × α3 × α4 × α5 × α6 × α7 × α8 × α9 × α10 × α11 × α12))) (kr : ρ → Option γ) (k : α1 → α2 → α3 → α4 → α5 → α6 → α7 → α8 → α9 → α10 → α11 → α12 → Option γ) : Option γ := match o with
  | none => none
  | some (.inl r) => kr r
  | some (.inr (a1, a2, a3, a4, a5, a6, a7, a8, a9, a10, a11, a12)) => k a1 a2 a3 a4 a5 a6 a7 a8 a9 a10 a11 a12
theorem gk_bs12_some {ρ α1 α2 α3 α4 α5 α6 α7 α8 α9 α10 α11 α12 γ : Type} {o : Option (ρ ⊕ (α1 × α2 × α3 × α4 × α5 × α6 × α7 × α8 × α9 × α10 × α11 × α12))} {kr : ρ → Option γ} {k : α1 → α2 → α3 → α4 → α5 → α6 → α7 → α8 → α9 → α10 → α11 → α12 → Option γ} {y : γ} (h : gk_bs12 o kr k = some y) : (∃ r : ρ, o = some (.inl r) ∧ kr r = some y) ∨ ∃ (a1 : α1) (a2 : α2) (a3 : α3) (a4 : α4) (a5 : α5) (a6 : α6) (a7 : α7) (a8 : α8) (a9 : α9) (a10 : α10) (a11 : α11) (a12 : α12), o = some (.inr (a1, a2, a3, a4, a5, a6, a7, a8, a9, a10, a11, a12)) ∧ k a1 a2 a3 a4 a5 a6 a7 a8 a9 a10 a11 a12 = some y := by
  unfold gk_bs12 at h
  split at h
  · cases h
  · exact Or.inl ⟨_, rfl, h⟩
  · exact Or.inr ⟨_, _, _, _, _, _, _, _, _, _, _, _, rfl, h⟩
def gk_bd13 {α1 α2 α3 α4 α5 α6 α7 α8 α9 α10 α11 α12 α13 γ : Type} (o : Option (α1 × α2 × α3 × α4 × α5 × α6 × α7 × α8 × α9 × α10 × α11 × α12 × α13)) (k : α1 → α2 → α3 → α4 → α5 → α6 → α7 → α8 → α9 → α10 → α11 → α12 → α13 → Option γ) : Option γ := match o with
  | none => none
  | some (a1, a2, a3, a4, a5, a6, a7, a8, a9, a10, a11, a12, a13) => k a1 a2 a3 a4 a5 a6 a7 a8 a9 a10 a11 a12 a13
theorem gk_bd13_some {α1 α2 α3 α4 α5 α6 α7 α8 α9 α10 α11 α12 α13 γ : Type} {o : Option (α1 × α2 × α3 × α4 × α5 × α6 × α7 × α8 × α9 × α10 × α11 × α12 × α13)} {k : α1 → α2 → α3 → α4 → α5 → α6 → α7 → α8 → α9 → α10 → α11 → α12 → α13 → Option γ} {r : γ} (h : gk_bd13 o k = some r) : ∃ (a1 : α1) (a2 : α2) (a3 : α3) (a4 : α4) (a5 : α5) (a6 : α6) (a7 : α7) (a8 : α8) (a9 : α9) (a10 : α10) (a11 : α11) (a12 : α12) (a13 : α13), o = some (a1, a2, a3, a4, a5, a6, a7, a8, a9, a10, a11, a12, a13) ∧ k a1 a2 a3 a4 a5 a6 a7 a8 a9 a10 a11 a12 a13 = some r := by
  unfold gk_bd13 at h
  split at h
  · cases h
  · exact ⟨_, _, _, _, _, _, _, _, _, _, _, _, _, rfl, h⟩
def gk_bs13 {ρ α1 α2 α3 α4 α5 α6 α7 α8 α9 α10 α11 α12 α13 γ : Type} (o : Option (ρ ⊕ (α1 × α2 × α3 × α4 × α5 × α6 × α7 × α8 × α9 × α10 × α11 × α12 × α13))) (kr : ρ → Option γ) (k : α1 → α2 → α3 → α4 → α5 → α6 → α7 → α8 → α9 → α10 → α11 → α12 → α13 → Option γ) : Option γ := match o with
  | none => none
  | some (.inl r) => kr r
  | some (.inr (a1, a2, a3, a4, a5, a6, a7, a8, a9, a10, a11, a12, a13)) => k a1 a2 a3 a4 a5 a6 a7 a8 a9 a10 a11 a12 a13
theorem gk_bs13_some {ρ α1 α2 α3 α4 α5 α6 α7 α8 α9 α10 α11 α12 α13 γ : Type} {o : Option (ρ ⊕ (α1 × α2 × α3 × α4 × α5 × α6 × α7 × α8 × α9 × α10 × α11 × α12 × α13))} {kr : ρ → Option γ} {k : α1 → α2 → α3 → α4 → α5 → α6 → α7 → α8 → α9 → α10 → α11 → α12 → α13 → Option γ} {y : γ} (h : gk_bs13 o kr k = some y) : (∃ r : ρ, o = some (.inl r) ∧ kr r = some y) ∨ ∃ (a1 : α1) (a2 : α2) (a3 : α3) (a4 : α4) (a5 : α5) (a6 : α6) (a7 : α7) (a8 : α8) (a9 : α9) (a10 : α10) (a11 : α11) (a12 : α12) (a13 : α13), o = some (.inr (a1, a2, a3, a4, a5, a6, a7, a8, a9, a10, a11, a12, a13)) ∧ k a1 a2 a3 a4 a5 a6 a7 a8 a9 a10 a11 a12 a13 = some y := by
  unfold gk_bs13 at h
  split at h
  · cases h
  · exact Or.inl ⟨_, rfl, h⟩
  · exact Or.inr ⟨_, _, _, _, _, _, _, _, _, _, _, _, _, rfl, h⟩
def gk_bd14 {α1 α2 α3 α4 α5 α6 α7 α8 α9 α10 α11 α12 α13 α14 γ : Type} (o : Option (α1 × α2 × α3 × α4 × α5 × α6 × α7 × α8 × α9 × α10 × α11 × α12 × α13 × α14)) (k : α1 → α2 → α3 → α4 → α5 → α6 → α7 → α8 → α9 → α10 → α11 → α12 → α13 → α14 → Option γ) : Option γ := match o with
  | none => none
  | some (a1, a2, a3, a4, a5, a6, a7, a8, a9, a10, a11, a12, a13, a14) => k a1 a2 a3 a4 a5 a6 a7 a8 a9 a10 a11 a12 a13 a14
theorem gk_bd14_some {α1 α2 α3 α4 α5 α6 α7 α8 α9 α10 α11 α12 α13 α14 γ : Type} {o : Option (α1 × α2 × α3 × α4 × α5 × α6 × α7 × α8 × α9 × α10 × α11 × α12 × α13 × α14)} {k : α1 → α2 → α3 → α4 → α5 → α6 → α7 → α8 → α9 → α10 → α11 → α12 → α13 → α14 → Option γ} {r : γ} (h : gk_bd14 o k = some r) : ∃ (a1 : α1) (a2 : α2) (a3 : α3) (a4 : α4) (a5 : α5) (a6 : α6) (a7 : α7) (a8 : α8) (a9 : α9) (a10 : α10) (a11 : α11) (a12 : α12) (a13 : α13) (a14 : α14), o = some (a1, a2, a3, a4, a5, a6, a7, a8, a9, a10, a11, a12, a13, a14) ∧ k a1 a2 a3 a4 a5 a6 a7 a8 a9 a10 a11 a12 a13 a14 = some r := by
  unfold gk_bd14 at h
  split at h
  · cases h
  · exact ⟨_, _, _, _, _, _, _, _, _, _, _, _, _, _, rfl, h⟩
def gk_bs14 {ρ α1 α2 α3 α4 α5 α6 α7 α8 α9 α10 α11 α12 α13 α14 γ : Type} (o : Option (ρ ⊕ (α1 × α2 × α3 × α4 × α5 × α6 × α7 × α8 × α9 × α10 × α11 × α12 × α13 × α14))) (kr : ρ → Option γ) (k : α1 → α2 → α3 → α4 → α5 → α6 → α7 → α8 → α9 → α10 → α11 → α12 → α13 → α14 → Option γ) : Option γ := match o with
  | none => none
  | some (.inl r) => kr r
  | some (.inr (a1, a2, a3, a4, a5, a6, a7, a8, a9, a10, a11, a12, a13, a14)) => k a1 a2 a3 a4 a5 a6 a7 a8 a9 a10 a11 a12 a13 a14
theorem gk_bs14_some {ρ α1 α2 α3 α4 α5 α6 α7 α8 α9 α10 α11 α12 α13 α14 γ : Type} {o : Option (ρ ⊕ (α1 × α2 × α3 × α4 × α5 × α6 × α7 × α8 × α9 × α10 × α11 × α12 × α13 × α14))} {kr : ρ → Option γ} {k : α1 → α2 → α3 → α4 → α5 → α6 → α7 → α8 → α9 → α10 → α11 → α12 → α13 → α14 → Option γ} {y : γ} (h : gk_bs14 o kr k = some y) : (∃ r : ρ, o = some (.inl r) ∧ kr r = some y) ∨ ∃ (a1 : α1) (a2 : α2) (a3 : α3) (a4 : α4) (a5 : α5) (a6 : α6) (a7 : α7) (a8 : α8) (a9 : α9) (a10 : α10) (a11 : α11) (a12 : α12) (a13 : α13) (a14 : α14), o = some (.inr (a1, a2, a3, a4, a5, a6, a7, a8, a9, a10, a11, a12, a13, a14)) ∧ k a1 a2 a3 a4 a5 a6 a7 a8 a9 a10 a11 a12 a13 a14 = some y := by
  unfold gk_bs14 at h
  split at h
  · cases h
  · exact Or.inl ⟨_, rfl, h⟩
  · exact Or.inr ⟨_, _, _, _, _, _, _, _, _, _, _, _, _, _, rfl, h⟩
def gk_bs0 {ρ γ : Type} (o : Option (ρ ⊕ Unit)) (kr : ρ → Option γ) (k : Option γ) : Option γ := match o with
  | none => none
  | some (.inl r) => kr r
  | some (.inr _) => k
theorem gk_bs0_some {ρ γ : Type} {o : Option (ρ ⊕ Unit)} {kr : ρ → Option γ} {k : Option γ} {y : γ} (h : gk_bs0 o kr k = some y) : (∃ r : ρ, o = some (.inl r) ∧ kr r = some y) ∨ (o = some (.inr ()) ∧ k = some y) := by
  unfold gk_bs0 at h
  split at h
  · cases h
  · exact Or.inl ⟨_, rfl, h⟩
  · exact Or.inr ⟨rfl, h⟩
/-- outside a switch's row -/
theorem gk_out {x : Int32} (n : Nat) (hn : n < 2 ^ 31) (h : ∀ k, k < n → ¬ x = nI k) : x.toInt < 0 ∨ ((n : Int) - 1) < x.toInt := by
  by_cases h0 : x.toInt < 0
  · exact Or.inl h0
  · right
    by_cases h1 : (n : Int) - 1 < x.toInt
    · exact h1
    · exfalso
      refine h x.toInt.toNat (by omega) ?_
      apply Int32.toInt_inj.mp
      rw [nI_toInt (by omega)]
      omega
