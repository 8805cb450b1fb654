/-! ===== gn: rows where cells are made; constructors; the law's own calls ===== -/
def gn_O (x : Bool) (U : State) : Prop := x = true → va_AO "ExchangeFamilies$Numbers" U
def gn_C (p : Program) (s : State) (m : MethodId) (args : Array Value) (c : Code) (cc : ByteArray) (nL : Nat) (own : String) (Ts : List Cond) (x b : Bool) (G : gk_G) (A : Nat → Prop) : Prop :=
  p.tables.exec = Jvm.exec ∧ c.code = cc ∧ c.maxLocals = nL ∧ s.vm.findClass own = some m.cls ∧ (∀ w ∈ Ts, w.before args s = true) ∧ va_K G.1 vwCl (gk_tys G) s ∧ gk_S b G A s s.heap ∧ gn_O x s ∧ ∀ q : Nat, s.heap.size ≤ q → A q
/-- behind a constructor: the world is one of po -/
def gn_Q (G : gk_G) (po : va_W → Prop) (A : Nat → Prop) : Array Value → State → Outcome → State → Prop := fun _ st oc t => (∃ w1, po w1 ∧ oc = .returned none ∧ va_P G.1 vwCl w1 t.heap ∧ va_D A w1) ∧ va_F A st t
def gn_P (x b : Bool) (G : gk_G) (wc : va_W) (sz : Nat) (U : State) : Prop := gk_P b G wc sz U ∧ gn_O x U
def gn_M (l : Launch) (y : MethodName) (ws : List Cond) (rm : Room) (x b : Bool) (G : gk_G) (av : List Value) (wc : va_W) (po : va_W → Prop) (mc ms : Nat) : Prop := ∀ sz : Nat, Met l y ws rm (va_Pc av (gn_P x b G wc sz)) (gn_Q G po (va_A wc sz)) mc ms (va_A wc sz)
theorem gn_of {l : Launch} {y : MethodName} {ws ws' : List Cond} {rm : Room} {x b : Bool} {G : gk_G} {av : List Value} {wc : va_W} {po : va_W → Prop} {mc ms : Nat} {cc : ByteArray} {nL : Nat} {rt : Option FieldType} (hy : plainName y.cls = true) (hw : ws = Cond.code y cc nL rt :: ws') (hn : (lg_sl av).length ≤ nL)
    (body : ∀ (p : Program) (e : Env) (s : State) (m : MethodId) (below : List Frame) (meth : Method) (c : Code) (A : Nat → Prop) (ls : Array Slot), gn_C p s m av.toArray c cc nL y.cls ws x b G A → meth.sig.returnType = rt → meth.name = y.name → meth.locks = false → gk_H G A s wc s.heap [] → lv_has ls nL (lv_args 0 av) → W p l e rm s m av.toArray below meth c s.heap [] 0 0 (MQ below (gn_Q G po A) av.toArray s mc ms A) (F0 m 0 ls [])) : gn_M l y ws rm x b G av wc po mc ms := by
  intro sz
  refine Met.ofW (cc := cc) (maxL := nL) (ret := rt) hy hw ?_
  intro p e s m args below meth c s₁ B hml hv
  obtain ⟨rfl, ⟨hsz, hP, hK, hD0, hSt⟩, hO⟩ := hv
  subst hsz
  rw [lg_entry_eq]
  exact body p e s m below meth c (va_A wc s.heap.size) _ ⟨B.exec, B.bytes, hml, findClass_of_methodNamed B.named, atoms_spec (ws := ws) B.pre, hK, hSt, hO, fun q h => Or.inr h⟩ B.returns (name_of_methodNamed B.named B.method).1 B.notSynchronized ⟨hP, hD0.self, va_S.rf⟩ (lv_entry av hn)
section GNR
variable {p : Program} {l : Launch} {e : Env} {R : Room} {s : State} {m : MethodId} {args : Array Value} {below : List Frame} {meth : Method} {c : Code} {H : Heap} {locs : List Loc} {Q : State → Prop} {kc ks : Nat}
variable {cc : ByteArray} {nL : Nat} {own : String} {Ts : List Cond} {x b : Bool} {G : gk_G} {A : Nat → Prop} {ws : va_W} {pc : Nat} {ls : Array Slot}
theorem gk_H.sub (h : gk_H G A s ws H locs) (is : List Nat) (ws' : va_W) (hn : va_nd is = true) (hs : is.map (fun i => ws[i]?) = ws'.map some) : gk_H G A s ws' H locs := ⟨h.1.sub is (gk_fm _ _ _ hs), h.2.1.sub is hn hs, h.2.2⟩
/-- a cell's content, told by another function -/
theorem gk_H.cell (h : gk_H G A s ws H locs) (i : Nat) {a : Nat} {E : ClassId × vp_A} (E' : ClassId × vp_A) (hi : ws[i]? = some (a, .inl E)) (he : vp_cell E.1 E.2 = vp_cell E'.1 E'.2) : gk_H G A s (ws.set i (a, .inl E')) H locs := by
  refine ⟨fun k q hq => ?_, h.2.1.set hi, h.2.2⟩
  by_cases hk : k = i
  · subst hk
    have hlt : k < ws.length := (List.getElem?_eq_some_iff.mp hi).1
    rw [List.getElem?_set_self hlt] at hq
    cases hq
    have h1 := h.1 k _ hi
    show H[a]? = some (vp_cell E'.1 E'.2)
    rw [← he]
    exact h1
  · rw [List.getElem?_set_ne (fun z => hk z.symm)] at hq
    exact h.1 k q hq
theorem arrV_cong {cI : ClassId} {N : Nat} {f g : Nat → Value} (h : ∀ j, j < N → f j = g j) : arrV cI N f = arrV cI N g := by
  unfold arrV
  congr 2
  funext j
  exact h j.val j.isLt
theorem gn_run {rv : Option Value} {wc wr w1 ws' : va_W} {st0 rest : List Value} {a : Array Value} (hA : ∀ q : Nat, s.heap.size ≤ q → A q) (h : gk_H G A s ws H locs)
    (hr : va_Run p l e R s m args below meth c H locs kc ks 0 0 (F0 m pc ls st0) rest (gk_Q G rv w1 (va_A wc H.size) a) (va_A wc H.size))
    (isC isR js : List Nat) (hC : isC.map (fun i => ws[i]?) = wc.map some) (hR : isR.map (fun i => ws[i]?) = wr.map some) (hn : va_nd isR = true) (hdis : ∀ i ∈ isR, i ∉ isC) (hj : va_nd js = true) (hJ : js.map (fun i => (wr ++ w1)[i]?) = ws'.map some)
    (kk : ∀ (H1 : Heap) (locs1 : List Loc), gk_H G A s ws' H1 locs1 → W p l e R s m args below meth c H1 locs1 kc ks Q (F0 m (pc + 3) ls (rv.toList ++ rest))) : W p l e R s m args below meth c H locs kc ks Q (F0 m pc ls st0) := by
  intro T hT X
  obtain ⟨v, st₀, t, T', L, h0, X', hL, e1, e2, ⟨⟨ho, hP1, hD1⟩, hz, hk⟩, st⟩ := hr T hT X
  have hv : v = rv := by injection ho
  subst hv
  have hFc : ∀ q, va_A wc H.size q → A q := va_free h.2.1 h.2.2 hA isC hC
  rw [h0] at hz hk
  obtain ⟨hP, hD⟩ := va_join h.1 h.2.1 isC isR hC hR hn hdis hk hFc hP1 hD1
  have hS' : va_S A s.heap t.heap (locs ++ L) := ⟨Nat.le_trans h.2.2.1 hz, fun q h1 h2 => by rw [hk q (Nat.lt_of_lt_of_le h1 h.2.2.1) (fun z => h2 (hFc q z))]; exact h.2.2.2.1 q h1 h2, fun q hq => by
      rcases List.mem_append.mp hq with h' | h'
      · exact h.2.2.2.2 q h'
      · exact hFc _ (hL q h')⟩
  have K := kk t.heap (locs ++ L) ⟨hP.sub js (gk_fm _ _ _ hJ), hD.sub js hj hJ, hS'⟩
  obtain ⟨t2, a1, b1⟩ := K T' e1 X'
  exact ⟨t2, st t2 a1, b1⟩
theorem gn_runI {po : va_W → Prop} {wc wr : va_W} {st0 rest : List Value} {a : Array Value} {mc ms : Nat} (hA : ∀ q : Nat, s.heap.size ≤ q → A q) (h : gk_H G A s ws H locs)
    (hr : va_Run p l e R s m args below meth c H locs kc ks mc ms (F0 m pc ls st0) rest (gn_Q G po (va_A wc H.size) a) (va_A wc H.size))
    (isC isR : List Nat) (hC : isC.map (fun i => ws[i]?) = wc.map some) (hR : isR.map (fun i => ws[i]?) = wr.map some) (hn : va_nd isR = true) (hdis : ∀ i ∈ isR, i ∉ isC)
    (kk : ∀ (w1 : va_W) (H1 : Heap) (locs1 : List Loc), po w1 → gk_H G A s (wr ++ w1) H1 locs1 → W p l e R s m args below meth c H1 locs1 (kc + mc) (ks + ms) Q (F0 m (pc + 3) ls rest)) : W p l e R s m args below meth c H locs kc ks Q (F0 m pc ls st0) := by
  intro T hT X
  obtain ⟨v, st₀, t, T', L, h0, X', hL, e1, e2, ⟨⟨w1, hpo, ho, hP1, hD1⟩, hz, hk⟩, st⟩ := hr T hT X
  have hv : v = none := by injection ho
  subst hv
  have hFc : ∀ q, va_A wc H.size q → A q := va_free h.2.1 h.2.2 hA isC hC
  rw [h0] at hz hk
  obtain ⟨hP, hD⟩ := va_join h.1 h.2.1 isC isR hC hR hn hdis hk hFc hP1 hD1
  have hS' : va_S A s.heap t.heap (locs ++ L) := ⟨Nat.le_trans h.2.2.1 hz, fun q h1 h2 => by rw [hk q (Nat.lt_of_lt_of_le h1 h.2.2.1) (fun z => h2 (hFc q z))]; exact h.2.2.2.1 q h1 h2, fun q hq => by
      rcases List.mem_append.mp hq with h' | h'
      · exact h.2.2.2.2 q h'
      · exact hFc _ (hL q h')⟩
  have K := kk w1 t.heap (locs ++ L) hpo ⟨hP, hD, hS'⟩
  obtain ⟨t2, a1, b1⟩ := K T' e1 X'
  exact ⟨t2, st t2 a1, b1⟩
theorem gn_pre {b' : Bool} {As : List Value} {wc : va_W} (C : gn_C p s m args c cc nL own Ts x b G A) (h : gk_H G A s ws H locs) (hbb : b' = true → b = true) (isC : List Nat) (hC : isC.map (fun i => ws[i]?) = wc.map some) (hnC : va_nd isC = true) : ∀ U : State, U.heap = H → s.WarmedH U.vm → va_Pc As (gk_P b' G wc H.size) As.toArray U := fun U hU hW => by
  have hFc : ∀ q, va_A wc H.size q → A q := va_free h.2.1 h.2.2 C.2.2.2.2.2.2.2.2 isC hC
  exact ⟨rfl, by rw [hU], by rw [hU]; exact h.1.sub isC (gk_fm _ _ _ hC), va_K.moved hW.alike C.2.2.2.2.2.1, (h.2.1.sub isC hnC hC).weaken (fun _ _ _ _ => trivial), C.2.2.2.2.2.2.1.go hbb h.2.2 hFc hU hW⟩
theorem gn_preI {x' b' : Bool} {As : List Value} {wc : va_W} (C : gn_C p s m args c cc nL own Ts x b G A) (h : gk_H G A s ws H locs) (hxx : x' = true → x = true) (hbb : b' = true → b = true) (isC : List Nat) (hC : isC.map (fun i => ws[i]?) = wc.map some) (hnC : va_nd isC = true) : ∀ U : State, U.heap = H → s.WarmedH U.vm → va_Pc As (gn_P x' b' G wc H.size) As.toArray U := fun U hU hW => by
  obtain ⟨q0, q1⟩ := gn_pre (As := As) C h hbb isC hC hnC U hU hW
  exact ⟨q0, q1, fun hx' => va_AO.moved hW.alike (C.2.2.2.2.2.2.2.1 (hxx hx'))⟩
theorem gn_blind {x' b' : Bool} {As : List Value} {wc : va_W} {sz : Nat} : FrameBlind (va_Pc As (gn_P x' b' G wc sz)) := fun a U g mk q => by
  obtain ⟨q0, ⟨q1, qP, qK, qD, qS⟩, qO⟩ := q
  exact ⟨q0, ⟨q1, qP, va_K.moved (u := U) (U := U.calling g mk a) (Vm.Alike.refl U.vm) qK, qD, qS.blind⟩, fun hx' => va_AO.moved (u := U) (U := U.calling g mk a) (Vm.Alike.refl U.vm) (qO hx')⟩
/-- a call of a static method -/
theorem gn_callS {ret : Option FieldType} {rv : Option Value} {y' : MethodName} {wsy wsy' : List Cond} {rm : Room} {b' : Bool} {bytes : ByteArray} {maxL n index : Nat} {wc w1 : va_W} {As : List Value} (wr ws' : va_W) (rest : List Value) (C : gn_C p s m args c cc nL own Ts x b G A) (h : gk_H G A s ws H locs) (hM : gk_M l y' wsy rm b' G As wc rv w1) (hT : GoodIn Ts (va_wsS own index y' wsy)) (hd : decode cc pc = .ok (.invokestatic index, 3)) (hsz : ls.size = nL) (hkk : kc ≤ R.cells ∧ ks ≤ R.slots)
    (isC isR js : List Nat)
    (hw : wsy = Cond.code y' bytes maxL ret :: wsy') (hrm : rm.cells = 0 ∧ rm.slots = 0) (hR0 : rm.frames + 1 ≤ R.frames ∧ 8 + (maxL + 11) + rm.locals ≤ R.locals) (hy : y'.cls ≠ "java/lang/invoke/MethodHandle" ∧ y'.cls ≠ "java/lang/invoke/VarHandle" ∧ (parseMethodDescriptor y'.desc).map (fun d => d.parameters.length) = some n) (hn : As.length = n) (hbb : b' = true → b = true) (hcat : (rest.map fun v => v.category).sum ≤ 8)
    (hnC : va_nd isC = true) (hC : isC.map (fun i => ws[i]?) = wc.map some) (hR : isR.map (fun i => ws[i]?) = wr.map some) (hnR : va_nd isR = true) (hdis : ∀ i ∈ isR, i ∉ isC) (hj : va_nd js = true) (hJ : js.map (fun i => (wr ++ w1)[i]?) = ws'.map some)
    (kk : ∀ (H1 : Heap) (locs1 : List Loc), gk_H G A s ws' H1 locs1 → W p l e R s m args below meth c H1 locs1 kc ks Q (F0 m (pc + 3) ls (rv.toList ++ rest))) : W p l e R s m args below meth c H locs kc ks Q (F0 m pc ls (As.reverse ++ rest)) := by
  refine gn_run C.2.2.2.2.2.2.2.2 h (va_runS (rest := rest) (As := As) ⟨C.1, C.2.1, C.2.2.1, C.2.2.2.1, C.2.2.2.2.1⟩ (hM H.size) (va_cwS n C.2.2.2.2.1 hT hw hrm.1 hrm.2 hy hR0) ⟨gk_blind, gn_pre C h hbb isC hC hnC⟩ rfl hn hsz rfl (lv_room hcat) hd hkk) isC isR js hC hR hnR hdis hj hJ kk
/-- a call of a method of an object, whose cell is the callee's first -/
theorem gn_callV {ret : Option FieldType} {rv : Option Value} {y' : MethodName} {wsy wsy' : List Cond} {rm : Room} {b' : Bool} {bytes : ByteArray} {maxL n index ci a0 : Nat} {fs : List Value} {wc w1 : va_W} {As : List Value} {T : u_T} {N : Nat} {Cn : String} (wr ws' : va_W) (rest : List Value) (C : gn_C p s m args c cc nL own Ts x b G A) (h : gk_H G A s ws H locs) (hM : gk_M l y' wsy rm b' G (.ref a0 :: As) ((a0, .inr (ci, fs)) :: wc) rv w1) (hT : GoodIn Ts (wsV own index Cn y' wsy)) (hd : decode cc pc = .ok (.invokevirtual index, 3)) (hsz : ls.size = nL) (hkk : kc ≤ R.cells ∧ ks ≤ R.slots)
    (isC isR js : List Nat)
    (hw : wsy = Cond.code y' bytes maxL ret :: wsy') (hci : vwCl[ci]? = some (Cn, T, N)) (hrm : rm.cells = 0 ∧ rm.slots = 0) (hR0 : rm.frames + 1 ≤ R.frames ∧ 8 + (maxL + 11) + rm.locals ≤ R.locals) (hy : y'.cls = Cn ∧ y'.cls ≠ "java/lang/invoke/MethodHandle" ∧ y'.cls ≠ "java/lang/invoke/VarHandle" ∧ (parseMethodDescriptor y'.desc).map (fun d => d.parameters.length) = some n) (hn : As.length = n) (hbb : b' = true → b = true) (hcat : (rest.map fun v => v.category).sum ≤ 8)
    (hnC : va_nd isC = true) (hC : isC.map (fun i => ws[i]?) = ((a0, .inr (ci, fs)) :: wc : va_W).map some) (hR : isR.map (fun i => ws[i]?) = wr.map some) (hnR : va_nd isR = true) (hdis : ∀ i ∈ isR, i ∉ isC) (hj : va_nd js = true) (hJ : js.map (fun i => (wr ++ w1)[i]?) = ws'.map some)
    (kk : ∀ (H1 : Heap) (locs1 : List Loc), gk_H G A s ws' H1 locs1 → W p l e R s m args below meth c H1 locs1 kc ks Q (F0 m (pc + 3) ls (rv.toList ++ rest))) : W p l e R s m args below meth c H locs kc ks Q (F0 m pc ls (As.reverse ++ .ref a0 :: rest)) := by
  have hPc := h.1.sub (ws' := (a0, .inr (ci, fs)) :: wc) isC (gk_fm _ _ _ hC)
  have hrec := va_recv C.2.2.2.2.2.1 hPc (ci := ci) (q0 := 0) hci rfl
  refine gn_run C.2.2.2.2.2.2.2.2 h (va_runV (C := Cn) (rest := rest) (b := a0) (As := As) ⟨C.1, C.2.1, C.2.2.1, C.2.2.2.1, C.2.2.2.2.1⟩ (hM H.size) (cwV n C.2.2.2.2.1 hT hw hrm.1 hrm.2 hy hR0) ⟨gk_blind, hrec, gn_pre C h hbb isC hC hnC⟩ rfl hn hsz rfl (lv_room hcat) hd hkk) isC isR js hC hR hnR hdis hj hJ kk
/-- a call of a constructor without arguments -/
theorem gn_callI {y' : MethodName} {wsy wsy' : List Cond} {rm : Room} {x' b' : Bool} {bytes : ByteArray} {maxL index a0 mc ms : Nat} {wc : va_W} {po : va_W → Prop} (wr : va_W) (rest : List Value) (C : gn_C p s m args c cc nL own Ts x b G A) (h : gk_H G A s ws H locs) (hM : gn_M l y' wsy rm x' b' G [.ref a0] wc po mc ms) (hT : GoodIn Ts wsy) (hini : Cond.initialized y'.cls ∈ Ts) (hl : Cond.methodLink own index y' ∈ Ts) (hin : Cond.instanceMethod y' ∈ Ts) (hd : decode cc pc = .ok (.invokespecial index, 3)) (hsz : ls.size = nL) (hkk : kc + mc ≤ R.cells ∧ ks + ms ≤ R.slots)
    (isC isR : List Nat)
    (hw : wsy = Cond.code y' bytes maxL none :: wsy') (hrm : rm.cells = mc ∧ rm.slots = ms) (hR0 : rm.frames + 1 ≤ R.frames ∧ 8 + (maxL + 11) + rm.locals ≤ R.locals) (hyn : y'.name = "<init>") (hy : y'.cls ≠ "java/lang/invoke/MethodHandle" ∧ y'.cls ≠ "java/lang/invoke/VarHandle" ∧ (parseMethodDescriptor y'.desc).map (fun d => d.parameters.length) = some 0) (hxx : x' = true → x = true) (hbb : b' = true → b = true) (hcat : (rest.map fun v => v.category).sum ≤ 8)
    (hnC : va_nd isC = true) (hC : isC.map (fun i => ws[i]?) = wc.map some) (hR : isR.map (fun i => ws[i]?) = wr.map some) (hnR : va_nd isR = true) (hdis : ∀ i ∈ isR, i ∉ isC)
    (kk : ∀ (w1 : va_W) (H1 : Heap) (locs1 : List Loc), po w1 → gk_H G A s (wr ++ w1) H1 locs1 → W p l e R s m args below meth c H1 locs1 (kc + mc) (ks + ms) Q (F0 m (pc + 3) ls rest)) : W p l e R s m args below meth c H locs kc ks Q (F0 m pc ls (.ref a0 :: rest)) := by
  refine gn_runI C.2.2.2.2.2.2.2.2 h (va_runI (rest := rest) (b := a0) (As := []) ⟨C.1, C.2.1, C.2.2.1, C.2.2.2.1, C.2.2.2.2.1⟩ (hM H.size) (cwI 0 C.2.2.2.2.1 hT hw hrm.1 hrm.2 (C.2.2.2.2.1 _ hini) (C.2.2.2.2.1 _ hl) (C.2.2.2.2.1 _ hin) hyn hy hR0) ⟨gn_blind, gn_preI C h hxx hbb isC hC hnC⟩ rfl rfl hsz rfl (lv_room hcat) hd hkk) isC isR hC hR hnR hdis kk
/-- the same, of a nest mate -/
theorem gn_callIN {y' : MethodName} {wsy wsy' : List Cond} {rm : Room} {x' b' : Bool} {bytes : ByteArray} {maxL index a0 mc ms : Nat} {host : String} {wc : va_W} {po : va_W → Prop} (wr : va_W) (rest : List Value) (C : gn_C p s m args c cc nL own Ts x b G A) (h : gk_H G A s ws H locs) (hM : gn_M l y' wsy rm x' b' G [.ref a0] wc po mc ms) (hT : GoodIn Ts wsy) (hini : Cond.initialized y'.cls ∈ Ts) (hl : va_Nw (.methodLinkNest own index y' host) s) (hin : Cond.instanceMethod y' ∈ Ts) (hd : decode cc pc = .ok (.invokespecial index, 3)) (hsz : ls.size = nL) (hkk : kc + mc ≤ R.cells ∧ ks + ms ≤ R.slots)
    (isC isR : List Nat)
    (hw : wsy = Cond.code y' bytes maxL none :: wsy') (hrm : rm.cells = mc ∧ rm.slots = ms) (hR0 : rm.frames + 1 ≤ R.frames ∧ 8 + (maxL + 11) + rm.locals ≤ R.locals) (hyn : y'.name = "<init>") (hy : y'.cls ≠ "java/lang/invoke/MethodHandle" ∧ y'.cls ≠ "java/lang/invoke/VarHandle" ∧ (parseMethodDescriptor y'.desc).map (fun d => d.parameters.length) = some 0) (hxx : x' = true → x = true) (hbb : b' = true → b = true) (hcat : (rest.map fun v => v.category).sum ≤ 8)
    (hnC : va_nd isC = true) (hC : isC.map (fun i => ws[i]?) = wc.map some) (hR : isR.map (fun i => ws[i]?) = wr.map some) (hnR : va_nd isR = true) (hdis : ∀ i ∈ isR, i ∉ isC)
    (kk : ∀ (w1 : va_W) (H1 : Heap) (locs1 : List Loc), po w1 → gk_H G A s (wr ++ w1) H1 locs1 → W p l e R s m args below meth c H1 locs1 (kc + mc) (ks + ms) Q (F0 m (pc + 3) ls rest)) : W p l e R s m args below meth c H locs kc ks Q (F0 m pc ls (.ref a0 :: rest)) := by
  refine gn_runI C.2.2.2.2.2.2.2.2 h (va_runIN (rest := rest) (b := a0) (As := []) ⟨C.1, C.2.1, C.2.2.1, C.2.2.2.1, C.2.2.2.2.1⟩ (hM H.size) ⟨va_cnB 0 C.2.2.2.2.1 hT hw hrm.1 hrm.2 hl (C.2.2.2.2.1 _ hini) hy hR0, hyn, C.2.2.2.2.1 _ hin⟩ ⟨gn_blind, gn_preI C h hxx hbb isC hC hnC⟩ rfl rfl hsz rfl (lv_room hcat) hd hkk) isC isR hC hR hnR hdis kk
theorem gn_newI {rest : List Value} (C : gn_C p s m args c cc nL own Ts x b G A) (h : gk_H G A s ws H locs) (harr : Cond.arrayClass .int ∈ Ts) {n : Int32} {N : Nat} (hn : ¬ n < 0) (hN : n.toNatClampNeg = N) (hbytes : N * componentBytes .int ≤ 536870912) (hcells : kc + 1 ≤ R.cells) (hslots : ks + N ≤ R.slots) (hd : decode cc pc = .ok (.newarray .int, 2))
    (kk : ∀ (q : Nat) (H1 : Heap), gk_H G A s (ws ++ [(q, gk_I G N (fun _ => 0))]) H1 locs → W p l e R s m args below meth c H1 locs (kc + 1) (ks + N) Q (F0 m (pc + 2) ls (.ref q :: rest))) : W p l e R s m args below meth c H locs kc ks Q (F0 m pc ls (.int n :: rest)) := by
  refine va_newa (atype := .int) (ty := .int) (a0 := (N, .inl (fun _ => 0))) C.1 C.2.1 (C.2.2.2.2.1 _ harr) rfl C.2.2.2.2.2.1 h.1 h.2.1 h.2.2 C.2.2.2.2.2.2.2.2 (fun cA => rfl) hn hN hbytes hcells hslots hd (fun q cA H1 hK1 hP1 hD1 hS1 => ?_)
  have h1 : s.vm.findClass ("[" ++ FieldType.int.toString) = some cA := (hK1.2 4 (cA, .int) rfl).2
  have h2 : s.vm.findClass ("[" ++ FieldType.int.toString) = some (G.2.1 0) := (C.2.2.2.2.2.1.2 0 (G.2.1 0, .int) rfl).2
  have e : cA = G.2.1 0 := Option.some.inj (h1.symm.trans h2)
  subst e
  exact kk q H1 ⟨hP1, hD1, hS1⟩
theorem gn_newJ {rest : List Value} (C : gn_C p s m args c cc nL own Ts x b G A) (h : gk_H G A s ws H locs) (harr : Cond.arrayClass .long ∈ Ts) {n : Int32} {N : Nat} (hn : ¬ n < 0) (hN : n.toNatClampNeg = N) (hbytes : N * componentBytes .long ≤ 536870912) (hcells : kc + 1 ≤ R.cells) (hslots : ks + N ≤ R.slots) (hd : decode cc pc = .ok (.newarray .long, 2))
    (kk : ∀ (q : Nat) (H1 : Heap), gk_H G A s (ws ++ [(q, gk_J G N (fun _ => 0))]) H1 locs → W p l e R s m args below meth c H1 locs (kc + 1) (ks + N) Q (F0 m (pc + 2) ls (.ref q :: rest))) : W p l e R s m args below meth c H locs kc ks Q (F0 m pc ls (.int n :: rest)) := by
  refine va_newa (atype := .long) (ty := .long) (a0 := (N, .inr (.inl (fun _ => 0)))) C.1 C.2.1 (C.2.2.2.2.1 _ harr) rfl C.2.2.2.2.2.1 h.1 h.2.1 h.2.2 C.2.2.2.2.2.2.2.2 (fun cA => rfl) hn hN hbytes hcells hslots hd (fun q cA H1 hK1 hP1 hD1 hS1 => ?_)
  have h1 : s.vm.findClass ("[" ++ FieldType.long.toString) = some cA := (hK1.2 4 (cA, .long) rfl).2
  have h2 : s.vm.findClass ("[" ++ FieldType.long.toString) = some (G.2.1 1) := (C.2.2.2.2.2.1.2 1 (G.2.1 1, .long) rfl).2
  have e : cA = G.2.1 1 := Option.some.inj (h1.symm.trans h2)
  subst e
  exact kk q H1 ⟨hP1, hD1, hS1⟩
theorem gn_newZ {rest : List Value} (C : gn_C p s m args c cc nL own Ts x b G A) (h : gk_H G A s ws H locs) (harr : Cond.arrayClass .boolean ∈ Ts) {n : Int32} {N : Nat} (hn : ¬ n < 0) (hN : n.toNatClampNeg = N) (hbytes : N * componentBytes .boolean ≤ 536870912) (hcells : kc + 1 ≤ R.cells) (hslots : ks + N ≤ R.slots) (hd : decode cc pc = .ok (.newarray .boolean, 2))
    (kk : ∀ (q : Nat) (H1 : Heap), gk_H G A s (ws ++ [(q, gk_Z G N (fun _ => 0))]) H1 locs → W p l e R s m args below meth c H1 locs (kc + 1) (ks + N) Q (F0 m (pc + 2) ls (.ref q :: rest))) : W p l e R s m args below meth c H locs kc ks Q (F0 m pc ls (.int n :: rest)) := by
  refine va_newa (atype := .boolean) (ty := .boolean) (a0 := (N, .inl (fun _ => 0))) C.1 C.2.1 (C.2.2.2.2.1 _ harr) rfl C.2.2.2.2.2.1 h.1 h.2.1 h.2.2 C.2.2.2.2.2.2.2.2 (fun cA => rfl) hn hN hbytes hcells hslots hd (fun q cA H1 hK1 hP1 hD1 hS1 => ?_)
  have h1 : s.vm.findClass ("[" ++ FieldType.boolean.toString) = some cA := (hK1.2 4 (cA, .boolean) rfl).2
  have h2 : s.vm.findClass ("[" ++ FieldType.boolean.toString) = some (G.2.1 2) := (C.2.2.2.2.2.1.2 2 (G.2.1 2, .boolean) rfl).2
  have e : cA = G.2.1 2 := Option.some.inj (h1.symm.trans h2)
  subst e
  exact kk q H1 ⟨hP1, hD1, hS1⟩
theorem gn_newR {rest : List Value} {index : Nat} (C : gn_C p s m args c cc nL own Ts true b G A) (h : gk_H G A s ws H locs) (hcl : Cond.classLink own index "ExchangeFamilies$Numbers" ∈ Ts) {n : Int32} {N : Nat} (hn : ¬ n < 0) (hN : n.toNatClampNeg = N) (hbytes : N * 4 ≤ 536870912) (hcells : kc + 1 ≤ R.cells) (hslots : ks + N ≤ R.slots) (hd : decode cc pc = .ok (.anewarray index, 3))
    (kk : ∀ (q : Nat) (H1 : Heap), gk_H G A s (ws ++ [(q, gk_R G N (fun _ => none))]) H1 locs → W p l e R s m args below meth c H1 locs (kc + 1) (ks + N) Q (F0 m (pc + 3) ls (.ref q :: rest))) : W p l e R s m args below meth c H locs kc ks Q (F0 m pc ls (.int n :: rest)) := by
  refine va_newq C.1 C.2.1 C.2.2.2.1 (C.2.2.2.2.1 _ hcl) (C.2.2.2.2.2.2.2.1 rfl) C.2.2.2.2.2.1 h.1 h.2.1 h.2.2 C.2.2.2.2.2.2.2.2 hn hN hbytes hcells hslots hd (fun q cA H1 hK1 hP1 hD1 hS1 => ?_)
  obtain ⟨_, _, _, _, _, h1⟩ : va_RA s cA (.object "ExchangeFamilies$Numbers") := (hK1.2 4 (cA, .object "ExchangeFamilies$Numbers") rfl).2
  obtain ⟨_, _, _, _, _, h2⟩ : va_RA s (G.2.1 3) (.object "ExchangeFamilies$Numbers") := (C.2.2.2.2.2.1.2 3 (G.2.1 3, .object "ExchangeFamilies$Numbers") rfl).2
  have e : cA = G.2.1 3 := Option.some.inj (h1.symm.trans h2)
  subst e
  exact kk q H1 ⟨hP1, hD1, hS1⟩
theorem gn_vret {po : va_W → Prop} (hx : p.tables.exec = Jvm.exec) (hb : c.code = cc) (hr : meth.sig.returnType = none) (hlocks : meth.locks = false) (h : gk_H G A s ws H locs) (hpo : po ws) (hd : decode cc pc = .ok (.return_, 1)) : W p l e R s m args below meth c H locs kc ks (MQ below (gn_Q G po A) args s kc ks A) (F0 m pc ls []) :=
  W.vret hx hb hr (fun t ht hW => ⟨⟨ws, hpo, rfl, by rw [ht]; exact h.1, h.2.1⟩, h.2.2.F ht⟩) h.2.2.2.2 hd (hlocks := hlocks)
end GNR
