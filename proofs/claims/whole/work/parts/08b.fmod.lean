
/-! Math.floorMod: her class is one that a machine may override, so she is met by the loose form -/
def gk_fmod (a b : Int32) : Int32 := if 0 ≤ a ^^^ b then a - a / b * b else if a - a / b * b = 0 then a - a / b * b else a - a / b * b + b
def gk_fmS (a b : Int32) : Spec where
  pre := .and (.code yJ9_floorMod_7cf53 cJ9_floorMod_7cf53 3 (some .int)) (.and (.count 2) (.and (.eq (.arg 0) (.int a)) (.eq (.arg 1) (.int b))))
  post := .and .returned (.eq .result (.int (gk_fmod a b)))
  changes := some []
theorem gk_fm_noRow0 : (NativeRow.find? natives yJ9_floorMod_7cf53.cls yJ9_floorMod_7cf53.name yJ9_floorMod_7cf53.desc).isNone = true := by decide +kernel
theorem gk_fm_noRow (p : Program) : NativeRow.find? p.tables.natives yJ9_floorMod_7cf53.cls yJ9_floorMod_7cf53.name yJ9_floorMod_7cf53.desc = none := by
  cases p <;> exact Option.isNone_iff_eq_none.mp gk_fm_noRow0
theorem gk_two {args : Array Value} {s : State} {a b : Int32} (h0 : (Cond.count 2).before args s = true) (h1 : (Cond.eq (.arg 0) (.int a)).before args s = true) (h2 : (Cond.eq (.arg 1) (.int b)).before args s = true) : args = #[.int a, .int b] := by
  have e1 := va_eqt h1
  have e2 := va_eqt h2
  obtain ⟨l⟩ := args
  simp only [Cond.before, Cond.holds, Cond.value, Term.eval, List.size_toArray, beq_iff_eq, Option.some.injEq] at h0 e1 e2
  match l, h0 with
  | [x, y], _ =>
    simp at e1 e2
    rw [e1, e2]
theorem gk_fm_meets (l : Launch) (a b : Int32) (hb0 : ¬ b = 0) : MeetsLoose l yJ9_floorMod_7cf53 (gk_fmS a b) := by
  refine MeetsLoose.of_body_ov (code := cJ9_floorMod_7cf53) (maxLocals := 3) (ret := some .int) gk_fm_noRow ?_ ?_
  · intro args s h
    simp only [gk_fmS, Cond.before_and, Bool.and_eq_true] at h
    exact h.1
  · intro p e s m args below meth c s₁ B
    have hpre := B.pre
    simp only [gk_fmS, Cond.before_and, Bool.and_eq_true] at hpre
    obtain rfl := gk_two hpre.2.1 hpre.2.2.1 hpre.2.2.2
    have hloc : argsToLocals #[.int a, .int b] 3 = #[.val (.int a), .val (.int b), .unset] := rfl
    have fin : ∀ r : Int32, r = gk_fmod a b → (∀ fs, Steps p.tables e below (s₁.setTop (entryFrame m #[.int a, .int b] 3)) (s₁.setFrames fs) ∨ handOver s₁ (some (.int r)) below ≠ some fs) →
        ∃ s₂ o, Steps p.tables e below (s₁.setTop (entryFrame m #[.int a, .int b] 3)) s₂ ∧ s₂.status = .running ∧ Ended s₂ below o ∧
          (gk_fmS a b).ensures #[.int a, .int b] s o s₂ := by
      intro r hr hwalk
      obtain ⟨fs, hfs⟩ := handOver_isSome (s := s₁) (some (.int r)) B.hears₁
      refine ⟨s₁.setFrames fs, .returned (some (.int r)), (hwalk fs).resolve_right (fun h => h hfs), B.here.running, B.ended hfs (by intro h; cases h), ?_, State.sameBut_nil.mpr ?_⟩
      · simp [gk_fmS, Cond.after, Cond.holds, Cond.value, Term.eval, hr]
      · rw [State.frames_setFrames _ B.cur₁, B.back]
    by_cases h1 : 0 ≤ a ^^^ b
    · refine fin (a - a / b * b) (by simp [gk_fmod, h1]) (fun fs => ?_)
      by_cases hfs : handOver s₁ (some (.int (a - a / b * b))) below = some fs
      · left
        unfold entryFrame; rw [hloc]
        refine Steps.instrAtOv (c := _) (by simpa using B.here) ?_
        simp [jvm, wpRun, exec, B.here.top, B.exec, B.bytes, dJ9_floorMod_7cf53_0, hb0, storeLocals, storeSelf, setAt, Value.category, ifCond.holds, h1]
        refine Steps.instrAtOv (c := _) (by simpa using B.here) ?_
        simp [jvm, wpRun, exec, B.here.top, B.exec, B.bytes, dJ9_floorMod_7cf53_1, hb0, storeLocals, storeSelf, setAt, Value.category, ifCond.holds, h1]
        refine Steps.instrAtOv (c := _) (by simpa using B.here) ?_
        simp [jvm, wpRun, exec, B.here.top, B.exec, B.bytes, dJ9_floorMod_7cf53_2, hb0, storeLocals, storeSelf, setAt, Value.category, ifCond.holds, h1]
        refine Steps.instrAtOv (c := _) (by simpa using B.here) ?_
        simp [jvm, wpRun, exec, B.here.top, B.exec, B.bytes, dJ9_floorMod_7cf53_3, hb0, storeLocals, storeSelf, setAt, Value.category, ifCond.holds, h1]
        refine Steps.instrAtOv (c := _) (by simpa using B.here) ?_
        simp [jvm, wpRun, exec, B.here.top, B.exec, B.bytes, dJ9_floorMod_7cf53_4, hb0, storeLocals, storeSelf, setAt, Value.category, ifCond.holds, h1]
        refine Steps.instrAtOv (c := _) (by simpa using B.here) ?_
        simp [jvm, wpRun, exec, B.here.top, B.exec, B.bytes, dJ9_floorMod_7cf53_5, hb0, storeLocals, storeSelf, setAt, Value.category, ifCond.holds, h1]
        refine Steps.instrAtOv (c := _) (by simpa using B.here) ?_
        simp [jvm, wpRun, exec, B.here.top, B.exec, B.bytes, dJ9_floorMod_7cf53_6, hb0, storeLocals, storeSelf, setAt, Value.category, ifCond.holds, h1]
        refine Steps.instrAtOv (c := _) (by simpa using B.here) ?_
        simp [jvm, wpRun, exec, B.here.top, B.exec, B.bytes, dJ9_floorMod_7cf53_7, hb0, storeLocals, storeSelf, setAt, Value.category, ifCond.holds, h1]
        refine Steps.instrAtOv (c := _) (by simpa using B.here) ?_
        simp [jvm, wpRun, exec, B.here.top, B.exec, B.bytes, dJ9_floorMod_7cf53_18, hb0, storeLocals, storeSelf, setAt, Value.category, ifCond.holds, h1]
        refine Steps.instrAtOv (c := _) (by simpa using B.here) ?_
        simp [jvm, wpRun, exec, B.here.top, B.exec, B.bytes, dJ9_floorMod_7cf53_19, B.method₁, B.returns, narrow]
        intro acts
        rw [ret_to B.frames₁ B.method₁ B.notSynchronized rfl rfl hfs]
        exact Steps.refl _
      · exact Or.inr hfs
    · generalize hq : a - a / b * b = q at *
      by_cases h2 : q = 0
      · subst h2
        refine fin 0 (by simp [gk_fmod, h1, hq]) (fun fs => ?_)
        by_cases hfs : handOver s₁ (some (.int 0)) below = some fs
        · left
          unfold entryFrame; rw [hloc]
          refine Steps.instrAtOv (c := _) (by simpa using B.here) ?_
          simp [jvm, wpRun, exec, B.here.top, B.exec, B.bytes, dJ9_floorMod_7cf53_0, hb0, storeLocals, storeSelf, setAt, Value.category, ifCond.holds, h1, hq]
          refine Steps.instrAtOv (c := _) (by simpa using B.here) ?_
          simp [jvm, wpRun, exec, B.here.top, B.exec, B.bytes, dJ9_floorMod_7cf53_1, hb0, storeLocals, storeSelf, setAt, Value.category, ifCond.holds, h1, hq]
          refine Steps.instrAtOv (c := _) (by simpa using B.here) ?_
          simp [jvm, wpRun, exec, B.here.top, B.exec, B.bytes, dJ9_floorMod_7cf53_2, hb0, storeLocals, storeSelf, setAt, Value.category, ifCond.holds, h1, hq]
          refine Steps.instrAtOv (c := _) (by simpa using B.here) ?_
          simp [jvm, wpRun, exec, B.here.top, B.exec, B.bytes, dJ9_floorMod_7cf53_3, hb0, storeLocals, storeSelf, setAt, Value.category, ifCond.holds, h1, hq]
          refine Steps.instrAtOv (c := _) (by simpa using B.here) ?_
          simp [jvm, wpRun, exec, B.here.top, B.exec, B.bytes, dJ9_floorMod_7cf53_4, hb0, storeLocals, storeSelf, setAt, Value.category, ifCond.holds, h1, hq]
          refine Steps.instrAtOv (c := _) (by simpa using B.here) ?_
          simp [jvm, wpRun, exec, B.here.top, B.exec, B.bytes, dJ9_floorMod_7cf53_5, hb0, storeLocals, storeSelf, setAt, Value.category, ifCond.holds, h1, hq]
          refine Steps.instrAtOv (c := _) (by simpa using B.here) ?_
          simp [jvm, wpRun, exec, B.here.top, B.exec, B.bytes, dJ9_floorMod_7cf53_6, hb0, storeLocals, storeSelf, setAt, Value.category, ifCond.holds, h1, hq]
          refine Steps.instrAtOv (c := _) (by simpa using B.here) ?_
          simp [jvm, wpRun, exec, B.here.top, B.exec, B.bytes, dJ9_floorMod_7cf53_7, hb0, storeLocals, storeSelf, setAt, Value.category, ifCond.holds, h1, hq]
          refine Steps.instrAtOv (c := _) (by simpa using B.here) ?_
          simp [jvm, wpRun, exec, B.here.top, B.exec, B.bytes, dJ9_floorMod_7cf53_10, hb0, storeLocals, storeSelf, setAt, Value.category, ifCond.holds, h1, hq]
          refine Steps.instrAtOv (c := _) (by simpa using B.here) ?_
          simp [jvm, wpRun, exec, B.here.top, B.exec, B.bytes, dJ9_floorMod_7cf53_11, hb0, storeLocals, storeSelf, setAt, Value.category, ifCond.holds, h1, hq]
          refine Steps.instrAtOv (c := _) (by simpa using B.here) ?_
          simp [jvm, wpRun, exec, B.here.top, B.exec, B.bytes, dJ9_floorMod_7cf53_18, hb0, storeLocals, storeSelf, setAt, Value.category, ifCond.holds, h1, hq]
          refine Steps.instrAtOv (c := _) (by simpa using B.here) ?_
          simp [jvm, wpRun, exec, B.here.top, B.exec, B.bytes, dJ9_floorMod_7cf53_19, B.method₁, B.returns, narrow]
          intro acts
          rw [ret_to B.frames₁ B.method₁ B.notSynchronized rfl rfl hfs]
          exact Steps.refl _
        · exact Or.inr hfs
      · refine fin (q + b) (by simp [gk_fmod, h1, hq, h2]) (fun fs => ?_)
        by_cases hfs : handOver s₁ (some (.int (q + b))) below = some fs
        · left
          unfold entryFrame; rw [hloc]
          refine Steps.instrAtOv (c := _) (by simpa using B.here) ?_
          simp [jvm, wpRun, exec, B.here.top, B.exec, B.bytes, dJ9_floorMod_7cf53_0, hb0, storeLocals, storeSelf, setAt, Value.category, ifCond.holds, h1, hq, h2]
          refine Steps.instrAtOv (c := _) (by simpa using B.here) ?_
          simp [jvm, wpRun, exec, B.here.top, B.exec, B.bytes, dJ9_floorMod_7cf53_1, hb0, storeLocals, storeSelf, setAt, Value.category, ifCond.holds, h1, hq, h2]
          refine Steps.instrAtOv (c := _) (by simpa using B.here) ?_
          simp [jvm, wpRun, exec, B.here.top, B.exec, B.bytes, dJ9_floorMod_7cf53_2, hb0, storeLocals, storeSelf, setAt, Value.category, ifCond.holds, h1, hq, h2]
          refine Steps.instrAtOv (c := _) (by simpa using B.here) ?_
          simp [jvm, wpRun, exec, B.here.top, B.exec, B.bytes, dJ9_floorMod_7cf53_3, hb0, storeLocals, storeSelf, setAt, Value.category, ifCond.holds, h1, hq, h2]
          refine Steps.instrAtOv (c := _) (by simpa using B.here) ?_
          simp [jvm, wpRun, exec, B.here.top, B.exec, B.bytes, dJ9_floorMod_7cf53_4, hb0, storeLocals, storeSelf, setAt, Value.category, ifCond.holds, h1, hq, h2]
          refine Steps.instrAtOv (c := _) (by simpa using B.here) ?_
          simp [jvm, wpRun, exec, B.here.top, B.exec, B.bytes, dJ9_floorMod_7cf53_5, hb0, storeLocals, storeSelf, setAt, Value.category, ifCond.holds, h1, hq, h2]
          refine Steps.instrAtOv (c := _) (by simpa using B.here) ?_
          simp [jvm, wpRun, exec, B.here.top, B.exec, B.bytes, dJ9_floorMod_7cf53_6, hb0, storeLocals, storeSelf, setAt, Value.category, ifCond.holds, h1, hq, h2]
          refine Steps.instrAtOv (c := _) (by simpa using B.here) ?_
          simp [jvm, wpRun, exec, B.here.top, B.exec, B.bytes, dJ9_floorMod_7cf53_7, hb0, storeLocals, storeSelf, setAt, Value.category, ifCond.holds, h1, hq, h2]
          refine Steps.instrAtOv (c := _) (by simpa using B.here) ?_
          simp [jvm, wpRun, exec, B.here.top, B.exec, B.bytes, dJ9_floorMod_7cf53_10, hb0, storeLocals, storeSelf, setAt, Value.category, ifCond.holds, h1, hq, h2]
          refine Steps.instrAtOv (c := _) (by simpa using B.here) ?_
          simp [jvm, wpRun, exec, B.here.top, B.exec, B.bytes, dJ9_floorMod_7cf53_11, hb0, storeLocals, storeSelf, setAt, Value.category, ifCond.holds, h1, hq, h2]
          refine Steps.instrAtOv (c := _) (by simpa using B.here) ?_
          simp [jvm, wpRun, exec, B.here.top, B.exec, B.bytes, dJ9_floorMod_7cf53_14, hb0, storeLocals, storeSelf, setAt, Value.category, ifCond.holds, h1, hq, h2]
          refine Steps.instrAtOv (c := _) (by simpa using B.here) ?_
          simp [jvm, wpRun, exec, B.here.top, B.exec, B.bytes, dJ9_floorMod_7cf53_15, hb0, storeLocals, storeSelf, setAt, Value.category, ifCond.holds, h1, hq, h2]
          refine Steps.instrAtOv (c := _) (by simpa using B.here) ?_
          simp [jvm, wpRun, exec, B.here.top, B.exec, B.bytes, dJ9_floorMod_7cf53_16, hb0, storeLocals, storeSelf, setAt, Value.category, ifCond.holds, h1, hq, h2]
          refine Steps.instrAtOv (c := _) (by simpa using B.here) ?_
          simp [jvm, wpRun, exec, B.here.top, B.exec, B.bytes, dJ9_floorMod_7cf53_17, B.method₁, B.returns, narrow]
          intro acts
          rw [ret_to B.frames₁ B.method₁ B.notSynchronized rfl rfl hfs]
          exact Steps.refl _
        · exact Or.inr hfs

section GKF
variable {p : Program} {l : Launch} {e : Env} {R : Room} {s : State} {m : MethodId} {args : Array Value} {below : List Frame} {meth : Method} {c : Code} {H : Heap} {locs : List Loc} {cells slots : Nat} {Q : State → Prop}
variable {pc : Nat} {ls : Array Slot} {rest : List Value}
theorem gk_floorMod {cc : ByteArray} (hexec : p.tables.exec = Jvm.exec) (hb : c.code = cc) (hml : c.maxLocals = ls.size) {own : String} {index : Nat} (hown : s.vm.findClass own = some m.cls) (hlink : (Cond.methodLink own index yJ9_floorMod_7cf53).before args s = true) (hstat : (Cond.static yJ9_floorMod_7cf53).before args s = true) (hini : (Cond.initialized RJ9).before args s = true) (hcode : (Cond.code yJ9_floorMod_7cf53 cJ9_floorMod_7cf53 3 (some .int)).before args s = true)
    (hframes : 1 ≤ R.frames) (hlocals : (rest.map fun v => v.category).sum + 14 ≤ R.locals) (hc : cells ≤ R.cells) (hs : slots ≤ R.slots) {x y : Int32} (hy : ¬ y = 0) (hdg : decode cc pc = .ok (.invokestatic index, 3))
    (kk : W p l e R s m args below meth c H locs cells slots Q (F0 m (pc + 3) ls (.int (gk_fmod x y) :: rest))) : W p l e R s m args below meth c H locs cells slots Q (F0 m pc ls (.int y :: .int x :: rest)) := by
  intro T hT X
  obtain ⟨v, T', X', ⟨first, t, hpost⟩, hstep⟩ := X.staticByContractV hexec hown hlink hstat hini hcode (by decide) (gk_fm_meets l x y hy) rfl rfl rfl rfl
    (fun args' first o s₂ h => by
      simp only [gk_fmS, Cond.after_and, Bool.and_eq_true] at h
      cases o with
      | returned r => exact ⟨r, rfl⟩
      | threw y => simp [Cond.after, Cond.holds, Cond.value] at h)
    (g := F0 m pc ls (.int y :: .int x :: rest)) rfl (by rw [hml]) (argsL := [.int x, .int y]) (rest := rest)
    (fun sig hs => by
      have h : parseMethodDescriptor "(II)I" = some { parameters := [.int, .int], returnType := some .int } := by decide +kernel
      rw [show yJ9_floorMod_7cf53.desc = "(II)I" from rfl, h] at hs
      rw [← Option.some.inj hs]; rfl)
    rfl (by rw [hb]; exact hdg)
    (fun vm' hW => by
      simp only [gk_fmS, Cond.before_and, Bool.and_eq_true]
      refine ⟨?_, rfl, by simp [Cond.before, Cond.holds, Cond.value, Term.eval], by simp [Cond.before, Cond.holds, Cond.value, Term.eval]⟩
      have q := hcode
      rw [← Cond.code_setVm hW.alike] at q
      simp only [Cond.before, Cond.holds, Cond.value, State.methodNamed?, State.vm_setVm] at q ⊢
      exact q)
    (by show 0 + 1 ≤ R.frames; omega) (by show 2 * 0 + (rest.map fun v => v.category).sum + (3 + 11) + 0 ≤ R.locals; omega) (by show cells + 0 ≤ R.cells; omega) (by show slots + 0 ≤ R.slots; omega)
  have hv : v = some (.int (gk_fmod x y)) := by
    rcases v with _ | w
    · simp [gk_fmS, Cond.after, Cond.holds, Cond.value, Term.eval] at hpost
    · cases w <;> simp [gk_fmS, Cond.after, Cond.holds, Cond.value, Term.eval] at hpost
      rw [hpost]
  subst hv
  obtain ⟨t2, a1, b1⟩ := kk (T.setVm T') hT X'
  exact ⟨t2, hstep t2 a1, b1⟩
end GKF
