/-! Methods with handlers of their own, and static calls of them. -/
def xTab (hs : List (Nat × Nat × Nat × Nat)) : List ExceptionTableEntry := hs.map fun q => ⟨q.1, q.2.1, q.2.2.1, q.2.2.2⟩
theorem x_tab {l : List ExceptionTableEntry} {hs : List (Nat × Nat × Nat × Nat)} (h : l.map (fun h => (h.startPc, h.endPc, h.handlerPc, h.catchType)) = hs) : l = xTab hs := by
  subst h
  induction l with
  | nil => rfl
  | cons a t ih => exact congrArg (a :: ·) ih
section XH
variable {p : Program} {l : Launch} {e : Env} {R : Room} {s : State} {m : MethodId} {args : Array Value} {below : List Frame} {meth : Method} {c : Code} {T U : State} {H : Heap} {locs : List Loc} {cells slots : Nat} {Q : State → Prop}
theorem x_pass {own E Ey : String} {tc : ClassId} {pc : Nat} {y : ExceptionTableEntry} (hpl : e.platform.magicAccessors = ({} : Platform).magicAccessors) (hown : s.vm.findClass own = some m.cls) (hE : s.vm.findClass E = some tc) (hcov : covers y pc = true) (h0 : y.catchType ≠ 0)
    (hlink : (Cond.classLink own y.catchType Ey).before args s = true) (hno : (Cond.not (.castable E Ey)).before #[] s = true) : xPass s e.platform m.cls pc tc y := by
  obtain ⟨c', hc', hcl⟩ := Cond.classLink_spec hown hlink e.platform hpl
  have hv := Cond.holds_not_iff.mp hno
  simp only [Cond.value, hE, hc'] at hv
  exact ⟨hcov, h0, c', hcl, Option.some.inj hv⟩
theorem x_hit {own E : String} {tc : ClassId} {i : Nat} (hpl : e.platform.magicAccessors = ({} : Platform).magicAccessors) (hown : s.vm.findClass own = some m.cls) (hE : s.vm.findClass E = some tc)
    (hlink : (Cond.classLink own i E).before args s = true) (hca : (Cond.castable E E).before #[] s = true) : (∃ k, s.vm.classes[tc]? = some k) ∧ s.vm.ClassLinks e.platform m.cls i tc ∧ s.vm.assignable tc tc = true := by
  obtain ⟨c', hc', hcl⟩ := Cond.classLink_spec hown hlink e.platform hpl
  cases Option.some.inj (hE.symm.trans hc')
  obtain ⟨c3, c4, h3, h4, hasg⟩ := Cond.castable_spec hca
  cases Option.some.inj (hE.symm.trans h3)
  cases Option.some.inj (hE.symm.trans h4)
  exact ⟨Vm.classAt_of_findClass hE, hcl, hasg⟩
variable {y : MethodName} {ws ws' : List Cond} {rm : Room} {Pc : Array Value → State → Prop} {Qc : Array Value → State → Outcome → State → Prop} {mc ms n nL index : Nat} {free : Addr → Prop} {bytes cc : ByteArray} {maxL : Nat} {ret : Option FieldType} {hs : List (Nat × Nat × Nat × Nat)} {Ts : List Cond} {own : String} {As rest : List Value} {g : JFrame}
theorem xMet_ofWH (hy : plainName y.cls = true) (hw : ws = Cond.codeWith y cc maxL ret hs :: ws')
    (body : ∀ p e s m args below meth c s₁, BodyLoose p l y (headSpec ws rm) cc maxL ret e s m args below meth c s₁ → c.maxLocals = maxL → c.exceptionTable.toList = xTab hs → Pc args s →
      W p l e (headSpec ws rm).room s m args below meth c s.heap [] 0 0 (xMQ below Qc args s mc ms free) (entryFrame m args maxL)) : xMet l y ws rm Pc Qc mc ms free := by
  refine MetFree.of_bodyS (code := cc) (maxLocals := maxL) (ret := ret) hy (fun args s m h hn => ?_) (fun p e s m args below meth c s₁ B hml hP _ => ?_)
  · obtain ⟨m', meth, c, h0, h1, h2, h3, h4, -, h5, h6, -⟩ := Cond.codeWith_spec (atoms_spec (ws := ws) h _ (by rw [hw]; exact List.mem_cons_self))
    cases Option.some.inj (hn.symm.trans h0)
    exact ⟨meth, c, h1, h2, h3, h4, h5, h6⟩
  · obtain ⟨m', meth', c', h0, h1, h2, -, -, h5, -⟩ := Cond.codeWith_spec (atoms_spec (ws := ws) B.pre _ (by rw [hw]; exact List.mem_cons_self))
    cases Option.some.inj (B.named.symm.trans h0)
    cases Option.some.inj (B.method.symm.trans h1)
    cases Option.some.inj ((Stand.of_body B).code.symm.trans h2)
    obtain ⟨t, a1, o, b1, b2, b3⟩ := body p e s m args below meth c s₁ B hml (x_tab h5) hP s₁ (by rw [B.state]; rfl) (Stand.of_body B)
    exact ⟨t, o, a1, b1, b2, b3.1, b3.2⟩
theorem x_backH (hM : xMet l y ws rm Pc Qc mc ms free) (hbl : FrameBlind Pc) (hrm : rm.cells = mc ∧ rm.slots = ms ∧ rm.frames + 1 ≤ R.frames ∧ 8 + (maxL + 11) + rm.locals ≤ R.locals)
    (hws : ∀ w ∈ ws, ∀ (a' : Array Value) (V : State), s.WarmedH V.vm → w.before a' V = true) (hcode : Cond.codeWith y bytes maxL ret hs ∈ ws) (hini : ∀ (a' : Array Value) (V : State), s.WarmedH V.vm → (Cond.initialized y.cls).before a' V = true)
    (X : Stand p l e R s m args below meth c U locs cells slots) {g : JFrame} (hg : g.method = m) (hsize : g.locals.size = c.maxLocals) {ig : Instr} {len : Nat} (hdg : decode c.code g.pc = .ok (ig, len))
    (hW : 2 * g.monitorRoom + (g.stack.map fun v => v.category).sum ≤ 8) {mk : MethodId} (hn : U.methodNamed? y = some mk) {a : Array Value} (hf : cells + mc ≤ R.cells ∧ slots + ms ≤ R.slots) (hp : Pc a U) :
    ∃ (o : Outcome) (t B : State) (L : List Loc), Stand p l e R s m args below meth c B (locs ++ L) (cells + mc) (slots + ms) ∧ B.heap = t.heap ∧ B.vm = t.vm ∧ Qc a (U.calling g mk a) o t ∧ (∀ q ∈ L, free q.base) ∧
      (∀ v, o = .returned v → Steps p.tables e below (doInvoke e (U.setTop g) [] mk a).1 (B.setTop { g with pc := g.pc + len, stack := v.toList ++ g.stack })) ∧
      (∀ x, o = .threw x → Steps p.tables e below (doInvoke e (U.setTop g) [] mk a).1 ((B.setTop g).pushFrame (.throwing x))) := by
  obtain ⟨r1, r2, r3, r4⟩ := hrm
  have hcd := hws _ hcode a U X.warmed
  obtain ⟨mY, methY, cY, hnY, hmY, hcY, -, hlY, -⟩ := Cond.codeWith_spec hcd
  cases Option.some.inj (hn.symm.trans hnY)
  obtain ⟨kY, hkY, -⟩ := className_of_methodNamed hn
  have hiY : kY.init = .initialized := Cond.initialized_spec (findClass_of_methodNamed hn) hkY (hini a U X.warmed)
  have hAt : At U g.method c below := by rw [hg]; exact X.here
  have happ : (headSpec ws rm).appliesLoose y e.platform (U.calling g mk a) = true :=
    Spec.appliesLoose_calling (g := g) hAt hdg hn hkY hiY
      (X.room_calling (g := g) (R' := (headSpec ws rm).room) hsize hmY hcY r3 (by show _ + (headSpec ws rm).room.locals ≤ _; rw [hlY]; show _ + rm.locals ≤ _; omega) (by show cells + rm.cells ≤ _; omega) (by show slots + rm.slots ≤ _; omega)) (atoms_intro fun w hw => hws w hw _ _ X.warmed)
  obtain ⟨mid, hmid⟩ := hAt.above
  have hfr : (U.setTop g).frames = (.java g :: mid) ++ below := by rw [State.frames_setTop' g hAt.top, hmid]; rfl
  obtain ⟨o, z, hsteps, -, hend, hq, L, hWz, hsame0, hL⟩ := Steps.callFree hM p X.admits X.cas X.clock (acts := []) hfr happ (hbl a U g mk hp) trivial
  rw [State.frames_setTop' g hAt.top] at hend
  obtain ⟨e2, q2, q3, q4, q5, q6⟩ := id hsame0
  have hWU : U.WarmedH z.vm := hWz
  obtain ⟨g0, hg0⟩ := Option.isSome_iff_exists.mp hAt.top
  obtain ⟨r, hr⟩ := State.topJava?_eq_some.mp hg0
  have hz : z = (({ U with heap := z.heap, slotsUsed := z.slotsUsed } : State).setVm z.vm).setFrames z.frames := by
    have h1 : z = ({ z with vm := (U.calling g mk a).vm } : State).setVm z.vm := rfl
    have e2' : ({ z with vm := (U.calling g mk a).vm } : State) = { (U.calling g mk a).setFrames z.frames with heap := z.heap, slotsUsed := z.slotsUsed } := e2
    rw [e2', State.calling_eq hAt.top] at h1
    refine h1.trans ?_
    show ({ (U.setFrames _).setFrames z.frames with heap := z.heap, slotsUsed := z.slotsUsed } : State).setVm z.vm = _
    rw [State.setFrames_setFrames]
    rfl
  have hsame : U.sameButNew ({ U with heap := z.heap, slotsUsed := z.slotsUsed } : State) L mc ms := by
    refine ⟨?_, q2, q3, q4, q5, q6⟩
    obtain ⟨th, hth, -⟩ := State.frames_cons hr
    show ({ U with heap := z.heap, slotsUsed := z.slotsUsed } : State) = { U.setFrames U.frames with heap := z.heap, slotsUsed := z.slotsUsed }
    rw [State.setFrames_self hth]
  have hrB : (({ U with heap := z.heap, slotsUsed := z.slotsUsed } : State).setVm z.vm).frames = .java g0 :: r := hr
  subst hg
  refine ⟨o, z, (({ U with heap := z.heap, slotsUsed := z.slotsUsed } : State).setVm z.vm), L, ⟨X.admits, X.cas, X.clock, X.frames, X.room, X.hears, X.method, X.code, (X.here.setHeapUsed z.heap z.slotsUsed).setVm hWU.alike, X.tail, State.WarmedH.trans X.warmed hWU, X.limits, X.bytes, X.same.trans (hsame.setVm s.vm)⟩, rfl, rfl, hq, hL, ?_, ?_⟩
  · rintro v rfl
    obtain ⟨c2, i2, len2, hc2, hd2, hf2⟩ := hend
    have hcc : c2 = c := by
      have h1 : z.code? g.method = U.code? g.method := by rw [State.code?_eq, State.code?_eq, hWU.alike.method?]
      exact Option.some.inj (hc2.symm.trans (h1.trans hAt.code))
    subst hcc
    have hlen : len2 = len := by rw [hdg] at hd2; cases hd2; rfl
    subst hlen
    have hz2 : z = (({ U with heap := z.heap, slotsUsed := z.slotsUsed } : State).setVm z.vm).setTop { g with pc := g.pc + len2, stack := v.toList ++ g.stack } := by
      rw [State.setTop_of_frames _ hrB]
      refine hz.trans ?_
      rw [hf2, hr]
      rfl
    rw [← hz2]
    exact hsteps
  · rintro x rfl
    have hf2 : z.frames = .throwing x :: .java g :: U.frames.tail := hend
    have hz2 : z = ((({ U with heap := z.heap, slotsUsed := z.slotsUsed } : State).setVm z.vm).setTop g).pushFrame (.throwing x) := by
      rw [State.pushFrame, State.frames_setTop _ hrB, State.setTop_of_frames _ hrB, State.setFrames_setFrames]
      refine hz.trans ?_
      rw [hf2, hr]
      rfl
    rw [← hz2]
    exact hsteps
theorem x_runSH (S : CallFix p m c cc nL s args Ts own) (hM : xMet l y ws rm Pc Qc mc ms free) (hrm : rm.cells = mc ∧ rm.slots = ms ∧ rm.frames + 1 ≤ R.frames ∧ 8 + (maxL + 11) + rm.locals ≤ R.locals)
    (hws : ∀ w ∈ ws, ∀ (a' : Array Value) (V : State), s.WarmedH V.vm → w.before a' V = true) (hcode : Cond.codeWith y bytes maxL ret hs ∈ ws) (hini : (Cond.initialized y.cls).before args s = true) (hstat : (Cond.static y).before args s = true) (hlink : (Cond.methodLink own index y).before args s = true)
    (hy : y.cls ≠ "java/lang/invoke/MethodHandle" ∧ y.cls ≠ "java/lang/invoke/VarHandle" ∧ (parseMethodDescriptor y.desc).map (fun d => d.parameters.length) = some n) (hp : PreS s H Pc As)
    (hg : g.method = m) (hn : As.length = n) (hsize : g.locals.size = nL) (hstack : g.stack = As.reverse ++ rest) (hW : 2 * g.monitorRoom + (rest.map fun v => v.category).sum ≤ 8) (hdg : decode cc g.pc = .ok (.invokestatic index, 3)) (hf : cells + mc ≤ R.cells ∧ slots + ms ≤ R.slots) :
    xRun p l e R s m args below meth c H locs cells slots mc ms g rest (Qc As.toArray) free := by
  obtain ⟨hx, hb, hml, ho, -⟩ := S
  obtain ⟨hbl, hPc⟩ := hp
  intro T hT X
  obtain ⟨mk, methM, cM, hnamed, hmethM, -, -, -, -, -, -, hsigM⟩ := Cond.codeWith_spec (hws _ hcode args s (State.WarmedH.refl s))
  have hstatic : methM.isStatic = true := Cond.static_spec hnamed hmethM hstat
  obtain ⟨kP, hkP, -⟩ := className_of_methodNamed hnamed
  have hinitP : kP.init = .initialized := Cond.initialized_spec (findClass_of_methodNamed hnamed) hkP hini
  have hlen : As.length = methM.sig.parameters.length := by
    have h2 := hy.2.2
    rw [hsigM] at h2
    exact hn.trans (Option.some.inj h2).symm
  obtain ⟨vm1, X1, hstep1⟩ := X.invokestatic hx ho hlink hnamed hmethM hstatic hkP hinitP ⟨hy.1, hy.2.1⟩ (g := g) hg (argsL := As) (rest := rest) hlen hstack (by rw [hb]; exact hdg)
  have hini' : ∀ (a' : Array Value) (V : State), s.WarmedH V.vm → (Cond.initialized y.cls).before a' V = true := fun a' V hV => word_at hV (Or.inl rfl) hini
  obtain ⟨o, t, B, L, XB, e1, e2, hq, hL, s1, s2⟩ := x_backH (bytes := bytes) (maxL := maxL) (ret := ret) (hs := hs) hM hbl hrm hws hcode hini' X1 (g := { g with stack := rest }) hg (by rw [hml]; exact hsize) (ig := .invokestatic index) (len := 3) (by rw [hb]; exact hdg) hW (X1.named hnamed) (a := As.toArray) hf (hPc _ hT X1.warmed)
  refine ⟨o, (T.setVm vm1).calling { g with stack := rest } mk As.toArray, t, B, L, hT, XB, hL, e1, e2, hq, fun v hv tg h => hstep1 _ fun acts => ?_, fun x hv tg h => hstep1 _ fun acts => ?_⟩
  · rw [doInvoke_state]; exact (s1 v hv).trans h
  · rw [doInvoke_state]; exact (s2 x hv).trans h
end XH
