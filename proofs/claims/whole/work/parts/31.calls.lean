/-! A call of a method that may throw: its two ends. -/
section XB
variable {p : Program} {l : Launch} {e : Env} {R : Room} {s : State} {m : MethodId} {args : Array Value} {below : List Frame} {meth : Method} {c : Code} {U : State} {H : Heap} {locs : List Loc} {cells slots : Nat} {Q : State → Prop}
variable {y : MethodName} {ws : List Cond} {rm : Room} {Pc : Array Value → State → Prop} {Qc : Array Value → State → Outcome → State → Prop} {mc ms : Nat} {free : Addr → Prop} {bytes : ByteArray} {maxL : Nat} {ret : Option FieldType}
theorem x_back (hM : xMet l y ws rm Pc Qc mc ms free) (hbl : FrameBlind Pc) (hrm : rm.cells = mc ∧ rm.slots = ms ∧ rm.frames + 1 ≤ R.frames ∧ 8 + (maxL + 11) + rm.locals ≤ R.locals)
    (hws : ∀ w ∈ ws, ∀ (a' : Array Value) (V : State), s.WarmedH V.vm → w.before a' V = true) (hcode : Cond.code y bytes maxL ret ∈ ws) (hini : ∀ (a' : Array Value) (V : State), s.WarmedH V.vm → (Cond.initialized y.cls).before a' V = true)
    (X : Stand p l e R s m args below meth c U locs cells slots) {g : JFrame} (hg : g.method = m) (hsize : g.locals.size = c.maxLocals) {ig : Instr} {len : Nat} (hdg : decode c.code g.pc = .ok (ig, len))
    (hW : 2 * g.monitorRoom + (g.stack.map fun v => v.category).sum ≤ 8) {mk : MethodId} (hn : U.methodNamed? y = some mk) {a : Array Value} (hf : cells + mc ≤ R.cells ∧ slots + ms ≤ R.slots) (hp : Pc a U) :
    ∃ (o : Outcome) (t B : State) (L : List Loc), Stand p l e R s m args below meth c B (locs ++ L) (cells + mc) (slots + ms) ∧ B.heap = t.heap ∧ B.vm = t.vm ∧ Qc a (U.calling g mk a) o t ∧ (∀ q ∈ L, free q.base) ∧
      (∀ v, o = .returned v → Steps p.tables e below (doInvoke e (U.setTop g) [] mk a).1 (B.setTop { g with pc := g.pc + len, stack := v.toList ++ g.stack })) ∧
      (∀ x, o = .threw x → Steps p.tables e below (doInvoke e (U.setTop g) [] mk a).1 ((B.setTop g).pushFrame (.throwing x))) := by
  obtain ⟨r1, r2, r3, r4⟩ := hrm
  have hcd := hws _ hcode a U X.warmed
  obtain ⟨methY, cY, hmY, hcY, -, hlY, -, -, -, -⟩ := Cond.code_spec hn hcd
  obtain ⟨kY, hkY, -⟩ := className_of_methodNamed hn
  have hiY : kY.init = .initialized := Cond.initialized_spec (findClass_of_methodNamed hn) hkY (hini a U X.warmed)
  have hAt : At U g.method c below := by rw [hg]; exact X.here
  have happ : (headSpec ws rm).appliesLoose y e.platform (U.calling g mk a) = true :=
    Spec.appliesLoose_calling (g := g) hAt hdg hn hkY hiY
      (X.room_calling (g := g) (R' := (headSpec ws rm).room) hsize hmY hcY r3 (by show _ + (headSpec ws rm).room.locals ≤ _; rw [hlY]; show _ + rm.locals ≤ _; omega) (by show cells + rm.cells ≤ _; omega) (by show slots + rm.slots ≤ _; omega)) (atoms_intro fun w hw => hws w hw _ _ X.warmed)
  obtain ⟨mid, hmid⟩ := hAt.above
  have hfr : (U.setTop g).frames = (.java g :: mid) ++ below := by rw [State.frames_setTop' g hAt.top, hmid]; rfl
  obtain ⟨o, z, hsteps, -, hend, hq, L, hWz, hsame0, hL⟩ := Steps.callFree hM p X.admits X.cas X.clock (acts := []) hfr happ (hbl a U g mk hp) trivial
  rw [State.frames_setTop' g hAt.top] at hend
  obtain ⟨e2, q2, q3, q4, q5, q6⟩ := id hsame0
  have hWU : U.WarmedH z.vm := hWz
  obtain ⟨g0, hg0⟩ := Option.isSome_iff_exists.mp hAt.top
  obtain ⟨r, hr⟩ := State.topJava?_eq_some.mp hg0
  have hz : z = (({ U with heap := z.heap, slotsUsed := z.slotsUsed } : State).setVm z.vm).setFrames z.frames := by
    have h1 : z = ({ z with vm := (U.calling g mk a).vm } : State).setVm z.vm := rfl
    have e2' : ({ z with vm := (U.calling g mk a).vm } : State) = { (U.calling g mk a).setFrames z.frames with heap := z.heap, slotsUsed := z.slotsUsed } := e2
    rw [e2', State.calling_eq hAt.top] at h1
    refine h1.trans ?_
    show ({ (U.setFrames _).setFrames z.frames with heap := z.heap, slotsUsed := z.slotsUsed } : State).setVm z.vm = _
    rw [State.setFrames_setFrames]
    rfl
  have hsame : U.sameButNew ({ U with heap := z.heap, slotsUsed := z.slotsUsed } : State) L mc ms := by
    refine ⟨?_, q2, q3, q4, q5, q6⟩
    obtain ⟨th, hth, -⟩ := State.frames_cons hr
    show ({ U with heap := z.heap, slotsUsed := z.slotsUsed } : State) = { U.setFrames U.frames with heap := z.heap, slotsUsed := z.slotsUsed }
    rw [State.setFrames_self hth]
  have hrB : (({ U with heap := z.heap, slotsUsed := z.slotsUsed } : State).setVm z.vm).frames = .java g0 :: r := hr
  subst hg
  refine ⟨o, z, (({ U with heap := z.heap, slotsUsed := z.slotsUsed } : State).setVm z.vm), L, ⟨X.admits, X.cas, X.clock, X.frames, X.room, X.hears, X.method, X.code, (X.here.setHeapUsed z.heap z.slotsUsed).setVm hWU.alike, X.tail, State.WarmedH.trans X.warmed hWU, X.limits, X.bytes, X.same.trans (hsame.setVm s.vm)⟩, rfl, rfl, hq, hL, ?_, ?_⟩
  · rintro v rfl
    obtain ⟨c2, i2, len2, hc2, hd2, hf2⟩ := hend
    have hcc : c2 = c := by
      have h1 : z.code? g.method = U.code? g.method := by rw [State.code?_eq, State.code?_eq, hWU.alike.method?]
      exact Option.some.inj (hc2.symm.trans (h1.trans hAt.code))
    subst hcc
    have hlen : len2 = len := by rw [hdg] at hd2; cases hd2; rfl
    subst hlen
    have hz2 : z = (({ U with heap := z.heap, slotsUsed := z.slotsUsed } : State).setVm z.vm).setTop { g with pc := g.pc + len2, stack := v.toList ++ g.stack } := by
      rw [State.setTop_of_frames _ hrB]
      refine hz.trans ?_
      rw [hf2, hr]
      rfl
    rw [← hz2]
    exact hsteps
  · rintro x rfl
    have hf2 : z.frames = .throwing x :: .java g :: U.frames.tail := hend
    have hz2 : z = ((({ U with heap := z.heap, slotsUsed := z.slotsUsed } : State).setVm z.vm).setTop g).pushFrame (.throwing x) := by
      rw [State.pushFrame, State.frames_setTop _ hrB, State.setTop_of_frames _ hrB, State.setFrames_setFrames]
      refine hz.trans ?_
      rw [hf2, hr]
      rfl
    rw [← hz2]
    exact hsteps
end XB
section XV
variable {p : Program} {l : Launch} {e : Env} {R : Room} {s : State} {m : MethodId} {args : Array Value} {below : List Frame} {meth : Method} {c : Code} {T : State} {H : Heap} {locs : List Loc} {cells slots : Nat} {Q : State → Prop}
variable {y : MethodName} {ws : List Cond} {rm : Room} {Pc : Array Value → State → Prop} {Qc : Array Value → State → Outcome → State → Prop} {mc ms n nL index : Nat} {free : Addr → Prop} {bytes cc : ByteArray} {maxL : Nat} {ret : Option FieldType} {Ts : List Cond} {own C : String} {b : Addr} {As rest : List Value} {g : JFrame}
/-- what a call of such a method leads to -/
def xRun (p : Program) (l : Launch) (e : Env) (R : Room) (s : State) (m : MethodId) (args : Array Value) (below : List Frame) (meth : Method) (c : Code) (H : Heap) (locs : List Loc) (cells slots mc ms : Nat) (g : JFrame) (rest : List Value) (Qa : State → Outcome → State → Prop) (free : Addr → Prop) : Prop :=
  ∀ T : State, T.heap = H → Stand p l e R s m args below meth c T locs cells slots → ∃ (o : Outcome) (st t B : State) (L : List Loc), st.heap = H ∧ Stand p l e R s m args below meth c B (locs ++ L) (cells + mc) (slots + ms) ∧ (∀ q ∈ L, free q.base) ∧ B.heap = t.heap ∧ B.vm = t.vm ∧ Qa st o t ∧
    (∀ v, o = .returned v → ∀ tg, Steps p.tables e below (B.setTop { g with pc := g.pc + 3, stack := v.toList ++ rest }) tg → Steps p.tables e below (T.setTop g) tg) ∧
    (∀ x, o = .threw x → ∀ tg, Steps p.tables e below ((B.setTop { g with stack := rest }).pushFrame (.throwing x)) tg → Steps p.tables e below (T.setTop g) tg)
theorem x_runV (S : CallFix p m c cc nL s args Ts own) (hM : xMet l y ws rm Pc Qc mc ms free) (cw : CallW R s args own C index y bytes maxL ret ws rm mc ms n) (hp : PreV s H C b Pc As)
    (hg : g.method = m) (hn : As.length = n) (hsize : g.locals.size = nL) (hstack : g.stack = As.reverse ++ .ref b :: rest) (hW : 2 * g.monitorRoom + (rest.map fun v => v.category).sum ≤ 8) (hdg : decode cc g.pc = .ok (.invokevirtual index, 3)) (hf : cells + mc ≤ R.cells ∧ slots + ms ≤ R.slots) :
    xRun p l e R s m args below meth c H locs cells slots mc ms g rest (Qc (Value.ref b :: As).toArray) free := by
  obtain ⟨⟨w1, w2, w3, w4, w5, w6, hcode, hini, hy, hlen, hl⟩, hin, hse⟩ := cw
  obtain ⟨hx, hb, hml, ho, -⟩ := S
  obtain ⟨hbl, ⟨cellB, hcB, hoB, hclB⟩, hPc⟩ := hp
  intro T hT X
  obtain ⟨mk, methM, hnamed, hmethM, hstM, habM⟩ := Cond.instanceMethod_spec hin
  obtain ⟨methM', cM, hmethM', -, -, -, -, -, -, hsigM⟩ := Cond.code_spec hnamed hcode
  cases hmethM.symm.trans hmethM'
  obtain ⟨c2, r2, m2, q1, q2, q3, q4, kP, hkP, hkPi⟩ := Cond.selects_spec hse
  cases hclB.symm.trans q1
  cases (State.methodFound?_of_named hnamed hy).symm.trans q2
  cases hnamed.symm.trans q3
  have hselP : selectMethod e.platform s.vm cellB.cls mk = .method mk := by rw [Launch.admits_selectMethod X.admits]; exact q4
  obtain ⟨vm1, X1, hstep1⟩ := X.invokevirtual hx ho hl hnamed hmethM hstM hkP hkPi hy (a := b) (cell := cellB) (by rw [hT]; exact hcB)
    (fun z h => by rw [h] at hoB; cases hoB) hselP hmethM habM hkP hkPi (g := g) hg (argsL := As) (rest := rest) (hn.trans (hlen _ hsigM)) hstack (by rw [hb]; exact hdg)
  have hini' : ∀ (a' : Array Value) (V : State), s.WarmedH V.vm → (Cond.initialized y.cls).before a' V = true := fun a' V hV => word_at hV (Or.inl rfl) hini
  obtain ⟨o, t, B, L, XB, e1, e2, hq, hL, s1, s2⟩ := x_back (bytes := bytes) (maxL := maxL) (ret := ret) hM hbl ⟨w1, w2, w3, w4⟩ w5 w6 hini' X1 (g := { g with stack := rest }) hg (by rw [hml]; exact hsize) (ig := .invokevirtual index) (len := 3) (by rw [hb]; exact hdg) hW (X1.named hnamed) (a := (Value.ref b :: As).toArray) hf (hPc _ hT X1.warmed)
  refine ⟨o, (T.setVm vm1).calling { g with stack := rest } mk (Value.ref b :: As).toArray, t, B, L, hT, XB, hL, e1, e2, hq, fun v hv tg h => hstep1 _ fun acts => ?_, fun x hv tg h => hstep1 _ fun acts => ?_⟩
  · rw [doInvoke_state]; exact (s1 v hv).trans h
  · rw [doInvoke_state]; exact (s2 x hv).trans h
end XV
