/-! An exception on its way: out of a method, or into one of its handlers. -/
section XS
variable {e : Env} {f : JFrame} {a : Addr} {Q : Handler → Pre} {E : CtlPost} {d : Bool} {acts : List Action} {S : State}
/-- one row of the table, its class linked or not yet -/
theorem x_row {x : ExceptionTableEntry} {t : List ExceptionTableEntry} {c : ClassId} {ce : Cell} (hx : covers x f.pc = true) (h0 : x.catchType ≠ 0) (hl : S.vm.ClassLinks e.platform f.method.cls x.catchType c)
    (hc : S.heap[a]? = some ce) (ho : ∀ k, ce.vm ≠ .statics k) (hk : ∃ k, S.vm.classes[ce.cls]? = some k) (hk2 : ∃ k, S.vm.classes[c]? = some k) :
    wp (findHandler.go f a (x :: t)) Q E e d acts S ↔ (if S.vm.assignable ce.cls c = true then Q (.found x.handlerPc) d acts (S.setVm (S.vm.noted f.method.cls x.catchType (.cls c))) else wp (findHandler.go f a t) Q E e d acts (S.setVm (S.vm.noted f.method.cls x.catchType (.cls c)))) := by
  have hal : S.vm.Alike (S.vm.noted f.method.cls x.catchType (.cls c)) := (Vm.Alike.refl S.vm).noted _ _ _
  obtain ⟨r1, r2⟩ := (resolveClass_links e.toSetting hl).op (op := VmOp.resolveClass f.method.cls x.catchType) rfl
  obtain ⟨k1, hk1⟩ := hk
  obtain ⟨k2, hk2⟩ := hk2
  obtain ⟨k1', hk1', -⟩ := hal.2.2 _ _ hk1
  obtain ⟨k2', hk2', -⟩ := hal.2.2 _ _ hk2
  have has : (S.vm.noted f.method.cls x.catchType (.cls c)).assignable ce.cls c = S.vm.assignable ce.cls c := by rw [hal.assignable]
  simp only [covers] at hx
  by_cases hf : S.vm.assignable ce.cls c = true
  · rw [if_pos hf]
    rw [hf] at has
    simp [findHandler.go, hx, h0, r1, r2, hc, ho, hk1', hk2', has, VmOp.dirties, VmOp.acts]
  · rw [if_neg hf]
    rw [Bool.not_eq_true] at hf
    rw [hf] at has
    simp [findHandler.go, hx, h0, r1, r2, hc, ho, hk1', hk2', has, VmOp.dirties, VmOp.acts]
/-- a row that this object passes by: it covers the place, and names a class that the object's is not assignable to -/
def xPass (s0 : State) (pl : Platform) (d : ClassId) (pc : Nat) (tc : ClassId) (y : ExceptionTableEntry) : Prop := covers y pc = true ∧ y.catchType ≠ 0 ∧ ∃ c, s0.vm.ClassLinks pl d y.catchType c ∧ s0.vm.assignable tc c = false
theorem x_go {s0 : State} {ce : Cell} (ho : ∀ k, ce.vm ≠ .statics k) (hk : ∃ k, s0.vm.classes[ce.cls]? = some k) (x : ExceptionTableEntry) (suf : List ExceptionTableEntry) (hx : covers x f.pc = true) (hx0 : x.catchType ≠ 0) {cx : ClassId}
    (hlx : s0.vm.ClassLinks e.platform f.method.cls x.catchType cx) (hfx : s0.vm.assignable ce.cls cx = true) :
    ∀ (pre : List ExceptionTableEntry) (S : State), s0.WarmedH S.vm → S.heap[a]? = some ce → (∀ y ∈ pre, xPass s0 e.platform f.method.cls f.pc ce.cls y) →
      ∃ vm', s0.WarmedH vm' ∧ ∀ (Q : Handler → Pre) (E : CtlPost) (d : Bool) (acts : List Action), wp (findHandler.go f a (pre ++ x :: suf)) Q E e d acts S ↔ Q (.found x.handlerPc) d acts (S.setVm vm') := by
  obtain ⟨k0, hk0⟩ := hk
  have step : ∀ (y : ExceptionTableEntry) (cy : ClassId) (S : State), s0.WarmedH S.vm → s0.vm.ClassLinks e.platform f.method.cls y.catchType cy →
      s0.WarmedH (S.vm.noted f.method.cls y.catchType (.cls cy)) ∧ S.vm.ClassLinks e.platform f.method.cls y.catchType cy ∧ (∃ k, S.vm.classes[ce.cls]? = some k) ∧ (∃ k, S.vm.classes[cy]? = some k) ∧ S.vm.assignable ce.cls cy = s0.vm.assignable ce.cls cy := by
    intro y cy S hW hl
    obtain ⟨k1, hk1, -⟩ := hW.alike.2.2 _ _ hk0
    obtain ⟨dk, _, _, kt, hd, _, _, _, _, hkt, _, hopen⟩ := hl.here
    obtain ⟨k2, hk2, -⟩ := hW.alike.2.2 _ _ hkt
    exact ⟨hW.noted hd hopen (State.rightAt_cls hl), hW.classLinks hl, ⟨k1, hk1⟩, ⟨k2, hk2⟩, by rw [hW.alike.assignable]⟩
  intro pre
  induction pre with
  | nil =>
    intro S hW hc _
    obtain ⟨h1, h2, h3, h4, h5⟩ := step x cx S hW hlx
    exact ⟨_, h1, fun Q E d acts => by rw [List.nil_append, x_row hx hx0 h2 hc ho h3 h4, if_pos (h5.trans hfx)]⟩
  | cons y ys ih =>
    intro S hW hc hp
    obtain ⟨y1, y2, cy, y3, y4⟩ := hp y List.mem_cons_self
    obtain ⟨h1, h2, h3, h4, h5⟩ := step y cy S hW y3
    obtain ⟨vm', g1, g2⟩ := ih (S.setVm (S.vm.noted f.method.cls y.catchType (.cls cy))) h1 hc (fun z hz => hp z (List.mem_cons_of_mem _ hz))
    exact ⟨vm', g1, fun Q E d acts => by
      rw [List.cons_append, x_row y1 y2 h2 hc ho h3 h4, if_neg (by rw [h5, y4]; decide)]
      exact g2 Q E d acts⟩
end XS
section XU
variable {p : Program} {l : Launch} {e : Env} {R : Room} {s : State} {m : MethodId} {args : Array Value} {below : List Frame} {meth : Method} {c : Code} {T : State} {H : Heap} {locs : List Loc} {cells slots : Nat} {Q : State → Prop}
/-- as W, with the exception q on its way out of the frame g -/
def xThrown (p : Program) (l : Launch) (e : Env) (R : Room) (s : State) (m : MethodId) (args : Array Value) (below : List Frame) (meth : Method) (c : Code) (H : Heap) (locs : List Loc) (cells slots : Nat) (Q : State → Prop) (g : JFrame) (q : Addr) : Prop :=
  ∀ T : State, T.heap = H → Stand p l e R s m args below meth c T locs cells slots → ∃ t, Steps p.tables e below ((T.setTop g).pushFrame (.throwing q)) t ∧ Q t
theorem x_leave {Qc : Array Value → State → Outcome → State → Prop} {free : Addr → Prop} {g : JFrame} {q : Addr} (hg : g.method = m) (h1 : g.locked = none) (h2 : g.entered = []) (hout : ∀ x ∈ c.exceptionTable.toList, covers x g.pc = false) (hlocks : meth.locks = false)
    (hq : ∀ t : State, t.heap = H → s.WarmedH t.vm → Qc args s (.threw q) t) (hf : ∀ q ∈ locs, free q.base) : xThrown p l e R s m args below meth c H locs cells slots (xMQ below Qc args s cells slots free) g q := by
  intro T hT X
  obtain ⟨hwalk, hrun, hended, hW, hsame⟩ := X.leaveThrown q hg h1 h2 hout hlocks
  exact ⟨_, hwalk, .threw q, hrun, hended, hq _ hT hW, locs, hW, hsame, hf⟩
theorem x_caught {g : JFrame} {q : Addr} (hg : g.method = m) {ce : Cell} (hc : H[q]? = some ce) (hv : ce.vm = .none) (hk : ∃ k, s.vm.classes[ce.cls]? = some k) (pre : List ExceptionTableEntry) (x : ExceptionTableEntry) (suf : List ExceptionTableEntry) (ht : c.exceptionTable.toList = pre ++ x :: suf)
    (hp : ∀ y ∈ pre, xPass s e.platform m.cls g.pc ce.cls y) (hx : covers x g.pc = true) (hx0 : x.catchType ≠ 0) {cx : ClassId} (hlx : s.vm.ClassLinks e.platform m.cls x.catchType cx) (hfx : s.vm.assignable ce.cls cx = true)
    (k : W p l e R s m args below meth c H locs cells slots Q { g with pc := x.handlerPc, stack := [.ref q] }) : xThrown p l e R s m args below meth c H locs cells slots Q g q := by
  intro T hT X
  subst hg
  obtain ⟨vm', hW', hgo⟩ := x_go (e := e) (f := g) (a := q) (s0 := s) (ce := ce) (fun k h => by rw [hv] at h; cases h) hk x suf hx hx0 hlx hfx pre ((T.setTop g).pushFrame (.throwing q)) X.warmed (by show T.heap[q]? = _; rw [hT]; exact hc) hp
  obtain ⟨t, a1, b1⟩ := k (T.setVm vm') hT (X.noted hW')
  refine ⟨t, ?_, b1⟩
  obtain ⟨hgo1, hw1⟩ := X.here.throwing q
  refine Steps.head hgo1 hw1 ?_
  rw [stepThread_throwing (frames_entered X.here.top _)]
  have hf : ∀ (Q : Handler → Pre) (E : CtlPost) (d : Bool) (acts : List Action), wp (findHandler g q) Q E e d acts ((T.setTop g).pushFrame (.throwing q)) ↔ Q (.found x.handlerPc) d acts (((T.setTop g).pushFrame (.throwing q)).setVm vm') := fun Q E d acts => by
    rw [Jvm.W.findHandler_eq (s := (T.setTop g).pushFrame (.throwing q)) (meth := meth) (code := c) X.method' X.code, ht]
    exact hgo Q E d acts
  have hstep : (stepThrowing e ((T.setTop g).pushFrame (.throwing q)) q (.java g :: T.frames.tail)).Is (((((T.setTop g).pushFrame (.throwing q))).setVm vm').setFrames (.java { g with pc := x.handlerPc, stack := [.ref q] } :: T.frames.tail)) [] := by
    simp only [stepThrowing, searchFrame, vmDo]
    generalize hr : Sem.go _ e false [] _ = res
    obtain ⟨as, rfl, ha⟩ := Sem.eq_ok_of hr (a := Handler.found x.handlerPc) (s' := ((T.setTop g).pushFrame (.throwing q)).setVm vm') (acts' := []) (by
      simp [hf])
    exact ⟨rfl, ha⟩
  rw [hstep.1]
  obtain ⟨g0, hg0⟩ := Option.isSome_iff_exists.mp X.here.top
  obtain ⟨r, hr⟩ := State.topJava?_eq_some.mp hg0
  have hr' : (T.setVm vm').frames = .java g0 :: r := hr
  rw [State.setTop_of_frames _ hr'] at a1
  have e1 : ((((T.setTop g).pushFrame (.throwing q))).setVm vm').setFrames (.java { g with pc := x.handlerPc, stack := [.ref q] } :: T.frames.tail) = (T.setVm vm').setFrames (.java { g with pc := x.handlerPc, stack := [.ref q] } :: r) := by
    rw [State.pushFrame, State.setTop_of_frames _ hr, State.setFrames_setFrames, hr]
    show (((T.setVm vm').setFrames _).setFrames _) = _
    rw [State.setFrames_setFrames]
    rfl
  rw [e1]
  exact a1
/-- both ends of a call that may throw -/
def xQ {S : Type} (post : Option Value → S → Prop) (px : String → S → Prop) (B : S → State → Prop) (A : Nat → Prop) : Array Value → State → Outcome → State → Prop := fun _ st oc t =>
  ((∃ (v : Option Value) (u : S), oc = .returned v ∧ post v u ∧ B u t) ∨ (∃ (E : String) (u : S) (q : Nat) (ce : Cell), oc = .threw q ∧ px E u ∧ B u t ∧ t.heap[q]? = some ce ∧ ce.vm = .none ∧ t.vm.findClass E = some ce.cls)) ∧ va_F A st t
theorem x_call {S : Type} {post : Option Value → S → Prop} {px : String → S → Prop} {B : S → State → Prop} {A0 A1 : Nat → Prop} {H0 : Heap} {a : Array Value} {mc ms : Nat} {g : JFrame} {rest : List Value} {free : Addr → Prop}
    (hr : xRun p l e R s m args below meth c H locs cells slots mc ms g rest (xQ post px B A1 a) free) (hS : va_S A0 H0 H locs) (hA : ∀ q, q < H.size → A1 q → A0 q) (hf : ∀ q, free q → A0 q)
    (kk : ∀ (v : Option Value) (u : S) (t : State) (H1 : Heap) (locs1 : List Loc), t.heap = H1 → s.WarmedH t.vm → post v u → B u t → H.size ≤ H1.size → (∀ q : Nat, q < H.size → ¬ A1 q → H1[q]? = H[q]?) → va_S A0 H0 H1 locs1 → W p l e R s m args below meth c H1 locs1 (cells + mc) (slots + ms) Q { g with pc := g.pc + 3, stack := v.toList ++ rest })
    (kx : ∀ (E : String) (u : S) (q : Nat) (ce : Cell) (t : State) (H1 : Heap) (locs1 : List Loc), t.heap = H1 → s.WarmedH t.vm → px E u → B u t → H.size ≤ H1.size → (∀ q : Nat, q < H.size → ¬ A1 q → H1[q]? = H[q]?) → va_S A0 H0 H1 locs1 → H1[q]? = some ce → ce.vm = .none → s.vm.findClass E = some ce.cls → xThrown p l e R s m args below meth c H1 locs1 (cells + mc) (slots + ms) Q { g with stack := rest } q) :
    W p l e R s m args below meth c H locs cells slots Q g := by
  intro T hT X
  obtain ⟨o, st, t, B', L, h0, XB, hL, e1, e2, ⟨hq, hz, hk⟩, s1, s2⟩ := hr T hT X
  rw [h0] at hz hk
  have hS1 : va_S A0 H0 B'.heap (locs ++ L) := by
    refine ⟨Nat.le_trans hS.1 (by rw [e1]; exact hz), fun q h1 h2 => ?_, fun q hq => ?_⟩
    · rw [e1, hk q (Nat.lt_of_lt_of_le h1 hS.1) (fun h => h2 (hA q (Nat.lt_of_lt_of_le h1 hS.1) h))]
      exact hS.2.1 q h1 h2
    · rcases List.mem_append.mp hq with h | h
      · exact hS.2.2 q h
      · exact hf _ (hL q h)
  have hWt : s.WarmedH t.vm := by rw [← e2]; exact XB.warmed
  rcases hq with ⟨v, u, rfl, hp, hb⟩ | ⟨E, u, q, ce, rfl, hp, hb, hc, hv, hE⟩
  · obtain ⟨t2, a1, b1⟩ := kk v u t B'.heap (locs ++ L) e1.symm hWt hp hb (by rw [e1]; exact hz) (fun q h1 h2 => by rw [e1]; exact hk q h1 h2) hS1 B' rfl XB
    exact ⟨t2, s1 v rfl t2 a1, b1⟩
  · obtain ⟨t2, a1, b1⟩ := kx E u q ce t B'.heap (locs ++ L) e1.symm hWt hp hb (by rw [e1]; exact hz) (fun q h1 h2 => by rw [e1]; exact hk q h1 h2) hS1 (by rw [e1]; exact hc) hv (by rw [← hWt.alike.findClass]; exact hE) B' rfl XB
    exact ⟨t2, s2 q rfl t2 a1, b1⟩
end XU
