/-! Methods that may throw. xEnd: what an end, by return or by a throw, has changed; xMet: a contract whose outcome may be either. -/
def xEnd (s t : State) (mc ms : Nat) (free : Addr → Prop) : Prop := ∃ L, s.WarmedH t.vm ∧ s.sameButNew ({ t with vm := s.vm } : State) L mc ms ∧ ∀ q ∈ L, free q.base
def xMet (l : Launch) (y : MethodName) (ws : List Cond) (rm : Room) (Pc : Array Value → State → Prop) (Qc : Array Value → State → Outcome → State → Prop) (mc ms : Nat) (free : Addr → Prop) : Prop :=
  MetFree l y (headSpec ws rm) Pc (fun _ _ _ _ _ => True) (fun a st o t => Qc a st o t ∧ xEnd st t mc ms free)
def xMQ (below : List Frame) (Qc : Array Value → State → Outcome → State → Prop) (a : Array Value) (s : State) (mc ms : Nat) (free : Addr → Prop) : State → Prop := fun t => ∃ o, t.status = .running ∧ Ended t below o ∧ Qc a s o t ∧ xEnd s t mc ms free
section XT
variable {p : Program} {l : Launch} {e : Env} {R : Room} {s : State} {m : MethodId} {args : Array Value} {below : List Frame} {meth : Method} {c : Code} {T : State} {H : Heap} {locs : List Loc} {cells slots : Nat} {Q : State → Prop}
theorem xW_mono {Q' : State → Prop} {g : JFrame} (h : W p l e R s m args below meth c H locs cells slots Q g) (k : ∀ t, Q t → Q' t) : W p l e R s m args below meth c H locs cells slots Q' g := fun T hT X => by
  obtain ⟨t, a, b⟩ := h T hT X
  exact ⟨t, a, k t b⟩
theorem xMQ_of {Qc : Array Value → State → Outcome → State → Prop} {a : Array Value} {mc ms : Nat} {free : Addr → Prop} (t : State) (h : MQ below Qc a s mc ms free t) : xMQ below Qc a s mc ms free t := by
  obtain ⟨o, h1, h2, h3, L, h4, h5⟩ := h
  exact ⟨o, h1, h2, h3, L, h4.2.1, h4.2.2, h5⟩
theorem xMet_ofW {y : MethodName} {ws ws' : List Cond} {rm : Room} {Pc : Array Value → State → Prop} {Qc : Array Value → State → Outcome → State → Prop} {mc ms : Nat} {free : Addr → Prop} {cc : ByteArray} {maxL : Nat} {ret : Option FieldType}
    (hy : plainName y.cls = true) (hw : ws = Cond.code y cc maxL ret :: ws')
    (body : ∀ p e s m args below meth c s₁, BodyLoose p l y (headSpec ws rm) cc maxL ret e s m args below meth c s₁ → c.maxLocals = maxL → Pc args s →
      W p l e (headSpec ws rm).room s m args below meth c s.heap [] 0 0 (xMQ below Qc args s mc ms free) (entryFrame m args maxL)) : xMet l y ws rm Pc Qc mc ms free := by
  refine MetFree.of_bodyS (code := cc) (maxLocals := maxL) (ret := ret) hy (fun args s m h hn => ?_) (fun p e s m args below meth c s₁ B hml hP _ => ?_)
  · have hc := atoms_spec (ws := ws) h _ (by rw [hw]; exact List.mem_cons_self)
    obtain ⟨meth, c, h1, h2, h3, h4, h5, h6, -, -⟩ := Cond.code_spec hn hc
    exact ⟨meth, c, h1, h2, h3, h4, h5, h6⟩
  · obtain ⟨t, a1, o, b1, b2, b3⟩ := body p e s m args below meth c s₁ B hml hP s₁ (by rw [B.state]; rfl) (Stand.of_body B)
    exact ⟨t, o, a1, b1, b2, b3.1, b3.2⟩
/-- the walk's start taken anew at the present heap: nothing is changed since -/
def xBase (s T : State) : State := { s with heap := T.heap, slotsUsed := T.slotsUsed, vm := T.vm }
theorem x_base (X : Stand p l e R s m args below meth c T locs cells slots) {k n : Nat} (hk : cells + k ≤ R.cells) (hn : slots + n ≤ R.slots) :
    Stand p l e { R with cells := k, slots := n } (xBase s T) m args below meth c T [] 0 0 := by
  have hal := X.warmed.alike
  have hme : (xBase s T).me = s.me := rfl
  have hT : T = { (xBase s T).setFrames T.frames with heap := T.heap, slotsUsed := T.slotsUsed } := by
    have h1 := X.same.1
    have h2 : (T.setVm s.vm).setVm T.vm = T := rfl
    have h3 := congrArg (fun z : State => z.setVm T.vm) h1
    exact h2.symm.trans (h3.trans rfl)
  refine ⟨X.admits, X.cas, X.clock, X.frames, ?_, ?_, X.method', X.code, X.here, X.tail, State.WarmedH.refl _, X.limits, X.bytes, ?_⟩
  · have h := X.room
    have hb := X.book
    have h1 := X.heapSize
    have h2 := X.used
    have hl : (xBase s T).localsInUse = s.localsInUse := by
      simp only [State.localsInUse, show (xBase s T).frames = s.frames from rfl, show (xBase s T).vm = T.vm from rfl, hal.method?]
    simp only [State.hasRoom, Bool.and_eq_true, decide_eq_true_eq] at h ⊢
    obtain ⟨⟨⟨⟨q1, q2⟩, q3⟩, q4⟩, q5⟩ := h
    refine ⟨⟨⟨⟨?_, ?_⟩, ?_⟩, ?_⟩, ?_⟩
    · rw [hl]; exact q1
    · rw [hl]; exact q2
    · show T.heap.size + k ≤ _; omega
    · show T.slotsUsed + n ≤ _; omega
    · exact hb
  · have h := X.hears
    have hc : ∀ z, (xBase s T).code? z = s.code? z := fun z => by
      rw [State.code?_eq, State.code?_eq, show (xBase s T).vm = T.vm from rfl, hal.method?]
    have hv : (xBase s T).vm.method? m = s.vm.method? m := by rw [show (xBase s T).vm = T.vm from rfl, hal.method?]
    cases below with
    | nil => simp only [State.hears] at h ⊢; rw [hv]; exact h
    | cons fr r =>
      cases fr with
      | java g => simp only [State.hears] at h ⊢; rw [hc]; exact h
      | _ => simp only [State.hears] at h ⊢ <;> first | exact h | rfl | (rw [hv]; exact h)
  · refine ⟨hT, Nat.le_refl _, by show T.heap.size ≤ T.heap.size + 0; omega, ?_, ?_, ?_⟩
    · show T.slotsUsed = T.slotsUsed + ((T.heap.toList.drop T.heap.size).map (·.slots.size)).sum
      rw [List.drop_of_length_le (by simp)]
      simp
    · show ((T.heap.toList.drop T.heap.size).map (·.slots.size)).sum ≤ 0
      rw [List.drop_of_length_le (by simp)]
      simp
    · intro a c h
      exact ⟨c, h, rfl, rfl, fun _ _ => rfl⟩
end XT
