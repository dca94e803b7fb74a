/-! A method that makes an exception and throws it. -/
/-- one static reference of a class: its two words at another state in which the statics' cell is the same -/
theorem xT1 {C n d : String} {s U : State} {a b : Array Value} (hvm : s.vm.Alike U.vm) (hk : ∀ (q : Nat) (cell : Cell), s.heap[q]? = some cell → cell.vm.isStatics = true → U.heap[q]? = some cell)
    (h1 : (Cond.laysStatic C n d).before a s = true) (h2 : (Cond.isRef (.static C n d)).before a s = true) : (Cond.laysStatic C n d).before b U = true ∧ (Cond.isRef (.static C n d)).before b U = true := by
  obtain ⟨c, k, i, f, q, cell, hc, hi, hst, ha, hcell, hs, hcls, hlt, hty⟩ := Cond.laysStatic_spec h1
  obtain ⟨k', hi0, hek⟩ := State.fieldFound?_setVm (s := s) hvm hi
  have hi' : U.fieldFound? C n d = some (c, k', i, f) := by simpa only [State.fieldFound?, State.vm_setVm] using hi0
  have hcU := hk q cell hcell hs
  have ha' : k'.statics = some q := by rw [hek]; exact ha
  have hv : cell.slots[f.slot]? = some cell.slots[f.slot] := Array.getElem?_eq_getElem hlt
  have e1 : (Term.static C n d).eval a s none [] s = some cell.slots[f.slot] := by simp [Term.eval, State.fieldNamed?, hi, hst, ha, hcell, hs, hv]
  have e2 : (Term.static C n d).eval b U none [] U = some cell.slots[f.slot] := by simp [Term.eval, State.fieldNamed?, hi', hst, ha', hcU, hs, hv]
  refine ⟨Cond.laysStatic_of (by rw [hvm.findClass]; exact hc) hi' hst ha' hcU hs hcls hlt (by rw [hek]; exact hty), ?_⟩
  simp only [Cond.before, Cond.holds, Cond.value, e1] at h2
  simp only [Cond.before, Cond.holds, Cond.value, e2]
  exact h2
abbrev xw1 : Cond := .laysStatic Bundle.tN "UNASSIGNED_STACK" Bundle.steD
abbrev xw2 : Cond := .isRef (.static Bundle.tN "UNASSIGNED_STACK" Bundle.steD)
abbrev xw3 : Cond := .laysStatic Bundle.tN "SUPPRESSED_SENTINEL" Bundle.listD
abbrev xw4 : Cond := .isRef (.static Bundle.tN "SUPPRESSED_SENTINEL" Bundle.listD)
/-- words that the tables keep, but that the kit's lists don't take -/
def XF1 : List Cond := [.declares (Bundle.initS "java/lang/RuntimeException"), .declares (Bundle.initS "java/lang/Exception"), .declares (Bundle.initS Bundle.tN), .castable "java/lang/IndexOutOfBoundsException" "java/lang/IndexOutOfBoundsException", .castable "java/lang/IllegalArgumentException" "java/lang/IllegalArgumentException", .castable "java/lang/IllegalStateException" "java/lang/IllegalStateException", .castable "java/util/NoSuchElementException" "java/util/NoSuchElementException"]
def XF2 : List (String × String) := [("java/lang/IndexOutOfBoundsException", "java/lang/IllegalArgumentException"), ("java/lang/IndexOutOfBoundsException", "java/lang/IllegalStateException"), ("java/lang/IndexOutOfBoundsException", "java/util/NoSuchElementException"), ("java/lang/IllegalArgumentException", "java/lang/IndexOutOfBoundsException"), ("java/lang/IllegalArgumentException", "java/lang/IllegalStateException"), ("java/lang/IllegalArgumentException", "java/util/NoSuchElementException"), ("java/lang/IllegalStateException", "java/lang/IndexOutOfBoundsException"), ("java/lang/IllegalStateException", "java/lang/IllegalArgumentException"), ("java/lang/IllegalStateException", "java/util/NoSuchElementException"), ("java/util/NoSuchElementException", "java/lang/IndexOutOfBoundsException"), ("java/util/NoSuchElementException", "java/lang/IllegalArgumentException"), ("java/util/NoSuchElementException", "java/lang/IllegalStateException")]
def xF (U : State) : Prop := (∀ w ∈ XF1, w.before #[] U = true) ∧ ∀ q ∈ XF2, (Cond.not (.castable q.1 q.2)).before #[] U = true
theorem XF1_ok : ∀ w ∈ XF1, w.keepsCast = true ∧ w.onTables = true := by decide +kernel
theorem xNot {a b : String} {A A' : Array Value} {u U : State} (e : u.vm = U.vm) (h : (Cond.not (.castable a b)).before A u = true) : (Cond.not (.castable a b)).before A' U = true := by
  simp only [Cond.before, Cond.holds, Cond.value, e] at h ⊢
  exact h
theorem xF.moved {s U : State} (h : xF s) (hW : s.WarmedH U.vm) : xF U := by
  refine ⟨fun w hw => ?_, fun q hq => ?_⟩
  · exact va_tabs (u := s.setVm U.vm) (XF1_ok w hw).2 rfl (Cond.before_shiftedCast (State.Shifted.of_warmed hW) w (XF1_ok w hw).1 (h.1 w hw))
  · exact xNot (u := s.setVm U.vm) rfl (Cond.before_shiftedCast (State.Shifted.of_warmed hW) _ rfl (h.2 q hq))
/-- what the making of an exception asks beside the tables -/
def xT (U : State) : Prop := ((xw1.before #[] U = true ∧ xw2.before #[] U = true) ∧ (xw3.before #[] U = true ∧ xw4.before #[] U = true)) ∧ xF U
theorem xT.moved {s U : State} (h : xT s) (hW : s.WarmedH U.vm) (hk : ∀ (q : Nat) (cell : Cell), s.heap[q]? = some cell → cell.vm.isStatics = true → U.heap[q]? = some cell) : xT U := ⟨⟨xT1 hW.alike hk h.1.1.1 h.1.1.2, xT1 hW.alike hk h.1.2.1 h.1.2.2⟩, h.2.moved hW⟩
theorem xT.at {U : State} (h : xT U) (a : Array Value) : ∀ w ∈ [xw1, xw2, xw3, xw4] ++ XF1, w.before a U = true := by
  have h1 := xT1 (b := a) (Vm.Alike.refl U.vm) (fun _ _ x _ => x) h.1.1.1 h.1.1.2
  have h2 := xT1 (b := a) (Vm.Alike.refl U.vm) (fun _ _ x _ => x) h.1.2.1 h.1.2.2
  intro w hw
  rcases List.mem_append.mp hw with hw | hw
  · simp only [List.mem_cons, List.not_mem_nil, or_false] at hw
    rcases hw with rfl | rfl | rfl | rfl
    · exact h1.1
    · exact h1.2
    · exact h2.1
    · exact h2.2
  · exact va_tabs (XF1_ok w hw).2 rfl (h.2.1 w hw)
/-- no cell of a world is a statics' cell -/
theorem x_apart {D : va_G} {cl : List vw_C} {ws : va_W} {H : Heap} {q : Nat} {cell : Cell} (hP : va_P D cl ws H) (hc : H[q]? = some cell) (hs : cell.vm.isStatics = true) (k : Nat) (z : va_E) : ws[k]? ≠ some (q, z) := by
  intro h
  have h1 := hP k (q, z) h
  cases z with
  | inl x =>
    have h2 : H[q]? = some (vp_cell x.1 x.2) := h1
    cases Option.some.inj (hc.symm.trans h2)
    obtain ⟨ca, na, x1 | x1 | x1 | x1 | x1⟩ := x <;> simp [vp_cell, arrV, VmData.isStatics] at hs
  | inr o =>
    obtain ⟨r, h2, c2, h3, h4⟩ := h1
    cases Option.some.inj (hc.symm.trans h3)
    have h5 := h4.2.1
    simp_all [VmData.isStatics]
theorem x_keep {D : va_G} {cl : List vw_C} {ws : va_W} {H0 H : Heap} {A : Nat → Prop} {locs : List Loc} (hP : va_P D cl ws H0) (hAe : va_A ws H0.size = A) (hS : va_S A H0 H locs) : ∀ (q : Nat) (cell : Cell), H0[q]? = some cell → cell.vm.isStatics = true → H[q]? = some cell := by
  intro q cell hc hs
  have hl := (Array.getElem?_eq_some_iff.mp hc).1
  rw [hS.2.1 q hl (fun h => ?_)]
  · exact hc
  · rw [← hAe] at h
    rcases h with ⟨k, z, h⟩ | h
    · exact x_apart hP hc hs k z h
    · omega
section XW
variable {p : Program} {l : Launch} {e : Env} {R : Room} {s : State} {m : MethodId} {args : Array Value} {below : List Frame} {meth : Method} {c : Code} {T : State} {H : Heap} {locs : List Loc} {cells slots : Nat} {Q : State → Prop}
theorem x_same (X : Stand p l e R s m args below meth c T locs cells slots) {V : State} {L : List Loc} {k n : Nat} (h : (xBase s T).sameButNew V L k n) : T.sameButNew V L k n := by
  obtain ⟨h1, h2⟩ := h
  refine ⟨?_, h2⟩
  have hT : T = (xBase s T).setFrames T.frames := by
    have h3 := congrArg (fun z : State => z.setVm T.vm) X.same.1
    have h4 : (T.setVm s.vm).setVm T.vm = T := rfl
    exact h4.symm.trans (h3.trans rfl)
  have h5 : T.setFrames V.frames = (xBase s T).setFrames V.frames := by
    conv => lhs; rw [hT]
    rw [State.setFrames_setFrames]
  rw [h5]
  exact h1
theorem x_throw {cc : ByteArray} {pc : Nat} {ls : Array Slot} (hexec : p.tables.exec = Jvm.exec) (hb : c.code = cc) (hfl : l.flags = pinnedFlags ++ [noTraceFlag]) (hlocks : meth.locks = false) (hno : ∀ x ∈ c.exceptionTable.toList, covers x (pc + 9) = false)
    {own cls text : String} {names : List String} {ik is ic : Nat} (hown : s.vm.findClass own = some m.cls) (hcls : Bundle.fit cls = true) (hnames : ∀ n ∈ names, Bundle.fit n = true)
    (hat : ∀ w ∈ Bundle.ownAtoms own ic cls names, (∀ (a' : Array Value) (V : State), s.WarmedH V.vm → w.before a' V = true) ∨ w ∈ [xw1, xw2, xw3, xw4] ++ XF1)
    (hcl : ∀ (a' : Array Value) (V : State), s.WarmedH V.vm → (Cond.classLink own ik cls).before a' V = true) (hins : ∀ (a' : Array Value) (V : State), s.WarmedH V.vm → (Cond.instantiable cls 6).before a' V = true) (hini : ∀ (a' : Array Value) (V : State), s.WarmedH V.vm → (Cond.initialized cls).before a' V = true)
    {sa : Nat} (hstr : vk_R own is text sa s) (hX : xT s) (hk : ∀ (q : Nat) (cell : Cell), s.heap[q]? = some cell → cell.vm.isStatics = true → H[q]? = some cell)
    (hcells : cells + 1 ≤ R.cells) (hslots : slots + 6 ≤ R.slots) (hfr : names.length + 3 < R.frames) (hlo : 1 + (13 * (names.length + 1) + 42) ≤ R.locals) (hsize : ls.size = c.maxLocals)
    (d0 : decode cc pc = .ok (.new ik, 3)) (d3 : decode cc (pc + 3) = .ok (.dup, 1)) (d4 : decode cc (pc + 4) = .ok (.ldc is, 2)) (d6 : decode cc (pc + 6) = .ok (.invokespecial ic, 3)) (d9 : decode cc (pc + 9) = .ok (.athrow, 1))
    {Qc : Array Value → State → Outcome → State → Prop} {free : Addr → Prop} (hq : ∀ (q : Nat) (t : State) (ce : Cell), H.size ≤ q → (∀ z, z < H.size → t.heap[z]? = H[z]?) → H.size ≤ t.heap.size → t.heap[q]? = some ce → ce.vm = .none → t.vm.findClass cls = some ce.cls → s.WarmedH t.vm → Qc args s (.threw q) t)
    (hf : ∀ q ∈ locs, free q.base) : W p l e R s m args below meth c H locs cells slots (xMQ below Qc args s (cells + 1) (slots + 6) free) (F0 m pc ls []) := by
  intro T hT X
  have XB := x_base X hcells hslots
  have hWT : s.WarmedH (xBase s T).vm := X.warmed
  have hownB : (xBase s T).vm.findClass own = some m.cls := by rw [hWT.alike.findClass]; exact hown
  have hXB : xT (xBase s T) := hX.moved hWT (fun q cell h1 h2 => by show T.heap[q]? = _; rw [hT]; exact hk q cell h1 h2)
  have htr : e.platform.stackTraces = false := Launch.traces_off hfl X.admits
  have key : W p l e { R with cells := 1, slots := 6 } (xBase s T) m args below meth c T.heap [] 0 0 (xMQ below Qc args s (cells + 1) (slots + 6) free) (F0 m pc ls []) := by
    refine W.newc (n := 6) hexec hb hownB (hcl _ _ hWT) (hins _ _ hWT) (hini _ _ hWT) (g := F0 m pc ls []) rfl d0 (Nat.le_refl 1) (Nat.le_refl 6) (fun cC kC h1 h2 h3 h4 => ?_)
    refine W.eq (g2 := F0 m (pc + 3) ls [.ref T.heap.size]) rfl ?_
    refine lv_dup hexec hb d3 rfl ?_
    refine va_ldcS hexec hb hownB (vk_R.warm hWT hstr) d4 ?_
    intro T2 hT2 X2
    have hcell : T2.heap[T.heap.size]? = some (freshCell cC kC) := by rw [hT2]; exact Array.getElem?_push_size
    obtain ⟨U, hsteps, hrun, hend, hW, hsame, ce, hce, K⟩ := X2.ctorThrowS hexec htr (own := own) (cls := cls) (names := names) (ic := ic) hownB hcls hnames
      (fun w hw => (hat w hw).elim (fun h => h _ _ hWT) (fun h => hXB.at _ w h)) (fun x hx => by cases hx) h1 h2 hcell (Nat.le_refl _) (msg := .ref sa) rfl
      (g := F0 m (pc + 3 + 1 + 2) ls [.ref sa, .ref T.heap.size, .ref T.heap.size]) rfl hsize rfl rfl (rest := []) rfl (by rw [hb]; exact d6) (by rw [hb]; exact d9) hno hfr (by show 2 * 0 + (1 + 0) + _ ≤ _; exact (by omega)) hlocks
    have hWU : s.WarmedH U.vm := State.WarmedH.trans hWT hW
    have hkeepU : ∀ z, z < H.size → U.heap[z]? = H[z]? := by
      intro z hz
      have hz' : z < T.heap.size := by rw [hT]; exact hz
      obtain ⟨c', q1, q2, q3, q4⟩ := hsame.2.2.2.2.2 z T.heap[z] (Array.getElem?_eq_getElem hz')
      have q5 : c'.slots = T.heap[z].slots := by
        apply Array.ext_getElem?
        intro i
        exact q4 i (fun h => by cases h)
      have q6 : c' = T.heap[z] := by rw [q2, q5]
      have q7 : U.heap[z]? = some c' := q1
      rw [q7, q6, ← hT]
      exact (Array.getElem?_eq_getElem hz').symm
    have hcT := K.cls
    refine ⟨U, hsteps, .threw T.heap.size, hrun, hend, hq _ U ce (by rw [hT]; exact Nat.le_refl _) hkeepU (by rw [← hT]; exact hsame.2.1) hce K.vm (by rw [hW.alike.findClass]; exact hcT) hWU, locs, hWU, ?_, hf⟩
    have h9 := X.same.trans ((x_same X hsame).setVm s.vm)
    rw [List.append_nil] at h9
    exact h9
  exact key T rfl XB
end XW
