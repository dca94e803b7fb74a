/-! NoSuchElementException: its constructor passes the message on by an entry of another number than the rest. -/
def xBt : ByteArray := ⟨#[0x2a, 0x2b, 0xb7, 0x00, 0x0d, 0xb1]⟩
def xAtoms (own : String) (ic : Nat) (cls sup : String) (names : List String) : List Cond :=
  Bundle.throwableAtoms ++ (Bundle.throwableSAtoms ++ (Bundle.passSAtoms cls sup 13 xBt ++ (Bundle.chainSAtoms sup names ++
  [.methodLink own ic (Bundle.initS cls), .instantiable cls 6, .selects cls Bundle.tFill0 Bundle.tFill0, .selects cls Bundle.tFill Bundle.tFill,
   .lays cls Bundle.tN "cause" "Ljava/lang/Throwable;", .lays cls Bundle.tN "stackTrace" Bundle.steD, .lays cls Bundle.tN "suppressedExceptions" Bundle.listD, .lays cls Bundle.tN "detailMessage" "Ljava/lang/String;",
   .isRef (.static Bundle.tN "UNASSIGNED_STACK" Bundle.steD), .isRef (.static Bundle.tN "SUPPRESSED_SENTINEL" Bundle.listD),
   .fieldLink Bundle.tN 198 Bundle.tN "backtrace" "Ljava/lang/Object;", .lays Bundle.tN Bundle.tN "backtrace" "Ljava/lang/Object;", .lays cls Bundle.tN "backtrace" "Ljava/lang/Object;"])))
theorem xBt_0 : decode xBt 0 = .ok (.aload_n 0, 1) := by decide +kernel
theorem xBt_1 : decode xBt 1 = .ok (.aload_n 1, 1) := by decide +kernel
theorem xBt_2 : decode xBt 2 = .ok (.invokespecial 13, 3) := by decide +kernel
theorem xBt_5 : decode xBt 5 = .ok (.return_, 1) := by decide +kernel
section XM
variable {p : Program} {l : Launch} {e : Env} {R : Room} {s : State} {m : MethodId} {args : Array Value} {below : List Frame} {meth : Method} {c : Code} {V : State} {cells slots : Nat}
set_option maxHeartbeats 1000000 in
theorem x_make (X : Stand p l e R s m args below meth c V [] cells slots) (hexec : p.tables.exec = Jvm.exec) (htr : e.platform.stackTraces = false) {own cls sup : String} {names : List String} {ic : Nat}
    (hown : s.vm.findClass own = some m.cls) (hcls : Bundle.fit cls = true) (hsup : Bundle.fit sup = true) (hnames : ∀ n ∈ names, Bundle.fit n = true) (h : ∀ w ∈ xAtoms own ic cls sup names, w.before args s = true)
    {a : Addr} {cX : ClassId} {kX : Class} (hfX : s.vm.findClass cls = some cX) (hkX : s.vm.classes[cX]? = some kX) (hcell : V.heap[a]? = some (freshCell cX kX)) (hnew : s.heap.size ≤ a) {msg : Value} (hmsg : msg.isRef = true)
    {g : JFrame} (hg : g.method = m) (hsize : g.locals.size = c.maxLocals) (hlocked : g.locked = none) (hentered : g.entered = []) (hstack : g.stack = [msg, .ref a, .ref a])
    (hd6 : decode c.code g.pc = .ok (.invokespecial ic, 3)) (hd9 : decode c.code (g.pc + 3) = .ok (.athrow, 1)) (hout : ∀ x ∈ c.exceptionTable.toList, covers x (g.pc + 3) = false)
    (hfr : names.length + 4 < R.frames) (hlo : 2 * g.monitorRoom + 1 + (13 * (names.length + 2) + 42) ≤ R.locals) (hlocks : meth.locks = false) :
    ∃ U : State, Steps p.tables e below (V.setTop g) U ∧ U.status = .running ∧ Ended U below (.threw a) ∧ s.WarmedH U.vm ∧ s.sameButNew ({ U with vm := s.vm } : State) [] cells slots ∧
      ∃ ce, U.heap[a]? = some ce ∧ s.vm.findClass cls = some ce.cls ∧ ce.vm = .none := by
  have inA : ∀ {w}, w ∈ Bundle.throwableAtoms → w ∈ xAtoms own ic cls sup names := fun h => List.mem_append_left _ h
  have inB : ∀ {w}, w ∈ Bundle.throwableSAtoms → w ∈ xAtoms own ic cls sup names := fun h => List.mem_append_right _ (List.mem_append_left _ h)
  have inC : ∀ {w}, w ∈ Bundle.passSAtoms cls sup 13 xBt → w ∈ xAtoms own ic cls sup names := fun h => List.mem_append_right _ (List.mem_append_right _ (List.mem_append_left _ h))
  have inD : ∀ {w}, w ∈ Bundle.chainSAtoms sup names → w ∈ xAtoms own ic cls sup names := fun h => List.mem_append_right _ (List.mem_append_right _ (List.mem_append_right _ (List.mem_append_left _ h)))
  have wd : ∀ w, w ∈ xAtoms own ic cls sup names → w.holds args s none s [] = true := fun w hw => h w hw
  have pA : e.platform.frameOwnsMonitors = true := by rw [X.admits.platform]
  have pB : e.platform.finalization = false := by rw [X.admits.platform]
  have pC : e.platform.magicAccessors = ({} : Platform).magicAccessors := by rw [X.admits.platform]
  obtain ⟨T, _, L, -, Y⟩ := ThrowableC.of_atoms (args := args) pA pB pC (fun w hw => h w (inA hw))
  obtain ⟨Z, M, LZ, LM, hnZ⟩ := Init0T.ofS_atoms (args := args) pC L Y (fun w hw => h w (inB hw))
  obtain ⟨P0, L0, h0m, h0s⟩ := PassC.ofS_atoms (args := args) (s := s) pC (X := cls) (Y := sup) (Bundle.fit_spec hcls).1 (Bundle.fit_spec hsup).2 xBt_0 xBt_1 xBt_2 xBt_5 (fun w hw => h w (inC hw))
  obtain ⟨P1, Ps, hlen, L1, hL, h1m, k1, k2⟩ := Bundle.chainS (args := args) pC hnZ names sup hsup hnames (fun w hw => h w (inD hw))
  have k0 : P0.sup = P1.m := Option.some.inj (h0s.symm.trans h1m)
  have hfound : s.vm.findClass cls = some P0.m.cls := findClass_of_methodNamed h0m
  cases Option.some.inj (hfX.symm.trans hfound)
  obtain ⟨c1, k9, hc1, hk9, hord, -, -, -⟩ := Cond.instantiable_spec (wd (.instantiable cls 6) (by simp [xAtoms]))
  cases Option.some.inj (hc1.symm.trans hfound)
  cases Option.some.inj (hkX.symm.trans hk9)
  have sel : ∀ {y : MethodName} {r : MethodId}, (Cond.selects cls y y).holds args s none s [] = true → s.methodNamed? y = some r → (y.cls ≠ "java/lang/invoke/MethodHandle" ∧ y.cls ≠ "java/lang/invoke/VarHandle") → selectMethod e.platform s.vm P0.m.cls r = .method r := by
    intro y r hy hr hn
    obtain ⟨c2, r2, m2, q1, q2, q3, q4, -⟩ := Cond.selects_spec hy
    cases Option.some.inj (q1.symm.trans hfound)
    cases Option.some.inj (q2.symm.trans (State.methodFound?_of_named hr hn))
    cases Option.some.inj (q3.symm.trans hr)
    rw [Launch.admits_selectMethod X.admits]; exact q4
  have hs0 := sel (wd (.selects cls Bundle.tFill0 Bundle.tFill0) (by simp [xAtoms])) Y.fill0 (by decide)
  have hsF := sel (wd (.selects cls Bundle.tFill Bundle.tFill) (by simp [xAtoms])) Y.fill (by decide)
  obtain ⟨cS, hcS, hiss⟩ := Y.statics
  obtain ⟨u0, hu0⟩ := Cond.staticRefV Y.unassigned L.unassignedStatic L.statics hcS hiss (wd (.isRef (.static Bundle.tN "UNASSIGNED_STACK" Bundle.steD)) (by simp [xAtoms]))
  obtain ⟨sen, hsen⟩ := Cond.staticRefV Y.sentinel L.sentinelStatic L.statics hcS hiss (wd (.isRef (.static Bundle.tN "SUPPRESSED_SENTINEL" Bundle.listD)) (by simp [xAtoms]))
  obtain ⟨ci8, i8, fB, hk8, hg8, ha8, hsB, -, hnB, htB, hffB⟩ := Cond.ownField (t := .object "java/lang/Object") Y.found L.cls (by decide +kernel) (wd (.fieldLink Bundle.tN 198 Bundle.tN "backtrace" "Ljava/lang/Object;") (by simp [xAtoms])) (wd (.lays Bundle.tN Bundle.tN "backtrace" "Ljava/lang/Object;") (by simp [xAtoms])) e.platform pC
  obtain ⟨cS', hcS', heS, -, hkeep⟩ := X.same.2.2.2.2.2 T.aS cS hcS
  have hcV : V.heap[T.aS]? = some cS' := hcS'
  have hkn : cS'.vm ≠ .unknown := by
    rw [heS]; intro hu
    rw [show cS.vm = .unknown from hu] at hiss
    cases hiss
  have hne : T.aS ≠ a := Nat.ne_of_lt (Nat.lt_of_lt_of_le (Array.getElem?_eq_some_iff.mp hcS).1 hnew)
  obtain ⟨iM, hffM⟩ := Y.msg
  obtain ⟨tC, dC, eC, nC⟩ := Cond.laysAt hfound hk9 Y.cause (wd (.lays cls Bundle.tN "cause" "Ljava/lang/Throwable;") (by simp [xAtoms]))
  obtain ⟨tS, dS, eS, nS⟩ := Cond.laysAt hfound hk9 Y.stack (wd (.lays cls Bundle.tN "stackTrace" Bundle.steD) (by simp [xAtoms]))
  obtain ⟨tP, dP, eP, nP⟩ := Cond.laysAt hfound hk9 Y.supp (wd (.lays cls Bundle.tN "suppressedExceptions" Bundle.listD) (by simp [xAtoms]))
  obtain ⟨tM, dM, eM, nM⟩ := Cond.laysAt hfound hk9 hffM (wd (.lays cls Bundle.tN "detailMessage" "Ljava/lang/String;") (by simp [xAtoms]))
  obtain ⟨tB, dB, eB, nB⟩ := Cond.laysAt hfound hk9 hffB (wd (.lays cls Bundle.tN "backtrace" "Ljava/lang/Object;") (by simp [xAtoms]))
  have bC := Cond.laysApart eB eC nB nC (by rw [hnB, Y.causeName]; decide)
  have bS := Cond.laysApart eB eS nB nS (by rw [hnB, Y.stackName]; decide)
  have bP := Cond.laysApart eB eP nB nP (by rw [hnB, Y.suppName]; decide)
  have hskip : SkipFacts T e.platform s (fun u => u) u0 ((preparedCellV T.toThrowableT (freshCell P0.m.cls kX) a u0 sen).withEntry V.cur) := by
    refine ⟨{ ci198 := ci8, i198 := i8, fBack := fB }, ⟨hk8, hg8, ha8, hsB⟩, ?_, fun _ _ => rfl⟩
    have hd := fresh_default (c := P0.m.cls) tB
    rw [htB] at hd
    simpa [preparedCellV, Cell.setSlot, Cell.withEntry, Array.getElem?_setIfInBounds, bC, bS, bP, bC.symm, bS.symm, bP.symm, defaultValue] using hd
  obtain ⟨tm, _, _, _, vm1, hnC, -, -, -, -, -, -, -, hW1, st1⟩ := Steps.initColdS (tb := p.tables) (e := e) (below := below) (s := s) (U := V) X.here hexec X.warmed pC hown (t := Bundle.initS cls) rfl rfl (Bundle.fit_spec hcls).2
    (wd (.methodLink own ic (Bundle.initS cls)) (by simp [xAtoms])) (h (.instanceMethod (Bundle.initS cls)) (inC (by simp [Bundle.passSAtoms]))) (bytes := xBt) (maxL := 2) (h (.code (Bundle.initS cls) xBt 2 none) (inC (by simp [Bundle.passSAtoms])))
    (f := g) hg (a := a) (msg := msg) (rest := [.ref a]) hstack hd6
  cases Option.some.inj (hnC.symm.trans h0m)
  obtain ⟨vm2, X2, st2⟩ := (X.noted hW1).ctorMessageOffV hexec (g := { g with stack := [.ref a] }) hg hsize T L Z LZ M LM (P0 :: P1 :: Ps)
    (fun P hP => by
      rcases List.mem_cons.mp hP with rfl | hP
      · exact L0
      · rcases List.mem_cons.mp hP with rfl | hP
        · exact L1
        · exact hL P hP) ⟨k0, k1, k2⟩ (u0 := u0) (sen := sen) (self := a) hmsg (cell := freshCell P0.m.cls kX) (cellS := cS')
    hcell (fun _ => by simp) (by simp) rfl rfl hs0 hsF hcV hne hkn (by rw [hkeep _ (fun z => by cases z)]; exact hu0) (by rw [hkeep _ (fun z => by cases z)]; exact hsen)
    (Takes.of_laid hk9 hord tC (by rw [Y.causeType]; rfl)) (Takes.of_laid hk9 hord tS (by rw [Y.stackType]; exact fits_refV_array _ u0)) (Takes.of_laid hk9 hord tP (by rw [Y.suppType]; exact fits_refV_object _ sen))
    (Takes.of_laid hk9 hord tM (by rw [Y.msgType]; exact fits_refV_object _ ⟨msg, hmsg⟩)) Y.objLocals hskip htr [] hd6
    (by simp only [List.length_cons, hlen]; omega) (by simp only [List.length_cons, hlen]; show 2 * g.monitorRoom + (1 + 0) + _ ≤ _; omega)
  obtain ⟨hwalk, hrun, hended, hWU, hsame⟩ := X2.athrowLeaves hexec (g := { g with stack := [.ref a], pc := g.pc + 3 }) hg hlocked hentered hout (a := a) (rest := []) rfl hd9 hlocks
  have hlt : a < ((V.setVm vm1).setVm vm2).heap.size := (Array.getElem?_eq_some_iff.mp hcell).1
  refine ⟨_, st1 _ (fun acts => ?_), hrun, hended, hWU, hsame.weaken (fun y hy hlt' => ?_) (Nat.le_refl _) (Nat.le_refl _), _, heapAt_setCell_self (s := (V.setVm vm1).setVm vm2) (plainBareV T.toThrowableT (freshCell P0.m.cls kX) a u0 sen msg) hlt, hfound, rfl⟩
  · rw [doInvoke_state]
    exact st2 _ hwalk
  · exfalso
    have hb : y.base = a := by
      simp only [List.nil_append, List.mem_cons, List.not_mem_nil, or_false] at hy
      rcases hy with rfl | rfl | rfl | rfl | rfl <;> rfl
    rw [hb] at hlt'
    exact Nat.not_lt.mpr hnew hlt'
end XM
section XW2
variable {p : Program} {l : Launch} {e : Env} {R : Room} {s : State} {m : MethodId} {args : Array Value} {below : List Frame} {meth : Method} {c : Code} {T : State} {H : Heap} {locs : List Loc} {cells slots : Nat} {Q : State → Prop}
theorem x_throwN {cc : ByteArray} {pc : Nat} {ls : Array Slot} (hexec : p.tables.exec = Jvm.exec) (hb : c.code = cc) (hfl : l.flags = pinnedFlags ++ [noTraceFlag]) (hlocks : meth.locks = false) (hno : ∀ x ∈ c.exceptionTable.toList, covers x (pc + 9) = false)
    {own cls sup text : String} {names : List String} {ik is ic : Nat} (hown : s.vm.findClass own = some m.cls) (hcls : Bundle.fit cls = true) (hsup : Bundle.fit sup = true) (hnames : ∀ n ∈ names, Bundle.fit n = true)
    (hat : ∀ w ∈ xAtoms own ic cls sup names, (∀ (a' : Array Value) (V : State), s.WarmedH V.vm → w.before a' V = true) ∨ w ∈ [xw1, xw2, xw3, xw4] ++ XF1)
    (hcl : ∀ (a' : Array Value) (V : State), s.WarmedH V.vm → (Cond.classLink own ik cls).before a' V = true) (hins : ∀ (a' : Array Value) (V : State), s.WarmedH V.vm → (Cond.instantiable cls 6).before a' V = true) (hini : ∀ (a' : Array Value) (V : State), s.WarmedH V.vm → (Cond.initialized cls).before a' V = true)
    {sa : Nat} (hstr : vk_R own is text sa s) (hX : xT s) (hk : ∀ (q : Nat) (cell : Cell), s.heap[q]? = some cell → cell.vm.isStatics = true → H[q]? = some cell)
    (hcells : cells + 1 ≤ R.cells) (hslots : slots + 6 ≤ R.slots) (hfr : names.length + 4 < R.frames) (hlo : 1 + (13 * (names.length + 2) + 42) ≤ R.locals) (hsize : ls.size = c.maxLocals)
    (d0 : decode cc pc = .ok (.new ik, 3)) (d3 : decode cc (pc + 3) = .ok (.dup, 1)) (d4 : decode cc (pc + 4) = .ok (.ldc is, 2)) (d6 : decode cc (pc + 6) = .ok (.invokespecial ic, 3)) (d9 : decode cc (pc + 9) = .ok (.athrow, 1))
    {Qc : Array Value → State → Outcome → State → Prop} {free : Addr → Prop} (hq : ∀ (q : Nat) (t : State) (ce : Cell), H.size ≤ q → (∀ z, z < H.size → t.heap[z]? = H[z]?) → H.size ≤ t.heap.size → t.heap[q]? = some ce → ce.vm = .none → t.vm.findClass cls = some ce.cls → s.WarmedH t.vm → Qc args s (.threw q) t)
    (hf : ∀ q ∈ locs, free q.base) : W p l e R s m args below meth c H locs cells slots (xMQ below Qc args s (cells + 1) (slots + 6) free) (F0 m pc ls []) := by
  intro T hT X
  have XB := x_base X hcells hslots
  have hWT : s.WarmedH (xBase s T).vm := X.warmed
  have hownB : (xBase s T).vm.findClass own = some m.cls := by rw [hWT.alike.findClass]; exact hown
  have hXB : xT (xBase s T) := hX.moved hWT (fun q cell h1 h2 => by show T.heap[q]? = _; rw [hT]; exact hk q cell h1 h2)
  have htr : e.platform.stackTraces = false := Launch.traces_off hfl X.admits
  have key : W p l e { R with cells := 1, slots := 6 } (xBase s T) m args below meth c T.heap [] 0 0 (xMQ below Qc args s (cells + 1) (slots + 6) free) (F0 m pc ls []) := by
    refine W.newc (n := 6) hexec hb hownB (hcl _ _ hWT) (hins _ _ hWT) (hini _ _ hWT) (g := F0 m pc ls []) rfl d0 (Nat.le_refl 1) (Nat.le_refl 6) (fun cC kC h1 h2 h3 h4 => ?_)
    refine W.eq (g2 := F0 m (pc + 3) ls [.ref T.heap.size]) rfl ?_
    refine lv_dup hexec hb d3 rfl ?_
    refine va_ldcS hexec hb hownB (vk_R.warm hWT hstr) d4 ?_
    intro T2 hT2 X2
    have hcell : T2.heap[T.heap.size]? = some (freshCell cC kC) := by rw [hT2]; exact Array.getElem?_push_size
    obtain ⟨U, hsteps, hrun, hend, hW, hsame, ce, hce, hcT, hcv⟩ := x_make X2 hexec htr (own := own) (cls := cls) (sup := sup) (names := names) (ic := ic) hownB hcls hsup hnames
      (fun w hw => (hat w hw).elim (fun h => h _ _ hWT) (fun h => hXB.at _ w h)) h1 h2 hcell (Nat.le_refl _) (msg := .ref sa) rfl
      (g := F0 m (pc + 3 + 1 + 2) ls [.ref sa, .ref T.heap.size, .ref T.heap.size]) rfl hsize rfl rfl rfl (by rw [hb]; exact d6) (by rw [hb]; exact d9) hno hfr (by show 2 * 0 + 1 + _ ≤ _; omega) hlocks
    have hWU : s.WarmedH U.vm := State.WarmedH.trans hWT hW
    have hkeepU : ∀ z, z < H.size → U.heap[z]? = H[z]? := by
      intro z hz
      have hz' : z < T.heap.size := by rw [hT]; exact hz
      obtain ⟨c', q1, q2, q3, q4⟩ := hsame.2.2.2.2.2 z T.heap[z] (Array.getElem?_eq_getElem hz')
      have q5 : c'.slots = T.heap[z].slots := by
        apply Array.ext_getElem?
        intro i
        exact q4 i (fun h => by cases h)
      have q6 : c' = T.heap[z] := by rw [q2, q5]
      have q7 : U.heap[z]? = some c' := q1
      rw [q7, q6, ← hT]
      exact (Array.getElem?_eq_getElem hz').symm
    refine ⟨U, hsteps, .threw T.heap.size, hrun, hend, hq _ U ce (by rw [hT]; exact Nat.le_refl _) hkeepU (by rw [← hT]; exact hsame.2.1) hce hcv (by rw [hW.alike.findClass]; exact hcT) hWU, locs, hWU, ?_, hf⟩
    have h9 := X.same.trans ((x_same X hsame).setVm s.vm)
    rw [List.append_nil] at h9
    exact h9
  exact key T rfl XB
end XW2
