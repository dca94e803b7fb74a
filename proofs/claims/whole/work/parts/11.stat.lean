def v_RT_isLetter (a0 : Int32) (post : Int32 → Prop) : Prop :=
  ((a0 < (65 : Int32) → (post (0 : Int32))) ∧ (¬ a0 < (65 : Int32) → (((70 : Int32) ≤ a0 → (post (0 : Int32))) ∧ (¬ (70 : Int32) ≤ a0 → (post (1 : Int32))))))
set_option maxHeartbeats 1000000 in
set_option maxRecDepth 100000 in
theorem c_RT_isLetter (l : Launch) (dC : Nat → ClassId) (dI : Nat → Nat → Nat) (kI kC kZ kJ kB kS : ClassId) (sz : Nat) (a0 : Int32) {post : Int32 → Prop} (h : v_RT_isLetter a0 post) : Met l y_RT_isLetter w_RT_isLetter ({ frames := 0, cells := 0, slots := 0, locals := 0 }) (va_Pc [.int a0] (fun U => U.heap.size = sz ∧ va_P (dC, dI) vwCl [] U.heap ∧ va_K (dC, dI) vwCl (vTY kI kC kZ kJ kB kS) U ∧ va_D (fun _ => True) [] ∧ vNE U)) (va_Qi (fun (r : Int32) (u : Unit) => post r) (fun u t => va_P (dC, dI) vwCl [] t.heap ∧ va_K (dC, dI) vwCl (vTY kI kC kZ kJ kB kS) t ∧ va_D (va_A [] sz) []) (va_A [] sz)) 0 0 (va_A [] sz) := by
  refine Met.ofW (cc := b_RT_isLetter) (maxL := 1) (ret := (some .boolean)) (by decide) rfl ?_
  intro p e s m args below meth c s₁ B hml hv
  obtain ⟨rfl, hsz, hP, hK, hD0, hN⟩ := hv
  have hx := B.exec
  have hb := B.bytes
  have hr := B.returns
  have hts := atoms_spec (ws := w_RT_isLetter) B.pre
  have hT : ∀ w ∈ TB, w.before ([.int a0] : List Value).toArray s = true := fun w h => hts w (List.mem_cons_of_mem _ h)
  have hown : s.vm.findClass R_RT = some m.cls := findClass_of_methodNamed B.named
  have hlocks := B.notSynchronized
  subst hsz
  have hD := hD0.self (sz := s.heap.size)
  generalize hAe : va_A [] s.heap.size = A at hD ⊢
  have hA : ∀ q : Nat, s.heap.size ≤ q → A q := fun q h => by rw [← hAe]; exact Or.inr h
  have hS : va_S A s.heap s.heap [] := va_S.rf
  have hl := lv_entry ([.int a0]) (n := 1) (Nat.le_of_ble_eq_true rfl)
  rw [lg_entry_eq]
  generalize (lg_sl ([.int a0]) ++ List.replicate (1 - (lg_sl ([.int a0])).length) Slot.unset).toArray = ls at hl ⊢
  have hl : lv_has ls 1 [(0, .int a0)] := hl
  unfold v_RT_isLetter at h
  refine lv_iload_n hx hb d_RT_isLetter_0 rfl (lv_at hl 0 rfl) ?_
  refine lv_bipush (v := 65) hx hb d_RT_isLetter_1 (by decide) ?_
  refine lv_icmp_lt hx hb d_RT_isLetter_3 (tgt := 16) (by decide) (fun hc => ?_) (fun hc => ?_)
  · have h := h.1 hc
    refine lv_iconst (v := 0) hx hb d_RT_isLetter_16 (by decide) ?_
    exact W.zret (ty := .boolean) (v := (0 : Int32)) hx hb hr rfl (fun t ht hW => ⟨⟨(0 : Int32), (), rfl, h, by rw [ht]; exact hP, va_K.moved hW.alike hK, hD⟩, hS.F ht⟩) hS.2.2 d_RT_isLetter_17
  · have h := h.2 hc
    refine lv_iload_n hx hb d_RT_isLetter_6 rfl (lv_at hl 0 rfl) ?_
    refine lv_bipush (v := 70) hx hb d_RT_isLetter_7 (by decide) ?_
    refine lv_icmp_ge hx hb d_RT_isLetter_9 (tgt := 16) (by decide) (fun hc => ?_) (fun hc => ?_)
    · have h := h.1 hc
      refine lv_iconst (v := 0) hx hb d_RT_isLetter_16 (by decide) ?_
      exact W.zret (ty := .boolean) (v := (0 : Int32)) hx hb hr rfl (fun t ht hW => ⟨⟨(0 : Int32), (), rfl, h, by rw [ht]; exact hP, va_K.moved hW.alike hK, hD⟩, hS.F ht⟩) hS.2.2 d_RT_isLetter_17
    · have h := h.2 hc
      refine lv_iconst (v := 1) hx hb d_RT_isLetter_12 (by decide) ?_
      refine lv_goto hx hb d_RT_isLetter_13 (tgt := 17) (by decide) ?_
      exact W.zret (ty := .boolean) (v := (1 : Int32)) hx hb hr rfl (fun t ht hW => ⟨⟨(1 : Int32), (), rfl, h, by rw [ht]; exact hP, va_K.moved hW.alike hK, hD⟩, hS.F ht⟩) hS.2.2 d_RT_isLetter_17

def v_RT_isToken (a0 : Int32) (post : Int32 → Prop) : Prop :=
  ((a0 < (97 : Int32) → (post (0 : Int32))) ∧ (¬ a0 < (97 : Int32) → (((122 : Int32) < a0 → (post (0 : Int32))) ∧ (¬ (122 : Int32) < a0 → (post (1 : Int32))))))
set_option maxHeartbeats 1000000 in
set_option maxRecDepth 100000 in
theorem c_RT_isToken (l : Launch) (dC : Nat → ClassId) (dI : Nat → Nat → Nat) (kI kC kZ kJ kB kS : ClassId) (sz : Nat) (a0 : Int32) {post : Int32 → Prop} (h : v_RT_isToken a0 post) : Met l y_RT_isToken w_RT_isToken ({ frames := 0, cells := 0, slots := 0, locals := 0 }) (va_Pc [.int a0] (fun U => U.heap.size = sz ∧ va_P (dC, dI) vwCl [] U.heap ∧ va_K (dC, dI) vwCl (vTY kI kC kZ kJ kB kS) U ∧ va_D (fun _ => True) [] ∧ vNE U)) (va_Qi (fun (r : Int32) (u : Unit) => post r) (fun u t => va_P (dC, dI) vwCl [] t.heap ∧ va_K (dC, dI) vwCl (vTY kI kC kZ kJ kB kS) t ∧ va_D (va_A [] sz) []) (va_A [] sz)) 0 0 (va_A [] sz) := by
  refine Met.ofW (cc := b_RT_isToken) (maxL := 1) (ret := (some .boolean)) (by decide) rfl ?_
  intro p e s m args below meth c s₁ B hml hv
  obtain ⟨rfl, hsz, hP, hK, hD0, hN⟩ := hv
  have hx := B.exec
  have hb := B.bytes
  have hr := B.returns
  have hts := atoms_spec (ws := w_RT_isToken) B.pre
  have hT : ∀ w ∈ TB, w.before ([.int a0] : List Value).toArray s = true := fun w h => hts w (List.mem_cons_of_mem _ h)
  have hown : s.vm.findClass R_RT = some m.cls := findClass_of_methodNamed B.named
  have hlocks := B.notSynchronized
  subst hsz
  have hD := hD0.self (sz := s.heap.size)
  generalize hAe : va_A [] s.heap.size = A at hD ⊢
  have hA : ∀ q : Nat, s.heap.size ≤ q → A q := fun q h => by rw [← hAe]; exact Or.inr h
  have hS : va_S A s.heap s.heap [] := va_S.rf
  have hl := lv_entry ([.int a0]) (n := 1) (Nat.le_of_ble_eq_true rfl)
  rw [lg_entry_eq]
  generalize (lg_sl ([.int a0]) ++ List.replicate (1 - (lg_sl ([.int a0])).length) Slot.unset).toArray = ls at hl ⊢
  have hl : lv_has ls 1 [(0, .int a0)] := hl
  unfold v_RT_isToken at h
  refine lv_iload_n hx hb d_RT_isToken_0 rfl (lv_at hl 0 rfl) ?_
  refine lv_bipush (v := 97) hx hb d_RT_isToken_1 (by decide) ?_
  refine lv_icmp_lt hx hb d_RT_isToken_3 (tgt := 16) (by decide) (fun hc => ?_) (fun hc => ?_)
  · have h := h.1 hc
    refine lv_iconst (v := 0) hx hb d_RT_isToken_16 (by decide) ?_
    exact W.zret (ty := .boolean) (v := (0 : Int32)) hx hb hr rfl (fun t ht hW => ⟨⟨(0 : Int32), (), rfl, h, by rw [ht]; exact hP, va_K.moved hW.alike hK, hD⟩, hS.F ht⟩) hS.2.2 d_RT_isToken_17
  · have h := h.2 hc
    refine lv_iload_n hx hb d_RT_isToken_6 rfl (lv_at hl 0 rfl) ?_
    refine lv_bipush (v := 122) hx hb d_RT_isToken_7 (by decide) ?_
    refine lv_icmp_gt hx hb d_RT_isToken_9 (tgt := 16) (by decide) (fun hc => ?_) (fun hc => ?_)
    · have h := h.1 hc
      refine lv_iconst (v := 0) hx hb d_RT_isToken_16 (by decide) ?_
      exact W.zret (ty := .boolean) (v := (0 : Int32)) hx hb hr rfl (fun t ht hW => ⟨⟨(0 : Int32), (), rfl, h, by rw [ht]; exact hP, va_K.moved hW.alike hK, hD⟩, hS.F ht⟩) hS.2.2 d_RT_isToken_17
    · have h := h.2 hc
      refine lv_iconst (v := 1) hx hb d_RT_isToken_12 (by decide) ?_
      refine lv_goto hx hb d_RT_isToken_13 (tgt := 17) (by decide) ?_
      exact W.zret (ty := .boolean) (v := (1 : Int32)) hx hb hr rfl (fun t ht hW => ⟨⟨(1 : Int32), (), rfl, h, by rw [ht]; exact hP, va_K.moved hW.alike hK, hD⟩, hS.F ht⟩) hS.2.2 d_RT_isToken_17

def v_RT_isDigit (a0 : Int32) (post : Int32 → Prop) : Prop :=
  ((a0 < (48 : Int32) → (post (0 : Int32))) ∧ (¬ a0 < (48 : Int32) → (((57 : Int32) < a0 → (post (0 : Int32))) ∧ (¬ (57 : Int32) < a0 → (post (1 : Int32))))))
set_option maxHeartbeats 1000000 in
set_option maxRecDepth 100000 in
theorem c_RT_isDigit (l : Launch) (dC : Nat → ClassId) (dI : Nat → Nat → Nat) (kI kC kZ kJ kB kS : ClassId) (sz : Nat) (a0 : Int32) {post : Int32 → Prop} (h : v_RT_isDigit a0 post) : Met l y_RT_isDigit w_RT_isDigit ({ frames := 0, cells := 0, slots := 0, locals := 0 }) (va_Pc [.int a0] (fun U => U.heap.size = sz ∧ va_P (dC, dI) vwCl [] U.heap ∧ va_K (dC, dI) vwCl (vTY kI kC kZ kJ kB kS) U ∧ va_D (fun _ => True) [] ∧ vNE U)) (va_Qi (fun (r : Int32) (u : Unit) => post r) (fun u t => va_P (dC, dI) vwCl [] t.heap ∧ va_K (dC, dI) vwCl (vTY kI kC kZ kJ kB kS) t ∧ va_D (va_A [] sz) []) (va_A [] sz)) 0 0 (va_A [] sz) := by
  refine Met.ofW (cc := b_RT_isDigit) (maxL := 1) (ret := (some .boolean)) (by decide) rfl ?_
  intro p e s m args below meth c s₁ B hml hv
  obtain ⟨rfl, hsz, hP, hK, hD0, hN⟩ := hv
  have hx := B.exec
  have hb := B.bytes
  have hr := B.returns
  have hts := atoms_spec (ws := w_RT_isDigit) B.pre
  have hT : ∀ w ∈ TB, w.before ([.int a0] : List Value).toArray s = true := fun w h => hts w (List.mem_cons_of_mem _ h)
  have hown : s.vm.findClass R_RT = some m.cls := findClass_of_methodNamed B.named
  have hlocks := B.notSynchronized
  subst hsz
  have hD := hD0.self (sz := s.heap.size)
  generalize hAe : va_A [] s.heap.size = A at hD ⊢
  have hA : ∀ q : Nat, s.heap.size ≤ q → A q := fun q h => by rw [← hAe]; exact Or.inr h
  have hS : va_S A s.heap s.heap [] := va_S.rf
  have hl := lv_entry ([.int a0]) (n := 1) (Nat.le_of_ble_eq_true rfl)
  rw [lg_entry_eq]
  generalize (lg_sl ([.int a0]) ++ List.replicate (1 - (lg_sl ([.int a0])).length) Slot.unset).toArray = ls at hl ⊢
  have hl : lv_has ls 1 [(0, .int a0)] := hl
  unfold v_RT_isDigit at h
  refine lv_iload_n hx hb d_RT_isDigit_0 rfl (lv_at hl 0 rfl) ?_
  refine lv_bipush (v := 48) hx hb d_RT_isDigit_1 (by decide) ?_
  refine lv_icmp_lt hx hb d_RT_isDigit_3 (tgt := 16) (by decide) (fun hc => ?_) (fun hc => ?_)
  · have h := h.1 hc
    refine lv_iconst (v := 0) hx hb d_RT_isDigit_16 (by decide) ?_
    exact W.zret (ty := .boolean) (v := (0 : Int32)) hx hb hr rfl (fun t ht hW => ⟨⟨(0 : Int32), (), rfl, h, by rw [ht]; exact hP, va_K.moved hW.alike hK, hD⟩, hS.F ht⟩) hS.2.2 d_RT_isDigit_17
  · have h := h.2 hc
    refine lv_iload_n hx hb d_RT_isDigit_6 rfl (lv_at hl 0 rfl) ?_
    refine lv_bipush (v := 57) hx hb d_RT_isDigit_7 (by decide) ?_
    refine lv_icmp_gt hx hb d_RT_isDigit_9 (tgt := 16) (by decide) (fun hc => ?_) (fun hc => ?_)
    · have h := h.1 hc
      refine lv_iconst (v := 0) hx hb d_RT_isDigit_16 (by decide) ?_
      exact W.zret (ty := .boolean) (v := (0 : Int32)) hx hb hr rfl (fun t ht hW => ⟨⟨(0 : Int32), (), rfl, h, by rw [ht]; exact hP, va_K.moved hW.alike hK, hD⟩, hS.F ht⟩) hS.2.2 d_RT_isDigit_17
    · have h := h.2 hc
      refine lv_iconst (v := 1) hx hb d_RT_isDigit_12 (by decide) ?_
      refine lv_goto hx hb d_RT_isDigit_13 (tgt := 17) (by decide) ?_
      exact W.zret (ty := .boolean) (v := (1 : Int32)) hx hb hr rfl (fun t ht hW => ⟨⟨(1 : Int32), (), rfl, h, by rw [ht]; exact hP, va_K.moved hW.alike hK, hD⟩, hS.F ht⟩) hS.2.2 d_RT_isDigit_17

def v_RT_bitOf (a0 : Int32) (post : Int32 → Prop) : Prop :=
  (post ((1 : Int32) <<< ((a0 - (65 : Int32)) &&& 31)))
set_option maxHeartbeats 1000000 in
set_option maxRecDepth 100000 in
theorem c_RT_bitOf (l : Launch) (dC : Nat → ClassId) (dI : Nat → Nat → Nat) (kI kC kZ kJ kB kS : ClassId) (sz : Nat) (a0 : Int32) {post : Int32 → Prop} (h : v_RT_bitOf a0 post) : Met l y_RT_bitOf w_RT_bitOf ({ frames := 0, cells := 0, slots := 0, locals := 0 }) (va_Pc [.int a0] (fun U => U.heap.size = sz ∧ va_P (dC, dI) vwCl [] U.heap ∧ va_K (dC, dI) vwCl (vTY kI kC kZ kJ kB kS) U ∧ va_D (fun _ => True) [] ∧ vNE U)) (va_Qi (fun (r : Int32) (u : Unit) => post r) (fun u t => va_P (dC, dI) vwCl [] t.heap ∧ va_K (dC, dI) vwCl (vTY kI kC kZ kJ kB kS) t ∧ va_D (va_A [] sz) []) (va_A [] sz)) 0 0 (va_A [] sz) := by
  refine Met.ofW (cc := b_RT_bitOf) (maxL := 1) (ret := (some .int)) (by decide) rfl ?_
  intro p e s m args below meth c s₁ B hml hv
  obtain ⟨rfl, hsz, hP, hK, hD0, hN⟩ := hv
  have hx := B.exec
  have hb := B.bytes
  have hr := B.returns
  have hts := atoms_spec (ws := w_RT_bitOf) B.pre
  have hT : ∀ w ∈ TB, w.before ([.int a0] : List Value).toArray s = true := fun w h => hts w (List.mem_cons_of_mem _ h)
  have hown : s.vm.findClass R_RT = some m.cls := findClass_of_methodNamed B.named
  have hlocks := B.notSynchronized
  subst hsz
  have hD := hD0.self (sz := s.heap.size)
  generalize hAe : va_A [] s.heap.size = A at hD ⊢
  have hA : ∀ q : Nat, s.heap.size ≤ q → A q := fun q h => by rw [← hAe]; exact Or.inr h
  have hS : va_S A s.heap s.heap [] := va_S.rf
  have hl := lv_entry ([.int a0]) (n := 1) (Nat.le_of_ble_eq_true rfl)
  rw [lg_entry_eq]
  generalize (lg_sl ([.int a0]) ++ List.replicate (1 - (lg_sl ([.int a0])).length) Slot.unset).toArray = ls at hl ⊢
  have hl : lv_has ls 1 [(0, .int a0)] := hl
  unfold v_RT_bitOf at h
  refine lv_iconst (v := 1) hx hb d_RT_bitOf_0 (by decide) ?_
  refine lv_iload_n hx hb d_RT_bitOf_1 rfl (lv_at hl 0 rfl) ?_
  refine lv_bipush (v := 65) hx hb d_RT_bitOf_2 (by decide) ?_
  refine lv_isub hx hb d_RT_bitOf_4 ?_
  refine lv_ishl hx hb d_RT_bitOf_5 ?_
  exact W.iret (v := ((1 : Int32) <<< ((a0 - (65 : Int32)) &&& 31))) hx hb hr (fun t ht hW => ⟨⟨((1 : Int32) <<< ((a0 - (65 : Int32)) &&& 31)), (), rfl, h, by rw [ht]; exact hP, va_K.moved hW.alike hK, hD⟩, hS.F ht⟩) hS.2.2 d_RT_bitOf_6

def v_RT_spansBefore (a0 : Int32) (post : Int32 → Prop) : Prop :=
  (post ((a0 * (a0 - (1 : Int32))) / (2 : Int32)))
set_option maxHeartbeats 1000000 in
set_option maxRecDepth 100000 in
theorem c_RT_spansBefore (l : Launch) (dC : Nat → ClassId) (dI : Nat → Nat → Nat) (kI kC kZ kJ kB kS : ClassId) (sz : Nat) (a0 : Int32) {post : Int32 → Prop} (h : v_RT_spansBefore a0 post) : Met l y_RT_spansBefore w_RT_spansBefore ({ frames := 0, cells := 0, slots := 0, locals := 0 }) (va_Pc [.int a0] (fun U => U.heap.size = sz ∧ va_P (dC, dI) vwCl [] U.heap ∧ va_K (dC, dI) vwCl (vTY kI kC kZ kJ kB kS) U ∧ va_D (fun _ => True) [] ∧ vNE U)) (va_Qi (fun (r : Int32) (u : Unit) => post r) (fun u t => va_P (dC, dI) vwCl [] t.heap ∧ va_K (dC, dI) vwCl (vTY kI kC kZ kJ kB kS) t ∧ va_D (va_A [] sz) []) (va_A [] sz)) 0 0 (va_A [] sz) := by
  refine Met.ofW (cc := b_RT_spansBefore) (maxL := 1) (ret := (some .int)) (by decide) rfl ?_
  intro p e s m args below meth c s₁ B hml hv
  obtain ⟨rfl, hsz, hP, hK, hD0, hN⟩ := hv
  have hx := B.exec
  have hb := B.bytes
  have hr := B.returns
  have hts := atoms_spec (ws := w_RT_spansBefore) B.pre
  have hT : ∀ w ∈ TB, w.before ([.int a0] : List Value).toArray s = true := fun w h => hts w (List.mem_cons_of_mem _ h)
  have hown : s.vm.findClass R_RT = some m.cls := findClass_of_methodNamed B.named
  have hlocks := B.notSynchronized
  subst hsz
  have hD := hD0.self (sz := s.heap.size)
  generalize hAe : va_A [] s.heap.size = A at hD ⊢
  have hA : ∀ q : Nat, s.heap.size ≤ q → A q := fun q h => by rw [← hAe]; exact Or.inr h
  have hS : va_S A s.heap s.heap [] := va_S.rf
  have hl := lv_entry ([.int a0]) (n := 1) (Nat.le_of_ble_eq_true rfl)
  rw [lg_entry_eq]
  generalize (lg_sl ([.int a0]) ++ List.replicate (1 - (lg_sl ([.int a0])).length) Slot.unset).toArray = ls at hl ⊢
  have hl : lv_has ls 1 [(0, .int a0)] := hl
  unfold v_RT_spansBefore at h
  refine lv_iload_n hx hb d_RT_spansBefore_0 rfl (lv_at hl 0 rfl) ?_
  refine lv_iload_n hx hb d_RT_spansBefore_1 rfl (lv_at hl 0 rfl) ?_
  refine lv_iconst (v := 1) hx hb d_RT_spansBefore_2 (by decide) ?_
  refine lv_isub hx hb d_RT_spansBefore_3 ?_
  refine lv_imul hx hb d_RT_spansBefore_4 ?_
  refine lv_iconst (v := 2) hx hb d_RT_spansBefore_5 (by decide) ?_
  refine lv_idiv hx hb d_RT_spansBefore_6 (by decide) ?_
  exact W.iret (v := ((a0 * (a0 - (1 : Int32))) / (2 : Int32))) hx hb hr (fun t ht hW => ⟨⟨((a0 * (a0 - (1 : Int32))) / (2 : Int32)), (), rfl, h, by rw [ht]; exact hP, va_K.moved hW.alike hK, hD⟩, hS.F ht⟩) hS.2.2 d_RT_spansBefore_7

def v_RT_cellOf (a0 : Int32) (a1 : Int32) (a2 : Int32) (post : Int32 → Prop) : Prop :=
  (v_RT_spansBefore a2 (fun r1 => (post ((((r1 + a1) * (5 : Int32)) + a0) - (65 : Int32)))))
set_option maxHeartbeats 1000000 in
set_option maxRecDepth 100000 in
theorem c_RT_cellOf (l : Launch) (dC : Nat → ClassId) (dI : Nat → Nat → Nat) (kI kC kZ kJ kB kS : ClassId) (sz : Nat) (a0 : Int32) (a1 : Int32) (a2 : Int32) {post : Int32 → Prop} (h : v_RT_cellOf a0 a1 a2 post) : Met l y_RT_cellOf w_RT_cellOf ({ frames := 1, cells := 0, slots := 0, locals := 20 }) (va_Pc [.int a0, .int a1, .int a2] (fun U => U.heap.size = sz ∧ va_P (dC, dI) vwCl [] U.heap ∧ va_K (dC, dI) vwCl (vTY kI kC kZ kJ kB kS) U ∧ va_D (fun _ => True) [] ∧ vNE U)) (va_Qi (fun (r : Int32) (u : Unit) => post r) (fun u t => va_P (dC, dI) vwCl [] t.heap ∧ va_K (dC, dI) vwCl (vTY kI kC kZ kJ kB kS) t ∧ va_D (va_A [] sz) []) (va_A [] sz)) 0 0 (va_A [] sz) := by
  refine Met.ofW (cc := b_RT_cellOf) (maxL := 3) (ret := (some .int)) (by decide) rfl ?_
  intro p e s m args below meth c s₁ B hml hv
  obtain ⟨rfl, hsz, hP, hK, hD0, hN⟩ := hv
  have hx := B.exec
  have hb := B.bytes
  have hr := B.returns
  have hts := atoms_spec (ws := w_RT_cellOf) B.pre
  have hT : ∀ w ∈ TB, w.before ([.int a0, .int a1, .int a2] : List Value).toArray s = true := fun w h => hts w (List.mem_cons_of_mem _ h)
  have hown : s.vm.findClass R_RT = some m.cls := findClass_of_methodNamed B.named
  have hlocks := B.notSynchronized
  subst hsz
  have hD := hD0.self (sz := s.heap.size)
  generalize hAe : va_A [] s.heap.size = A at hD ⊢
  have hA : ∀ q : Nat, s.heap.size ≤ q → A q := fun q h => by rw [← hAe]; exact Or.inr h
  have hS : va_S A s.heap s.heap [] := va_S.rf
  have hl := lv_entry ([.int a0, .int a1, .int a2]) (n := 3) (Nat.le_of_ble_eq_true rfl)
  rw [lg_entry_eq]
  generalize (lg_sl ([.int a0, .int a1, .int a2]) ++ List.replicate (3 - (lg_sl ([.int a0, .int a1, .int a2])).length) Slot.unset).toArray = ls at hl ⊢
  have hl : lv_has ls 3 [(0, .int a0), (1, .int a1), (2, .int a2)] := hl
  unfold v_RT_cellOf at h
  refine lv_iload_n hx hb d_RT_cellOf_0 rfl (lv_at hl 2 rfl) ?_
  have hPc := hP.sub (ws' := []) [] rfl
  have hDc := hD.sub (ws' := []) [] (by decide) rfl
  have hFc := va_free (wc := []) hD hS hA [] rfl
  refine va_calli (va_runS (As := [.int a2]) (rest := []) ⟨hx, hb, hml, hown, hts⟩ (c_RT_spansBefore l dC dI kI kC kZ kJ kB kS s.heap.size a2 h) ⟨callB_of 1 hts (gA tb_481) rfl rfl rfl (hT _ tb_43) (hT _ tb_479) (by decide +kernel) ⟨Nat.le_of_ble_eq_true rfl, Nat.le_of_ble_eq_true rfl⟩, (hT _ tb_480)⟩ ⟨fun a U g mk q => by obtain ⟨q0, q1, qP, qK, qD, qN⟩ := q; exact ⟨q0, q1, qP, va_K.moved (u := U) (U := U.calling g mk a) (Vm.Alike.refl U.vm) qK, qD, vNE.same (U := U.calling g mk a) rfl qN⟩, fun U hU hW => ⟨rfl, by rw [hU], by rw [hU]; exact hPc, va_K.moved hW.alike hK, hDc.weaken (fun _ _ _ _ => trivial), vNE.moved hW hN⟩⟩ rfl rfl hl.1 rfl (lv_room (Nat.le_of_ble_eq_true rfl)) d_RT_cellOf_1 ⟨Nat.zero_le _, Nat.zero_le _⟩) hS (fun q _ h => hFc q h) hFc (fun r1 u t H_1 locs ht hvm h hB hz1 hk1 hS => ?_)
  obtain ⟨hP1, hK1, hD1⟩ := hB
  rw [ht] at hP1
  try dsimp only at h
  obtain ⟨hP, hD⟩ := va_join (wr := []) (w1 := []) hP hD [] [] rfl rfl (by decide) (by decide) hk1 hFc hP1 hD1
  have hP : va_P (dC, dI) vwCl [] H_1 := hP.sub (ws' := []) [] rfl
  have hD : va_D A [] := hD.sub (ws' := []) [] (by decide) rfl
  refine lv_iload_n hx hb d_RT_cellOf_4 rfl (lv_at hl 1 rfl) ?_
  refine lv_iadd hx hb d_RT_cellOf_5 ?_
  refine lv_iconst (v := 5) hx hb d_RT_cellOf_6 (by decide) ?_
  refine lv_imul hx hb d_RT_cellOf_7 ?_
  refine lv_iload_n hx hb d_RT_cellOf_8 rfl (lv_at hl 0 rfl) ?_
  refine lv_iadd hx hb d_RT_cellOf_9 ?_
  refine lv_bipush (v := 65) hx hb d_RT_cellOf_10 (by decide) ?_
  refine lv_isub hx hb d_RT_cellOf_12 ?_
  exact W.iret (v := ((((r1 + a1) * (5 : Int32)) + a0) - (65 : Int32))) hx hb hr (fun t ht hW => ⟨⟨((((r1 + a1) * (5 : Int32)) + a0) - (65 : Int32)), (), rfl, h, by rw [ht]; exact hP, va_K.moved hW.alike hK, hD⟩, hS.F ht⟩) hS.2.2 d_RT_cellOf_13

def v_RT_toOf_L7 (post : Int32 → Prop) (x1 : Int32) : Nat → Int32 → Prop
  | 0, _ => False
  | n7 + 1, x2 =>
    (((6 : Int32) ≤ x2 → (post x2)) ∧ (¬ (6 : Int32) ≤ x2 → (v_RT_spansBefore (x2 + (1 : Int32)) (fun r16 => ((x1 < r16 → (post x2)) ∧ (¬ x1 < r16 → ((v_RT_toOf_L7 post x1 n7) (x2 + 1))))))))
def v_RT_toOf (a0 : Int32) (post : Int32 → Prop) : Prop :=
  (∃ k7, v_RT_toOf_L7 post (a0 / (40 : Int32)) k7 (1 : Int32))
set_option maxHeartbeats 1000000 in
set_option maxRecDepth 100000 in
theorem c_RT_toOf (l : Launch) (dC : Nat → ClassId) (dI : Nat → Nat → Nat) (kI kC kZ kJ kB kS : ClassId) (sz : Nat) (a0 : Int32) {post : Int32 → Prop} (h : v_RT_toOf a0 post) : Met l y_RT_toOf w_RT_toOf ({ frames := 1, cells := 0, slots := 0, locals := 20 }) (va_Pc [.int a0] (fun U => U.heap.size = sz ∧ va_P (dC, dI) vwCl [] U.heap ∧ va_K (dC, dI) vwCl (vTY kI kC kZ kJ kB kS) U ∧ va_D (fun _ => True) [] ∧ vNE U)) (va_Qi (fun (r : Int32) (u : Unit) => post r) (fun u t => va_P (dC, dI) vwCl [] t.heap ∧ va_K (dC, dI) vwCl (vTY kI kC kZ kJ kB kS) t ∧ va_D (va_A [] sz) []) (va_A [] sz)) 0 0 (va_A [] sz) := by
  refine Met.ofW (cc := b_RT_toOf) (maxL := 3) (ret := (some .int)) (by decide) rfl ?_
  intro p e s m args below meth c s₁ B hml hv
  obtain ⟨rfl, hsz, hP, hK, hD0, hN⟩ := hv
  have hx := B.exec
  have hb := B.bytes
  have hr := B.returns
  have hts := atoms_spec (ws := w_RT_toOf) B.pre
  have hT : ∀ w ∈ TB, w.before ([.int a0] : List Value).toArray s = true := fun w h => hts w (List.mem_cons_of_mem _ h)
  have hown : s.vm.findClass R_RT = some m.cls := findClass_of_methodNamed B.named
  have hlocks := B.notSynchronized
  subst hsz
  have hD := hD0.self (sz := s.heap.size)
  generalize hAe : va_A [] s.heap.size = A at hD ⊢
  have hA : ∀ q : Nat, s.heap.size ≤ q → A q := fun q h => by rw [← hAe]; exact Or.inr h
  have hS : va_S A s.heap s.heap [] := va_S.rf
  have L7 : ∀ (x1 : Int32) (n7 : Nat) (x2 : Int32) (ls : Array Slot) (H : Heap) (locs : List Loc), v_RT_toOf_L7 post x1 n7 x2 → lv_has ls 3 [(1, .int x1), (2, .int x2)] → va_P (dC, dI) vwCl [] H → va_D A [] → va_S A s.heap H locs → W p l e (headSpec w_RT_toOf { frames := 1, cells := 0, slots := 0, locals := 20 }).room s m ([.int a0] : List Value).toArray below meth c H locs 0 0 (MQ below (va_Qi (fun (r : Int32) (u : Unit) => post r) (fun u t => va_P (dC, dI) vwCl [] t.heap ∧ va_K (dC, dI) vwCl (vTY kI kC kZ kJ kB kS) t ∧ va_D (A) []) (A)) ([.int a0] : List Value).toArray s 0 0 A) (F0 m 7 ls []) := by
    intro x1 n7
    induction n7 with
    | zero => intro x2 ls H locs h; exact False.elim h
    | succ n7 ih =>
      intro x2 ls H locs h hl hP hD hS
      unfold v_RT_toOf_L7 at h
      refine lv_iload_n hx hb d_RT_toOf_7 rfl (lv_at hl 1 rfl) ?_
      refine lv_bipush (v := 6) hx hb d_RT_toOf_8 (by decide) ?_
      refine lv_icmp_ge hx hb d_RT_toOf_10 (tgt := 29) (by decide) (fun hc => ?_) (fun hc => ?_)
      · have h := h.1 hc
        refine lv_iload_n hx hb d_RT_toOf_29 rfl (lv_at hl 1 rfl) ?_
        exact W.iret (v := x2) hx hb hr (fun t ht hW => ⟨⟨x2, (), rfl, h, by rw [ht]; exact hP, va_K.moved hW.alike hK, hD⟩, hS.F ht⟩) hS.2.2 d_RT_toOf_30
      · have h := h.2 hc
        refine lv_iload_n hx hb d_RT_toOf_13 rfl (lv_at hl 1 rfl) ?_
        refine lv_iconst (v := 1) hx hb d_RT_toOf_14 (by decide) ?_
        refine lv_iadd hx hb d_RT_toOf_15 ?_
        have hPc := hP.sub (ws' := []) [] rfl
        have hDc := hD.sub (ws' := []) [] (by decide) rfl
        have hFc := va_free (wc := []) hD hS hA [] rfl
        refine va_calli (va_runS (As := [.int (x2 + (1 : Int32))]) (rest := []) ⟨hx, hb, hml, hown, hts⟩ (c_RT_spansBefore l dC dI kI kC kZ kJ kB kS H.size (x2 + (1 : Int32)) h) ⟨callB_of 1 hts (gA tb_481) rfl rfl rfl (hT _ tb_43) (hT _ tb_479) (by decide +kernel) ⟨Nat.le_of_ble_eq_true rfl, Nat.le_of_ble_eq_true rfl⟩, (hT _ tb_480)⟩ ⟨fun a U g mk q => by obtain ⟨q0, q1, qP, qK, qD, qN⟩ := q; exact ⟨q0, q1, qP, va_K.moved (u := U) (U := U.calling g mk a) (Vm.Alike.refl U.vm) qK, qD, vNE.same (U := U.calling g mk a) rfl qN⟩, fun U hU hW => ⟨rfl, by rw [hU], by rw [hU]; exact hPc, va_K.moved hW.alike hK, hDc.weaken (fun _ _ _ _ => trivial), vNE.moved hW hN⟩⟩ rfl rfl hl.1 rfl (lv_room (Nat.le_of_ble_eq_true rfl)) d_RT_toOf_16 ⟨Nat.zero_le _, Nat.zero_le _⟩) hS (fun q _ h => hFc q h) hFc (fun r16 u t H_16 locs ht hvm h hB hz1 hk1 hS => ?_)
        obtain ⟨hP1, hK1, hD1⟩ := hB
        rw [ht] at hP1
        try dsimp only at h
        obtain ⟨hP, hD⟩ := va_join (wr := []) (w1 := []) hP hD [] [] rfl rfl (by decide) (by decide) hk1 hFc hP1 hD1
        have hP : va_P (dC, dI) vwCl [] H_16 := hP.sub (ws' := []) [] rfl
        have hD : va_D A [] := hD.sub (ws' := []) [] (by decide) rfl
        refine lv_iload_n hx hb d_RT_toOf_19 rfl (lv_at hl 0 rfl) ?_
        refine lv_icmp_gt hx hb d_RT_toOf_20 (tgt := 29) (by decide) (fun hc => ?_) (fun hc => ?_)
        · have h := h.1 hc
          refine lv_iload_n hx hb d_RT_toOf_29 rfl (lv_at hl 1 rfl) ?_
          exact W.iret (v := x2) hx hb hr (fun t ht hW => ⟨⟨x2, (), rfl, h, by rw [ht]; exact hP, va_K.moved hW.alike hK, hD⟩, hS.F ht⟩) hS.2.2 d_RT_toOf_30
        · have h := h.2 hc
          refine lv_iinc (k := 1) (v := (x2 + 1)) hx hb d_RT_toOf_23 hl rfl (congrArg (x2 + ·) (by decide)) (by decide) rfl (fun ls hl => ?_)
          have hl : lv_has ls 3 [(2, .int (x2 + 1)), (1, .int x1)] := hl
          refine lv_goto hx hb d_RT_toOf_26 (tgt := 7) (by decide) ?_
          exact ih (x2 + 1) _ _ _ h (lv_sub hl [1, 0] rfl) hP hD hS
  have hl := lv_entry ([.int a0]) (n := 3) (Nat.le_of_ble_eq_true rfl)
  rw [lg_entry_eq]
  generalize (lg_sl ([.int a0]) ++ List.replicate (3 - (lg_sl ([.int a0])).length) Slot.unset).toArray = ls at hl ⊢
  have hl : lv_has ls 3 [(0, .int a0)] := hl
  unfold v_RT_toOf at h
  refine lv_iload_n hx hb d_RT_toOf_0 rfl (lv_at hl 0 rfl) ?_
  refine lv_bipush (v := 40) hx hb d_RT_toOf_1 (by decide) ?_
  refine lv_idiv hx hb d_RT_toOf_3 (by decide) ?_
  refine lv_istore_n hx hb d_RT_toOf_4 rfl hl (by decide) rfl (fun ls hl => ?_)
  have hl : lv_has ls 3 [(1, .int (a0 / (40 : Int32))), (0, .int a0)] := hl
  refine lv_iconst (v := 1) hx hb d_RT_toOf_5 (by decide) ?_
  refine lv_istore_n hx hb d_RT_toOf_6 rfl hl (by decide) rfl (fun ls hl => ?_)
  have hl : lv_has ls 3 [(2, .int (1 : Int32)), (1, .int (a0 / (40 : Int32))), (0, .int a0)] := hl
  obtain ⟨k7, h⟩ := h
  exact L7 (a0 / (40 : Int32)) k7 (1 : Int32) _ _ _ h (lv_sub hl [1, 0] rfl) hP hD hS

def v_RT_fromOf (a0 : Int32) (post : Int32 → Prop) : Prop :=
  (v_RT_toOf a0 (fun r5 => (v_RT_spansBefore r5 (fun r8 => (post ((a0 / (40 : Int32)) - r8))))))
set_option maxHeartbeats 1000000 in
set_option maxRecDepth 100000 in
theorem c_RT_fromOf (l : Launch) (dC : Nat → ClassId) (dI : Nat → Nat → Nat) (kI kC kZ kJ kB kS : ClassId) (sz : Nat) (a0 : Int32) {post : Int32 → Prop} (h : v_RT_fromOf a0 post) : Met l y_RT_fromOf w_RT_fromOf ({ frames := 2, cells := 0, slots := 0, locals := 42 }) (va_Pc [.int a0] (fun U => U.heap.size = sz ∧ va_P (dC, dI) vwCl [] U.heap ∧ va_K (dC, dI) vwCl (vTY kI kC kZ kJ kB kS) U ∧ va_D (fun _ => True) [] ∧ vNE U)) (va_Qi (fun (r : Int32) (u : Unit) => post r) (fun u t => va_P (dC, dI) vwCl [] t.heap ∧ va_K (dC, dI) vwCl (vTY kI kC kZ kJ kB kS) t ∧ va_D (va_A [] sz) []) (va_A [] sz)) 0 0 (va_A [] sz) := by
  refine Met.ofW (cc := b_RT_fromOf) (maxL := 1) (ret := (some .int)) (by decide) rfl ?_
  intro p e s m args below meth c s₁ B hml hv
  obtain ⟨rfl, hsz, hP, hK, hD0, hN⟩ := hv
  have hx := B.exec
  have hb := B.bytes
  have hr := B.returns
  have hts := atoms_spec (ws := w_RT_fromOf) B.pre
  have hT : ∀ w ∈ TB, w.before ([.int a0] : List Value).toArray s = true := fun w h => hts w (List.mem_cons_of_mem _ h)
  have hown : s.vm.findClass R_RT = some m.cls := findClass_of_methodNamed B.named
  have hlocks := B.notSynchronized
  subst hsz
  have hD := hD0.self (sz := s.heap.size)
  generalize hAe : va_A [] s.heap.size = A at hD ⊢
  have hA : ∀ q : Nat, s.heap.size ≤ q → A q := fun q h => by rw [← hAe]; exact Or.inr h
  have hS : va_S A s.heap s.heap [] := va_S.rf
  have hl := lv_entry ([.int a0]) (n := 1) (Nat.le_of_ble_eq_true rfl)
  rw [lg_entry_eq]
  generalize (lg_sl ([.int a0]) ++ List.replicate (1 - (lg_sl ([.int a0])).length) Slot.unset).toArray = ls at hl ⊢
  have hl : lv_has ls 1 [(0, .int a0)] := hl
  unfold v_RT_fromOf at h
  refine lv_iload_n hx hb d_RT_fromOf_0 rfl (lv_at hl 0 rfl) ?_
  refine lv_bipush (v := 40) hx hb d_RT_fromOf_1 (by decide) ?_
  refine lv_idiv hx hb d_RT_fromOf_3 (by decide) ?_
  refine lv_iload_n hx hb d_RT_fromOf_4 rfl (lv_at hl 0 rfl) ?_
  have hPc := hP.sub (ws' := []) [] rfl
  have hDc := hD.sub (ws' := []) [] (by decide) rfl
  have hFc := va_free (wc := []) hD hS hA [] rfl
  refine va_calli (va_runS (As := [.int a0]) (rest := [.int (a0 / (40 : Int32))]) ⟨hx, hb, hml, hown, hts⟩ (c_RT_toOf l dC dI kI kC kZ kJ kB kS s.heap.size a0 h) ⟨callB_of 1 hts (gA tb_593) rfl rfl rfl (hT _ tb_43) (hT _ tb_591) (by decide +kernel) ⟨Nat.le_of_ble_eq_true rfl, Nat.le_of_ble_eq_true rfl⟩, (hT _ tb_592)⟩ ⟨fun a U g mk q => by obtain ⟨q0, q1, qP, qK, qD, qN⟩ := q; exact ⟨q0, q1, qP, va_K.moved (u := U) (U := U.calling g mk a) (Vm.Alike.refl U.vm) qK, qD, vNE.same (U := U.calling g mk a) rfl qN⟩, fun U hU hW => ⟨rfl, by rw [hU], by rw [hU]; exact hPc, va_K.moved hW.alike hK, hDc.weaken (fun _ _ _ _ => trivial), vNE.moved hW hN⟩⟩ rfl rfl hl.1 rfl (lv_room (Nat.le_of_ble_eq_true rfl)) d_RT_fromOf_5 ⟨Nat.zero_le _, Nat.zero_le _⟩) hS (fun q _ h => hFc q h) hFc (fun r5 u t H_5 locs ht hvm h hB hz1 hk1 hS => ?_)
  obtain ⟨hP1, hK1, hD1⟩ := hB
  rw [ht] at hP1
  try dsimp only at h
  obtain ⟨hP, hD⟩ := va_join (wr := []) (w1 := []) hP hD [] [] rfl rfl (by decide) (by decide) hk1 hFc hP1 hD1
  have hP : va_P (dC, dI) vwCl [] H_5 := hP.sub (ws' := []) [] rfl
  have hD : va_D A [] := hD.sub (ws' := []) [] (by decide) rfl
  have hPc := hP.sub (ws' := []) [] rfl
  have hDc := hD.sub (ws' := []) [] (by decide) rfl
  have hFc := va_free (wc := []) hD hS hA [] rfl
  refine va_calli (va_runS (As := [.int r5]) (rest := [.int (a0 / (40 : Int32))]) ⟨hx, hb, hml, hown, hts⟩ (c_RT_spansBefore l dC dI kI kC kZ kJ kB kS H_5.size r5 h) ⟨callB_of 1 hts (gA tb_481) rfl rfl rfl (hT _ tb_43) (hT _ tb_479) (by decide +kernel) ⟨Nat.le_of_ble_eq_true rfl, Nat.le_of_ble_eq_true rfl⟩, (hT _ tb_480)⟩ ⟨fun a U g mk q => by obtain ⟨q0, q1, qP, qK, qD, qN⟩ := q; exact ⟨q0, q1, qP, va_K.moved (u := U) (U := U.calling g mk a) (Vm.Alike.refl U.vm) qK, qD, vNE.same (U := U.calling g mk a) rfl qN⟩, fun U hU hW => ⟨rfl, by rw [hU], by rw [hU]; exact hPc, va_K.moved hW.alike hK, hDc.weaken (fun _ _ _ _ => trivial), vNE.moved hW hN⟩⟩ rfl rfl hl.1 rfl (lv_room (Nat.le_of_ble_eq_true rfl)) d_RT_fromOf_8 ⟨Nat.zero_le _, Nat.zero_le _⟩) hS (fun q _ h => hFc q h) hFc (fun r8 u t H_8 locs ht hvm h hB hz1 hk1 hS => ?_)
  obtain ⟨hP1, hK1, hD1⟩ := hB
  rw [ht] at hP1
  try dsimp only at h
  obtain ⟨hP, hD⟩ := va_join (wr := []) (w1 := []) hP hD [] [] rfl rfl (by decide) (by decide) hk1 hFc hP1 hD1
  have hP : va_P (dC, dI) vwCl [] H_8 := hP.sub (ws' := []) [] rfl
  have hD : va_D A [] := hD.sub (ws' := []) [] (by decide) rfl
  refine lv_isub hx hb d_RT_fromOf_11 ?_
  exact W.iret (v := ((a0 / (40 : Int32)) - r8)) hx hb hr (fun t ht hW => ⟨⟨((a0 / (40 : Int32)) - r8), (), rfl, h, by rw [ht]; exact hP, va_K.moved hW.alike hK, hD⟩, hS.F ht⟩) hS.2.2 d_RT_fromOf_12
