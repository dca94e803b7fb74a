set_option maxHeartbeats 1000000 in
set_option maxRecDepth 100000 in
theorem c_Forest_init (l : Launch) (dC : Nat → ClassId) (dI : Nat → Nat → Nat) (kI kC kZ kJ kB kS : ClassId) (qf : Nat) (sz : Nat) : Met l y_Forest_init w_Forest_init ({ frames := 1, cells := 4, slots := 5046, locals := 12 }) (va_Pc [.ref qf] (fun U => U.heap.size = sz ∧ va_P (dC, dI) vwCl [(qf, .inr (1, [.null, .null, .null, .null]))] U.heap ∧ va_K (dC, dI) vwCl (vTY kI kC kZ kJ kB kS) U ∧ va_D (fun _ => True) [(qf, .inr (1, [.null, .null, .null, .null]))] ∧ vNE U)) (va_Qv (fun (u : Nat × Nat × Nat × Nat) => True) (fun u t => va_P (dC, dI) vwCl [(qf, .inr (1, [.ref u.1, .ref u.2.1, .ref u.2.2.1, .ref u.2.2.2])), (u.1, .inl (kI, 841, .inl (fun _ => 0))), (u.2.1, .inl (kI, 841, .inl (fun _ => 0))), (u.2.2.1, .inl (kI, 841, .inl (fun _ => 0))), (u.2.2.2, .inl (kI, 2523, .inl (fun _ => 0)))] t.heap ∧ va_K (dC, dI) vwCl (vTY kI kC kZ kJ kB kS) t ∧ va_D (va_A [(qf, .inr (1, [.null, .null, .null, .null]))] sz) [(qf, .inr (1, [.ref u.1, .ref u.2.1, .ref u.2.2.1, .ref u.2.2.2])), (u.1, .inl (kI, 841, .inl (fun _ => 0))), (u.2.1, .inl (kI, 841, .inl (fun _ => 0))), (u.2.2.1, .inl (kI, 841, .inl (fun _ => 0))), (u.2.2.2, .inl (kI, 2523, .inl (fun _ => 0)))]) (va_A [(qf, .inr (1, [.null, .null, .null, .null]))] sz)) 4 5046 (va_A [(qf, .inr (1, [.null, .null, .null, .null]))] sz) := by
  refine Met.ofW (cc := b_Forest_init) (maxL := 1) (ret := none) (by decide) rfl ?_
  intro p e s m args below meth c s₁ B hml hv
  obtain ⟨rfl, hsz, hP, hK, hD0, hN⟩ := hv
  have hx := B.exec
  have hb := B.bytes
  have hr := B.returns
  have hts := atoms_spec (ws := w_Forest_init) B.pre
  have hT : ∀ w ∈ TB, w.before ([.ref qf] : List Value).toArray s = true := fun w h => hts w (List.mem_cons_of_mem _ h)
  have hown : s.vm.findClass R_Forest = some m.cls := findClass_of_methodNamed B.named
  have hlocks := B.notSynchronized
  have hin : meth.name = "<init>" := (name_of_methodNamed B.named B.method).1
  subst hsz
  have hD := hD0.self (sz := s.heap.size)
  generalize hAe : va_A [(qf, .inr (1, [.null, .null, .null, .null]))] s.heap.size = A at hD ⊢
  have hA : ∀ q : Nat, s.heap.size ≤ q → A q := fun q h => by rw [← hAe]; exact Or.inr h
  have hS : va_S A s.heap s.heap [] := va_S.rf
  have hl := lv_entry ([.ref qf]) (n := 1) (Nat.le_of_ble_eq_true rfl)
  rw [lg_entry_eq]
  generalize (lg_sl ([.ref qf]) ++ List.replicate (1 - (lg_sl ([.ref qf])).length) Slot.unset).toArray = ls at hl ⊢
  have hl : lv_has ls 1 [(0, .ref qf)] := hl
  refine lv_aload_n hx hb d_Forest_init_0 rfl (lv_at hl 0 rfl) ?_
  refine W.objInit hx hb hown (hT _ tb_170) (hT _ tb_64) (hT _ tb_65) rfl (by rw [hml]; exact hl.1) rfl d_Forest_init_1 (Nat.le_of_ble_eq_true rfl) (Nat.le_of_ble_eq_true rfl) ?_
  refine W.eq (g2 := F0 m 4 ls []) rfl ?_
  refine lv_aload_n hx hb d_Forest_init_4 rfl (lv_at hl 0 rfl) ?_
  refine lv_sipush (v := 841) hx hb d_Forest_init_5 (by decide) ?_
  refine va_newa (atype := .int) (ty := .int) (a0 := (841, .inl (fun _ => 0))) hx hb (hT _ tb_157) rfl hK hP hD hS hA (fun _ => rfl) (by decide) (by decide) (by decide) (Nat.le_of_ble_eq_true rfl) (Nat.le_of_ble_eq_true rfl) d_Forest_init_8 (fun a8 kk H8 hKn hP hD hS => ?_)
  obtain rfl : kI = kk := Option.some.inj (((hK.2 0 (kI, .int) rfl).2).symm.trans (hKn.2 6 (kk, .int) rfl).2)
  have hP : va_P (dC, dI) vwCl [(qf, .inr (1, [.null, .null, .null, .null])), (a8, .inl (kI, 841, .inl (fun _ => 0)))] H8 := hP
  have hD : va_D A [(qf, .inr (1, [.null, .null, .null, .null])), (a8, .inl (kI, 841, .inl (fun _ => 0)))] := hD
  refine W.widen (k := 1) (n := 841) (by decide) (by decide) ?_
  refine va_putF (D := (dC, dI)) (ci := 1) (v := .ref a8) (ty := .array .int) (C := R_Forest) (T := T_Forest) (N := 4) hx hb hT hn_Forest t_Forest tk_Forest nk_Forest hown hK hP hD hS 0 rfl rfl 0 (by decide) (hT _ tb_171) (fun _ h9 => h9) rfl hin rfl (by decide +kernel) rfl rfl (Nat.le_of_ble_eq_true rfl) d_Forest_init_10 (fun H10 locs hP hD hS => ?_)
  have hP : va_P (dC, dI) vwCl [(qf, .inr (1, [.ref a8, .null, .null, .null])), (a8, .inl (kI, 841, .inl (fun _ => 0)))] H10 := hP
  have hD : va_D A [(qf, .inr (1, [.ref a8, .null, .null, .null])), (a8, .inl (kI, 841, .inl (fun _ => 0)))] := hD
  refine lv_aload_n hx hb d_Forest_init_13 rfl (lv_at hl 0 rfl) ?_
  refine lv_sipush (v := 841) hx hb d_Forest_init_14 (by decide) ?_
  refine va_newa (atype := .int) (ty := .int) (a0 := (841, .inl (fun _ => 0))) hx hb (hT _ tb_157) rfl hK hP hD hS hA (fun _ => rfl) (by decide) (by decide) (by decide) (Nat.le_of_ble_eq_true rfl) (Nat.le_of_ble_eq_true rfl) d_Forest_init_17 (fun a17 kk H17 hKn hP hD hS => ?_)
  obtain rfl : kI = kk := Option.some.inj (((hK.2 0 (kI, .int) rfl).2).symm.trans (hKn.2 6 (kk, .int) rfl).2)
  have hP : va_P (dC, dI) vwCl [(qf, .inr (1, [.ref a8, .null, .null, .null])), (a8, .inl (kI, 841, .inl (fun _ => 0))), (a17, .inl (kI, 841, .inl (fun _ => 0)))] H17 := hP
  have hD : va_D A [(qf, .inr (1, [.ref a8, .null, .null, .null])), (a8, .inl (kI, 841, .inl (fun _ => 0))), (a17, .inl (kI, 841, .inl (fun _ => 0)))] := hD
  refine W.widen (k := 2) (n := 1682) (by decide) (by decide) ?_
  refine va_putF (D := (dC, dI)) (ci := 1) (v := .ref a17) (ty := .array .int) (C := R_Forest) (T := T_Forest) (N := 4) hx hb hT hn_Forest t_Forest tk_Forest nk_Forest hown hK hP hD hS 0 rfl rfl 1 (by decide) (hT _ tb_173) (fun _ h9 => h9) rfl hin rfl (by decide +kernel) rfl rfl (Nat.le_of_ble_eq_true rfl) d_Forest_init_19 (fun H19 locs hP hD hS => ?_)
  have hP : va_P (dC, dI) vwCl [(qf, .inr (1, [.ref a8, .ref a17, .null, .null])), (a8, .inl (kI, 841, .inl (fun _ => 0))), (a17, .inl (kI, 841, .inl (fun _ => 0)))] H19 := hP
  have hD : va_D A [(qf, .inr (1, [.ref a8, .ref a17, .null, .null])), (a8, .inl (kI, 841, .inl (fun _ => 0))), (a17, .inl (kI, 841, .inl (fun _ => 0)))] := hD
  refine lv_aload_n hx hb d_Forest_init_22 rfl (lv_at hl 0 rfl) ?_
  refine lv_sipush (v := 841) hx hb d_Forest_init_23 (by decide) ?_
  refine va_newa (atype := .int) (ty := .int) (a0 := (841, .inl (fun _ => 0))) hx hb (hT _ tb_157) rfl hK hP hD hS hA (fun _ => rfl) (by decide) (by decide) (by decide) (Nat.le_of_ble_eq_true rfl) (Nat.le_of_ble_eq_true rfl) d_Forest_init_26 (fun a26 kk H26 hKn hP hD hS => ?_)
  obtain rfl : kI = kk := Option.some.inj (((hK.2 0 (kI, .int) rfl).2).symm.trans (hKn.2 6 (kk, .int) rfl).2)
  have hP : va_P (dC, dI) vwCl [(qf, .inr (1, [.ref a8, .ref a17, .null, .null])), (a8, .inl (kI, 841, .inl (fun _ => 0))), (a17, .inl (kI, 841, .inl (fun _ => 0))), (a26, .inl (kI, 841, .inl (fun _ => 0)))] H26 := hP
  have hD : va_D A [(qf, .inr (1, [.ref a8, .ref a17, .null, .null])), (a8, .inl (kI, 841, .inl (fun _ => 0))), (a17, .inl (kI, 841, .inl (fun _ => 0))), (a26, .inl (kI, 841, .inl (fun _ => 0)))] := hD
  refine W.widen (k := 3) (n := 2523) (by decide) (by decide) ?_
  refine va_putF (D := (dC, dI)) (ci := 1) (v := .ref a26) (ty := .array .int) (C := R_Forest) (T := T_Forest) (N := 4) hx hb hT hn_Forest t_Forest tk_Forest nk_Forest hown hK hP hD hS 0 rfl rfl 2 (by decide) (hT _ tb_175) (fun _ h9 => h9) rfl hin rfl (by decide +kernel) rfl rfl (Nat.le_of_ble_eq_true rfl) d_Forest_init_28 (fun H28 locs hP hD hS => ?_)
  have hP : va_P (dC, dI) vwCl [(qf, .inr (1, [.ref a8, .ref a17, .ref a26, .null])), (a8, .inl (kI, 841, .inl (fun _ => 0))), (a17, .inl (kI, 841, .inl (fun _ => 0))), (a26, .inl (kI, 841, .inl (fun _ => 0)))] H28 := hP
  have hD : va_D A [(qf, .inr (1, [.ref a8, .ref a17, .ref a26, .null])), (a8, .inl (kI, 841, .inl (fun _ => 0))), (a17, .inl (kI, 841, .inl (fun _ => 0))), (a26, .inl (kI, 841, .inl (fun _ => 0)))] := hD
  refine lv_aload_n hx hb d_Forest_init_31 rfl (lv_at hl 0 rfl) ?_
  refine lv_sipush (v := 2523) hx hb d_Forest_init_32 (by decide) ?_
  refine va_newa (atype := .int) (ty := .int) (a0 := (2523, .inl (fun _ => 0))) hx hb (hT _ tb_157) rfl hK hP hD hS hA (fun _ => rfl) (by decide) (by decide) (by decide) (Nat.le_of_ble_eq_true rfl) (Nat.le_of_ble_eq_true rfl) d_Forest_init_35 (fun a35 kk H35 hKn hP hD hS => ?_)
  obtain rfl : kI = kk := Option.some.inj (((hK.2 0 (kI, .int) rfl).2).symm.trans (hKn.2 6 (kk, .int) rfl).2)
  have hP : va_P (dC, dI) vwCl [(qf, .inr (1, [.ref a8, .ref a17, .ref a26, .null])), (a8, .inl (kI, 841, .inl (fun _ => 0))), (a17, .inl (kI, 841, .inl (fun _ => 0))), (a26, .inl (kI, 841, .inl (fun _ => 0))), (a35, .inl (kI, 2523, .inl (fun _ => 0)))] H35 := hP
  have hD : va_D A [(qf, .inr (1, [.ref a8, .ref a17, .ref a26, .null])), (a8, .inl (kI, 841, .inl (fun _ => 0))), (a17, .inl (kI, 841, .inl (fun _ => 0))), (a26, .inl (kI, 841, .inl (fun _ => 0))), (a35, .inl (kI, 2523, .inl (fun _ => 0)))] := hD
  refine W.widen (k := 4) (n := 5046) (by decide) (by decide) ?_
  refine va_putF (D := (dC, dI)) (ci := 1) (v := .ref a35) (ty := .array .int) (C := R_Forest) (T := T_Forest) (N := 4) hx hb hT hn_Forest t_Forest tk_Forest nk_Forest hown hK hP hD hS 0 rfl rfl 3 (by decide) (hT _ tb_177) (fun _ h9 => h9) rfl hin rfl (by decide +kernel) rfl rfl (Nat.le_of_ble_eq_true rfl) d_Forest_init_37 (fun H37 locs hP hD hS => ?_)
  have hP : va_P (dC, dI) vwCl [(qf, .inr (1, [.ref a8, .ref a17, .ref a26, .ref a35])), (a8, .inl (kI, 841, .inl (fun _ => 0))), (a17, .inl (kI, 841, .inl (fun _ => 0))), (a26, .inl (kI, 841, .inl (fun _ => 0))), (a35, .inl (kI, 2523, .inl (fun _ => 0)))] H37 := hP
  have hD : va_D A [(qf, .inr (1, [.ref a8, .ref a17, .ref a26, .ref a35])), (a8, .inl (kI, 841, .inl (fun _ => 0))), (a17, .inl (kI, 841, .inl (fun _ => 0))), (a26, .inl (kI, 841, .inl (fun _ => 0))), (a35, .inl (kI, 2523, .inl (fun _ => 0)))] := hD
  exact W.vret hx hb hr (fun t ht hW => ⟨⟨(a8, a17, a26, a35), rfl, trivial, by rw [ht]; exact hP, va_K.moved hW.alike hK, hD⟩, hS.F ht⟩) hS.2.2 d_Forest_init_40

def v_Forest_beginDraft (a1 : Int32) (a2 : Int32) (fO : Nat → Int32) (fW : Nat → Int32) (fZ : Nat → Int32) (post : (Nat → Int32) → (Nat → Int32) → (Nat → Int32) → Prop) : Prop :=
  (vp_in (840 : Int32) 841 ∧ (vp_in (840 : Int32) 841 ∧ (vp_in (840 : Int32) 841 ∧ (post (upd fO (840 : Int32).toNatClampNeg a1) (upd fW (840 : Int32).toNatClampNeg a2) (upd fZ (840 : Int32).toNatClampNeg (1 : Int32))))))
set_option maxHeartbeats 1000000 in
set_option maxRecDepth 100000 in
theorem c_Forest_beginDraft (l : Launch) (dC : Nat → ClassId) (dI : Nat → Nat → Nat) (kI kC kZ kJ kB kS : ClassId) (qf qfO qfW qfZ qfC : Nat) (sz : Nat) (fO : Nat → Int32) (fW : Nat → Int32) (fZ : Nat → Int32) (a1 : Int32) (a2 : Int32) {post : (Nat → Int32) → (Nat → Int32) → (Nat → Int32) → Prop} (h : v_Forest_beginDraft a1 a2 fO fW fZ post) : Met l y_Forest_beginDraft w_Forest_beginDraft ({ frames := 0, cells := 0, slots := 0, locals := 0 }) (va_Pc [.ref qf, .int a1, .int a2] (fun U => U.heap.size = sz ∧ va_P (dC, dI) vwCl [(qf, .inr (1, [.ref qfO, .ref qfW, .ref qfZ, .ref qfC])), (qfO, .inl (kI, 841, .inl fO)), (qfW, .inl (kI, 841, .inl fW)), (qfZ, .inl (kI, 841, .inl fZ))] U.heap ∧ va_K (dC, dI) vwCl (vTY kI kC kZ kJ kB kS) U ∧ va_D (fun _ => True) [(qf, .inr (1, [.ref qfO, .ref qfW, .ref qfZ, .ref qfC])), (qfO, .inl (kI, 841, .inl fO)), (qfW, .inl (kI, 841, .inl fW)), (qfZ, .inl (kI, 841, .inl fZ))] ∧ vNE U)) (va_Qv (fun (u : (Nat → Int32) × (Nat → Int32) × (Nat → Int32)) => post u.1 u.2.1 u.2.2) (fun u t => va_P (dC, dI) vwCl [(qf, .inr (1, [.ref qfO, .ref qfW, .ref qfZ, .ref qfC])), (qfO, .inl (kI, 841, .inl u.1)), (qfW, .inl (kI, 841, .inl u.2.1)), (qfZ, .inl (kI, 841, .inl u.2.2))] t.heap ∧ va_K (dC, dI) vwCl (vTY kI kC kZ kJ kB kS) t ∧ va_D (va_A [(qf, .inr (1, [.ref qfO, .ref qfW, .ref qfZ, .ref qfC])), (qfO, .inl (kI, 841, .inl fO)), (qfW, .inl (kI, 841, .inl fW)), (qfZ, .inl (kI, 841, .inl fZ))] sz) [(qf, .inr (1, [.ref qfO, .ref qfW, .ref qfZ, .ref qfC])), (qfO, .inl (kI, 841, .inl u.1)), (qfW, .inl (kI, 841, .inl u.2.1)), (qfZ, .inl (kI, 841, .inl u.2.2))]) (va_A [(qf, .inr (1, [.ref qfO, .ref qfW, .ref qfZ, .ref qfC])), (qfO, .inl (kI, 841, .inl fO)), (qfW, .inl (kI, 841, .inl fW)), (qfZ, .inl (kI, 841, .inl fZ))] sz)) 0 0 (va_A [(qf, .inr (1, [.ref qfO, .ref qfW, .ref qfZ, .ref qfC])), (qfO, .inl (kI, 841, .inl fO)), (qfW, .inl (kI, 841, .inl fW)), (qfZ, .inl (kI, 841, .inl fZ))] sz) := by
  refine Met.ofW (cc := b_Forest_beginDraft) (maxL := 3) (ret := none) (by decide) rfl ?_
  intro p e s m args below meth c s₁ B hml hv
  obtain ⟨rfl, hsz, hP, hK, hD0, hN⟩ := hv
  have hx := B.exec
  have hb := B.bytes
  have hr := B.returns
  have hts := atoms_spec (ws := w_Forest_beginDraft) B.pre
  have hT : ∀ w ∈ TB, w.before ([.ref qf, .int a1, .int a2] : List Value).toArray s = true := fun w h => hts w (List.mem_cons_of_mem _ h)
  have hown : s.vm.findClass R_Forest = some m.cls := findClass_of_methodNamed B.named
  have hlocks := B.notSynchronized
  subst hsz
  have hD := hD0.self (sz := s.heap.size)
  generalize hAe : va_A [(qf, .inr (1, [.ref qfO, .ref qfW, .ref qfZ, .ref qfC])), (qfO, .inl (kI, 841, .inl fO)), (qfW, .inl (kI, 841, .inl fW)), (qfZ, .inl (kI, 841, .inl fZ))] s.heap.size = A at hD ⊢
  have hA : ∀ q : Nat, s.heap.size ≤ q → A q := fun q h => by rw [← hAe]; exact Or.inr h
  have hS : va_S A s.heap s.heap [] := va_S.rf
  have hl := lv_entry ([.ref qf, .int a1, .int a2]) (n := 3) (Nat.le_of_ble_eq_true rfl)
  rw [lg_entry_eq]
  generalize (lg_sl ([.ref qf, .int a1, .int a2]) ++ List.replicate (3 - (lg_sl ([.ref qf, .int a1, .int a2])).length) Slot.unset).toArray = ls at hl ⊢
  have hl : lv_has ls 3 [(0, .ref qf), (1, .int a1), (2, .int a2)] := hl
  unfold v_Forest_beginDraft at h
  refine lv_aload_n hx hb d_Forest_beginDraft_0 rfl (lv_at hl 0 rfl) ?_
  refine va_get (D := (dC, dI)) (ci := 1) (v := .ref qfO) (C := R_Forest) (T := T_Forest) (N := 4) hx hb hT hn_Forest hown hK hP 0 rfl rfl 0 (by decide) (hT _ tb_171) (fun _ h9 => h9) rfl d_Forest_beginDraft_1 ?_
  refine lv_sipush (v := 840) hx hb d_Forest_beginDraft_4 (by decide) ?_
  refine lv_iload_n hx hb d_Forest_beginDraft_7 rfl (lv_at hl 1 rfl) ?_
  refine va_iast hx hb hK hP hD hS 1 0 rfl rfl h.1 d_Forest_beginDraft_8 (fun H_8 locs hP hD hS => ?_)
  have hP : va_P (dC, dI) vwCl [(qf, .inr (1, [.ref qfO, .ref qfW, .ref qfZ, .ref qfC])), (qfO, .inl (kI, 841, .inl (upd fO (840 : Int32).toNatClampNeg a1))), (qfW, .inl (kI, 841, .inl fW)), (qfZ, .inl (kI, 841, .inl fZ))] H_8 := hP
  have hD : va_D A [(qf, .inr (1, [.ref qfO, .ref qfW, .ref qfZ, .ref qfC])), (qfO, .inl (kI, 841, .inl (upd fO (840 : Int32).toNatClampNeg a1))), (qfW, .inl (kI, 841, .inl fW)), (qfZ, .inl (kI, 841, .inl fZ))] := hD
  have h := h.2
  refine lv_aload_n hx hb d_Forest_beginDraft_9 rfl (lv_at hl 0 rfl) ?_
  refine va_get (D := (dC, dI)) (ci := 1) (v := .ref qfW) (C := R_Forest) (T := T_Forest) (N := 4) hx hb hT hn_Forest hown hK hP 0 rfl rfl 1 (by decide) (hT _ tb_173) (fun _ h9 => h9) rfl d_Forest_beginDraft_10 ?_
  refine lv_sipush (v := 840) hx hb d_Forest_beginDraft_13 (by decide) ?_
  refine lv_iload_n hx hb d_Forest_beginDraft_16 rfl (lv_at hl 2 rfl) ?_
  refine va_iast hx hb hK hP hD hS 2 0 rfl rfl h.1 d_Forest_beginDraft_17 (fun H_17 locs hP hD hS => ?_)
  have hP : va_P (dC, dI) vwCl [(qf, .inr (1, [.ref qfO, .ref qfW, .ref qfZ, .ref qfC])), (qfO, .inl (kI, 841, .inl (upd fO (840 : Int32).toNatClampNeg a1))), (qfW, .inl (kI, 841, .inl (upd fW (840 : Int32).toNatClampNeg a2))), (qfZ, .inl (kI, 841, .inl fZ))] H_17 := hP
  have hD : va_D A [(qf, .inr (1, [.ref qfO, .ref qfW, .ref qfZ, .ref qfC])), (qfO, .inl (kI, 841, .inl (upd fO (840 : Int32).toNatClampNeg a1))), (qfW, .inl (kI, 841, .inl (upd fW (840 : Int32).toNatClampNeg a2))), (qfZ, .inl (kI, 841, .inl fZ))] := hD
  have h := h.2
  refine lv_aload_n hx hb d_Forest_beginDraft_18 rfl (lv_at hl 0 rfl) ?_
  refine va_get (D := (dC, dI)) (ci := 1) (v := .ref qfZ) (C := R_Forest) (T := T_Forest) (N := 4) hx hb hT hn_Forest hown hK hP 0 rfl rfl 2 (by decide) (hT _ tb_175) (fun _ h9 => h9) rfl d_Forest_beginDraft_19 ?_
  refine lv_sipush (v := 840) hx hb d_Forest_beginDraft_22 (by decide) ?_
  refine lv_iconst (v := 1) hx hb d_Forest_beginDraft_25 (by decide) ?_
  refine va_iast hx hb hK hP hD hS 3 0 rfl rfl h.1 d_Forest_beginDraft_26 (fun H_26 locs hP hD hS => ?_)
  have hP : va_P (dC, dI) vwCl [(qf, .inr (1, [.ref qfO, .ref qfW, .ref qfZ, .ref qfC])), (qfO, .inl (kI, 841, .inl (upd fO (840 : Int32).toNatClampNeg a1))), (qfW, .inl (kI, 841, .inl (upd fW (840 : Int32).toNatClampNeg a2))), (qfZ, .inl (kI, 841, .inl (upd fZ (840 : Int32).toNatClampNeg (1 : Int32))))] H_26 := hP
  have hD : va_D A [(qf, .inr (1, [.ref qfO, .ref qfW, .ref qfZ, .ref qfC])), (qfO, .inl (kI, 841, .inl (upd fO (840 : Int32).toNatClampNeg a1))), (qfW, .inl (kI, 841, .inl (upd fW (840 : Int32).toNatClampNeg a2))), (qfZ, .inl (kI, 841, .inl (upd fZ (840 : Int32).toNatClampNeg (1 : Int32))))] := hD
  have h := h.2
  exact W.vret hx hb hr (fun t ht hW => ⟨⟨((upd fO (840 : Int32).toNatClampNeg a1), (upd fW (840 : Int32).toNatClampNeg a2), (upd fZ (840 : Int32).toNatClampNeg (1 : Int32))), rfl, h, by rw [ht]; exact hP, va_K.moved hW.alike hK, hD⟩, hS.F ht⟩) hS.2.2 d_Forest_beginDraft_27

def v_Forest_addToDraft (a1 : Int32) (a2 : Int32) (fW : Nat → Int32) (fZ : Nat → Int32) (fC : Nat → Int32) (post : (Nat → Int32) → (Nat → Int32) → (Nat → Int32) → Prop) : Prop :=
  (vp_in ((2520 : Int32) + a1) 2523 ∧ ((a2 = (-1 : Int32) → (post fW fZ (upd fC ((2520 : Int32) + a1).toNatClampNeg a2))) ∧ (¬ a2 = (-1 : Int32) → (vp_in (840 : Int32) 841 ∧ (vp_in a2 841 ∧ (vp_in (840 : Int32) 841 ∧ (vp_in (840 : Int32) 841 ∧ (vp_in a2 841 ∧ (vp_in (840 : Int32) 841 ∧ (post (upd fW (840 : Int32).toNatClampNeg ((fW (840 : Int32).toNatClampNeg) + (fW a2.toNatClampNeg))) (upd fZ (840 : Int32).toNatClampNeg ((fZ (840 : Int32).toNatClampNeg) + (fZ a2.toNatClampNeg))) (upd fC ((2520 : Int32) + a1).toNatClampNeg a2)))))))))))
set_option maxHeartbeats 1000000 in
set_option maxRecDepth 100000 in
theorem c_Forest_addToDraft (l : Launch) (dC : Nat → ClassId) (dI : Nat → Nat → Nat) (kI kC kZ kJ kB kS : ClassId) (qf qfO qfW qfZ qfC : Nat) (sz : Nat) (fW : Nat → Int32) (fZ : Nat → Int32) (fC : Nat → Int32) (a1 : Int32) (a2 : Int32) {post : (Nat → Int32) → (Nat → Int32) → (Nat → Int32) → Prop} (h : v_Forest_addToDraft a1 a2 fW fZ fC post) : Met l y_Forest_addToDraft w_Forest_addToDraft ({ frames := 0, cells := 0, slots := 0, locals := 0 }) (va_Pc [.ref qf, .int a1, .int a2] (fun U => U.heap.size = sz ∧ va_P (dC, dI) vwCl [(qf, .inr (1, [.ref qfO, .ref qfW, .ref qfZ, .ref qfC])), (qfW, .inl (kI, 841, .inl fW)), (qfZ, .inl (kI, 841, .inl fZ)), (qfC, .inl (kI, 2523, .inl fC))] U.heap ∧ va_K (dC, dI) vwCl (vTY kI kC kZ kJ kB kS) U ∧ va_D (fun _ => True) [(qf, .inr (1, [.ref qfO, .ref qfW, .ref qfZ, .ref qfC])), (qfW, .inl (kI, 841, .inl fW)), (qfZ, .inl (kI, 841, .inl fZ)), (qfC, .inl (kI, 2523, .inl fC))] ∧ vNE U)) (va_Qv (fun (u : (Nat → Int32) × (Nat → Int32) × (Nat → Int32)) => post u.1 u.2.1 u.2.2) (fun u t => va_P (dC, dI) vwCl [(qf, .inr (1, [.ref qfO, .ref qfW, .ref qfZ, .ref qfC])), (qfW, .inl (kI, 841, .inl u.1)), (qfZ, .inl (kI, 841, .inl u.2.1)), (qfC, .inl (kI, 2523, .inl u.2.2))] t.heap ∧ va_K (dC, dI) vwCl (vTY kI kC kZ kJ kB kS) t ∧ va_D (va_A [(qf, .inr (1, [.ref qfO, .ref qfW, .ref qfZ, .ref qfC])), (qfW, .inl (kI, 841, .inl fW)), (qfZ, .inl (kI, 841, .inl fZ)), (qfC, .inl (kI, 2523, .inl fC))] sz) [(qf, .inr (1, [.ref qfO, .ref qfW, .ref qfZ, .ref qfC])), (qfW, .inl (kI, 841, .inl u.1)), (qfZ, .inl (kI, 841, .inl u.2.1)), (qfC, .inl (kI, 2523, .inl u.2.2))]) (va_A [(qf, .inr (1, [.ref qfO, .ref qfW, .ref qfZ, .ref qfC])), (qfW, .inl (kI, 841, .inl fW)), (qfZ, .inl (kI, 841, .inl fZ)), (qfC, .inl (kI, 2523, .inl fC))] sz)) 0 0 (va_A [(qf, .inr (1, [.ref qfO, .ref qfW, .ref qfZ, .ref qfC])), (qfW, .inl (kI, 841, .inl fW)), (qfZ, .inl (kI, 841, .inl fZ)), (qfC, .inl (kI, 2523, .inl fC))] sz) := by
  refine Met.ofW (cc := b_Forest_addToDraft) (maxL := 3) (ret := none) (by decide) rfl ?_
  intro p e s m args below meth c s₁ B hml hv
  obtain ⟨rfl, hsz, hP, hK, hD0, hN⟩ := hv
  have hx := B.exec
  have hb := B.bytes
  have hr := B.returns
  have hts := atoms_spec (ws := w_Forest_addToDraft) B.pre
  have hT : ∀ w ∈ TB, w.before ([.ref qf, .int a1, .int a2] : List Value).toArray s = true := fun w h => hts w (List.mem_cons_of_mem _ h)
  have hown : s.vm.findClass R_Forest = some m.cls := findClass_of_methodNamed B.named
  have hlocks := B.notSynchronized
  subst hsz
  have hD := hD0.self (sz := s.heap.size)
  generalize hAe : va_A [(qf, .inr (1, [.ref qfO, .ref qfW, .ref qfZ, .ref qfC])), (qfW, .inl (kI, 841, .inl fW)), (qfZ, .inl (kI, 841, .inl fZ)), (qfC, .inl (kI, 2523, .inl fC))] s.heap.size = A at hD ⊢
  have hA : ∀ q : Nat, s.heap.size ≤ q → A q := fun q h => by rw [← hAe]; exact Or.inr h
  have hS : va_S A s.heap s.heap [] := va_S.rf
  have hl := lv_entry ([.ref qf, .int a1, .int a2]) (n := 3) (Nat.le_of_ble_eq_true rfl)
  rw [lg_entry_eq]
  generalize (lg_sl ([.ref qf, .int a1, .int a2]) ++ List.replicate (3 - (lg_sl ([.ref qf, .int a1, .int a2])).length) Slot.unset).toArray = ls at hl ⊢
  have hl : lv_has ls 3 [(0, .ref qf), (1, .int a1), (2, .int a2)] := hl
  unfold v_Forest_addToDraft at h
  refine lv_aload_n hx hb d_Forest_addToDraft_0 rfl (lv_at hl 0 rfl) ?_
  refine va_get (D := (dC, dI)) (ci := 1) (v := .ref qfC) (C := R_Forest) (T := T_Forest) (N := 4) hx hb hT hn_Forest hown hK hP 0 rfl rfl 3 (by decide) (hT _ tb_177) (fun _ h9 => h9) rfl d_Forest_addToDraft_1 ?_
  refine lv_sipush (v := 2520) hx hb d_Forest_addToDraft_4 (by decide) ?_
  refine lv_iload_n hx hb d_Forest_addToDraft_7 rfl (lv_at hl 1 rfl) ?_
  refine lv_iadd hx hb d_Forest_addToDraft_8 ?_
  refine lv_iload_n hx hb d_Forest_addToDraft_9 rfl (lv_at hl 2 rfl) ?_
  refine va_iast hx hb hK hP hD hS 3 0 rfl rfl h.1 d_Forest_addToDraft_10 (fun H_10 locs hP hD hS => ?_)
  have hP : va_P (dC, dI) vwCl [(qf, .inr (1, [.ref qfO, .ref qfW, .ref qfZ, .ref qfC])), (qfW, .inl (kI, 841, .inl fW)), (qfZ, .inl (kI, 841, .inl fZ)), (qfC, .inl (kI, 2523, .inl (upd fC ((2520 : Int32) + a1).toNatClampNeg a2)))] H_10 := hP
  have hD : va_D A [(qf, .inr (1, [.ref qfO, .ref qfW, .ref qfZ, .ref qfC])), (qfW, .inl (kI, 841, .inl fW)), (qfZ, .inl (kI, 841, .inl fZ)), (qfC, .inl (kI, 2523, .inl (upd fC ((2520 : Int32) + a1).toNatClampNeg a2)))] := hD
  have h := h.2
  refine lv_iload_n hx hb d_Forest_addToDraft_11 rfl (lv_at hl 2 rfl) ?_
  refine lv_iconst (v := -1) hx hb d_Forest_addToDraft_12 (by decide) ?_
  refine lv_icmp_eq hx hb d_Forest_addToDraft_13 (tgt := 50) (by decide) (fun hc => ?_) (fun hc => ?_)
  · have h := h.1 hc
    exact W.vret hx hb hr (fun t ht hW => ⟨⟨(fW, fZ, (upd fC ((2520 : Int32) + a1).toNatClampNeg a2)), rfl, h, by rw [ht]; exact hP, va_K.moved hW.alike hK, hD⟩, hS.F ht⟩) hS.2.2 d_Forest_addToDraft_50
  · have h := h.2 hc
    refine lv_aload_n hx hb d_Forest_addToDraft_16 rfl (lv_at hl 0 rfl) ?_
    refine va_get (D := (dC, dI)) (ci := 1) (v := .ref qfW) (C := R_Forest) (T := T_Forest) (N := 4) hx hb hT hn_Forest hown hK hP 0 rfl rfl 1 (by decide) (hT _ tb_173) (fun _ h9 => h9) rfl d_Forest_addToDraft_17 ?_
    refine lv_sipush (v := 840) hx hb d_Forest_addToDraft_20 (by decide) ?_
    refine lv_dup2_11 hx hb d_Forest_addToDraft_23 rfl rfl ?_
    refine va_iald hx hb hK hP 1 0 rfl rfl h.1 d_Forest_addToDraft_24 ?_
    have h := h.2
    refine lv_aload_n hx hb d_Forest_addToDraft_25 rfl (lv_at hl 0 rfl) ?_
    refine va_get (D := (dC, dI)) (ci := 1) (v := .ref qfW) (C := R_Forest) (T := T_Forest) (N := 4) hx hb hT hn_Forest hown hK hP 0 rfl rfl 1 (by decide) (hT _ tb_173) (fun _ h9 => h9) rfl d_Forest_addToDraft_26 ?_
    refine lv_iload_n hx hb d_Forest_addToDraft_29 rfl (lv_at hl 2 rfl) ?_
    refine va_iald hx hb hK hP 1 0 rfl rfl h.1 d_Forest_addToDraft_30 ?_
    have h := h.2
    refine lv_iadd hx hb d_Forest_addToDraft_31 ?_
    refine va_iast hx hb hK hP hD hS 1 0 rfl rfl h.1 d_Forest_addToDraft_32 (fun H_32 locs hP hD hS => ?_)
    have hP : va_P (dC, dI) vwCl [(qf, .inr (1, [.ref qfO, .ref qfW, .ref qfZ, .ref qfC])), (qfW, .inl (kI, 841, .inl (upd fW (840 : Int32).toNatClampNeg ((fW (840 : Int32).toNatClampNeg) + (fW a2.toNatClampNeg))))), (qfZ, .inl (kI, 841, .inl fZ)), (qfC, .inl (kI, 2523, .inl (upd fC ((2520 : Int32) + a1).toNatClampNeg a2)))] H_32 := hP
    have hD : va_D A [(qf, .inr (1, [.ref qfO, .ref qfW, .ref qfZ, .ref qfC])), (qfW, .inl (kI, 841, .inl (upd fW (840 : Int32).toNatClampNeg ((fW (840 : Int32).toNatClampNeg) + (fW a2.toNatClampNeg))))), (qfZ, .inl (kI, 841, .inl fZ)), (qfC, .inl (kI, 2523, .inl (upd fC ((2520 : Int32) + a1).toNatClampNeg a2)))] := hD
    have h := h.2
    refine lv_aload_n hx hb d_Forest_addToDraft_33 rfl (lv_at hl 0 rfl) ?_
    refine va_get (D := (dC, dI)) (ci := 1) (v := .ref qfZ) (C := R_Forest) (T := T_Forest) (N := 4) hx hb hT hn_Forest hown hK hP 0 rfl rfl 2 (by decide) (hT _ tb_175) (fun _ h9 => h9) rfl d_Forest_addToDraft_34 ?_
    refine lv_sipush (v := 840) hx hb d_Forest_addToDraft_37 (by decide) ?_
    refine lv_dup2_11 hx hb d_Forest_addToDraft_40 rfl rfl ?_
    refine va_iald hx hb hK hP 2 0 rfl rfl h.1 d_Forest_addToDraft_41 ?_
    have h := h.2
    refine lv_aload_n hx hb d_Forest_addToDraft_42 rfl (lv_at hl 0 rfl) ?_
    refine va_get (D := (dC, dI)) (ci := 1) (v := .ref qfZ) (C := R_Forest) (T := T_Forest) (N := 4) hx hb hT hn_Forest hown hK hP 0 rfl rfl 2 (by decide) (hT _ tb_175) (fun _ h9 => h9) rfl d_Forest_addToDraft_43 ?_
    refine lv_iload_n hx hb d_Forest_addToDraft_46 rfl (lv_at hl 2 rfl) ?_
    refine va_iald hx hb hK hP 2 0 rfl rfl h.1 d_Forest_addToDraft_47 ?_
    have h := h.2
    refine lv_iadd hx hb d_Forest_addToDraft_48 ?_
    refine va_iast hx hb hK hP hD hS 2 0 rfl rfl h.1 d_Forest_addToDraft_49 (fun H_49 locs hP hD hS => ?_)
    have hP : va_P (dC, dI) vwCl [(qf, .inr (1, [.ref qfO, .ref qfW, .ref qfZ, .ref qfC])), (qfW, .inl (kI, 841, .inl (upd fW (840 : Int32).toNatClampNeg ((fW (840 : Int32).toNatClampNeg) + (fW a2.toNatClampNeg))))), (qfZ, .inl (kI, 841, .inl (upd fZ (840 : Int32).toNatClampNeg ((fZ (840 : Int32).toNatClampNeg) + (fZ a2.toNatClampNeg))))), (qfC, .inl (kI, 2523, .inl (upd fC ((2520 : Int32) + a1).toNatClampNeg a2)))] H_49 := hP
    have hD : va_D A [(qf, .inr (1, [.ref qfO, .ref qfW, .ref qfZ, .ref qfC])), (qfW, .inl (kI, 841, .inl (upd fW (840 : Int32).toNatClampNeg ((fW (840 : Int32).toNatClampNeg) + (fW a2.toNatClampNeg))))), (qfZ, .inl (kI, 841, .inl (upd fZ (840 : Int32).toNatClampNeg ((fZ (840 : Int32).toNatClampNeg) + (fZ a2.toNatClampNeg))))), (qfC, .inl (kI, 2523, .inl (upd fC ((2520 : Int32) + a1).toNatClampNeg a2)))] := hD
    have h := h.2
    exact W.vret hx hb hr (fun t ht hW => ⟨⟨((upd fW (840 : Int32).toNatClampNeg ((fW (840 : Int32).toNatClampNeg) + (fW a2.toNatClampNeg))), (upd fZ (840 : Int32).toNatClampNeg ((fZ (840 : Int32).toNatClampNeg) + (fZ a2.toNatClampNeg))), (upd fC ((2520 : Int32) + a1).toNatClampNeg a2)), rfl, h, by rw [ht]; exact hP, va_K.moved hW.alike hK, hD⟩, hS.F ht⟩) hS.2.2 d_Forest_addToDraft_50

def v_Forest_compareRules_L31 (Kr : Int32 → Int32 → Int32 → (Int32 → Prop) → Prop) (post : Int32 → Prop) (fC : Nat → Int32) (x1 : Int32) (x2 : Int32) (x3 : Int32) : Nat → Int32 → Int32 → Prop
  | 0, _, _ => False
  | n31 + 1, x4, x5 =>
    (((3 : Int32) ≤ x5 → (post x4)) ∧ (¬ (3 : Int32) ≤ x5 → ((x4 = 0 → (vp_in ((x1 * (3 : Int32)) + x5) 2523 ∧ (∀ y6_53 : Int32, y6_53 = (fC ((x1 * (3 : Int32)) + x5).toNatClampNeg) → (vp_in ((x2 * (3 : Int32)) + x5) 2523 ∧ (∀ y7_66 : Int32, y7_66 = (fC ((x2 * (3 : Int32)) + x5).toNatClampNeg) → ((y6_53 = (-1 : Int32) → ((v_Forest_compareRules_L31 Kr post fC x1 x2 x3 n31) x4 (x5 + 1))) ∧ (¬ y6_53 = (-1 : Int32) → ((y7_66 = (-1 : Int32) → ((v_Forest_compareRules_L31 Kr post fC x1 x2 x3 n31) x4 (x5 + 1))) ∧ (¬ y7_66 = (-1 : Int32) → (Kr y6_53 y7_66 (x3 + (1 : Int32)) (fun r88 => ((v_Forest_compareRules_L31 Kr post fC x1 x2 x3 n31) r88 (x5 + 1))))))))))))) ∧ (¬ x4 = 0 → (post x4)))))
def v_Forest_compareRules (fO : Nat → Int32) (fC : Nat → Int32) : Nat → Int32 → Int32 → Int32 → (Int32 → Prop) → Prop
  | 0, _, _, _, _ => False
  | d + 1, a1, a2, a3, post =>
    ((a1 = a2 → (post (0 : Int32))) ∧ (¬ a1 = a2 → ((a3 ≤ (40 : Int32) → (vp_in a1 841 ∧ (vp_in a2 841 ∧ (∀ y4_26 : Int32, y4_26 = ((fO a1.toNatClampNeg) - (fO a2.toNatClampNeg)) → (∃ k31, v_Forest_compareRules_L31 (v_Forest_compareRules fO fC d) post fC a1 a2 a3 k31 y4_26 (0 : Int32)))))) ∧ (¬ a3 ≤ (40 : Int32) → (post (0 : Int32))))))
set_option maxHeartbeats 1000000 in
set_option maxRecDepth 100000 in
theorem c_Forest_compareRules (l : Launch) (dC : Nat → ClassId) (dI : Nat → Nat → Nat) (kI kC kZ kJ kB kS : ClassId) (qf qfO qfW qfZ qfC : Nat) (fO : Nat → Int32) (fC : Nat → Int32) : ∀ (d sz : Nat) (a1 : Int32) (a2 : Int32) (a3 : Int32) {post : Int32 → Prop} (h : v_Forest_compareRules fO fC d a1 a2 a3 post), Met l y_Forest_compareRules w_Forest_compareRules ({ frames := d, cells := 0, slots := 0, locals := 27 * (d) }) (va_Pc [.ref qf, .int a1, .int a2, .int a3] (fun U => U.heap.size = sz ∧ va_P (dC, dI) vwCl [(qf, .inr (1, [.ref qfO, .ref qfW, .ref qfZ, .ref qfC])), (qfO, .inl (kI, 841, .inl fO)), (qfC, .inl (kI, 2523, .inl fC))] U.heap ∧ va_K (dC, dI) vwCl (vTY kI kC kZ kJ kB kS) U ∧ va_D (fun _ => True) [(qf, .inr (1, [.ref qfO, .ref qfW, .ref qfZ, .ref qfC])), (qfO, .inl (kI, 841, .inl fO)), (qfC, .inl (kI, 2523, .inl fC))] ∧ vNE U)) (va_Qi (fun (r : Int32) (u : Unit) => post r) (fun u t => va_P (dC, dI) vwCl [(qf, .inr (1, [.ref qfO, .ref qfW, .ref qfZ, .ref qfC])), (qfO, .inl (kI, 841, .inl fO)), (qfC, .inl (kI, 2523, .inl fC))] t.heap ∧ va_K (dC, dI) vwCl (vTY kI kC kZ kJ kB kS) t ∧ va_D (va_A [(qf, .inr (1, [.ref qfO, .ref qfW, .ref qfZ, .ref qfC])), (qfO, .inl (kI, 841, .inl fO)), (qfC, .inl (kI, 2523, .inl fC))] sz) [(qf, .inr (1, [.ref qfO, .ref qfW, .ref qfZ, .ref qfC])), (qfO, .inl (kI, 841, .inl fO)), (qfC, .inl (kI, 2523, .inl fC))]) (va_A [(qf, .inr (1, [.ref qfO, .ref qfW, .ref qfZ, .ref qfC])), (qfO, .inl (kI, 841, .inl fO)), (qfC, .inl (kI, 2523, .inl fC))] sz)) 0 0 (va_A [(qf, .inr (1, [.ref qfO, .ref qfW, .ref qfZ, .ref qfC])), (qfO, .inl (kI, 841, .inl fO)), (qfC, .inl (kI, 2523, .inl fC))] sz) := by
  intro d
  induction d with
  | zero => intro sz a1 a2 a3 post h; exact False.elim h
  | succ d ihr =>
  intro sz a1 a2 a3 post h
  refine Met.ofW (cc := b_Forest_compareRules) (maxL := 8) (ret := (some .int)) (by decide) rfl ?_
  intro p e s m args below meth c s₁ B hml hv
  obtain ⟨rfl, hsz, hP, hK, hD0, hN⟩ := hv
  have hx := B.exec
  have hb := B.bytes
  have hr := B.returns
  have hts := atoms_spec (ws := w_Forest_compareRules) B.pre
  have hT : ∀ w ∈ TB, w.before ([.ref qf, .int a1, .int a2, .int a3] : List Value).toArray s = true := fun w h => hts w (List.mem_cons_of_mem _ h)
  have hown : s.vm.findClass R_Forest = some m.cls := findClass_of_methodNamed B.named
  have hlocks := B.notSynchronized
  subst hsz
  have hD := hD0.self (sz := s.heap.size)
  generalize hAe : va_A [(qf, .inr (1, [.ref qfO, .ref qfW, .ref qfZ, .ref qfC])), (qfO, .inl (kI, 841, .inl fO)), (qfC, .inl (kI, 2523, .inl fC))] s.heap.size = A at hD ⊢
  have hA : ∀ q : Nat, s.heap.size ≤ q → A q := fun q h => by rw [← hAe]; exact Or.inr h
  have hS : va_S A s.heap s.heap [] := va_S.rf
  have L31 : ∀ (x1 : Int32) (x2 : Int32) (x3 : Int32) (n31 : Nat) (x4 : Int32) (x5 : Int32) (ls : Array Slot) (H : Heap) (locs : List Loc), v_Forest_compareRules_L31 (v_Forest_compareRules fO fC d) post fC x1 x2 x3 n31 x4 x5 → lv_has ls 8 [(0, .ref qf), (1, .int x1), (2, .int x2), (3, .int x3), (4, .int x4), (5, .int x5)] → va_P (dC, dI) vwCl [(qf, .inr (1, [.ref qfO, .ref qfW, .ref qfZ, .ref qfC])), (qfO, .inl (kI, 841, .inl fO)), (qfC, .inl (kI, 2523, .inl fC))] H → va_D A [(qf, .inr (1, [.ref qfO, .ref qfW, .ref qfZ, .ref qfC])), (qfO, .inl (kI, 841, .inl fO)), (qfC, .inl (kI, 2523, .inl fC))] → va_S A s.heap H locs → W p l e (headSpec w_Forest_compareRules { frames := d + 1, cells := 0, slots := 0, locals := 27 * (d + 1) }).room s m ([.ref qf, .int a1, .int a2, .int a3] : List Value).toArray below meth c H locs 0 0 (MQ below (va_Qi (fun (r : Int32) (u : Unit) => post r) (fun u t => va_P (dC, dI) vwCl [(qf, .inr (1, [.ref qfO, .ref qfW, .ref qfZ, .ref qfC])), (qfO, .inl (kI, 841, .inl fO)), (qfC, .inl (kI, 2523, .inl fC))] t.heap ∧ va_K (dC, dI) vwCl (vTY kI kC kZ kJ kB kS) t ∧ va_D (A) [(qf, .inr (1, [.ref qfO, .ref qfW, .ref qfZ, .ref qfC])), (qfO, .inl (kI, 841, .inl fO)), (qfC, .inl (kI, 2523, .inl fC))]) (A)) ([.ref qf, .int a1, .int a2, .int a3] : List Value).toArray s 0 0 A) (F0 m 31 ls []) := by
    intro x1 x2 x3 n31
    induction n31 with
    | zero => intro x4 x5 ls H locs h; exact False.elim h
    | succ n31 ih =>
      intro x4 x5 ls H locs h hl hP hD hS
      unfold v_Forest_compareRules_L31 at h
      refine lv_iload hx hb d_Forest_compareRules_31 (lv_at hl 5 rfl) ?_
      refine lv_iconst (v := 3) hx hb d_Forest_compareRules_33 (by decide) ?_
      refine lv_icmp_ge hx hb d_Forest_compareRules_34 (tgt := 99) (by decide) (fun hc => ?_) (fun hc => ?_)
      · have h := h.1 hc
        refine lv_iload hx hb d_Forest_compareRules_99 (lv_at hl 4 rfl) ?_
        exact W.iret (v := x4) hx hb hr (fun t ht hW => ⟨⟨x4, (), rfl, h, by rw [ht]; exact hP, va_K.moved hW.alike hK, hD⟩, hS.F ht⟩) hS.2.2 d_Forest_compareRules_101
      · have h := h.2 hc
        refine lv_iload hx hb d_Forest_compareRules_37 (lv_at hl 4 rfl) ?_
        refine lv_if_ne hx hb d_Forest_compareRules_39 (tgt := 99) (by decide) (fun hc => ?_) (fun hc => ?_)
        · have h := h.2 hc
          refine lv_iload hx hb d_Forest_compareRules_99 (lv_at hl 4 rfl) ?_
          exact W.iret (v := x4) hx hb hr (fun t ht hW => ⟨⟨x4, (), rfl, h, by rw [ht]; exact hP, va_K.moved hW.alike hK, hD⟩, hS.F ht⟩) hS.2.2 d_Forest_compareRules_101
        · have h := h.1 hc
          refine lv_aload_n hx hb d_Forest_compareRules_42 rfl (lv_at hl 0 rfl) ?_
          refine va_get (D := (dC, dI)) (ci := 1) (v := .ref qfC) (C := R_Forest) (T := T_Forest) (N := 4) hx hb hT hn_Forest hown hK hP 0 rfl rfl 3 (by decide) (hT _ tb_177) (fun _ h9 => h9) rfl d_Forest_compareRules_43 ?_
          refine lv_iload_n hx hb d_Forest_compareRules_46 rfl (lv_at hl 1 rfl) ?_
          refine lv_iconst (v := 3) hx hb d_Forest_compareRules_47 (by decide) ?_
          refine lv_imul hx hb d_Forest_compareRules_48 ?_
          refine lv_iload hx hb d_Forest_compareRules_49 (lv_at hl 5 rfl) ?_
          refine lv_iadd hx hb d_Forest_compareRules_51 ?_
          refine va_iald hx hb hK hP 2 0 rfl rfl h.1 d_Forest_compareRules_52 ?_
          have h := h.2
          refine lv_topi (fun y6_53 e_y6_53 => ?_)
          have h := h y6_53 e_y6_53
          refine lv_istore hx hb d_Forest_compareRules_53 hl (by decide) rfl (fun ls hl => ?_)
          have hl : lv_has ls 8 [(6, .int y6_53), (0, .ref qf), (1, .int x1), (2, .int x2), (3, .int x3), (4, .int x4), (5, .int x5)] := hl
          refine lv_aload_n hx hb d_Forest_compareRules_55 rfl (lv_at hl 1 rfl) ?_
          refine va_get (D := (dC, dI)) (ci := 1) (v := .ref qfC) (C := R_Forest) (T := T_Forest) (N := 4) hx hb hT hn_Forest hown hK hP 0 rfl rfl 3 (by decide) (hT _ tb_177) (fun _ h9 => h9) rfl d_Forest_compareRules_56 ?_
          refine lv_iload_n hx hb d_Forest_compareRules_59 rfl (lv_at hl 3 rfl) ?_
          refine lv_iconst (v := 3) hx hb d_Forest_compareRules_60 (by decide) ?_
          refine lv_imul hx hb d_Forest_compareRules_61 ?_
          refine lv_iload hx hb d_Forest_compareRules_62 (lv_at hl 6 rfl) ?_
          refine lv_iadd hx hb d_Forest_compareRules_64 ?_
          refine va_iald hx hb hK hP 2 0 rfl rfl h.1 d_Forest_compareRules_65 ?_
          have h := h.2
          refine lv_topi (fun y7_66 e_y7_66 => ?_)
          have h := h y7_66 e_y7_66
          refine lv_istore hx hb d_Forest_compareRules_66 hl (by decide) rfl (fun ls hl => ?_)
          have hl : lv_has ls 8 [(7, .int y7_66), (6, .int y6_53), (0, .ref qf), (1, .int x1), (2, .int x2), (3, .int x3), (4, .int x4), (5, .int x5)] := hl
          refine lv_iload hx hb d_Forest_compareRules_68 (lv_at hl 1 rfl) ?_
          refine lv_iconst (v := -1) hx hb d_Forest_compareRules_70 (by decide) ?_
          refine lv_icmp_eq hx hb d_Forest_compareRules_71 (tgt := 93) (by decide) (fun hc => ?_) (fun hc => ?_)
          · have h := h.1 hc
            refine lv_iinc (k := 7) (v := (x5 + 1)) hx hb d_Forest_compareRules_93 hl rfl (congrArg (x5 + ·) (by decide)) (by decide) rfl (fun ls hl => ?_)
            have hl : lv_has ls 8 [(5, .int (x5 + 1)), (7, .int y7_66), (6, .int y6_53), (0, .ref qf), (1, .int x1), (2, .int x2), (3, .int x3), (4, .int x4)] := hl
            refine lv_goto hx hb d_Forest_compareRules_96 (tgt := 31) (by decide) ?_
            exact ih x4 (x5 + 1) _ _ _ h (lv_sub hl [3, 4, 5, 6, 7, 0] rfl) hP hD hS
          · have h := h.2 hc
            refine lv_iload hx hb d_Forest_compareRules_74 (lv_at hl 0 rfl) ?_
            refine lv_iconst (v := -1) hx hb d_Forest_compareRules_76 (by decide) ?_
            refine lv_icmp_eq hx hb d_Forest_compareRules_77 (tgt := 93) (by decide) (fun hc => ?_) (fun hc => ?_)
            · have h := h.1 hc
              refine lv_iinc (k := 7) (v := (x5 + 1)) hx hb d_Forest_compareRules_93 hl rfl (congrArg (x5 + ·) (by decide)) (by decide) rfl (fun ls hl => ?_)
              have hl : lv_has ls 8 [(5, .int (x5 + 1)), (7, .int y7_66), (6, .int y6_53), (0, .ref qf), (1, .int x1), (2, .int x2), (3, .int x3), (4, .int x4)] := hl
              refine lv_goto hx hb d_Forest_compareRules_96 (tgt := 31) (by decide) ?_
              exact ih x4 (x5 + 1) _ _ _ h (lv_sub hl [3, 4, 5, 6, 7, 0] rfl) hP hD hS
            · have h := h.2 hc
              refine lv_aload_n hx hb d_Forest_compareRules_80 rfl (lv_at hl 2 rfl) ?_
              refine lv_iload hx hb d_Forest_compareRules_81 (lv_at hl 1 rfl) ?_
              refine lv_iload hx hb d_Forest_compareRules_83 (lv_at hl 0 rfl) ?_
              refine lv_iload_n hx hb d_Forest_compareRules_85 rfl (lv_at hl 5 rfl) ?_
              refine lv_iconst (v := 1) hx hb d_Forest_compareRules_86 (by decide) ?_
              refine lv_iadd hx hb d_Forest_compareRules_87 ?_
              have hPc := hP.sub (ws' := [(qf, .inr (1, [.ref qfO, .ref qfW, .ref qfZ, .ref qfC])), (qfO, .inl (kI, 841, .inl fO)), (qfC, .inl (kI, 2523, .inl fC))]) [0, 1, 2] rfl
              have hDc := hD.sub (ws' := [(qf, .inr (1, [.ref qfO, .ref qfW, .ref qfZ, .ref qfC])), (qfO, .inl (kI, 841, .inl fO)), (qfC, .inl (kI, 2523, .inl fC))]) [0, 1, 2] (by decide) rfl
              have hFc := va_free (wc := [(qf, .inr (1, [.ref qfO, .ref qfW, .ref qfZ, .ref qfC])), (qfO, .inl (kI, 841, .inl fO)), (qfC, .inl (kI, 2523, .inl fC))]) hD hS hA [0, 1, 2] rfl
              refine va_calli (va_runS (As := [.ref qf, .int y6_53, .int y7_66, .int (x3 + (1 : Int32))]) (rest := []) ⟨hx, hb, hml, hown, hts⟩ (ihr H.size y6_53 y7_66 (x3 + (1 : Int32)) h) ⟨callB_of 4 hts (gA tb_518) rfl rfl rfl (hT _ tb_49) (hT _ tb_516) (by decide +kernel) ⟨Nat.le_refl _, (by show 8 + (8 + 11) + 27 * d ≤ 27 * (d + 1); omega)⟩, (hT _ tb_517)⟩ ⟨fun a U g mk q => by obtain ⟨q0, q1, qP, qK, qD, qN⟩ := q; exact ⟨q0, q1, qP, va_K.moved (u := U) (U := U.calling g mk a) (Vm.Alike.refl U.vm) qK, qD, vNE.same (U := U.calling g mk a) rfl qN⟩, fun U hU hW => ⟨rfl, by rw [hU], by rw [hU]; exact hPc, va_K.moved hW.alike hK, hDc.weaken (fun _ _ _ _ => trivial), vNE.moved hW hN⟩⟩ rfl rfl hl.1 rfl (lv_room (Nat.le_of_ble_eq_true rfl)) d_Forest_compareRules_88 ⟨Nat.zero_le _, Nat.zero_le _⟩) hS (fun q _ h => hFc q h) hFc (fun r88 u t H_88 locs ht hvm h hB hz1 hk1 hS => ?_)
              obtain ⟨hP1, hK1, hD1⟩ := hB
              rw [ht] at hP1
              try dsimp only at h
              obtain ⟨hP, hD⟩ := va_join (wr := []) (w1 := [(qf, .inr (1, [.ref qfO, .ref qfW, .ref qfZ, .ref qfC])), (qfO, .inl (kI, 841, .inl fO)), (qfC, .inl (kI, 2523, .inl fC))]) hP hD [0, 1, 2] [] rfl rfl (by decide) (by decide) hk1 hFc hP1 hD1
              have hP : va_P (dC, dI) vwCl [(qf, .inr (1, [.ref qfO, .ref qfW, .ref qfZ, .ref qfC])), (qfO, .inl (kI, 841, .inl fO)), (qfC, .inl (kI, 2523, .inl fC))] H_88 := hP.sub (ws' := [(qf, .inr (1, [.ref qfO, .ref qfW, .ref qfZ, .ref qfC])), (qfO, .inl (kI, 841, .inl fO)), (qfC, .inl (kI, 2523, .inl fC))]) [0, 1, 2] rfl
              have hD : va_D A [(qf, .inr (1, [.ref qfO, .ref qfW, .ref qfZ, .ref qfC])), (qfO, .inl (kI, 841, .inl fO)), (qfC, .inl (kI, 2523, .inl fC))] := hD.sub (ws' := [(qf, .inr (1, [.ref qfO, .ref qfW, .ref qfZ, .ref qfC])), (qfO, .inl (kI, 841, .inl fO)), (qfC, .inl (kI, 2523, .inl fC))]) [0, 1, 2] (by decide) rfl
              refine lv_istore hx hb d_Forest_compareRules_91 hl (by decide) rfl (fun ls hl => ?_)
              have hl : lv_has ls 8 [(4, .int r88), (7, .int y7_66), (6, .int y6_53), (0, .ref qf), (1, .int x1), (2, .int x2), (3, .int x3), (5, .int x5)] := hl
              refine lv_iinc (k := 7) (v := (x5 + 1)) hx hb d_Forest_compareRules_93 hl rfl (congrArg (x5 + ·) (by decide)) (by decide) rfl (fun ls hl => ?_)
              have hl : lv_has ls 8 [(5, .int (x5 + 1)), (4, .int r88), (7, .int y7_66), (6, .int y6_53), (0, .ref qf), (1, .int x1), (2, .int x2), (3, .int x3)] := hl
              refine lv_goto hx hb d_Forest_compareRules_96 (tgt := 31) (by decide) ?_
              exact ih r88 (x5 + 1) _ _ _ h (lv_sub hl [4, 5, 6, 7, 1, 0] rfl) hP hD hS
  have hl := lv_entry ([.ref qf, .int a1, .int a2, .int a3]) (n := 8) (Nat.le_of_ble_eq_true rfl)
  rw [lg_entry_eq]
  generalize (lg_sl ([.ref qf, .int a1, .int a2, .int a3]) ++ List.replicate (8 - (lg_sl ([.ref qf, .int a1, .int a2, .int a3])).length) Slot.unset).toArray = ls at hl ⊢
  have hl : lv_has ls 8 [(0, .ref qf), (1, .int a1), (2, .int a2), (3, .int a3)] := hl
  unfold v_Forest_compareRules at h
  refine lv_iload_n hx hb d_Forest_compareRules_0 rfl (lv_at hl 1 rfl) ?_
  refine lv_iload_n hx hb d_Forest_compareRules_1 rfl (lv_at hl 2 rfl) ?_
  refine lv_icmp_eq hx hb d_Forest_compareRules_2 (tgt := 11) (by decide) (fun hc => ?_) (fun hc => ?_)
  · have h := h.1 hc
    refine lv_iconst (v := 0) hx hb d_Forest_compareRules_11 (by decide) ?_
    exact W.iret (v := (0 : Int32)) hx hb hr (fun t ht hW => ⟨⟨(0 : Int32), (), rfl, h, by rw [ht]; exact hP, va_K.moved hW.alike hK, hD⟩, hS.F ht⟩) hS.2.2 d_Forest_compareRules_12
  · have h := h.2 hc
    refine lv_iload_n hx hb d_Forest_compareRules_5 rfl (lv_at hl 3 rfl) ?_
    refine lv_bipush (v := 40) hx hb d_Forest_compareRules_6 (by decide) ?_
    refine lv_icmp_le hx hb d_Forest_compareRules_8 (tgt := 13) (by decide) (fun hc => ?_) (fun hc => ?_)
    · have h := h.1 hc
      refine lv_aload_n hx hb d_Forest_compareRules_13 rfl (lv_at hl 0 rfl) ?_
      refine va_get (D := (dC, dI)) (ci := 1) (v := .ref qfO) (C := R_Forest) (T := T_Forest) (N := 4) hx hb hT hn_Forest hown hK hP 0 rfl rfl 0 (by decide) (hT _ tb_171) (fun _ h9 => h9) rfl d_Forest_compareRules_14 ?_
      refine lv_iload_n hx hb d_Forest_compareRules_17 rfl (lv_at hl 1 rfl) ?_
      refine va_iald hx hb hK hP 1 0 rfl rfl h.1 d_Forest_compareRules_18 ?_
      have h := h.2
      refine lv_aload_n hx hb d_Forest_compareRules_19 rfl (lv_at hl 0 rfl) ?_
      refine va_get (D := (dC, dI)) (ci := 1) (v := .ref qfO) (C := R_Forest) (T := T_Forest) (N := 4) hx hb hT hn_Forest hown hK hP 0 rfl rfl 0 (by decide) (hT _ tb_171) (fun _ h9 => h9) rfl d_Forest_compareRules_20 ?_
      refine lv_iload_n hx hb d_Forest_compareRules_23 rfl (lv_at hl 2 rfl) ?_
      refine va_iald hx hb hK hP 1 0 rfl rfl h.1 d_Forest_compareRules_24 ?_
      have h := h.2
      refine lv_isub hx hb d_Forest_compareRules_25 ?_
      refine lv_topi (fun y4_26 e_y4_26 => ?_)
      have h := h y4_26 e_y4_26
      refine lv_istore hx hb d_Forest_compareRules_26 hl (by decide) rfl (fun ls hl => ?_)
      have hl : lv_has ls 8 [(4, .int y4_26), (0, .ref qf), (1, .int a1), (2, .int a2), (3, .int a3)] := hl
      refine lv_iconst (v := 0) hx hb d_Forest_compareRules_28 (by decide) ?_
      refine lv_istore hx hb d_Forest_compareRules_29 hl (by decide) rfl (fun ls hl => ?_)
      have hl : lv_has ls 8 [(5, .int (0 : Int32)), (4, .int y4_26), (0, .ref qf), (1, .int a1), (2, .int a2), (3, .int a3)] := hl
      obtain ⟨k31, h⟩ := h
      exact L31 a1 a2 a3 k31 y4_26 (0 : Int32) _ _ _ h (lv_sub hl [2, 3, 4, 5, 1, 0] rfl) hP hD hS
    · have h := h.2 hc
      refine lv_iconst (v := 0) hx hb d_Forest_compareRules_11 (by decide) ?_
      exact W.iret (v := (0 : Int32)) hx hb hr (fun t ht hW => ⟨⟨(0 : Int32), (), rfl, h, by rw [ht]; exact hP, va_K.moved hW.alike hK, hD⟩, hS.F ht⟩) hS.2.2 d_Forest_compareRules_12

def v_Forest_comesBefore (a1 : Int32) (a2 : Int32) (fO : Nat → Int32) (fW : Nat → Int32) (fC : Nat → Int32) (post : Int32 → Prop) : Prop :=
  (vp_in a1 841 ∧ (vp_in a2 841 ∧ (((fW a1.toNatClampNeg) = (fW a2.toNatClampNeg) → (v_Forest_compareRules fO fC 43 a1 a2 (0 : Int32) (fun r40 => ((0 ≤ r40 → (post (0 : Int32))) ∧ (¬ 0 ≤ r40 → (post (1 : Int32))))))) ∧ (¬ (fW a1.toNatClampNeg) = (fW a2.toNatClampNeg) → (vp_in a1 841 ∧ (vp_in a2 841 ∧ (((fW a2.toNatClampNeg) ≤ (fW a1.toNatClampNeg) → (post (0 : Int32))) ∧ (¬ (fW a2.toNatClampNeg) ≤ (fW a1.toNatClampNeg) → (post (1 : Int32))))))))))
set_option maxHeartbeats 1000000 in
set_option maxRecDepth 100000 in
theorem c_Forest_comesBefore (l : Launch) (dC : Nat → ClassId) (dI : Nat → Nat → Nat) (kI kC kZ kJ kB kS : ClassId) (qf qfO qfW qfZ qfC : Nat) (sz : Nat) (fO : Nat → Int32) (fW : Nat → Int32) (fC : Nat → Int32) (a1 : Int32) (a2 : Int32) {post : Int32 → Prop} (h : v_Forest_comesBefore a1 a2 fO fW fC post) : Met l y_Forest_comesBefore w_Forest_comesBefore ({ frames := 44, cells := 0, slots := 0, locals := 1188 }) (va_Pc [.ref qf, .int a1, .int a2] (fun U => U.heap.size = sz ∧ va_P (dC, dI) vwCl [(qf, .inr (1, [.ref qfO, .ref qfW, .ref qfZ, .ref qfC])), (qfO, .inl (kI, 841, .inl fO)), (qfW, .inl (kI, 841, .inl fW)), (qfC, .inl (kI, 2523, .inl fC))] U.heap ∧ va_K (dC, dI) vwCl (vTY kI kC kZ kJ kB kS) U ∧ va_D (fun _ => True) [(qf, .inr (1, [.ref qfO, .ref qfW, .ref qfZ, .ref qfC])), (qfO, .inl (kI, 841, .inl fO)), (qfW, .inl (kI, 841, .inl fW)), (qfC, .inl (kI, 2523, .inl fC))] ∧ vNE U)) (va_Qi (fun (r : Int32) (u : Unit) => post r) (fun u t => va_P (dC, dI) vwCl [(qf, .inr (1, [.ref qfO, .ref qfW, .ref qfZ, .ref qfC])), (qfO, .inl (kI, 841, .inl fO)), (qfW, .inl (kI, 841, .inl fW)), (qfC, .inl (kI, 2523, .inl fC))] t.heap ∧ va_K (dC, dI) vwCl (vTY kI kC kZ kJ kB kS) t ∧ va_D (va_A [(qf, .inr (1, [.ref qfO, .ref qfW, .ref qfZ, .ref qfC])), (qfO, .inl (kI, 841, .inl fO)), (qfW, .inl (kI, 841, .inl fW)), (qfC, .inl (kI, 2523, .inl fC))] sz) [(qf, .inr (1, [.ref qfO, .ref qfW, .ref qfZ, .ref qfC])), (qfO, .inl (kI, 841, .inl fO)), (qfW, .inl (kI, 841, .inl fW)), (qfC, .inl (kI, 2523, .inl fC))]) (va_A [(qf, .inr (1, [.ref qfO, .ref qfW, .ref qfZ, .ref qfC])), (qfO, .inl (kI, 841, .inl fO)), (qfW, .inl (kI, 841, .inl fW)), (qfC, .inl (kI, 2523, .inl fC))] sz)) 0 0 (va_A [(qf, .inr (1, [.ref qfO, .ref qfW, .ref qfZ, .ref qfC])), (qfO, .inl (kI, 841, .inl fO)), (qfW, .inl (kI, 841, .inl fW)), (qfC, .inl (kI, 2523, .inl fC))] sz) := by
  refine Met.ofW (cc := b_Forest_comesBefore) (maxL := 3) (ret := (some .boolean)) (by decide) rfl ?_
  intro p e s m args below meth c s₁ B hml hv
  obtain ⟨rfl, hsz, hP, hK, hD0, hN⟩ := hv
  have hx := B.exec
  have hb := B.bytes
  have hr := B.returns
  have hts := atoms_spec (ws := w_Forest_comesBefore) B.pre
  have hT : ∀ w ∈ TB, w.before ([.ref qf, .int a1, .int a2] : List Value).toArray s = true := fun w h => hts w (List.mem_cons_of_mem _ h)
  have hown : s.vm.findClass R_Forest = some m.cls := findClass_of_methodNamed B.named
  have hlocks := B.notSynchronized
  subst hsz
  have hD := hD0.self (sz := s.heap.size)
  generalize hAe : va_A [(qf, .inr (1, [.ref qfO, .ref qfW, .ref qfZ, .ref qfC])), (qfO, .inl (kI, 841, .inl fO)), (qfW, .inl (kI, 841, .inl fW)), (qfC, .inl (kI, 2523, .inl fC))] s.heap.size = A at hD ⊢
  have hA : ∀ q : Nat, s.heap.size ≤ q → A q := fun q h => by rw [← hAe]; exact Or.inr h
  have hS : va_S A s.heap s.heap [] := va_S.rf
  have hl := lv_entry ([.ref qf, .int a1, .int a2]) (n := 3) (Nat.le_of_ble_eq_true rfl)
  rw [lg_entry_eq]
  generalize (lg_sl ([.ref qf, .int a1, .int a2]) ++ List.replicate (3 - (lg_sl ([.ref qf, .int a1, .int a2])).length) Slot.unset).toArray = ls at hl ⊢
  have hl : lv_has ls 3 [(0, .ref qf), (1, .int a1), (2, .int a2)] := hl
  unfold v_Forest_comesBefore at h
  refine lv_aload_n hx hb d_Forest_comesBefore_0 rfl (lv_at hl 0 rfl) ?_
  refine va_get (D := (dC, dI)) (ci := 1) (v := .ref qfW) (C := R_Forest) (T := T_Forest) (N := 4) hx hb hT hn_Forest hown hK hP 0 rfl rfl 1 (by decide) (hT _ tb_173) (fun _ h9 => h9) rfl d_Forest_comesBefore_1 ?_
  refine lv_iload_n hx hb d_Forest_comesBefore_4 rfl (lv_at hl 1 rfl) ?_
  refine va_iald hx hb hK hP 2 0 rfl rfl h.1 d_Forest_comesBefore_5 ?_
  have h := h.2
  refine lv_aload_n hx hb d_Forest_comesBefore_6 rfl (lv_at hl 0 rfl) ?_
  refine va_get (D := (dC, dI)) (ci := 1) (v := .ref qfW) (C := R_Forest) (T := T_Forest) (N := 4) hx hb hT hn_Forest hown hK hP 0 rfl rfl 1 (by decide) (hT _ tb_173) (fun _ h9 => h9) rfl d_Forest_comesBefore_7 ?_
  refine lv_iload_n hx hb d_Forest_comesBefore_10 rfl (lv_at hl 2 rfl) ?_
  refine va_iald hx hb hK hP 2 0 rfl rfl h.1 d_Forest_comesBefore_11 ?_
  have h := h.2
  refine lv_icmp_eq hx hb d_Forest_comesBefore_12 (tgt := 36) (by decide) (fun hc => ?_) (fun hc => ?_)
  · have h := h.1 hc
    refine lv_aload_n hx hb d_Forest_comesBefore_36 rfl (lv_at hl 0 rfl) ?_
    refine lv_iload_n hx hb d_Forest_comesBefore_37 rfl (lv_at hl 1 rfl) ?_
    refine lv_iload_n hx hb d_Forest_comesBefore_38 rfl (lv_at hl 2 rfl) ?_
    refine lv_iconst (v := 0) hx hb d_Forest_comesBefore_39 (by decide) ?_
    have hPc := hP.sub (ws' := [(qf, .inr (1, [.ref qfO, .ref qfW, .ref qfZ, .ref qfC])), (qfO, .inl (kI, 841, .inl fO)), (qfC, .inl (kI, 2523, .inl fC))]) [0, 1, 3] rfl
    have hDc := hD.sub (ws' := [(qf, .inr (1, [.ref qfO, .ref qfW, .ref qfZ, .ref qfC])), (qfO, .inl (kI, 841, .inl fO)), (qfC, .inl (kI, 2523, .inl fC))]) [0, 1, 3] (by decide) rfl
    have hFc := va_free (wc := [(qf, .inr (1, [.ref qfO, .ref qfW, .ref qfZ, .ref qfC])), (qfO, .inl (kI, 841, .inl fO)), (qfC, .inl (kI, 2523, .inl fC))]) hD hS hA [0, 1, 3] rfl
    refine va_calli (va_runS (As := [.ref qf, .int a1, .int a2, .int (0 : Int32)]) (rest := []) ⟨hx, hb, hml, hown, hts⟩ (c_Forest_compareRules l dC dI kI kC kZ kJ kB kS qf qfO qfW qfZ qfC fO fC 43 s.heap.size a1 a2 (0 : Int32) h) ⟨callB_of 4 hts (gA tb_518) rfl rfl rfl (hT _ tb_49) (hT _ tb_516) (by decide +kernel) ⟨Nat.le_of_ble_eq_true rfl, Nat.le_of_ble_eq_true rfl⟩, (hT _ tb_517)⟩ ⟨fun a U g mk q => by obtain ⟨q0, q1, qP, qK, qD, qN⟩ := q; exact ⟨q0, q1, qP, va_K.moved (u := U) (U := U.calling g mk a) (Vm.Alike.refl U.vm) qK, qD, vNE.same (U := U.calling g mk a) rfl qN⟩, fun U hU hW => ⟨rfl, by rw [hU], by rw [hU]; exact hPc, va_K.moved hW.alike hK, hDc.weaken (fun _ _ _ _ => trivial), vNE.moved hW hN⟩⟩ rfl rfl hl.1 rfl (lv_room (Nat.le_of_ble_eq_true rfl)) d_Forest_comesBefore_40 ⟨Nat.zero_le _, Nat.zero_le _⟩) hS (fun q _ h => hFc q h) hFc (fun r40 u t H_40 locs ht hvm h hB hz1 hk1 hS => ?_)
    obtain ⟨hP1, hK1, hD1⟩ := hB
    rw [ht] at hP1
    try dsimp only at h
    obtain ⟨hP, hD⟩ := va_join (wr := [(qfW, .inl (kI, 841, .inl fW))]) (w1 := [(qf, .inr (1, [.ref qfO, .ref qfW, .ref qfZ, .ref qfC])), (qfO, .inl (kI, 841, .inl fO)), (qfC, .inl (kI, 2523, .inl fC))]) hP hD [0, 1, 3] [2] rfl rfl (by decide) (by decide) hk1 hFc hP1 hD1
    have hP : va_P (dC, dI) vwCl [(qf, .inr (1, [.ref qfO, .ref qfW, .ref qfZ, .ref qfC])), (qfO, .inl (kI, 841, .inl fO)), (qfW, .inl (kI, 841, .inl fW)), (qfC, .inl (kI, 2523, .inl fC))] H_40 := hP.sub (ws' := [(qf, .inr (1, [.ref qfO, .ref qfW, .ref qfZ, .ref qfC])), (qfO, .inl (kI, 841, .inl fO)), (qfW, .inl (kI, 841, .inl fW)), (qfC, .inl (kI, 2523, .inl fC))]) [1, 2, 0, 3] rfl
    have hD : va_D A [(qf, .inr (1, [.ref qfO, .ref qfW, .ref qfZ, .ref qfC])), (qfO, .inl (kI, 841, .inl fO)), (qfW, .inl (kI, 841, .inl fW)), (qfC, .inl (kI, 2523, .inl fC))] := hD.sub (ws' := [(qf, .inr (1, [.ref qfO, .ref qfW, .ref qfZ, .ref qfC])), (qfO, .inl (kI, 841, .inl fO)), (qfW, .inl (kI, 841, .inl fW)), (qfC, .inl (kI, 2523, .inl fC))]) [1, 2, 0, 3] (by decide) rfl
    refine lv_if_ge hx hb d_Forest_comesBefore_43 (tgt := 50) (by decide) (fun hc => ?_) (fun hc => ?_)
    · have h := h.1 hc
      refine lv_iconst (v := 0) hx hb d_Forest_comesBefore_50 (by decide) ?_
      exact W.zret (ty := .boolean) (v := (0 : Int32)) hx hb hr rfl (fun t ht hW => ⟨⟨(0 : Int32), (), rfl, h, by rw [ht]; exact hP, va_K.moved hW.alike hK, hD⟩, hS.F ht⟩) hS.2.2 d_Forest_comesBefore_51
    · have h := h.2 hc
      refine lv_iconst (v := 1) hx hb d_Forest_comesBefore_46 (by decide) ?_
      refine lv_goto hx hb d_Forest_comesBefore_47 (tgt := 51) (by decide) ?_
      exact W.zret (ty := .boolean) (v := (1 : Int32)) hx hb hr rfl (fun t ht hW => ⟨⟨(1 : Int32), (), rfl, h, by rw [ht]; exact hP, va_K.moved hW.alike hK, hD⟩, hS.F ht⟩) hS.2.2 d_Forest_comesBefore_51
  · have h := h.2 hc
    refine lv_aload_n hx hb d_Forest_comesBefore_15 rfl (lv_at hl 0 rfl) ?_
    refine va_get (D := (dC, dI)) (ci := 1) (v := .ref qfW) (C := R_Forest) (T := T_Forest) (N := 4) hx hb hT hn_Forest hown hK hP 0 rfl rfl 1 (by decide) (hT _ tb_173) (fun _ h9 => h9) rfl d_Forest_comesBefore_16 ?_
    refine lv_iload_n hx hb d_Forest_comesBefore_19 rfl (lv_at hl 1 rfl) ?_
    refine va_iald hx hb hK hP 2 0 rfl rfl h.1 d_Forest_comesBefore_20 ?_
    have h := h.2
    refine lv_aload_n hx hb d_Forest_comesBefore_21 rfl (lv_at hl 0 rfl) ?_
    refine va_get (D := (dC, dI)) (ci := 1) (v := .ref qfW) (C := R_Forest) (T := T_Forest) (N := 4) hx hb hT hn_Forest hown hK hP 0 rfl rfl 1 (by decide) (hT _ tb_173) (fun _ h9 => h9) rfl d_Forest_comesBefore_22 ?_
    refine lv_iload_n hx hb d_Forest_comesBefore_25 rfl (lv_at hl 2 rfl) ?_
    refine va_iald hx hb hK hP 2 0 rfl rfl h.1 d_Forest_comesBefore_26 ?_
    have h := h.2
    refine lv_icmp_ge hx hb d_Forest_comesBefore_27 (tgt := 34) (by decide) (fun hc => ?_) (fun hc => ?_)
    · have h := h.1 hc
      refine lv_iconst (v := 0) hx hb d_Forest_comesBefore_34 (by decide) ?_
      exact W.zret (ty := .boolean) (v := (0 : Int32)) hx hb hr rfl (fun t ht hW => ⟨⟨(0 : Int32), (), rfl, h, by rw [ht]; exact hP, va_K.moved hW.alike hK, hD⟩, hS.F ht⟩) hS.2.2 d_Forest_comesBefore_35
    · have h := h.2 hc
      refine lv_iconst (v := 1) hx hb d_Forest_comesBefore_30 (by decide) ?_
      refine lv_goto hx hb d_Forest_comesBefore_31 (tgt := 35) (by decide) ?_
      exact W.zret (ty := .boolean) (v := (1 : Int32)) hx hb hr rfl (fun t ht hW => ⟨⟨(1 : Int32), (), rfl, h, by rw [ht]; exact hP, va_K.moved hW.alike hK, hD⟩, hS.F ht⟩) hS.2.2 d_Forest_comesBefore_35

def v_Forest_copy_L38 (post : (Nat → Int32) → (Nat → Int32) → (Nat → Int32) → (Nat → Int32) → Prop) (x1 : Int32) (x2 : Int32) (fO : Nat → Int32) (fW : Nat → Int32) (fZ : Nat → Int32) : Nat → Int32 → (Nat → Int32) → Prop
  | 0, _, _ => False
  | n38 + 1, x3, fC =>
    (((3 : Int32) ≤ x3 → (post fO fW fZ fC)) ∧ (¬ (3 : Int32) ≤ x3 → (vp_in ((x1 * (3 : Int32)) + x3) 2523 ∧ (vp_in ((x2 * (3 : Int32)) + x3) 2523 ∧ ((v_Forest_copy_L38 post x1 x2 fO fW fZ n38) (x3 + 1) (upd fC ((x2 * (3 : Int32)) + x3).toNatClampNeg (fC ((x1 * (3 : Int32)) + x3).toNatClampNeg)))))))
def v_Forest_copy (a1 : Int32) (a2 : Int32) (fO : Nat → Int32) (fW : Nat → Int32) (fZ : Nat → Int32) (fC : Nat → Int32) (post : (Nat → Int32) → (Nat → Int32) → (Nat → Int32) → (Nat → Int32) → Prop) : Prop :=
  (vp_in a1 841 ∧ (vp_in a2 841 ∧ (vp_in a1 841 ∧ (vp_in a2 841 ∧ (vp_in a1 841 ∧ (vp_in a2 841 ∧ (∃ k38, v_Forest_copy_L38 post a1 a2 (upd fO a2.toNatClampNeg (fO a1.toNatClampNeg)) (upd fW a2.toNatClampNeg (fW a1.toNatClampNeg)) (upd fZ a2.toNatClampNeg (fZ a1.toNatClampNeg)) k38 (0 : Int32) fC)))))))
set_option maxHeartbeats 1000000 in
set_option maxRecDepth 100000 in
theorem c_Forest_copy (l : Launch) (dC : Nat → ClassId) (dI : Nat → Nat → Nat) (kI kC kZ kJ kB kS : ClassId) (qf qfO qfW qfZ qfC : Nat) (sz : Nat) (fO : Nat → Int32) (fW : Nat → Int32) (fZ : Nat → Int32) (fC : Nat → Int32) (a1 : Int32) (a2 : Int32) {post : (Nat → Int32) → (Nat → Int32) → (Nat → Int32) → (Nat → Int32) → Prop} (h : v_Forest_copy a1 a2 fO fW fZ fC post) : Met l y_Forest_copy w_Forest_copy ({ frames := 0, cells := 0, slots := 0, locals := 0 }) (va_Pc [.ref qf, .int a1, .int a2] (fun U => U.heap.size = sz ∧ va_P (dC, dI) vwCl [(qf, .inr (1, [.ref qfO, .ref qfW, .ref qfZ, .ref qfC])), (qfO, .inl (kI, 841, .inl fO)), (qfW, .inl (kI, 841, .inl fW)), (qfZ, .inl (kI, 841, .inl fZ)), (qfC, .inl (kI, 2523, .inl fC))] U.heap ∧ va_K (dC, dI) vwCl (vTY kI kC kZ kJ kB kS) U ∧ va_D (fun _ => True) [(qf, .inr (1, [.ref qfO, .ref qfW, .ref qfZ, .ref qfC])), (qfO, .inl (kI, 841, .inl fO)), (qfW, .inl (kI, 841, .inl fW)), (qfZ, .inl (kI, 841, .inl fZ)), (qfC, .inl (kI, 2523, .inl fC))] ∧ vNE U)) (va_Qv (fun (u : (Nat → Int32) × (Nat → Int32) × (Nat → Int32) × (Nat → Int32)) => post u.1 u.2.1 u.2.2.1 u.2.2.2) (fun u t => va_P (dC, dI) vwCl [(qf, .inr (1, [.ref qfO, .ref qfW, .ref qfZ, .ref qfC])), (qfO, .inl (kI, 841, .inl u.1)), (qfW, .inl (kI, 841, .inl u.2.1)), (qfZ, .inl (kI, 841, .inl u.2.2.1)), (qfC, .inl (kI, 2523, .inl u.2.2.2))] t.heap ∧ va_K (dC, dI) vwCl (vTY kI kC kZ kJ kB kS) t ∧ va_D (va_A [(qf, .inr (1, [.ref qfO, .ref qfW, .ref qfZ, .ref qfC])), (qfO, .inl (kI, 841, .inl fO)), (qfW, .inl (kI, 841, .inl fW)), (qfZ, .inl (kI, 841, .inl fZ)), (qfC, .inl (kI, 2523, .inl fC))] sz) [(qf, .inr (1, [.ref qfO, .ref qfW, .ref qfZ, .ref qfC])), (qfO, .inl (kI, 841, .inl u.1)), (qfW, .inl (kI, 841, .inl u.2.1)), (qfZ, .inl (kI, 841, .inl u.2.2.1)), (qfC, .inl (kI, 2523, .inl u.2.2.2))]) (va_A [(qf, .inr (1, [.ref qfO, .ref qfW, .ref qfZ, .ref qfC])), (qfO, .inl (kI, 841, .inl fO)), (qfW, .inl (kI, 841, .inl fW)), (qfZ, .inl (kI, 841, .inl fZ)), (qfC, .inl (kI, 2523, .inl fC))] sz)) 0 0 (va_A [(qf, .inr (1, [.ref qfO, .ref qfW, .ref qfZ, .ref qfC])), (qfO, .inl (kI, 841, .inl fO)), (qfW, .inl (kI, 841, .inl fW)), (qfZ, .inl (kI, 841, .inl fZ)), (qfC, .inl (kI, 2523, .inl fC))] sz) := by
  refine Met.ofW (cc := b_Forest_copy) (maxL := 4) (ret := none) (by decide) rfl ?_
  intro p e s m args below meth c s₁ B hml hv
  obtain ⟨rfl, hsz, hP, hK, hD0, hN⟩ := hv
  have hx := B.exec
  have hb := B.bytes
  have hr := B.returns
  have hts := atoms_spec (ws := w_Forest_copy) B.pre
  have hT : ∀ w ∈ TB, w.before ([.ref qf, .int a1, .int a2] : List Value).toArray s = true := fun w h => hts w (List.mem_cons_of_mem _ h)
  have hown : s.vm.findClass R_Forest = some m.cls := findClass_of_methodNamed B.named
  have hlocks := B.notSynchronized
  subst hsz
  have hD := hD0.self (sz := s.heap.size)
  generalize hAe : va_A [(qf, .inr (1, [.ref qfO, .ref qfW, .ref qfZ, .ref qfC])), (qfO, .inl (kI, 841, .inl fO)), (qfW, .inl (kI, 841, .inl fW)), (qfZ, .inl (kI, 841, .inl fZ)), (qfC, .inl (kI, 2523, .inl fC))] s.heap.size = A at hD ⊢
  have hA : ∀ q : Nat, s.heap.size ≤ q → A q := fun q h => by rw [← hAe]; exact Or.inr h
  have hS : va_S A s.heap s.heap [] := va_S.rf
  have L38 : ∀ (x1 : Int32) (x2 : Int32) (fO : Nat → Int32) (fW : Nat → Int32) (fZ : Nat → Int32) (n38 : Nat) (x3 : Int32) (fC : Nat → Int32) (ls : Array Slot) (H : Heap) (locs : List Loc), v_Forest_copy_L38 post x1 x2 fO fW fZ n38 x3 fC → lv_has ls 4 [(0, .ref qf), (1, .int x1), (2, .int x2), (3, .int x3)] → va_P (dC, dI) vwCl [(qf, .inr (1, [.ref qfO, .ref qfW, .ref qfZ, .ref qfC])), (qfO, .inl (kI, 841, .inl fO)), (qfW, .inl (kI, 841, .inl fW)), (qfZ, .inl (kI, 841, .inl fZ)), (qfC, .inl (kI, 2523, .inl fC))] H → va_D A [(qf, .inr (1, [.ref qfO, .ref qfW, .ref qfZ, .ref qfC])), (qfO, .inl (kI, 841, .inl fO)), (qfW, .inl (kI, 841, .inl fW)), (qfZ, .inl (kI, 841, .inl fZ)), (qfC, .inl (kI, 2523, .inl fC))] → va_S A s.heap H locs → W p l e (headSpec w_Forest_copy { frames := 0, cells := 0, slots := 0, locals := 0 }).room s m ([.ref qf, .int a1, .int a2] : List Value).toArray below meth c H locs 0 0 (MQ below (va_Qv (fun (u : (Nat → Int32) × (Nat → Int32) × (Nat → Int32) × (Nat → Int32)) => post u.1 u.2.1 u.2.2.1 u.2.2.2) (fun u t => va_P (dC, dI) vwCl [(qf, .inr (1, [.ref qfO, .ref qfW, .ref qfZ, .ref qfC])), (qfO, .inl (kI, 841, .inl u.1)), (qfW, .inl (kI, 841, .inl u.2.1)), (qfZ, .inl (kI, 841, .inl u.2.2.1)), (qfC, .inl (kI, 2523, .inl u.2.2.2))] t.heap ∧ va_K (dC, dI) vwCl (vTY kI kC kZ kJ kB kS) t ∧ va_D (A) [(qf, .inr (1, [.ref qfO, .ref qfW, .ref qfZ, .ref qfC])), (qfO, .inl (kI, 841, .inl u.1)), (qfW, .inl (kI, 841, .inl u.2.1)), (qfZ, .inl (kI, 841, .inl u.2.2.1)), (qfC, .inl (kI, 2523, .inl u.2.2.2))]) (A)) ([.ref qf, .int a1, .int a2] : List Value).toArray s 0 0 A) (F0 m 38 ls []) := by
    intro x1 x2 fO fW fZ n38
    induction n38 with
    | zero => intro x3 fC ls H locs h; exact False.elim h
    | succ n38 ih =>
      intro x3 fC ls H locs h hl hP hD hS
      unfold v_Forest_copy_L38 at h
      refine lv_iload_n hx hb d_Forest_copy_38 rfl (lv_at hl 3 rfl) ?_
      refine lv_iconst (v := 3) hx hb d_Forest_copy_39 (by decide) ?_
      refine lv_icmp_ge hx hb d_Forest_copy_40 (tgt := 69) (by decide) (fun hc => ?_) (fun hc => ?_)
      · have h := h.1 hc
        exact W.vret hx hb hr (fun t ht hW => ⟨⟨(fO, fW, fZ, fC), rfl, h, by rw [ht]; exact hP, va_K.moved hW.alike hK, hD⟩, hS.F ht⟩) hS.2.2 d_Forest_copy_69
      · have h := h.2 hc
        refine lv_aload_n hx hb d_Forest_copy_43 rfl (lv_at hl 0 rfl) ?_
        refine va_get (D := (dC, dI)) (ci := 1) (v := .ref qfC) (C := R_Forest) (T := T_Forest) (N := 4) hx hb hT hn_Forest hown hK hP 0 rfl rfl 3 (by decide) (hT _ tb_177) (fun _ h9 => h9) rfl d_Forest_copy_44 ?_
        refine lv_iload_n hx hb d_Forest_copy_47 rfl (lv_at hl 2 rfl) ?_
        refine lv_iconst (v := 3) hx hb d_Forest_copy_48 (by decide) ?_
        refine lv_imul hx hb d_Forest_copy_49 ?_
        refine lv_iload_n hx hb d_Forest_copy_50 rfl (lv_at hl 3 rfl) ?_
        refine lv_iadd hx hb d_Forest_copy_51 ?_
        refine lv_aload_n hx hb d_Forest_copy_52 rfl (lv_at hl 0 rfl) ?_
        refine va_get (D := (dC, dI)) (ci := 1) (v := .ref qfC) (C := R_Forest) (T := T_Forest) (N := 4) hx hb hT hn_Forest hown hK hP 0 rfl rfl 3 (by decide) (hT _ tb_177) (fun _ h9 => h9) rfl d_Forest_copy_53 ?_
        refine lv_iload_n hx hb d_Forest_copy_56 rfl (lv_at hl 1 rfl) ?_
        refine lv_iconst (v := 3) hx hb d_Forest_copy_57 (by decide) ?_
        refine lv_imul hx hb d_Forest_copy_58 ?_
        refine lv_iload_n hx hb d_Forest_copy_59 rfl (lv_at hl 3 rfl) ?_
        refine lv_iadd hx hb d_Forest_copy_60 ?_
        refine va_iald hx hb hK hP 4 0 rfl rfl h.1 d_Forest_copy_61 ?_
        have h := h.2
        refine va_iast hx hb hK hP hD hS 4 0 rfl rfl h.1 d_Forest_copy_62 (fun H_62 locs hP hD hS => ?_)
        have hP : va_P (dC, dI) vwCl [(qf, .inr (1, [.ref qfO, .ref qfW, .ref qfZ, .ref qfC])), (qfO, .inl (kI, 841, .inl fO)), (qfW, .inl (kI, 841, .inl fW)), (qfZ, .inl (kI, 841, .inl fZ)), (qfC, .inl (kI, 2523, .inl (upd fC ((x2 * (3 : Int32)) + x3).toNatClampNeg (fC ((x1 * (3 : Int32)) + x3).toNatClampNeg))))] H_62 := hP
        have hD : va_D A [(qf, .inr (1, [.ref qfO, .ref qfW, .ref qfZ, .ref qfC])), (qfO, .inl (kI, 841, .inl fO)), (qfW, .inl (kI, 841, .inl fW)), (qfZ, .inl (kI, 841, .inl fZ)), (qfC, .inl (kI, 2523, .inl (upd fC ((x2 * (3 : Int32)) + x3).toNatClampNeg (fC ((x1 * (3 : Int32)) + x3).toNatClampNeg))))] := hD
        have h := h.2
        refine lv_iinc (k := 3) (v := (x3 + 1)) hx hb d_Forest_copy_63 hl rfl (congrArg (x3 + ·) (by decide)) (by decide) rfl (fun ls hl => ?_)
        have hl : lv_has ls 4 [(3, .int (x3 + 1)), (0, .ref qf), (1, .int x1), (2, .int x2)] := hl
        refine lv_goto hx hb d_Forest_copy_66 (tgt := 38) (by decide) ?_
        exact ih (x3 + 1) (upd fC ((x2 * (3 : Int32)) + x3).toNatClampNeg (fC ((x1 * (3 : Int32)) + x3).toNatClampNeg)) _ _ _ h (lv_sub hl [1, 2, 3, 0] rfl) hP hD hS
  have hl := lv_entry ([.ref qf, .int a1, .int a2]) (n := 4) (Nat.le_of_ble_eq_true rfl)
  rw [lg_entry_eq]
  generalize (lg_sl ([.ref qf, .int a1, .int a2]) ++ List.replicate (4 - (lg_sl ([.ref qf, .int a1, .int a2])).length) Slot.unset).toArray = ls at hl ⊢
  have hl : lv_has ls 4 [(0, .ref qf), (1, .int a1), (2, .int a2)] := hl
  unfold v_Forest_copy at h
  refine lv_aload_n hx hb d_Forest_copy_0 rfl (lv_at hl 0 rfl) ?_
  refine va_get (D := (dC, dI)) (ci := 1) (v := .ref qfO) (C := R_Forest) (T := T_Forest) (N := 4) hx hb hT hn_Forest hown hK hP 0 rfl rfl 0 (by decide) (hT _ tb_171) (fun _ h9 => h9) rfl d_Forest_copy_1 ?_
  refine lv_iload_n hx hb d_Forest_copy_4 rfl (lv_at hl 2 rfl) ?_
  refine lv_aload_n hx hb d_Forest_copy_5 rfl (lv_at hl 0 rfl) ?_
  refine va_get (D := (dC, dI)) (ci := 1) (v := .ref qfO) (C := R_Forest) (T := T_Forest) (N := 4) hx hb hT hn_Forest hown hK hP 0 rfl rfl 0 (by decide) (hT _ tb_171) (fun _ h9 => h9) rfl d_Forest_copy_6 ?_
  refine lv_iload_n hx hb d_Forest_copy_9 rfl (lv_at hl 1 rfl) ?_
  refine va_iald hx hb hK hP 1 0 rfl rfl h.1 d_Forest_copy_10 ?_
  have h := h.2
  refine va_iast hx hb hK hP hD hS 1 0 rfl rfl h.1 d_Forest_copy_11 (fun H_11 locs hP hD hS => ?_)
  have hP : va_P (dC, dI) vwCl [(qf, .inr (1, [.ref qfO, .ref qfW, .ref qfZ, .ref qfC])), (qfO, .inl (kI, 841, .inl (upd fO a2.toNatClampNeg (fO a1.toNatClampNeg)))), (qfW, .inl (kI, 841, .inl fW)), (qfZ, .inl (kI, 841, .inl fZ)), (qfC, .inl (kI, 2523, .inl fC))] H_11 := hP
  have hD : va_D A [(qf, .inr (1, [.ref qfO, .ref qfW, .ref qfZ, .ref qfC])), (qfO, .inl (kI, 841, .inl (upd fO a2.toNatClampNeg (fO a1.toNatClampNeg)))), (qfW, .inl (kI, 841, .inl fW)), (qfZ, .inl (kI, 841, .inl fZ)), (qfC, .inl (kI, 2523, .inl fC))] := hD
  have h := h.2
  refine lv_aload_n hx hb d_Forest_copy_12 rfl (lv_at hl 0 rfl) ?_
  refine va_get (D := (dC, dI)) (ci := 1) (v := .ref qfW) (C := R_Forest) (T := T_Forest) (N := 4) hx hb hT hn_Forest hown hK hP 0 rfl rfl 1 (by decide) (hT _ tb_173) (fun _ h9 => h9) rfl d_Forest_copy_13 ?_
  refine lv_iload_n hx hb d_Forest_copy_16 rfl (lv_at hl 2 rfl) ?_
  refine lv_aload_n hx hb d_Forest_copy_17 rfl (lv_at hl 0 rfl) ?_
  refine va_get (D := (dC, dI)) (ci := 1) (v := .ref qfW) (C := R_Forest) (T := T_Forest) (N := 4) hx hb hT hn_Forest hown hK hP 0 rfl rfl 1 (by decide) (hT _ tb_173) (fun _ h9 => h9) rfl d_Forest_copy_18 ?_
  refine lv_iload_n hx hb d_Forest_copy_21 rfl (lv_at hl 1 rfl) ?_
  refine va_iald hx hb hK hP 2 0 rfl rfl h.1 d_Forest_copy_22 ?_
  have h := h.2
  refine va_iast hx hb hK hP hD hS 2 0 rfl rfl h.1 d_Forest_copy_23 (fun H_23 locs hP hD hS => ?_)
  have hP : va_P (dC, dI) vwCl [(qf, .inr (1, [.ref qfO, .ref qfW, .ref qfZ, .ref qfC])), (qfO, .inl (kI, 841, .inl (upd fO a2.toNatClampNeg (fO a1.toNatClampNeg)))), (qfW, .inl (kI, 841, .inl (upd fW a2.toNatClampNeg (fW a1.toNatClampNeg)))), (qfZ, .inl (kI, 841, .inl fZ)), (qfC, .inl (kI, 2523, .inl fC))] H_23 := hP
  have hD : va_D A [(qf, .inr (1, [.ref qfO, .ref qfW, .ref qfZ, .ref qfC])), (qfO, .inl (kI, 841, .inl (upd fO a2.toNatClampNeg (fO a1.toNatClampNeg)))), (qfW, .inl (kI, 841, .inl (upd fW a2.toNatClampNeg (fW a1.toNatClampNeg)))), (qfZ, .inl (kI, 841, .inl fZ)), (qfC, .inl (kI, 2523, .inl fC))] := hD
  have h := h.2
  refine lv_aload_n hx hb d_Forest_copy_24 rfl (lv_at hl 0 rfl) ?_
  refine va_get (D := (dC, dI)) (ci := 1) (v := .ref qfZ) (C := R_Forest) (T := T_Forest) (N := 4) hx hb hT hn_Forest hown hK hP 0 rfl rfl 2 (by decide) (hT _ tb_175) (fun _ h9 => h9) rfl d_Forest_copy_25 ?_
  refine lv_iload_n hx hb d_Forest_copy_28 rfl (lv_at hl 2 rfl) ?_
  refine lv_aload_n hx hb d_Forest_copy_29 rfl (lv_at hl 0 rfl) ?_
  refine va_get (D := (dC, dI)) (ci := 1) (v := .ref qfZ) (C := R_Forest) (T := T_Forest) (N := 4) hx hb hT hn_Forest hown hK hP 0 rfl rfl 2 (by decide) (hT _ tb_175) (fun _ h9 => h9) rfl d_Forest_copy_30 ?_
  refine lv_iload_n hx hb d_Forest_copy_33 rfl (lv_at hl 1 rfl) ?_
  refine va_iald hx hb hK hP 3 0 rfl rfl h.1 d_Forest_copy_34 ?_
  have h := h.2
  refine va_iast hx hb hK hP hD hS 3 0 rfl rfl h.1 d_Forest_copy_35 (fun H_35 locs hP hD hS => ?_)
  have hP : va_P (dC, dI) vwCl [(qf, .inr (1, [.ref qfO, .ref qfW, .ref qfZ, .ref qfC])), (qfO, .inl (kI, 841, .inl (upd fO a2.toNatClampNeg (fO a1.toNatClampNeg)))), (qfW, .inl (kI, 841, .inl (upd fW a2.toNatClampNeg (fW a1.toNatClampNeg)))), (qfZ, .inl (kI, 841, .inl (upd fZ a2.toNatClampNeg (fZ a1.toNatClampNeg)))), (qfC, .inl (kI, 2523, .inl fC))] H_35 := hP
  have hD : va_D A [(qf, .inr (1, [.ref qfO, .ref qfW, .ref qfZ, .ref qfC])), (qfO, .inl (kI, 841, .inl (upd fO a2.toNatClampNeg (fO a1.toNatClampNeg)))), (qfW, .inl (kI, 841, .inl (upd fW a2.toNatClampNeg (fW a1.toNatClampNeg)))), (qfZ, .inl (kI, 841, .inl (upd fZ a2.toNatClampNeg (fZ a1.toNatClampNeg)))), (qfC, .inl (kI, 2523, .inl fC))] := hD
  have h := h.2
  refine lv_iconst (v := 0) hx hb d_Forest_copy_36 (by decide) ?_
  refine lv_istore_n hx hb d_Forest_copy_37 rfl hl (by decide) rfl (fun ls hl => ?_)
  have hl : lv_has ls 4 [(3, .int (0 : Int32)), (0, .ref qf), (1, .int a1), (2, .int a2)] := hl
  obtain ⟨k38, h⟩ := h
  exact L38 a1 a2 (upd fO a2.toNatClampNeg (fO a1.toNatClampNeg)) (upd fW a2.toNatClampNeg (fW a1.toNatClampNeg)) (upd fZ a2.toNatClampNeg (fZ a1.toNatClampNeg)) k38 (0 : Int32) fC _ _ _ h (lv_sub hl [1, 2, 3, 0] rfl) hP hD hS

def v_Forest_partAt_B93 (post : Int32 → Prop) (K5 : Int32 → Int32 → Prop) (x3 : Int32) (x4 : Int32) (x5 : Int32) : Prop :=
  ((x5 = (-1 : Int32) → (post x3)) ∧ (¬ x5 = (-1 : Int32) → (K5 x5 x4)))
def v_Forest_partAt_B69 (K19 : Int32 → Int32 → Int32 → Prop) (fZ : Nat → Int32) (x4 : Int32) (x5 : Int32) (x6 : Int32) (x7 : Int32) : Prop :=
  ((x7 = (-1 : Int32) → (K19 x4 x5 (x6 + 1))) ∧ (¬ x7 = (-1 : Int32) → (vp_in x7 841 ∧ (∀ y4_85 : Int32, y4_85 = (x4 - (fZ x7.toNatClampNeg)) → (K19 y4_85 x5 (x6 + 1))))))
def v_Forest_partAt_L19 (post : Int32 → Prop) (K5 : Int32 → Int32 → Prop) (fZ : Nat → Int32) (fC : Nat → Int32) (x3 : Int32) : Nat → Int32 → Int32 → Int32 → Prop
  | 0, _, _, _ => False
  | n19 + 1, x4, x5, x6 =>
    (((3 : Int32) ≤ x6 → (v_Forest_partAt_B93 post K5 x3 x4 x5)) ∧ (¬ (3 : Int32) ≤ x6 → ((x5 = (-1 : Int32) → (vp_in ((x3 * (3 : Int32)) + x6) 2523 ∧ (∀ y7_42 : Int32, y7_42 = (fC ((x3 * (3 : Int32)) + x6).toNatClampNeg) → ((y7_42 = (-1 : Int32) → (v_Forest_partAt_B69 (v_Forest_partAt_L19 post K5 fZ fC x3 n19) fZ x4 x5 x6 y7_42)) ∧ (¬ y7_42 = (-1 : Int32) → (vp_in y7_42 841 ∧ (((fZ y7_42.toNatClampNeg) ≤ x4 → (v_Forest_partAt_B69 (v_Forest_partAt_L19 post K5 fZ fC x3 n19) fZ x4 x5 x6 y7_42)) ∧ (¬ (fZ y7_42.toNatClampNeg) ≤ x4 → ((v_Forest_partAt_L19 post K5 fZ fC x3 n19) x4 y7_42 (x6 + 1)))))))))) ∧ (¬ x5 = (-1 : Int32) → (v_Forest_partAt_B93 post K5 x3 x4 x5)))))
def v_Forest_partAt_L5 (post : Int32 → Prop) (fZ : Nat → Int32) (fC : Nat → Int32) : Nat → Int32 → Int32 → Prop
  | 0, _, _ => False
  | n5 + 1, x3, x4 =>
    ((x4 ≤ 0 → (post x3)) ∧ (¬ x4 ≤ 0 → (∃ k19, v_Forest_partAt_L19 post (v_Forest_partAt_L5 post fZ fC n5) fZ fC x3 k19 (x4 + -1) (-1 : Int32) (0 : Int32))))
def v_Forest_partAt (a1 : Int32) (a2 : Int32) (fZ : Nat → Int32) (fC : Nat → Int32) (post : Int32 → Prop) : Prop :=
  (∃ k5, v_Forest_partAt_L5 post fZ fC k5 a1 a2)
set_option maxHeartbeats 1000000 in
set_option maxRecDepth 100000 in
theorem c_Forest_partAt (l : Launch) (dC : Nat → ClassId) (dI : Nat → Nat → Nat) (kI kC kZ kJ kB kS : ClassId) (qf qfO qfW qfZ qfC : Nat) (sz : Nat) (fZ : Nat → Int32) (fC : Nat → Int32) (a1 : Int32) (a2 : Int32) {post : Int32 → Prop} (h : v_Forest_partAt a1 a2 fZ fC post) : Met l y_Forest_partAt w_Forest_partAt ({ frames := 0, cells := 0, slots := 0, locals := 0 }) (va_Pc [.ref qf, .int a1, .int a2] (fun U => U.heap.size = sz ∧ va_P (dC, dI) vwCl [(qf, .inr (1, [.ref qfO, .ref qfW, .ref qfZ, .ref qfC])), (qfZ, .inl (kI, 841, .inl fZ)), (qfC, .inl (kI, 2523, .inl fC))] U.heap ∧ va_K (dC, dI) vwCl (vTY kI kC kZ kJ kB kS) U ∧ va_D (fun _ => True) [(qf, .inr (1, [.ref qfO, .ref qfW, .ref qfZ, .ref qfC])), (qfZ, .inl (kI, 841, .inl fZ)), (qfC, .inl (kI, 2523, .inl fC))] ∧ vNE U)) (va_Qi (fun (r : Int32) (u : Unit) => post r) (fun u t => va_P (dC, dI) vwCl [(qf, .inr (1, [.ref qfO, .ref qfW, .ref qfZ, .ref qfC])), (qfZ, .inl (kI, 841, .inl fZ)), (qfC, .inl (kI, 2523, .inl fC))] t.heap ∧ va_K (dC, dI) vwCl (vTY kI kC kZ kJ kB kS) t ∧ va_D (va_A [(qf, .inr (1, [.ref qfO, .ref qfW, .ref qfZ, .ref qfC])), (qfZ, .inl (kI, 841, .inl fZ)), (qfC, .inl (kI, 2523, .inl fC))] sz) [(qf, .inr (1, [.ref qfO, .ref qfW, .ref qfZ, .ref qfC])), (qfZ, .inl (kI, 841, .inl fZ)), (qfC, .inl (kI, 2523, .inl fC))]) (va_A [(qf, .inr (1, [.ref qfO, .ref qfW, .ref qfZ, .ref qfC])), (qfZ, .inl (kI, 841, .inl fZ)), (qfC, .inl (kI, 2523, .inl fC))] sz)) 0 0 (va_A [(qf, .inr (1, [.ref qfO, .ref qfW, .ref qfZ, .ref qfC])), (qfZ, .inl (kI, 841, .inl fZ)), (qfC, .inl (kI, 2523, .inl fC))] sz) := by
  refine Met.ofW (cc := b_Forest_partAt) (maxL := 8) (ret := (some .int)) (by decide) rfl ?_
  intro p e s m args below meth c s₁ B hml hv
  obtain ⟨rfl, hsz, hP, hK, hD0, hN⟩ := hv
  have hx := B.exec
  have hb := B.bytes
  have hr := B.returns
  have hts := atoms_spec (ws := w_Forest_partAt) B.pre
  have hT : ∀ w ∈ TB, w.before ([.ref qf, .int a1, .int a2] : List Value).toArray s = true := fun w h => hts w (List.mem_cons_of_mem _ h)
  have hown : s.vm.findClass R_Forest = some m.cls := findClass_of_methodNamed B.named
  have hlocks := B.notSynchronized
  subst hsz
  have hD := hD0.self (sz := s.heap.size)
  generalize hAe : va_A [(qf, .inr (1, [.ref qfO, .ref qfW, .ref qfZ, .ref qfC])), (qfZ, .inl (kI, 841, .inl fZ)), (qfC, .inl (kI, 2523, .inl fC))] s.heap.size = A at hD ⊢
  have hA : ∀ q : Nat, s.heap.size ≤ q → A q := fun q h => by rw [← hAe]; exact Or.inr h
  have hS : va_S A s.heap s.heap [] := va_S.rf
  have B93 : ∀ (K5 : Int32 → Int32 → Prop) (hK5 : ∀ (x3 : Int32) (x4 : Int32) (ls : Array Slot) (H : Heap) (locs : List Loc), K5 x3 x4 → lv_has ls 8 [(0, .ref qf), (3, .int x3), (4, .int x4)] → va_P (dC, dI) vwCl [(qf, .inr (1, [.ref qfO, .ref qfW, .ref qfZ, .ref qfC])), (qfZ, .inl (kI, 841, .inl fZ)), (qfC, .inl (kI, 2523, .inl fC))] H → va_D A [(qf, .inr (1, [.ref qfO, .ref qfW, .ref qfZ, .ref qfC])), (qfZ, .inl (kI, 841, .inl fZ)), (qfC, .inl (kI, 2523, .inl fC))] → va_S A s.heap H locs → W p l e (headSpec w_Forest_partAt { frames := 0, cells := 0, slots := 0, locals := 0 }).room s m ([.ref qf, .int a1, .int a2] : List Value).toArray below meth c H locs 0 0 (MQ below (va_Qi (fun (r : Int32) (u : Unit) => post r) (fun u t => va_P (dC, dI) vwCl [(qf, .inr (1, [.ref qfO, .ref qfW, .ref qfZ, .ref qfC])), (qfZ, .inl (kI, 841, .inl fZ)), (qfC, .inl (kI, 2523, .inl fC))] t.heap ∧ va_K (dC, dI) vwCl (vTY kI kC kZ kJ kB kS) t ∧ va_D (A) [(qf, .inr (1, [.ref qfO, .ref qfW, .ref qfZ, .ref qfC])), (qfZ, .inl (kI, 841, .inl fZ)), (qfC, .inl (kI, 2523, .inl fC))]) (A)) ([.ref qf, .int a1, .int a2] : List Value).toArray s 0 0 A) (F0 m 5 ls [])) (x3 : Int32) (x4 : Int32) (x5 : Int32) (ls : Array Slot) (H : Heap) (locs : List Loc), v_Forest_partAt_B93 post K5 x3 x4 x5 → lv_has ls 8 [(0, .ref qf), (3, .int x3), (4, .int x4), (5, .int x5)] → va_P (dC, dI) vwCl [(qf, .inr (1, [.ref qfO, .ref qfW, .ref qfZ, .ref qfC])), (qfZ, .inl (kI, 841, .inl fZ)), (qfC, .inl (kI, 2523, .inl fC))] H → va_D A [(qf, .inr (1, [.ref qfO, .ref qfW, .ref qfZ, .ref qfC])), (qfZ, .inl (kI, 841, .inl fZ)), (qfC, .inl (kI, 2523, .inl fC))] → va_S A s.heap H locs → W p l e (headSpec w_Forest_partAt { frames := 0, cells := 0, slots := 0, locals := 0 }).room s m ([.ref qf, .int a1, .int a2] : List Value).toArray below meth c H locs 0 0 (MQ below (va_Qi (fun (r : Int32) (u : Unit) => post r) (fun u t => va_P (dC, dI) vwCl [(qf, .inr (1, [.ref qfO, .ref qfW, .ref qfZ, .ref qfC])), (qfZ, .inl (kI, 841, .inl fZ)), (qfC, .inl (kI, 2523, .inl fC))] t.heap ∧ va_K (dC, dI) vwCl (vTY kI kC kZ kJ kB kS) t ∧ va_D (A) [(qf, .inr (1, [.ref qfO, .ref qfW, .ref qfZ, .ref qfC])), (qfZ, .inl (kI, 841, .inl fZ)), (qfC, .inl (kI, 2523, .inl fC))]) (A)) ([.ref qf, .int a1, .int a2] : List Value).toArray s 0 0 A) (F0 m 93 ls []) := by
    intro K5 hK5 x3 x4 x5 ls H locs h hl hP hD hS
    unfold v_Forest_partAt_B93 at h
    refine lv_iload hx hb d_Forest_partAt_93 (lv_at hl 3 rfl) ?_
    refine lv_iconst (v := -1) hx hb d_Forest_partAt_95 (by decide) ?_
    refine lv_icmp_ne hx hb d_Forest_partAt_96 (tgt := 101) (by decide) (fun hc => ?_) (fun hc => ?_)
    · have h := h.2 hc
      refine lv_iload hx hb d_Forest_partAt_101 (lv_at hl 3 rfl) ?_
      refine lv_istore_n hx hb d_Forest_partAt_103 rfl hl (by decide) rfl (fun ls hl => ?_)
      have hl : lv_has ls 8 [(3, .int x5), (0, .ref qf), (4, .int x4), (5, .int x5)] := hl
      refine lv_goto hx hb d_Forest_partAt_104 (tgt := 5) (by decide) ?_
      exact hK5 x5 x4 _ _ _ h (lv_sub hl [1, 0, 2] rfl) hP hD hS
    · have h := h.1 hc
      refine lv_iload_n hx hb d_Forest_partAt_99 rfl (lv_at hl 1 rfl) ?_
      exact W.iret (v := x3) hx hb hr (fun t ht hW => ⟨⟨x3, (), rfl, h, by rw [ht]; exact hP, va_K.moved hW.alike hK, hD⟩, hS.F ht⟩) hS.2.2 d_Forest_partAt_100
  have B69 : ∀ (x3 : Int32) (K5 : Int32 → Int32 → Prop) (hK5 : ∀ (x3 : Int32) (x4 : Int32) (ls : Array Slot) (H : Heap) (locs : List Loc), K5 x3 x4 → lv_has ls 8 [(0, .ref qf), (3, .int x3), (4, .int x4)] → va_P (dC, dI) vwCl [(qf, .inr (1, [.ref qfO, .ref qfW, .ref qfZ, .ref qfC])), (qfZ, .inl (kI, 841, .inl fZ)), (qfC, .inl (kI, 2523, .inl fC))] H → va_D A [(qf, .inr (1, [.ref qfO, .ref qfW, .ref qfZ, .ref qfC])), (qfZ, .inl (kI, 841, .inl fZ)), (qfC, .inl (kI, 2523, .inl fC))] → va_S A s.heap H locs → W p l e (headSpec w_Forest_partAt { frames := 0, cells := 0, slots := 0, locals := 0 }).room s m ([.ref qf, .int a1, .int a2] : List Value).toArray below meth c H locs 0 0 (MQ below (va_Qi (fun (r : Int32) (u : Unit) => post r) (fun u t => va_P (dC, dI) vwCl [(qf, .inr (1, [.ref qfO, .ref qfW, .ref qfZ, .ref qfC])), (qfZ, .inl (kI, 841, .inl fZ)), (qfC, .inl (kI, 2523, .inl fC))] t.heap ∧ va_K (dC, dI) vwCl (vTY kI kC kZ kJ kB kS) t ∧ va_D (A) [(qf, .inr (1, [.ref qfO, .ref qfW, .ref qfZ, .ref qfC])), (qfZ, .inl (kI, 841, .inl fZ)), (qfC, .inl (kI, 2523, .inl fC))]) (A)) ([.ref qf, .int a1, .int a2] : List Value).toArray s 0 0 A) (F0 m 5 ls [])) (K19 : Int32 → Int32 → Int32 → Prop) (hK19 : ∀ (x4 : Int32) (x5 : Int32) (x6 : Int32) (ls : Array Slot) (H : Heap) (locs : List Loc), K19 x4 x5 x6 → lv_has ls 8 [(0, .ref qf), (3, .int x3), (4, .int x4), (5, .int x5), (6, .int x6)] → va_P (dC, dI) vwCl [(qf, .inr (1, [.ref qfO, .ref qfW, .ref qfZ, .ref qfC])), (qfZ, .inl (kI, 841, .inl fZ)), (qfC, .inl (kI, 2523, .inl fC))] H → va_D A [(qf, .inr (1, [.ref qfO, .ref qfW, .ref qfZ, .ref qfC])), (qfZ, .inl (kI, 841, .inl fZ)), (qfC, .inl (kI, 2523, .inl fC))] → va_S A s.heap H locs → W p l e (headSpec w_Forest_partAt { frames := 0, cells := 0, slots := 0, locals := 0 }).room s m ([.ref qf, .int a1, .int a2] : List Value).toArray below meth c H locs 0 0 (MQ below (va_Qi (fun (r : Int32) (u : Unit) => post r) (fun u t => va_P (dC, dI) vwCl [(qf, .inr (1, [.ref qfO, .ref qfW, .ref qfZ, .ref qfC])), (qfZ, .inl (kI, 841, .inl fZ)), (qfC, .inl (kI, 2523, .inl fC))] t.heap ∧ va_K (dC, dI) vwCl (vTY kI kC kZ kJ kB kS) t ∧ va_D (A) [(qf, .inr (1, [.ref qfO, .ref qfW, .ref qfZ, .ref qfC])), (qfZ, .inl (kI, 841, .inl fZ)), (qfC, .inl (kI, 2523, .inl fC))]) (A)) ([.ref qf, .int a1, .int a2] : List Value).toArray s 0 0 A) (F0 m 19 ls [])) (x4 : Int32) (x5 : Int32) (x6 : Int32) (x7 : Int32) (ls : Array Slot) (H : Heap) (locs : List Loc), v_Forest_partAt_B69 K19 fZ x4 x5 x6 x7 → lv_has ls 8 [(0, .ref qf), (3, .int x3), (4, .int x4), (5, .int x5), (6, .int x6), (7, .int x7)] → va_P (dC, dI) vwCl [(qf, .inr (1, [.ref qfO, .ref qfW, .ref qfZ, .ref qfC])), (qfZ, .inl (kI, 841, .inl fZ)), (qfC, .inl (kI, 2523, .inl fC))] H → va_D A [(qf, .inr (1, [.ref qfO, .ref qfW, .ref qfZ, .ref qfC])), (qfZ, .inl (kI, 841, .inl fZ)), (qfC, .inl (kI, 2523, .inl fC))] → va_S A s.heap H locs → W p l e (headSpec w_Forest_partAt { frames := 0, cells := 0, slots := 0, locals := 0 }).room s m ([.ref qf, .int a1, .int a2] : List Value).toArray below meth c H locs 0 0 (MQ below (va_Qi (fun (r : Int32) (u : Unit) => post r) (fun u t => va_P (dC, dI) vwCl [(qf, .inr (1, [.ref qfO, .ref qfW, .ref qfZ, .ref qfC])), (qfZ, .inl (kI, 841, .inl fZ)), (qfC, .inl (kI, 2523, .inl fC))] t.heap ∧ va_K (dC, dI) vwCl (vTY kI kC kZ kJ kB kS) t ∧ va_D (A) [(qf, .inr (1, [.ref qfO, .ref qfW, .ref qfZ, .ref qfC])), (qfZ, .inl (kI, 841, .inl fZ)), (qfC, .inl (kI, 2523, .inl fC))]) (A)) ([.ref qf, .int a1, .int a2] : List Value).toArray s 0 0 A) (F0 m 69 ls []) := by
    intro x3 K5 hK5 K19 hK19 x4 x5 x6 x7 ls H locs h hl hP hD hS
    unfold v_Forest_partAt_B69 at h
    refine lv_iload hx hb d_Forest_partAt_69 (lv_at hl 5 rfl) ?_
    refine lv_iconst (v := -1) hx hb d_Forest_partAt_71 (by decide) ?_
    refine lv_icmp_eq hx hb d_Forest_partAt_72 (tgt := 87) (by decide) (fun hc => ?_) (fun hc => ?_)
    · have h := h.1 hc
      refine lv_iinc (k := 4) (v := (x6 + 1)) hx hb d_Forest_partAt_87 hl rfl (congrArg (x6 + ·) (by decide)) (by decide) rfl (fun ls hl => ?_)
      have hl : lv_has ls 8 [(6, .int (x6 + 1)), (0, .ref qf), (3, .int x3), (4, .int x4), (5, .int x5), (7, .int x7)] := hl
      refine lv_goto hx hb d_Forest_partAt_90 (tgt := 19) (by decide) ?_
      exact hK19 x4 x5 (x6 + 1) _ _ _ h (lv_sub hl [1, 2, 3, 4, 0] rfl) hP hD hS
    · have h := h.2 hc
      refine lv_iload hx hb d_Forest_partAt_75 (lv_at hl 2 rfl) ?_
      refine lv_aload_n hx hb d_Forest_partAt_77 rfl (lv_at hl 0 rfl) ?_
      refine va_get (D := (dC, dI)) (ci := 1) (v := .ref qfZ) (C := R_Forest) (T := T_Forest) (N := 4) hx hb hT hn_Forest hown hK hP 0 rfl rfl 2 (by decide) (hT _ tb_175) (fun _ h9 => h9) rfl d_Forest_partAt_78 ?_
      refine lv_iload hx hb d_Forest_partAt_81 (lv_at hl 5 rfl) ?_
      refine va_iald hx hb hK hP 1 0 rfl rfl h.1 d_Forest_partAt_83 ?_
      have h := h.2
      refine lv_isub hx hb d_Forest_partAt_84 ?_
      refine lv_topi (fun y4_85 e_y4_85 => ?_)
      have h := h y4_85 e_y4_85
      refine lv_istore hx hb d_Forest_partAt_85 hl (by decide) rfl (fun ls hl => ?_)
      have hl : lv_has ls 8 [(4, .int y4_85), (0, .ref qf), (3, .int x3), (5, .int x5), (6, .int x6), (7, .int x7)] := hl
      refine lv_iinc (k := 4) (v := (x6 + 1)) hx hb d_Forest_partAt_87 hl rfl (congrArg (x6 + ·) (by decide)) (by decide) rfl (fun ls hl => ?_)
      have hl : lv_has ls 8 [(6, .int (x6 + 1)), (4, .int y4_85), (0, .ref qf), (3, .int x3), (5, .int x5), (7, .int x7)] := hl
      refine lv_goto hx hb d_Forest_partAt_90 (tgt := 19) (by decide) ?_
      exact hK19 y4_85 x5 (x6 + 1) _ _ _ h (lv_sub hl [2, 3, 1, 4, 0] rfl) hP hD hS
  have L19 : ∀ (K5 : Int32 → Int32 → Prop) (hK5 : ∀ (x3 : Int32) (x4 : Int32) (ls : Array Slot) (H : Heap) (locs : List Loc), K5 x3 x4 → lv_has ls 8 [(0, .ref qf), (3, .int x3), (4, .int x4)] → va_P (dC, dI) vwCl [(qf, .inr (1, [.ref qfO, .ref qfW, .ref qfZ, .ref qfC])), (qfZ, .inl (kI, 841, .inl fZ)), (qfC, .inl (kI, 2523, .inl fC))] H → va_D A [(qf, .inr (1, [.ref qfO, .ref qfW, .ref qfZ, .ref qfC])), (qfZ, .inl (kI, 841, .inl fZ)), (qfC, .inl (kI, 2523, .inl fC))] → va_S A s.heap H locs → W p l e (headSpec w_Forest_partAt { frames := 0, cells := 0, slots := 0, locals := 0 }).room s m ([.ref qf, .int a1, .int a2] : List Value).toArray below meth c H locs 0 0 (MQ below (va_Qi (fun (r : Int32) (u : Unit) => post r) (fun u t => va_P (dC, dI) vwCl [(qf, .inr (1, [.ref qfO, .ref qfW, .ref qfZ, .ref qfC])), (qfZ, .inl (kI, 841, .inl fZ)), (qfC, .inl (kI, 2523, .inl fC))] t.heap ∧ va_K (dC, dI) vwCl (vTY kI kC kZ kJ kB kS) t ∧ va_D (A) [(qf, .inr (1, [.ref qfO, .ref qfW, .ref qfZ, .ref qfC])), (qfZ, .inl (kI, 841, .inl fZ)), (qfC, .inl (kI, 2523, .inl fC))]) (A)) ([.ref qf, .int a1, .int a2] : List Value).toArray s 0 0 A) (F0 m 5 ls [])) (x3 : Int32) (n19 : Nat) (x4 : Int32) (x5 : Int32) (x6 : Int32) (ls : Array Slot) (H : Heap) (locs : List Loc), v_Forest_partAt_L19 post K5 fZ fC x3 n19 x4 x5 x6 → lv_has ls 8 [(0, .ref qf), (3, .int x3), (4, .int x4), (5, .int x5), (6, .int x6)] → va_P (dC, dI) vwCl [(qf, .inr (1, [.ref qfO, .ref qfW, .ref qfZ, .ref qfC])), (qfZ, .inl (kI, 841, .inl fZ)), (qfC, .inl (kI, 2523, .inl fC))] H → va_D A [(qf, .inr (1, [.ref qfO, .ref qfW, .ref qfZ, .ref qfC])), (qfZ, .inl (kI, 841, .inl fZ)), (qfC, .inl (kI, 2523, .inl fC))] → va_S A s.heap H locs → W p l e (headSpec w_Forest_partAt { frames := 0, cells := 0, slots := 0, locals := 0 }).room s m ([.ref qf, .int a1, .int a2] : List Value).toArray below meth c H locs 0 0 (MQ below (va_Qi (fun (r : Int32) (u : Unit) => post r) (fun u t => va_P (dC, dI) vwCl [(qf, .inr (1, [.ref qfO, .ref qfW, .ref qfZ, .ref qfC])), (qfZ, .inl (kI, 841, .inl fZ)), (qfC, .inl (kI, 2523, .inl fC))] t.heap ∧ va_K (dC, dI) vwCl (vTY kI kC kZ kJ kB kS) t ∧ va_D (A) [(qf, .inr (1, [.ref qfO, .ref qfW, .ref qfZ, .ref qfC])), (qfZ, .inl (kI, 841, .inl fZ)), (qfC, .inl (kI, 2523, .inl fC))]) (A)) ([.ref qf, .int a1, .int a2] : List Value).toArray s 0 0 A) (F0 m 19 ls []) := by
    intro K5 hK5 x3 n19
    induction n19 with
    | zero => intro x4 x5 x6 ls H locs h; exact False.elim h
    | succ n19 ih =>
      intro x4 x5 x6 ls H locs h hl hP hD hS
      unfold v_Forest_partAt_L19 at h
      refine lv_iload hx hb d_Forest_partAt_19 (lv_at hl 4 rfl) ?_
      refine lv_iconst (v := 3) hx hb d_Forest_partAt_21 (by decide) ?_
      refine lv_icmp_ge hx hb d_Forest_partAt_22 (tgt := 93) (by decide) (fun hc => ?_) (fun hc => ?_)
      · have h := h.1 hc
        exact B93 _ hK5 x3 x4 x5 _ _ _ h (lv_sub hl [0, 1, 2, 3] rfl) hP hD hS
      · have h := h.2 hc
        refine lv_iload hx hb d_Forest_partAt_25 (lv_at hl 3 rfl) ?_
        refine lv_iconst (v := -1) hx hb d_Forest_partAt_27 (by decide) ?_
        refine lv_icmp_ne hx hb d_Forest_partAt_28 (tgt := 93) (by decide) (fun hc => ?_) (fun hc => ?_)
        · have h := h.2 hc
          exact B93 _ hK5 x3 x4 x5 _ _ _ h (lv_sub hl [0, 1, 2, 3] rfl) hP hD hS
        · have h := h.1 hc
          refine lv_aload_n hx hb d_Forest_partAt_31 rfl (lv_at hl 0 rfl) ?_
          refine va_get (D := (dC, dI)) (ci := 1) (v := .ref qfC) (C := R_Forest) (T := T_Forest) (N := 4) hx hb hT hn_Forest hown hK hP 0 rfl rfl 3 (by decide) (hT _ tb_177) (fun _ h9 => h9) rfl d_Forest_partAt_32 ?_
          refine lv_iload_n hx hb d_Forest_partAt_35 rfl (lv_at hl 1 rfl) ?_
          refine lv_iconst (v := 3) hx hb d_Forest_partAt_36 (by decide) ?_
          refine lv_imul hx hb d_Forest_partAt_37 ?_
          refine lv_iload hx hb d_Forest_partAt_38 (lv_at hl 4 rfl) ?_
          refine lv_iadd hx hb d_Forest_partAt_40 ?_
          refine va_iald hx hb hK hP 2 0 rfl rfl h.1 d_Forest_partAt_41 ?_
          have h := h.2
          refine lv_topi (fun y7_42 e_y7_42 => ?_)
          have h := h y7_42 e_y7_42
          refine lv_istore hx hb d_Forest_partAt_42 hl (by decide) rfl (fun ls hl => ?_)
          have hl : lv_has ls 8 [(7, .int y7_42), (0, .ref qf), (3, .int x3), (4, .int x4), (5, .int x5), (6, .int x6)] := hl
          refine lv_iload hx hb d_Forest_partAt_44 (lv_at hl 0 rfl) ?_
          refine lv_iconst (v := -1) hx hb d_Forest_partAt_46 (by decide) ?_
          refine lv_icmp_eq hx hb d_Forest_partAt_47 (tgt := 69) (by decide) (fun hc => ?_) (fun hc => ?_)
          · have h := h.1 hc
            exact B69 x3 _ hK5 _ ih x4 x5 x6 y7_42 _ _ _ h (lv_sub hl [1, 2, 3, 4, 5, 0] rfl) hP hD hS
          · have h := h.2 hc
            refine lv_iload hx hb d_Forest_partAt_50 (lv_at hl 3 rfl) ?_
            refine lv_aload_n hx hb d_Forest_partAt_52 rfl (lv_at hl 1 rfl) ?_
            refine va_get (D := (dC, dI)) (ci := 1) (v := .ref qfZ) (C := R_Forest) (T := T_Forest) (N := 4) hx hb hT hn_Forest hown hK hP 0 rfl rfl 2 (by decide) (hT _ tb_175) (fun _ h9 => h9) rfl d_Forest_partAt_53 ?_
            refine lv_iload hx hb d_Forest_partAt_56 (lv_at hl 0 rfl) ?_
            refine va_iald hx hb hK hP 1 0 rfl rfl h.1 d_Forest_partAt_58 ?_
            have h := h.2
            refine lv_icmp_ge hx hb d_Forest_partAt_59 (tgt := 69) (by decide) (fun hc => ?_) (fun hc => ?_)
            · have h := h.1 hc
              exact B69 x3 _ hK5 _ ih x4 x5 x6 y7_42 _ _ _ h (lv_sub hl [1, 2, 3, 4, 5, 0] rfl) hP hD hS
            · have h := h.2 hc
              refine lv_iload hx hb d_Forest_partAt_62 (lv_at hl 0 rfl) ?_
              refine lv_istore hx hb d_Forest_partAt_64 hl (by decide) rfl (fun ls hl => ?_)
              have hl : lv_has ls 8 [(5, .int y7_42), (7, .int y7_42), (0, .ref qf), (3, .int x3), (4, .int x4), (6, .int x6)] := hl
              refine lv_goto hx hb d_Forest_partAt_66 (tgt := 87) (by decide) ?_
              refine lv_iinc (k := 5) (v := (x6 + 1)) hx hb d_Forest_partAt_87 hl rfl (congrArg (x6 + ·) (by decide)) (by decide) rfl (fun ls hl => ?_)
              have hl : lv_has ls 8 [(6, .int (x6 + 1)), (5, .int y7_42), (7, .int y7_42), (0, .ref qf), (3, .int x3), (4, .int x4)] := hl
              refine lv_goto hx hb d_Forest_partAt_90 (tgt := 19) (by decide) ?_
              exact ih x4 y7_42 (x6 + 1) _ _ _ h (lv_sub hl [3, 4, 5, 1, 0] rfl) hP hD hS
  have L5 : ∀ (n5 : Nat) (x3 : Int32) (x4 : Int32) (ls : Array Slot) (H : Heap) (locs : List Loc), v_Forest_partAt_L5 post fZ fC n5 x3 x4 → lv_has ls 8 [(0, .ref qf), (3, .int x3), (4, .int x4)] → va_P (dC, dI) vwCl [(qf, .inr (1, [.ref qfO, .ref qfW, .ref qfZ, .ref qfC])), (qfZ, .inl (kI, 841, .inl fZ)), (qfC, .inl (kI, 2523, .inl fC))] H → va_D A [(qf, .inr (1, [.ref qfO, .ref qfW, .ref qfZ, .ref qfC])), (qfZ, .inl (kI, 841, .inl fZ)), (qfC, .inl (kI, 2523, .inl fC))] → va_S A s.heap H locs → W p l e (headSpec w_Forest_partAt { frames := 0, cells := 0, slots := 0, locals := 0 }).room s m ([.ref qf, .int a1, .int a2] : List Value).toArray below meth c H locs 0 0 (MQ below (va_Qi (fun (r : Int32) (u : Unit) => post r) (fun u t => va_P (dC, dI) vwCl [(qf, .inr (1, [.ref qfO, .ref qfW, .ref qfZ, .ref qfC])), (qfZ, .inl (kI, 841, .inl fZ)), (qfC, .inl (kI, 2523, .inl fC))] t.heap ∧ va_K (dC, dI) vwCl (vTY kI kC kZ kJ kB kS) t ∧ va_D (A) [(qf, .inr (1, [.ref qfO, .ref qfW, .ref qfZ, .ref qfC])), (qfZ, .inl (kI, 841, .inl fZ)), (qfC, .inl (kI, 2523, .inl fC))]) (A)) ([.ref qf, .int a1, .int a2] : List Value).toArray s 0 0 A) (F0 m 5 ls []) := by
    intro n5
    induction n5 with
    | zero => intro x3 x4 ls H locs h; exact False.elim h
    | succ n5 ih =>
      intro x3 x4 ls H locs h hl hP hD hS
      unfold v_Forest_partAt_L5 at h
      refine lv_iload hx hb d_Forest_partAt_5 (lv_at hl 2 rfl) ?_
      refine lv_if_le hx hb d_Forest_partAt_7 (tgt := 107) (by decide) (fun hc => ?_) (fun hc => ?_)
      · have h := h.1 hc
        refine lv_iload_n hx hb d_Forest_partAt_107 rfl (lv_at hl 1 rfl) ?_
        exact W.iret (v := x3) hx hb hr (fun t ht hW => ⟨⟨x3, (), rfl, h, by rw [ht]; exact hP, va_K.moved hW.alike hK, hD⟩, hS.F ht⟩) hS.2.2 d_Forest_partAt_108
      · have h := h.2 hc
        refine lv_iinc (k := 2) (v := (x4 + -1)) hx hb d_Forest_partAt_10 hl rfl (congrArg (x4 + ·) (by decide)) (by decide) rfl (fun ls hl => ?_)
        have hl : lv_has ls 8 [(4, .int (x4 + -1)), (0, .ref qf), (3, .int x3)] := hl
        refine lv_iconst (v := -1) hx hb d_Forest_partAt_13 (by decide) ?_
        refine lv_istore hx hb d_Forest_partAt_14 hl (by decide) rfl (fun ls hl => ?_)
        have hl : lv_has ls 8 [(5, .int (-1 : Int32)), (4, .int (x4 + -1)), (0, .ref qf), (3, .int x3)] := hl
        refine lv_iconst (v := 0) hx hb d_Forest_partAt_16 (by decide) ?_
        refine lv_istore hx hb d_Forest_partAt_17 hl (by decide) rfl (fun ls hl => ?_)
        have hl : lv_has ls 8 [(6, .int (0 : Int32)), (5, .int (-1 : Int32)), (4, .int (x4 + -1)), (0, .ref qf), (3, .int x3)] := hl
        obtain ⟨k19, h⟩ := h
        exact L19 _ ih x3 k19 (x4 + -1) (-1 : Int32) (0 : Int32) _ _ _ h (lv_sub hl [3, 4, 2, 1, 0] rfl) hP hD hS
  have hl := lv_entry ([.ref qf, .int a1, .int a2]) (n := 8) (Nat.le_of_ble_eq_true rfl)
  rw [lg_entry_eq]
  generalize (lg_sl ([.ref qf, .int a1, .int a2]) ++ List.replicate (8 - (lg_sl ([.ref qf, .int a1, .int a2])).length) Slot.unset).toArray = ls at hl ⊢
  have hl : lv_has ls 8 [(0, .ref qf), (1, .int a1), (2, .int a2)] := hl
  unfold v_Forest_partAt at h
  refine lv_iload_n hx hb d_Forest_partAt_0 rfl (lv_at hl 1 rfl) ?_
  refine lv_istore_n hx hb d_Forest_partAt_1 rfl hl (by decide) rfl (fun ls hl => ?_)
  have hl : lv_has ls 8 [(3, .int a1), (0, .ref qf), (1, .int a1), (2, .int a2)] := hl
  refine lv_iload_n hx hb d_Forest_partAt_2 rfl (lv_at hl 3 rfl) ?_
  refine lv_istore hx hb d_Forest_partAt_3 hl (by decide) rfl (fun ls hl => ?_)
  have hl : lv_has ls 8 [(4, .int a2), (3, .int a1), (0, .ref qf), (1, .int a1), (2, .int a2)] := hl
  obtain ⟨k5, h⟩ := h
  exact L5 k5 a1 a2 _ _ _ h (lv_sub hl [2, 1, 0] rfl) hP hD hS
