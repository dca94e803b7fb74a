set_option maxHeartbeats 1000000 in
set_option maxRecDepth 100000 in
theorem c_Grammar_init (l : Launch) (dC : Nat → ClassId) (dI : Nat → Nat → Nat) (kI kC kZ kJ kB kS : ClassId) (qg : Nat) (sz : Nat) : Met l y_Grammar_init w_Grammar_init ({ frames := 1, cells := 6, slots := 112, locals := 12 }) (va_Pc [.ref qg] (fun U => U.heap.size = sz ∧ va_P (dC, dI) vwCl [(qg, .inr (2, [.int 0, .null, .null, .null, .null, .null, .null, .int 0]))] U.heap ∧ va_K (dC, dI) vwCl (vTY kI kC kZ kJ kB kS) U ∧ va_D (fun _ => True) [(qg, .inr (2, [.int 0, .null, .null, .null, .null, .null, .null, .int 0]))] ∧ vNE U)) (va_Qv (fun (u : Nat × Nat × Nat × Nat × Nat × Nat) => True) (fun u t => va_P (dC, dI) vwCl [(qg, .inr (2, [.int 0, .ref u.1, .ref u.2.1, .ref u.2.2.1, .ref u.2.2.2.1, .ref u.2.2.2.2.1, .ref u.2.2.2.2.2, .int 0])), (u.1, .inl (kI, 14, .inl (fun _ => 0))), (u.2.1, .inl (kI, 42, .inl (fun _ => 0))), (u.2.2.1, .inl (kI, 14, .inl (fun _ => 0))), (u.2.2.2.1, .inl (kI, 14, .inl (fun _ => 0))), (u.2.2.2.2.1, .inl (kZ, 14, .inl (fun _ => 0))), (u.2.2.2.2.2, .inl (kI, 14, .inl (fun _ => 0)))] t.heap ∧ va_K (dC, dI) vwCl (vTY kI kC kZ kJ kB kS) t ∧ va_D (va_A [(qg, .inr (2, [.int 0, .null, .null, .null, .null, .null, .null, .int 0]))] sz) [(qg, .inr (2, [.int 0, .ref u.1, .ref u.2.1, .ref u.2.2.1, .ref u.2.2.2.1, .ref u.2.2.2.2.1, .ref u.2.2.2.2.2, .int 0])), (u.1, .inl (kI, 14, .inl (fun _ => 0))), (u.2.1, .inl (kI, 42, .inl (fun _ => 0))), (u.2.2.1, .inl (kI, 14, .inl (fun _ => 0))), (u.2.2.2.1, .inl (kI, 14, .inl (fun _ => 0))), (u.2.2.2.2.1, .inl (kZ, 14, .inl (fun _ => 0))), (u.2.2.2.2.2, .inl (kI, 14, .inl (fun _ => 0)))]) (va_A [(qg, .inr (2, [.int 0, .null, .null, .null, .null, .null, .null, .int 0]))] sz)) 6 112 (va_A [(qg, .inr (2, [.int 0, .null, .null, .null, .null, .null, .null, .int 0]))] sz) := by
  refine Met.ofW (cc := b_Grammar_init) (maxL := 1) (ret := none) (by decide) rfl ?_
  intro p e s m args below meth c s₁ B hml hv
  obtain ⟨rfl, hsz, hP, hK, hD0, hN⟩ := hv
  have hx := B.exec
  have hb := B.bytes
  have hr := B.returns
  have hts := atoms_spec (ws := w_Grammar_init) B.pre
  have hT : ∀ w ∈ TB, w.before ([.ref qg] : List Value).toArray s = true := fun w h => hts w (List.mem_cons_of_mem _ h)
  have hown : s.vm.findClass R_Grammar = some m.cls := findClass_of_methodNamed B.named
  have hlocks := B.notSynchronized
  have hin : meth.name = "<init>" := (name_of_methodNamed B.named B.method).1
  subst hsz
  have hD := hD0.self (sz := s.heap.size)
  generalize hAe : va_A [(qg, .inr (2, [.int 0, .null, .null, .null, .null, .null, .null, .int 0]))] s.heap.size = A at hD ⊢
  have hA : ∀ q : Nat, s.heap.size ≤ q → A q := fun q h => by rw [← hAe]; exact Or.inr h
  have hS : va_S A s.heap s.heap [] := va_S.rf
  have hl := lv_entry ([.ref qg]) (n := 1) (Nat.le_of_ble_eq_true rfl)
  rw [lg_entry_eq]
  generalize (lg_sl ([.ref qg]) ++ List.replicate (1 - (lg_sl ([.ref qg])).length) Slot.unset).toArray = ls at hl ⊢
  have hl : lv_has ls 1 [(0, .ref qg)] := hl
  refine lv_aload_n hx hb d_Grammar_init_0 rfl (lv_at hl 0 rfl) ?_
  refine W.objInit hx hb hown (hT _ tb_117) (hT _ tb_64) (hT _ tb_65) rfl (by rw [hml]; exact hl.1) rfl d_Grammar_init_1 (Nat.le_of_ble_eq_true rfl) (Nat.le_of_ble_eq_true rfl) ?_
  refine W.eq (g2 := F0 m 4 ls []) rfl ?_
  refine lv_aload_n hx hb d_Grammar_init_4 rfl (lv_at hl 0 rfl) ?_
  refine lv_bipush (v := 14) hx hb d_Grammar_init_5 (by decide) ?_
  refine va_newa (atype := .int) (ty := .int) (a0 := (14, .inl (fun _ => 0))) hx hb (hT _ tb_157) rfl hK hP hD hS hA (fun _ => rfl) (by decide) (by decide) (by decide) (Nat.le_of_ble_eq_true rfl) (Nat.le_of_ble_eq_true rfl) d_Grammar_init_7 (fun a7 kk H7 hKn hP hD hS => ?_)
  obtain rfl : kI = kk := Option.some.inj (((hK.2 0 (kI, .int) rfl).2).symm.trans (hKn.2 6 (kk, .int) rfl).2)
  have hP : va_P (dC, dI) vwCl [(qg, .inr (2, [.int 0, .null, .null, .null, .null, .null, .null, .int 0])), (a7, .inl (kI, 14, .inl (fun _ => 0)))] H7 := hP
  have hD : va_D A [(qg, .inr (2, [.int 0, .null, .null, .null, .null, .null, .null, .int 0])), (a7, .inl (kI, 14, .inl (fun _ => 0)))] := hD
  refine W.widen (k := 1) (n := 14) (by decide) (by decide) ?_
  refine va_putF (D := (dC, dI)) (ci := 2) (v := .ref a7) (ty := .array .int) (C := R_Grammar) (T := T_Grammar) (N := 8) hx hb hT hn_Grammar t_Grammar tk_Grammar nk_Grammar hown hK hP hD hS 0 rfl rfl 1 (by decide) (hT _ tb_121) (fun _ h9 => h9) rfl hin rfl (by decide +kernel) rfl rfl (Nat.le_of_ble_eq_true rfl) d_Grammar_init_9 (fun H9 locs hP hD hS => ?_)
  have hP : va_P (dC, dI) vwCl [(qg, .inr (2, [.int 0, .ref a7, .null, .null, .null, .null, .null, .int 0])), (a7, .inl (kI, 14, .inl (fun _ => 0)))] H9 := hP
  have hD : va_D A [(qg, .inr (2, [.int 0, .ref a7, .null, .null, .null, .null, .null, .int 0])), (a7, .inl (kI, 14, .inl (fun _ => 0)))] := hD
  refine lv_aload_n hx hb d_Grammar_init_12 rfl (lv_at hl 0 rfl) ?_
  refine lv_bipush (v := 42) hx hb d_Grammar_init_13 (by decide) ?_
  refine va_newa (atype := .int) (ty := .int) (a0 := (42, .inl (fun _ => 0))) hx hb (hT _ tb_157) rfl hK hP hD hS hA (fun _ => rfl) (by decide) (by decide) (by decide) (Nat.le_of_ble_eq_true rfl) (Nat.le_of_ble_eq_true rfl) d_Grammar_init_15 (fun a15 kk H15 hKn hP hD hS => ?_)
  obtain rfl : kI = kk := Option.some.inj (((hK.2 0 (kI, .int) rfl).2).symm.trans (hKn.2 6 (kk, .int) rfl).2)
  have hP : va_P (dC, dI) vwCl [(qg, .inr (2, [.int 0, .ref a7, .null, .null, .null, .null, .null, .int 0])), (a7, .inl (kI, 14, .inl (fun _ => 0))), (a15, .inl (kI, 42, .inl (fun _ => 0)))] H15 := hP
  have hD : va_D A [(qg, .inr (2, [.int 0, .ref a7, .null, .null, .null, .null, .null, .int 0])), (a7, .inl (kI, 14, .inl (fun _ => 0))), (a15, .inl (kI, 42, .inl (fun _ => 0)))] := hD
  refine W.widen (k := 2) (n := 56) (by decide) (by decide) ?_
  refine va_putF (D := (dC, dI)) (ci := 2) (v := .ref a15) (ty := .array .int) (C := R_Grammar) (T := T_Grammar) (N := 8) hx hb hT hn_Grammar t_Grammar tk_Grammar nk_Grammar hown hK hP hD hS 0 rfl rfl 2 (by decide) (hT _ tb_125) (fun _ h9 => h9) rfl hin rfl (by decide +kernel) rfl rfl (Nat.le_of_ble_eq_true rfl) d_Grammar_init_17 (fun H17 locs hP hD hS => ?_)
  have hP : va_P (dC, dI) vwCl [(qg, .inr (2, [.int 0, .ref a7, .ref a15, .null, .null, .null, .null, .int 0])), (a7, .inl (kI, 14, .inl (fun _ => 0))), (a15, .inl (kI, 42, .inl (fun _ => 0)))] H17 := hP
  have hD : va_D A [(qg, .inr (2, [.int 0, .ref a7, .ref a15, .null, .null, .null, .null, .int 0])), (a7, .inl (kI, 14, .inl (fun _ => 0))), (a15, .inl (kI, 42, .inl (fun _ => 0)))] := hD
  refine lv_aload_n hx hb d_Grammar_init_20 rfl (lv_at hl 0 rfl) ?_
  refine lv_bipush (v := 14) hx hb d_Grammar_init_21 (by decide) ?_
  refine va_newa (atype := .int) (ty := .int) (a0 := (14, .inl (fun _ => 0))) hx hb (hT _ tb_157) rfl hK hP hD hS hA (fun _ => rfl) (by decide) (by decide) (by decide) (Nat.le_of_ble_eq_true rfl) (Nat.le_of_ble_eq_true rfl) d_Grammar_init_23 (fun a23 kk H23 hKn hP hD hS => ?_)
  obtain rfl : kI = kk := Option.some.inj (((hK.2 0 (kI, .int) rfl).2).symm.trans (hKn.2 6 (kk, .int) rfl).2)
  have hP : va_P (dC, dI) vwCl [(qg, .inr (2, [.int 0, .ref a7, .ref a15, .null, .null, .null, .null, .int 0])), (a7, .inl (kI, 14, .inl (fun _ => 0))), (a15, .inl (kI, 42, .inl (fun _ => 0))), (a23, .inl (kI, 14, .inl (fun _ => 0)))] H23 := hP
  have hD : va_D A [(qg, .inr (2, [.int 0, .ref a7, .ref a15, .null, .null, .null, .null, .int 0])), (a7, .inl (kI, 14, .inl (fun _ => 0))), (a15, .inl (kI, 42, .inl (fun _ => 0))), (a23, .inl (kI, 14, .inl (fun _ => 0)))] := hD
  refine W.widen (k := 3) (n := 70) (by decide) (by decide) ?_
  refine va_putF (D := (dC, dI)) (ci := 2) (v := .ref a23) (ty := .array .int) (C := R_Grammar) (T := T_Grammar) (N := 8) hx hb hT hn_Grammar t_Grammar tk_Grammar nk_Grammar hown hK hP hD hS 0 rfl rfl 3 (by decide) (hT _ tb_127) (fun _ h9 => h9) rfl hin rfl (by decide +kernel) rfl rfl (Nat.le_of_ble_eq_true rfl) d_Grammar_init_25 (fun H25 locs hP hD hS => ?_)
  have hP : va_P (dC, dI) vwCl [(qg, .inr (2, [.int 0, .ref a7, .ref a15, .ref a23, .null, .null, .null, .int 0])), (a7, .inl (kI, 14, .inl (fun _ => 0))), (a15, .inl (kI, 42, .inl (fun _ => 0))), (a23, .inl (kI, 14, .inl (fun _ => 0)))] H25 := hP
  have hD : va_D A [(qg, .inr (2, [.int 0, .ref a7, .ref a15, .ref a23, .null, .null, .null, .int 0])), (a7, .inl (kI, 14, .inl (fun _ => 0))), (a15, .inl (kI, 42, .inl (fun _ => 0))), (a23, .inl (kI, 14, .inl (fun _ => 0)))] := hD
  refine lv_aload_n hx hb d_Grammar_init_28 rfl (lv_at hl 0 rfl) ?_
  refine lv_bipush (v := 14) hx hb d_Grammar_init_29 (by decide) ?_
  refine va_newa (atype := .int) (ty := .int) (a0 := (14, .inl (fun _ => 0))) hx hb (hT _ tb_157) rfl hK hP hD hS hA (fun _ => rfl) (by decide) (by decide) (by decide) (Nat.le_of_ble_eq_true rfl) (Nat.le_of_ble_eq_true rfl) d_Grammar_init_31 (fun a31 kk H31 hKn hP hD hS => ?_)
  obtain rfl : kI = kk := Option.some.inj (((hK.2 0 (kI, .int) rfl).2).symm.trans (hKn.2 6 (kk, .int) rfl).2)
  have hP : va_P (dC, dI) vwCl [(qg, .inr (2, [.int 0, .ref a7, .ref a15, .ref a23, .null, .null, .null, .int 0])), (a7, .inl (kI, 14, .inl (fun _ => 0))), (a15, .inl (kI, 42, .inl (fun _ => 0))), (a23, .inl (kI, 14, .inl (fun _ => 0))), (a31, .inl (kI, 14, .inl (fun _ => 0)))] H31 := hP
  have hD : va_D A [(qg, .inr (2, [.int 0, .ref a7, .ref a15, .ref a23, .null, .null, .null, .int 0])), (a7, .inl (kI, 14, .inl (fun _ => 0))), (a15, .inl (kI, 42, .inl (fun _ => 0))), (a23, .inl (kI, 14, .inl (fun _ => 0))), (a31, .inl (kI, 14, .inl (fun _ => 0)))] := hD
  refine W.widen (k := 4) (n := 84) (by decide) (by decide) ?_
  refine va_putF (D := (dC, dI)) (ci := 2) (v := .ref a31) (ty := .array .int) (C := R_Grammar) (T := T_Grammar) (N := 8) hx hb hT hn_Grammar t_Grammar tk_Grammar nk_Grammar hown hK hP hD hS 0 rfl rfl 4 (by decide) (hT _ tb_130) (fun _ h9 => h9) rfl hin rfl (by decide +kernel) rfl rfl (Nat.le_of_ble_eq_true rfl) d_Grammar_init_33 (fun H33 locs hP hD hS => ?_)
  have hP : va_P (dC, dI) vwCl [(qg, .inr (2, [.int 0, .ref a7, .ref a15, .ref a23, .ref a31, .null, .null, .int 0])), (a7, .inl (kI, 14, .inl (fun _ => 0))), (a15, .inl (kI, 42, .inl (fun _ => 0))), (a23, .inl (kI, 14, .inl (fun _ => 0))), (a31, .inl (kI, 14, .inl (fun _ => 0)))] H33 := hP
  have hD : va_D A [(qg, .inr (2, [.int 0, .ref a7, .ref a15, .ref a23, .ref a31, .null, .null, .int 0])), (a7, .inl (kI, 14, .inl (fun _ => 0))), (a15, .inl (kI, 42, .inl (fun _ => 0))), (a23, .inl (kI, 14, .inl (fun _ => 0))), (a31, .inl (kI, 14, .inl (fun _ => 0)))] := hD
  refine lv_aload_n hx hb d_Grammar_init_36 rfl (lv_at hl 0 rfl) ?_
  refine lv_bipush (v := 14) hx hb d_Grammar_init_37 (by decide) ?_
  refine va_newa (atype := .boolean) (ty := .boolean) (a0 := (14, .inl (fun _ => 0))) hx hb (hT _ tb_158) rfl hK hP hD hS hA (fun _ => rfl) (by decide) (by decide) (by decide) (Nat.le_of_ble_eq_true rfl) (Nat.le_of_ble_eq_true rfl) d_Grammar_init_39 (fun a39 kk H39 hKn hP hD hS => ?_)
  obtain rfl : kZ = kk := Option.some.inj (((hK.2 2 (kZ, .boolean) rfl).2).symm.trans (hKn.2 6 (kk, .boolean) rfl).2)
  have hP : va_P (dC, dI) vwCl [(qg, .inr (2, [.int 0, .ref a7, .ref a15, .ref a23, .ref a31, .null, .null, .int 0])), (a7, .inl (kI, 14, .inl (fun _ => 0))), (a15, .inl (kI, 42, .inl (fun _ => 0))), (a23, .inl (kI, 14, .inl (fun _ => 0))), (a31, .inl (kI, 14, .inl (fun _ => 0))), (a39, .inl (kZ, 14, .inl (fun _ => 0)))] H39 := hP
  have hD : va_D A [(qg, .inr (2, [.int 0, .ref a7, .ref a15, .ref a23, .ref a31, .null, .null, .int 0])), (a7, .inl (kI, 14, .inl (fun _ => 0))), (a15, .inl (kI, 42, .inl (fun _ => 0))), (a23, .inl (kI, 14, .inl (fun _ => 0))), (a31, .inl (kI, 14, .inl (fun _ => 0))), (a39, .inl (kZ, 14, .inl (fun _ => 0)))] := hD
  refine W.widen (k := 5) (n := 98) (by decide) (by decide) ?_
  refine va_putF (D := (dC, dI)) (ci := 2) (v := .ref a39) (ty := .array .boolean) (C := R_Grammar) (T := T_Grammar) (N := 8) hx hb hT hn_Grammar t_Grammar tk_Grammar nk_Grammar hown hK hP hD hS 0 rfl rfl 5 (by decide) (hT _ tb_134) (fun _ h9 => h9) rfl hin rfl (by decide +kernel) rfl rfl (Nat.le_of_ble_eq_true rfl) d_Grammar_init_41 (fun H41 locs hP hD hS => ?_)
  have hP : va_P (dC, dI) vwCl [(qg, .inr (2, [.int 0, .ref a7, .ref a15, .ref a23, .ref a31, .ref a39, .null, .int 0])), (a7, .inl (kI, 14, .inl (fun _ => 0))), (a15, .inl (kI, 42, .inl (fun _ => 0))), (a23, .inl (kI, 14, .inl (fun _ => 0))), (a31, .inl (kI, 14, .inl (fun _ => 0))), (a39, .inl (kZ, 14, .inl (fun _ => 0)))] H41 := hP
  have hD : va_D A [(qg, .inr (2, [.int 0, .ref a7, .ref a15, .ref a23, .ref a31, .ref a39, .null, .int 0])), (a7, .inl (kI, 14, .inl (fun _ => 0))), (a15, .inl (kI, 42, .inl (fun _ => 0))), (a23, .inl (kI, 14, .inl (fun _ => 0))), (a31, .inl (kI, 14, .inl (fun _ => 0))), (a39, .inl (kZ, 14, .inl (fun _ => 0)))] := hD
  refine lv_aload_n hx hb d_Grammar_init_44 rfl (lv_at hl 0 rfl) ?_
  refine lv_bipush (v := 14) hx hb d_Grammar_init_45 (by decide) ?_
  refine va_newa (atype := .int) (ty := .int) (a0 := (14, .inl (fun _ => 0))) hx hb (hT _ tb_157) rfl hK hP hD hS hA (fun _ => rfl) (by decide) (by decide) (by decide) (Nat.le_of_ble_eq_true rfl) (Nat.le_of_ble_eq_true rfl) d_Grammar_init_47 (fun a47 kk H47 hKn hP hD hS => ?_)
  obtain rfl : kI = kk := Option.some.inj (((hK.2 0 (kI, .int) rfl).2).symm.trans (hKn.2 6 (kk, .int) rfl).2)
  have hP : va_P (dC, dI) vwCl [(qg, .inr (2, [.int 0, .ref a7, .ref a15, .ref a23, .ref a31, .ref a39, .null, .int 0])), (a7, .inl (kI, 14, .inl (fun _ => 0))), (a15, .inl (kI, 42, .inl (fun _ => 0))), (a23, .inl (kI, 14, .inl (fun _ => 0))), (a31, .inl (kI, 14, .inl (fun _ => 0))), (a39, .inl (kZ, 14, .inl (fun _ => 0))), (a47, .inl (kI, 14, .inl (fun _ => 0)))] H47 := hP
  have hD : va_D A [(qg, .inr (2, [.int 0, .ref a7, .ref a15, .ref a23, .ref a31, .ref a39, .null, .int 0])), (a7, .inl (kI, 14, .inl (fun _ => 0))), (a15, .inl (kI, 42, .inl (fun _ => 0))), (a23, .inl (kI, 14, .inl (fun _ => 0))), (a31, .inl (kI, 14, .inl (fun _ => 0))), (a39, .inl (kZ, 14, .inl (fun _ => 0))), (a47, .inl (kI, 14, .inl (fun _ => 0)))] := hD
  refine W.widen (k := 6) (n := 112) (by decide) (by decide) ?_
  refine va_putF (D := (dC, dI)) (ci := 2) (v := .ref a47) (ty := .array .int) (C := R_Grammar) (T := T_Grammar) (N := 8) hx hb hT hn_Grammar t_Grammar tk_Grammar nk_Grammar hown hK hP hD hS 0 rfl rfl 6 (by decide) (hT _ tb_136) (fun _ h9 => h9) rfl hin rfl (by decide +kernel) rfl rfl (Nat.le_of_ble_eq_true rfl) d_Grammar_init_49 (fun H49 locs hP hD hS => ?_)
  have hP : va_P (dC, dI) vwCl [(qg, .inr (2, [.int 0, .ref a7, .ref a15, .ref a23, .ref a31, .ref a39, .ref a47, .int 0])), (a7, .inl (kI, 14, .inl (fun _ => 0))), (a15, .inl (kI, 42, .inl (fun _ => 0))), (a23, .inl (kI, 14, .inl (fun _ => 0))), (a31, .inl (kI, 14, .inl (fun _ => 0))), (a39, .inl (kZ, 14, .inl (fun _ => 0))), (a47, .inl (kI, 14, .inl (fun _ => 0)))] H49 := hP
  have hD : va_D A [(qg, .inr (2, [.int 0, .ref a7, .ref a15, .ref a23, .ref a31, .ref a39, .ref a47, .int 0])), (a7, .inl (kI, 14, .inl (fun _ => 0))), (a15, .inl (kI, 42, .inl (fun _ => 0))), (a23, .inl (kI, 14, .inl (fun _ => 0))), (a31, .inl (kI, 14, .inl (fun _ => 0))), (a39, .inl (kZ, 14, .inl (fun _ => 0))), (a47, .inl (kI, 14, .inl (fun _ => 0)))] := hD
  exact W.vret hx hb hr (fun t ht hW => ⟨⟨(a7, a15, a23, a31, a39, a47), rfl, trivial, by rw [ht]; exact hP, va_K.moved hW.alike hK, hD⟩, hS.F ht⟩) hS.2.2 d_Grammar_init_52

def v_Grammar_symbol (a1 : Int32) (a2 : Int32) (gS : Nat → Int32) (post : Int32 → Prop) : Prop :=
  (vp_in ((a1 * (3 : Int32)) + a2) 42 ∧ (post (gS ((a1 * (3 : Int32)) + a2).toNatClampNeg)))
set_option maxHeartbeats 1000000 in
set_option maxRecDepth 100000 in
theorem c_Grammar_symbol (l : Launch) (dC : Nat → ClassId) (dI : Nat → Nat → Nat) (kI kC kZ kJ kB kS : ClassId) (qg qgH qgS qgL qgW qgU qgO : Nat) (sz : Nat) (gN : Int32) (gD : Int32) (gS : Nat → Int32) (a1 : Int32) (a2 : Int32) {post : Int32 → Prop} (h : v_Grammar_symbol a1 a2 gS post) : Met l y_Grammar_symbol w_Grammar_symbol ({ frames := 0, cells := 0, slots := 0, locals := 0 }) (va_Pc [.ref qg, .int a1, .int a2] (fun U => U.heap.size = sz ∧ va_P (dC, dI) vwCl [(qg, .inr (2, [.int gN, .ref qgH, .ref qgS, .ref qgL, .ref qgW, .ref qgU, .ref qgO, .int gD])), (qgS, .inl (kI, 42, .inl gS))] U.heap ∧ va_K (dC, dI) vwCl (vTY kI kC kZ kJ kB kS) U ∧ va_D (fun _ => True) [(qg, .inr (2, [.int gN, .ref qgH, .ref qgS, .ref qgL, .ref qgW, .ref qgU, .ref qgO, .int gD])), (qgS, .inl (kI, 42, .inl gS))] ∧ vNE U)) (va_Qi (fun (r : Int32) (u : Unit) => post r) (fun u t => va_P (dC, dI) vwCl [(qg, .inr (2, [.int gN, .ref qgH, .ref qgS, .ref qgL, .ref qgW, .ref qgU, .ref qgO, .int gD])), (qgS, .inl (kI, 42, .inl gS))] t.heap ∧ va_K (dC, dI) vwCl (vTY kI kC kZ kJ kB kS) t ∧ va_D (va_A [(qg, .inr (2, [.int gN, .ref qgH, .ref qgS, .ref qgL, .ref qgW, .ref qgU, .ref qgO, .int gD])), (qgS, .inl (kI, 42, .inl gS))] sz) [(qg, .inr (2, [.int gN, .ref qgH, .ref qgS, .ref qgL, .ref qgW, .ref qgU, .ref qgO, .int gD])), (qgS, .inl (kI, 42, .inl gS))]) (va_A [(qg, .inr (2, [.int gN, .ref qgH, .ref qgS, .ref qgL, .ref qgW, .ref qgU, .ref qgO, .int gD])), (qgS, .inl (kI, 42, .inl gS))] sz)) 0 0 (va_A [(qg, .inr (2, [.int gN, .ref qgH, .ref qgS, .ref qgL, .ref qgW, .ref qgU, .ref qgO, .int gD])), (qgS, .inl (kI, 42, .inl gS))] sz) := by
  refine Met.ofW (cc := b_Grammar_symbol) (maxL := 3) (ret := (some .int)) (by decide) rfl ?_
  intro p e s m args below meth c s₁ B hml hv
  obtain ⟨rfl, hsz, hP, hK, hD0, hN⟩ := hv
  have hx := B.exec
  have hb := B.bytes
  have hr := B.returns
  have hts := atoms_spec (ws := w_Grammar_symbol) B.pre
  have hT : ∀ w ∈ TB, w.before ([.ref qg, .int a1, .int a2] : List Value).toArray s = true := fun w h => hts w (List.mem_cons_of_mem _ h)
  have hown : s.vm.findClass R_Grammar = some m.cls := findClass_of_methodNamed B.named
  have hlocks := B.notSynchronized
  subst hsz
  have hD := hD0.self (sz := s.heap.size)
  generalize hAe : va_A [(qg, .inr (2, [.int gN, .ref qgH, .ref qgS, .ref qgL, .ref qgW, .ref qgU, .ref qgO, .int gD])), (qgS, .inl (kI, 42, .inl gS))] s.heap.size = A at hD ⊢
  have hA : ∀ q : Nat, s.heap.size ≤ q → A q := fun q h => by rw [← hAe]; exact Or.inr h
  have hS : va_S A s.heap s.heap [] := va_S.rf
  have hl := lv_entry ([.ref qg, .int a1, .int a2]) (n := 3) (Nat.le_of_ble_eq_true rfl)
  rw [lg_entry_eq]
  generalize (lg_sl ([.ref qg, .int a1, .int a2]) ++ List.replicate (3 - (lg_sl ([.ref qg, .int a1, .int a2])).length) Slot.unset).toArray = ls at hl ⊢
  have hl : lv_has ls 3 [(0, .ref qg), (1, .int a1), (2, .int a2)] := hl
  unfold v_Grammar_symbol at h
  refine lv_aload_n hx hb d_Grammar_symbol_0 rfl (lv_at hl 0 rfl) ?_
  refine va_get (D := (dC, dI)) (ci := 2) (v := .ref qgS) (C := R_Grammar) (T := T_Grammar) (N := 8) hx hb hT hn_Grammar hown hK hP 0 rfl rfl 2 (by decide) (hT _ tb_125) (fun _ h9 => h9) rfl d_Grammar_symbol_1 ?_
  refine lv_iload_n hx hb d_Grammar_symbol_4 rfl (lv_at hl 1 rfl) ?_
  refine lv_iconst (v := 3) hx hb d_Grammar_symbol_5 (by decide) ?_
  refine lv_imul hx hb d_Grammar_symbol_6 ?_
  refine lv_iload_n hx hb d_Grammar_symbol_7 rfl (lv_at hl 2 rfl) ?_
  refine lv_iadd hx hb d_Grammar_symbol_8 ?_
  refine va_iald hx hb hK hP 1 0 rfl rfl h.1 d_Grammar_symbol_9 ?_
  have h := h.2
  exact W.iret (v := (gS ((a1 * (3 : Int32)) + a2).toNatClampNeg)) hx hb hr (fun t ht hW => ⟨⟨(gS ((a1 * (3 : Int32)) + a2).toNatClampNeg), (), rfl, h, by rw [ht]; exact hP, va_K.moved hW.alike hK, hD⟩, hS.F ht⟩) hS.2.2 d_Grammar_symbol_10

def v_Grammar_hasTwinBefore_L2 (post : Int32 → Prop) (gH : Nat → Int32) (gS : Nat → Int32) (x1 : Int32) : Nat → Int32 → Prop
  | 0, _ => False
  | n2 + 1, x2 =>
    ((x1 ≤ x2 → (post (0 : Int32))) ∧ (¬ x1 ≤ x2 → (vp_in x2 14 ∧ (vp_in x1 14 ∧ (((gH x2.toNatClampNeg) = (gH x1.toNatClampNeg) → (v_Grammar_symbol x2 (0 : Int32) gS (fun r25 => (v_Grammar_symbol x1 (0 : Int32) gS (fun r31 => ((r25 = r31 → (v_Grammar_symbol x2 (1 : Int32) gS (fun r40 => (v_Grammar_symbol x1 (1 : Int32) gS (fun r46 => ((r40 = r46 → (v_Grammar_symbol x2 (2 : Int32) gS (fun r55 => (v_Grammar_symbol x1 (2 : Int32) gS (fun r61 => ((r55 = r61 → (post (1 : Int32))) ∧ (¬ r55 = r61 → ((v_Grammar_hasTwinBefore_L2 post gH gS x1 n2) (x2 + 1))))))))) ∧ (¬ r40 = r46 → ((v_Grammar_hasTwinBefore_L2 post gH gS x1 n2) (x2 + 1))))))))) ∧ (¬ r25 = r31 → ((v_Grammar_hasTwinBefore_L2 post gH gS x1 n2) (x2 + 1))))))))) ∧ (¬ (gH x2.toNatClampNeg) = (gH x1.toNatClampNeg) → ((v_Grammar_hasTwinBefore_L2 post gH gS x1 n2) (x2 + 1))))))))
def v_Grammar_hasTwinBefore (a1 : Int32) (gH : Nat → Int32) (gS : Nat → Int32) (post : Int32 → Prop) : Prop :=
  (∃ k2, v_Grammar_hasTwinBefore_L2 post gH gS a1 k2 (0 : Int32))
set_option maxHeartbeats 1000000 in
set_option maxRecDepth 100000 in
theorem c_Grammar_hasTwinBefore (l : Launch) (dC : Nat → ClassId) (dI : Nat → Nat → Nat) (kI kC kZ kJ kB kS : ClassId) (qg qgH qgS qgL qgW qgU qgO : Nat) (sz : Nat) (gN : Int32) (gD : Int32) (gH : Nat → Int32) (gS : Nat → Int32) (a1 : Int32) {post : Int32 → Prop} (h : v_Grammar_hasTwinBefore a1 gH gS post) : Met l y_Grammar_hasTwinBefore w_Grammar_hasTwinBefore ({ frames := 1, cells := 0, slots := 0, locals := 22 }) (va_Pc [.ref qg, .int a1] (fun U => U.heap.size = sz ∧ va_P (dC, dI) vwCl [(qg, .inr (2, [.int gN, .ref qgH, .ref qgS, .ref qgL, .ref qgW, .ref qgU, .ref qgO, .int gD])), (qgH, .inl (kI, 14, .inl gH)), (qgS, .inl (kI, 42, .inl gS))] U.heap ∧ va_K (dC, dI) vwCl (vTY kI kC kZ kJ kB kS) U ∧ va_D (fun _ => True) [(qg, .inr (2, [.int gN, .ref qgH, .ref qgS, .ref qgL, .ref qgW, .ref qgU, .ref qgO, .int gD])), (qgH, .inl (kI, 14, .inl gH)), (qgS, .inl (kI, 42, .inl gS))] ∧ vNE U)) (va_Qi (fun (r : Int32) (u : Unit) => post r) (fun u t => va_P (dC, dI) vwCl [(qg, .inr (2, [.int gN, .ref qgH, .ref qgS, .ref qgL, .ref qgW, .ref qgU, .ref qgO, .int gD])), (qgH, .inl (kI, 14, .inl gH)), (qgS, .inl (kI, 42, .inl gS))] t.heap ∧ va_K (dC, dI) vwCl (vTY kI kC kZ kJ kB kS) t ∧ va_D (va_A [(qg, .inr (2, [.int gN, .ref qgH, .ref qgS, .ref qgL, .ref qgW, .ref qgU, .ref qgO, .int gD])), (qgH, .inl (kI, 14, .inl gH)), (qgS, .inl (kI, 42, .inl gS))] sz) [(qg, .inr (2, [.int gN, .ref qgH, .ref qgS, .ref qgL, .ref qgW, .ref qgU, .ref qgO, .int gD])), (qgH, .inl (kI, 14, .inl gH)), (qgS, .inl (kI, 42, .inl gS))]) (va_A [(qg, .inr (2, [.int gN, .ref qgH, .ref qgS, .ref qgL, .ref qgW, .ref qgU, .ref qgO, .int gD])), (qgH, .inl (kI, 14, .inl gH)), (qgS, .inl (kI, 42, .inl gS))] sz)) 0 0 (va_A [(qg, .inr (2, [.int gN, .ref qgH, .ref qgS, .ref qgL, .ref qgW, .ref qgU, .ref qgO, .int gD])), (qgH, .inl (kI, 14, .inl gH)), (qgS, .inl (kI, 42, .inl gS))] sz) := by
  refine Met.ofW (cc := b_Grammar_hasTwinBefore) (maxL := 3) (ret := (some .boolean)) (by decide) rfl ?_
  intro p e s m args below meth c s₁ B hml hv
  obtain ⟨rfl, hsz, hP, hK, hD0, hN⟩ := hv
  have hx := B.exec
  have hb := B.bytes
  have hr := B.returns
  have hts := atoms_spec (ws := w_Grammar_hasTwinBefore) B.pre
  have hT : ∀ w ∈ TB, w.before ([.ref qg, .int a1] : List Value).toArray s = true := fun w h => hts w (List.mem_cons_of_mem _ h)
  have hown : s.vm.findClass R_Grammar = some m.cls := findClass_of_methodNamed B.named
  have hlocks := B.notSynchronized
  subst hsz
  have hD := hD0.self (sz := s.heap.size)
  generalize hAe : va_A [(qg, .inr (2, [.int gN, .ref qgH, .ref qgS, .ref qgL, .ref qgW, .ref qgU, .ref qgO, .int gD])), (qgH, .inl (kI, 14, .inl gH)), (qgS, .inl (kI, 42, .inl gS))] s.heap.size = A at hD ⊢
  have hA : ∀ q : Nat, s.heap.size ≤ q → A q := fun q h => by rw [← hAe]; exact Or.inr h
  have hS : va_S A s.heap s.heap [] := va_S.rf
  have L2 : ∀ (x1 : Int32) (n2 : Nat) (x2 : Int32) (ls : Array Slot) (H : Heap) (locs : List Loc), v_Grammar_hasTwinBefore_L2 post gH gS x1 n2 x2 → lv_has ls 3 [(0, .ref qg), (1, .int x1), (2, .int x2)] → va_P (dC, dI) vwCl [(qg, .inr (2, [.int gN, .ref qgH, .ref qgS, .ref qgL, .ref qgW, .ref qgU, .ref qgO, .int gD])), (qgH, .inl (kI, 14, .inl gH)), (qgS, .inl (kI, 42, .inl gS))] H → va_D A [(qg, .inr (2, [.int gN, .ref qgH, .ref qgS, .ref qgL, .ref qgW, .ref qgU, .ref qgO, .int gD])), (qgH, .inl (kI, 14, .inl gH)), (qgS, .inl (kI, 42, .inl gS))] → va_S A s.heap H locs → W p l e (headSpec w_Grammar_hasTwinBefore { frames := 1, cells := 0, slots := 0, locals := 22 }).room s m ([.ref qg, .int a1] : List Value).toArray below meth c H locs 0 0 (MQ below (va_Qi (fun (r : Int32) (u : Unit) => post r) (fun u t => va_P (dC, dI) vwCl [(qg, .inr (2, [.int gN, .ref qgH, .ref qgS, .ref qgL, .ref qgW, .ref qgU, .ref qgO, .int gD])), (qgH, .inl (kI, 14, .inl gH)), (qgS, .inl (kI, 42, .inl gS))] t.heap ∧ va_K (dC, dI) vwCl (vTY kI kC kZ kJ kB kS) t ∧ va_D (A) [(qg, .inr (2, [.int gN, .ref qgH, .ref qgS, .ref qgL, .ref qgW, .ref qgU, .ref qgO, .int gD])), (qgH, .inl (kI, 14, .inl gH)), (qgS, .inl (kI, 42, .inl gS))]) (A)) ([.ref qg, .int a1] : List Value).toArray s 0 0 A) (F0 m 2 ls []) := by
    intro x1 n2
    induction n2 with
    | zero => intro x2 ls H locs h; exact False.elim h
    | succ n2 ih =>
      intro x2 ls H locs h hl hP hD hS
      unfold v_Grammar_hasTwinBefore_L2 at h
      refine lv_iload_n hx hb d_Grammar_hasTwinBefore_2 rfl (lv_at hl 2 rfl) ?_
      refine lv_iload_n hx hb d_Grammar_hasTwinBefore_3 rfl (lv_at hl 1 rfl) ?_
      refine lv_icmp_ge hx hb d_Grammar_hasTwinBefore_4 (tgt := 75) (by decide) (fun hc => ?_) (fun hc => ?_)
      · have h := h.1 hc
        refine lv_iconst (v := 0) hx hb d_Grammar_hasTwinBefore_75 (by decide) ?_
        exact W.zret (ty := .boolean) (v := (0 : Int32)) hx hb hr rfl (fun t ht hW => ⟨⟨(0 : Int32), (), rfl, h, by rw [ht]; exact hP, va_K.moved hW.alike hK, hD⟩, hS.F ht⟩) hS.2.2 d_Grammar_hasTwinBefore_76
      · have h := h.2 hc
        refine lv_aload_n hx hb d_Grammar_hasTwinBefore_7 rfl (lv_at hl 0 rfl) ?_
        refine va_get (D := (dC, dI)) (ci := 2) (v := .ref qgH) (C := R_Grammar) (T := T_Grammar) (N := 8) hx hb hT hn_Grammar hown hK hP 0 rfl rfl 1 (by decide) (hT _ tb_121) (fun _ h9 => h9) rfl d_Grammar_hasTwinBefore_8 ?_
        refine lv_iload_n hx hb d_Grammar_hasTwinBefore_11 rfl (lv_at hl 2 rfl) ?_
        refine va_iald hx hb hK hP 1 0 rfl rfl h.1 d_Grammar_hasTwinBefore_12 ?_
        have h := h.2
        refine lv_aload_n hx hb d_Grammar_hasTwinBefore_13 rfl (lv_at hl 0 rfl) ?_
        refine va_get (D := (dC, dI)) (ci := 2) (v := .ref qgH) (C := R_Grammar) (T := T_Grammar) (N := 8) hx hb hT hn_Grammar hown hK hP 0 rfl rfl 1 (by decide) (hT _ tb_121) (fun _ h9 => h9) rfl d_Grammar_hasTwinBefore_14 ?_
        refine lv_iload_n hx hb d_Grammar_hasTwinBefore_17 rfl (lv_at hl 1 rfl) ?_
        refine va_iald hx hb hK hP 1 0 rfl rfl h.1 d_Grammar_hasTwinBefore_18 ?_
        have h := h.2
        refine lv_icmp_ne hx hb d_Grammar_hasTwinBefore_19 (tgt := 69) (by decide) (fun hc => ?_) (fun hc => ?_)
        · have h := h.2 hc
          refine lv_iinc (k := 2) (v := (x2 + 1)) hx hb d_Grammar_hasTwinBefore_69 hl rfl (congrArg (x2 + ·) (by decide)) (by decide) rfl (fun ls hl => ?_)
          have hl : lv_has ls 3 [(2, .int (x2 + 1)), (0, .ref qg), (1, .int x1)] := hl
          refine lv_goto hx hb d_Grammar_hasTwinBefore_72 (tgt := 2) (by decide) ?_
          exact ih (x2 + 1) _ _ _ h (lv_sub hl [1, 2, 0] rfl) hP hD hS
        · have h := h.1 hc
          refine lv_aload_n hx hb d_Grammar_hasTwinBefore_22 rfl (lv_at hl 0 rfl) ?_
          refine lv_iload_n hx hb d_Grammar_hasTwinBefore_23 rfl (lv_at hl 2 rfl) ?_
          refine lv_iconst (v := 0) hx hb d_Grammar_hasTwinBefore_24 (by decide) ?_
          have hPc := hP.sub (ws' := [(qg, .inr (2, [.int gN, .ref qgH, .ref qgS, .ref qgL, .ref qgW, .ref qgU, .ref qgO, .int gD])), (qgS, .inl (kI, 42, .inl gS))]) [0, 2] rfl
          have hDc := hD.sub (ws' := [(qg, .inr (2, [.int gN, .ref qgH, .ref qgS, .ref qgL, .ref qgW, .ref qgU, .ref qgO, .int gD])), (qgS, .inl (kI, 42, .inl gS))]) [0, 2] (by decide) rfl
          have hFc := va_free (wc := [(qg, .inr (2, [.int gN, .ref qgH, .ref qgS, .ref qgL, .ref qgW, .ref qgU, .ref qgO, .int gD])), (qgS, .inl (kI, 42, .inl gS))]) hD hS hA [0, 2] rfl
          refine va_calli (va_runV (As := [.int x2, .int (0 : Int32)]) (rest := []) ⟨hx, hb, hml, hown, hts⟩ (c_Grammar_symbol l dC dI kI kC kZ kJ kB kS qg qgH qgS qgL qgW qgU qgO H.size gN gD gS x2 (0 : Int32) h) ⟨callB_of 2 hts (gA tb_294) rfl rfl rfl (hT _ tb_47) (hT _ tb_291) (by decide +kernel) ⟨Nat.le_of_ble_eq_true rfl, Nat.le_of_ble_eq_true rfl⟩, (hT _ tb_292), (hT _ tb_293)⟩ ⟨fun a U g mk q => by obtain ⟨q0, q1, qP, qK, qD, qN⟩ := q; exact ⟨q0, q1, qP, va_K.moved (u := U) (U := U.calling g mk a) (Vm.Alike.refl U.vm) qK, qD, vNE.same (U := U.calling g mk a) rfl qN⟩, va_recv hK hP rfl (q0 := 0) rfl, fun U hU hW => ⟨rfl, by rw [hU], by rw [hU]; exact hPc, va_K.moved hW.alike hK, hDc.weaken (fun _ _ _ _ => trivial), vNE.moved hW hN⟩⟩ rfl rfl hl.1 rfl (lv_room (Nat.le_of_ble_eq_true rfl)) d_Grammar_hasTwinBefore_25 ⟨Nat.zero_le _, Nat.zero_le _⟩) hS (fun q _ h => hFc q h) hFc (fun r25 u t H_25 locs ht hvm h hB hz1 hk1 hS => ?_)
          obtain ⟨hP1, hK1, hD1⟩ := hB
          rw [ht] at hP1
          try dsimp only at h
          obtain ⟨hP, hD⟩ := va_join (wr := [(qgH, .inl (kI, 14, .inl gH))]) (w1 := [(qg, .inr (2, [.int gN, .ref qgH, .ref qgS, .ref qgL, .ref qgW, .ref qgU, .ref qgO, .int gD])), (qgS, .inl (kI, 42, .inl gS))]) hP hD [0, 2] [1] rfl rfl (by decide) (by decide) hk1 hFc hP1 hD1
          have hP : va_P (dC, dI) vwCl [(qg, .inr (2, [.int gN, .ref qgH, .ref qgS, .ref qgL, .ref qgW, .ref qgU, .ref qgO, .int gD])), (qgH, .inl (kI, 14, .inl gH)), (qgS, .inl (kI, 42, .inl gS))] H_25 := hP.sub (ws' := [(qg, .inr (2, [.int gN, .ref qgH, .ref qgS, .ref qgL, .ref qgW, .ref qgU, .ref qgO, .int gD])), (qgH, .inl (kI, 14, .inl gH)), (qgS, .inl (kI, 42, .inl gS))]) [1, 0, 2] rfl
          have hD : va_D A [(qg, .inr (2, [.int gN, .ref qgH, .ref qgS, .ref qgL, .ref qgW, .ref qgU, .ref qgO, .int gD])), (qgH, .inl (kI, 14, .inl gH)), (qgS, .inl (kI, 42, .inl gS))] := hD.sub (ws' := [(qg, .inr (2, [.int gN, .ref qgH, .ref qgS, .ref qgL, .ref qgW, .ref qgU, .ref qgO, .int gD])), (qgH, .inl (kI, 14, .inl gH)), (qgS, .inl (kI, 42, .inl gS))]) [1, 0, 2] (by decide) rfl
          refine lv_aload_n hx hb d_Grammar_hasTwinBefore_28 rfl (lv_at hl 0 rfl) ?_
          refine lv_iload_n hx hb d_Grammar_hasTwinBefore_29 rfl (lv_at hl 1 rfl) ?_
          refine lv_iconst (v := 0) hx hb d_Grammar_hasTwinBefore_30 (by decide) ?_
          have hPc := hP.sub (ws' := [(qg, .inr (2, [.int gN, .ref qgH, .ref qgS, .ref qgL, .ref qgW, .ref qgU, .ref qgO, .int gD])), (qgS, .inl (kI, 42, .inl gS))]) [0, 2] rfl
          have hDc := hD.sub (ws' := [(qg, .inr (2, [.int gN, .ref qgH, .ref qgS, .ref qgL, .ref qgW, .ref qgU, .ref qgO, .int gD])), (qgS, .inl (kI, 42, .inl gS))]) [0, 2] (by decide) rfl
          have hFc := va_free (wc := [(qg, .inr (2, [.int gN, .ref qgH, .ref qgS, .ref qgL, .ref qgW, .ref qgU, .ref qgO, .int gD])), (qgS, .inl (kI, 42, .inl gS))]) hD hS hA [0, 2] rfl
          refine va_calli (va_runV (As := [.int x1, .int (0 : Int32)]) (rest := [.int r25]) ⟨hx, hb, hml, hown, hts⟩ (c_Grammar_symbol l dC dI kI kC kZ kJ kB kS qg qgH qgS qgL qgW qgU qgO H_25.size gN gD gS x1 (0 : Int32) h) ⟨callB_of 2 hts (gA tb_294) rfl rfl rfl (hT _ tb_47) (hT _ tb_291) (by decide +kernel) ⟨Nat.le_of_ble_eq_true rfl, Nat.le_of_ble_eq_true rfl⟩, (hT _ tb_292), (hT _ tb_293)⟩ ⟨fun a U g mk q => by obtain ⟨q0, q1, qP, qK, qD, qN⟩ := q; exact ⟨q0, q1, qP, va_K.moved (u := U) (U := U.calling g mk a) (Vm.Alike.refl U.vm) qK, qD, vNE.same (U := U.calling g mk a) rfl qN⟩, va_recv hK hP rfl (q0 := 0) rfl, fun U hU hW => ⟨rfl, by rw [hU], by rw [hU]; exact hPc, va_K.moved hW.alike hK, hDc.weaken (fun _ _ _ _ => trivial), vNE.moved hW hN⟩⟩ rfl rfl hl.1 rfl (lv_room (Nat.le_of_ble_eq_true rfl)) d_Grammar_hasTwinBefore_31 ⟨Nat.zero_le _, Nat.zero_le _⟩) hS (fun q _ h => hFc q h) hFc (fun r31 u t H_31 locs ht hvm h hB hz1 hk1 hS => ?_)
          obtain ⟨hP1, hK1, hD1⟩ := hB
          rw [ht] at hP1
          try dsimp only at h
          obtain ⟨hP, hD⟩ := va_join (wr := [(qgH, .inl (kI, 14, .inl gH))]) (w1 := [(qg, .inr (2, [.int gN, .ref qgH, .ref qgS, .ref qgL, .ref qgW, .ref qgU, .ref qgO, .int gD])), (qgS, .inl (kI, 42, .inl gS))]) hP hD [0, 2] [1] rfl rfl (by decide) (by decide) hk1 hFc hP1 hD1
          have hP : va_P (dC, dI) vwCl [(qg, .inr (2, [.int gN, .ref qgH, .ref qgS, .ref qgL, .ref qgW, .ref qgU, .ref qgO, .int gD])), (qgH, .inl (kI, 14, .inl gH)), (qgS, .inl (kI, 42, .inl gS))] H_31 := hP.sub (ws' := [(qg, .inr (2, [.int gN, .ref qgH, .ref qgS, .ref qgL, .ref qgW, .ref qgU, .ref qgO, .int gD])), (qgH, .inl (kI, 14, .inl gH)), (qgS, .inl (kI, 42, .inl gS))]) [1, 0, 2] rfl
          have hD : va_D A [(qg, .inr (2, [.int gN, .ref qgH, .ref qgS, .ref qgL, .ref qgW, .ref qgU, .ref qgO, .int gD])), (qgH, .inl (kI, 14, .inl gH)), (qgS, .inl (kI, 42, .inl gS))] := hD.sub (ws' := [(qg, .inr (2, [.int gN, .ref qgH, .ref qgS, .ref qgL, .ref qgW, .ref qgU, .ref qgO, .int gD])), (qgH, .inl (kI, 14, .inl gH)), (qgS, .inl (kI, 42, .inl gS))]) [1, 0, 2] (by decide) rfl
          refine lv_icmp_ne hx hb d_Grammar_hasTwinBefore_34 (tgt := 69) (by decide) (fun hc => ?_) (fun hc => ?_)
          · have h := h.2 hc
            refine lv_iinc (k := 2) (v := (x2 + 1)) hx hb d_Grammar_hasTwinBefore_69 hl rfl (congrArg (x2 + ·) (by decide)) (by decide) rfl (fun ls hl => ?_)
            have hl : lv_has ls 3 [(2, .int (x2 + 1)), (0, .ref qg), (1, .int x1)] := hl
            refine lv_goto hx hb d_Grammar_hasTwinBefore_72 (tgt := 2) (by decide) ?_
            exact ih (x2 + 1) _ _ _ h (lv_sub hl [1, 2, 0] rfl) hP hD hS
          · have h := h.1 hc
            refine lv_aload_n hx hb d_Grammar_hasTwinBefore_37 rfl (lv_at hl 0 rfl) ?_
            refine lv_iload_n hx hb d_Grammar_hasTwinBefore_38 rfl (lv_at hl 2 rfl) ?_
            refine lv_iconst (v := 1) hx hb d_Grammar_hasTwinBefore_39 (by decide) ?_
            have hPc := hP.sub (ws' := [(qg, .inr (2, [.int gN, .ref qgH, .ref qgS, .ref qgL, .ref qgW, .ref qgU, .ref qgO, .int gD])), (qgS, .inl (kI, 42, .inl gS))]) [0, 2] rfl
            have hDc := hD.sub (ws' := [(qg, .inr (2, [.int gN, .ref qgH, .ref qgS, .ref qgL, .ref qgW, .ref qgU, .ref qgO, .int gD])), (qgS, .inl (kI, 42, .inl gS))]) [0, 2] (by decide) rfl
            have hFc := va_free (wc := [(qg, .inr (2, [.int gN, .ref qgH, .ref qgS, .ref qgL, .ref qgW, .ref qgU, .ref qgO, .int gD])), (qgS, .inl (kI, 42, .inl gS))]) hD hS hA [0, 2] rfl
            refine va_calli (va_runV (As := [.int x2, .int (1 : Int32)]) (rest := []) ⟨hx, hb, hml, hown, hts⟩ (c_Grammar_symbol l dC dI kI kC kZ kJ kB kS qg qgH qgS qgL qgW qgU qgO H_31.size gN gD gS x2 (1 : Int32) h) ⟨callB_of 2 hts (gA tb_294) rfl rfl rfl (hT _ tb_47) (hT _ tb_291) (by decide +kernel) ⟨Nat.le_of_ble_eq_true rfl, Nat.le_of_ble_eq_true rfl⟩, (hT _ tb_292), (hT _ tb_293)⟩ ⟨fun a U g mk q => by obtain ⟨q0, q1, qP, qK, qD, qN⟩ := q; exact ⟨q0, q1, qP, va_K.moved (u := U) (U := U.calling g mk a) (Vm.Alike.refl U.vm) qK, qD, vNE.same (U := U.calling g mk a) rfl qN⟩, va_recv hK hP rfl (q0 := 0) rfl, fun U hU hW => ⟨rfl, by rw [hU], by rw [hU]; exact hPc, va_K.moved hW.alike hK, hDc.weaken (fun _ _ _ _ => trivial), vNE.moved hW hN⟩⟩ rfl rfl hl.1 rfl (lv_room (Nat.le_of_ble_eq_true rfl)) d_Grammar_hasTwinBefore_40 ⟨Nat.zero_le _, Nat.zero_le _⟩) hS (fun q _ h => hFc q h) hFc (fun r40 u t H_40 locs ht hvm h hB hz1 hk1 hS => ?_)
            obtain ⟨hP1, hK1, hD1⟩ := hB
            rw [ht] at hP1
            try dsimp only at h
            obtain ⟨hP, hD⟩ := va_join (wr := [(qgH, .inl (kI, 14, .inl gH))]) (w1 := [(qg, .inr (2, [.int gN, .ref qgH, .ref qgS, .ref qgL, .ref qgW, .ref qgU, .ref qgO, .int gD])), (qgS, .inl (kI, 42, .inl gS))]) hP hD [0, 2] [1] rfl rfl (by decide) (by decide) hk1 hFc hP1 hD1
            have hP : va_P (dC, dI) vwCl [(qg, .inr (2, [.int gN, .ref qgH, .ref qgS, .ref qgL, .ref qgW, .ref qgU, .ref qgO, .int gD])), (qgH, .inl (kI, 14, .inl gH)), (qgS, .inl (kI, 42, .inl gS))] H_40 := hP.sub (ws' := [(qg, .inr (2, [.int gN, .ref qgH, .ref qgS, .ref qgL, .ref qgW, .ref qgU, .ref qgO, .int gD])), (qgH, .inl (kI, 14, .inl gH)), (qgS, .inl (kI, 42, .inl gS))]) [1, 0, 2] rfl
            have hD : va_D A [(qg, .inr (2, [.int gN, .ref qgH, .ref qgS, .ref qgL, .ref qgW, .ref qgU, .ref qgO, .int gD])), (qgH, .inl (kI, 14, .inl gH)), (qgS, .inl (kI, 42, .inl gS))] := hD.sub (ws' := [(qg, .inr (2, [.int gN, .ref qgH, .ref qgS, .ref qgL, .ref qgW, .ref qgU, .ref qgO, .int gD])), (qgH, .inl (kI, 14, .inl gH)), (qgS, .inl (kI, 42, .inl gS))]) [1, 0, 2] (by decide) rfl
            refine lv_aload_n hx hb d_Grammar_hasTwinBefore_43 rfl (lv_at hl 0 rfl) ?_
            refine lv_iload_n hx hb d_Grammar_hasTwinBefore_44 rfl (lv_at hl 1 rfl) ?_
            refine lv_iconst (v := 1) hx hb d_Grammar_hasTwinBefore_45 (by decide) ?_
            have hPc := hP.sub (ws' := [(qg, .inr (2, [.int gN, .ref qgH, .ref qgS, .ref qgL, .ref qgW, .ref qgU, .ref qgO, .int gD])), (qgS, .inl (kI, 42, .inl gS))]) [0, 2] rfl
            have hDc := hD.sub (ws' := [(qg, .inr (2, [.int gN, .ref qgH, .ref qgS, .ref qgL, .ref qgW, .ref qgU, .ref qgO, .int gD])), (qgS, .inl (kI, 42, .inl gS))]) [0, 2] (by decide) rfl
            have hFc := va_free (wc := [(qg, .inr (2, [.int gN, .ref qgH, .ref qgS, .ref qgL, .ref qgW, .ref qgU, .ref qgO, .int gD])), (qgS, .inl (kI, 42, .inl gS))]) hD hS hA [0, 2] rfl
            refine va_calli (va_runV (As := [.int x1, .int (1 : Int32)]) (rest := [.int r40]) ⟨hx, hb, hml, hown, hts⟩ (c_Grammar_symbol l dC dI kI kC kZ kJ kB kS qg qgH qgS qgL qgW qgU qgO H_40.size gN gD gS x1 (1 : Int32) h) ⟨callB_of 2 hts (gA tb_294) rfl rfl rfl (hT _ tb_47) (hT _ tb_291) (by decide +kernel) ⟨Nat.le_of_ble_eq_true rfl, Nat.le_of_ble_eq_true rfl⟩, (hT _ tb_292), (hT _ tb_293)⟩ ⟨fun a U g mk q => by obtain ⟨q0, q1, qP, qK, qD, qN⟩ := q; exact ⟨q0, q1, qP, va_K.moved (u := U) (U := U.calling g mk a) (Vm.Alike.refl U.vm) qK, qD, vNE.same (U := U.calling g mk a) rfl qN⟩, va_recv hK hP rfl (q0 := 0) rfl, fun U hU hW => ⟨rfl, by rw [hU], by rw [hU]; exact hPc, va_K.moved hW.alike hK, hDc.weaken (fun _ _ _ _ => trivial), vNE.moved hW hN⟩⟩ rfl rfl hl.1 rfl (lv_room (Nat.le_of_ble_eq_true rfl)) d_Grammar_hasTwinBefore_46 ⟨Nat.zero_le _, Nat.zero_le _⟩) hS (fun q _ h => hFc q h) hFc (fun r46 u t H_46 locs ht hvm h hB hz1 hk1 hS => ?_)
            obtain ⟨hP1, hK1, hD1⟩ := hB
            rw [ht] at hP1
            try dsimp only at h
            obtain ⟨hP, hD⟩ := va_join (wr := [(qgH, .inl (kI, 14, .inl gH))]) (w1 := [(qg, .inr (2, [.int gN, .ref qgH, .ref qgS, .ref qgL, .ref qgW, .ref qgU, .ref qgO, .int gD])), (qgS, .inl (kI, 42, .inl gS))]) hP hD [0, 2] [1] rfl rfl (by decide) (by decide) hk1 hFc hP1 hD1
            have hP : va_P (dC, dI) vwCl [(qg, .inr (2, [.int gN, .ref qgH, .ref qgS, .ref qgL, .ref qgW, .ref qgU, .ref qgO, .int gD])), (qgH, .inl (kI, 14, .inl gH)), (qgS, .inl (kI, 42, .inl gS))] H_46 := hP.sub (ws' := [(qg, .inr (2, [.int gN, .ref qgH, .ref qgS, .ref qgL, .ref qgW, .ref qgU, .ref qgO, .int gD])), (qgH, .inl (kI, 14, .inl gH)), (qgS, .inl (kI, 42, .inl gS))]) [1, 0, 2] rfl
            have hD : va_D A [(qg, .inr (2, [.int gN, .ref qgH, .ref qgS, .ref qgL, .ref qgW, .ref qgU, .ref qgO, .int gD])), (qgH, .inl (kI, 14, .inl gH)), (qgS, .inl (kI, 42, .inl gS))] := hD.sub (ws' := [(qg, .inr (2, [.int gN, .ref qgH, .ref qgS, .ref qgL, .ref qgW, .ref qgU, .ref qgO, .int gD])), (qgH, .inl (kI, 14, .inl gH)), (qgS, .inl (kI, 42, .inl gS))]) [1, 0, 2] (by decide) rfl
            refine lv_icmp_ne hx hb d_Grammar_hasTwinBefore_49 (tgt := 69) (by decide) (fun hc => ?_) (fun hc => ?_)
            · have h := h.2 hc
              refine lv_iinc (k := 2) (v := (x2 + 1)) hx hb d_Grammar_hasTwinBefore_69 hl rfl (congrArg (x2 + ·) (by decide)) (by decide) rfl (fun ls hl => ?_)
              have hl : lv_has ls 3 [(2, .int (x2 + 1)), (0, .ref qg), (1, .int x1)] := hl
              refine lv_goto hx hb d_Grammar_hasTwinBefore_72 (tgt := 2) (by decide) ?_
              exact ih (x2 + 1) _ _ _ h (lv_sub hl [1, 2, 0] rfl) hP hD hS
            · have h := h.1 hc
              refine lv_aload_n hx hb d_Grammar_hasTwinBefore_52 rfl (lv_at hl 0 rfl) ?_
              refine lv_iload_n hx hb d_Grammar_hasTwinBefore_53 rfl (lv_at hl 2 rfl) ?_
              refine lv_iconst (v := 2) hx hb d_Grammar_hasTwinBefore_54 (by decide) ?_
              have hPc := hP.sub (ws' := [(qg, .inr (2, [.int gN, .ref qgH, .ref qgS, .ref qgL, .ref qgW, .ref qgU, .ref qgO, .int gD])), (qgS, .inl (kI, 42, .inl gS))]) [0, 2] rfl
              have hDc := hD.sub (ws' := [(qg, .inr (2, [.int gN, .ref qgH, .ref qgS, .ref qgL, .ref qgW, .ref qgU, .ref qgO, .int gD])), (qgS, .inl (kI, 42, .inl gS))]) [0, 2] (by decide) rfl
              have hFc := va_free (wc := [(qg, .inr (2, [.int gN, .ref qgH, .ref qgS, .ref qgL, .ref qgW, .ref qgU, .ref qgO, .int gD])), (qgS, .inl (kI, 42, .inl gS))]) hD hS hA [0, 2] rfl
              refine va_calli (va_runV (As := [.int x2, .int (2 : Int32)]) (rest := []) ⟨hx, hb, hml, hown, hts⟩ (c_Grammar_symbol l dC dI kI kC kZ kJ kB kS qg qgH qgS qgL qgW qgU qgO H_46.size gN gD gS x2 (2 : Int32) h) ⟨callB_of 2 hts (gA tb_294) rfl rfl rfl (hT _ tb_47) (hT _ tb_291) (by decide +kernel) ⟨Nat.le_of_ble_eq_true rfl, Nat.le_of_ble_eq_true rfl⟩, (hT _ tb_292), (hT _ tb_293)⟩ ⟨fun a U g mk q => by obtain ⟨q0, q1, qP, qK, qD, qN⟩ := q; exact ⟨q0, q1, qP, va_K.moved (u := U) (U := U.calling g mk a) (Vm.Alike.refl U.vm) qK, qD, vNE.same (U := U.calling g mk a) rfl qN⟩, va_recv hK hP rfl (q0 := 0) rfl, fun U hU hW => ⟨rfl, by rw [hU], by rw [hU]; exact hPc, va_K.moved hW.alike hK, hDc.weaken (fun _ _ _ _ => trivial), vNE.moved hW hN⟩⟩ rfl rfl hl.1 rfl (lv_room (Nat.le_of_ble_eq_true rfl)) d_Grammar_hasTwinBefore_55 ⟨Nat.zero_le _, Nat.zero_le _⟩) hS (fun q _ h => hFc q h) hFc (fun r55 u t H_55 locs ht hvm h hB hz1 hk1 hS => ?_)
              obtain ⟨hP1, hK1, hD1⟩ := hB
              rw [ht] at hP1
              try dsimp only at h
              obtain ⟨hP, hD⟩ := va_join (wr := [(qgH, .inl (kI, 14, .inl gH))]) (w1 := [(qg, .inr (2, [.int gN, .ref qgH, .ref qgS, .ref qgL, .ref qgW, .ref qgU, .ref qgO, .int gD])), (qgS, .inl (kI, 42, .inl gS))]) hP hD [0, 2] [1] rfl rfl (by decide) (by decide) hk1 hFc hP1 hD1
              have hP : va_P (dC, dI) vwCl [(qg, .inr (2, [.int gN, .ref qgH, .ref qgS, .ref qgL, .ref qgW, .ref qgU, .ref qgO, .int gD])), (qgH, .inl (kI, 14, .inl gH)), (qgS, .inl (kI, 42, .inl gS))] H_55 := hP.sub (ws' := [(qg, .inr (2, [.int gN, .ref qgH, .ref qgS, .ref qgL, .ref qgW, .ref qgU, .ref qgO, .int gD])), (qgH, .inl (kI, 14, .inl gH)), (qgS, .inl (kI, 42, .inl gS))]) [1, 0, 2] rfl
              have hD : va_D A [(qg, .inr (2, [.int gN, .ref qgH, .ref qgS, .ref qgL, .ref qgW, .ref qgU, .ref qgO, .int gD])), (qgH, .inl (kI, 14, .inl gH)), (qgS, .inl (kI, 42, .inl gS))] := hD.sub (ws' := [(qg, .inr (2, [.int gN, .ref qgH, .ref qgS, .ref qgL, .ref qgW, .ref qgU, .ref qgO, .int gD])), (qgH, .inl (kI, 14, .inl gH)), (qgS, .inl (kI, 42, .inl gS))]) [1, 0, 2] (by decide) rfl
              refine lv_aload_n hx hb d_Grammar_hasTwinBefore_58 rfl (lv_at hl 0 rfl) ?_
              refine lv_iload_n hx hb d_Grammar_hasTwinBefore_59 rfl (lv_at hl 1 rfl) ?_
              refine lv_iconst (v := 2) hx hb d_Grammar_hasTwinBefore_60 (by decide) ?_
              have hPc := hP.sub (ws' := [(qg, .inr (2, [.int gN, .ref qgH, .ref qgS, .ref qgL, .ref qgW, .ref qgU, .ref qgO, .int gD])), (qgS, .inl (kI, 42, .inl gS))]) [0, 2] rfl
              have hDc := hD.sub (ws' := [(qg, .inr (2, [.int gN, .ref qgH, .ref qgS, .ref qgL, .ref qgW, .ref qgU, .ref qgO, .int gD])), (qgS, .inl (kI, 42, .inl gS))]) [0, 2] (by decide) rfl
              have hFc := va_free (wc := [(qg, .inr (2, [.int gN, .ref qgH, .ref qgS, .ref qgL, .ref qgW, .ref qgU, .ref qgO, .int gD])), (qgS, .inl (kI, 42, .inl gS))]) hD hS hA [0, 2] rfl
              refine va_calli (va_runV (As := [.int x1, .int (2 : Int32)]) (rest := [.int r55]) ⟨hx, hb, hml, hown, hts⟩ (c_Grammar_symbol l dC dI kI kC kZ kJ kB kS qg qgH qgS qgL qgW qgU qgO H_55.size gN gD gS x1 (2 : Int32) h) ⟨callB_of 2 hts (gA tb_294) rfl rfl rfl (hT _ tb_47) (hT _ tb_291) (by decide +kernel) ⟨Nat.le_of_ble_eq_true rfl, Nat.le_of_ble_eq_true rfl⟩, (hT _ tb_292), (hT _ tb_293)⟩ ⟨fun a U g mk q => by obtain ⟨q0, q1, qP, qK, qD, qN⟩ := q; exact ⟨q0, q1, qP, va_K.moved (u := U) (U := U.calling g mk a) (Vm.Alike.refl U.vm) qK, qD, vNE.same (U := U.calling g mk a) rfl qN⟩, va_recv hK hP rfl (q0 := 0) rfl, fun U hU hW => ⟨rfl, by rw [hU], by rw [hU]; exact hPc, va_K.moved hW.alike hK, hDc.weaken (fun _ _ _ _ => trivial), vNE.moved hW hN⟩⟩ rfl rfl hl.1 rfl (lv_room (Nat.le_of_ble_eq_true rfl)) d_Grammar_hasTwinBefore_61 ⟨Nat.zero_le _, Nat.zero_le _⟩) hS (fun q _ h => hFc q h) hFc (fun r61 u t H_61 locs ht hvm h hB hz1 hk1 hS => ?_)
              obtain ⟨hP1, hK1, hD1⟩ := hB
              rw [ht] at hP1
              try dsimp only at h
              obtain ⟨hP, hD⟩ := va_join (wr := [(qgH, .inl (kI, 14, .inl gH))]) (w1 := [(qg, .inr (2, [.int gN, .ref qgH, .ref qgS, .ref qgL, .ref qgW, .ref qgU, .ref qgO, .int gD])), (qgS, .inl (kI, 42, .inl gS))]) hP hD [0, 2] [1] rfl rfl (by decide) (by decide) hk1 hFc hP1 hD1
              have hP : va_P (dC, dI) vwCl [(qg, .inr (2, [.int gN, .ref qgH, .ref qgS, .ref qgL, .ref qgW, .ref qgU, .ref qgO, .int gD])), (qgH, .inl (kI, 14, .inl gH)), (qgS, .inl (kI, 42, .inl gS))] H_61 := hP.sub (ws' := [(qg, .inr (2, [.int gN, .ref qgH, .ref qgS, .ref qgL, .ref qgW, .ref qgU, .ref qgO, .int gD])), (qgH, .inl (kI, 14, .inl gH)), (qgS, .inl (kI, 42, .inl gS))]) [1, 0, 2] rfl
              have hD : va_D A [(qg, .inr (2, [.int gN, .ref qgH, .ref qgS, .ref qgL, .ref qgW, .ref qgU, .ref qgO, .int gD])), (qgH, .inl (kI, 14, .inl gH)), (qgS, .inl (kI, 42, .inl gS))] := hD.sub (ws' := [(qg, .inr (2, [.int gN, .ref qgH, .ref qgS, .ref qgL, .ref qgW, .ref qgU, .ref qgO, .int gD])), (qgH, .inl (kI, 14, .inl gH)), (qgS, .inl (kI, 42, .inl gS))]) [1, 0, 2] (by decide) rfl
              refine lv_icmp_ne hx hb d_Grammar_hasTwinBefore_64 (tgt := 69) (by decide) (fun hc => ?_) (fun hc => ?_)
              · have h := h.2 hc
                refine lv_iinc (k := 2) (v := (x2 + 1)) hx hb d_Grammar_hasTwinBefore_69 hl rfl (congrArg (x2 + ·) (by decide)) (by decide) rfl (fun ls hl => ?_)
                have hl : lv_has ls 3 [(2, .int (x2 + 1)), (0, .ref qg), (1, .int x1)] := hl
                refine lv_goto hx hb d_Grammar_hasTwinBefore_72 (tgt := 2) (by decide) ?_
                exact ih (x2 + 1) _ _ _ h (lv_sub hl [1, 2, 0] rfl) hP hD hS
              · have h := h.1 hc
                refine lv_iconst (v := 1) hx hb d_Grammar_hasTwinBefore_67 (by decide) ?_
                exact W.zret (ty := .boolean) (v := (1 : Int32)) hx hb hr rfl (fun t ht hW => ⟨⟨(1 : Int32), (), rfl, h, by rw [ht]; exact hP, va_K.moved hW.alike hK, hD⟩, hS.F ht⟩) hS.2.2 d_Grammar_hasTwinBefore_68
  have hl := lv_entry ([.ref qg, .int a1]) (n := 3) (Nat.le_of_ble_eq_true rfl)
  rw [lg_entry_eq]
  generalize (lg_sl ([.ref qg, .int a1]) ++ List.replicate (3 - (lg_sl ([.ref qg, .int a1])).length) Slot.unset).toArray = ls at hl ⊢
  have hl : lv_has ls 3 [(0, .ref qg), (1, .int a1)] := hl
  unfold v_Grammar_hasTwinBefore at h
  refine lv_iconst (v := 0) hx hb d_Grammar_hasTwinBefore_0 (by decide) ?_
  refine lv_istore_n hx hb d_Grammar_hasTwinBefore_1 rfl hl (by decide) rfl (fun ls hl => ?_)
  have hl : lv_has ls 3 [(2, .int (0 : Int32)), (0, .ref qg), (1, .int a1)] := hl
  obtain ⟨k2, h⟩ := h
  exact L2 a1 k2 (0 : Int32) _ _ _ h (lv_sub hl [1, 2, 0] rfl) hP hD hS

def v_Grammar_lettersIn_L4 (post : Int32 → Prop) (gS : Nat → Int32) (gL : Nat → Int32) (x1 : Int32) : Nat → Int32 → Int32 → Prop
  | 0, _, _ => False
  | n4 + 1, x2, x3 =>
    (vp_in x1 14 ∧ (((gL x1.toNatClampNeg) ≤ x3 → (post x2)) ∧ (¬ (gL x1.toNatClampNeg) ≤ x3 → (v_Grammar_symbol x1 x3 gS (fun r17 => (v_RT_isLetter r17 (fun r20 => ((r20 = 0 → ((v_Grammar_lettersIn_L4 post gS gL x1 n4) x2 (x3 + 1))) ∧ (¬ r20 = 0 → (v_Grammar_symbol x1 x3 gS (fun r30 => (v_RT_bitOf r30 (fun r33 => ((v_Grammar_lettersIn_L4 post gS gL x1 n4) (x2 ||| r33) (x3 + 1)))))))))))))))
def v_Grammar_lettersIn (a1 : Int32) (gS : Nat → Int32) (gL : Nat → Int32) (post : Int32 → Prop) : Prop :=
  (∃ k4, v_Grammar_lettersIn_L4 post gS gL a1 k4 (0 : Int32) (0 : Int32))
set_option maxHeartbeats 1000000 in
set_option maxRecDepth 100000 in
theorem c_Grammar_lettersIn (l : Launch) (dC : Nat → ClassId) (dI : Nat → Nat → Nat) (kI kC kZ kJ kB kS : ClassId) (qg qgH qgS qgL qgW qgU qgO : Nat) (sz : Nat) (gN : Int32) (gD : Int32) (gS : Nat → Int32) (gL : Nat → Int32) (a1 : Int32) {post : Int32 → Prop} (h : v_Grammar_lettersIn a1 gS gL post) : Met l y_Grammar_lettersIn w_Grammar_lettersIn ({ frames := 1, cells := 0, slots := 0, locals := 22 }) (va_Pc [.ref qg, .int a1] (fun U => U.heap.size = sz ∧ va_P (dC, dI) vwCl [(qg, .inr (2, [.int gN, .ref qgH, .ref qgS, .ref qgL, .ref qgW, .ref qgU, .ref qgO, .int gD])), (qgS, .inl (kI, 42, .inl gS)), (qgL, .inl (kI, 14, .inl gL))] U.heap ∧ va_K (dC, dI) vwCl (vTY kI kC kZ kJ kB kS) U ∧ va_D (fun _ => True) [(qg, .inr (2, [.int gN, .ref qgH, .ref qgS, .ref qgL, .ref qgW, .ref qgU, .ref qgO, .int gD])), (qgS, .inl (kI, 42, .inl gS)), (qgL, .inl (kI, 14, .inl gL))] ∧ vNE U)) (va_Qi (fun (r : Int32) (u : Unit) => post r) (fun u t => va_P (dC, dI) vwCl [(qg, .inr (2, [.int gN, .ref qgH, .ref qgS, .ref qgL, .ref qgW, .ref qgU, .ref qgO, .int gD])), (qgS, .inl (kI, 42, .inl gS)), (qgL, .inl (kI, 14, .inl gL))] t.heap ∧ va_K (dC, dI) vwCl (vTY kI kC kZ kJ kB kS) t ∧ va_D (va_A [(qg, .inr (2, [.int gN, .ref qgH, .ref qgS, .ref qgL, .ref qgW, .ref qgU, .ref qgO, .int gD])), (qgS, .inl (kI, 42, .inl gS)), (qgL, .inl (kI, 14, .inl gL))] sz) [(qg, .inr (2, [.int gN, .ref qgH, .ref qgS, .ref qgL, .ref qgW, .ref qgU, .ref qgO, .int gD])), (qgS, .inl (kI, 42, .inl gS)), (qgL, .inl (kI, 14, .inl gL))]) (va_A [(qg, .inr (2, [.int gN, .ref qgH, .ref qgS, .ref qgL, .ref qgW, .ref qgU, .ref qgO, .int gD])), (qgS, .inl (kI, 42, .inl gS)), (qgL, .inl (kI, 14, .inl gL))] sz)) 0 0 (va_A [(qg, .inr (2, [.int gN, .ref qgH, .ref qgS, .ref qgL, .ref qgW, .ref qgU, .ref qgO, .int gD])), (qgS, .inl (kI, 42, .inl gS)), (qgL, .inl (kI, 14, .inl gL))] sz) := by
  refine Met.ofW (cc := b_Grammar_lettersIn) (maxL := 4) (ret := (some .int)) (by decide) rfl ?_
  intro p e s m args below meth c s₁ B hml hv
  obtain ⟨rfl, hsz, hP, hK, hD0, hN⟩ := hv
  have hx := B.exec
  have hb := B.bytes
  have hr := B.returns
  have hts := atoms_spec (ws := w_Grammar_lettersIn) B.pre
  have hT : ∀ w ∈ TB, w.before ([.ref qg, .int a1] : List Value).toArray s = true := fun w h => hts w (List.mem_cons_of_mem _ h)
  have hown : s.vm.findClass R_Grammar = some m.cls := findClass_of_methodNamed B.named
  have hlocks := B.notSynchronized
  subst hsz
  have hD := hD0.self (sz := s.heap.size)
  generalize hAe : va_A [(qg, .inr (2, [.int gN, .ref qgH, .ref qgS, .ref qgL, .ref qgW, .ref qgU, .ref qgO, .int gD])), (qgS, .inl (kI, 42, .inl gS)), (qgL, .inl (kI, 14, .inl gL))] s.heap.size = A at hD ⊢
  have hA : ∀ q : Nat, s.heap.size ≤ q → A q := fun q h => by rw [← hAe]; exact Or.inr h
  have hS : va_S A s.heap s.heap [] := va_S.rf
  have L4 : ∀ (x1 : Int32) (n4 : Nat) (x2 : Int32) (x3 : Int32) (ls : Array Slot) (H : Heap) (locs : List Loc), v_Grammar_lettersIn_L4 post gS gL x1 n4 x2 x3 → lv_has ls 4 [(0, .ref qg), (1, .int x1), (2, .int x2), (3, .int x3)] → va_P (dC, dI) vwCl [(qg, .inr (2, [.int gN, .ref qgH, .ref qgS, .ref qgL, .ref qgW, .ref qgU, .ref qgO, .int gD])), (qgS, .inl (kI, 42, .inl gS)), (qgL, .inl (kI, 14, .inl gL))] H → va_D A [(qg, .inr (2, [.int gN, .ref qgH, .ref qgS, .ref qgL, .ref qgW, .ref qgU, .ref qgO, .int gD])), (qgS, .inl (kI, 42, .inl gS)), (qgL, .inl (kI, 14, .inl gL))] → va_S A s.heap H locs → W p l e (headSpec w_Grammar_lettersIn { frames := 1, cells := 0, slots := 0, locals := 22 }).room s m ([.ref qg, .int a1] : List Value).toArray below meth c H locs 0 0 (MQ below (va_Qi (fun (r : Int32) (u : Unit) => post r) (fun u t => va_P (dC, dI) vwCl [(qg, .inr (2, [.int gN, .ref qgH, .ref qgS, .ref qgL, .ref qgW, .ref qgU, .ref qgO, .int gD])), (qgS, .inl (kI, 42, .inl gS)), (qgL, .inl (kI, 14, .inl gL))] t.heap ∧ va_K (dC, dI) vwCl (vTY kI kC kZ kJ kB kS) t ∧ va_D (A) [(qg, .inr (2, [.int gN, .ref qgH, .ref qgS, .ref qgL, .ref qgW, .ref qgU, .ref qgO, .int gD])), (qgS, .inl (kI, 42, .inl gS)), (qgL, .inl (kI, 14, .inl gL))]) (A)) ([.ref qg, .int a1] : List Value).toArray s 0 0 A) (F0 m 4 ls []) := by
    intro x1 n4
    induction n4 with
    | zero => intro x2 x3 ls H locs h; exact False.elim h
    | succ n4 ih =>
      intro x2 x3 ls H locs h hl hP hD hS
      unfold v_Grammar_lettersIn_L4 at h
      refine lv_iload_n hx hb d_Grammar_lettersIn_4 rfl (lv_at hl 3 rfl) ?_
      refine lv_aload_n hx hb d_Grammar_lettersIn_5 rfl (lv_at hl 0 rfl) ?_
      refine va_get (D := (dC, dI)) (ci := 2) (v := .ref qgL) (C := R_Grammar) (T := T_Grammar) (N := 8) hx hb hT hn_Grammar hown hK hP 0 rfl rfl 3 (by decide) (hT _ tb_127) (fun _ h9 => h9) rfl d_Grammar_lettersIn_6 ?_
      refine lv_iload_n hx hb d_Grammar_lettersIn_9 rfl (lv_at hl 1 rfl) ?_
      refine va_iald hx hb hK hP 2 0 rfl rfl h.1 d_Grammar_lettersIn_10 ?_
      have h := h.2
      refine lv_icmp_ge hx hb d_Grammar_lettersIn_11 (tgt := 44) (by decide) (fun hc => ?_) (fun hc => ?_)
      · have h := h.1 hc
        refine lv_iload_n hx hb d_Grammar_lettersIn_44 rfl (lv_at hl 2 rfl) ?_
        exact W.iret (v := x2) hx hb hr (fun t ht hW => ⟨⟨x2, (), rfl, h, by rw [ht]; exact hP, va_K.moved hW.alike hK, hD⟩, hS.F ht⟩) hS.2.2 d_Grammar_lettersIn_45
      · have h := h.2 hc
        refine lv_aload_n hx hb d_Grammar_lettersIn_14 rfl (lv_at hl 0 rfl) ?_
        refine lv_iload_n hx hb d_Grammar_lettersIn_15 rfl (lv_at hl 1 rfl) ?_
        refine lv_iload_n hx hb d_Grammar_lettersIn_16 rfl (lv_at hl 3 rfl) ?_
        have hPc := hP.sub (ws' := [(qg, .inr (2, [.int gN, .ref qgH, .ref qgS, .ref qgL, .ref qgW, .ref qgU, .ref qgO, .int gD])), (qgS, .inl (kI, 42, .inl gS))]) [0, 1] rfl
        have hDc := hD.sub (ws' := [(qg, .inr (2, [.int gN, .ref qgH, .ref qgS, .ref qgL, .ref qgW, .ref qgU, .ref qgO, .int gD])), (qgS, .inl (kI, 42, .inl gS))]) [0, 1] (by decide) rfl
        have hFc := va_free (wc := [(qg, .inr (2, [.int gN, .ref qgH, .ref qgS, .ref qgL, .ref qgW, .ref qgU, .ref qgO, .int gD])), (qgS, .inl (kI, 42, .inl gS))]) hD hS hA [0, 1] rfl
        refine va_calli (va_runV (As := [.int x1, .int x3]) (rest := []) ⟨hx, hb, hml, hown, hts⟩ (c_Grammar_symbol l dC dI kI kC kZ kJ kB kS qg qgH qgS qgL qgW qgU qgO H.size gN gD gS x1 x3 h) ⟨callB_of 2 hts (gA tb_294) rfl rfl rfl (hT _ tb_47) (hT _ tb_291) (by decide +kernel) ⟨Nat.le_of_ble_eq_true rfl, Nat.le_of_ble_eq_true rfl⟩, (hT _ tb_292), (hT _ tb_293)⟩ ⟨fun a U g mk q => by obtain ⟨q0, q1, qP, qK, qD, qN⟩ := q; exact ⟨q0, q1, qP, va_K.moved (u := U) (U := U.calling g mk a) (Vm.Alike.refl U.vm) qK, qD, vNE.same (U := U.calling g mk a) rfl qN⟩, va_recv hK hP rfl (q0 := 0) rfl, fun U hU hW => ⟨rfl, by rw [hU], by rw [hU]; exact hPc, va_K.moved hW.alike hK, hDc.weaken (fun _ _ _ _ => trivial), vNE.moved hW hN⟩⟩ rfl rfl hl.1 rfl (lv_room (Nat.le_of_ble_eq_true rfl)) d_Grammar_lettersIn_17 ⟨Nat.zero_le _, Nat.zero_le _⟩) hS (fun q _ h => hFc q h) hFc (fun r17 u t H_17 locs ht hvm h hB hz1 hk1 hS => ?_)
        obtain ⟨hP1, hK1, hD1⟩ := hB
        rw [ht] at hP1
        try dsimp only at h
        obtain ⟨hP, hD⟩ := va_join (wr := [(qgL, .inl (kI, 14, .inl gL))]) (w1 := [(qg, .inr (2, [.int gN, .ref qgH, .ref qgS, .ref qgL, .ref qgW, .ref qgU, .ref qgO, .int gD])), (qgS, .inl (kI, 42, .inl gS))]) hP hD [0, 1] [2] rfl rfl (by decide) (by decide) hk1 hFc hP1 hD1
        have hP : va_P (dC, dI) vwCl [(qg, .inr (2, [.int gN, .ref qgH, .ref qgS, .ref qgL, .ref qgW, .ref qgU, .ref qgO, .int gD])), (qgS, .inl (kI, 42, .inl gS)), (qgL, .inl (kI, 14, .inl gL))] H_17 := hP.sub (ws' := [(qg, .inr (2, [.int gN, .ref qgH, .ref qgS, .ref qgL, .ref qgW, .ref qgU, .ref qgO, .int gD])), (qgS, .inl (kI, 42, .inl gS)), (qgL, .inl (kI, 14, .inl gL))]) [1, 2, 0] rfl
        have hD : va_D A [(qg, .inr (2, [.int gN, .ref qgH, .ref qgS, .ref qgL, .ref qgW, .ref qgU, .ref qgO, .int gD])), (qgS, .inl (kI, 42, .inl gS)), (qgL, .inl (kI, 14, .inl gL))] := hD.sub (ws' := [(qg, .inr (2, [.int gN, .ref qgH, .ref qgS, .ref qgL, .ref qgW, .ref qgU, .ref qgO, .int gD])), (qgS, .inl (kI, 42, .inl gS)), (qgL, .inl (kI, 14, .inl gL))]) [1, 2, 0] (by decide) rfl
        have hPc := hP.sub (ws' := []) [] rfl
        have hDc := hD.sub (ws' := []) [] (by decide) rfl
        have hFc := va_free (wc := []) hD hS hA [] rfl
        refine va_calli (va_runSN (As := [.int r17]) (rest := []) ⟨hx, hb, hml, hown, hts⟩ (c_RT_isLetter l dC dI kI kC kZ kJ kB kS H_17.size r17 h) ⟨va_cnB 1 hts (gA tb_272) rfl rfl rfl (nE_307 hN) (hT _ tb_43) (by decide +kernel) ⟨Nat.le_of_ble_eq_true rfl, Nat.le_of_ble_eq_true rfl⟩, (hT _ tb_271), trivial⟩ ⟨fun a U g mk q => by obtain ⟨q0, q1, qP, qK, qD, qN⟩ := q; exact ⟨q0, q1, qP, va_K.moved (u := U) (U := U.calling g mk a) (Vm.Alike.refl U.vm) qK, qD, vNE.same (U := U.calling g mk a) rfl qN⟩, fun U hU hW => ⟨rfl, by rw [hU], by rw [hU]; exact hPc, va_K.moved hW.alike hK, hDc.weaken (fun _ _ _ _ => trivial), vNE.moved hW hN⟩⟩ rfl rfl hl.1 rfl (lv_room (Nat.le_of_ble_eq_true rfl)) d_Grammar_lettersIn_20 ⟨Nat.zero_le _, Nat.zero_le _⟩) hS (fun q _ h => hFc q h) hFc (fun r20 u t H_20 locs ht hvm h hB hz1 hk1 hS => ?_)
        obtain ⟨hP1, hK1, hD1⟩ := hB
        rw [ht] at hP1
        try dsimp only at h
        obtain ⟨hP, hD⟩ := va_join (wr := [(qg, .inr (2, [.int gN, .ref qgH, .ref qgS, .ref qgL, .ref qgW, .ref qgU, .ref qgO, .int gD])), (qgS, .inl (kI, 42, .inl gS)), (qgL, .inl (kI, 14, .inl gL))]) (w1 := []) hP hD [] [0, 1, 2] rfl rfl (by decide) (by decide) hk1 hFc hP1 hD1
        have hP : va_P (dC, dI) vwCl [(qg, .inr (2, [.int gN, .ref qgH, .ref qgS, .ref qgL, .ref qgW, .ref qgU, .ref qgO, .int gD])), (qgS, .inl (kI, 42, .inl gS)), (qgL, .inl (kI, 14, .inl gL))] H_20 := hP.sub (ws' := [(qg, .inr (2, [.int gN, .ref qgH, .ref qgS, .ref qgL, .ref qgW, .ref qgU, .ref qgO, .int gD])), (qgS, .inl (kI, 42, .inl gS)), (qgL, .inl (kI, 14, .inl gL))]) [0, 1, 2] rfl
        have hD : va_D A [(qg, .inr (2, [.int gN, .ref qgH, .ref qgS, .ref qgL, .ref qgW, .ref qgU, .ref qgO, .int gD])), (qgS, .inl (kI, 42, .inl gS)), (qgL, .inl (kI, 14, .inl gL))] := hD.sub (ws' := [(qg, .inr (2, [.int gN, .ref qgH, .ref qgS, .ref qgL, .ref qgW, .ref qgU, .ref qgO, .int gD])), (qgS, .inl (kI, 42, .inl gS)), (qgL, .inl (kI, 14, .inl gL))]) [0, 1, 2] (by decide) rfl
        refine lv_if_eq hx hb d_Grammar_lettersIn_23 (tgt := 38) (by decide) (fun hc => ?_) (fun hc => ?_)
        · have h := h.1 hc
          refine lv_iinc (k := 3) (v := (x3 + 1)) hx hb d_Grammar_lettersIn_38 hl rfl (congrArg (x3 + ·) (by decide)) (by decide) rfl (fun ls hl => ?_)
          have hl : lv_has ls 4 [(3, .int (x3 + 1)), (0, .ref qg), (1, .int x1), (2, .int x2)] := hl
          refine lv_goto hx hb d_Grammar_lettersIn_41 (tgt := 4) (by decide) ?_
          exact ih x2 (x3 + 1) _ _ _ h (lv_sub hl [1, 2, 3, 0] rfl) hP hD hS
        · have h := h.2 hc
          refine lv_iload_n hx hb d_Grammar_lettersIn_26 rfl (lv_at hl 2 rfl) ?_
          refine lv_aload_n hx hb d_Grammar_lettersIn_27 rfl (lv_at hl 0 rfl) ?_
          refine lv_iload_n hx hb d_Grammar_lettersIn_28 rfl (lv_at hl 1 rfl) ?_
          refine lv_iload_n hx hb d_Grammar_lettersIn_29 rfl (lv_at hl 3 rfl) ?_
          have hPc := hP.sub (ws' := [(qg, .inr (2, [.int gN, .ref qgH, .ref qgS, .ref qgL, .ref qgW, .ref qgU, .ref qgO, .int gD])), (qgS, .inl (kI, 42, .inl gS))]) [0, 1] rfl
          have hDc := hD.sub (ws' := [(qg, .inr (2, [.int gN, .ref qgH, .ref qgS, .ref qgL, .ref qgW, .ref qgU, .ref qgO, .int gD])), (qgS, .inl (kI, 42, .inl gS))]) [0, 1] (by decide) rfl
          have hFc := va_free (wc := [(qg, .inr (2, [.int gN, .ref qgH, .ref qgS, .ref qgL, .ref qgW, .ref qgU, .ref qgO, .int gD])), (qgS, .inl (kI, 42, .inl gS))]) hD hS hA [0, 1] rfl
          refine va_calli (va_runV (As := [.int x1, .int x3]) (rest := [.int x2]) ⟨hx, hb, hml, hown, hts⟩ (c_Grammar_symbol l dC dI kI kC kZ kJ kB kS qg qgH qgS qgL qgW qgU qgO H_20.size gN gD gS x1 x3 h) ⟨callB_of 2 hts (gA tb_294) rfl rfl rfl (hT _ tb_47) (hT _ tb_291) (by decide +kernel) ⟨Nat.le_of_ble_eq_true rfl, Nat.le_of_ble_eq_true rfl⟩, (hT _ tb_292), (hT _ tb_293)⟩ ⟨fun a U g mk q => by obtain ⟨q0, q1, qP, qK, qD, qN⟩ := q; exact ⟨q0, q1, qP, va_K.moved (u := U) (U := U.calling g mk a) (Vm.Alike.refl U.vm) qK, qD, vNE.same (U := U.calling g mk a) rfl qN⟩, va_recv hK hP rfl (q0 := 0) rfl, fun U hU hW => ⟨rfl, by rw [hU], by rw [hU]; exact hPc, va_K.moved hW.alike hK, hDc.weaken (fun _ _ _ _ => trivial), vNE.moved hW hN⟩⟩ rfl rfl hl.1 rfl (lv_room (Nat.le_of_ble_eq_true rfl)) d_Grammar_lettersIn_30 ⟨Nat.zero_le _, Nat.zero_le _⟩) hS (fun q _ h => hFc q h) hFc (fun r30 u t H_30 locs ht hvm h hB hz1 hk1 hS => ?_)
          obtain ⟨hP1, hK1, hD1⟩ := hB
          rw [ht] at hP1
          try dsimp only at h
          obtain ⟨hP, hD⟩ := va_join (wr := [(qgL, .inl (kI, 14, .inl gL))]) (w1 := [(qg, .inr (2, [.int gN, .ref qgH, .ref qgS, .ref qgL, .ref qgW, .ref qgU, .ref qgO, .int gD])), (qgS, .inl (kI, 42, .inl gS))]) hP hD [0, 1] [2] rfl rfl (by decide) (by decide) hk1 hFc hP1 hD1
          have hP : va_P (dC, dI) vwCl [(qg, .inr (2, [.int gN, .ref qgH, .ref qgS, .ref qgL, .ref qgW, .ref qgU, .ref qgO, .int gD])), (qgS, .inl (kI, 42, .inl gS)), (qgL, .inl (kI, 14, .inl gL))] H_30 := hP.sub (ws' := [(qg, .inr (2, [.int gN, .ref qgH, .ref qgS, .ref qgL, .ref qgW, .ref qgU, .ref qgO, .int gD])), (qgS, .inl (kI, 42, .inl gS)), (qgL, .inl (kI, 14, .inl gL))]) [1, 2, 0] rfl
          have hD : va_D A [(qg, .inr (2, [.int gN, .ref qgH, .ref qgS, .ref qgL, .ref qgW, .ref qgU, .ref qgO, .int gD])), (qgS, .inl (kI, 42, .inl gS)), (qgL, .inl (kI, 14, .inl gL))] := hD.sub (ws' := [(qg, .inr (2, [.int gN, .ref qgH, .ref qgS, .ref qgL, .ref qgW, .ref qgU, .ref qgO, .int gD])), (qgS, .inl (kI, 42, .inl gS)), (qgL, .inl (kI, 14, .inl gL))]) [1, 2, 0] (by decide) rfl
          have hPc := hP.sub (ws' := []) [] rfl
          have hDc := hD.sub (ws' := []) [] (by decide) rfl
          have hFc := va_free (wc := []) hD hS hA [] rfl
          refine va_calli (va_runSN (As := [.int r30]) (rest := [.int x2]) ⟨hx, hb, hml, hown, hts⟩ (c_RT_bitOf l dC dI kI kC kZ kJ kB kS H_30.size r30 h) ⟨va_cnB 1 hts (gA tb_310) rfl rfl rfl (nE_308 hN) (hT _ tb_43) (by decide +kernel) ⟨Nat.le_of_ble_eq_true rfl, Nat.le_of_ble_eq_true rfl⟩, (hT _ tb_309), trivial⟩ ⟨fun a U g mk q => by obtain ⟨q0, q1, qP, qK, qD, qN⟩ := q; exact ⟨q0, q1, qP, va_K.moved (u := U) (U := U.calling g mk a) (Vm.Alike.refl U.vm) qK, qD, vNE.same (U := U.calling g mk a) rfl qN⟩, fun U hU hW => ⟨rfl, by rw [hU], by rw [hU]; exact hPc, va_K.moved hW.alike hK, hDc.weaken (fun _ _ _ _ => trivial), vNE.moved hW hN⟩⟩ rfl rfl hl.1 rfl (lv_room (Nat.le_of_ble_eq_true rfl)) d_Grammar_lettersIn_33 ⟨Nat.zero_le _, Nat.zero_le _⟩) hS (fun q _ h => hFc q h) hFc (fun r33 u t H_33 locs ht hvm h hB hz1 hk1 hS => ?_)
          obtain ⟨hP1, hK1, hD1⟩ := hB
          rw [ht] at hP1
          try dsimp only at h
          obtain ⟨hP, hD⟩ := va_join (wr := [(qg, .inr (2, [.int gN, .ref qgH, .ref qgS, .ref qgL, .ref qgW, .ref qgU, .ref qgO, .int gD])), (qgS, .inl (kI, 42, .inl gS)), (qgL, .inl (kI, 14, .inl gL))]) (w1 := []) hP hD [] [0, 1, 2] rfl rfl (by decide) (by decide) hk1 hFc hP1 hD1
          have hP : va_P (dC, dI) vwCl [(qg, .inr (2, [.int gN, .ref qgH, .ref qgS, .ref qgL, .ref qgW, .ref qgU, .ref qgO, .int gD])), (qgS, .inl (kI, 42, .inl gS)), (qgL, .inl (kI, 14, .inl gL))] H_33 := hP.sub (ws' := [(qg, .inr (2, [.int gN, .ref qgH, .ref qgS, .ref qgL, .ref qgW, .ref qgU, .ref qgO, .int gD])), (qgS, .inl (kI, 42, .inl gS)), (qgL, .inl (kI, 14, .inl gL))]) [0, 1, 2] rfl
          have hD : va_D A [(qg, .inr (2, [.int gN, .ref qgH, .ref qgS, .ref qgL, .ref qgW, .ref qgU, .ref qgO, .int gD])), (qgS, .inl (kI, 42, .inl gS)), (qgL, .inl (kI, 14, .inl gL))] := hD.sub (ws' := [(qg, .inr (2, [.int gN, .ref qgH, .ref qgS, .ref qgL, .ref qgW, .ref qgU, .ref qgO, .int gD])), (qgS, .inl (kI, 42, .inl gS)), (qgL, .inl (kI, 14, .inl gL))]) [0, 1, 2] (by decide) rfl
          refine lv_ior hx hb d_Grammar_lettersIn_36 ?_
          refine lv_istore_n hx hb d_Grammar_lettersIn_37 rfl hl (by decide) rfl (fun ls hl => ?_)
          have hl : lv_has ls 4 [(2, .int (x2 ||| r33)), (0, .ref qg), (1, .int x1), (3, .int x3)] := hl
          refine lv_iinc (k := 3) (v := (x3 + 1)) hx hb d_Grammar_lettersIn_38 hl rfl (congrArg (x3 + ·) (by decide)) (by decide) rfl (fun ls hl => ?_)
          have hl : lv_has ls 4 [(3, .int (x3 + 1)), (2, .int (x2 ||| r33)), (0, .ref qg), (1, .int x1)] := hl
          refine lv_goto hx hb d_Grammar_lettersIn_41 (tgt := 4) (by decide) ?_
          exact ih (x2 ||| r33) (x3 + 1) _ _ _ h (lv_sub hl [2, 3, 1, 0] rfl) hP hD hS
  have hl := lv_entry ([.ref qg, .int a1]) (n := 4) (Nat.le_of_ble_eq_true rfl)
  rw [lg_entry_eq]
  generalize (lg_sl ([.ref qg, .int a1]) ++ List.replicate (4 - (lg_sl ([.ref qg, .int a1])).length) Slot.unset).toArray = ls at hl ⊢
  have hl : lv_has ls 4 [(0, .ref qg), (1, .int a1)] := hl
  unfold v_Grammar_lettersIn at h
  refine lv_iconst (v := 0) hx hb d_Grammar_lettersIn_0 (by decide) ?_
  refine lv_istore_n hx hb d_Grammar_lettersIn_1 rfl hl (by decide) rfl (fun ls hl => ?_)
  have hl : lv_has ls 4 [(2, .int (0 : Int32)), (0, .ref qg), (1, .int a1)] := hl
  refine lv_iconst (v := 0) hx hb d_Grammar_lettersIn_2 (by decide) ?_
  refine lv_istore_n hx hb d_Grammar_lettersIn_3 rfl hl (by decide) rfl (fun ls hl => ?_)
  have hl : lv_has ls 4 [(3, .int (0 : Int32)), (2, .int (0 : Int32)), (0, .ref qg), (1, .int a1)] := hl
  obtain ⟨k4, h⟩ := h
  exact L4 a1 k4 (0 : Int32) (0 : Int32) _ _ _ h (lv_sub hl [2, 3, 1, 0] rfl) hP hD hS

def v_Grammar_fertileLetters_L11 (K4 : Int32 → Int32 → Prop) (gN : Int32) (gH : Nat → Int32) (gS : Nat → Int32) (gL : Nat → Int32) (x2 : Int32) : Nat → Int32 → Int32 → Prop
  | 0, _, _ => False
  | n11 + 1, x1, x3 =>
    ((gN ≤ x3 → (K4 x1 (x2 + 1))) ∧ (¬ gN ≤ x3 → (v_Grammar_lettersIn x3 gS gL (fun r21 => (((r21 &&& (x1 ^^^ (-1 : Int32))) = 0 → (vp_in x3 14 ∧ (v_RT_bitOf (gH x3.toNatClampNeg) (fun r38 => ((v_Grammar_fertileLetters_L11 K4 gN gH gS gL x2 n11) (x1 ||| r38) (x3 + 1)))))) ∧ (¬ (r21 &&& (x1 ^^^ (-1 : Int32))) = 0 → ((v_Grammar_fertileLetters_L11 K4 gN gH gS gL x2 n11) x1 (x3 + 1))))))))
def v_Grammar_fertileLetters_L4 (post : Int32 → Prop) (gN : Int32) (gH : Nat → Int32) (gS : Nat → Int32) (gL : Nat → Int32) : Nat → Int32 → Int32 → Prop
  | 0, _, _ => False
  | n4 + 1, x1, x2 =>
    (((5 : Int32) ≤ x2 → (post x1)) ∧ (¬ (5 : Int32) ≤ x2 → (∃ k11, v_Grammar_fertileLetters_L11 (v_Grammar_fertileLetters_L4 post gN gH gS gL n4) gN gH gS gL x2 k11 x1 (0 : Int32))))
def v_Grammar_fertileLetters (gN : Int32) (gH : Nat → Int32) (gS : Nat → Int32) (gL : Nat → Int32) (post : Int32 → Prop) : Prop :=
  (∃ k4, v_Grammar_fertileLetters_L4 post gN gH gS gL k4 (0 : Int32) (0 : Int32))
set_option maxHeartbeats 1000000 in
set_option maxRecDepth 100000 in
theorem c_Grammar_fertileLetters (l : Launch) (dC : Nat → ClassId) (dI : Nat → Nat → Nat) (kI kC kZ kJ kB kS : ClassId) (qg qgH qgS qgL qgW qgU qgO : Nat) (sz : Nat) (gN : Int32) (gD : Int32) (gH : Nat → Int32) (gS : Nat → Int32) (gL : Nat → Int32) {post : Int32 → Prop} (h : v_Grammar_fertileLetters gN gH gS gL post) : Met l y_Grammar_fertileLetters w_Grammar_fertileLetters ({ frames := 2, cells := 0, slots := 0, locals := 45 }) (va_Pc [.ref qg] (fun U => U.heap.size = sz ∧ va_P (dC, dI) vwCl [(qg, .inr (2, [.int gN, .ref qgH, .ref qgS, .ref qgL, .ref qgW, .ref qgU, .ref qgO, .int gD])), (qgH, .inl (kI, 14, .inl gH)), (qgS, .inl (kI, 42, .inl gS)), (qgL, .inl (kI, 14, .inl gL))] U.heap ∧ va_K (dC, dI) vwCl (vTY kI kC kZ kJ kB kS) U ∧ va_D (fun _ => True) [(qg, .inr (2, [.int gN, .ref qgH, .ref qgS, .ref qgL, .ref qgW, .ref qgU, .ref qgO, .int gD])), (qgH, .inl (kI, 14, .inl gH)), (qgS, .inl (kI, 42, .inl gS)), (qgL, .inl (kI, 14, .inl gL))] ∧ vNE U)) (va_Qi (fun (r : Int32) (u : Unit) => post r) (fun u t => va_P (dC, dI) vwCl [(qg, .inr (2, [.int gN, .ref qgH, .ref qgS, .ref qgL, .ref qgW, .ref qgU, .ref qgO, .int gD])), (qgH, .inl (kI, 14, .inl gH)), (qgS, .inl (kI, 42, .inl gS)), (qgL, .inl (kI, 14, .inl gL))] t.heap ∧ va_K (dC, dI) vwCl (vTY kI kC kZ kJ kB kS) t ∧ va_D (va_A [(qg, .inr (2, [.int gN, .ref qgH, .ref qgS, .ref qgL, .ref qgW, .ref qgU, .ref qgO, .int gD])), (qgH, .inl (kI, 14, .inl gH)), (qgS, .inl (kI, 42, .inl gS)), (qgL, .inl (kI, 14, .inl gL))] sz) [(qg, .inr (2, [.int gN, .ref qgH, .ref qgS, .ref qgL, .ref qgW, .ref qgU, .ref qgO, .int gD])), (qgH, .inl (kI, 14, .inl gH)), (qgS, .inl (kI, 42, .inl gS)), (qgL, .inl (kI, 14, .inl gL))]) (va_A [(qg, .inr (2, [.int gN, .ref qgH, .ref qgS, .ref qgL, .ref qgW, .ref qgU, .ref qgO, .int gD])), (qgH, .inl (kI, 14, .inl gH)), (qgS, .inl (kI, 42, .inl gS)), (qgL, .inl (kI, 14, .inl gL))] sz)) 0 0 (va_A [(qg, .inr (2, [.int gN, .ref qgH, .ref qgS, .ref qgL, .ref qgW, .ref qgU, .ref qgO, .int gD])), (qgH, .inl (kI, 14, .inl gH)), (qgS, .inl (kI, 42, .inl gS)), (qgL, .inl (kI, 14, .inl gL))] sz) := by
  refine Met.ofW (cc := b_Grammar_fertileLetters) (maxL := 4) (ret := (some .int)) (by decide) rfl ?_
  intro p e s m args below meth c s₁ B hml hv
  obtain ⟨rfl, hsz, hP, hK, hD0, hN⟩ := hv
  have hx := B.exec
  have hb := B.bytes
  have hr := B.returns
  have hts := atoms_spec (ws := w_Grammar_fertileLetters) B.pre
  have hT : ∀ w ∈ TB, w.before ([.ref qg] : List Value).toArray s = true := fun w h => hts w (List.mem_cons_of_mem _ h)
  have hown : s.vm.findClass R_Grammar = some m.cls := findClass_of_methodNamed B.named
  have hlocks := B.notSynchronized
  subst hsz
  have hD := hD0.self (sz := s.heap.size)
  generalize hAe : va_A [(qg, .inr (2, [.int gN, .ref qgH, .ref qgS, .ref qgL, .ref qgW, .ref qgU, .ref qgO, .int gD])), (qgH, .inl (kI, 14, .inl gH)), (qgS, .inl (kI, 42, .inl gS)), (qgL, .inl (kI, 14, .inl gL))] s.heap.size = A at hD ⊢
  have hA : ∀ q : Nat, s.heap.size ≤ q → A q := fun q h => by rw [← hAe]; exact Or.inr h
  have hS : va_S A s.heap s.heap [] := va_S.rf
  have L11 : ∀ (K4 : Int32 → Int32 → Prop) (hK4 : ∀ (x1 : Int32) (x2 : Int32) (ls : Array Slot) (H : Heap) (locs : List Loc), K4 x1 x2 → lv_has ls 4 [(0, .ref qg), (1, .int x1), (2, .int x2)] → va_P (dC, dI) vwCl [(qg, .inr (2, [.int gN, .ref qgH, .ref qgS, .ref qgL, .ref qgW, .ref qgU, .ref qgO, .int gD])), (qgH, .inl (kI, 14, .inl gH)), (qgS, .inl (kI, 42, .inl gS)), (qgL, .inl (kI, 14, .inl gL))] H → va_D A [(qg, .inr (2, [.int gN, .ref qgH, .ref qgS, .ref qgL, .ref qgW, .ref qgU, .ref qgO, .int gD])), (qgH, .inl (kI, 14, .inl gH)), (qgS, .inl (kI, 42, .inl gS)), (qgL, .inl (kI, 14, .inl gL))] → va_S A s.heap H locs → W p l e (headSpec w_Grammar_fertileLetters { frames := 2, cells := 0, slots := 0, locals := 45 }).room s m ([.ref qg] : List Value).toArray below meth c H locs 0 0 (MQ below (va_Qi (fun (r : Int32) (u : Unit) => post r) (fun u t => va_P (dC, dI) vwCl [(qg, .inr (2, [.int gN, .ref qgH, .ref qgS, .ref qgL, .ref qgW, .ref qgU, .ref qgO, .int gD])), (qgH, .inl (kI, 14, .inl gH)), (qgS, .inl (kI, 42, .inl gS)), (qgL, .inl (kI, 14, .inl gL))] t.heap ∧ va_K (dC, dI) vwCl (vTY kI kC kZ kJ kB kS) t ∧ va_D (A) [(qg, .inr (2, [.int gN, .ref qgH, .ref qgS, .ref qgL, .ref qgW, .ref qgU, .ref qgO, .int gD])), (qgH, .inl (kI, 14, .inl gH)), (qgS, .inl (kI, 42, .inl gS)), (qgL, .inl (kI, 14, .inl gL))]) (A)) ([.ref qg] : List Value).toArray s 0 0 A) (F0 m 4 ls [])) (x2 : Int32) (n11 : Nat) (x1 : Int32) (x3 : Int32) (ls : Array Slot) (H : Heap) (locs : List Loc), v_Grammar_fertileLetters_L11 K4 gN gH gS gL x2 n11 x1 x3 → lv_has ls 4 [(0, .ref qg), (1, .int x1), (2, .int x2), (3, .int x3)] → va_P (dC, dI) vwCl [(qg, .inr (2, [.int gN, .ref qgH, .ref qgS, .ref qgL, .ref qgW, .ref qgU, .ref qgO, .int gD])), (qgH, .inl (kI, 14, .inl gH)), (qgS, .inl (kI, 42, .inl gS)), (qgL, .inl (kI, 14, .inl gL))] H → va_D A [(qg, .inr (2, [.int gN, .ref qgH, .ref qgS, .ref qgL, .ref qgW, .ref qgU, .ref qgO, .int gD])), (qgH, .inl (kI, 14, .inl gH)), (qgS, .inl (kI, 42, .inl gS)), (qgL, .inl (kI, 14, .inl gL))] → va_S A s.heap H locs → W p l e (headSpec w_Grammar_fertileLetters { frames := 2, cells := 0, slots := 0, locals := 45 }).room s m ([.ref qg] : List Value).toArray below meth c H locs 0 0 (MQ below (va_Qi (fun (r : Int32) (u : Unit) => post r) (fun u t => va_P (dC, dI) vwCl [(qg, .inr (2, [.int gN, .ref qgH, .ref qgS, .ref qgL, .ref qgW, .ref qgU, .ref qgO, .int gD])), (qgH, .inl (kI, 14, .inl gH)), (qgS, .inl (kI, 42, .inl gS)), (qgL, .inl (kI, 14, .inl gL))] t.heap ∧ va_K (dC, dI) vwCl (vTY kI kC kZ kJ kB kS) t ∧ va_D (A) [(qg, .inr (2, [.int gN, .ref qgH, .ref qgS, .ref qgL, .ref qgW, .ref qgU, .ref qgO, .int gD])), (qgH, .inl (kI, 14, .inl gH)), (qgS, .inl (kI, 42, .inl gS)), (qgL, .inl (kI, 14, .inl gL))]) (A)) ([.ref qg] : List Value).toArray s 0 0 A) (F0 m 11 ls []) := by
    intro K4 hK4 x2 n11
    induction n11 with
    | zero => intro x1 x3 ls H locs h; exact False.elim h
    | succ n11 ih =>
      intro x1 x3 ls H locs h hl hP hD hS
      unfold v_Grammar_fertileLetters_L11 at h
      refine lv_iload_n hx hb d_Grammar_fertileLetters_11 rfl (lv_at hl 3 rfl) ?_
      refine lv_aload_n hx hb d_Grammar_fertileLetters_12 rfl (lv_at hl 0 rfl) ?_
      refine va_get (D := (dC, dI)) (ci := 2) (v := .int gN) (C := R_Grammar) (T := T_Grammar) (N := 8) hx hb hT hn_Grammar hown hK hP 0 rfl rfl 0 (by decide) (hT _ tb_119) (fun _ h9 => h9) rfl d_Grammar_fertileLetters_13 ?_
      refine lv_icmp_ge hx hb d_Grammar_fertileLetters_16 (tgt := 49) (by decide) (fun hc => ?_) (fun hc => ?_)
      · have h := h.1 hc
        refine lv_iinc (k := 2) (v := (x2 + 1)) hx hb d_Grammar_fertileLetters_49 hl rfl (congrArg (x2 + ·) (by decide)) (by decide) rfl (fun ls hl => ?_)
        have hl : lv_has ls 4 [(2, .int (x2 + 1)), (0, .ref qg), (1, .int x1), (3, .int x3)] := hl
        refine lv_goto hx hb d_Grammar_fertileLetters_52 (tgt := 4) (by decide) ?_
        exact hK4 x1 (x2 + 1) _ _ _ h (lv_sub hl [1, 2, 0] rfl) hP hD hS
      · have h := h.2 hc
        refine lv_aload_n hx hb d_Grammar_fertileLetters_19 rfl (lv_at hl 0 rfl) ?_
        refine lv_iload_n hx hb d_Grammar_fertileLetters_20 rfl (lv_at hl 3 rfl) ?_
        have hPc := hP.sub (ws' := [(qg, .inr (2, [.int gN, .ref qgH, .ref qgS, .ref qgL, .ref qgW, .ref qgU, .ref qgO, .int gD])), (qgS, .inl (kI, 42, .inl gS)), (qgL, .inl (kI, 14, .inl gL))]) [0, 2, 3] rfl
        have hDc := hD.sub (ws' := [(qg, .inr (2, [.int gN, .ref qgH, .ref qgS, .ref qgL, .ref qgW, .ref qgU, .ref qgO, .int gD])), (qgS, .inl (kI, 42, .inl gS)), (qgL, .inl (kI, 14, .inl gL))]) [0, 2, 3] (by decide) rfl
        have hFc := va_free (wc := [(qg, .inr (2, [.int gN, .ref qgH, .ref qgS, .ref qgL, .ref qgW, .ref qgU, .ref qgO, .int gD])), (qgS, .inl (kI, 42, .inl gS)), (qgL, .inl (kI, 14, .inl gL))]) hD hS hA [0, 2, 3] rfl
        refine va_calli (va_runV (As := [.int x3]) (rest := []) ⟨hx, hb, hml, hown, hts⟩ (c_Grammar_lettersIn l dC dI kI kC kZ kJ kB kS qg qgH qgS qgL qgW qgU qgO H.size gN gD gS gL x3 h) ⟨callB_of 1 hts (gA tb_306) rfl rfl rfl (hT _ tb_47) (hT _ tb_303) (by decide +kernel) ⟨Nat.le_of_ble_eq_true rfl, Nat.le_of_ble_eq_true rfl⟩, (hT _ tb_305), (hT _ tb_6)⟩ ⟨fun a U g mk q => by obtain ⟨q0, q1, qP, qK, qD, qN⟩ := q; exact ⟨q0, q1, qP, va_K.moved (u := U) (U := U.calling g mk a) (Vm.Alike.refl U.vm) qK, qD, vNE.same (U := U.calling g mk a) rfl qN⟩, va_recv hK hP rfl (q0 := 0) rfl, fun U hU hW => ⟨rfl, by rw [hU], by rw [hU]; exact hPc, va_K.moved hW.alike hK, hDc.weaken (fun _ _ _ _ => trivial), vNE.moved hW hN⟩⟩ rfl rfl hl.1 rfl (lv_room (Nat.le_of_ble_eq_true rfl)) d_Grammar_fertileLetters_21 ⟨Nat.zero_le _, Nat.zero_le _⟩) hS (fun q _ h => hFc q h) hFc (fun r21 u t H_21 locs ht hvm h hB hz1 hk1 hS => ?_)
        obtain ⟨hP1, hK1, hD1⟩ := hB
        rw [ht] at hP1
        try dsimp only at h
        obtain ⟨hP, hD⟩ := va_join (wr := [(qgH, .inl (kI, 14, .inl gH))]) (w1 := [(qg, .inr (2, [.int gN, .ref qgH, .ref qgS, .ref qgL, .ref qgW, .ref qgU, .ref qgO, .int gD])), (qgS, .inl (kI, 42, .inl gS)), (qgL, .inl (kI, 14, .inl gL))]) hP hD [0, 2, 3] [1] rfl rfl (by decide) (by decide) hk1 hFc hP1 hD1
        have hP : va_P (dC, dI) vwCl [(qg, .inr (2, [.int gN, .ref qgH, .ref qgS, .ref qgL, .ref qgW, .ref qgU, .ref qgO, .int gD])), (qgH, .inl (kI, 14, .inl gH)), (qgS, .inl (kI, 42, .inl gS)), (qgL, .inl (kI, 14, .inl gL))] H_21 := hP.sub (ws' := [(qg, .inr (2, [.int gN, .ref qgH, .ref qgS, .ref qgL, .ref qgW, .ref qgU, .ref qgO, .int gD])), (qgH, .inl (kI, 14, .inl gH)), (qgS, .inl (kI, 42, .inl gS)), (qgL, .inl (kI, 14, .inl gL))]) [1, 0, 2, 3] rfl
        have hD : va_D A [(qg, .inr (2, [.int gN, .ref qgH, .ref qgS, .ref qgL, .ref qgW, .ref qgU, .ref qgO, .int gD])), (qgH, .inl (kI, 14, .inl gH)), (qgS, .inl (kI, 42, .inl gS)), (qgL, .inl (kI, 14, .inl gL))] := hD.sub (ws' := [(qg, .inr (2, [.int gN, .ref qgH, .ref qgS, .ref qgL, .ref qgW, .ref qgU, .ref qgO, .int gD])), (qgH, .inl (kI, 14, .inl gH)), (qgS, .inl (kI, 42, .inl gS)), (qgL, .inl (kI, 14, .inl gL))]) [1, 0, 2, 3] (by decide) rfl
        refine lv_iload_n hx hb d_Grammar_fertileLetters_24 rfl (lv_at hl 1 rfl) ?_
        refine lv_iconst (v := -1) hx hb d_Grammar_fertileLetters_25 (by decide) ?_
        refine lv_ixor hx hb d_Grammar_fertileLetters_26 ?_
        refine lv_iand hx hb d_Grammar_fertileLetters_27 ?_
        refine lv_if_ne hx hb d_Grammar_fertileLetters_28 (tgt := 43) (by decide) (fun hc => ?_) (fun hc => ?_)
        · have h := h.2 hc
          refine lv_iinc (k := 3) (v := (x3 + 1)) hx hb d_Grammar_fertileLetters_43 hl rfl (congrArg (x3 + ·) (by decide)) (by decide) rfl (fun ls hl => ?_)
          have hl : lv_has ls 4 [(3, .int (x3 + 1)), (0, .ref qg), (1, .int x1), (2, .int x2)] := hl
          refine lv_goto hx hb d_Grammar_fertileLetters_46 (tgt := 11) (by decide) ?_
          exact ih x1 (x3 + 1) _ _ _ h (lv_sub hl [1, 2, 3, 0] rfl) hP hD hS
        · have h := h.1 hc
          refine lv_iload_n hx hb d_Grammar_fertileLetters_31 rfl (lv_at hl 1 rfl) ?_
          refine lv_aload_n hx hb d_Grammar_fertileLetters_32 rfl (lv_at hl 0 rfl) ?_
          refine va_get (D := (dC, dI)) (ci := 2) (v := .ref qgH) (C := R_Grammar) (T := T_Grammar) (N := 8) hx hb hT hn_Grammar hown hK hP 0 rfl rfl 1 (by decide) (hT _ tb_121) (fun _ h9 => h9) rfl d_Grammar_fertileLetters_33 ?_
          refine lv_iload_n hx hb d_Grammar_fertileLetters_36 rfl (lv_at hl 3 rfl) ?_
          refine va_iald hx hb hK hP 1 0 rfl rfl h.1 d_Grammar_fertileLetters_37 ?_
          have h := h.2
          have hPc := hP.sub (ws' := []) [] rfl
          have hDc := hD.sub (ws' := []) [] (by decide) rfl
          have hFc := va_free (wc := []) hD hS hA [] rfl
          refine va_calli (va_runSN (As := [.int (gH x3.toNatClampNeg)]) (rest := [.int x1]) ⟨hx, hb, hml, hown, hts⟩ (c_RT_bitOf l dC dI kI kC kZ kJ kB kS H_21.size (gH x3.toNatClampNeg) h) ⟨va_cnB 1 hts (gA tb_310) rfl rfl rfl (nE_308 hN) (hT _ tb_43) (by decide +kernel) ⟨Nat.le_of_ble_eq_true rfl, Nat.le_of_ble_eq_true rfl⟩, (hT _ tb_309), trivial⟩ ⟨fun a U g mk q => by obtain ⟨q0, q1, qP, qK, qD, qN⟩ := q; exact ⟨q0, q1, qP, va_K.moved (u := U) (U := U.calling g mk a) (Vm.Alike.refl U.vm) qK, qD, vNE.same (U := U.calling g mk a) rfl qN⟩, fun U hU hW => ⟨rfl, by rw [hU], by rw [hU]; exact hPc, va_K.moved hW.alike hK, hDc.weaken (fun _ _ _ _ => trivial), vNE.moved hW hN⟩⟩ rfl rfl hl.1 rfl (lv_room (Nat.le_of_ble_eq_true rfl)) d_Grammar_fertileLetters_38 ⟨Nat.zero_le _, Nat.zero_le _⟩) hS (fun q _ h => hFc q h) hFc (fun r38 u t H_38 locs ht hvm h hB hz1 hk1 hS => ?_)
          obtain ⟨hP1, hK1, hD1⟩ := hB
          rw [ht] at hP1
          try dsimp only at h
          obtain ⟨hP, hD⟩ := va_join (wr := [(qg, .inr (2, [.int gN, .ref qgH, .ref qgS, .ref qgL, .ref qgW, .ref qgU, .ref qgO, .int gD])), (qgH, .inl (kI, 14, .inl gH)), (qgS, .inl (kI, 42, .inl gS)), (qgL, .inl (kI, 14, .inl gL))]) (w1 := []) hP hD [] [0, 1, 2, 3] rfl rfl (by decide) (by decide) hk1 hFc hP1 hD1
          have hP : va_P (dC, dI) vwCl [(qg, .inr (2, [.int gN, .ref qgH, .ref qgS, .ref qgL, .ref qgW, .ref qgU, .ref qgO, .int gD])), (qgH, .inl (kI, 14, .inl gH)), (qgS, .inl (kI, 42, .inl gS)), (qgL, .inl (kI, 14, .inl gL))] H_38 := hP.sub (ws' := [(qg, .inr (2, [.int gN, .ref qgH, .ref qgS, .ref qgL, .ref qgW, .ref qgU, .ref qgO, .int gD])), (qgH, .inl (kI, 14, .inl gH)), (qgS, .inl (kI, 42, .inl gS)), (qgL, .inl (kI, 14, .inl gL))]) [0, 1, 2, 3] rfl
          have hD : va_D A [(qg, .inr (2, [.int gN, .ref qgH, .ref qgS, .ref qgL, .ref qgW, .ref qgU, .ref qgO, .int gD])), (qgH, .inl (kI, 14, .inl gH)), (qgS, .inl (kI, 42, .inl gS)), (qgL, .inl (kI, 14, .inl gL))] := hD.sub (ws' := [(qg, .inr (2, [.int gN, .ref qgH, .ref qgS, .ref qgL, .ref qgW, .ref qgU, .ref qgO, .int gD])), (qgH, .inl (kI, 14, .inl gH)), (qgS, .inl (kI, 42, .inl gS)), (qgL, .inl (kI, 14, .inl gL))]) [0, 1, 2, 3] (by decide) rfl
          refine lv_ior hx hb d_Grammar_fertileLetters_41 ?_
          refine lv_istore_n hx hb d_Grammar_fertileLetters_42 rfl hl (by decide) rfl (fun ls hl => ?_)
          have hl : lv_has ls 4 [(1, .int (x1 ||| r38)), (0, .ref qg), (2, .int x2), (3, .int x3)] := hl
          refine lv_iinc (k := 3) (v := (x3 + 1)) hx hb d_Grammar_fertileLetters_43 hl rfl (congrArg (x3 + ·) (by decide)) (by decide) rfl (fun ls hl => ?_)
          have hl : lv_has ls 4 [(3, .int (x3 + 1)), (1, .int (x1 ||| r38)), (0, .ref qg), (2, .int x2)] := hl
          refine lv_goto hx hb d_Grammar_fertileLetters_46 (tgt := 11) (by decide) ?_
          exact ih (x1 ||| r38) (x3 + 1) _ _ _ h (lv_sub hl [2, 1, 3, 0] rfl) hP hD hS
  have L4 : ∀ (n4 : Nat) (x1 : Int32) (x2 : Int32) (ls : Array Slot) (H : Heap) (locs : List Loc), v_Grammar_fertileLetters_L4 post gN gH gS gL n4 x1 x2 → lv_has ls 4 [(0, .ref qg), (1, .int x1), (2, .int x2)] → va_P (dC, dI) vwCl [(qg, .inr (2, [.int gN, .ref qgH, .ref qgS, .ref qgL, .ref qgW, .ref qgU, .ref qgO, .int gD])), (qgH, .inl (kI, 14, .inl gH)), (qgS, .inl (kI, 42, .inl gS)), (qgL, .inl (kI, 14, .inl gL))] H → va_D A [(qg, .inr (2, [.int gN, .ref qgH, .ref qgS, .ref qgL, .ref qgW, .ref qgU, .ref qgO, .int gD])), (qgH, .inl (kI, 14, .inl gH)), (qgS, .inl (kI, 42, .inl gS)), (qgL, .inl (kI, 14, .inl gL))] → va_S A s.heap H locs → W p l e (headSpec w_Grammar_fertileLetters { frames := 2, cells := 0, slots := 0, locals := 45 }).room s m ([.ref qg] : List Value).toArray below meth c H locs 0 0 (MQ below (va_Qi (fun (r : Int32) (u : Unit) => post r) (fun u t => va_P (dC, dI) vwCl [(qg, .inr (2, [.int gN, .ref qgH, .ref qgS, .ref qgL, .ref qgW, .ref qgU, .ref qgO, .int gD])), (qgH, .inl (kI, 14, .inl gH)), (qgS, .inl (kI, 42, .inl gS)), (qgL, .inl (kI, 14, .inl gL))] t.heap ∧ va_K (dC, dI) vwCl (vTY kI kC kZ kJ kB kS) t ∧ va_D (A) [(qg, .inr (2, [.int gN, .ref qgH, .ref qgS, .ref qgL, .ref qgW, .ref qgU, .ref qgO, .int gD])), (qgH, .inl (kI, 14, .inl gH)), (qgS, .inl (kI, 42, .inl gS)), (qgL, .inl (kI, 14, .inl gL))]) (A)) ([.ref qg] : List Value).toArray s 0 0 A) (F0 m 4 ls []) := by
    intro n4
    induction n4 with
    | zero => intro x1 x2 ls H locs h; exact False.elim h
    | succ n4 ih =>
      intro x1 x2 ls H locs h hl hP hD hS
      unfold v_Grammar_fertileLetters_L4 at h
      refine lv_iload_n hx hb d_Grammar_fertileLetters_4 rfl (lv_at hl 2 rfl) ?_
      refine lv_iconst (v := 5) hx hb d_Grammar_fertileLetters_5 (by decide) ?_
      refine lv_icmp_ge hx hb d_Grammar_fertileLetters_6 (tgt := 55) (by decide) (fun hc => ?_) (fun hc => ?_)
      · have h := h.1 hc
        refine lv_iload_n hx hb d_Grammar_fertileLetters_55 rfl (lv_at hl 1 rfl) ?_
        exact W.iret (v := x1) hx hb hr (fun t ht hW => ⟨⟨x1, (), rfl, h, by rw [ht]; exact hP, va_K.moved hW.alike hK, hD⟩, hS.F ht⟩) hS.2.2 d_Grammar_fertileLetters_56
      · have h := h.2 hc
        refine lv_iconst (v := 0) hx hb d_Grammar_fertileLetters_9 (by decide) ?_
        refine lv_istore_n hx hb d_Grammar_fertileLetters_10 rfl hl (by decide) rfl (fun ls hl => ?_)
        have hl : lv_has ls 4 [(3, .int (0 : Int32)), (0, .ref qg), (1, .int x1), (2, .int x2)] := hl
        obtain ⟨k11, h⟩ := h
        exact L11 _ ih x2 k11 x1 (0 : Int32) _ _ _ h (lv_sub hl [1, 2, 3, 0] rfl) hP hD hS
  have hl := lv_entry ([.ref qg]) (n := 4) (Nat.le_of_ble_eq_true rfl)
  rw [lg_entry_eq]
  generalize (lg_sl ([.ref qg]) ++ List.replicate (4 - (lg_sl ([.ref qg])).length) Slot.unset).toArray = ls at hl ⊢
  have hl : lv_has ls 4 [(0, .ref qg)] := hl
  unfold v_Grammar_fertileLetters at h
  refine lv_iconst (v := 0) hx hb d_Grammar_fertileLetters_0 (by decide) ?_
  refine lv_istore_n hx hb d_Grammar_fertileLetters_1 rfl hl (by decide) rfl (fun ls hl => ?_)
  have hl : lv_has ls 4 [(1, .int (0 : Int32)), (0, .ref qg)] := hl
  refine lv_iconst (v := 0) hx hb d_Grammar_fertileLetters_2 (by decide) ?_
  refine lv_istore_n hx hb d_Grammar_fertileLetters_3 rfl hl (by decide) rfl (fun ls hl => ?_)
  have hl : lv_has ls 4 [(2, .int (0 : Int32)), (1, .int (0 : Int32)), (0, .ref qg)] := hl
  obtain ⟨k4, h⟩ := h
  exact L4 k4 (0 : Int32) (0 : Int32) _ _ _ h (lv_sub hl [2, 1, 0] rfl) hP hD hS

def v_Grammar_markUseful_L48 (K40 : Int32 → Int32 → (Nat → Int32) → Prop) (gN : Int32) (gH : Nat → Int32) (gS : Nat → Int32) (gL : Nat → Int32) (x1 : Int32) (x3 : Int32) : Nat → Int32 → Int32 → (Nat → Int32) → Prop
  | 0, _, _, _ => False
  | n48 + 1, x2, x4, gU =>
    ((gN ≤ x4 → (K40 x2 (x3 + 1) gU)) ∧ (¬ gN ≤ x4 → (v_Grammar_lettersIn x4 gS gL (fun r60 => (vp_in x4 14 ∧ (v_RT_bitOf (gH x4.toNatClampNeg) (fun r73 => (((x2 &&& r73) = 0 → ((v_Grammar_markUseful_L48 K40 gN gH gS gL x1 x3 n48) x2 (x4 + 1) gU)) ∧ (¬ (x2 &&& r73) = 0 → (((r60 &&& (x1 ^^^ (-1 : Int32))) = 0 → (vp_in x4 14 ∧ ((v_Grammar_markUseful_L48 K40 gN gH gS gL x1 x3 n48) (x2 ||| r60) (x4 + 1) (upd gU x4.toNatClampNeg (vp_nar .boolean (1 : Int32)))))) ∧ (¬ (r60 &&& (x1 ^^^ (-1 : Int32))) = 0 → ((v_Grammar_markUseful_L48 K40 gN gH gS gL x1 x3 n48) x2 (x4 + 1) gU))))))))))))
def v_Grammar_markUseful_L40 (post : (Nat → Int32) → Prop) (gN : Int32) (gH : Nat → Int32) (gS : Nat → Int32) (gL : Nat → Int32) (x1 : Int32) : Nat → Int32 → Int32 → (Nat → Int32) → Prop
  | 0, _, _, _ => False
  | n40 + 1, x2, x3, gU =>
    (((5 : Int32) ≤ x3 → (post gU)) ∧ (¬ (5 : Int32) ≤ x3 → (∃ k48, v_Grammar_markUseful_L48 (v_Grammar_markUseful_L40 post gN gH gS gL x1 n40) gN gH gS gL x1 x3 k48 x2 (0 : Int32) gU)))
def v_Grammar_markUseful_L17 (post : (Nat → Int32) → Prop) (gN : Int32) (gH : Nat → Int32) (gS : Nat → Int32) (gL : Nat → Int32) (x1 : Int32) (x2 : Int32) : Nat → Int32 → (Nat → Int32) → Prop
  | 0, _, _ => False
  | n17 + 1, x3, gU =>
    ((gN ≤ x3 → (∃ k40, v_Grammar_markUseful_L40 post gN gH gS gL x1 k40 x2 (0 : Int32) gU)) ∧ (¬ gN ≤ x3 → (vp_in x3 14 ∧ ((v_Grammar_markUseful_L17 post gN gH gS gL x1 x2 n17) (x3 + 1) (upd gU x3.toNatClampNeg (vp_nar .boolean (0 : Int32)))))))
def v_Grammar_markUseful (gN : Int32) (gH : Nat → Int32) (gS : Nat → Int32) (gL : Nat → Int32) (gU : Nat → Int32) (post : (Nat → Int32) → Prop) : Prop :=
  (v_Grammar_fertileLetters gN gH gS gL (fun r1 => (vp_in (0 : Int32) 14 ∧ (v_RT_bitOf (gH (0 : Int32).toNatClampNeg) (fun r11 => (∃ k17, v_Grammar_markUseful_L17 post gN gH gS gL r1 r11 k17 (0 : Int32) gU))))))
set_option maxHeartbeats 1000000 in
set_option maxRecDepth 100000 in
theorem c_Grammar_markUseful (l : Launch) (dC : Nat → ClassId) (dI : Nat → Nat → Nat) (kI kC kZ kJ kB kS : ClassId) (qg qgH qgS qgL qgW qgU qgO : Nat) (sz : Nat) (gN : Int32) (gD : Int32) (gH : Nat → Int32) (gS : Nat → Int32) (gL : Nat → Int32) (gU : Nat → Int32) {post : (Nat → Int32) → Prop} (h : v_Grammar_markUseful gN gH gS gL gU post) : Met l y_Grammar_markUseful w_Grammar_markUseful ({ frames := 3, cells := 0, slots := 0, locals := 68 }) (va_Pc [.ref qg] (fun U => U.heap.size = sz ∧ va_P (dC, dI) vwCl [(qg, .inr (2, [.int gN, .ref qgH, .ref qgS, .ref qgL, .ref qgW, .ref qgU, .ref qgO, .int gD])), (qgH, .inl (kI, 14, .inl gH)), (qgS, .inl (kI, 42, .inl gS)), (qgL, .inl (kI, 14, .inl gL)), (qgU, .inl (kZ, 14, .inl gU))] U.heap ∧ va_K (dC, dI) vwCl (vTY kI kC kZ kJ kB kS) U ∧ va_D (fun _ => True) [(qg, .inr (2, [.int gN, .ref qgH, .ref qgS, .ref qgL, .ref qgW, .ref qgU, .ref qgO, .int gD])), (qgH, .inl (kI, 14, .inl gH)), (qgS, .inl (kI, 42, .inl gS)), (qgL, .inl (kI, 14, .inl gL)), (qgU, .inl (kZ, 14, .inl gU))] ∧ vNE U)) (va_Qv (fun (u : (Nat → Int32)) => post u) (fun u t => va_P (dC, dI) vwCl [(qg, .inr (2, [.int gN, .ref qgH, .ref qgS, .ref qgL, .ref qgW, .ref qgU, .ref qgO, .int gD])), (qgH, .inl (kI, 14, .inl gH)), (qgS, .inl (kI, 42, .inl gS)), (qgL, .inl (kI, 14, .inl gL)), (qgU, .inl (kZ, 14, .inl u))] t.heap ∧ va_K (dC, dI) vwCl (vTY kI kC kZ kJ kB kS) t ∧ va_D (va_A [(qg, .inr (2, [.int gN, .ref qgH, .ref qgS, .ref qgL, .ref qgW, .ref qgU, .ref qgO, .int gD])), (qgH, .inl (kI, 14, .inl gH)), (qgS, .inl (kI, 42, .inl gS)), (qgL, .inl (kI, 14, .inl gL)), (qgU, .inl (kZ, 14, .inl gU))] sz) [(qg, .inr (2, [.int gN, .ref qgH, .ref qgS, .ref qgL, .ref qgW, .ref qgU, .ref qgO, .int gD])), (qgH, .inl (kI, 14, .inl gH)), (qgS, .inl (kI, 42, .inl gS)), (qgL, .inl (kI, 14, .inl gL)), (qgU, .inl (kZ, 14, .inl u))]) (va_A [(qg, .inr (2, [.int gN, .ref qgH, .ref qgS, .ref qgL, .ref qgW, .ref qgU, .ref qgO, .int gD])), (qgH, .inl (kI, 14, .inl gH)), (qgS, .inl (kI, 42, .inl gS)), (qgL, .inl (kI, 14, .inl gL)), (qgU, .inl (kZ, 14, .inl gU))] sz)) 0 0 (va_A [(qg, .inr (2, [.int gN, .ref qgH, .ref qgS, .ref qgL, .ref qgW, .ref qgU, .ref qgO, .int gD])), (qgH, .inl (kI, 14, .inl gH)), (qgS, .inl (kI, 42, .inl gS)), (qgL, .inl (kI, 14, .inl gL)), (qgU, .inl (kZ, 14, .inl gU))] sz) := by
  refine Met.ofW (cc := b_Grammar_markUseful) (maxL := 6) (ret := none) (by decide) rfl ?_
  intro p e s m args below meth c s₁ B hml hv
  obtain ⟨rfl, hsz, hP, hK, hD0, hN⟩ := hv
  have hx := B.exec
  have hb := B.bytes
  have hr := B.returns
  have hts := atoms_spec (ws := w_Grammar_markUseful) B.pre
  have hT : ∀ w ∈ TB, w.before ([.ref qg] : List Value).toArray s = true := fun w h => hts w (List.mem_cons_of_mem _ h)
  have hown : s.vm.findClass R_Grammar = some m.cls := findClass_of_methodNamed B.named
  have hlocks := B.notSynchronized
  subst hsz
  have hD := hD0.self (sz := s.heap.size)
  generalize hAe : va_A [(qg, .inr (2, [.int gN, .ref qgH, .ref qgS, .ref qgL, .ref qgW, .ref qgU, .ref qgO, .int gD])), (qgH, .inl (kI, 14, .inl gH)), (qgS, .inl (kI, 42, .inl gS)), (qgL, .inl (kI, 14, .inl gL)), (qgU, .inl (kZ, 14, .inl gU))] s.heap.size = A at hD ⊢
  have hA : ∀ q : Nat, s.heap.size ≤ q → A q := fun q h => by rw [← hAe]; exact Or.inr h
  have hS : va_S A s.heap s.heap [] := va_S.rf
  have L48 : ∀ (x1 : Int32) (K40 : Int32 → Int32 → (Nat → Int32) → Prop) (hK40 : ∀ (x2 : Int32) (x3 : Int32) (gU : Nat → Int32) (ls : Array Slot) (H : Heap) (locs : List Loc), K40 x2 x3 gU → lv_has ls 6 [(0, .ref qg), (1, .int x1), (2, .int x2), (3, .int x3)] → va_P (dC, dI) vwCl [(qg, .inr (2, [.int gN, .ref qgH, .ref qgS, .ref qgL, .ref qgW, .ref qgU, .ref qgO, .int gD])), (qgH, .inl (kI, 14, .inl gH)), (qgS, .inl (kI, 42, .inl gS)), (qgL, .inl (kI, 14, .inl gL)), (qgU, .inl (kZ, 14, .inl gU))] H → va_D A [(qg, .inr (2, [.int gN, .ref qgH, .ref qgS, .ref qgL, .ref qgW, .ref qgU, .ref qgO, .int gD])), (qgH, .inl (kI, 14, .inl gH)), (qgS, .inl (kI, 42, .inl gS)), (qgL, .inl (kI, 14, .inl gL)), (qgU, .inl (kZ, 14, .inl gU))] → va_S A s.heap H locs → W p l e (headSpec w_Grammar_markUseful { frames := 3, cells := 0, slots := 0, locals := 68 }).room s m ([.ref qg] : List Value).toArray below meth c H locs 0 0 (MQ below (va_Qv (fun (u : (Nat → Int32)) => post u) (fun u t => va_P (dC, dI) vwCl [(qg, .inr (2, [.int gN, .ref qgH, .ref qgS, .ref qgL, .ref qgW, .ref qgU, .ref qgO, .int gD])), (qgH, .inl (kI, 14, .inl gH)), (qgS, .inl (kI, 42, .inl gS)), (qgL, .inl (kI, 14, .inl gL)), (qgU, .inl (kZ, 14, .inl u))] t.heap ∧ va_K (dC, dI) vwCl (vTY kI kC kZ kJ kB kS) t ∧ va_D (A) [(qg, .inr (2, [.int gN, .ref qgH, .ref qgS, .ref qgL, .ref qgW, .ref qgU, .ref qgO, .int gD])), (qgH, .inl (kI, 14, .inl gH)), (qgS, .inl (kI, 42, .inl gS)), (qgL, .inl (kI, 14, .inl gL)), (qgU, .inl (kZ, 14, .inl u))]) (A)) ([.ref qg] : List Value).toArray s 0 0 A) (F0 m 40 ls [])) (x3 : Int32) (n48 : Nat) (x2 : Int32) (x4 : Int32) (gU : Nat → Int32) (ls : Array Slot) (H : Heap) (locs : List Loc), v_Grammar_markUseful_L48 K40 gN gH gS gL x1 x3 n48 x2 x4 gU → lv_has ls 6 [(0, .ref qg), (1, .int x1), (2, .int x2), (3, .int x3), (4, .int x4)] → va_P (dC, dI) vwCl [(qg, .inr (2, [.int gN, .ref qgH, .ref qgS, .ref qgL, .ref qgW, .ref qgU, .ref qgO, .int gD])), (qgH, .inl (kI, 14, .inl gH)), (qgS, .inl (kI, 42, .inl gS)), (qgL, .inl (kI, 14, .inl gL)), (qgU, .inl (kZ, 14, .inl gU))] H → va_D A [(qg, .inr (2, [.int gN, .ref qgH, .ref qgS, .ref qgL, .ref qgW, .ref qgU, .ref qgO, .int gD])), (qgH, .inl (kI, 14, .inl gH)), (qgS, .inl (kI, 42, .inl gS)), (qgL, .inl (kI, 14, .inl gL)), (qgU, .inl (kZ, 14, .inl gU))] → va_S A s.heap H locs → W p l e (headSpec w_Grammar_markUseful { frames := 3, cells := 0, slots := 0, locals := 68 }).room s m ([.ref qg] : List Value).toArray below meth c H locs 0 0 (MQ below (va_Qv (fun (u : (Nat → Int32)) => post u) (fun u t => va_P (dC, dI) vwCl [(qg, .inr (2, [.int gN, .ref qgH, .ref qgS, .ref qgL, .ref qgW, .ref qgU, .ref qgO, .int gD])), (qgH, .inl (kI, 14, .inl gH)), (qgS, .inl (kI, 42, .inl gS)), (qgL, .inl (kI, 14, .inl gL)), (qgU, .inl (kZ, 14, .inl u))] t.heap ∧ va_K (dC, dI) vwCl (vTY kI kC kZ kJ kB kS) t ∧ va_D (A) [(qg, .inr (2, [.int gN, .ref qgH, .ref qgS, .ref qgL, .ref qgW, .ref qgU, .ref qgO, .int gD])), (qgH, .inl (kI, 14, .inl gH)), (qgS, .inl (kI, 42, .inl gS)), (qgL, .inl (kI, 14, .inl gL)), (qgU, .inl (kZ, 14, .inl u))]) (A)) ([.ref qg] : List Value).toArray s 0 0 A) (F0 m 48 ls []) := by
    intro x1 K40 hK40 x3 n48
    induction n48 with
    | zero => intro x2 x4 gU ls H locs h; exact False.elim h
    | succ n48 ih =>
      intro x2 x4 gU ls H locs h hl hP hD hS
      unfold v_Grammar_markUseful_L48 at h
      refine lv_iload hx hb d_Grammar_markUseful_48 (lv_at hl 4 rfl) ?_
      refine lv_aload_n hx hb d_Grammar_markUseful_50 rfl (lv_at hl 0 rfl) ?_
      refine va_get (D := (dC, dI)) (ci := 2) (v := .int gN) (C := R_Grammar) (T := T_Grammar) (N := 8) hx hb hT hn_Grammar hown hK hP 0 rfl rfl 0 (by decide) (hT _ tb_119) (fun _ h9 => h9) rfl d_Grammar_markUseful_51 ?_
      refine lv_icmp_ge hx hb d_Grammar_markUseful_54 (tgt := 108) (by decide) (fun hc => ?_) (fun hc => ?_)
      · have h := h.1 hc
        refine lv_iinc (k := 3) (v := (x3 + 1)) hx hb d_Grammar_markUseful_108 hl rfl (congrArg (x3 + ·) (by decide)) (by decide) rfl (fun ls hl => ?_)
        have hl : lv_has ls 6 [(3, .int (x3 + 1)), (0, .ref qg), (1, .int x1), (2, .int x2), (4, .int x4)] := hl
        refine lv_goto hx hb d_Grammar_markUseful_111 (tgt := 40) (by decide) ?_
        exact hK40 x2 (x3 + 1) gU _ _ _ h (lv_sub hl [1, 2, 3, 0] rfl) hP hD hS
      · have h := h.2 hc
        refine lv_aload_n hx hb d_Grammar_markUseful_57 rfl (lv_at hl 0 rfl) ?_
        refine lv_iload hx hb d_Grammar_markUseful_58 (lv_at hl 4 rfl) ?_
        have hPc := hP.sub (ws' := [(qg, .inr (2, [.int gN, .ref qgH, .ref qgS, .ref qgL, .ref qgW, .ref qgU, .ref qgO, .int gD])), (qgS, .inl (kI, 42, .inl gS)), (qgL, .inl (kI, 14, .inl gL))]) [0, 2, 3] rfl
        have hDc := hD.sub (ws' := [(qg, .inr (2, [.int gN, .ref qgH, .ref qgS, .ref qgL, .ref qgW, .ref qgU, .ref qgO, .int gD])), (qgS, .inl (kI, 42, .inl gS)), (qgL, .inl (kI, 14, .inl gL))]) [0, 2, 3] (by decide) rfl
        have hFc := va_free (wc := [(qg, .inr (2, [.int gN, .ref qgH, .ref qgS, .ref qgL, .ref qgW, .ref qgU, .ref qgO, .int gD])), (qgS, .inl (kI, 42, .inl gS)), (qgL, .inl (kI, 14, .inl gL))]) hD hS hA [0, 2, 3] rfl
        refine va_calli (va_runV (As := [.int x4]) (rest := []) ⟨hx, hb, hml, hown, hts⟩ (c_Grammar_lettersIn l dC dI kI kC kZ kJ kB kS qg qgH qgS qgL qgW qgU qgO H.size gN gD gS gL x4 h) ⟨callB_of 1 hts (gA tb_306) rfl rfl rfl (hT _ tb_47) (hT _ tb_303) (by decide +kernel) ⟨Nat.le_of_ble_eq_true rfl, Nat.le_of_ble_eq_true rfl⟩, (hT _ tb_305), (hT _ tb_6)⟩ ⟨fun a U g mk q => by obtain ⟨q0, q1, qP, qK, qD, qN⟩ := q; exact ⟨q0, q1, qP, va_K.moved (u := U) (U := U.calling g mk a) (Vm.Alike.refl U.vm) qK, qD, vNE.same (U := U.calling g mk a) rfl qN⟩, va_recv hK hP rfl (q0 := 0) rfl, fun U hU hW => ⟨rfl, by rw [hU], by rw [hU]; exact hPc, va_K.moved hW.alike hK, hDc.weaken (fun _ _ _ _ => trivial), vNE.moved hW hN⟩⟩ rfl rfl hl.1 rfl (lv_room (Nat.le_of_ble_eq_true rfl)) d_Grammar_markUseful_60 ⟨Nat.zero_le _, Nat.zero_le _⟩) hS (fun q _ h => hFc q h) hFc (fun r60 u t H_60 locs ht hvm h hB hz1 hk1 hS => ?_)
        obtain ⟨hP1, hK1, hD1⟩ := hB
        rw [ht] at hP1
        try dsimp only at h
        obtain ⟨hP, hD⟩ := va_join (wr := [(qgH, .inl (kI, 14, .inl gH)), (qgU, .inl (kZ, 14, .inl gU))]) (w1 := [(qg, .inr (2, [.int gN, .ref qgH, .ref qgS, .ref qgL, .ref qgW, .ref qgU, .ref qgO, .int gD])), (qgS, .inl (kI, 42, .inl gS)), (qgL, .inl (kI, 14, .inl gL))]) hP hD [0, 2, 3] [1, 4] rfl rfl (by decide) (by decide) hk1 hFc hP1 hD1
        have hP : va_P (dC, dI) vwCl [(qg, .inr (2, [.int gN, .ref qgH, .ref qgS, .ref qgL, .ref qgW, .ref qgU, .ref qgO, .int gD])), (qgH, .inl (kI, 14, .inl gH)), (qgS, .inl (kI, 42, .inl gS)), (qgL, .inl (kI, 14, .inl gL)), (qgU, .inl (kZ, 14, .inl gU))] H_60 := hP.sub (ws' := [(qg, .inr (2, [.int gN, .ref qgH, .ref qgS, .ref qgL, .ref qgW, .ref qgU, .ref qgO, .int gD])), (qgH, .inl (kI, 14, .inl gH)), (qgS, .inl (kI, 42, .inl gS)), (qgL, .inl (kI, 14, .inl gL)), (qgU, .inl (kZ, 14, .inl gU))]) [2, 0, 3, 4, 1] rfl
        have hD : va_D A [(qg, .inr (2, [.int gN, .ref qgH, .ref qgS, .ref qgL, .ref qgW, .ref qgU, .ref qgO, .int gD])), (qgH, .inl (kI, 14, .inl gH)), (qgS, .inl (kI, 42, .inl gS)), (qgL, .inl (kI, 14, .inl gL)), (qgU, .inl (kZ, 14, .inl gU))] := hD.sub (ws' := [(qg, .inr (2, [.int gN, .ref qgH, .ref qgS, .ref qgL, .ref qgW, .ref qgU, .ref qgO, .int gD])), (qgH, .inl (kI, 14, .inl gH)), (qgS, .inl (kI, 42, .inl gS)), (qgL, .inl (kI, 14, .inl gL)), (qgU, .inl (kZ, 14, .inl gU))]) [2, 0, 3, 4, 1] (by decide) rfl
        refine lv_istore hx hb d_Grammar_markUseful_63 hl (by decide) rfl (fun ls hl => ?_)
        have hl : lv_has ls 6 [(5, .int r60), (0, .ref qg), (1, .int x1), (2, .int x2), (3, .int x3), (4, .int x4)] := hl
        refine lv_iload_n hx hb d_Grammar_markUseful_65 rfl (lv_at hl 3 rfl) ?_
        refine lv_aload_n hx hb d_Grammar_markUseful_66 rfl (lv_at hl 1 rfl) ?_
        refine va_get (D := (dC, dI)) (ci := 2) (v := .ref qgH) (C := R_Grammar) (T := T_Grammar) (N := 8) hx hb hT hn_Grammar hown hK hP 0 rfl rfl 1 (by decide) (hT _ tb_121) (fun _ h9 => h9) rfl d_Grammar_markUseful_67 ?_
        refine lv_iload hx hb d_Grammar_markUseful_70 (lv_at hl 5 rfl) ?_
        refine va_iald hx hb hK hP 1 0 rfl rfl h.1 d_Grammar_markUseful_72 ?_
        have h := h.2
        have hPc := hP.sub (ws' := []) [] rfl
        have hDc := hD.sub (ws' := []) [] (by decide) rfl
        have hFc := va_free (wc := []) hD hS hA [] rfl
        refine va_calli (va_runSN (As := [.int (gH x4.toNatClampNeg)]) (rest := [.int x2]) ⟨hx, hb, hml, hown, hts⟩ (c_RT_bitOf l dC dI kI kC kZ kJ kB kS H_60.size (gH x4.toNatClampNeg) h) ⟨va_cnB 1 hts (gA tb_310) rfl rfl rfl (nE_308 hN) (hT _ tb_43) (by decide +kernel) ⟨Nat.le_of_ble_eq_true rfl, Nat.le_of_ble_eq_true rfl⟩, (hT _ tb_309), trivial⟩ ⟨fun a U g mk q => by obtain ⟨q0, q1, qP, qK, qD, qN⟩ := q; exact ⟨q0, q1, qP, va_K.moved (u := U) (U := U.calling g mk a) (Vm.Alike.refl U.vm) qK, qD, vNE.same (U := U.calling g mk a) rfl qN⟩, fun U hU hW => ⟨rfl, by rw [hU], by rw [hU]; exact hPc, va_K.moved hW.alike hK, hDc.weaken (fun _ _ _ _ => trivial), vNE.moved hW hN⟩⟩ rfl rfl hl.1 rfl (lv_room (Nat.le_of_ble_eq_true rfl)) d_Grammar_markUseful_73 ⟨Nat.zero_le _, Nat.zero_le _⟩) hS (fun q _ h => hFc q h) hFc (fun r73 u t H_73 locs ht hvm h hB hz1 hk1 hS => ?_)
        obtain ⟨hP1, hK1, hD1⟩ := hB
        rw [ht] at hP1
        try dsimp only at h
        obtain ⟨hP, hD⟩ := va_join (wr := [(qg, .inr (2, [.int gN, .ref qgH, .ref qgS, .ref qgL, .ref qgW, .ref qgU, .ref qgO, .int gD])), (qgH, .inl (kI, 14, .inl gH)), (qgS, .inl (kI, 42, .inl gS)), (qgL, .inl (kI, 14, .inl gL)), (qgU, .inl (kZ, 14, .inl gU))]) (w1 := []) hP hD [] [0, 1, 2, 3, 4] rfl rfl (by decide) (by decide) hk1 hFc hP1 hD1
        have hP : va_P (dC, dI) vwCl [(qg, .inr (2, [.int gN, .ref qgH, .ref qgS, .ref qgL, .ref qgW, .ref qgU, .ref qgO, .int gD])), (qgH, .inl (kI, 14, .inl gH)), (qgS, .inl (kI, 42, .inl gS)), (qgL, .inl (kI, 14, .inl gL)), (qgU, .inl (kZ, 14, .inl gU))] H_73 := hP.sub (ws' := [(qg, .inr (2, [.int gN, .ref qgH, .ref qgS, .ref qgL, .ref qgW, .ref qgU, .ref qgO, .int gD])), (qgH, .inl (kI, 14, .inl gH)), (qgS, .inl (kI, 42, .inl gS)), (qgL, .inl (kI, 14, .inl gL)), (qgU, .inl (kZ, 14, .inl gU))]) [0, 1, 2, 3, 4] rfl
        have hD : va_D A [(qg, .inr (2, [.int gN, .ref qgH, .ref qgS, .ref qgL, .ref qgW, .ref qgU, .ref qgO, .int gD])), (qgH, .inl (kI, 14, .inl gH)), (qgS, .inl (kI, 42, .inl gS)), (qgL, .inl (kI, 14, .inl gL)), (qgU, .inl (kZ, 14, .inl gU))] := hD.sub (ws' := [(qg, .inr (2, [.int gN, .ref qgH, .ref qgS, .ref qgL, .ref qgW, .ref qgU, .ref qgO, .int gD])), (qgH, .inl (kI, 14, .inl gH)), (qgS, .inl (kI, 42, .inl gS)), (qgL, .inl (kI, 14, .inl gL)), (qgU, .inl (kZ, 14, .inl gU))]) [0, 1, 2, 3, 4] (by decide) rfl
        refine lv_iand hx hb d_Grammar_markUseful_76 ?_
        refine lv_if_eq hx hb d_Grammar_markUseful_77 (tgt := 102) (by decide) (fun hc => ?_) (fun hc => ?_)
        · have h := h.1 hc
          refine lv_iinc (k := 5) (v := (x4 + 1)) hx hb d_Grammar_markUseful_102 hl rfl (congrArg (x4 + ·) (by decide)) (by decide) rfl (fun ls hl => ?_)
          have hl : lv_has ls 6 [(4, .int (x4 + 1)), (5, .int r60), (0, .ref qg), (1, .int x1), (2, .int x2), (3, .int x3)] := hl
          refine lv_goto hx hb d_Grammar_markUseful_105 (tgt := 48) (by decide) ?_
          exact ih x2 (x4 + 1) gU _ _ _ h (lv_sub hl [2, 3, 4, 5, 0] rfl) hP hD hS
        · have h := h.2 hc
          refine lv_iload hx hb d_Grammar_markUseful_80 (lv_at hl 0 rfl) ?_
          refine lv_iload_n hx hb d_Grammar_markUseful_82 rfl (lv_at hl 2 rfl) ?_
          refine lv_iconst (v := -1) hx hb d_Grammar_markUseful_83 (by decide) ?_
          refine lv_ixor hx hb d_Grammar_markUseful_84 ?_
          refine lv_iand hx hb d_Grammar_markUseful_85 ?_
          refine lv_if_ne hx hb d_Grammar_markUseful_86 (tgt := 102) (by decide) (fun hc => ?_) (fun hc => ?_)
          · have h := h.2 hc
            refine lv_iinc (k := 5) (v := (x4 + 1)) hx hb d_Grammar_markUseful_102 hl rfl (congrArg (x4 + ·) (by decide)) (by decide) rfl (fun ls hl => ?_)
            have hl : lv_has ls 6 [(4, .int (x4 + 1)), (5, .int r60), (0, .ref qg), (1, .int x1), (2, .int x2), (3, .int x3)] := hl
            refine lv_goto hx hb d_Grammar_markUseful_105 (tgt := 48) (by decide) ?_
            exact ih x2 (x4 + 1) gU _ _ _ h (lv_sub hl [2, 3, 4, 5, 0] rfl) hP hD hS
          · have h := h.1 hc
            refine lv_aload_n hx hb d_Grammar_markUseful_89 rfl (lv_at hl 1 rfl) ?_
            refine va_get (D := (dC, dI)) (ci := 2) (v := .ref qgU) (C := R_Grammar) (T := T_Grammar) (N := 8) hx hb hT hn_Grammar hown hK hP 0 rfl rfl 5 (by decide) (hT _ tb_134) (fun _ h9 => h9) rfl d_Grammar_markUseful_90 ?_
            refine lv_iload hx hb d_Grammar_markUseful_93 (lv_at hl 5 rfl) ?_
            refine lv_iconst (v := 1) hx hb d_Grammar_markUseful_95 (by decide) ?_
            refine va_zast hx hb hK hP hD hS 4 2 rfl rfl h.1 d_Grammar_markUseful_96 (fun H_96 locs hP hD hS => ?_)
            have hP : va_P (dC, dI) vwCl [(qg, .inr (2, [.int gN, .ref qgH, .ref qgS, .ref qgL, .ref qgW, .ref qgU, .ref qgO, .int gD])), (qgH, .inl (kI, 14, .inl gH)), (qgS, .inl (kI, 42, .inl gS)), (qgL, .inl (kI, 14, .inl gL)), (qgU, .inl (kZ, 14, .inl (upd gU x4.toNatClampNeg (vp_nar .boolean (1 : Int32)))))] H_96 := hP
            have hD : va_D A [(qg, .inr (2, [.int gN, .ref qgH, .ref qgS, .ref qgL, .ref qgW, .ref qgU, .ref qgO, .int gD])), (qgH, .inl (kI, 14, .inl gH)), (qgS, .inl (kI, 42, .inl gS)), (qgL, .inl (kI, 14, .inl gL)), (qgU, .inl (kZ, 14, .inl (upd gU x4.toNatClampNeg (vp_nar .boolean (1 : Int32)))))] := hD
            have h := h.2
            refine lv_iload_n hx hb d_Grammar_markUseful_97 rfl (lv_at hl 3 rfl) ?_
            refine lv_iload hx hb d_Grammar_markUseful_98 (lv_at hl 0 rfl) ?_
            refine lv_ior hx hb d_Grammar_markUseful_100 ?_
            refine lv_istore_n hx hb d_Grammar_markUseful_101 rfl hl (by decide) rfl (fun ls hl => ?_)
            have hl : lv_has ls 6 [(2, .int (x2 ||| r60)), (5, .int r60), (0, .ref qg), (1, .int x1), (3, .int x3), (4, .int x4)] := hl
            refine lv_iinc (k := 5) (v := (x4 + 1)) hx hb d_Grammar_markUseful_102 hl rfl (congrArg (x4 + ·) (by decide)) (by decide) rfl (fun ls hl => ?_)
            have hl : lv_has ls 6 [(4, .int (x4 + 1)), (2, .int (x2 ||| r60)), (5, .int r60), (0, .ref qg), (1, .int x1), (3, .int x3)] := hl
            refine lv_goto hx hb d_Grammar_markUseful_105 (tgt := 48) (by decide) ?_
            exact ih (x2 ||| r60) (x4 + 1) (upd gU x4.toNatClampNeg (vp_nar .boolean (1 : Int32))) _ _ _ h (lv_sub hl [3, 4, 1, 5, 0] rfl) hP hD hS
  have L40 : ∀ (x1 : Int32) (n40 : Nat) (x2 : Int32) (x3 : Int32) (gU : Nat → Int32) (ls : Array Slot) (H : Heap) (locs : List Loc), v_Grammar_markUseful_L40 post gN gH gS gL x1 n40 x2 x3 gU → lv_has ls 6 [(0, .ref qg), (1, .int x1), (2, .int x2), (3, .int x3)] → va_P (dC, dI) vwCl [(qg, .inr (2, [.int gN, .ref qgH, .ref qgS, .ref qgL, .ref qgW, .ref qgU, .ref qgO, .int gD])), (qgH, .inl (kI, 14, .inl gH)), (qgS, .inl (kI, 42, .inl gS)), (qgL, .inl (kI, 14, .inl gL)), (qgU, .inl (kZ, 14, .inl gU))] H → va_D A [(qg, .inr (2, [.int gN, .ref qgH, .ref qgS, .ref qgL, .ref qgW, .ref qgU, .ref qgO, .int gD])), (qgH, .inl (kI, 14, .inl gH)), (qgS, .inl (kI, 42, .inl gS)), (qgL, .inl (kI, 14, .inl gL)), (qgU, .inl (kZ, 14, .inl gU))] → va_S A s.heap H locs → W p l e (headSpec w_Grammar_markUseful { frames := 3, cells := 0, slots := 0, locals := 68 }).room s m ([.ref qg] : List Value).toArray below meth c H locs 0 0 (MQ below (va_Qv (fun (u : (Nat → Int32)) => post u) (fun u t => va_P (dC, dI) vwCl [(qg, .inr (2, [.int gN, .ref qgH, .ref qgS, .ref qgL, .ref qgW, .ref qgU, .ref qgO, .int gD])), (qgH, .inl (kI, 14, .inl gH)), (qgS, .inl (kI, 42, .inl gS)), (qgL, .inl (kI, 14, .inl gL)), (qgU, .inl (kZ, 14, .inl u))] t.heap ∧ va_K (dC, dI) vwCl (vTY kI kC kZ kJ kB kS) t ∧ va_D (A) [(qg, .inr (2, [.int gN, .ref qgH, .ref qgS, .ref qgL, .ref qgW, .ref qgU, .ref qgO, .int gD])), (qgH, .inl (kI, 14, .inl gH)), (qgS, .inl (kI, 42, .inl gS)), (qgL, .inl (kI, 14, .inl gL)), (qgU, .inl (kZ, 14, .inl u))]) (A)) ([.ref qg] : List Value).toArray s 0 0 A) (F0 m 40 ls []) := by
    intro x1 n40
    induction n40 with
    | zero => intro x2 x3 gU ls H locs h; exact False.elim h
    | succ n40 ih =>
      intro x2 x3 gU ls H locs h hl hP hD hS
      unfold v_Grammar_markUseful_L40 at h
      refine lv_iload_n hx hb d_Grammar_markUseful_40 rfl (lv_at hl 3 rfl) ?_
      refine lv_iconst (v := 5) hx hb d_Grammar_markUseful_41 (by decide) ?_
      refine lv_icmp_ge hx hb d_Grammar_markUseful_42 (tgt := 114) (by decide) (fun hc => ?_) (fun hc => ?_)
      · have h := h.1 hc
        exact W.vret hx hb hr (fun t ht hW => ⟨⟨gU, rfl, h, by rw [ht]; exact hP, va_K.moved hW.alike hK, hD⟩, hS.F ht⟩) hS.2.2 d_Grammar_markUseful_114
      · have h := h.2 hc
        refine lv_iconst (v := 0) hx hb d_Grammar_markUseful_45 (by decide) ?_
        refine lv_istore hx hb d_Grammar_markUseful_46 hl (by decide) rfl (fun ls hl => ?_)
        have hl : lv_has ls 6 [(4, .int (0 : Int32)), (0, .ref qg), (1, .int x1), (2, .int x2), (3, .int x3)] := hl
        obtain ⟨k48, h⟩ := h
        exact L48 x1 _ ih x3 k48 x2 (0 : Int32) gU _ _ _ h (lv_sub hl [1, 2, 3, 4, 0] rfl) hP hD hS
  have L17 : ∀ (x1 : Int32) (x2 : Int32) (n17 : Nat) (x3 : Int32) (gU : Nat → Int32) (ls : Array Slot) (H : Heap) (locs : List Loc), v_Grammar_markUseful_L17 post gN gH gS gL x1 x2 n17 x3 gU → lv_has ls 6 [(0, .ref qg), (1, .int x1), (2, .int x2), (3, .int x3)] → va_P (dC, dI) vwCl [(qg, .inr (2, [.int gN, .ref qgH, .ref qgS, .ref qgL, .ref qgW, .ref qgU, .ref qgO, .int gD])), (qgH, .inl (kI, 14, .inl gH)), (qgS, .inl (kI, 42, .inl gS)), (qgL, .inl (kI, 14, .inl gL)), (qgU, .inl (kZ, 14, .inl gU))] H → va_D A [(qg, .inr (2, [.int gN, .ref qgH, .ref qgS, .ref qgL, .ref qgW, .ref qgU, .ref qgO, .int gD])), (qgH, .inl (kI, 14, .inl gH)), (qgS, .inl (kI, 42, .inl gS)), (qgL, .inl (kI, 14, .inl gL)), (qgU, .inl (kZ, 14, .inl gU))] → va_S A s.heap H locs → W p l e (headSpec w_Grammar_markUseful { frames := 3, cells := 0, slots := 0, locals := 68 }).room s m ([.ref qg] : List Value).toArray below meth c H locs 0 0 (MQ below (va_Qv (fun (u : (Nat → Int32)) => post u) (fun u t => va_P (dC, dI) vwCl [(qg, .inr (2, [.int gN, .ref qgH, .ref qgS, .ref qgL, .ref qgW, .ref qgU, .ref qgO, .int gD])), (qgH, .inl (kI, 14, .inl gH)), (qgS, .inl (kI, 42, .inl gS)), (qgL, .inl (kI, 14, .inl gL)), (qgU, .inl (kZ, 14, .inl u))] t.heap ∧ va_K (dC, dI) vwCl (vTY kI kC kZ kJ kB kS) t ∧ va_D (A) [(qg, .inr (2, [.int gN, .ref qgH, .ref qgS, .ref qgL, .ref qgW, .ref qgU, .ref qgO, .int gD])), (qgH, .inl (kI, 14, .inl gH)), (qgS, .inl (kI, 42, .inl gS)), (qgL, .inl (kI, 14, .inl gL)), (qgU, .inl (kZ, 14, .inl u))]) (A)) ([.ref qg] : List Value).toArray s 0 0 A) (F0 m 17 ls []) := by
    intro x1 x2 n17
    induction n17 with
    | zero => intro x3 gU ls H locs h; exact False.elim h
    | succ n17 ih =>
      intro x3 gU ls H locs h hl hP hD hS
      unfold v_Grammar_markUseful_L17 at h
      refine lv_iload_n hx hb d_Grammar_markUseful_17 rfl (lv_at hl 3 rfl) ?_
      refine lv_aload_n hx hb d_Grammar_markUseful_18 rfl (lv_at hl 0 rfl) ?_
      refine va_get (D := (dC, dI)) (ci := 2) (v := .int gN) (C := R_Grammar) (T := T_Grammar) (N := 8) hx hb hT hn_Grammar hown hK hP 0 rfl rfl 0 (by decide) (hT _ tb_119) (fun _ h9 => h9) rfl d_Grammar_markUseful_19 ?_
      refine lv_icmp_ge hx hb d_Grammar_markUseful_22 (tgt := 38) (by decide) (fun hc => ?_) (fun hc => ?_)
      · have h := h.1 hc
        refine lv_iconst (v := 0) hx hb d_Grammar_markUseful_38 (by decide) ?_
        refine lv_istore_n hx hb d_Grammar_markUseful_39 rfl hl (by decide) rfl (fun ls hl => ?_)
        have hl : lv_has ls 6 [(3, .int (0 : Int32)), (0, .ref qg), (1, .int x1), (2, .int x2)] := hl
        obtain ⟨k40, h⟩ := h
        exact L40 x1 k40 x2 (0 : Int32) gU _ _ _ h (lv_sub hl [1, 2, 3, 0] rfl) hP hD hS
      · have h := h.2 hc
        refine lv_aload_n hx hb d_Grammar_markUseful_25 rfl (lv_at hl 0 rfl) ?_
        refine va_get (D := (dC, dI)) (ci := 2) (v := .ref qgU) (C := R_Grammar) (T := T_Grammar) (N := 8) hx hb hT hn_Grammar hown hK hP 0 rfl rfl 5 (by decide) (hT _ tb_134) (fun _ h9 => h9) rfl d_Grammar_markUseful_26 ?_
        refine lv_iload_n hx hb d_Grammar_markUseful_29 rfl (lv_at hl 3 rfl) ?_
        refine lv_iconst (v := 0) hx hb d_Grammar_markUseful_30 (by decide) ?_
        refine va_zast hx hb hK hP hD hS 4 2 rfl rfl h.1 d_Grammar_markUseful_31 (fun H_31 locs hP hD hS => ?_)
        have hP : va_P (dC, dI) vwCl [(qg, .inr (2, [.int gN, .ref qgH, .ref qgS, .ref qgL, .ref qgW, .ref qgU, .ref qgO, .int gD])), (qgH, .inl (kI, 14, .inl gH)), (qgS, .inl (kI, 42, .inl gS)), (qgL, .inl (kI, 14, .inl gL)), (qgU, .inl (kZ, 14, .inl (upd gU x3.toNatClampNeg (vp_nar .boolean (0 : Int32)))))] H_31 := hP
        have hD : va_D A [(qg, .inr (2, [.int gN, .ref qgH, .ref qgS, .ref qgL, .ref qgW, .ref qgU, .ref qgO, .int gD])), (qgH, .inl (kI, 14, .inl gH)), (qgS, .inl (kI, 42, .inl gS)), (qgL, .inl (kI, 14, .inl gL)), (qgU, .inl (kZ, 14, .inl (upd gU x3.toNatClampNeg (vp_nar .boolean (0 : Int32)))))] := hD
        have h := h.2
        refine lv_iinc (k := 3) (v := (x3 + 1)) hx hb d_Grammar_markUseful_32 hl rfl (congrArg (x3 + ·) (by decide)) (by decide) rfl (fun ls hl => ?_)
        have hl : lv_has ls 6 [(3, .int (x3 + 1)), (0, .ref qg), (1, .int x1), (2, .int x2)] := hl
        refine lv_goto hx hb d_Grammar_markUseful_35 (tgt := 17) (by decide) ?_
        exact ih (x3 + 1) (upd gU x3.toNatClampNeg (vp_nar .boolean (0 : Int32))) _ _ _ h (lv_sub hl [1, 2, 3, 0] rfl) hP hD hS
  have hl := lv_entry ([.ref qg]) (n := 6) (Nat.le_of_ble_eq_true rfl)
  rw [lg_entry_eq]
  generalize (lg_sl ([.ref qg]) ++ List.replicate (6 - (lg_sl ([.ref qg])).length) Slot.unset).toArray = ls at hl ⊢
  have hl : lv_has ls 6 [(0, .ref qg)] := hl
  unfold v_Grammar_markUseful at h
  refine lv_aload_n hx hb d_Grammar_markUseful_0 rfl (lv_at hl 0 rfl) ?_
  have hPc := hP.sub (ws' := [(qg, .inr (2, [.int gN, .ref qgH, .ref qgS, .ref qgL, .ref qgW, .ref qgU, .ref qgO, .int gD])), (qgH, .inl (kI, 14, .inl gH)), (qgS, .inl (kI, 42, .inl gS)), (qgL, .inl (kI, 14, .inl gL))]) [0, 1, 2, 3] rfl
  have hDc := hD.sub (ws' := [(qg, .inr (2, [.int gN, .ref qgH, .ref qgS, .ref qgL, .ref qgW, .ref qgU, .ref qgO, .int gD])), (qgH, .inl (kI, 14, .inl gH)), (qgS, .inl (kI, 42, .inl gS)), (qgL, .inl (kI, 14, .inl gL))]) [0, 1, 2, 3] (by decide) rfl
  have hFc := va_free (wc := [(qg, .inr (2, [.int gN, .ref qgH, .ref qgS, .ref qgL, .ref qgW, .ref qgU, .ref qgO, .int gD])), (qgH, .inl (kI, 14, .inl gH)), (qgS, .inl (kI, 42, .inl gS)), (qgL, .inl (kI, 14, .inl gL))]) hD hS hA [0, 1, 2, 3] rfl
  refine va_calli (va_runV (As := []) (rest := []) ⟨hx, hb, hml, hown, hts⟩ (c_Grammar_fertileLetters l dC dI kI kC kZ kJ kB kS qg qgH qgS qgL qgW qgU qgO s.heap.size gN gD gH gS gL h) ⟨callB_of 0 hts (gA tb_302) rfl rfl rfl (hT _ tb_47) (hT _ tb_299) (by decide +kernel) ⟨Nat.le_of_ble_eq_true rfl, Nat.le_of_ble_eq_true rfl⟩, (hT _ tb_301), (hT _ tb_5)⟩ ⟨fun a U g mk q => by obtain ⟨q0, q1, qP, qK, qD, qN⟩ := q; exact ⟨q0, q1, qP, va_K.moved (u := U) (U := U.calling g mk a) (Vm.Alike.refl U.vm) qK, qD, vNE.same (U := U.calling g mk a) rfl qN⟩, va_recv hK hP rfl (q0 := 0) rfl, fun U hU hW => ⟨rfl, by rw [hU], by rw [hU]; exact hPc, va_K.moved hW.alike hK, hDc.weaken (fun _ _ _ _ => trivial), vNE.moved hW hN⟩⟩ rfl rfl hl.1 rfl (lv_room (Nat.le_of_ble_eq_true rfl)) d_Grammar_markUseful_1 ⟨Nat.zero_le _, Nat.zero_le _⟩) hS (fun q _ h => hFc q h) hFc (fun r1 u t H_1 locs ht hvm h hB hz1 hk1 hS => ?_)
  obtain ⟨hP1, hK1, hD1⟩ := hB
  rw [ht] at hP1
  try dsimp only at h
  obtain ⟨hP, hD⟩ := va_join (wr := [(qgU, .inl (kZ, 14, .inl gU))]) (w1 := [(qg, .inr (2, [.int gN, .ref qgH, .ref qgS, .ref qgL, .ref qgW, .ref qgU, .ref qgO, .int gD])), (qgH, .inl (kI, 14, .inl gH)), (qgS, .inl (kI, 42, .inl gS)), (qgL, .inl (kI, 14, .inl gL))]) hP hD [0, 1, 2, 3] [4] rfl rfl (by decide) (by decide) hk1 hFc hP1 hD1
  have hP : va_P (dC, dI) vwCl [(qg, .inr (2, [.int gN, .ref qgH, .ref qgS, .ref qgL, .ref qgW, .ref qgU, .ref qgO, .int gD])), (qgH, .inl (kI, 14, .inl gH)), (qgS, .inl (kI, 42, .inl gS)), (qgL, .inl (kI, 14, .inl gL)), (qgU, .inl (kZ, 14, .inl gU))] H_1 := hP.sub (ws' := [(qg, .inr (2, [.int gN, .ref qgH, .ref qgS, .ref qgL, .ref qgW, .ref qgU, .ref qgO, .int gD])), (qgH, .inl (kI, 14, .inl gH)), (qgS, .inl (kI, 42, .inl gS)), (qgL, .inl (kI, 14, .inl gL)), (qgU, .inl (kZ, 14, .inl gU))]) [1, 2, 3, 4, 0] rfl
  have hD : va_D A [(qg, .inr (2, [.int gN, .ref qgH, .ref qgS, .ref qgL, .ref qgW, .ref qgU, .ref qgO, .int gD])), (qgH, .inl (kI, 14, .inl gH)), (qgS, .inl (kI, 42, .inl gS)), (qgL, .inl (kI, 14, .inl gL)), (qgU, .inl (kZ, 14, .inl gU))] := hD.sub (ws' := [(qg, .inr (2, [.int gN, .ref qgH, .ref qgS, .ref qgL, .ref qgW, .ref qgU, .ref qgO, .int gD])), (qgH, .inl (kI, 14, .inl gH)), (qgS, .inl (kI, 42, .inl gS)), (qgL, .inl (kI, 14, .inl gL)), (qgU, .inl (kZ, 14, .inl gU))]) [1, 2, 3, 4, 0] (by decide) rfl
  refine lv_istore_n hx hb d_Grammar_markUseful_4 rfl hl (by decide) rfl (fun ls hl => ?_)
  have hl : lv_has ls 6 [(1, .int r1), (0, .ref qg)] := hl
  refine lv_aload_n hx hb d_Grammar_markUseful_5 rfl (lv_at hl 1 rfl) ?_
  refine va_get (D := (dC, dI)) (ci := 2) (v := .ref qgH) (C := R_Grammar) (T := T_Grammar) (N := 8) hx hb hT hn_Grammar hown hK hP 0 rfl rfl 1 (by decide) (hT _ tb_121) (fun _ h9 => h9) rfl d_Grammar_markUseful_6 ?_
  refine lv_iconst (v := 0) hx hb d_Grammar_markUseful_9 (by decide) ?_
  refine va_iald hx hb hK hP 1 0 rfl rfl h.1 d_Grammar_markUseful_10 ?_
  have h := h.2
  have hPc := hP.sub (ws' := []) [] rfl
  have hDc := hD.sub (ws' := []) [] (by decide) rfl
  have hFc := va_free (wc := []) hD hS hA [] rfl
  refine va_calli (va_runSN (As := [.int (gH (0 : Int32).toNatClampNeg)]) (rest := []) ⟨hx, hb, hml, hown, hts⟩ (c_RT_bitOf l dC dI kI kC kZ kJ kB kS H_1.size (gH (0 : Int32).toNatClampNeg) h) ⟨va_cnB 1 hts (gA tb_310) rfl rfl rfl (nE_308 hN) (hT _ tb_43) (by decide +kernel) ⟨Nat.le_of_ble_eq_true rfl, Nat.le_of_ble_eq_true rfl⟩, (hT _ tb_309), trivial⟩ ⟨fun a U g mk q => by obtain ⟨q0, q1, qP, qK, qD, qN⟩ := q; exact ⟨q0, q1, qP, va_K.moved (u := U) (U := U.calling g mk a) (Vm.Alike.refl U.vm) qK, qD, vNE.same (U := U.calling g mk a) rfl qN⟩, fun U hU hW => ⟨rfl, by rw [hU], by rw [hU]; exact hPc, va_K.moved hW.alike hK, hDc.weaken (fun _ _ _ _ => trivial), vNE.moved hW hN⟩⟩ rfl rfl hl.1 rfl (lv_room (Nat.le_of_ble_eq_true rfl)) d_Grammar_markUseful_11 ⟨Nat.zero_le _, Nat.zero_le _⟩) hS (fun q _ h => hFc q h) hFc (fun r11 u t H_11 locs ht hvm h hB hz1 hk1 hS => ?_)
  obtain ⟨hP1, hK1, hD1⟩ := hB
  rw [ht] at hP1
  try dsimp only at h
  obtain ⟨hP, hD⟩ := va_join (wr := [(qg, .inr (2, [.int gN, .ref qgH, .ref qgS, .ref qgL, .ref qgW, .ref qgU, .ref qgO, .int gD])), (qgH, .inl (kI, 14, .inl gH)), (qgS, .inl (kI, 42, .inl gS)), (qgL, .inl (kI, 14, .inl gL)), (qgU, .inl (kZ, 14, .inl gU))]) (w1 := []) hP hD [] [0, 1, 2, 3, 4] rfl rfl (by decide) (by decide) hk1 hFc hP1 hD1
  have hP : va_P (dC, dI) vwCl [(qg, .inr (2, [.int gN, .ref qgH, .ref qgS, .ref qgL, .ref qgW, .ref qgU, .ref qgO, .int gD])), (qgH, .inl (kI, 14, .inl gH)), (qgS, .inl (kI, 42, .inl gS)), (qgL, .inl (kI, 14, .inl gL)), (qgU, .inl (kZ, 14, .inl gU))] H_11 := hP.sub (ws' := [(qg, .inr (2, [.int gN, .ref qgH, .ref qgS, .ref qgL, .ref qgW, .ref qgU, .ref qgO, .int gD])), (qgH, .inl (kI, 14, .inl gH)), (qgS, .inl (kI, 42, .inl gS)), (qgL, .inl (kI, 14, .inl gL)), (qgU, .inl (kZ, 14, .inl gU))]) [0, 1, 2, 3, 4] rfl
  have hD : va_D A [(qg, .inr (2, [.int gN, .ref qgH, .ref qgS, .ref qgL, .ref qgW, .ref qgU, .ref qgO, .int gD])), (qgH, .inl (kI, 14, .inl gH)), (qgS, .inl (kI, 42, .inl gS)), (qgL, .inl (kI, 14, .inl gL)), (qgU, .inl (kZ, 14, .inl gU))] := hD.sub (ws' := [(qg, .inr (2, [.int gN, .ref qgH, .ref qgS, .ref qgL, .ref qgW, .ref qgU, .ref qgO, .int gD])), (qgH, .inl (kI, 14, .inl gH)), (qgS, .inl (kI, 42, .inl gS)), (qgL, .inl (kI, 14, .inl gL)), (qgU, .inl (kZ, 14, .inl gU))]) [0, 1, 2, 3, 4] (by decide) rfl
  refine lv_istore_n hx hb d_Grammar_markUseful_14 rfl hl (by decide) rfl (fun ls hl => ?_)
  have hl : lv_has ls 6 [(2, .int r11), (1, .int r1), (0, .ref qg)] := hl
  refine lv_iconst (v := 0) hx hb d_Grammar_markUseful_15 (by decide) ?_
  refine lv_istore_n hx hb d_Grammar_markUseful_16 rfl hl (by decide) rfl (fun ls hl => ?_)
  have hl : lv_has ls 6 [(3, .int (0 : Int32)), (2, .int r11), (1, .int r1), (0, .ref qg)] := hl
  obtain ⟨k17, h⟩ := h
  exact L17 r1 r11 k17 (0 : Int32) gU _ _ _ h (lv_sub hl [3, 2, 1, 0] rfl) hP hD hS

def v_Grammar_aloneUnder_L4 (post : Int32 → Prop) (gN : Int32) (gH : Nat → Int32) (gS : Nat → Int32) (gL : Nat → Int32) (gU : Nat → Int32) (x1 : Int32) : Nat → Int32 → Int32 → Prop
  | 0, _, _ => False
  | n4 + 1, x2, x3 =>
    ((gN ≤ x3 → (post x2)) ∧ (¬ gN ≤ x3 → (vp_in x3 14 ∧ (((gU x3.toNatClampNeg) = 0 → ((v_Grammar_aloneUnder_L4 post gN gH gS gL gU x1 n4) x2 (x3 + 1))) ∧ (¬ (gU x3.toNatClampNeg) = 0 → (vp_in x3 14 ∧ (((gH x3.toNatClampNeg) = x1 → (vp_in x3 14 ∧ (((gL x3.toNatClampNeg) = (1 : Int32) → (v_Grammar_lettersIn x3 gS gL (fun r44 => ((v_Grammar_aloneUnder_L4 post gN gH gS gL gU x1 n4) (x2 ||| r44) (x3 + 1))))) ∧ (¬ (gL x3.toNatClampNeg) = (1 : Int32) → ((v_Grammar_aloneUnder_L4 post gN gH gS gL gU x1 n4) x2 (x3 + 1)))))) ∧ (¬ (gH x3.toNatClampNeg) = x1 → ((v_Grammar_aloneUnder_L4 post gN gH gS gL gU x1 n4) x2 (x3 + 1))))))))))
def v_Grammar_aloneUnder (a1 : Int32) (gN : Int32) (gH : Nat → Int32) (gS : Nat → Int32) (gL : Nat → Int32) (gU : Nat → Int32) (post : Int32 → Prop) : Prop :=
  (∃ k4, v_Grammar_aloneUnder_L4 post gN gH gS gL gU a1 k4 (0 : Int32) (0 : Int32))
set_option maxHeartbeats 1000000 in
set_option maxRecDepth 100000 in
theorem c_Grammar_aloneUnder (l : Launch) (dC : Nat → ClassId) (dI : Nat → Nat → Nat) (kI kC kZ kJ kB kS : ClassId) (qg qgH qgS qgL qgW qgU qgO : Nat) (sz : Nat) (gN : Int32) (gD : Int32) (gH : Nat → Int32) (gS : Nat → Int32) (gL : Nat → Int32) (gU : Nat → Int32) (a1 : Int32) {post : Int32 → Prop} (h : v_Grammar_aloneUnder a1 gN gH gS gL gU post) : Met l y_Grammar_aloneUnder w_Grammar_aloneUnder ({ frames := 2, cells := 0, slots := 0, locals := 45 }) (va_Pc [.ref qg, .int a1] (fun U => U.heap.size = sz ∧ va_P (dC, dI) vwCl [(qg, .inr (2, [.int gN, .ref qgH, .ref qgS, .ref qgL, .ref qgW, .ref qgU, .ref qgO, .int gD])), (qgH, .inl (kI, 14, .inl gH)), (qgS, .inl (kI, 42, .inl gS)), (qgL, .inl (kI, 14, .inl gL)), (qgU, .inl (kZ, 14, .inl gU))] U.heap ∧ va_K (dC, dI) vwCl (vTY kI kC kZ kJ kB kS) U ∧ va_D (fun _ => True) [(qg, .inr (2, [.int gN, .ref qgH, .ref qgS, .ref qgL, .ref qgW, .ref qgU, .ref qgO, .int gD])), (qgH, .inl (kI, 14, .inl gH)), (qgS, .inl (kI, 42, .inl gS)), (qgL, .inl (kI, 14, .inl gL)), (qgU, .inl (kZ, 14, .inl gU))] ∧ vNE U)) (va_Qi (fun (r : Int32) (u : Unit) => post r) (fun u t => va_P (dC, dI) vwCl [(qg, .inr (2, [.int gN, .ref qgH, .ref qgS, .ref qgL, .ref qgW, .ref qgU, .ref qgO, .int gD])), (qgH, .inl (kI, 14, .inl gH)), (qgS, .inl (kI, 42, .inl gS)), (qgL, .inl (kI, 14, .inl gL)), (qgU, .inl (kZ, 14, .inl gU))] t.heap ∧ va_K (dC, dI) vwCl (vTY kI kC kZ kJ kB kS) t ∧ va_D (va_A [(qg, .inr (2, [.int gN, .ref qgH, .ref qgS, .ref qgL, .ref qgW, .ref qgU, .ref qgO, .int gD])), (qgH, .inl (kI, 14, .inl gH)), (qgS, .inl (kI, 42, .inl gS)), (qgL, .inl (kI, 14, .inl gL)), (qgU, .inl (kZ, 14, .inl gU))] sz) [(qg, .inr (2, [.int gN, .ref qgH, .ref qgS, .ref qgL, .ref qgW, .ref qgU, .ref qgO, .int gD])), (qgH, .inl (kI, 14, .inl gH)), (qgS, .inl (kI, 42, .inl gS)), (qgL, .inl (kI, 14, .inl gL)), (qgU, .inl (kZ, 14, .inl gU))]) (va_A [(qg, .inr (2, [.int gN, .ref qgH, .ref qgS, .ref qgL, .ref qgW, .ref qgU, .ref qgO, .int gD])), (qgH, .inl (kI, 14, .inl gH)), (qgS, .inl (kI, 42, .inl gS)), (qgL, .inl (kI, 14, .inl gL)), (qgU, .inl (kZ, 14, .inl gU))] sz)) 0 0 (va_A [(qg, .inr (2, [.int gN, .ref qgH, .ref qgS, .ref qgL, .ref qgW, .ref qgU, .ref qgO, .int gD])), (qgH, .inl (kI, 14, .inl gH)), (qgS, .inl (kI, 42, .inl gS)), (qgL, .inl (kI, 14, .inl gL)), (qgU, .inl (kZ, 14, .inl gU))] sz) := by
  refine Met.ofW (cc := b_Grammar_aloneUnder) (maxL := 4) (ret := (some .int)) (by decide) rfl ?_
  intro p e s m args below meth c s₁ B hml hv
  obtain ⟨rfl, hsz, hP, hK, hD0, hN⟩ := hv
  have hx := B.exec
  have hb := B.bytes
  have hr := B.returns
  have hts := atoms_spec (ws := w_Grammar_aloneUnder) B.pre
  have hT : ∀ w ∈ TB, w.before ([.ref qg, .int a1] : List Value).toArray s = true := fun w h => hts w (List.mem_cons_of_mem _ h)
  have hown : s.vm.findClass R_Grammar = some m.cls := findClass_of_methodNamed B.named
  have hlocks := B.notSynchronized
  subst hsz
  have hD := hD0.self (sz := s.heap.size)
  generalize hAe : va_A [(qg, .inr (2, [.int gN, .ref qgH, .ref qgS, .ref qgL, .ref qgW, .ref qgU, .ref qgO, .int gD])), (qgH, .inl (kI, 14, .inl gH)), (qgS, .inl (kI, 42, .inl gS)), (qgL, .inl (kI, 14, .inl gL)), (qgU, .inl (kZ, 14, .inl gU))] s.heap.size = A at hD ⊢
  have hA : ∀ q : Nat, s.heap.size ≤ q → A q := fun q h => by rw [← hAe]; exact Or.inr h
  have hS : va_S A s.heap s.heap [] := va_S.rf
  have L4 : ∀ (x1 : Int32) (n4 : Nat) (x2 : Int32) (x3 : Int32) (ls : Array Slot) (H : Heap) (locs : List Loc), v_Grammar_aloneUnder_L4 post gN gH gS gL gU x1 n4 x2 x3 → lv_has ls 4 [(0, .ref qg), (1, .int x1), (2, .int x2), (3, .int x3)] → va_P (dC, dI) vwCl [(qg, .inr (2, [.int gN, .ref qgH, .ref qgS, .ref qgL, .ref qgW, .ref qgU, .ref qgO, .int gD])), (qgH, .inl (kI, 14, .inl gH)), (qgS, .inl (kI, 42, .inl gS)), (qgL, .inl (kI, 14, .inl gL)), (qgU, .inl (kZ, 14, .inl gU))] H → va_D A [(qg, .inr (2, [.int gN, .ref qgH, .ref qgS, .ref qgL, .ref qgW, .ref qgU, .ref qgO, .int gD])), (qgH, .inl (kI, 14, .inl gH)), (qgS, .inl (kI, 42, .inl gS)), (qgL, .inl (kI, 14, .inl gL)), (qgU, .inl (kZ, 14, .inl gU))] → va_S A s.heap H locs → W p l e (headSpec w_Grammar_aloneUnder { frames := 2, cells := 0, slots := 0, locals := 45 }).room s m ([.ref qg, .int a1] : List Value).toArray below meth c H locs 0 0 (MQ below (va_Qi (fun (r : Int32) (u : Unit) => post r) (fun u t => va_P (dC, dI) vwCl [(qg, .inr (2, [.int gN, .ref qgH, .ref qgS, .ref qgL, .ref qgW, .ref qgU, .ref qgO, .int gD])), (qgH, .inl (kI, 14, .inl gH)), (qgS, .inl (kI, 42, .inl gS)), (qgL, .inl (kI, 14, .inl gL)), (qgU, .inl (kZ, 14, .inl gU))] t.heap ∧ va_K (dC, dI) vwCl (vTY kI kC kZ kJ kB kS) t ∧ va_D (A) [(qg, .inr (2, [.int gN, .ref qgH, .ref qgS, .ref qgL, .ref qgW, .ref qgU, .ref qgO, .int gD])), (qgH, .inl (kI, 14, .inl gH)), (qgS, .inl (kI, 42, .inl gS)), (qgL, .inl (kI, 14, .inl gL)), (qgU, .inl (kZ, 14, .inl gU))]) (A)) ([.ref qg, .int a1] : List Value).toArray s 0 0 A) (F0 m 4 ls []) := by
    intro x1 n4
    induction n4 with
    | zero => intro x2 x3 ls H locs h; exact False.elim h
    | succ n4 ih =>
      intro x2 x3 ls H locs h hl hP hD hS
      unfold v_Grammar_aloneUnder_L4 at h
      refine lv_iload_n hx hb d_Grammar_aloneUnder_4 rfl (lv_at hl 3 rfl) ?_
      refine lv_aload_n hx hb d_Grammar_aloneUnder_5 rfl (lv_at hl 0 rfl) ?_
      refine va_get (D := (dC, dI)) (ci := 2) (v := .int gN) (C := R_Grammar) (T := T_Grammar) (N := 8) hx hb hT hn_Grammar hown hK hP 0 rfl rfl 0 (by decide) (hT _ tb_119) (fun _ h9 => h9) rfl d_Grammar_aloneUnder_6 ?_
      refine lv_icmp_ge hx hb d_Grammar_aloneUnder_9 (tgt := 55) (by decide) (fun hc => ?_) (fun hc => ?_)
      · have h := h.1 hc
        refine lv_iload_n hx hb d_Grammar_aloneUnder_55 rfl (lv_at hl 2 rfl) ?_
        exact W.iret (v := x2) hx hb hr (fun t ht hW => ⟨⟨x2, (), rfl, h, by rw [ht]; exact hP, va_K.moved hW.alike hK, hD⟩, hS.F ht⟩) hS.2.2 d_Grammar_aloneUnder_56
      · have h := h.2 hc
        refine lv_aload_n hx hb d_Grammar_aloneUnder_12 rfl (lv_at hl 0 rfl) ?_
        refine va_get (D := (dC, dI)) (ci := 2) (v := .ref qgU) (C := R_Grammar) (T := T_Grammar) (N := 8) hx hb hT hn_Grammar hown hK hP 0 rfl rfl 5 (by decide) (hT _ tb_134) (fun _ h9 => h9) rfl d_Grammar_aloneUnder_13 ?_
        refine lv_iload_n hx hb d_Grammar_aloneUnder_16 rfl (lv_at hl 3 rfl) ?_
        refine va_zald hx hb hK hP 4 2 rfl rfl h.1 d_Grammar_aloneUnder_17 ?_
        have h := h.2
        refine lv_if_eq hx hb d_Grammar_aloneUnder_18 (tgt := 49) (by decide) (fun hc => ?_) (fun hc => ?_)
        · have h := h.1 hc
          refine lv_iinc (k := 3) (v := (x3 + 1)) hx hb d_Grammar_aloneUnder_49 hl rfl (congrArg (x3 + ·) (by decide)) (by decide) rfl (fun ls hl => ?_)
          have hl : lv_has ls 4 [(3, .int (x3 + 1)), (0, .ref qg), (1, .int x1), (2, .int x2)] := hl
          refine lv_goto hx hb d_Grammar_aloneUnder_52 (tgt := 4) (by decide) ?_
          exact ih x2 (x3 + 1) _ _ _ h (lv_sub hl [1, 2, 3, 0] rfl) hP hD hS
        · have h := h.2 hc
          refine lv_aload_n hx hb d_Grammar_aloneUnder_21 rfl (lv_at hl 0 rfl) ?_
          refine va_get (D := (dC, dI)) (ci := 2) (v := .ref qgH) (C := R_Grammar) (T := T_Grammar) (N := 8) hx hb hT hn_Grammar hown hK hP 0 rfl rfl 1 (by decide) (hT _ tb_121) (fun _ h9 => h9) rfl d_Grammar_aloneUnder_22 ?_
          refine lv_iload_n hx hb d_Grammar_aloneUnder_25 rfl (lv_at hl 3 rfl) ?_
          refine va_iald hx hb hK hP 1 0 rfl rfl h.1 d_Grammar_aloneUnder_26 ?_
          have h := h.2
          refine lv_iload_n hx hb d_Grammar_aloneUnder_27 rfl (lv_at hl 1 rfl) ?_
          refine lv_icmp_ne hx hb d_Grammar_aloneUnder_28 (tgt := 49) (by decide) (fun hc => ?_) (fun hc => ?_)
          · have h := h.2 hc
            refine lv_iinc (k := 3) (v := (x3 + 1)) hx hb d_Grammar_aloneUnder_49 hl rfl (congrArg (x3 + ·) (by decide)) (by decide) rfl (fun ls hl => ?_)
            have hl : lv_has ls 4 [(3, .int (x3 + 1)), (0, .ref qg), (1, .int x1), (2, .int x2)] := hl
            refine lv_goto hx hb d_Grammar_aloneUnder_52 (tgt := 4) (by decide) ?_
            exact ih x2 (x3 + 1) _ _ _ h (lv_sub hl [1, 2, 3, 0] rfl) hP hD hS
          · have h := h.1 hc
            refine lv_aload_n hx hb d_Grammar_aloneUnder_31 rfl (lv_at hl 0 rfl) ?_
            refine va_get (D := (dC, dI)) (ci := 2) (v := .ref qgL) (C := R_Grammar) (T := T_Grammar) (N := 8) hx hb hT hn_Grammar hown hK hP 0 rfl rfl 3 (by decide) (hT _ tb_127) (fun _ h9 => h9) rfl d_Grammar_aloneUnder_32 ?_
            refine lv_iload_n hx hb d_Grammar_aloneUnder_35 rfl (lv_at hl 3 rfl) ?_
            refine va_iald hx hb hK hP 3 0 rfl rfl h.1 d_Grammar_aloneUnder_36 ?_
            have h := h.2
            refine lv_iconst (v := 1) hx hb d_Grammar_aloneUnder_37 (by decide) ?_
            refine lv_icmp_ne hx hb d_Grammar_aloneUnder_38 (tgt := 49) (by decide) (fun hc => ?_) (fun hc => ?_)
            · have h := h.2 hc
              refine lv_iinc (k := 3) (v := (x3 + 1)) hx hb d_Grammar_aloneUnder_49 hl rfl (congrArg (x3 + ·) (by decide)) (by decide) rfl (fun ls hl => ?_)
              have hl : lv_has ls 4 [(3, .int (x3 + 1)), (0, .ref qg), (1, .int x1), (2, .int x2)] := hl
              refine lv_goto hx hb d_Grammar_aloneUnder_52 (tgt := 4) (by decide) ?_
              exact ih x2 (x3 + 1) _ _ _ h (lv_sub hl [1, 2, 3, 0] rfl) hP hD hS
            · have h := h.1 hc
              refine lv_iload_n hx hb d_Grammar_aloneUnder_41 rfl (lv_at hl 2 rfl) ?_
              refine lv_aload_n hx hb d_Grammar_aloneUnder_42 rfl (lv_at hl 0 rfl) ?_
              refine lv_iload_n hx hb d_Grammar_aloneUnder_43 rfl (lv_at hl 3 rfl) ?_
              have hPc := hP.sub (ws' := [(qg, .inr (2, [.int gN, .ref qgH, .ref qgS, .ref qgL, .ref qgW, .ref qgU, .ref qgO, .int gD])), (qgS, .inl (kI, 42, .inl gS)), (qgL, .inl (kI, 14, .inl gL))]) [0, 2, 3] rfl
              have hDc := hD.sub (ws' := [(qg, .inr (2, [.int gN, .ref qgH, .ref qgS, .ref qgL, .ref qgW, .ref qgU, .ref qgO, .int gD])), (qgS, .inl (kI, 42, .inl gS)), (qgL, .inl (kI, 14, .inl gL))]) [0, 2, 3] (by decide) rfl
              have hFc := va_free (wc := [(qg, .inr (2, [.int gN, .ref qgH, .ref qgS, .ref qgL, .ref qgW, .ref qgU, .ref qgO, .int gD])), (qgS, .inl (kI, 42, .inl gS)), (qgL, .inl (kI, 14, .inl gL))]) hD hS hA [0, 2, 3] rfl
              refine va_calli (va_runV (As := [.int x3]) (rest := [.int x2]) ⟨hx, hb, hml, hown, hts⟩ (c_Grammar_lettersIn l dC dI kI kC kZ kJ kB kS qg qgH qgS qgL qgW qgU qgO H.size gN gD gS gL x3 h) ⟨callB_of 1 hts (gA tb_306) rfl rfl rfl (hT _ tb_47) (hT _ tb_303) (by decide +kernel) ⟨Nat.le_of_ble_eq_true rfl, Nat.le_of_ble_eq_true rfl⟩, (hT _ tb_305), (hT _ tb_6)⟩ ⟨fun a U g mk q => by obtain ⟨q0, q1, qP, qK, qD, qN⟩ := q; exact ⟨q0, q1, qP, va_K.moved (u := U) (U := U.calling g mk a) (Vm.Alike.refl U.vm) qK, qD, vNE.same (U := U.calling g mk a) rfl qN⟩, va_recv hK hP rfl (q0 := 0) rfl, fun U hU hW => ⟨rfl, by rw [hU], by rw [hU]; exact hPc, va_K.moved hW.alike hK, hDc.weaken (fun _ _ _ _ => trivial), vNE.moved hW hN⟩⟩ rfl rfl hl.1 rfl (lv_room (Nat.le_of_ble_eq_true rfl)) d_Grammar_aloneUnder_44 ⟨Nat.zero_le _, Nat.zero_le _⟩) hS (fun q _ h => hFc q h) hFc (fun r44 u t H_44 locs ht hvm h hB hz1 hk1 hS => ?_)
              obtain ⟨hP1, hK1, hD1⟩ := hB
              rw [ht] at hP1
              try dsimp only at h
              obtain ⟨hP, hD⟩ := va_join (wr := [(qgH, .inl (kI, 14, .inl gH)), (qgU, .inl (kZ, 14, .inl gU))]) (w1 := [(qg, .inr (2, [.int gN, .ref qgH, .ref qgS, .ref qgL, .ref qgW, .ref qgU, .ref qgO, .int gD])), (qgS, .inl (kI, 42, .inl gS)), (qgL, .inl (kI, 14, .inl gL))]) hP hD [0, 2, 3] [1, 4] rfl rfl (by decide) (by decide) hk1 hFc hP1 hD1
              have hP : va_P (dC, dI) vwCl [(qg, .inr (2, [.int gN, .ref qgH, .ref qgS, .ref qgL, .ref qgW, .ref qgU, .ref qgO, .int gD])), (qgH, .inl (kI, 14, .inl gH)), (qgS, .inl (kI, 42, .inl gS)), (qgL, .inl (kI, 14, .inl gL)), (qgU, .inl (kZ, 14, .inl gU))] H_44 := hP.sub (ws' := [(qg, .inr (2, [.int gN, .ref qgH, .ref qgS, .ref qgL, .ref qgW, .ref qgU, .ref qgO, .int gD])), (qgH, .inl (kI, 14, .inl gH)), (qgS, .inl (kI, 42, .inl gS)), (qgL, .inl (kI, 14, .inl gL)), (qgU, .inl (kZ, 14, .inl gU))]) [2, 0, 3, 4, 1] rfl
              have hD : va_D A [(qg, .inr (2, [.int gN, .ref qgH, .ref qgS, .ref qgL, .ref qgW, .ref qgU, .ref qgO, .int gD])), (qgH, .inl (kI, 14, .inl gH)), (qgS, .inl (kI, 42, .inl gS)), (qgL, .inl (kI, 14, .inl gL)), (qgU, .inl (kZ, 14, .inl gU))] := hD.sub (ws' := [(qg, .inr (2, [.int gN, .ref qgH, .ref qgS, .ref qgL, .ref qgW, .ref qgU, .ref qgO, .int gD])), (qgH, .inl (kI, 14, .inl gH)), (qgS, .inl (kI, 42, .inl gS)), (qgL, .inl (kI, 14, .inl gL)), (qgU, .inl (kZ, 14, .inl gU))]) [2, 0, 3, 4, 1] (by decide) rfl
              refine lv_ior hx hb d_Grammar_aloneUnder_47 ?_
              refine lv_istore_n hx hb d_Grammar_aloneUnder_48 rfl hl (by decide) rfl (fun ls hl => ?_)
              have hl : lv_has ls 4 [(2, .int (x2 ||| r44)), (0, .ref qg), (1, .int x1), (3, .int x3)] := hl
              refine lv_iinc (k := 3) (v := (x3 + 1)) hx hb d_Grammar_aloneUnder_49 hl rfl (congrArg (x3 + ·) (by decide)) (by decide) rfl (fun ls hl => ?_)
              have hl : lv_has ls 4 [(3, .int (x3 + 1)), (2, .int (x2 ||| r44)), (0, .ref qg), (1, .int x1)] := hl
              refine lv_goto hx hb d_Grammar_aloneUnder_52 (tgt := 4) (by decide) ?_
              exact ih (x2 ||| r44) (x3 + 1) _ _ _ h (lv_sub hl [2, 3, 1, 0] rfl) hP hD hS
  have hl := lv_entry ([.ref qg, .int a1]) (n := 4) (Nat.le_of_ble_eq_true rfl)
  rw [lg_entry_eq]
  generalize (lg_sl ([.ref qg, .int a1]) ++ List.replicate (4 - (lg_sl ([.ref qg, .int a1])).length) Slot.unset).toArray = ls at hl ⊢
  have hl : lv_has ls 4 [(0, .ref qg), (1, .int a1)] := hl
  unfold v_Grammar_aloneUnder at h
  refine lv_iconst (v := 0) hx hb d_Grammar_aloneUnder_0 (by decide) ?_
  refine lv_istore_n hx hb d_Grammar_aloneUnder_1 rfl hl (by decide) rfl (fun ls hl => ?_)
  have hl : lv_has ls 4 [(2, .int (0 : Int32)), (0, .ref qg), (1, .int a1)] := hl
  refine lv_iconst (v := 0) hx hb d_Grammar_aloneUnder_2 (by decide) ?_
  refine lv_istore_n hx hb d_Grammar_aloneUnder_3 rfl hl (by decide) rfl (fun ls hl => ?_)
  have hl : lv_has ls 4 [(3, .int (0 : Int32)), (2, .int (0 : Int32)), (0, .ref qg), (1, .int a1)] := hl
  obtain ⟨k4, h⟩ := h
  exact L4 a1 k4 (0 : Int32) (0 : Int32) _ _ _ h (lv_sub hl [2, 3, 1, 0] rfl) hP hD hS

def v_Grammar_appendUseful_L2 (post : Int32 → (Nat → Int32) → Prop) (gN : Int32) (gH : Nat → Int32) (gU : Nat → Int32) (x1 : Int32) : Nat → Int32 → Int32 → (Nat → Int32) → Prop
  | 0, _, _, _ => False
  | n2 + 1, x2, gD, gO =>
    ((gN ≤ x2 → (post gD gO)) ∧ (¬ gN ≤ x2 → (vp_in x2 14 ∧ (((gU x2.toNatClampNeg) = 0 → ((v_Grammar_appendUseful_L2 post gN gH gU x1 n2) (x2 + 1) gD gO)) ∧ (¬ (gU x2.toNatClampNeg) = 0 → (vp_in x2 14 ∧ (((gH x2.toNatClampNeg) = x1 → (((14 : Int32) ≤ gD → ((v_Grammar_appendUseful_L2 post gN gH gU x1 n2) (x2 + 1) gD gO)) ∧ (¬ (14 : Int32) ≤ gD → (vp_in gD 14 ∧ ((v_Grammar_appendUseful_L2 post gN gH gU x1 n2) (x2 + 1) (gD + (1 : Int32)) (upd gO gD.toNatClampNeg x2)))))) ∧ (¬ (gH x2.toNatClampNeg) = x1 → ((v_Grammar_appendUseful_L2 post gN gH gU x1 n2) (x2 + 1) gD gO)))))))))
def v_Grammar_appendUseful (a1 : Int32) (gN : Int32) (gD : Int32) (gH : Nat → Int32) (gU : Nat → Int32) (gO : Nat → Int32) (post : Int32 → (Nat → Int32) → Prop) : Prop :=
  (∃ k2, v_Grammar_appendUseful_L2 post gN gH gU a1 k2 (0 : Int32) gD gO)
set_option maxHeartbeats 1000000 in
set_option maxRecDepth 100000 in
theorem c_Grammar_appendUseful (l : Launch) (dC : Nat → ClassId) (dI : Nat → Nat → Nat) (kI kC kZ kJ kB kS : ClassId) (qg qgH qgS qgL qgW qgU qgO : Nat) (sz : Nat) (gN : Int32) (gD : Int32) (gH : Nat → Int32) (gU : Nat → Int32) (gO : Nat → Int32) (a1 : Int32) {post : Int32 → (Nat → Int32) → Prop} (h : v_Grammar_appendUseful a1 gN gD gH gU gO post) : Met l y_Grammar_appendUseful w_Grammar_appendUseful ({ frames := 0, cells := 0, slots := 0, locals := 0 }) (va_Pc [.ref qg, .int a1] (fun U => U.heap.size = sz ∧ va_P (dC, dI) vwCl [(qg, .inr (2, [.int gN, .ref qgH, .ref qgS, .ref qgL, .ref qgW, .ref qgU, .ref qgO, .int gD])), (qgH, .inl (kI, 14, .inl gH)), (qgU, .inl (kZ, 14, .inl gU)), (qgO, .inl (kI, 14, .inl gO))] U.heap ∧ va_K (dC, dI) vwCl (vTY kI kC kZ kJ kB kS) U ∧ va_D (fun _ => True) [(qg, .inr (2, [.int gN, .ref qgH, .ref qgS, .ref qgL, .ref qgW, .ref qgU, .ref qgO, .int gD])), (qgH, .inl (kI, 14, .inl gH)), (qgU, .inl (kZ, 14, .inl gU)), (qgO, .inl (kI, 14, .inl gO))] ∧ vNE U)) (va_Qv (fun (u : Int32 × (Nat → Int32)) => post u.1 u.2) (fun u t => va_P (dC, dI) vwCl [(qg, .inr (2, [.int gN, .ref qgH, .ref qgS, .ref qgL, .ref qgW, .ref qgU, .ref qgO, .int u.1])), (qgH, .inl (kI, 14, .inl gH)), (qgU, .inl (kZ, 14, .inl gU)), (qgO, .inl (kI, 14, .inl u.2))] t.heap ∧ va_K (dC, dI) vwCl (vTY kI kC kZ kJ kB kS) t ∧ va_D (va_A [(qg, .inr (2, [.int gN, .ref qgH, .ref qgS, .ref qgL, .ref qgW, .ref qgU, .ref qgO, .int gD])), (qgH, .inl (kI, 14, .inl gH)), (qgU, .inl (kZ, 14, .inl gU)), (qgO, .inl (kI, 14, .inl gO))] sz) [(qg, .inr (2, [.int gN, .ref qgH, .ref qgS, .ref qgL, .ref qgW, .ref qgU, .ref qgO, .int u.1])), (qgH, .inl (kI, 14, .inl gH)), (qgU, .inl (kZ, 14, .inl gU)), (qgO, .inl (kI, 14, .inl u.2))]) (va_A [(qg, .inr (2, [.int gN, .ref qgH, .ref qgS, .ref qgL, .ref qgW, .ref qgU, .ref qgO, .int gD])), (qgH, .inl (kI, 14, .inl gH)), (qgU, .inl (kZ, 14, .inl gU)), (qgO, .inl (kI, 14, .inl gO))] sz)) 0 0 (va_A [(qg, .inr (2, [.int gN, .ref qgH, .ref qgS, .ref qgL, .ref qgW, .ref qgU, .ref qgO, .int gD])), (qgH, .inl (kI, 14, .inl gH)), (qgU, .inl (kZ, 14, .inl gU)), (qgO, .inl (kI, 14, .inl gO))] sz) := by
  refine Met.ofW (cc := b_Grammar_appendUseful) (maxL := 3) (ret := none) (by decide) rfl ?_
  intro p e s m args below meth c s₁ B hml hv
  obtain ⟨rfl, hsz, hP, hK, hD0, hN⟩ := hv
  have hx := B.exec
  have hb := B.bytes
  have hr := B.returns
  have hts := atoms_spec (ws := w_Grammar_appendUseful) B.pre
  have hT : ∀ w ∈ TB, w.before ([.ref qg, .int a1] : List Value).toArray s = true := fun w h => hts w (List.mem_cons_of_mem _ h)
  have hown : s.vm.findClass R_Grammar = some m.cls := findClass_of_methodNamed B.named
  have hlocks := B.notSynchronized
  subst hsz
  have hD := hD0.self (sz := s.heap.size)
  generalize hAe : va_A [(qg, .inr (2, [.int gN, .ref qgH, .ref qgS, .ref qgL, .ref qgW, .ref qgU, .ref qgO, .int gD])), (qgH, .inl (kI, 14, .inl gH)), (qgU, .inl (kZ, 14, .inl gU)), (qgO, .inl (kI, 14, .inl gO))] s.heap.size = A at hD ⊢
  have hA : ∀ q : Nat, s.heap.size ≤ q → A q := fun q h => by rw [← hAe]; exact Or.inr h
  have hS : va_S A s.heap s.heap [] := va_S.rf
  have L2 : ∀ (x1 : Int32) (n2 : Nat) (x2 : Int32) (gD : Int32) (gO : Nat → Int32) (ls : Array Slot) (H : Heap) (locs : List Loc), v_Grammar_appendUseful_L2 post gN gH gU x1 n2 x2 gD gO → lv_has ls 3 [(0, .ref qg), (1, .int x1), (2, .int x2)] → va_P (dC, dI) vwCl [(qg, .inr (2, [.int gN, .ref qgH, .ref qgS, .ref qgL, .ref qgW, .ref qgU, .ref qgO, .int gD])), (qgH, .inl (kI, 14, .inl gH)), (qgU, .inl (kZ, 14, .inl gU)), (qgO, .inl (kI, 14, .inl gO))] H → va_D A [(qg, .inr (2, [.int gN, .ref qgH, .ref qgS, .ref qgL, .ref qgW, .ref qgU, .ref qgO, .int gD])), (qgH, .inl (kI, 14, .inl gH)), (qgU, .inl (kZ, 14, .inl gU)), (qgO, .inl (kI, 14, .inl gO))] → va_S A s.heap H locs → W p l e (headSpec w_Grammar_appendUseful { frames := 0, cells := 0, slots := 0, locals := 0 }).room s m ([.ref qg, .int a1] : List Value).toArray below meth c H locs 0 0 (MQ below (va_Qv (fun (u : Int32 × (Nat → Int32)) => post u.1 u.2) (fun u t => va_P (dC, dI) vwCl [(qg, .inr (2, [.int gN, .ref qgH, .ref qgS, .ref qgL, .ref qgW, .ref qgU, .ref qgO, .int u.1])), (qgH, .inl (kI, 14, .inl gH)), (qgU, .inl (kZ, 14, .inl gU)), (qgO, .inl (kI, 14, .inl u.2))] t.heap ∧ va_K (dC, dI) vwCl (vTY kI kC kZ kJ kB kS) t ∧ va_D (A) [(qg, .inr (2, [.int gN, .ref qgH, .ref qgS, .ref qgL, .ref qgW, .ref qgU, .ref qgO, .int u.1])), (qgH, .inl (kI, 14, .inl gH)), (qgU, .inl (kZ, 14, .inl gU)), (qgO, .inl (kI, 14, .inl u.2))]) (A)) ([.ref qg, .int a1] : List Value).toArray s 0 0 A) (F0 m 2 ls []) := by
    intro x1 n2
    induction n2 with
    | zero => intro x2 gD gO ls H locs h; exact False.elim h
    | succ n2 ih =>
      intro x2 gD gO ls H locs h hl hP hD hS
      unfold v_Grammar_appendUseful_L2 at h
      refine lv_iload_n hx hb d_Grammar_appendUseful_2 rfl (lv_at hl 2 rfl) ?_
      refine lv_aload_n hx hb d_Grammar_appendUseful_3 rfl (lv_at hl 0 rfl) ?_
      refine va_get (D := (dC, dI)) (ci := 2) (v := .int gN) (C := R_Grammar) (T := T_Grammar) (N := 8) hx hb hT hn_Grammar hown hK hP 0 rfl rfl 0 (by decide) (hT _ tb_119) (fun _ h9 => h9) rfl d_Grammar_appendUseful_4 ?_
      refine lv_icmp_ge hx hb d_Grammar_appendUseful_7 (tgt := 64) (by decide) (fun hc => ?_) (fun hc => ?_)
      · have h := h.1 hc
        exact W.vret hx hb hr (fun t ht hW => ⟨⟨(gD, gO), rfl, h, by rw [ht]; exact hP, va_K.moved hW.alike hK, hD⟩, hS.F ht⟩) hS.2.2 d_Grammar_appendUseful_64
      · have h := h.2 hc
        refine lv_aload_n hx hb d_Grammar_appendUseful_10 rfl (lv_at hl 0 rfl) ?_
        refine va_get (D := (dC, dI)) (ci := 2) (v := .ref qgU) (C := R_Grammar) (T := T_Grammar) (N := 8) hx hb hT hn_Grammar hown hK hP 0 rfl rfl 5 (by decide) (hT _ tb_134) (fun _ h9 => h9) rfl d_Grammar_appendUseful_11 ?_
        refine lv_iload_n hx hb d_Grammar_appendUseful_14 rfl (lv_at hl 2 rfl) ?_
        refine va_zald hx hb hK hP 2 2 rfl rfl h.1 d_Grammar_appendUseful_15 ?_
        have h := h.2
        refine lv_if_eq hx hb d_Grammar_appendUseful_16 (tgt := 58) (by decide) (fun hc => ?_) (fun hc => ?_)
        · have h := h.1 hc
          refine lv_iinc (k := 2) (v := (x2 + 1)) hx hb d_Grammar_appendUseful_58 hl rfl (congrArg (x2 + ·) (by decide)) (by decide) rfl (fun ls hl => ?_)
          have hl : lv_has ls 3 [(2, .int (x2 + 1)), (0, .ref qg), (1, .int x1)] := hl
          refine lv_goto hx hb d_Grammar_appendUseful_61 (tgt := 2) (by decide) ?_
          exact ih (x2 + 1) gD gO _ _ _ h (lv_sub hl [1, 2, 0] rfl) hP hD hS
        · have h := h.2 hc
          refine lv_aload_n hx hb d_Grammar_appendUseful_19 rfl (lv_at hl 0 rfl) ?_
          refine va_get (D := (dC, dI)) (ci := 2) (v := .ref qgH) (C := R_Grammar) (T := T_Grammar) (N := 8) hx hb hT hn_Grammar hown hK hP 0 rfl rfl 1 (by decide) (hT _ tb_121) (fun _ h9 => h9) rfl d_Grammar_appendUseful_20 ?_
          refine lv_iload_n hx hb d_Grammar_appendUseful_23 rfl (lv_at hl 2 rfl) ?_
          refine va_iald hx hb hK hP 1 0 rfl rfl h.1 d_Grammar_appendUseful_24 ?_
          have h := h.2
          refine lv_iload_n hx hb d_Grammar_appendUseful_25 rfl (lv_at hl 1 rfl) ?_
          refine lv_icmp_ne hx hb d_Grammar_appendUseful_26 (tgt := 58) (by decide) (fun hc => ?_) (fun hc => ?_)
          · have h := h.2 hc
            refine lv_iinc (k := 2) (v := (x2 + 1)) hx hb d_Grammar_appendUseful_58 hl rfl (congrArg (x2 + ·) (by decide)) (by decide) rfl (fun ls hl => ?_)
            have hl : lv_has ls 3 [(2, .int (x2 + 1)), (0, .ref qg), (1, .int x1)] := hl
            refine lv_goto hx hb d_Grammar_appendUseful_61 (tgt := 2) (by decide) ?_
            exact ih (x2 + 1) gD gO _ _ _ h (lv_sub hl [1, 2, 0] rfl) hP hD hS
          · have h := h.1 hc
            refine lv_aload_n hx hb d_Grammar_appendUseful_29 rfl (lv_at hl 0 rfl) ?_
            refine va_get (D := (dC, dI)) (ci := 2) (v := .int gD) (C := R_Grammar) (T := T_Grammar) (N := 8) hx hb hT hn_Grammar hown hK hP 0 rfl rfl 7 (by decide) (hT _ tb_139) (fun _ h9 => h9) rfl d_Grammar_appendUseful_30 ?_
            refine lv_bipush (v := 14) hx hb d_Grammar_appendUseful_33 (by decide) ?_
            refine lv_icmp_ge hx hb d_Grammar_appendUseful_35 (tgt := 58) (by decide) (fun hc => ?_) (fun hc => ?_)
            · have h := h.1 hc
              refine lv_iinc (k := 2) (v := (x2 + 1)) hx hb d_Grammar_appendUseful_58 hl rfl (congrArg (x2 + ·) (by decide)) (by decide) rfl (fun ls hl => ?_)
              have hl : lv_has ls 3 [(2, .int (x2 + 1)), (0, .ref qg), (1, .int x1)] := hl
              refine lv_goto hx hb d_Grammar_appendUseful_61 (tgt := 2) (by decide) ?_
              exact ih (x2 + 1) gD gO _ _ _ h (lv_sub hl [1, 2, 0] rfl) hP hD hS
            · have h := h.2 hc
              refine lv_aload_n hx hb d_Grammar_appendUseful_38 rfl (lv_at hl 0 rfl) ?_
              refine va_get (D := (dC, dI)) (ci := 2) (v := .ref qgO) (C := R_Grammar) (T := T_Grammar) (N := 8) hx hb hT hn_Grammar hown hK hP 0 rfl rfl 6 (by decide) (hT _ tb_136) (fun _ h9 => h9) rfl d_Grammar_appendUseful_39 ?_
              refine lv_aload_n hx hb d_Grammar_appendUseful_42 rfl (lv_at hl 0 rfl) ?_
              refine va_get (D := (dC, dI)) (ci := 2) (v := .int gD) (C := R_Grammar) (T := T_Grammar) (N := 8) hx hb hT hn_Grammar hown hK hP 0 rfl rfl 7 (by decide) (hT _ tb_139) (fun _ h9 => h9) rfl d_Grammar_appendUseful_43 ?_
              refine lv_iload_n hx hb d_Grammar_appendUseful_46 rfl (lv_at hl 2 rfl) ?_
              refine va_iast hx hb hK hP hD hS 3 0 rfl rfl h.1 d_Grammar_appendUseful_47 (fun H_47 locs hP hD hS => ?_)
              have hP : va_P (dC, dI) vwCl [(qg, .inr (2, [.int gN, .ref qgH, .ref qgS, .ref qgL, .ref qgW, .ref qgU, .ref qgO, .int gD])), (qgH, .inl (kI, 14, .inl gH)), (qgU, .inl (kZ, 14, .inl gU)), (qgO, .inl (kI, 14, .inl (upd gO gD.toNatClampNeg x2)))] H_47 := hP
              have hD : va_D A [(qg, .inr (2, [.int gN, .ref qgH, .ref qgS, .ref qgL, .ref qgW, .ref qgU, .ref qgO, .int gD])), (qgH, .inl (kI, 14, .inl gH)), (qgU, .inl (kZ, 14, .inl gU)), (qgO, .inl (kI, 14, .inl (upd gO gD.toNatClampNeg x2)))] := hD
              have h := h.2
              refine lv_aload_n hx hb d_Grammar_appendUseful_48 rfl (lv_at hl 0 rfl) ?_
              refine lv_dup hx hb d_Grammar_appendUseful_49 rfl ?_
              refine va_get (D := (dC, dI)) (ci := 2) (v := .int gD) (C := R_Grammar) (T := T_Grammar) (N := 8) hx hb hT hn_Grammar hown hK hP 0 rfl rfl 7 (by decide) (hT _ tb_139) (fun _ h9 => h9) rfl d_Grammar_appendUseful_50 ?_
              refine lv_iconst (v := 1) hx hb d_Grammar_appendUseful_53 (by decide) ?_
              refine lv_iadd hx hb d_Grammar_appendUseful_54 ?_
              refine va_put (D := (dC, dI)) (ci := 2) (v := .int (gD + (1 : Int32))) (ty := .int) (C := R_Grammar) (T := T_Grammar) (N := 8) hx hb hT hn_Grammar t_Grammar tk_Grammar nk_Grammar hown hK hP hD hS 0 rfl rfl 7 (by decide) (hT _ tb_139) (fun _ h9 => h9) rfl (by decide +kernel) rfl rfl (Nat.le_of_ble_eq_true rfl) d_Grammar_appendUseful_55 (fun H_55 locs hP hD hS => ?_)
              have hP : va_P (dC, dI) vwCl [(qg, .inr (2, [.int gN, .ref qgH, .ref qgS, .ref qgL, .ref qgW, .ref qgU, .ref qgO, .int (gD + (1 : Int32))])), (qgH, .inl (kI, 14, .inl gH)), (qgU, .inl (kZ, 14, .inl gU)), (qgO, .inl (kI, 14, .inl (upd gO gD.toNatClampNeg x2)))] H_55 := hP
              have hD : va_D A [(qg, .inr (2, [.int gN, .ref qgH, .ref qgS, .ref qgL, .ref qgW, .ref qgU, .ref qgO, .int (gD + (1 : Int32))])), (qgH, .inl (kI, 14, .inl gH)), (qgU, .inl (kZ, 14, .inl gU)), (qgO, .inl (kI, 14, .inl (upd gO gD.toNatClampNeg x2)))] := hD
              refine lv_iinc (k := 2) (v := (x2 + 1)) hx hb d_Grammar_appendUseful_58 hl rfl (congrArg (x2 + ·) (by decide)) (by decide) rfl (fun ls hl => ?_)
              have hl : lv_has ls 3 [(2, .int (x2 + 1)), (0, .ref qg), (1, .int x1)] := hl
              refine lv_goto hx hb d_Grammar_appendUseful_61 (tgt := 2) (by decide) ?_
              exact ih (x2 + 1) (gD + (1 : Int32)) (upd gO gD.toNatClampNeg x2) _ _ _ h (lv_sub hl [1, 2, 0] rfl) hP hD hS
  have hl := lv_entry ([.ref qg, .int a1]) (n := 3) (Nat.le_of_ble_eq_true rfl)
  rw [lg_entry_eq]
  generalize (lg_sl ([.ref qg, .int a1]) ++ List.replicate (3 - (lg_sl ([.ref qg, .int a1])).length) Slot.unset).toArray = ls at hl ⊢
  have hl : lv_has ls 3 [(0, .ref qg), (1, .int a1)] := hl
  unfold v_Grammar_appendUseful at h
  refine lv_iconst (v := 0) hx hb d_Grammar_appendUseful_0 (by decide) ?_
  refine lv_istore_n hx hb d_Grammar_appendUseful_1 rfl hl (by decide) rfl (fun ls hl => ?_)
  have hl : lv_has ls 3 [(2, .int (0 : Int32)), (0, .ref qg), (1, .int a1)] := hl
  obtain ⟨k2, h⟩ := h
  exact L2 a1 k2 (0 : Int32) gD gO _ _ _ h (lv_sub hl [1, 2, 0] rfl) hP hD hS

def v_Grammar_orderUseful_L17 (K9 : Int32 → Int32 → Int32 → (Nat → Int32) → Prop) (gN : Int32) (gH : Nat → Int32) (gS : Nat → Int32) (gL : Nat → Int32) (gU : Nat → Int32) (x2 : Int32) : Nat → Int32 → Int32 → Int32 → (Nat → Int32) → Prop
  | 0, _, _, _, _ => False
  | n17 + 1, x1, x3, gD, gO =>
    (((70 : Int32) ≤ x3 → (K9 x1 (x2 + 1) gD gO)) ∧ (¬ (70 : Int32) ≤ x3 → (v_RT_bitOf x3 (fun r25 => (((x1 &&& r25) = 0 → (v_Grammar_aloneUnder x3 gN gH gS gL gU (fun r34 => (((r34 &&& (x1 ^^^ (-1 : Int32))) = 0 → (v_RT_bitOf x3 (fun r46 => (v_Grammar_appendUseful x3 gN gD gH gU gO (fun gD_53 gO_53 => ((v_Grammar_orderUseful_L17 K9 gN gH gS gL gU x2 n17) (x1 ||| r46) (x3 + 1) gD_53 gO_53)))))) ∧ (¬ (r34 &&& (x1 ^^^ (-1 : Int32))) = 0 → ((v_Grammar_orderUseful_L17 K9 gN gH gS gL gU x2 n17) x1 (x3 + 1) gD gO)))))) ∧ (¬ (x1 &&& r25) = 0 → ((v_Grammar_orderUseful_L17 K9 gN gH gS gL gU x2 n17) x1 (x3 + 1) gD gO)))))))
def v_Grammar_orderUseful_L9 (post : Int32 → Int32 → (Nat → Int32) → Prop) (gN : Int32) (gH : Nat → Int32) (gS : Nat → Int32) (gL : Nat → Int32) (gU : Nat → Int32) : Nat → Int32 → Int32 → Int32 → (Nat → Int32) → Prop
  | 0, _, _, _, _ => False
  | n9 + 1, x1, x2, gD, gO =>
    (((5 : Int32) ≤ x2 → ((x1 = (31 : Int32) → (post (1 : Int32) gD gO)) ∧ (¬ x1 = (31 : Int32) → (post (0 : Int32) gD gO)))) ∧ (¬ (5 : Int32) ≤ x2 → (∃ k17, v_Grammar_orderUseful_L17 (v_Grammar_orderUseful_L9 post gN gH gS gL gU n9) gN gH gS gL gU x2 k17 x1 (65 : Int32) gD gO)))
def v_Grammar_orderUseful (gN : Int32) (gD : Int32) (gH : Nat → Int32) (gS : Nat → Int32) (gL : Nat → Int32) (gU : Nat → Int32) (gO : Nat → Int32) (post : Int32 → Int32 → (Nat → Int32) → Prop) : Prop :=
  (∃ k9, v_Grammar_orderUseful_L9 post gN gH gS gL gU k9 (0 : Int32) (0 : Int32) (0 : Int32) gO)
set_option maxHeartbeats 1000000 in
set_option maxRecDepth 100000 in
theorem c_Grammar_orderUseful (l : Launch) (dC : Nat → ClassId) (dI : Nat → Nat → Nat) (kI kC kZ kJ kB kS : ClassId) (qg qgH qgS qgL qgW qgU qgO : Nat) (sz : Nat) (gN : Int32) (gD : Int32) (gH : Nat → Int32) (gS : Nat → Int32) (gL : Nat → Int32) (gU : Nat → Int32) (gO : Nat → Int32) {post : Int32 → Int32 → (Nat → Int32) → Prop} (h : v_Grammar_orderUseful gN gD gH gS gL gU gO post) : Met l y_Grammar_orderUseful w_Grammar_orderUseful ({ frames := 3, cells := 0, slots := 0, locals := 68 }) (va_Pc [.ref qg] (fun U => U.heap.size = sz ∧ va_P (dC, dI) vwCl [(qg, .inr (2, [.int gN, .ref qgH, .ref qgS, .ref qgL, .ref qgW, .ref qgU, .ref qgO, .int gD])), (qgH, .inl (kI, 14, .inl gH)), (qgS, .inl (kI, 42, .inl gS)), (qgL, .inl (kI, 14, .inl gL)), (qgU, .inl (kZ, 14, .inl gU)), (qgO, .inl (kI, 14, .inl gO))] U.heap ∧ va_K (dC, dI) vwCl (vTY kI kC kZ kJ kB kS) U ∧ va_D (fun _ => True) [(qg, .inr (2, [.int gN, .ref qgH, .ref qgS, .ref qgL, .ref qgW, .ref qgU, .ref qgO, .int gD])), (qgH, .inl (kI, 14, .inl gH)), (qgS, .inl (kI, 42, .inl gS)), (qgL, .inl (kI, 14, .inl gL)), (qgU, .inl (kZ, 14, .inl gU)), (qgO, .inl (kI, 14, .inl gO))] ∧ vNE U)) (va_Qi (fun (r : Int32) (u : Int32 × (Nat → Int32)) => post r u.1 u.2) (fun u t => va_P (dC, dI) vwCl [(qg, .inr (2, [.int gN, .ref qgH, .ref qgS, .ref qgL, .ref qgW, .ref qgU, .ref qgO, .int u.1])), (qgH, .inl (kI, 14, .inl gH)), (qgS, .inl (kI, 42, .inl gS)), (qgL, .inl (kI, 14, .inl gL)), (qgU, .inl (kZ, 14, .inl gU)), (qgO, .inl (kI, 14, .inl u.2))] t.heap ∧ va_K (dC, dI) vwCl (vTY kI kC kZ kJ kB kS) t ∧ va_D (va_A [(qg, .inr (2, [.int gN, .ref qgH, .ref qgS, .ref qgL, .ref qgW, .ref qgU, .ref qgO, .int gD])), (qgH, .inl (kI, 14, .inl gH)), (qgS, .inl (kI, 42, .inl gS)), (qgL, .inl (kI, 14, .inl gL)), (qgU, .inl (kZ, 14, .inl gU)), (qgO, .inl (kI, 14, .inl gO))] sz) [(qg, .inr (2, [.int gN, .ref qgH, .ref qgS, .ref qgL, .ref qgW, .ref qgU, .ref qgO, .int u.1])), (qgH, .inl (kI, 14, .inl gH)), (qgS, .inl (kI, 42, .inl gS)), (qgL, .inl (kI, 14, .inl gL)), (qgU, .inl (kZ, 14, .inl gU)), (qgO, .inl (kI, 14, .inl u.2))]) (va_A [(qg, .inr (2, [.int gN, .ref qgH, .ref qgS, .ref qgL, .ref qgW, .ref qgU, .ref qgO, .int gD])), (qgH, .inl (kI, 14, .inl gH)), (qgS, .inl (kI, 42, .inl gS)), (qgL, .inl (kI, 14, .inl gL)), (qgU, .inl (kZ, 14, .inl gU)), (qgO, .inl (kI, 14, .inl gO))] sz)) 0 0 (va_A [(qg, .inr (2, [.int gN, .ref qgH, .ref qgS, .ref qgL, .ref qgW, .ref qgU, .ref qgO, .int gD])), (qgH, .inl (kI, 14, .inl gH)), (qgS, .inl (kI, 42, .inl gS)), (qgL, .inl (kI, 14, .inl gL)), (qgU, .inl (kZ, 14, .inl gU)), (qgO, .inl (kI, 14, .inl gO))] sz) := by
  refine Met.ofW (cc := b_Grammar_orderUseful) (maxL := 4) (ret := (some .boolean)) (by decide) rfl ?_
  intro p e s m args below meth c s₁ B hml hv
  obtain ⟨rfl, hsz, hP, hK, hD0, hN⟩ := hv
  have hx := B.exec
  have hb := B.bytes
  have hr := B.returns
  have hts := atoms_spec (ws := w_Grammar_orderUseful) B.pre
  have hT : ∀ w ∈ TB, w.before ([.ref qg] : List Value).toArray s = true := fun w h => hts w (List.mem_cons_of_mem _ h)
  have hown : s.vm.findClass R_Grammar = some m.cls := findClass_of_methodNamed B.named
  have hlocks := B.notSynchronized
  subst hsz
  have hD := hD0.self (sz := s.heap.size)
  generalize hAe : va_A [(qg, .inr (2, [.int gN, .ref qgH, .ref qgS, .ref qgL, .ref qgW, .ref qgU, .ref qgO, .int gD])), (qgH, .inl (kI, 14, .inl gH)), (qgS, .inl (kI, 42, .inl gS)), (qgL, .inl (kI, 14, .inl gL)), (qgU, .inl (kZ, 14, .inl gU)), (qgO, .inl (kI, 14, .inl gO))] s.heap.size = A at hD ⊢
  have hA : ∀ q : Nat, s.heap.size ≤ q → A q := fun q h => by rw [← hAe]; exact Or.inr h
  have hS : va_S A s.heap s.heap [] := va_S.rf
  have L17 : ∀ (K9 : Int32 → Int32 → Int32 → (Nat → Int32) → Prop) (hK9 : ∀ (x1 : Int32) (x2 : Int32) (gD : Int32) (gO : Nat → Int32) (ls : Array Slot) (H : Heap) (locs : List Loc), K9 x1 x2 gD gO → lv_has ls 4 [(0, .ref qg), (1, .int x1), (2, .int x2)] → va_P (dC, dI) vwCl [(qg, .inr (2, [.int gN, .ref qgH, .ref qgS, .ref qgL, .ref qgW, .ref qgU, .ref qgO, .int gD])), (qgH, .inl (kI, 14, .inl gH)), (qgS, .inl (kI, 42, .inl gS)), (qgL, .inl (kI, 14, .inl gL)), (qgU, .inl (kZ, 14, .inl gU)), (qgO, .inl (kI, 14, .inl gO))] H → va_D A [(qg, .inr (2, [.int gN, .ref qgH, .ref qgS, .ref qgL, .ref qgW, .ref qgU, .ref qgO, .int gD])), (qgH, .inl (kI, 14, .inl gH)), (qgS, .inl (kI, 42, .inl gS)), (qgL, .inl (kI, 14, .inl gL)), (qgU, .inl (kZ, 14, .inl gU)), (qgO, .inl (kI, 14, .inl gO))] → va_S A s.heap H locs → W p l e (headSpec w_Grammar_orderUseful { frames := 3, cells := 0, slots := 0, locals := 68 }).room s m ([.ref qg] : List Value).toArray below meth c H locs 0 0 (MQ below (va_Qi (fun (r : Int32) (u : Int32 × (Nat → Int32)) => post r u.1 u.2) (fun u t => va_P (dC, dI) vwCl [(qg, .inr (2, [.int gN, .ref qgH, .ref qgS, .ref qgL, .ref qgW, .ref qgU, .ref qgO, .int u.1])), (qgH, .inl (kI, 14, .inl gH)), (qgS, .inl (kI, 42, .inl gS)), (qgL, .inl (kI, 14, .inl gL)), (qgU, .inl (kZ, 14, .inl gU)), (qgO, .inl (kI, 14, .inl u.2))] t.heap ∧ va_K (dC, dI) vwCl (vTY kI kC kZ kJ kB kS) t ∧ va_D (A) [(qg, .inr (2, [.int gN, .ref qgH, .ref qgS, .ref qgL, .ref qgW, .ref qgU, .ref qgO, .int u.1])), (qgH, .inl (kI, 14, .inl gH)), (qgS, .inl (kI, 42, .inl gS)), (qgL, .inl (kI, 14, .inl gL)), (qgU, .inl (kZ, 14, .inl gU)), (qgO, .inl (kI, 14, .inl u.2))]) (A)) ([.ref qg] : List Value).toArray s 0 0 A) (F0 m 9 ls [])) (x2 : Int32) (n17 : Nat) (x1 : Int32) (x3 : Int32) (gD : Int32) (gO : Nat → Int32) (ls : Array Slot) (H : Heap) (locs : List Loc), v_Grammar_orderUseful_L17 K9 gN gH gS gL gU x2 n17 x1 x3 gD gO → lv_has ls 4 [(0, .ref qg), (1, .int x1), (2, .int x2), (3, .int x3)] → va_P (dC, dI) vwCl [(qg, .inr (2, [.int gN, .ref qgH, .ref qgS, .ref qgL, .ref qgW, .ref qgU, .ref qgO, .int gD])), (qgH, .inl (kI, 14, .inl gH)), (qgS, .inl (kI, 42, .inl gS)), (qgL, .inl (kI, 14, .inl gL)), (qgU, .inl (kZ, 14, .inl gU)), (qgO, .inl (kI, 14, .inl gO))] H → va_D A [(qg, .inr (2, [.int gN, .ref qgH, .ref qgS, .ref qgL, .ref qgW, .ref qgU, .ref qgO, .int gD])), (qgH, .inl (kI, 14, .inl gH)), (qgS, .inl (kI, 42, .inl gS)), (qgL, .inl (kI, 14, .inl gL)), (qgU, .inl (kZ, 14, .inl gU)), (qgO, .inl (kI, 14, .inl gO))] → va_S A s.heap H locs → W p l e (headSpec w_Grammar_orderUseful { frames := 3, cells := 0, slots := 0, locals := 68 }).room s m ([.ref qg] : List Value).toArray below meth c H locs 0 0 (MQ below (va_Qi (fun (r : Int32) (u : Int32 × (Nat → Int32)) => post r u.1 u.2) (fun u t => va_P (dC, dI) vwCl [(qg, .inr (2, [.int gN, .ref qgH, .ref qgS, .ref qgL, .ref qgW, .ref qgU, .ref qgO, .int u.1])), (qgH, .inl (kI, 14, .inl gH)), (qgS, .inl (kI, 42, .inl gS)), (qgL, .inl (kI, 14, .inl gL)), (qgU, .inl (kZ, 14, .inl gU)), (qgO, .inl (kI, 14, .inl u.2))] t.heap ∧ va_K (dC, dI) vwCl (vTY kI kC kZ kJ kB kS) t ∧ va_D (A) [(qg, .inr (2, [.int gN, .ref qgH, .ref qgS, .ref qgL, .ref qgW, .ref qgU, .ref qgO, .int u.1])), (qgH, .inl (kI, 14, .inl gH)), (qgS, .inl (kI, 42, .inl gS)), (qgL, .inl (kI, 14, .inl gL)), (qgU, .inl (kZ, 14, .inl gU)), (qgO, .inl (kI, 14, .inl u.2))]) (A)) ([.ref qg] : List Value).toArray s 0 0 A) (F0 m 17 ls []) := by
    intro K9 hK9 x2 n17
    induction n17 with
    | zero => intro x1 x3 gD gO ls H locs h; exact False.elim h
    | succ n17 ih =>
      intro x1 x3 gD gO ls H locs h hl hP hD hS
      unfold v_Grammar_orderUseful_L17 at h
      refine lv_iload_n hx hb d_Grammar_orderUseful_17 rfl (lv_at hl 3 rfl) ?_
      refine lv_bipush (v := 70) hx hb d_Grammar_orderUseful_18 (by decide) ?_
      refine lv_icmp_ge hx hb d_Grammar_orderUseful_20 (tgt := 62) (by decide) (fun hc => ?_) (fun hc => ?_)
      · have h := h.1 hc
        refine lv_iinc (k := 2) (v := (x2 + 1)) hx hb d_Grammar_orderUseful_62 hl rfl (congrArg (x2 + ·) (by decide)) (by decide) rfl (fun ls hl => ?_)
        have hl : lv_has ls 4 [(2, .int (x2 + 1)), (0, .ref qg), (1, .int x1), (3, .int x3)] := hl
        refine lv_goto hx hb d_Grammar_orderUseful_65 (tgt := 9) (by decide) ?_
        exact hK9 x1 (x2 + 1) gD gO _ _ _ h (lv_sub hl [1, 2, 0] rfl) hP hD hS
      · have h := h.2 hc
        refine lv_iload_n hx hb d_Grammar_orderUseful_23 rfl (lv_at hl 1 rfl) ?_
        refine lv_iload_n hx hb d_Grammar_orderUseful_24 rfl (lv_at hl 3 rfl) ?_
        have hPc := hP.sub (ws' := []) [] rfl
        have hDc := hD.sub (ws' := []) [] (by decide) rfl
        have hFc := va_free (wc := []) hD hS hA [] rfl
        refine va_calli (va_runSN (As := [.int x3]) (rest := [.int x1]) ⟨hx, hb, hml, hown, hts⟩ (c_RT_bitOf l dC dI kI kC kZ kJ kB kS H.size x3 h) ⟨va_cnB 1 hts (gA tb_310) rfl rfl rfl (nE_308 hN) (hT _ tb_43) (by decide +kernel) ⟨Nat.le_of_ble_eq_true rfl, Nat.le_of_ble_eq_true rfl⟩, (hT _ tb_309), trivial⟩ ⟨fun a U g mk q => by obtain ⟨q0, q1, qP, qK, qD, qN⟩ := q; exact ⟨q0, q1, qP, va_K.moved (u := U) (U := U.calling g mk a) (Vm.Alike.refl U.vm) qK, qD, vNE.same (U := U.calling g mk a) rfl qN⟩, fun U hU hW => ⟨rfl, by rw [hU], by rw [hU]; exact hPc, va_K.moved hW.alike hK, hDc.weaken (fun _ _ _ _ => trivial), vNE.moved hW hN⟩⟩ rfl rfl hl.1 rfl (lv_room (Nat.le_of_ble_eq_true rfl)) d_Grammar_orderUseful_25 ⟨Nat.zero_le _, Nat.zero_le _⟩) hS (fun q _ h => hFc q h) hFc (fun r25 u t H_25 locs ht hvm h hB hz1 hk1 hS => ?_)
        obtain ⟨hP1, hK1, hD1⟩ := hB
        rw [ht] at hP1
        try dsimp only at h
        obtain ⟨hP, hD⟩ := va_join (wr := [(qg, .inr (2, [.int gN, .ref qgH, .ref qgS, .ref qgL, .ref qgW, .ref qgU, .ref qgO, .int gD])), (qgH, .inl (kI, 14, .inl gH)), (qgS, .inl (kI, 42, .inl gS)), (qgL, .inl (kI, 14, .inl gL)), (qgU, .inl (kZ, 14, .inl gU)), (qgO, .inl (kI, 14, .inl gO))]) (w1 := []) hP hD [] [0, 1, 2, 3, 4, 5] rfl rfl (by decide) (by decide) hk1 hFc hP1 hD1
        have hP : va_P (dC, dI) vwCl [(qg, .inr (2, [.int gN, .ref qgH, .ref qgS, .ref qgL, .ref qgW, .ref qgU, .ref qgO, .int gD])), (qgH, .inl (kI, 14, .inl gH)), (qgS, .inl (kI, 42, .inl gS)), (qgL, .inl (kI, 14, .inl gL)), (qgU, .inl (kZ, 14, .inl gU)), (qgO, .inl (kI, 14, .inl gO))] H_25 := hP.sub (ws' := [(qg, .inr (2, [.int gN, .ref qgH, .ref qgS, .ref qgL, .ref qgW, .ref qgU, .ref qgO, .int gD])), (qgH, .inl (kI, 14, .inl gH)), (qgS, .inl (kI, 42, .inl gS)), (qgL, .inl (kI, 14, .inl gL)), (qgU, .inl (kZ, 14, .inl gU)), (qgO, .inl (kI, 14, .inl gO))]) [0, 1, 2, 3, 4, 5] rfl
        have hD : va_D A [(qg, .inr (2, [.int gN, .ref qgH, .ref qgS, .ref qgL, .ref qgW, .ref qgU, .ref qgO, .int gD])), (qgH, .inl (kI, 14, .inl gH)), (qgS, .inl (kI, 42, .inl gS)), (qgL, .inl (kI, 14, .inl gL)), (qgU, .inl (kZ, 14, .inl gU)), (qgO, .inl (kI, 14, .inl gO))] := hD.sub (ws' := [(qg, .inr (2, [.int gN, .ref qgH, .ref qgS, .ref qgL, .ref qgW, .ref qgU, .ref qgO, .int gD])), (qgH, .inl (kI, 14, .inl gH)), (qgS, .inl (kI, 42, .inl gS)), (qgL, .inl (kI, 14, .inl gL)), (qgU, .inl (kZ, 14, .inl gU)), (qgO, .inl (kI, 14, .inl gO))]) [0, 1, 2, 3, 4, 5] (by decide) rfl
        refine lv_iand hx hb d_Grammar_orderUseful_28 ?_
        refine lv_if_ne hx hb d_Grammar_orderUseful_29 (tgt := 56) (by decide) (fun hc => ?_) (fun hc => ?_)
        · have h := h.2 hc
          refine lv_iinc (k := 3) (v := (x3 + 1)) hx hb d_Grammar_orderUseful_56 hl rfl (congrArg (x3 + ·) (by decide)) (by decide) rfl (fun ls hl => ?_)
          have hl : lv_has ls 4 [(3, .int (x3 + 1)), (0, .ref qg), (1, .int x1), (2, .int x2)] := hl
          refine lv_goto hx hb d_Grammar_orderUseful_59 (tgt := 17) (by decide) ?_
          exact ih x1 (x3 + 1) gD gO _ _ _ h (lv_sub hl [1, 2, 3, 0] rfl) hP hD hS
        · have h := h.1 hc
          refine lv_aload_n hx hb d_Grammar_orderUseful_32 rfl (lv_at hl 0 rfl) ?_
          refine lv_iload_n hx hb d_Grammar_orderUseful_33 rfl (lv_at hl 3 rfl) ?_
          have hPc := hP.sub (ws' := [(qg, .inr (2, [.int gN, .ref qgH, .ref qgS, .ref qgL, .ref qgW, .ref qgU, .ref qgO, .int gD])), (qgH, .inl (kI, 14, .inl gH)), (qgS, .inl (kI, 42, .inl gS)), (qgL, .inl (kI, 14, .inl gL)), (qgU, .inl (kZ, 14, .inl gU))]) [0, 1, 2, 3, 4] rfl
          have hDc := hD.sub (ws' := [(qg, .inr (2, [.int gN, .ref qgH, .ref qgS, .ref qgL, .ref qgW, .ref qgU, .ref qgO, .int gD])), (qgH, .inl (kI, 14, .inl gH)), (qgS, .inl (kI, 42, .inl gS)), (qgL, .inl (kI, 14, .inl gL)), (qgU, .inl (kZ, 14, .inl gU))]) [0, 1, 2, 3, 4] (by decide) rfl
          have hFc := va_free (wc := [(qg, .inr (2, [.int gN, .ref qgH, .ref qgS, .ref qgL, .ref qgW, .ref qgU, .ref qgO, .int gD])), (qgH, .inl (kI, 14, .inl gH)), (qgS, .inl (kI, 42, .inl gS)), (qgL, .inl (kI, 14, .inl gL)), (qgU, .inl (kZ, 14, .inl gU))]) hD hS hA [0, 1, 2, 3, 4] rfl
          refine va_calli (va_runV (As := [.int x3]) (rest := []) ⟨hx, hb, hml, hown, hts⟩ (c_Grammar_aloneUnder l dC dI kI kC kZ kJ kB kS qg qgH qgS qgL qgW qgU qgO H_25.size gN gD gH gS gL gU x3 h) ⟨callB_of 1 hts (gA tb_318) rfl rfl rfl (hT _ tb_47) (hT _ tb_315) (by decide +kernel) ⟨Nat.le_of_ble_eq_true rfl, Nat.le_of_ble_eq_true rfl⟩, (hT _ tb_317), (hT _ tb_7)⟩ ⟨fun a U g mk q => by obtain ⟨q0, q1, qP, qK, qD, qN⟩ := q; exact ⟨q0, q1, qP, va_K.moved (u := U) (U := U.calling g mk a) (Vm.Alike.refl U.vm) qK, qD, vNE.same (U := U.calling g mk a) rfl qN⟩, va_recv hK hP rfl (q0 := 0) rfl, fun U hU hW => ⟨rfl, by rw [hU], by rw [hU]; exact hPc, va_K.moved hW.alike hK, hDc.weaken (fun _ _ _ _ => trivial), vNE.moved hW hN⟩⟩ rfl rfl hl.1 rfl (lv_room (Nat.le_of_ble_eq_true rfl)) d_Grammar_orderUseful_34 ⟨Nat.zero_le _, Nat.zero_le _⟩) hS (fun q _ h => hFc q h) hFc (fun r34 u t H_34 locs ht hvm h hB hz1 hk1 hS => ?_)
          obtain ⟨hP1, hK1, hD1⟩ := hB
          rw [ht] at hP1
          try dsimp only at h
          obtain ⟨hP, hD⟩ := va_join (wr := [(qgO, .inl (kI, 14, .inl gO))]) (w1 := [(qg, .inr (2, [.int gN, .ref qgH, .ref qgS, .ref qgL, .ref qgW, .ref qgU, .ref qgO, .int gD])), (qgH, .inl (kI, 14, .inl gH)), (qgS, .inl (kI, 42, .inl gS)), (qgL, .inl (kI, 14, .inl gL)), (qgU, .inl (kZ, 14, .inl gU))]) hP hD [0, 1, 2, 3, 4] [5] rfl rfl (by decide) (by decide) hk1 hFc hP1 hD1
          have hP : va_P (dC, dI) vwCl [(qg, .inr (2, [.int gN, .ref qgH, .ref qgS, .ref qgL, .ref qgW, .ref qgU, .ref qgO, .int gD])), (qgH, .inl (kI, 14, .inl gH)), (qgS, .inl (kI, 42, .inl gS)), (qgL, .inl (kI, 14, .inl gL)), (qgU, .inl (kZ, 14, .inl gU)), (qgO, .inl (kI, 14, .inl gO))] H_34 := hP.sub (ws' := [(qg, .inr (2, [.int gN, .ref qgH, .ref qgS, .ref qgL, .ref qgW, .ref qgU, .ref qgO, .int gD])), (qgH, .inl (kI, 14, .inl gH)), (qgS, .inl (kI, 42, .inl gS)), (qgL, .inl (kI, 14, .inl gL)), (qgU, .inl (kZ, 14, .inl gU)), (qgO, .inl (kI, 14, .inl gO))]) [1, 2, 3, 4, 5, 0] rfl
          have hD : va_D A [(qg, .inr (2, [.int gN, .ref qgH, .ref qgS, .ref qgL, .ref qgW, .ref qgU, .ref qgO, .int gD])), (qgH, .inl (kI, 14, .inl gH)), (qgS, .inl (kI, 42, .inl gS)), (qgL, .inl (kI, 14, .inl gL)), (qgU, .inl (kZ, 14, .inl gU)), (qgO, .inl (kI, 14, .inl gO))] := hD.sub (ws' := [(qg, .inr (2, [.int gN, .ref qgH, .ref qgS, .ref qgL, .ref qgW, .ref qgU, .ref qgO, .int gD])), (qgH, .inl (kI, 14, .inl gH)), (qgS, .inl (kI, 42, .inl gS)), (qgL, .inl (kI, 14, .inl gL)), (qgU, .inl (kZ, 14, .inl gU)), (qgO, .inl (kI, 14, .inl gO))]) [1, 2, 3, 4, 5, 0] (by decide) rfl
          refine lv_iload_n hx hb d_Grammar_orderUseful_37 rfl (lv_at hl 1 rfl) ?_
          refine lv_iconst (v := -1) hx hb d_Grammar_orderUseful_38 (by decide) ?_
          refine lv_ixor hx hb d_Grammar_orderUseful_39 ?_
          refine lv_iand hx hb d_Grammar_orderUseful_40 ?_
          refine lv_if_ne hx hb d_Grammar_orderUseful_41 (tgt := 56) (by decide) (fun hc => ?_) (fun hc => ?_)
          · have h := h.2 hc
            refine lv_iinc (k := 3) (v := (x3 + 1)) hx hb d_Grammar_orderUseful_56 hl rfl (congrArg (x3 + ·) (by decide)) (by decide) rfl (fun ls hl => ?_)
            have hl : lv_has ls 4 [(3, .int (x3 + 1)), (0, .ref qg), (1, .int x1), (2, .int x2)] := hl
            refine lv_goto hx hb d_Grammar_orderUseful_59 (tgt := 17) (by decide) ?_
            exact ih x1 (x3 + 1) gD gO _ _ _ h (lv_sub hl [1, 2, 3, 0] rfl) hP hD hS
          · have h := h.1 hc
            refine lv_iload_n hx hb d_Grammar_orderUseful_44 rfl (lv_at hl 1 rfl) ?_
            refine lv_iload_n hx hb d_Grammar_orderUseful_45 rfl (lv_at hl 3 rfl) ?_
            have hPc := hP.sub (ws' := []) [] rfl
            have hDc := hD.sub (ws' := []) [] (by decide) rfl
            have hFc := va_free (wc := []) hD hS hA [] rfl
            refine va_calli (va_runSN (As := [.int x3]) (rest := [.int x1]) ⟨hx, hb, hml, hown, hts⟩ (c_RT_bitOf l dC dI kI kC kZ kJ kB kS H_34.size x3 h) ⟨va_cnB 1 hts (gA tb_310) rfl rfl rfl (nE_308 hN) (hT _ tb_43) (by decide +kernel) ⟨Nat.le_of_ble_eq_true rfl, Nat.le_of_ble_eq_true rfl⟩, (hT _ tb_309), trivial⟩ ⟨fun a U g mk q => by obtain ⟨q0, q1, qP, qK, qD, qN⟩ := q; exact ⟨q0, q1, qP, va_K.moved (u := U) (U := U.calling g mk a) (Vm.Alike.refl U.vm) qK, qD, vNE.same (U := U.calling g mk a) rfl qN⟩, fun U hU hW => ⟨rfl, by rw [hU], by rw [hU]; exact hPc, va_K.moved hW.alike hK, hDc.weaken (fun _ _ _ _ => trivial), vNE.moved hW hN⟩⟩ rfl rfl hl.1 rfl (lv_room (Nat.le_of_ble_eq_true rfl)) d_Grammar_orderUseful_46 ⟨Nat.zero_le _, Nat.zero_le _⟩) hS (fun q _ h => hFc q h) hFc (fun r46 u t H_46 locs ht hvm h hB hz1 hk1 hS => ?_)
            obtain ⟨hP1, hK1, hD1⟩ := hB
            rw [ht] at hP1
            try dsimp only at h
            obtain ⟨hP, hD⟩ := va_join (wr := [(qg, .inr (2, [.int gN, .ref qgH, .ref qgS, .ref qgL, .ref qgW, .ref qgU, .ref qgO, .int gD])), (qgH, .inl (kI, 14, .inl gH)), (qgS, .inl (kI, 42, .inl gS)), (qgL, .inl (kI, 14, .inl gL)), (qgU, .inl (kZ, 14, .inl gU)), (qgO, .inl (kI, 14, .inl gO))]) (w1 := []) hP hD [] [0, 1, 2, 3, 4, 5] rfl rfl (by decide) (by decide) hk1 hFc hP1 hD1
            have hP : va_P (dC, dI) vwCl [(qg, .inr (2, [.int gN, .ref qgH, .ref qgS, .ref qgL, .ref qgW, .ref qgU, .ref qgO, .int gD])), (qgH, .inl (kI, 14, .inl gH)), (qgS, .inl (kI, 42, .inl gS)), (qgL, .inl (kI, 14, .inl gL)), (qgU, .inl (kZ, 14, .inl gU)), (qgO, .inl (kI, 14, .inl gO))] H_46 := hP.sub (ws' := [(qg, .inr (2, [.int gN, .ref qgH, .ref qgS, .ref qgL, .ref qgW, .ref qgU, .ref qgO, .int gD])), (qgH, .inl (kI, 14, .inl gH)), (qgS, .inl (kI, 42, .inl gS)), (qgL, .inl (kI, 14, .inl gL)), (qgU, .inl (kZ, 14, .inl gU)), (qgO, .inl (kI, 14, .inl gO))]) [0, 1, 2, 3, 4, 5] rfl
            have hD : va_D A [(qg, .inr (2, [.int gN, .ref qgH, .ref qgS, .ref qgL, .ref qgW, .ref qgU, .ref qgO, .int gD])), (qgH, .inl (kI, 14, .inl gH)), (qgS, .inl (kI, 42, .inl gS)), (qgL, .inl (kI, 14, .inl gL)), (qgU, .inl (kZ, 14, .inl gU)), (qgO, .inl (kI, 14, .inl gO))] := hD.sub (ws' := [(qg, .inr (2, [.int gN, .ref qgH, .ref qgS, .ref qgL, .ref qgW, .ref qgU, .ref qgO, .int gD])), (qgH, .inl (kI, 14, .inl gH)), (qgS, .inl (kI, 42, .inl gS)), (qgL, .inl (kI, 14, .inl gL)), (qgU, .inl (kZ, 14, .inl gU)), (qgO, .inl (kI, 14, .inl gO))]) [0, 1, 2, 3, 4, 5] (by decide) rfl
            refine lv_ior hx hb d_Grammar_orderUseful_49 ?_
            refine lv_istore_n hx hb d_Grammar_orderUseful_50 rfl hl (by decide) rfl (fun ls hl => ?_)
            have hl : lv_has ls 4 [(1, .int (x1 ||| r46)), (0, .ref qg), (2, .int x2), (3, .int x3)] := hl
            refine lv_aload_n hx hb d_Grammar_orderUseful_51 rfl (lv_at hl 1 rfl) ?_
            refine lv_iload_n hx hb d_Grammar_orderUseful_52 rfl (lv_at hl 3 rfl) ?_
            have hPc := hP.sub (ws' := [(qg, .inr (2, [.int gN, .ref qgH, .ref qgS, .ref qgL, .ref qgW, .ref qgU, .ref qgO, .int gD])), (qgH, .inl (kI, 14, .inl gH)), (qgU, .inl (kZ, 14, .inl gU)), (qgO, .inl (kI, 14, .inl gO))]) [0, 1, 4, 5] rfl
            have hDc := hD.sub (ws' := [(qg, .inr (2, [.int gN, .ref qgH, .ref qgS, .ref qgL, .ref qgW, .ref qgU, .ref qgO, .int gD])), (qgH, .inl (kI, 14, .inl gH)), (qgU, .inl (kZ, 14, .inl gU)), (qgO, .inl (kI, 14, .inl gO))]) [0, 1, 4, 5] (by decide) rfl
            have hFc := va_free (wc := [(qg, .inr (2, [.int gN, .ref qgH, .ref qgS, .ref qgL, .ref qgW, .ref qgU, .ref qgO, .int gD])), (qgH, .inl (kI, 14, .inl gH)), (qgU, .inl (kZ, 14, .inl gU)), (qgO, .inl (kI, 14, .inl gO))]) hD hS hA [0, 1, 4, 5] rfl
            refine va_callv (va_runV (As := [.int x3]) (rest := []) ⟨hx, hb, hml, hown, hts⟩ (c_Grammar_appendUseful l dC dI kI kC kZ kJ kB kS qg qgH qgS qgL qgW qgU qgO H_46.size gN gD gH gU gO x3 h) ⟨callB_of 1 hts (gA tb_322) rfl rfl rfl (hT _ tb_47) (hT _ tb_319) (by decide +kernel) ⟨Nat.le_of_ble_eq_true rfl, Nat.le_of_ble_eq_true rfl⟩, (hT _ tb_321), (hT _ tb_8)⟩ ⟨fun a U g mk q => by obtain ⟨q0, q1, qP, qK, qD, qN⟩ := q; exact ⟨q0, q1, qP, va_K.moved (u := U) (U := U.calling g mk a) (Vm.Alike.refl U.vm) qK, qD, vNE.same (U := U.calling g mk a) rfl qN⟩, va_recv hK hP rfl (q0 := 0) rfl, fun U hU hW => ⟨rfl, by rw [hU], by rw [hU]; exact hPc, va_K.moved hW.alike hK, hDc.weaken (fun _ _ _ _ => trivial), vNE.moved hW hN⟩⟩ rfl rfl hl.1 rfl (lv_room (Nat.le_of_ble_eq_true rfl)) d_Grammar_orderUseful_53 ⟨Nat.zero_le _, Nat.zero_le _⟩) hS (fun q _ h => hFc q h) hFc (fun u t H_53 locs ht hvm h hB hz1 hk1 hS => ?_)
            obtain ⟨gD_53, gO_53⟩ := u
            obtain ⟨hP1, hK1, hD1⟩ := hB
            rw [ht] at hP1
            try dsimp only at h
            obtain ⟨hP, hD⟩ := va_join (wr := [(qgS, .inl (kI, 42, .inl gS)), (qgL, .inl (kI, 14, .inl gL))]) (w1 := [(qg, .inr (2, [.int gN, .ref qgH, .ref qgS, .ref qgL, .ref qgW, .ref qgU, .ref qgO, .int gD_53])), (qgH, .inl (kI, 14, .inl gH)), (qgU, .inl (kZ, 14, .inl gU)), (qgO, .inl (kI, 14, .inl gO_53))]) hP hD [0, 1, 4, 5] [2, 3] rfl rfl (by decide) (by decide) hk1 hFc hP1 hD1
            have hP : va_P (dC, dI) vwCl [(qg, .inr (2, [.int gN, .ref qgH, .ref qgS, .ref qgL, .ref qgW, .ref qgU, .ref qgO, .int gD_53])), (qgH, .inl (kI, 14, .inl gH)), (qgS, .inl (kI, 42, .inl gS)), (qgL, .inl (kI, 14, .inl gL)), (qgU, .inl (kZ, 14, .inl gU)), (qgO, .inl (kI, 14, .inl gO_53))] H_53 := hP.sub (ws' := [(qg, .inr (2, [.int gN, .ref qgH, .ref qgS, .ref qgL, .ref qgW, .ref qgU, .ref qgO, .int gD_53])), (qgH, .inl (kI, 14, .inl gH)), (qgS, .inl (kI, 42, .inl gS)), (qgL, .inl (kI, 14, .inl gL)), (qgU, .inl (kZ, 14, .inl gU)), (qgO, .inl (kI, 14, .inl gO_53))]) [2, 3, 0, 1, 4, 5] rfl
            have hD : va_D A [(qg, .inr (2, [.int gN, .ref qgH, .ref qgS, .ref qgL, .ref qgW, .ref qgU, .ref qgO, .int gD_53])), (qgH, .inl (kI, 14, .inl gH)), (qgS, .inl (kI, 42, .inl gS)), (qgL, .inl (kI, 14, .inl gL)), (qgU, .inl (kZ, 14, .inl gU)), (qgO, .inl (kI, 14, .inl gO_53))] := hD.sub (ws' := [(qg, .inr (2, [.int gN, .ref qgH, .ref qgS, .ref qgL, .ref qgW, .ref qgU, .ref qgO, .int gD_53])), (qgH, .inl (kI, 14, .inl gH)), (qgS, .inl (kI, 42, .inl gS)), (qgL, .inl (kI, 14, .inl gL)), (qgU, .inl (kZ, 14, .inl gU)), (qgO, .inl (kI, 14, .inl gO_53))]) [2, 3, 0, 1, 4, 5] (by decide) rfl
            refine lv_iinc (k := 3) (v := (x3 + 1)) hx hb d_Grammar_orderUseful_56 hl rfl (congrArg (x3 + ·) (by decide)) (by decide) rfl (fun ls hl => ?_)
            have hl : lv_has ls 4 [(3, .int (x3 + 1)), (1, .int (x1 ||| r46)), (0, .ref qg), (2, .int x2)] := hl
            refine lv_goto hx hb d_Grammar_orderUseful_59 (tgt := 17) (by decide) ?_
            exact ih (x1 ||| r46) (x3 + 1) gD_53 gO_53 _ _ _ h (lv_sub hl [2, 1, 3, 0] rfl) hP hD hS
  have L9 : ∀ (n9 : Nat) (x1 : Int32) (x2 : Int32) (gD : Int32) (gO : Nat → Int32) (ls : Array Slot) (H : Heap) (locs : List Loc), v_Grammar_orderUseful_L9 post gN gH gS gL gU n9 x1 x2 gD gO → lv_has ls 4 [(0, .ref qg), (1, .int x1), (2, .int x2)] → va_P (dC, dI) vwCl [(qg, .inr (2, [.int gN, .ref qgH, .ref qgS, .ref qgL, .ref qgW, .ref qgU, .ref qgO, .int gD])), (qgH, .inl (kI, 14, .inl gH)), (qgS, .inl (kI, 42, .inl gS)), (qgL, .inl (kI, 14, .inl gL)), (qgU, .inl (kZ, 14, .inl gU)), (qgO, .inl (kI, 14, .inl gO))] H → va_D A [(qg, .inr (2, [.int gN, .ref qgH, .ref qgS, .ref qgL, .ref qgW, .ref qgU, .ref qgO, .int gD])), (qgH, .inl (kI, 14, .inl gH)), (qgS, .inl (kI, 42, .inl gS)), (qgL, .inl (kI, 14, .inl gL)), (qgU, .inl (kZ, 14, .inl gU)), (qgO, .inl (kI, 14, .inl gO))] → va_S A s.heap H locs → W p l e (headSpec w_Grammar_orderUseful { frames := 3, cells := 0, slots := 0, locals := 68 }).room s m ([.ref qg] : List Value).toArray below meth c H locs 0 0 (MQ below (va_Qi (fun (r : Int32) (u : Int32 × (Nat → Int32)) => post r u.1 u.2) (fun u t => va_P (dC, dI) vwCl [(qg, .inr (2, [.int gN, .ref qgH, .ref qgS, .ref qgL, .ref qgW, .ref qgU, .ref qgO, .int u.1])), (qgH, .inl (kI, 14, .inl gH)), (qgS, .inl (kI, 42, .inl gS)), (qgL, .inl (kI, 14, .inl gL)), (qgU, .inl (kZ, 14, .inl gU)), (qgO, .inl (kI, 14, .inl u.2))] t.heap ∧ va_K (dC, dI) vwCl (vTY kI kC kZ kJ kB kS) t ∧ va_D (A) [(qg, .inr (2, [.int gN, .ref qgH, .ref qgS, .ref qgL, .ref qgW, .ref qgU, .ref qgO, .int u.1])), (qgH, .inl (kI, 14, .inl gH)), (qgS, .inl (kI, 42, .inl gS)), (qgL, .inl (kI, 14, .inl gL)), (qgU, .inl (kZ, 14, .inl gU)), (qgO, .inl (kI, 14, .inl u.2))]) (A)) ([.ref qg] : List Value).toArray s 0 0 A) (F0 m 9 ls []) := by
    intro n9
    induction n9 with
    | zero => intro x1 x2 gD gO ls H locs h; exact False.elim h
    | succ n9 ih =>
      intro x1 x2 gD gO ls H locs h hl hP hD hS
      unfold v_Grammar_orderUseful_L9 at h
      refine lv_iload_n hx hb d_Grammar_orderUseful_9 rfl (lv_at hl 2 rfl) ?_
      refine lv_iconst (v := 5) hx hb d_Grammar_orderUseful_10 (by decide) ?_
      refine lv_icmp_ge hx hb d_Grammar_orderUseful_11 (tgt := 68) (by decide) (fun hc => ?_) (fun hc => ?_)
      · have h := h.1 hc
        refine lv_iload_n hx hb d_Grammar_orderUseful_68 rfl (lv_at hl 1 rfl) ?_
        refine lv_bipush (v := 31) hx hb d_Grammar_orderUseful_69 (by decide) ?_
        refine lv_icmp_ne hx hb d_Grammar_orderUseful_71 (tgt := 78) (by decide) (fun hc => ?_) (fun hc => ?_)
        · have h := h.2 hc
          refine lv_iconst (v := 0) hx hb d_Grammar_orderUseful_78 (by decide) ?_
          exact W.zret (ty := .boolean) (v := (0 : Int32)) hx hb hr rfl (fun t ht hW => ⟨⟨(0 : Int32), (gD, gO), rfl, h, by rw [ht]; exact hP, va_K.moved hW.alike hK, hD⟩, hS.F ht⟩) hS.2.2 d_Grammar_orderUseful_79
        · have h := h.1 hc
          refine lv_iconst (v := 1) hx hb d_Grammar_orderUseful_74 (by decide) ?_
          refine lv_goto hx hb d_Grammar_orderUseful_75 (tgt := 79) (by decide) ?_
          exact W.zret (ty := .boolean) (v := (1 : Int32)) hx hb hr rfl (fun t ht hW => ⟨⟨(1 : Int32), (gD, gO), rfl, h, by rw [ht]; exact hP, va_K.moved hW.alike hK, hD⟩, hS.F ht⟩) hS.2.2 d_Grammar_orderUseful_79
      · have h := h.2 hc
        refine lv_bipush (v := 65) hx hb d_Grammar_orderUseful_14 (by decide) ?_
        refine lv_istore_n hx hb d_Grammar_orderUseful_16 rfl hl (by decide) rfl (fun ls hl => ?_)
        have hl : lv_has ls 4 [(3, .int (65 : Int32)), (0, .ref qg), (1, .int x1), (2, .int x2)] := hl
        obtain ⟨k17, h⟩ := h
        exact L17 _ ih x2 k17 x1 (65 : Int32) gD gO _ _ _ h (lv_sub hl [1, 2, 3, 0] rfl) hP hD hS
  have hl := lv_entry ([.ref qg]) (n := 4) (Nat.le_of_ble_eq_true rfl)
  rw [lg_entry_eq]
  generalize (lg_sl ([.ref qg]) ++ List.replicate (4 - (lg_sl ([.ref qg])).length) Slot.unset).toArray = ls at hl ⊢
  have hl : lv_has ls 4 [(0, .ref qg)] := hl
  unfold v_Grammar_orderUseful at h
  refine lv_iconst (v := 0) hx hb d_Grammar_orderUseful_0 (by decide) ?_
  refine lv_istore_n hx hb d_Grammar_orderUseful_1 rfl hl (by decide) rfl (fun ls hl => ?_)
  have hl : lv_has ls 4 [(1, .int (0 : Int32)), (0, .ref qg)] := hl
  refine lv_aload_n hx hb d_Grammar_orderUseful_2 rfl (lv_at hl 1 rfl) ?_
  refine lv_iconst (v := 0) hx hb d_Grammar_orderUseful_3 (by decide) ?_
  refine va_put (D := (dC, dI)) (ci := 2) (v := .int (0 : Int32)) (ty := .int) (C := R_Grammar) (T := T_Grammar) (N := 8) hx hb hT hn_Grammar t_Grammar tk_Grammar nk_Grammar hown hK hP hD hS 0 rfl rfl 7 (by decide) (hT _ tb_139) (fun _ h9 => h9) rfl (by decide +kernel) rfl rfl (Nat.le_of_ble_eq_true rfl) d_Grammar_orderUseful_4 (fun H_4 locs hP hD hS => ?_)
  have hP : va_P (dC, dI) vwCl [(qg, .inr (2, [.int gN, .ref qgH, .ref qgS, .ref qgL, .ref qgW, .ref qgU, .ref qgO, .int (0 : Int32)])), (qgH, .inl (kI, 14, .inl gH)), (qgS, .inl (kI, 42, .inl gS)), (qgL, .inl (kI, 14, .inl gL)), (qgU, .inl (kZ, 14, .inl gU)), (qgO, .inl (kI, 14, .inl gO))] H_4 := hP
  have hD : va_D A [(qg, .inr (2, [.int gN, .ref qgH, .ref qgS, .ref qgL, .ref qgW, .ref qgU, .ref qgO, .int (0 : Int32)])), (qgH, .inl (kI, 14, .inl gH)), (qgS, .inl (kI, 42, .inl gS)), (qgL, .inl (kI, 14, .inl gL)), (qgU, .inl (kZ, 14, .inl gU)), (qgO, .inl (kI, 14, .inl gO))] := hD
  refine lv_iconst (v := 0) hx hb d_Grammar_orderUseful_7 (by decide) ?_
  refine lv_istore_n hx hb d_Grammar_orderUseful_8 rfl hl (by decide) rfl (fun ls hl => ?_)
  have hl : lv_has ls 4 [(2, .int (0 : Int32)), (1, .int (0 : Int32)), (0, .ref qg)] := hl
  obtain ⟨k9, h⟩ := h
  exact L9 k9 (0 : Int32) (0 : Int32) (0 : Int32) gO _ _ _ h (lv_sub hl [2, 1, 0] rfl) hP hD hS
