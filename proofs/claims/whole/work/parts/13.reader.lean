set_option maxHeartbeats 1000000 in
set_option maxRecDepth 100000 in
theorem c_Reader_init (l : Launch) (dC : Nat → ClassId) (dI : Nat → Nat → Nat) (kI kC kZ kJ kB kS : ClassId) (qr : Nat) (qp1 : Nat) (sz : Nat) : Met l y_Reader_init w_Reader_init ({ frames := 1, cells := 0, slots := 0, locals := 12 }) (va_Pc [.ref qr, .ref qp1] (fun U => U.heap.size = sz ∧ va_P (dC, dI) vwCl [(qr, .inr (3, [.null, .int 0]))] U.heap ∧ va_K (dC, dI) vwCl (vTY kI kC kZ kJ kB kS) U ∧ va_D (fun _ => True) [(qr, .inr (3, [.null, .int 0]))] ∧ vNE U)) (va_Qv (fun (u : Unit) => True) (fun u t => va_P (dC, dI) vwCl [(qr, .inr (3, [.ref qp1, .int 0]))] t.heap ∧ va_K (dC, dI) vwCl (vTY kI kC kZ kJ kB kS) t ∧ va_D (va_A [(qr, .inr (3, [.null, .int 0]))] sz) [(qr, .inr (3, [.ref qp1, .int 0]))]) (va_A [(qr, .inr (3, [.null, .int 0]))] sz)) 0 0 (va_A [(qr, .inr (3, [.null, .int 0]))] sz) := by
  refine Met.ofW (cc := b_Reader_init) (maxL := 2) (ret := none) (by decide) rfl ?_
  intro p e s m args below meth c s₁ B hml hv
  obtain ⟨rfl, hsz, hP, hK, hD0, hN⟩ := hv
  have hx := B.exec
  have hb := B.bytes
  have hr := B.returns
  have hts := atoms_spec (ws := w_Reader_init) B.pre
  have hT : ∀ w ∈ TB, w.before ([.ref qr, .ref qp1] : List Value).toArray s = true := fun w h => hts w (List.mem_cons_of_mem _ h)
  have hown : s.vm.findClass R_Reader = some m.cls := findClass_of_methodNamed B.named
  have hlocks := B.notSynchronized
  have hin : meth.name = "<init>" := (name_of_methodNamed B.named B.method).1
  subst hsz
  have hD := hD0.self (sz := s.heap.size)
  generalize hAe : va_A [(qr, .inr (3, [.null, .int 0]))] s.heap.size = A at hD ⊢
  have hA : ∀ q : Nat, s.heap.size ≤ q → A q := fun q h => by rw [← hAe]; exact Or.inr h
  have hS : va_S A s.heap s.heap [] := va_S.rf
  have hl := lv_entry ([.ref qr, .ref qp1]) (n := 2) (Nat.le_of_ble_eq_true rfl)
  rw [lg_entry_eq]
  generalize (lg_sl ([.ref qr, .ref qp1]) ++ List.replicate (2 - (lg_sl ([.ref qr, .ref qp1])).length) Slot.unset).toArray = ls at hl ⊢
  have hl : lv_has ls 2 [(0, .ref qr), (1, .ref qp1)] := hl
  refine lv_aload_n hx hb d_Reader_init_0 rfl (lv_at hl 0 rfl) ?_
  refine W.objInit hx hb hown (hT _ tb_88) (hT _ tb_64) (hT _ tb_65) rfl (by rw [hml]; exact hl.1) rfl d_Reader_init_1 (Nat.le_of_ble_eq_true rfl) (Nat.le_of_ble_eq_true rfl) ?_
  refine W.eq (g2 := F0 m 4 ls []) rfl ?_
  refine lv_aload_n hx hb d_Reader_init_4 rfl (lv_at hl 0 rfl) ?_
  refine lv_aload_n hx hb d_Reader_init_5 rfl (lv_at hl 1 rfl) ?_
  refine va_putF (D := (dC, dI)) (ci := 3) (v := .ref qp1) (ty := .object "RankedTrees$Text") (C := R_Reader) (T := T_Reader) (N := 2) hx hb hT hn_Reader t_Reader tk_Reader nk_Reader hown hK hP hD hS 0 rfl rfl 0 (by decide) (hT _ tb_89) (fun _ h9 => h9) rfl hin rfl (by decide +kernel) rfl rfl (Nat.le_of_ble_eq_true rfl) d_Reader_init_6 (fun H6 locs hP hD hS => ?_)
  have hP : va_P (dC, dI) vwCl [(qr, .inr (3, [.ref qp1, .int 0]))] H6 := hP
  have hD : va_D A [(qr, .inr (3, [.ref qp1, .int 0]))] := hD
  exact W.vret hx hb hr (fun t ht hW => ⟨⟨(), rfl, trivial, by rw [ht]; exact hP, va_K.moved hW.alike hK, hD⟩, hS.F ht⟩) hS.2.2 d_Reader_init_9

def v_Reader_peek (rP : Int32) (tL : Int32) (tC : Nat → Int32) (post : Int32 → Prop) : Prop :=
  ((tL ≤ rP → (post (0 : Int32))) ∧ (¬ tL ≤ rP → (vp_in rP 240 ∧ (post (tC rP.toNatClampNeg)))))
set_option maxHeartbeats 1000000 in
set_option maxRecDepth 100000 in
theorem c_Reader_peek (l : Launch) (dC : Nat → ClassId) (dI : Nat → Nat → Nat) (kI kC kZ kJ kB kS : ClassId) (qr qt qtC : Nat) (sz : Nat) (rP : Int32) (tL : Int32) (tC : Nat → Int32) {post : Int32 → Prop} (h : v_Reader_peek rP tL tC post) : Met l y_Reader_peek w_Reader_peek ({ frames := 0, cells := 0, slots := 0, locals := 0 }) (va_Pc [.ref qr] (fun U => U.heap.size = sz ∧ va_P (dC, dI) vwCl [(qr, .inr (3, [.ref qt, .int rP])), (qt, .inr (5, [.ref qtC, .int tL])), (qtC, .inl (kC, 240, .inl tC))] U.heap ∧ va_K (dC, dI) vwCl (vTY kI kC kZ kJ kB kS) U ∧ va_D (fun _ => True) [(qr, .inr (3, [.ref qt, .int rP])), (qt, .inr (5, [.ref qtC, .int tL])), (qtC, .inl (kC, 240, .inl tC))] ∧ vNE U)) (va_Qi (fun (r : Int32) (u : Unit) => post r) (fun u t => va_P (dC, dI) vwCl [(qr, .inr (3, [.ref qt, .int rP])), (qt, .inr (5, [.ref qtC, .int tL])), (qtC, .inl (kC, 240, .inl tC))] t.heap ∧ va_K (dC, dI) vwCl (vTY kI kC kZ kJ kB kS) t ∧ va_D (va_A [(qr, .inr (3, [.ref qt, .int rP])), (qt, .inr (5, [.ref qtC, .int tL])), (qtC, .inl (kC, 240, .inl tC))] sz) [(qr, .inr (3, [.ref qt, .int rP])), (qt, .inr (5, [.ref qtC, .int tL])), (qtC, .inl (kC, 240, .inl tC))]) (va_A [(qr, .inr (3, [.ref qt, .int rP])), (qt, .inr (5, [.ref qtC, .int tL])), (qtC, .inl (kC, 240, .inl tC))] sz)) 0 0 (va_A [(qr, .inr (3, [.ref qt, .int rP])), (qt, .inr (5, [.ref qtC, .int tL])), (qtC, .inl (kC, 240, .inl tC))] sz) := by
  refine Met.ofW (cc := b_Reader_peek) (maxL := 1) (ret := (some .int)) (by decide) rfl ?_
  intro p e s m args below meth c s₁ B hml hv
  obtain ⟨rfl, hsz, hP, hK, hD0, hN⟩ := hv
  have hx := B.exec
  have hb := B.bytes
  have hr := B.returns
  have hts := atoms_spec (ws := w_Reader_peek) B.pre
  have hT : ∀ w ∈ TB, w.before ([.ref qr] : List Value).toArray s = true := fun w h => hts w (List.mem_cons_of_mem _ h)
  have hown : s.vm.findClass R_Reader = some m.cls := findClass_of_methodNamed B.named
  have hlocks := B.notSynchronized
  subst hsz
  have hD := hD0.self (sz := s.heap.size)
  generalize hAe : va_A [(qr, .inr (3, [.ref qt, .int rP])), (qt, .inr (5, [.ref qtC, .int tL])), (qtC, .inl (kC, 240, .inl tC))] s.heap.size = A at hD ⊢
  have hA : ∀ q : Nat, s.heap.size ≤ q → A q := fun q h => by rw [← hAe]; exact Or.inr h
  have hS : va_S A s.heap s.heap [] := va_S.rf
  have hl := lv_entry ([.ref qr]) (n := 1) (Nat.le_of_ble_eq_true rfl)
  rw [lg_entry_eq]
  generalize (lg_sl ([.ref qr]) ++ List.replicate (1 - (lg_sl ([.ref qr])).length) Slot.unset).toArray = ls at hl ⊢
  have hl : lv_has ls 1 [(0, .ref qr)] := hl
  unfold v_Reader_peek at h
  refine lv_aload_n hx hb d_Reader_peek_0 rfl (lv_at hl 0 rfl) ?_
  refine va_get (D := (dC, dI)) (ci := 3) (v := .int rP) (C := R_Reader) (T := T_Reader) (N := 2) hx hb hT hn_Reader hown hK hP 0 rfl rfl 1 (by decide) (hT _ tb_90) (fun _ h9 => h9) rfl d_Reader_peek_1 ?_
  refine lv_aload_n hx hb d_Reader_peek_4 rfl (lv_at hl 0 rfl) ?_
  refine va_get (D := (dC, dI)) (ci := 3) (v := .ref qt) (C := R_Reader) (T := T_Reader) (N := 2) hx hb hT hn_Reader hown hK hP 0 rfl rfl 0 (by decide) (hT _ tb_89) (fun _ h9 => h9) rfl d_Reader_peek_5 ?_
  refine va_get (D := (dC, dI)) (ci := 5) (v := .int tL) (C := R_Text) (T := T_Text) (N := 2) hx hb hT hn_Text hown hK hP 1 rfl rfl 1 (by decide) (hT _ tb_75) (fun _ h9 => h9) rfl d_Reader_peek_8 ?_
  refine lv_icmp_ge hx hb d_Reader_peek_11 (tgt := 29) (by decide) (fun hc => ?_) (fun hc => ?_)
  · have h := h.1 hc
    refine lv_iconst (v := 0) hx hb d_Reader_peek_29 (by decide) ?_
    exact W.iret (v := (0 : Int32)) hx hb hr (fun t ht hW => ⟨⟨(0 : Int32), (), rfl, h, by rw [ht]; exact hP, va_K.moved hW.alike hK, hD⟩, hS.F ht⟩) hS.2.2 d_Reader_peek_30
  · have h := h.2 hc
    refine lv_aload_n hx hb d_Reader_peek_14 rfl (lv_at hl 0 rfl) ?_
    refine va_get (D := (dC, dI)) (ci := 3) (v := .ref qt) (C := R_Reader) (T := T_Reader) (N := 2) hx hb hT hn_Reader hown hK hP 0 rfl rfl 0 (by decide) (hT _ tb_89) (fun _ h9 => h9) rfl d_Reader_peek_15 ?_
    refine va_get (D := (dC, dI)) (ci := 5) (v := .ref qtC) (C := R_Text) (T := T_Text) (N := 2) hx hb hT hn_Text hown hK hP 1 rfl rfl 0 (by decide) (hT _ tb_73) (fun _ h9 => h9) rfl d_Reader_peek_18 ?_
    refine lv_aload_n hx hb d_Reader_peek_21 rfl (lv_at hl 0 rfl) ?_
    refine va_get (D := (dC, dI)) (ci := 3) (v := .int rP) (C := R_Reader) (T := T_Reader) (N := 2) hx hb hT hn_Reader hown hK hP 0 rfl rfl 1 (by decide) (hT _ tb_90) (fun _ h9 => h9) rfl d_Reader_peek_22 ?_
    refine va_cald hx hb hK hP 2 1 rfl rfl h.1 d_Reader_peek_25 ?_
    have h := h.2
    refine lv_goto hx hb d_Reader_peek_26 (tgt := 30) (by decide) ?_
    exact W.iret (v := (tC rP.toNatClampNeg)) hx hb hr (fun t ht hW => ⟨⟨(tC rP.toNatClampNeg), (), rfl, h, by rw [ht]; exact hP, va_K.moved hW.alike hK, hD⟩, hS.F ht⟩) hS.2.2 d_Reader_peek_30

def v_Reader_take (rP : Int32) (tL : Int32) (tC : Nat → Int32) (post : Int32 → Int32 → Prop) : Prop :=
  (v_Reader_peek rP tL tC (fun r1 => ((tL ≤ rP → (post r1 rP)) ∧ (¬ tL ≤ rP → (post r1 (rP + (1 : Int32)))))))
set_option maxHeartbeats 1000000 in
set_option maxRecDepth 100000 in
theorem c_Reader_take (l : Launch) (dC : Nat → ClassId) (dI : Nat → Nat → Nat) (kI kC kZ kJ kB kS : ClassId) (qr qt qtC : Nat) (sz : Nat) (rP : Int32) (tL : Int32) (tC : Nat → Int32) {post : Int32 → Int32 → Prop} (h : v_Reader_take rP tL tC post) : Met l y_Reader_take w_Reader_take ({ frames := 1, cells := 0, slots := 0, locals := 20 }) (va_Pc [.ref qr] (fun U => U.heap.size = sz ∧ va_P (dC, dI) vwCl [(qr, .inr (3, [.ref qt, .int rP])), (qt, .inr (5, [.ref qtC, .int tL])), (qtC, .inl (kC, 240, .inl tC))] U.heap ∧ va_K (dC, dI) vwCl (vTY kI kC kZ kJ kB kS) U ∧ va_D (fun _ => True) [(qr, .inr (3, [.ref qt, .int rP])), (qt, .inr (5, [.ref qtC, .int tL])), (qtC, .inl (kC, 240, .inl tC))] ∧ vNE U)) (va_Qi (fun (r : Int32) (u : Int32) => post r u) (fun u t => va_P (dC, dI) vwCl [(qr, .inr (3, [.ref qt, .int u])), (qt, .inr (5, [.ref qtC, .int tL])), (qtC, .inl (kC, 240, .inl tC))] t.heap ∧ va_K (dC, dI) vwCl (vTY kI kC kZ kJ kB kS) t ∧ va_D (va_A [(qr, .inr (3, [.ref qt, .int rP])), (qt, .inr (5, [.ref qtC, .int tL])), (qtC, .inl (kC, 240, .inl tC))] sz) [(qr, .inr (3, [.ref qt, .int u])), (qt, .inr (5, [.ref qtC, .int tL])), (qtC, .inl (kC, 240, .inl tC))]) (va_A [(qr, .inr (3, [.ref qt, .int rP])), (qt, .inr (5, [.ref qtC, .int tL])), (qtC, .inl (kC, 240, .inl tC))] sz)) 0 0 (va_A [(qr, .inr (3, [.ref qt, .int rP])), (qt, .inr (5, [.ref qtC, .int tL])), (qtC, .inl (kC, 240, .inl tC))] sz) := by
  refine Met.ofW (cc := b_Reader_take) (maxL := 2) (ret := (some .int)) (by decide) rfl ?_
  intro p e s m args below meth c s₁ B hml hv
  obtain ⟨rfl, hsz, hP, hK, hD0, hN⟩ := hv
  have hx := B.exec
  have hb := B.bytes
  have hr := B.returns
  have hts := atoms_spec (ws := w_Reader_take) B.pre
  have hT : ∀ w ∈ TB, w.before ([.ref qr] : List Value).toArray s = true := fun w h => hts w (List.mem_cons_of_mem _ h)
  have hown : s.vm.findClass R_Reader = some m.cls := findClass_of_methodNamed B.named
  have hlocks := B.notSynchronized
  subst hsz
  have hD := hD0.self (sz := s.heap.size)
  generalize hAe : va_A [(qr, .inr (3, [.ref qt, .int rP])), (qt, .inr (5, [.ref qtC, .int tL])), (qtC, .inl (kC, 240, .inl tC))] s.heap.size = A at hD ⊢
  have hA : ∀ q : Nat, s.heap.size ≤ q → A q := fun q h => by rw [← hAe]; exact Or.inr h
  have hS : va_S A s.heap s.heap [] := va_S.rf
  have hl := lv_entry ([.ref qr]) (n := 2) (Nat.le_of_ble_eq_true rfl)
  rw [lg_entry_eq]
  generalize (lg_sl ([.ref qr]) ++ List.replicate (2 - (lg_sl ([.ref qr])).length) Slot.unset).toArray = ls at hl ⊢
  have hl : lv_has ls 2 [(0, .ref qr)] := hl
  unfold v_Reader_take at h
  refine lv_aload_n hx hb d_Reader_take_0 rfl (lv_at hl 0 rfl) ?_
  have hPc := hP.sub (ws' := [(qr, .inr (3, [.ref qt, .int rP])), (qt, .inr (5, [.ref qtC, .int tL])), (qtC, .inl (kC, 240, .inl tC))]) [0, 1, 2] rfl
  have hDc := hD.sub (ws' := [(qr, .inr (3, [.ref qt, .int rP])), (qt, .inr (5, [.ref qtC, .int tL])), (qtC, .inl (kC, 240, .inl tC))]) [0, 1, 2] (by decide) rfl
  have hFc := va_free (wc := [(qr, .inr (3, [.ref qt, .int rP])), (qt, .inr (5, [.ref qtC, .int tL])), (qtC, .inl (kC, 240, .inl tC))]) hD hS hA [0, 1, 2] rfl
  refine va_calli (va_runV (As := []) (rest := []) ⟨hx, hb, hml, hown, hts⟩ (c_Reader_peek l dC dI kI kC kZ kJ kB kS qr qt qtC s.heap.size rP tL tC h) ⟨callB_of 0 hts (gA tb_269) rfl rfl rfl (hT _ tb_45) (hT _ tb_266) (by decide +kernel) ⟨Nat.le_of_ble_eq_true rfl, Nat.le_of_ble_eq_true rfl⟩, (hT _ tb_268), (hT _ tb_2)⟩ ⟨fun a U g mk q => by obtain ⟨q0, q1, qP, qK, qD, qN⟩ := q; exact ⟨q0, q1, qP, va_K.moved (u := U) (U := U.calling g mk a) (Vm.Alike.refl U.vm) qK, qD, vNE.same (U := U.calling g mk a) rfl qN⟩, va_recv hK hP rfl (q0 := 0) rfl, fun U hU hW => ⟨rfl, by rw [hU], by rw [hU]; exact hPc, va_K.moved hW.alike hK, hDc.weaken (fun _ _ _ _ => trivial), vNE.moved hW hN⟩⟩ rfl rfl hl.1 rfl (lv_room (Nat.le_of_ble_eq_true rfl)) d_Reader_take_1 ⟨Nat.zero_le _, Nat.zero_le _⟩) hS (fun q _ h => hFc q h) hFc (fun r1 u t H_1 locs ht hvm h hB hz1 hk1 hS => ?_)
  obtain ⟨hP1, hK1, hD1⟩ := hB
  rw [ht] at hP1
  try dsimp only at h
  obtain ⟨hP, hD⟩ := va_join (wr := []) (w1 := [(qr, .inr (3, [.ref qt, .int rP])), (qt, .inr (5, [.ref qtC, .int tL])), (qtC, .inl (kC, 240, .inl tC))]) hP hD [0, 1, 2] [] rfl rfl (by decide) (by decide) hk1 hFc hP1 hD1
  have hP : va_P (dC, dI) vwCl [(qr, .inr (3, [.ref qt, .int rP])), (qt, .inr (5, [.ref qtC, .int tL])), (qtC, .inl (kC, 240, .inl tC))] H_1 := hP.sub (ws' := [(qr, .inr (3, [.ref qt, .int rP])), (qt, .inr (5, [.ref qtC, .int tL])), (qtC, .inl (kC, 240, .inl tC))]) [0, 1, 2] rfl
  have hD : va_D A [(qr, .inr (3, [.ref qt, .int rP])), (qt, .inr (5, [.ref qtC, .int tL])), (qtC, .inl (kC, 240, .inl tC))] := hD.sub (ws' := [(qr, .inr (3, [.ref qt, .int rP])), (qt, .inr (5, [.ref qtC, .int tL])), (qtC, .inl (kC, 240, .inl tC))]) [0, 1, 2] (by decide) rfl
  refine lv_istore_n hx hb d_Reader_take_4 rfl hl (by decide) rfl (fun ls hl => ?_)
  have hl : lv_has ls 2 [(1, .int r1), (0, .ref qr)] := hl
  refine lv_aload_n hx hb d_Reader_take_5 rfl (lv_at hl 1 rfl) ?_
  refine va_get (D := (dC, dI)) (ci := 3) (v := .int rP) (C := R_Reader) (T := T_Reader) (N := 2) hx hb hT hn_Reader hown hK hP 0 rfl rfl 1 (by decide) (hT _ tb_90) (fun _ h9 => h9) rfl d_Reader_take_6 ?_
  refine lv_aload_n hx hb d_Reader_take_9 rfl (lv_at hl 1 rfl) ?_
  refine va_get (D := (dC, dI)) (ci := 3) (v := .ref qt) (C := R_Reader) (T := T_Reader) (N := 2) hx hb hT hn_Reader hown hK hP 0 rfl rfl 0 (by decide) (hT _ tb_89) (fun _ h9 => h9) rfl d_Reader_take_10 ?_
  refine va_get (D := (dC, dI)) (ci := 5) (v := .int tL) (C := R_Text) (T := T_Text) (N := 2) hx hb hT hn_Text hown hK hP 1 rfl rfl 1 (by decide) (hT _ tb_75) (fun _ h9 => h9) rfl d_Reader_take_13 ?_
  refine lv_icmp_ge hx hb d_Reader_take_16 (tgt := 29) (by decide) (fun hc => ?_) (fun hc => ?_)
  · have h := h.1 hc
    refine lv_iload_n hx hb d_Reader_take_29 rfl (lv_at hl 0 rfl) ?_
    exact W.iret (v := r1) hx hb hr (fun t ht hW => ⟨⟨r1, rP, rfl, h, by rw [ht]; exact hP, va_K.moved hW.alike hK, hD⟩, hS.F ht⟩) hS.2.2 d_Reader_take_30
  · have h := h.2 hc
    refine lv_aload_n hx hb d_Reader_take_19 rfl (lv_at hl 1 rfl) ?_
    refine lv_dup hx hb d_Reader_take_20 rfl ?_
    refine va_get (D := (dC, dI)) (ci := 3) (v := .int rP) (C := R_Reader) (T := T_Reader) (N := 2) hx hb hT hn_Reader hown hK hP 0 rfl rfl 1 (by decide) (hT _ tb_90) (fun _ h9 => h9) rfl d_Reader_take_21 ?_
    refine lv_iconst (v := 1) hx hb d_Reader_take_24 (by decide) ?_
    refine lv_iadd hx hb d_Reader_take_25 ?_
    refine va_put (D := (dC, dI)) (ci := 3) (v := .int (rP + (1 : Int32))) (ty := .int) (C := R_Reader) (T := T_Reader) (N := 2) hx hb hT hn_Reader t_Reader tk_Reader nk_Reader hown hK hP hD hS 0 rfl rfl 1 (by decide) (hT _ tb_90) (fun _ h9 => h9) rfl (by decide +kernel) rfl rfl (Nat.le_of_ble_eq_true rfl) d_Reader_take_26 (fun H_26 locs hP hD hS => ?_)
    have hP : va_P (dC, dI) vwCl [(qr, .inr (3, [.ref qt, .int (rP + (1 : Int32))])), (qt, .inr (5, [.ref qtC, .int tL])), (qtC, .inl (kC, 240, .inl tC))] H_26 := hP
    have hD : va_D A [(qr, .inr (3, [.ref qt, .int (rP + (1 : Int32))])), (qt, .inr (5, [.ref qtC, .int tL])), (qtC, .inl (kC, 240, .inl tC))] := hD
    refine lv_iload_n hx hb d_Reader_take_29 rfl (lv_at hl 0 rfl) ?_
    exact W.iret (v := r1) hx hb hr (fun t ht hW => ⟨⟨r1, (rP + (1 : Int32)), rfl, h, by rw [ht]; exact hP, va_K.moved hW.alike hK, hD⟩, hS.F ht⟩) hS.2.2 d_Reader_take_30

def v_Reader_readBody_L50 (post : Int32 → Int32 → (Nat → Int32) → (Nat → Int32) → Prop) (x2 : Int32) (x3 : Int32) (rP : Int32) (gL : Nat → Int32) : Nat → Int32 → (Nat → Int32) → Prop
  | 0, _, _ => False
  | n50 + 1, x4, gS =>
    (((3 : Int32) ≤ x4 → (vp_in x2 14 ∧ ((x3 ≤ 0 → (post (0 : Int32) rP gS (upd gL x2.toNatClampNeg x3))) ∧ (¬ x3 ≤ 0 → (post (1 : Int32) rP gS (upd gL x2.toNatClampNeg x3)))))) ∧ (¬ (3 : Int32) ≤ x4 → (vp_in ((x2 * (3 : Int32)) + x4) 42 ∧ ((v_Reader_readBody_L50 post x2 x3 rP gL n50) (x4 + 1) (upd gS ((x2 * (3 : Int32)) + x4).toNatClampNeg (0 : Int32))))))
def v_Reader_readBody_B27 (K2 : Int32 → Int32 → (Nat → Int32) → Prop) (tL : Int32) (tC : Nat → Int32) (x2 : Int32) (x3 : Int32) (rP : Int32) (gS : Nat → Int32) : Prop :=
  (v_Reader_take rP tL tC (fun r37 rP_37 => (vp_in ((x2 * (3 : Int32)) + x3) 42 ∧ (K2 (x3 + 1) rP_37 (upd gS ((x2 * (3 : Int32)) + x3).toNatClampNeg r37)))))
def v_Reader_readBody_L2 (post : Int32 → Int32 → (Nat → Int32) → (Nat → Int32) → Prop) (tL : Int32) (tC : Nat → Int32) (x2 : Int32) (gL : Nat → Int32) : Nat → Int32 → Int32 → (Nat → Int32) → Prop
  | 0, _, _, _ => False
  | n2 + 1, x3, rP, gS =>
    (((3 : Int32) ≤ x3 → (∃ k50, v_Reader_readBody_L50 post x2 x3 rP gL k50 x3 gS)) ∧ (¬ (3 : Int32) ≤ x3 → (v_Reader_peek rP tL tC (fun r8 => (v_RT_isLetter r8 (fun r11 => ((r11 = 0 → (v_Reader_peek rP tL tC (fun r18 => (v_RT_isToken r18 (fun r21 => ((r21 = 0 → (∃ k50, v_Reader_readBody_L50 post x2 x3 rP gL k50 x3 gS)) ∧ (¬ r21 = 0 → (v_Reader_readBody_B27 (v_Reader_readBody_L2 post tL tC x2 gL n2) tL tC x2 x3 rP gS)))))))) ∧ (¬ r11 = 0 → (v_Reader_readBody_B27 (v_Reader_readBody_L2 post tL tC x2 gL n2) tL tC x2 x3 rP gS)))))))))
def v_Reader_readBody (a2 : Int32) (rP : Int32) (tL : Int32) (tC : Nat → Int32) (gS : Nat → Int32) (gL : Nat → Int32) (post : Int32 → Int32 → (Nat → Int32) → (Nat → Int32) → Prop) : Prop :=
  (∃ k2, v_Reader_readBody_L2 post tL tC a2 gL k2 (0 : Int32) rP gS)
set_option maxHeartbeats 1000000 in
set_option maxRecDepth 100000 in
theorem c_Reader_readBody (l : Launch) (dC : Nat → ClassId) (dI : Nat → Nat → Nat) (kI kC kZ kJ kB kS : ClassId) (qr qt qtC qg qgH qgS qgL qgW qgU qgO : Nat) (sz : Nat) (rP : Int32) (tL : Int32) (tC : Nat → Int32) (gN : Int32) (gD : Int32) (gS : Nat → Int32) (gL : Nat → Int32) (a2 : Int32) {post : Int32 → Int32 → (Nat → Int32) → (Nat → Int32) → Prop} (h : v_Reader_readBody a2 rP tL tC gS gL post) : Met l y_Reader_readBody w_Reader_readBody ({ frames := 2, cells := 0, slots := 0, locals := 41 }) (va_Pc [.ref qr, .ref qg, .int a2] (fun U => U.heap.size = sz ∧ va_P (dC, dI) vwCl [(qr, .inr (3, [.ref qt, .int rP])), (qt, .inr (5, [.ref qtC, .int tL])), (qtC, .inl (kC, 240, .inl tC)), (qg, .inr (2, [.int gN, .ref qgH, .ref qgS, .ref qgL, .ref qgW, .ref qgU, .ref qgO, .int gD])), (qgS, .inl (kI, 42, .inl gS)), (qgL, .inl (kI, 14, .inl gL))] U.heap ∧ va_K (dC, dI) vwCl (vTY kI kC kZ kJ kB kS) U ∧ va_D (fun _ => True) [(qr, .inr (3, [.ref qt, .int rP])), (qt, .inr (5, [.ref qtC, .int tL])), (qtC, .inl (kC, 240, .inl tC)), (qg, .inr (2, [.int gN, .ref qgH, .ref qgS, .ref qgL, .ref qgW, .ref qgU, .ref qgO, .int gD])), (qgS, .inl (kI, 42, .inl gS)), (qgL, .inl (kI, 14, .inl gL))] ∧ vNE U)) (va_Qi (fun (r : Int32) (u : Int32 × (Nat → Int32) × (Nat → Int32)) => post r u.1 u.2.1 u.2.2) (fun u t => va_P (dC, dI) vwCl [(qr, .inr (3, [.ref qt, .int u.1])), (qt, .inr (5, [.ref qtC, .int tL])), (qtC, .inl (kC, 240, .inl tC)), (qg, .inr (2, [.int gN, .ref qgH, .ref qgS, .ref qgL, .ref qgW, .ref qgU, .ref qgO, .int gD])), (qgS, .inl (kI, 42, .inl u.2.1)), (qgL, .inl (kI, 14, .inl u.2.2))] t.heap ∧ va_K (dC, dI) vwCl (vTY kI kC kZ kJ kB kS) t ∧ va_D (va_A [(qr, .inr (3, [.ref qt, .int rP])), (qt, .inr (5, [.ref qtC, .int tL])), (qtC, .inl (kC, 240, .inl tC)), (qg, .inr (2, [.int gN, .ref qgH, .ref qgS, .ref qgL, .ref qgW, .ref qgU, .ref qgO, .int gD])), (qgS, .inl (kI, 42, .inl gS)), (qgL, .inl (kI, 14, .inl gL))] sz) [(qr, .inr (3, [.ref qt, .int u.1])), (qt, .inr (5, [.ref qtC, .int tL])), (qtC, .inl (kC, 240, .inl tC)), (qg, .inr (2, [.int gN, .ref qgH, .ref qgS, .ref qgL, .ref qgW, .ref qgU, .ref qgO, .int gD])), (qgS, .inl (kI, 42, .inl u.2.1)), (qgL, .inl (kI, 14, .inl u.2.2))]) (va_A [(qr, .inr (3, [.ref qt, .int rP])), (qt, .inr (5, [.ref qtC, .int tL])), (qtC, .inl (kC, 240, .inl tC)), (qg, .inr (2, [.int gN, .ref qgH, .ref qgS, .ref qgL, .ref qgW, .ref qgU, .ref qgO, .int gD])), (qgS, .inl (kI, 42, .inl gS)), (qgL, .inl (kI, 14, .inl gL))] sz)) 0 0 (va_A [(qr, .inr (3, [.ref qt, .int rP])), (qt, .inr (5, [.ref qtC, .int tL])), (qtC, .inl (kC, 240, .inl tC)), (qg, .inr (2, [.int gN, .ref qgH, .ref qgS, .ref qgL, .ref qgW, .ref qgU, .ref qgO, .int gD])), (qgS, .inl (kI, 42, .inl gS)), (qgL, .inl (kI, 14, .inl gL))] sz) := by
  refine Met.ofW (cc := b_Reader_readBody) (maxL := 5) (ret := (some .boolean)) (by decide) rfl ?_
  intro p e s m args below meth c s₁ B hml hv
  obtain ⟨rfl, hsz, hP, hK, hD0, hN⟩ := hv
  have hx := B.exec
  have hb := B.bytes
  have hr := B.returns
  have hts := atoms_spec (ws := w_Reader_readBody) B.pre
  have hT : ∀ w ∈ TB, w.before ([.ref qr, .ref qg, .int a2] : List Value).toArray s = true := fun w h => hts w (List.mem_cons_of_mem _ h)
  have hown : s.vm.findClass R_Reader = some m.cls := findClass_of_methodNamed B.named
  have hlocks := B.notSynchronized
  subst hsz
  have hD := hD0.self (sz := s.heap.size)
  generalize hAe : va_A [(qr, .inr (3, [.ref qt, .int rP])), (qt, .inr (5, [.ref qtC, .int tL])), (qtC, .inl (kC, 240, .inl tC)), (qg, .inr (2, [.int gN, .ref qgH, .ref qgS, .ref qgL, .ref qgW, .ref qgU, .ref qgO, .int gD])), (qgS, .inl (kI, 42, .inl gS)), (qgL, .inl (kI, 14, .inl gL))] s.heap.size = A at hD ⊢
  have hA : ∀ q : Nat, s.heap.size ≤ q → A q := fun q h => by rw [← hAe]; exact Or.inr h
  have hS : va_S A s.heap s.heap [] := va_S.rf
  have L50 : ∀ (x2 : Int32) (x3 : Int32) (rP : Int32) (gL : Nat → Int32) (n50 : Nat) (x4 : Int32) (gS : Nat → Int32) (ls : Array Slot) (H : Heap) (locs : List Loc), v_Reader_readBody_L50 post x2 x3 rP gL n50 x4 gS → lv_has ls 5 [(1, .ref qg), (2, .int x2), (3, .int x3), (4, .int x4)] → va_P (dC, dI) vwCl [(qr, .inr (3, [.ref qt, .int rP])), (qt, .inr (5, [.ref qtC, .int tL])), (qtC, .inl (kC, 240, .inl tC)), (qg, .inr (2, [.int gN, .ref qgH, .ref qgS, .ref qgL, .ref qgW, .ref qgU, .ref qgO, .int gD])), (qgS, .inl (kI, 42, .inl gS)), (qgL, .inl (kI, 14, .inl gL))] H → va_D A [(qr, .inr (3, [.ref qt, .int rP])), (qt, .inr (5, [.ref qtC, .int tL])), (qtC, .inl (kC, 240, .inl tC)), (qg, .inr (2, [.int gN, .ref qgH, .ref qgS, .ref qgL, .ref qgW, .ref qgU, .ref qgO, .int gD])), (qgS, .inl (kI, 42, .inl gS)), (qgL, .inl (kI, 14, .inl gL))] → va_S A s.heap H locs → W p l e (headSpec w_Reader_readBody { frames := 2, cells := 0, slots := 0, locals := 41 }).room s m ([.ref qr, .ref qg, .int a2] : List Value).toArray below meth c H locs 0 0 (MQ below (va_Qi (fun (r : Int32) (u : Int32 × (Nat → Int32) × (Nat → Int32)) => post r u.1 u.2.1 u.2.2) (fun u t => va_P (dC, dI) vwCl [(qr, .inr (3, [.ref qt, .int u.1])), (qt, .inr (5, [.ref qtC, .int tL])), (qtC, .inl (kC, 240, .inl tC)), (qg, .inr (2, [.int gN, .ref qgH, .ref qgS, .ref qgL, .ref qgW, .ref qgU, .ref qgO, .int gD])), (qgS, .inl (kI, 42, .inl u.2.1)), (qgL, .inl (kI, 14, .inl u.2.2))] t.heap ∧ va_K (dC, dI) vwCl (vTY kI kC kZ kJ kB kS) t ∧ va_D (A) [(qr, .inr (3, [.ref qt, .int u.1])), (qt, .inr (5, [.ref qtC, .int tL])), (qtC, .inl (kC, 240, .inl tC)), (qg, .inr (2, [.int gN, .ref qgH, .ref qgS, .ref qgL, .ref qgW, .ref qgU, .ref qgO, .int gD])), (qgS, .inl (kI, 42, .inl u.2.1)), (qgL, .inl (kI, 14, .inl u.2.2))]) (A)) ([.ref qr, .ref qg, .int a2] : List Value).toArray s 0 0 A) (F0 m 50 ls []) := by
    intro x2 x3 rP gL n50
    induction n50 with
    | zero => intro x4 gS ls H locs h; exact False.elim h
    | succ n50 ih =>
      intro x4 gS ls H locs h hl hP hD hS
      unfold v_Reader_readBody_L50 at h
      refine lv_iload hx hb d_Reader_readBody_50 (lv_at hl 3 rfl) ?_
      refine lv_iconst (v := 3) hx hb d_Reader_readBody_52 (by decide) ?_
      refine lv_icmp_ge hx hb d_Reader_readBody_53 (tgt := 74) (by decide) (fun hc => ?_) (fun hc => ?_)
      · have h := h.1 hc
        refine lv_aload_n hx hb d_Reader_readBody_74 rfl (lv_at hl 0 rfl) ?_
        refine va_get (D := (dC, dI)) (ci := 2) (v := .ref qgL) (C := R_Grammar) (T := T_Grammar) (N := 8) hx hb hT hn_Grammar hown hK hP 3 rfl rfl 3 (by decide) (hT _ tb_128) (fun _ h9 => h9) rfl d_Reader_readBody_75 ?_
        refine lv_iload_n hx hb d_Reader_readBody_78 rfl (lv_at hl 1 rfl) ?_
        refine lv_iload_n hx hb d_Reader_readBody_79 rfl (lv_at hl 2 rfl) ?_
        refine va_iast hx hb hK hP hD hS 5 0 rfl rfl h.1 d_Reader_readBody_80 (fun H_80 locs hP hD hS => ?_)
        have hP : va_P (dC, dI) vwCl [(qr, .inr (3, [.ref qt, .int rP])), (qt, .inr (5, [.ref qtC, .int tL])), (qtC, .inl (kC, 240, .inl tC)), (qg, .inr (2, [.int gN, .ref qgH, .ref qgS, .ref qgL, .ref qgW, .ref qgU, .ref qgO, .int gD])), (qgS, .inl (kI, 42, .inl gS)), (qgL, .inl (kI, 14, .inl (upd gL x2.toNatClampNeg x3)))] H_80 := hP
        have hD : va_D A [(qr, .inr (3, [.ref qt, .int rP])), (qt, .inr (5, [.ref qtC, .int tL])), (qtC, .inl (kC, 240, .inl tC)), (qg, .inr (2, [.int gN, .ref qgH, .ref qgS, .ref qgL, .ref qgW, .ref qgU, .ref qgO, .int gD])), (qgS, .inl (kI, 42, .inl gS)), (qgL, .inl (kI, 14, .inl (upd gL x2.toNatClampNeg x3)))] := hD
        have h := h.2
        refine lv_iload_n hx hb d_Reader_readBody_81 rfl (lv_at hl 2 rfl) ?_
        refine lv_if_le hx hb d_Reader_readBody_82 (tgt := 89) (by decide) (fun hc => ?_) (fun hc => ?_)
        · have h := h.1 hc
          refine lv_iconst (v := 0) hx hb d_Reader_readBody_89 (by decide) ?_
          exact W.zret (ty := .boolean) (v := (0 : Int32)) hx hb hr rfl (fun t ht hW => ⟨⟨(0 : Int32), (rP, gS, (upd gL x2.toNatClampNeg x3)), rfl, h, by rw [ht]; exact hP, va_K.moved hW.alike hK, hD⟩, hS.F ht⟩) hS.2.2 d_Reader_readBody_90
        · have h := h.2 hc
          refine lv_iconst (v := 1) hx hb d_Reader_readBody_85 (by decide) ?_
          refine lv_goto hx hb d_Reader_readBody_86 (tgt := 90) (by decide) ?_
          exact W.zret (ty := .boolean) (v := (1 : Int32)) hx hb hr rfl (fun t ht hW => ⟨⟨(1 : Int32), (rP, gS, (upd gL x2.toNatClampNeg x3)), rfl, h, by rw [ht]; exact hP, va_K.moved hW.alike hK, hD⟩, hS.F ht⟩) hS.2.2 d_Reader_readBody_90
      · have h := h.2 hc
        refine lv_aload_n hx hb d_Reader_readBody_56 rfl (lv_at hl 0 rfl) ?_
        refine va_get (D := (dC, dI)) (ci := 2) (v := .ref qgS) (C := R_Grammar) (T := T_Grammar) (N := 8) hx hb hT hn_Grammar hown hK hP 3 rfl rfl 2 (by decide) (hT _ tb_126) (fun _ h9 => h9) rfl d_Reader_readBody_57 ?_
        refine lv_iload_n hx hb d_Reader_readBody_60 rfl (lv_at hl 1 rfl) ?_
        refine lv_iconst (v := 3) hx hb d_Reader_readBody_61 (by decide) ?_
        refine lv_imul hx hb d_Reader_readBody_62 ?_
        refine lv_iload hx hb d_Reader_readBody_63 (lv_at hl 3 rfl) ?_
        refine lv_iadd hx hb d_Reader_readBody_65 ?_
        refine lv_iconst (v := 0) hx hb d_Reader_readBody_66 (by decide) ?_
        refine va_iast hx hb hK hP hD hS 4 0 rfl rfl h.1 d_Reader_readBody_67 (fun H_67 locs hP hD hS => ?_)
        have hP : va_P (dC, dI) vwCl [(qr, .inr (3, [.ref qt, .int rP])), (qt, .inr (5, [.ref qtC, .int tL])), (qtC, .inl (kC, 240, .inl tC)), (qg, .inr (2, [.int gN, .ref qgH, .ref qgS, .ref qgL, .ref qgW, .ref qgU, .ref qgO, .int gD])), (qgS, .inl (kI, 42, .inl (upd gS ((x2 * (3 : Int32)) + x4).toNatClampNeg (0 : Int32)))), (qgL, .inl (kI, 14, .inl gL))] H_67 := hP
        have hD : va_D A [(qr, .inr (3, [.ref qt, .int rP])), (qt, .inr (5, [.ref qtC, .int tL])), (qtC, .inl (kC, 240, .inl tC)), (qg, .inr (2, [.int gN, .ref qgH, .ref qgS, .ref qgL, .ref qgW, .ref qgU, .ref qgO, .int gD])), (qgS, .inl (kI, 42, .inl (upd gS ((x2 * (3 : Int32)) + x4).toNatClampNeg (0 : Int32)))), (qgL, .inl (kI, 14, .inl gL))] := hD
        have h := h.2
        refine lv_iinc (k := 3) (v := (x4 + 1)) hx hb d_Reader_readBody_68 hl rfl (congrArg (x4 + ·) (by decide)) (by decide) rfl (fun ls hl => ?_)
        have hl : lv_has ls 5 [(4, .int (x4 + 1)), (1, .ref qg), (2, .int x2), (3, .int x3)] := hl
        refine lv_goto hx hb d_Reader_readBody_71 (tgt := 50) (by decide) ?_
        exact ih (x4 + 1) (upd gS ((x2 * (3 : Int32)) + x4).toNatClampNeg (0 : Int32)) _ _ _ h (lv_sub hl [1, 2, 3, 0] rfl) hP hD hS
  have B27 : ∀ (x2 : Int32) (gL : Nat → Int32) (K2 : Int32 → Int32 → (Nat → Int32) → Prop) (hK2 : ∀ (x3 : Int32) (rP : Int32) (gS : Nat → Int32) (ls : Array Slot) (H : Heap) (locs : List Loc), K2 x3 rP gS → lv_has ls 5 [(0, .ref qr), (1, .ref qg), (2, .int x2), (3, .int x3)] → va_P (dC, dI) vwCl [(qr, .inr (3, [.ref qt, .int rP])), (qt, .inr (5, [.ref qtC, .int tL])), (qtC, .inl (kC, 240, .inl tC)), (qg, .inr (2, [.int gN, .ref qgH, .ref qgS, .ref qgL, .ref qgW, .ref qgU, .ref qgO, .int gD])), (qgS, .inl (kI, 42, .inl gS)), (qgL, .inl (kI, 14, .inl gL))] H → va_D A [(qr, .inr (3, [.ref qt, .int rP])), (qt, .inr (5, [.ref qtC, .int tL])), (qtC, .inl (kC, 240, .inl tC)), (qg, .inr (2, [.int gN, .ref qgH, .ref qgS, .ref qgL, .ref qgW, .ref qgU, .ref qgO, .int gD])), (qgS, .inl (kI, 42, .inl gS)), (qgL, .inl (kI, 14, .inl gL))] → va_S A s.heap H locs → W p l e (headSpec w_Reader_readBody { frames := 2, cells := 0, slots := 0, locals := 41 }).room s m ([.ref qr, .ref qg, .int a2] : List Value).toArray below meth c H locs 0 0 (MQ below (va_Qi (fun (r : Int32) (u : Int32 × (Nat → Int32) × (Nat → Int32)) => post r u.1 u.2.1 u.2.2) (fun u t => va_P (dC, dI) vwCl [(qr, .inr (3, [.ref qt, .int u.1])), (qt, .inr (5, [.ref qtC, .int tL])), (qtC, .inl (kC, 240, .inl tC)), (qg, .inr (2, [.int gN, .ref qgH, .ref qgS, .ref qgL, .ref qgW, .ref qgU, .ref qgO, .int gD])), (qgS, .inl (kI, 42, .inl u.2.1)), (qgL, .inl (kI, 14, .inl u.2.2))] t.heap ∧ va_K (dC, dI) vwCl (vTY kI kC kZ kJ kB kS) t ∧ va_D (A) [(qr, .inr (3, [.ref qt, .int u.1])), (qt, .inr (5, [.ref qtC, .int tL])), (qtC, .inl (kC, 240, .inl tC)), (qg, .inr (2, [.int gN, .ref qgH, .ref qgS, .ref qgL, .ref qgW, .ref qgU, .ref qgO, .int gD])), (qgS, .inl (kI, 42, .inl u.2.1)), (qgL, .inl (kI, 14, .inl u.2.2))]) (A)) ([.ref qr, .ref qg, .int a2] : List Value).toArray s 0 0 A) (F0 m 2 ls [])) (x3 : Int32) (rP : Int32) (gS : Nat → Int32) (ls : Array Slot) (H : Heap) (locs : List Loc), v_Reader_readBody_B27 K2 tL tC x2 x3 rP gS → lv_has ls 5 [(0, .ref qr), (1, .ref qg), (2, .int x2), (3, .int x3)] → va_P (dC, dI) vwCl [(qr, .inr (3, [.ref qt, .int rP])), (qt, .inr (5, [.ref qtC, .int tL])), (qtC, .inl (kC, 240, .inl tC)), (qg, .inr (2, [.int gN, .ref qgH, .ref qgS, .ref qgL, .ref qgW, .ref qgU, .ref qgO, .int gD])), (qgS, .inl (kI, 42, .inl gS)), (qgL, .inl (kI, 14, .inl gL))] H → va_D A [(qr, .inr (3, [.ref qt, .int rP])), (qt, .inr (5, [.ref qtC, .int tL])), (qtC, .inl (kC, 240, .inl tC)), (qg, .inr (2, [.int gN, .ref qgH, .ref qgS, .ref qgL, .ref qgW, .ref qgU, .ref qgO, .int gD])), (qgS, .inl (kI, 42, .inl gS)), (qgL, .inl (kI, 14, .inl gL))] → va_S A s.heap H locs → W p l e (headSpec w_Reader_readBody { frames := 2, cells := 0, slots := 0, locals := 41 }).room s m ([.ref qr, .ref qg, .int a2] : List Value).toArray below meth c H locs 0 0 (MQ below (va_Qi (fun (r : Int32) (u : Int32 × (Nat → Int32) × (Nat → Int32)) => post r u.1 u.2.1 u.2.2) (fun u t => va_P (dC, dI) vwCl [(qr, .inr (3, [.ref qt, .int u.1])), (qt, .inr (5, [.ref qtC, .int tL])), (qtC, .inl (kC, 240, .inl tC)), (qg, .inr (2, [.int gN, .ref qgH, .ref qgS, .ref qgL, .ref qgW, .ref qgU, .ref qgO, .int gD])), (qgS, .inl (kI, 42, .inl u.2.1)), (qgL, .inl (kI, 14, .inl u.2.2))] t.heap ∧ va_K (dC, dI) vwCl (vTY kI kC kZ kJ kB kS) t ∧ va_D (A) [(qr, .inr (3, [.ref qt, .int u.1])), (qt, .inr (5, [.ref qtC, .int tL])), (qtC, .inl (kC, 240, .inl tC)), (qg, .inr (2, [.int gN, .ref qgH, .ref qgS, .ref qgL, .ref qgW, .ref qgU, .ref qgO, .int gD])), (qgS, .inl (kI, 42, .inl u.2.1)), (qgL, .inl (kI, 14, .inl u.2.2))]) (A)) ([.ref qr, .ref qg, .int a2] : List Value).toArray s 0 0 A) (F0 m 27 ls []) := by
    intro x2 gL K2 hK2 x3 rP gS ls H locs h hl hP hD hS
    unfold v_Reader_readBody_B27 at h
    refine lv_aload_n hx hb d_Reader_readBody_27 rfl (lv_at hl 1 rfl) ?_
    refine va_get (D := (dC, dI)) (ci := 2) (v := .ref qgS) (C := R_Grammar) (T := T_Grammar) (N := 8) hx hb hT hn_Grammar hown hK hP 3 rfl rfl 2 (by decide) (hT _ tb_126) (fun _ h9 => h9) rfl d_Reader_readBody_28 ?_
    refine lv_iload_n hx hb d_Reader_readBody_31 rfl (lv_at hl 2 rfl) ?_
    refine lv_iconst (v := 3) hx hb d_Reader_readBody_32 (by decide) ?_
    refine lv_imul hx hb d_Reader_readBody_33 ?_
    refine lv_iload_n hx hb d_Reader_readBody_34 rfl (lv_at hl 3 rfl) ?_
    refine lv_iadd hx hb d_Reader_readBody_35 ?_
    refine lv_aload_n hx hb d_Reader_readBody_36 rfl (lv_at hl 0 rfl) ?_
    have hPc := hP.sub (ws' := [(qr, .inr (3, [.ref qt, .int rP])), (qt, .inr (5, [.ref qtC, .int tL])), (qtC, .inl (kC, 240, .inl tC))]) [0, 1, 2] rfl
    have hDc := hD.sub (ws' := [(qr, .inr (3, [.ref qt, .int rP])), (qt, .inr (5, [.ref qtC, .int tL])), (qtC, .inl (kC, 240, .inl tC))]) [0, 1, 2] (by decide) rfl
    have hFc := va_free (wc := [(qr, .inr (3, [.ref qt, .int rP])), (qt, .inr (5, [.ref qtC, .int tL])), (qtC, .inl (kC, 240, .inl tC))]) hD hS hA [0, 1, 2] rfl
    refine va_calli (va_runV (As := []) (rest := [.int ((x2 * (3 : Int32)) + x3), .ref qgS]) ⟨hx, hb, hml, hown, hts⟩ (c_Reader_take l dC dI kI kC kZ kJ kB kS qr qt qtC H.size rP tL tC h) ⟨callB_of 0 hts (gA tb_265) rfl rfl rfl (hT _ tb_45) (hT _ tb_262) (by decide +kernel) ⟨Nat.le_of_ble_eq_true rfl, Nat.le_of_ble_eq_true rfl⟩, (hT _ tb_264), (hT _ tb_1)⟩ ⟨fun a U g mk q => by obtain ⟨q0, q1, qP, qK, qD, qN⟩ := q; exact ⟨q0, q1, qP, va_K.moved (u := U) (U := U.calling g mk a) (Vm.Alike.refl U.vm) qK, qD, vNE.same (U := U.calling g mk a) rfl qN⟩, va_recv hK hP rfl (q0 := 0) rfl, fun U hU hW => ⟨rfl, by rw [hU], by rw [hU]; exact hPc, va_K.moved hW.alike hK, hDc.weaken (fun _ _ _ _ => trivial), vNE.moved hW hN⟩⟩ rfl rfl hl.1 rfl (lv_room (Nat.le_of_ble_eq_true rfl)) d_Reader_readBody_37 ⟨Nat.zero_le _, Nat.zero_le _⟩) hS (fun q _ h => hFc q h) hFc (fun r37 u t H_37 locs ht hvm h hB hz1 hk1 hS => ?_)
    obtain ⟨rP_37, rfl⟩ : ∃ z, z = u := ⟨_, rfl⟩
    obtain ⟨hP1, hK1, hD1⟩ := hB
    rw [ht] at hP1
    try dsimp only at h
    obtain ⟨hP, hD⟩ := va_join (wr := [(qg, .inr (2, [.int gN, .ref qgH, .ref qgS, .ref qgL, .ref qgW, .ref qgU, .ref qgO, .int gD])), (qgS, .inl (kI, 42, .inl gS)), (qgL, .inl (kI, 14, .inl gL))]) (w1 := [(qr, .inr (3, [.ref qt, .int rP_37])), (qt, .inr (5, [.ref qtC, .int tL])), (qtC, .inl (kC, 240, .inl tC))]) hP hD [0, 1, 2] [3, 4, 5] rfl rfl (by decide) (by decide) hk1 hFc hP1 hD1
    have hP : va_P (dC, dI) vwCl [(qr, .inr (3, [.ref qt, .int rP_37])), (qt, .inr (5, [.ref qtC, .int tL])), (qtC, .inl (kC, 240, .inl tC)), (qg, .inr (2, [.int gN, .ref qgH, .ref qgS, .ref qgL, .ref qgW, .ref qgU, .ref qgO, .int gD])), (qgS, .inl (kI, 42, .inl gS)), (qgL, .inl (kI, 14, .inl gL))] H_37 := hP.sub (ws' := [(qr, .inr (3, [.ref qt, .int rP_37])), (qt, .inr (5, [.ref qtC, .int tL])), (qtC, .inl (kC, 240, .inl tC)), (qg, .inr (2, [.int gN, .ref qgH, .ref qgS, .ref qgL, .ref qgW, .ref qgU, .ref qgO, .int gD])), (qgS, .inl (kI, 42, .inl gS)), (qgL, .inl (kI, 14, .inl gL))]) [3, 4, 5, 0, 1, 2] rfl
    have hD : va_D A [(qr, .inr (3, [.ref qt, .int rP_37])), (qt, .inr (5, [.ref qtC, .int tL])), (qtC, .inl (kC, 240, .inl tC)), (qg, .inr (2, [.int gN, .ref qgH, .ref qgS, .ref qgL, .ref qgW, .ref qgU, .ref qgO, .int gD])), (qgS, .inl (kI, 42, .inl gS)), (qgL, .inl (kI, 14, .inl gL))] := hD.sub (ws' := [(qr, .inr (3, [.ref qt, .int rP_37])), (qt, .inr (5, [.ref qtC, .int tL])), (qtC, .inl (kC, 240, .inl tC)), (qg, .inr (2, [.int gN, .ref qgH, .ref qgS, .ref qgL, .ref qgW, .ref qgU, .ref qgO, .int gD])), (qgS, .inl (kI, 42, .inl gS)), (qgL, .inl (kI, 14, .inl gL))]) [3, 4, 5, 0, 1, 2] (by decide) rfl
    refine va_iast hx hb hK hP hD hS 4 0 rfl rfl h.1 d_Reader_readBody_40 (fun H_40 locs hP hD hS => ?_)
    have hP : va_P (dC, dI) vwCl [(qr, .inr (3, [.ref qt, .int rP_37])), (qt, .inr (5, [.ref qtC, .int tL])), (qtC, .inl (kC, 240, .inl tC)), (qg, .inr (2, [.int gN, .ref qgH, .ref qgS, .ref qgL, .ref qgW, .ref qgU, .ref qgO, .int gD])), (qgS, .inl (kI, 42, .inl (upd gS ((x2 * (3 : Int32)) + x3).toNatClampNeg r37))), (qgL, .inl (kI, 14, .inl gL))] H_40 := hP
    have hD : va_D A [(qr, .inr (3, [.ref qt, .int rP_37])), (qt, .inr (5, [.ref qtC, .int tL])), (qtC, .inl (kC, 240, .inl tC)), (qg, .inr (2, [.int gN, .ref qgH, .ref qgS, .ref qgL, .ref qgW, .ref qgU, .ref qgO, .int gD])), (qgS, .inl (kI, 42, .inl (upd gS ((x2 * (3 : Int32)) + x3).toNatClampNeg r37))), (qgL, .inl (kI, 14, .inl gL))] := hD
    have h := h.2
    refine lv_iinc (k := 3) (v := (x3 + 1)) hx hb d_Reader_readBody_41 hl rfl (congrArg (x3 + ·) (by decide)) (by decide) rfl (fun ls hl => ?_)
    have hl : lv_has ls 5 [(3, .int (x3 + 1)), (0, .ref qr), (1, .ref qg), (2, .int x2)] := hl
    refine lv_goto hx hb d_Reader_readBody_44 (tgt := 2) (by decide) ?_
    exact hK2 (x3 + 1) rP_37 (upd gS ((x2 * (3 : Int32)) + x3).toNatClampNeg r37) _ _ _ h (lv_sub hl [1, 2, 3, 0] rfl) hP hD hS
  have L2 : ∀ (x2 : Int32) (gL : Nat → Int32) (n2 : Nat) (x3 : Int32) (rP : Int32) (gS : Nat → Int32) (ls : Array Slot) (H : Heap) (locs : List Loc), v_Reader_readBody_L2 post tL tC x2 gL n2 x3 rP gS → lv_has ls 5 [(0, .ref qr), (1, .ref qg), (2, .int x2), (3, .int x3)] → va_P (dC, dI) vwCl [(qr, .inr (3, [.ref qt, .int rP])), (qt, .inr (5, [.ref qtC, .int tL])), (qtC, .inl (kC, 240, .inl tC)), (qg, .inr (2, [.int gN, .ref qgH, .ref qgS, .ref qgL, .ref qgW, .ref qgU, .ref qgO, .int gD])), (qgS, .inl (kI, 42, .inl gS)), (qgL, .inl (kI, 14, .inl gL))] H → va_D A [(qr, .inr (3, [.ref qt, .int rP])), (qt, .inr (5, [.ref qtC, .int tL])), (qtC, .inl (kC, 240, .inl tC)), (qg, .inr (2, [.int gN, .ref qgH, .ref qgS, .ref qgL, .ref qgW, .ref qgU, .ref qgO, .int gD])), (qgS, .inl (kI, 42, .inl gS)), (qgL, .inl (kI, 14, .inl gL))] → va_S A s.heap H locs → W p l e (headSpec w_Reader_readBody { frames := 2, cells := 0, slots := 0, locals := 41 }).room s m ([.ref qr, .ref qg, .int a2] : List Value).toArray below meth c H locs 0 0 (MQ below (va_Qi (fun (r : Int32) (u : Int32 × (Nat → Int32) × (Nat → Int32)) => post r u.1 u.2.1 u.2.2) (fun u t => va_P (dC, dI) vwCl [(qr, .inr (3, [.ref qt, .int u.1])), (qt, .inr (5, [.ref qtC, .int tL])), (qtC, .inl (kC, 240, .inl tC)), (qg, .inr (2, [.int gN, .ref qgH, .ref qgS, .ref qgL, .ref qgW, .ref qgU, .ref qgO, .int gD])), (qgS, .inl (kI, 42, .inl u.2.1)), (qgL, .inl (kI, 14, .inl u.2.2))] t.heap ∧ va_K (dC, dI) vwCl (vTY kI kC kZ kJ kB kS) t ∧ va_D (A) [(qr, .inr (3, [.ref qt, .int u.1])), (qt, .inr (5, [.ref qtC, .int tL])), (qtC, .inl (kC, 240, .inl tC)), (qg, .inr (2, [.int gN, .ref qgH, .ref qgS, .ref qgL, .ref qgW, .ref qgU, .ref qgO, .int gD])), (qgS, .inl (kI, 42, .inl u.2.1)), (qgL, .inl (kI, 14, .inl u.2.2))]) (A)) ([.ref qr, .ref qg, .int a2] : List Value).toArray s 0 0 A) (F0 m 2 ls []) := by
    intro x2 gL n2
    induction n2 with
    | zero => intro x3 rP gS ls H locs h; exact False.elim h
    | succ n2 ih =>
      intro x3 rP gS ls H locs h hl hP hD hS
      unfold v_Reader_readBody_L2 at h
      refine lv_iload_n hx hb d_Reader_readBody_2 rfl (lv_at hl 3 rfl) ?_
      refine lv_iconst (v := 3) hx hb d_Reader_readBody_3 (by decide) ?_
      refine lv_icmp_ge hx hb d_Reader_readBody_4 (tgt := 47) (by decide) (fun hc => ?_) (fun hc => ?_)
      · have h := h.1 hc
        refine lv_iload_n hx hb d_Reader_readBody_47 rfl (lv_at hl 3 rfl) ?_
        refine lv_istore hx hb d_Reader_readBody_48 hl (by decide) rfl (fun ls hl => ?_)
        have hl : lv_has ls 5 [(4, .int x3), (0, .ref qr), (1, .ref qg), (2, .int x2), (3, .int x3)] := hl
        obtain ⟨k50, h⟩ := h
        exact L50 x2 x3 rP gL k50 x3 gS _ _ _ h (lv_sub hl [2, 3, 4, 0] rfl) hP hD hS
      · have h := h.2 hc
        refine lv_aload_n hx hb d_Reader_readBody_7 rfl (lv_at hl 0 rfl) ?_
        have hPc := hP.sub (ws' := [(qr, .inr (3, [.ref qt, .int rP])), (qt, .inr (5, [.ref qtC, .int tL])), (qtC, .inl (kC, 240, .inl tC))]) [0, 1, 2] rfl
        have hDc := hD.sub (ws' := [(qr, .inr (3, [.ref qt, .int rP])), (qt, .inr (5, [.ref qtC, .int tL])), (qtC, .inl (kC, 240, .inl tC))]) [0, 1, 2] (by decide) rfl
        have hFc := va_free (wc := [(qr, .inr (3, [.ref qt, .int rP])), (qt, .inr (5, [.ref qtC, .int tL])), (qtC, .inl (kC, 240, .inl tC))]) hD hS hA [0, 1, 2] rfl
        refine va_calli (va_runV (As := []) (rest := []) ⟨hx, hb, hml, hown, hts⟩ (c_Reader_peek l dC dI kI kC kZ kJ kB kS qr qt qtC H.size rP tL tC h) ⟨callB_of 0 hts (gA tb_269) rfl rfl rfl (hT _ tb_45) (hT _ tb_266) (by decide +kernel) ⟨Nat.le_of_ble_eq_true rfl, Nat.le_of_ble_eq_true rfl⟩, (hT _ tb_268), (hT _ tb_2)⟩ ⟨fun a U g mk q => by obtain ⟨q0, q1, qP, qK, qD, qN⟩ := q; exact ⟨q0, q1, qP, va_K.moved (u := U) (U := U.calling g mk a) (Vm.Alike.refl U.vm) qK, qD, vNE.same (U := U.calling g mk a) rfl qN⟩, va_recv hK hP rfl (q0 := 0) rfl, fun U hU hW => ⟨rfl, by rw [hU], by rw [hU]; exact hPc, va_K.moved hW.alike hK, hDc.weaken (fun _ _ _ _ => trivial), vNE.moved hW hN⟩⟩ rfl rfl hl.1 rfl (lv_room (Nat.le_of_ble_eq_true rfl)) d_Reader_readBody_8 ⟨Nat.zero_le _, Nat.zero_le _⟩) hS (fun q _ h => hFc q h) hFc (fun r8 u t H_8 locs ht hvm h hB hz1 hk1 hS => ?_)
        obtain ⟨hP1, hK1, hD1⟩ := hB
        rw [ht] at hP1
        try dsimp only at h
        obtain ⟨hP, hD⟩ := va_join (wr := [(qg, .inr (2, [.int gN, .ref qgH, .ref qgS, .ref qgL, .ref qgW, .ref qgU, .ref qgO, .int gD])), (qgS, .inl (kI, 42, .inl gS)), (qgL, .inl (kI, 14, .inl gL))]) (w1 := [(qr, .inr (3, [.ref qt, .int rP])), (qt, .inr (5, [.ref qtC, .int tL])), (qtC, .inl (kC, 240, .inl tC))]) hP hD [0, 1, 2] [3, 4, 5] rfl rfl (by decide) (by decide) hk1 hFc hP1 hD1
        have hP : va_P (dC, dI) vwCl [(qr, .inr (3, [.ref qt, .int rP])), (qt, .inr (5, [.ref qtC, .int tL])), (qtC, .inl (kC, 240, .inl tC)), (qg, .inr (2, [.int gN, .ref qgH, .ref qgS, .ref qgL, .ref qgW, .ref qgU, .ref qgO, .int gD])), (qgS, .inl (kI, 42, .inl gS)), (qgL, .inl (kI, 14, .inl gL))] H_8 := hP.sub (ws' := [(qr, .inr (3, [.ref qt, .int rP])), (qt, .inr (5, [.ref qtC, .int tL])), (qtC, .inl (kC, 240, .inl tC)), (qg, .inr (2, [.int gN, .ref qgH, .ref qgS, .ref qgL, .ref qgW, .ref qgU, .ref qgO, .int gD])), (qgS, .inl (kI, 42, .inl gS)), (qgL, .inl (kI, 14, .inl gL))]) [3, 4, 5, 0, 1, 2] rfl
        have hD : va_D A [(qr, .inr (3, [.ref qt, .int rP])), (qt, .inr (5, [.ref qtC, .int tL])), (qtC, .inl (kC, 240, .inl tC)), (qg, .inr (2, [.int gN, .ref qgH, .ref qgS, .ref qgL, .ref qgW, .ref qgU, .ref qgO, .int gD])), (qgS, .inl (kI, 42, .inl gS)), (qgL, .inl (kI, 14, .inl gL))] := hD.sub (ws' := [(qr, .inr (3, [.ref qt, .int rP])), (qt, .inr (5, [.ref qtC, .int tL])), (qtC, .inl (kC, 240, .inl tC)), (qg, .inr (2, [.int gN, .ref qgH, .ref qgS, .ref qgL, .ref qgW, .ref qgU, .ref qgO, .int gD])), (qgS, .inl (kI, 42, .inl gS)), (qgL, .inl (kI, 14, .inl gL))]) [3, 4, 5, 0, 1, 2] (by decide) rfl
        have hPc := hP.sub (ws' := []) [] rfl
        have hDc := hD.sub (ws' := []) [] (by decide) rfl
        have hFc := va_free (wc := []) hD hS hA [] rfl
        refine va_calli (va_runSN (As := [.int r8]) (rest := []) ⟨hx, hb, hml, hown, hts⟩ (c_RT_isLetter l dC dI kI kC kZ kJ kB kS H_8.size r8 h) ⟨va_cnB 1 hts (gA tb_272) rfl rfl rfl (nE_270 hN) (hT _ tb_43) (by decide +kernel) ⟨Nat.le_of_ble_eq_true rfl, Nat.le_of_ble_eq_true rfl⟩, (hT _ tb_271), trivial⟩ ⟨fun a U g mk q => by obtain ⟨q0, q1, qP, qK, qD, qN⟩ := q; exact ⟨q0, q1, qP, va_K.moved (u := U) (U := U.calling g mk a) (Vm.Alike.refl U.vm) qK, qD, vNE.same (U := U.calling g mk a) rfl qN⟩, fun U hU hW => ⟨rfl, by rw [hU], by rw [hU]; exact hPc, va_K.moved hW.alike hK, hDc.weaken (fun _ _ _ _ => trivial), vNE.moved hW hN⟩⟩ rfl rfl hl.1 rfl (lv_room (Nat.le_of_ble_eq_true rfl)) d_Reader_readBody_11 ⟨Nat.zero_le _, Nat.zero_le _⟩) hS (fun q _ h => hFc q h) hFc (fun r11 u t H_11 locs ht hvm h hB hz1 hk1 hS => ?_)
        obtain ⟨hP1, hK1, hD1⟩ := hB
        rw [ht] at hP1
        try dsimp only at h
        obtain ⟨hP, hD⟩ := va_join (wr := [(qr, .inr (3, [.ref qt, .int rP])), (qt, .inr (5, [.ref qtC, .int tL])), (qtC, .inl (kC, 240, .inl tC)), (qg, .inr (2, [.int gN, .ref qgH, .ref qgS, .ref qgL, .ref qgW, .ref qgU, .ref qgO, .int gD])), (qgS, .inl (kI, 42, .inl gS)), (qgL, .inl (kI, 14, .inl gL))]) (w1 := []) hP hD [] [0, 1, 2, 3, 4, 5] rfl rfl (by decide) (by decide) hk1 hFc hP1 hD1
        have hP : va_P (dC, dI) vwCl [(qr, .inr (3, [.ref qt, .int rP])), (qt, .inr (5, [.ref qtC, .int tL])), (qtC, .inl (kC, 240, .inl tC)), (qg, .inr (2, [.int gN, .ref qgH, .ref qgS, .ref qgL, .ref qgW, .ref qgU, .ref qgO, .int gD])), (qgS, .inl (kI, 42, .inl gS)), (qgL, .inl (kI, 14, .inl gL))] H_11 := hP.sub (ws' := [(qr, .inr (3, [.ref qt, .int rP])), (qt, .inr (5, [.ref qtC, .int tL])), (qtC, .inl (kC, 240, .inl tC)), (qg, .inr (2, [.int gN, .ref qgH, .ref qgS, .ref qgL, .ref qgW, .ref qgU, .ref qgO, .int gD])), (qgS, .inl (kI, 42, .inl gS)), (qgL, .inl (kI, 14, .inl gL))]) [0, 1, 2, 3, 4, 5] rfl
        have hD : va_D A [(qr, .inr (3, [.ref qt, .int rP])), (qt, .inr (5, [.ref qtC, .int tL])), (qtC, .inl (kC, 240, .inl tC)), (qg, .inr (2, [.int gN, .ref qgH, .ref qgS, .ref qgL, .ref qgW, .ref qgU, .ref qgO, .int gD])), (qgS, .inl (kI, 42, .inl gS)), (qgL, .inl (kI, 14, .inl gL))] := hD.sub (ws' := [(qr, .inr (3, [.ref qt, .int rP])), (qt, .inr (5, [.ref qtC, .int tL])), (qtC, .inl (kC, 240, .inl tC)), (qg, .inr (2, [.int gN, .ref qgH, .ref qgS, .ref qgL, .ref qgW, .ref qgU, .ref qgO, .int gD])), (qgS, .inl (kI, 42, .inl gS)), (qgL, .inl (kI, 14, .inl gL))]) [0, 1, 2, 3, 4, 5] (by decide) rfl
        refine lv_if_ne hx hb d_Reader_readBody_14 (tgt := 27) (by decide) (fun hc => ?_) (fun hc => ?_)
        · have h := h.2 hc
          exact B27 x2 gL _ ih x3 rP gS _ _ _ h (lv_sub hl [0, 1, 2, 3] rfl) hP hD hS
        · have h := h.1 hc
          refine lv_aload_n hx hb d_Reader_readBody_17 rfl (lv_at hl 0 rfl) ?_
          have hPc := hP.sub (ws' := [(qr, .inr (3, [.ref qt, .int rP])), (qt, .inr (5, [.ref qtC, .int tL])), (qtC, .inl (kC, 240, .inl tC))]) [0, 1, 2] rfl
          have hDc := hD.sub (ws' := [(qr, .inr (3, [.ref qt, .int rP])), (qt, .inr (5, [.ref qtC, .int tL])), (qtC, .inl (kC, 240, .inl tC))]) [0, 1, 2] (by decide) rfl
          have hFc := va_free (wc := [(qr, .inr (3, [.ref qt, .int rP])), (qt, .inr (5, [.ref qtC, .int tL])), (qtC, .inl (kC, 240, .inl tC))]) hD hS hA [0, 1, 2] rfl
          refine va_calli (va_runV (As := []) (rest := []) ⟨hx, hb, hml, hown, hts⟩ (c_Reader_peek l dC dI kI kC kZ kJ kB kS qr qt qtC H_11.size rP tL tC h) ⟨callB_of 0 hts (gA tb_269) rfl rfl rfl (hT _ tb_45) (hT _ tb_266) (by decide +kernel) ⟨Nat.le_of_ble_eq_true rfl, Nat.le_of_ble_eq_true rfl⟩, (hT _ tb_268), (hT _ tb_2)⟩ ⟨fun a U g mk q => by obtain ⟨q0, q1, qP, qK, qD, qN⟩ := q; exact ⟨q0, q1, qP, va_K.moved (u := U) (U := U.calling g mk a) (Vm.Alike.refl U.vm) qK, qD, vNE.same (U := U.calling g mk a) rfl qN⟩, va_recv hK hP rfl (q0 := 0) rfl, fun U hU hW => ⟨rfl, by rw [hU], by rw [hU]; exact hPc, va_K.moved hW.alike hK, hDc.weaken (fun _ _ _ _ => trivial), vNE.moved hW hN⟩⟩ rfl rfl hl.1 rfl (lv_room (Nat.le_of_ble_eq_true rfl)) d_Reader_readBody_18 ⟨Nat.zero_le _, Nat.zero_le _⟩) hS (fun q _ h => hFc q h) hFc (fun r18 u t H_18 locs ht hvm h hB hz1 hk1 hS => ?_)
          obtain ⟨hP1, hK1, hD1⟩ := hB
          rw [ht] at hP1
          try dsimp only at h
          obtain ⟨hP, hD⟩ := va_join (wr := [(qg, .inr (2, [.int gN, .ref qgH, .ref qgS, .ref qgL, .ref qgW, .ref qgU, .ref qgO, .int gD])), (qgS, .inl (kI, 42, .inl gS)), (qgL, .inl (kI, 14, .inl gL))]) (w1 := [(qr, .inr (3, [.ref qt, .int rP])), (qt, .inr (5, [.ref qtC, .int tL])), (qtC, .inl (kC, 240, .inl tC))]) hP hD [0, 1, 2] [3, 4, 5] rfl rfl (by decide) (by decide) hk1 hFc hP1 hD1
          have hP : va_P (dC, dI) vwCl [(qr, .inr (3, [.ref qt, .int rP])), (qt, .inr (5, [.ref qtC, .int tL])), (qtC, .inl (kC, 240, .inl tC)), (qg, .inr (2, [.int gN, .ref qgH, .ref qgS, .ref qgL, .ref qgW, .ref qgU, .ref qgO, .int gD])), (qgS, .inl (kI, 42, .inl gS)), (qgL, .inl (kI, 14, .inl gL))] H_18 := hP.sub (ws' := [(qr, .inr (3, [.ref qt, .int rP])), (qt, .inr (5, [.ref qtC, .int tL])), (qtC, .inl (kC, 240, .inl tC)), (qg, .inr (2, [.int gN, .ref qgH, .ref qgS, .ref qgL, .ref qgW, .ref qgU, .ref qgO, .int gD])), (qgS, .inl (kI, 42, .inl gS)), (qgL, .inl (kI, 14, .inl gL))]) [3, 4, 5, 0, 1, 2] rfl
          have hD : va_D A [(qr, .inr (3, [.ref qt, .int rP])), (qt, .inr (5, [.ref qtC, .int tL])), (qtC, .inl (kC, 240, .inl tC)), (qg, .inr (2, [.int gN, .ref qgH, .ref qgS, .ref qgL, .ref qgW, .ref qgU, .ref qgO, .int gD])), (qgS, .inl (kI, 42, .inl gS)), (qgL, .inl (kI, 14, .inl gL))] := hD.sub (ws' := [(qr, .inr (3, [.ref qt, .int rP])), (qt, .inr (5, [.ref qtC, .int tL])), (qtC, .inl (kC, 240, .inl tC)), (qg, .inr (2, [.int gN, .ref qgH, .ref qgS, .ref qgL, .ref qgW, .ref qgU, .ref qgO, .int gD])), (qgS, .inl (kI, 42, .inl gS)), (qgL, .inl (kI, 14, .inl gL))]) [3, 4, 5, 0, 1, 2] (by decide) rfl
          have hPc := hP.sub (ws' := []) [] rfl
          have hDc := hD.sub (ws' := []) [] (by decide) rfl
          have hFc := va_free (wc := []) hD hS hA [] rfl
          refine va_calli (va_runSN (As := [.int r18]) (rest := []) ⟨hx, hb, hml, hown, hts⟩ (c_RT_isToken l dC dI kI kC kZ kJ kB kS H_18.size r18 h) ⟨va_cnB 1 hts (gA tb_279) rfl rfl rfl (nE_277 hN) (hT _ tb_43) (by decide +kernel) ⟨Nat.le_of_ble_eq_true rfl, Nat.le_of_ble_eq_true rfl⟩, (hT _ tb_278), trivial⟩ ⟨fun a U g mk q => by obtain ⟨q0, q1, qP, qK, qD, qN⟩ := q; exact ⟨q0, q1, qP, va_K.moved (u := U) (U := U.calling g mk a) (Vm.Alike.refl U.vm) qK, qD, vNE.same (U := U.calling g mk a) rfl qN⟩, fun U hU hW => ⟨rfl, by rw [hU], by rw [hU]; exact hPc, va_K.moved hW.alike hK, hDc.weaken (fun _ _ _ _ => trivial), vNE.moved hW hN⟩⟩ rfl rfl hl.1 rfl (lv_room (Nat.le_of_ble_eq_true rfl)) d_Reader_readBody_21 ⟨Nat.zero_le _, Nat.zero_le _⟩) hS (fun q _ h => hFc q h) hFc (fun r21 u t H_21 locs ht hvm h hB hz1 hk1 hS => ?_)
          obtain ⟨hP1, hK1, hD1⟩ := hB
          rw [ht] at hP1
          try dsimp only at h
          obtain ⟨hP, hD⟩ := va_join (wr := [(qr, .inr (3, [.ref qt, .int rP])), (qt, .inr (5, [.ref qtC, .int tL])), (qtC, .inl (kC, 240, .inl tC)), (qg, .inr (2, [.int gN, .ref qgH, .ref qgS, .ref qgL, .ref qgW, .ref qgU, .ref qgO, .int gD])), (qgS, .inl (kI, 42, .inl gS)), (qgL, .inl (kI, 14, .inl gL))]) (w1 := []) hP hD [] [0, 1, 2, 3, 4, 5] rfl rfl (by decide) (by decide) hk1 hFc hP1 hD1
          have hP : va_P (dC, dI) vwCl [(qr, .inr (3, [.ref qt, .int rP])), (qt, .inr (5, [.ref qtC, .int tL])), (qtC, .inl (kC, 240, .inl tC)), (qg, .inr (2, [.int gN, .ref qgH, .ref qgS, .ref qgL, .ref qgW, .ref qgU, .ref qgO, .int gD])), (qgS, .inl (kI, 42, .inl gS)), (qgL, .inl (kI, 14, .inl gL))] H_21 := hP.sub (ws' := [(qr, .inr (3, [.ref qt, .int rP])), (qt, .inr (5, [.ref qtC, .int tL])), (qtC, .inl (kC, 240, .inl tC)), (qg, .inr (2, [.int gN, .ref qgH, .ref qgS, .ref qgL, .ref qgW, .ref qgU, .ref qgO, .int gD])), (qgS, .inl (kI, 42, .inl gS)), (qgL, .inl (kI, 14, .inl gL))]) [0, 1, 2, 3, 4, 5] rfl
          have hD : va_D A [(qr, .inr (3, [.ref qt, .int rP])), (qt, .inr (5, [.ref qtC, .int tL])), (qtC, .inl (kC, 240, .inl tC)), (qg, .inr (2, [.int gN, .ref qgH, .ref qgS, .ref qgL, .ref qgW, .ref qgU, .ref qgO, .int gD])), (qgS, .inl (kI, 42, .inl gS)), (qgL, .inl (kI, 14, .inl gL))] := hD.sub (ws' := [(qr, .inr (3, [.ref qt, .int rP])), (qt, .inr (5, [.ref qtC, .int tL])), (qtC, .inl (kC, 240, .inl tC)), (qg, .inr (2, [.int gN, .ref qgH, .ref qgS, .ref qgL, .ref qgW, .ref qgU, .ref qgO, .int gD])), (qgS, .inl (kI, 42, .inl gS)), (qgL, .inl (kI, 14, .inl gL))]) [0, 1, 2, 3, 4, 5] (by decide) rfl
          refine lv_if_eq hx hb d_Reader_readBody_24 (tgt := 47) (by decide) (fun hc => ?_) (fun hc => ?_)
          · have h := h.1 hc
            refine lv_iload_n hx hb d_Reader_readBody_47 rfl (lv_at hl 3 rfl) ?_
            refine lv_istore hx hb d_Reader_readBody_48 hl (by decide) rfl (fun ls hl => ?_)
            have hl : lv_has ls 5 [(4, .int x3), (0, .ref qr), (1, .ref qg), (2, .int x2), (3, .int x3)] := hl
            obtain ⟨k50, h⟩ := h
            exact L50 x2 x3 rP gL k50 x3 gS _ _ _ h (lv_sub hl [2, 3, 4, 0] rfl) hP hD hS
          · have h := h.2 hc
            exact B27 x2 gL _ ih x3 rP gS _ _ _ h (lv_sub hl [0, 1, 2, 3] rfl) hP hD hS
  have hl := lv_entry ([.ref qr, .ref qg, .int a2]) (n := 5) (Nat.le_of_ble_eq_true rfl)
  rw [lg_entry_eq]
  generalize (lg_sl ([.ref qr, .ref qg, .int a2]) ++ List.replicate (5 - (lg_sl ([.ref qr, .ref qg, .int a2])).length) Slot.unset).toArray = ls at hl ⊢
  have hl : lv_has ls 5 [(0, .ref qr), (1, .ref qg), (2, .int a2)] := hl
  unfold v_Reader_readBody at h
  refine lv_iconst (v := 0) hx hb d_Reader_readBody_0 (by decide) ?_
  refine lv_istore_n hx hb d_Reader_readBody_1 rfl hl (by decide) rfl (fun ls hl => ?_)
  have hl : lv_has ls 5 [(3, .int (0 : Int32)), (0, .ref qr), (1, .ref qg), (2, .int a2)] := hl
  obtain ⟨k2, h⟩ := h
  exact L2 a2 gL k2 (0 : Int32) rP gS _ _ _ h (lv_sub hl [1, 2, 3, 0] rfl) hP hD hS

def v_Reader_readWeight_B54 (post : Int32 → Int32 → Prop) (x1 : Int32) (x2 : Int32) (rP : Int32) : Prop :=
  ((x2 = 0 → (post (-1 : Int32) rP)) ∧ (¬ x2 = 0 → (post x1 rP)))
def v_Reader_readWeight_L20 (post : Int32 → Int32 → Prop) (tL : Int32) (tC : Nat → Int32) : Nat → Int32 → Int32 → Int32 → Prop
  | 0, _, _, _ => False
  | n20 + 1, x1, x2, rP =>
    (((3 : Int32) ≤ x2 → (v_Reader_readWeight_B54 post x1 x2 rP)) ∧ (¬ (3 : Int32) ≤ x2 → (v_Reader_peek rP tL tC (fun r26 => (v_RT_isDigit r26 (fun r29 => ((r29 = 0 → (v_Reader_readWeight_B54 post x1 x2 rP)) ∧ (¬ r29 = 0 → (v_Reader_take rP tL tC (fun r40 rP_40 => (∀ y1_47 : Int32, y1_47 = (((x1 * (10 : Int32)) + r40) - (48 : Int32)) → ((v_Reader_readWeight_L20 post tL tC n20) y1_47 (x2 + 1) rP_40))))))))))))
def v_Reader_readWeight (rP : Int32) (tL : Int32) (tC : Nat → Int32) (post : Int32 → Int32 → Prop) : Prop :=
  (v_Reader_peek rP tL tC (fun r1 => ((r1 = (58 : Int32) → (v_Reader_take rP tL tC (fun r12 rP_12 => (∃ k20, v_Reader_readWeight_L20 post tL tC k20 (0 : Int32) (0 : Int32) rP_12)))) ∧ (¬ r1 = (58 : Int32) → (post (1 : Int32) rP)))))
set_option maxHeartbeats 1000000 in
set_option maxRecDepth 100000 in
theorem c_Reader_readWeight (l : Launch) (dC : Nat → ClassId) (dI : Nat → Nat → Nat) (kI kC kZ kJ kB kS : ClassId) (qr qt qtC : Nat) (sz : Nat) (rP : Int32) (tL : Int32) (tC : Nat → Int32) {post : Int32 → Int32 → Prop} (h : v_Reader_readWeight rP tL tC post) : Met l y_Reader_readWeight w_Reader_readWeight ({ frames := 2, cells := 0, slots := 0, locals := 41 }) (va_Pc [.ref qr] (fun U => U.heap.size = sz ∧ va_P (dC, dI) vwCl [(qr, .inr (3, [.ref qt, .int rP])), (qt, .inr (5, [.ref qtC, .int tL])), (qtC, .inl (kC, 240, .inl tC))] U.heap ∧ va_K (dC, dI) vwCl (vTY kI kC kZ kJ kB kS) U ∧ va_D (fun _ => True) [(qr, .inr (3, [.ref qt, .int rP])), (qt, .inr (5, [.ref qtC, .int tL])), (qtC, .inl (kC, 240, .inl tC))] ∧ vNE U)) (va_Qi (fun (r : Int32) (u : Int32) => post r u) (fun u t => va_P (dC, dI) vwCl [(qr, .inr (3, [.ref qt, .int u])), (qt, .inr (5, [.ref qtC, .int tL])), (qtC, .inl (kC, 240, .inl tC))] t.heap ∧ va_K (dC, dI) vwCl (vTY kI kC kZ kJ kB kS) t ∧ va_D (va_A [(qr, .inr (3, [.ref qt, .int rP])), (qt, .inr (5, [.ref qtC, .int tL])), (qtC, .inl (kC, 240, .inl tC))] sz) [(qr, .inr (3, [.ref qt, .int u])), (qt, .inr (5, [.ref qtC, .int tL])), (qtC, .inl (kC, 240, .inl tC))]) (va_A [(qr, .inr (3, [.ref qt, .int rP])), (qt, .inr (5, [.ref qtC, .int tL])), (qtC, .inl (kC, 240, .inl tC))] sz)) 0 0 (va_A [(qr, .inr (3, [.ref qt, .int rP])), (qt, .inr (5, [.ref qtC, .int tL])), (qtC, .inl (kC, 240, .inl tC))] sz) := by
  refine Met.ofW (cc := b_Reader_readWeight) (maxL := 3) (ret := (some .int)) (by decide) rfl ?_
  intro p e s m args below meth c s₁ B hml hv
  obtain ⟨rfl, hsz, hP, hK, hD0, hN⟩ := hv
  have hx := B.exec
  have hb := B.bytes
  have hr := B.returns
  have hts := atoms_spec (ws := w_Reader_readWeight) B.pre
  have hT : ∀ w ∈ TB, w.before ([.ref qr] : List Value).toArray s = true := fun w h => hts w (List.mem_cons_of_mem _ h)
  have hown : s.vm.findClass R_Reader = some m.cls := findClass_of_methodNamed B.named
  have hlocks := B.notSynchronized
  subst hsz
  have hD := hD0.self (sz := s.heap.size)
  generalize hAe : va_A [(qr, .inr (3, [.ref qt, .int rP])), (qt, .inr (5, [.ref qtC, .int tL])), (qtC, .inl (kC, 240, .inl tC))] s.heap.size = A at hD ⊢
  have hA : ∀ q : Nat, s.heap.size ≤ q → A q := fun q h => by rw [← hAe]; exact Or.inr h
  have hS : va_S A s.heap s.heap [] := va_S.rf
  have B54 : ∀ (x1 : Int32) (x2 : Int32) (rP : Int32) (ls : Array Slot) (H : Heap) (locs : List Loc), v_Reader_readWeight_B54 post x1 x2 rP → lv_has ls 3 [(1, .int x1), (2, .int x2)] → va_P (dC, dI) vwCl [(qr, .inr (3, [.ref qt, .int rP])), (qt, .inr (5, [.ref qtC, .int tL])), (qtC, .inl (kC, 240, .inl tC))] H → va_D A [(qr, .inr (3, [.ref qt, .int rP])), (qt, .inr (5, [.ref qtC, .int tL])), (qtC, .inl (kC, 240, .inl tC))] → va_S A s.heap H locs → W p l e (headSpec w_Reader_readWeight { frames := 2, cells := 0, slots := 0, locals := 41 }).room s m ([.ref qr] : List Value).toArray below meth c H locs 0 0 (MQ below (va_Qi (fun (r : Int32) (u : Int32) => post r u) (fun u t => va_P (dC, dI) vwCl [(qr, .inr (3, [.ref qt, .int u])), (qt, .inr (5, [.ref qtC, .int tL])), (qtC, .inl (kC, 240, .inl tC))] t.heap ∧ va_K (dC, dI) vwCl (vTY kI kC kZ kJ kB kS) t ∧ va_D (A) [(qr, .inr (3, [.ref qt, .int u])), (qt, .inr (5, [.ref qtC, .int tL])), (qtC, .inl (kC, 240, .inl tC))]) (A)) ([.ref qr] : List Value).toArray s 0 0 A) (F0 m 54 ls []) := by
    intro x1 x2 rP ls H locs h hl hP hD hS
    unfold v_Reader_readWeight_B54 at h
    refine lv_iload_n hx hb d_Reader_readWeight_54 rfl (lv_at hl 1 rfl) ?_
    refine lv_if_ne hx hb d_Reader_readWeight_55 (tgt := 62) (by decide) (fun hc => ?_) (fun hc => ?_)
    · have h := h.2 hc
      refine lv_iload_n hx hb d_Reader_readWeight_62 rfl (lv_at hl 0 rfl) ?_
      exact W.iret (v := x1) hx hb hr (fun t ht hW => ⟨⟨x1, rP, rfl, h, by rw [ht]; exact hP, va_K.moved hW.alike hK, hD⟩, hS.F ht⟩) hS.2.2 d_Reader_readWeight_63
    · have h := h.1 hc
      refine lv_iconst (v := -1) hx hb d_Reader_readWeight_58 (by decide) ?_
      refine lv_goto hx hb d_Reader_readWeight_59 (tgt := 63) (by decide) ?_
      exact W.iret (v := (-1 : Int32)) hx hb hr (fun t ht hW => ⟨⟨(-1 : Int32), rP, rfl, h, by rw [ht]; exact hP, va_K.moved hW.alike hK, hD⟩, hS.F ht⟩) hS.2.2 d_Reader_readWeight_63
  have L20 : ∀ (n20 : Nat) (x1 : Int32) (x2 : Int32) (rP : Int32) (ls : Array Slot) (H : Heap) (locs : List Loc), v_Reader_readWeight_L20 post tL tC n20 x1 x2 rP → lv_has ls 3 [(0, .ref qr), (1, .int x1), (2, .int x2)] → va_P (dC, dI) vwCl [(qr, .inr (3, [.ref qt, .int rP])), (qt, .inr (5, [.ref qtC, .int tL])), (qtC, .inl (kC, 240, .inl tC))] H → va_D A [(qr, .inr (3, [.ref qt, .int rP])), (qt, .inr (5, [.ref qtC, .int tL])), (qtC, .inl (kC, 240, .inl tC))] → va_S A s.heap H locs → W p l e (headSpec w_Reader_readWeight { frames := 2, cells := 0, slots := 0, locals := 41 }).room s m ([.ref qr] : List Value).toArray below meth c H locs 0 0 (MQ below (va_Qi (fun (r : Int32) (u : Int32) => post r u) (fun u t => va_P (dC, dI) vwCl [(qr, .inr (3, [.ref qt, .int u])), (qt, .inr (5, [.ref qtC, .int tL])), (qtC, .inl (kC, 240, .inl tC))] t.heap ∧ va_K (dC, dI) vwCl (vTY kI kC kZ kJ kB kS) t ∧ va_D (A) [(qr, .inr (3, [.ref qt, .int u])), (qt, .inr (5, [.ref qtC, .int tL])), (qtC, .inl (kC, 240, .inl tC))]) (A)) ([.ref qr] : List Value).toArray s 0 0 A) (F0 m 20 ls []) := by
    intro n20
    induction n20 with
    | zero => intro x1 x2 rP ls H locs h; exact False.elim h
    | succ n20 ih =>
      intro x1 x2 rP ls H locs h hl hP hD hS
      unfold v_Reader_readWeight_L20 at h
      refine lv_iload_n hx hb d_Reader_readWeight_20 rfl (lv_at hl 2 rfl) ?_
      refine lv_iconst (v := 3) hx hb d_Reader_readWeight_21 (by decide) ?_
      refine lv_icmp_ge hx hb d_Reader_readWeight_22 (tgt := 54) (by decide) (fun hc => ?_) (fun hc => ?_)
      · have h := h.1 hc
        exact B54 x1 x2 rP _ _ _ h (lv_sub hl [1, 2] rfl) hP hD hS
      · have h := h.2 hc
        refine lv_aload_n hx hb d_Reader_readWeight_25 rfl (lv_at hl 0 rfl) ?_
        have hPc := hP.sub (ws' := [(qr, .inr (3, [.ref qt, .int rP])), (qt, .inr (5, [.ref qtC, .int tL])), (qtC, .inl (kC, 240, .inl tC))]) [0, 1, 2] rfl
        have hDc := hD.sub (ws' := [(qr, .inr (3, [.ref qt, .int rP])), (qt, .inr (5, [.ref qtC, .int tL])), (qtC, .inl (kC, 240, .inl tC))]) [0, 1, 2] (by decide) rfl
        have hFc := va_free (wc := [(qr, .inr (3, [.ref qt, .int rP])), (qt, .inr (5, [.ref qtC, .int tL])), (qtC, .inl (kC, 240, .inl tC))]) hD hS hA [0, 1, 2] rfl
        refine va_calli (va_runV (As := []) (rest := []) ⟨hx, hb, hml, hown, hts⟩ (c_Reader_peek l dC dI kI kC kZ kJ kB kS qr qt qtC H.size rP tL tC h) ⟨callB_of 0 hts (gA tb_269) rfl rfl rfl (hT _ tb_45) (hT _ tb_266) (by decide +kernel) ⟨Nat.le_of_ble_eq_true rfl, Nat.le_of_ble_eq_true rfl⟩, (hT _ tb_268), (hT _ tb_2)⟩ ⟨fun a U g mk q => by obtain ⟨q0, q1, qP, qK, qD, qN⟩ := q; exact ⟨q0, q1, qP, va_K.moved (u := U) (U := U.calling g mk a) (Vm.Alike.refl U.vm) qK, qD, vNE.same (U := U.calling g mk a) rfl qN⟩, va_recv hK hP rfl (q0 := 0) rfl, fun U hU hW => ⟨rfl, by rw [hU], by rw [hU]; exact hPc, va_K.moved hW.alike hK, hDc.weaken (fun _ _ _ _ => trivial), vNE.moved hW hN⟩⟩ rfl rfl hl.1 rfl (lv_room (Nat.le_of_ble_eq_true rfl)) d_Reader_readWeight_26 ⟨Nat.zero_le _, Nat.zero_le _⟩) hS (fun q _ h => hFc q h) hFc (fun r26 u t H_26 locs ht hvm h hB hz1 hk1 hS => ?_)
        obtain ⟨hP1, hK1, hD1⟩ := hB
        rw [ht] at hP1
        try dsimp only at h
        obtain ⟨hP, hD⟩ := va_join (wr := []) (w1 := [(qr, .inr (3, [.ref qt, .int rP])), (qt, .inr (5, [.ref qtC, .int tL])), (qtC, .inl (kC, 240, .inl tC))]) hP hD [0, 1, 2] [] rfl rfl (by decide) (by decide) hk1 hFc hP1 hD1
        have hP : va_P (dC, dI) vwCl [(qr, .inr (3, [.ref qt, .int rP])), (qt, .inr (5, [.ref qtC, .int tL])), (qtC, .inl (kC, 240, .inl tC))] H_26 := hP.sub (ws' := [(qr, .inr (3, [.ref qt, .int rP])), (qt, .inr (5, [.ref qtC, .int tL])), (qtC, .inl (kC, 240, .inl tC))]) [0, 1, 2] rfl
        have hD : va_D A [(qr, .inr (3, [.ref qt, .int rP])), (qt, .inr (5, [.ref qtC, .int tL])), (qtC, .inl (kC, 240, .inl tC))] := hD.sub (ws' := [(qr, .inr (3, [.ref qt, .int rP])), (qt, .inr (5, [.ref qtC, .int tL])), (qtC, .inl (kC, 240, .inl tC))]) [0, 1, 2] (by decide) rfl
        have hPc := hP.sub (ws' := []) [] rfl
        have hDc := hD.sub (ws' := []) [] (by decide) rfl
        have hFc := va_free (wc := []) hD hS hA [] rfl
        refine va_calli (va_runSN (As := [.int r26]) (rest := []) ⟨hx, hb, hml, hown, hts⟩ (c_RT_isDigit l dC dI kI kC kZ kJ kB kS H_26.size r26 h) ⟨va_cnB 1 hts (gA tb_286) rfl rfl rfl (nE_284 hN) (hT _ tb_43) (by decide +kernel) ⟨Nat.le_of_ble_eq_true rfl, Nat.le_of_ble_eq_true rfl⟩, (hT _ tb_285), trivial⟩ ⟨fun a U g mk q => by obtain ⟨q0, q1, qP, qK, qD, qN⟩ := q; exact ⟨q0, q1, qP, va_K.moved (u := U) (U := U.calling g mk a) (Vm.Alike.refl U.vm) qK, qD, vNE.same (U := U.calling g mk a) rfl qN⟩, fun U hU hW => ⟨rfl, by rw [hU], by rw [hU]; exact hPc, va_K.moved hW.alike hK, hDc.weaken (fun _ _ _ _ => trivial), vNE.moved hW hN⟩⟩ rfl rfl hl.1 rfl (lv_room (Nat.le_of_ble_eq_true rfl)) d_Reader_readWeight_29 ⟨Nat.zero_le _, Nat.zero_le _⟩) hS (fun q _ h => hFc q h) hFc (fun r29 u t H_29 locs ht hvm h hB hz1 hk1 hS => ?_)
        obtain ⟨hP1, hK1, hD1⟩ := hB
        rw [ht] at hP1
        try dsimp only at h
        obtain ⟨hP, hD⟩ := va_join (wr := [(qr, .inr (3, [.ref qt, .int rP])), (qt, .inr (5, [.ref qtC, .int tL])), (qtC, .inl (kC, 240, .inl tC))]) (w1 := []) hP hD [] [0, 1, 2] rfl rfl (by decide) (by decide) hk1 hFc hP1 hD1
        have hP : va_P (dC, dI) vwCl [(qr, .inr (3, [.ref qt, .int rP])), (qt, .inr (5, [.ref qtC, .int tL])), (qtC, .inl (kC, 240, .inl tC))] H_29 := hP.sub (ws' := [(qr, .inr (3, [.ref qt, .int rP])), (qt, .inr (5, [.ref qtC, .int tL])), (qtC, .inl (kC, 240, .inl tC))]) [0, 1, 2] rfl
        have hD : va_D A [(qr, .inr (3, [.ref qt, .int rP])), (qt, .inr (5, [.ref qtC, .int tL])), (qtC, .inl (kC, 240, .inl tC))] := hD.sub (ws' := [(qr, .inr (3, [.ref qt, .int rP])), (qt, .inr (5, [.ref qtC, .int tL])), (qtC, .inl (kC, 240, .inl tC))]) [0, 1, 2] (by decide) rfl
        refine lv_if_eq hx hb d_Reader_readWeight_32 (tgt := 54) (by decide) (fun hc => ?_) (fun hc => ?_)
        · have h := h.1 hc
          exact B54 x1 x2 rP _ _ _ h (lv_sub hl [1, 2] rfl) hP hD hS
        · have h := h.2 hc
          refine lv_iload_n hx hb d_Reader_readWeight_35 rfl (lv_at hl 1 rfl) ?_
          refine lv_bipush (v := 10) hx hb d_Reader_readWeight_36 (by decide) ?_
          refine lv_imul hx hb d_Reader_readWeight_38 ?_
          refine lv_aload_n hx hb d_Reader_readWeight_39 rfl (lv_at hl 0 rfl) ?_
          have hPc := hP.sub (ws' := [(qr, .inr (3, [.ref qt, .int rP])), (qt, .inr (5, [.ref qtC, .int tL])), (qtC, .inl (kC, 240, .inl tC))]) [0, 1, 2] rfl
          have hDc := hD.sub (ws' := [(qr, .inr (3, [.ref qt, .int rP])), (qt, .inr (5, [.ref qtC, .int tL])), (qtC, .inl (kC, 240, .inl tC))]) [0, 1, 2] (by decide) rfl
          have hFc := va_free (wc := [(qr, .inr (3, [.ref qt, .int rP])), (qt, .inr (5, [.ref qtC, .int tL])), (qtC, .inl (kC, 240, .inl tC))]) hD hS hA [0, 1, 2] rfl
          refine va_calli (va_runV (As := []) (rest := [.int (x1 * (10 : Int32))]) ⟨hx, hb, hml, hown, hts⟩ (c_Reader_take l dC dI kI kC kZ kJ kB kS qr qt qtC H_29.size rP tL tC h) ⟨callB_of 0 hts (gA tb_265) rfl rfl rfl (hT _ tb_45) (hT _ tb_262) (by decide +kernel) ⟨Nat.le_of_ble_eq_true rfl, Nat.le_of_ble_eq_true rfl⟩, (hT _ tb_264), (hT _ tb_1)⟩ ⟨fun a U g mk q => by obtain ⟨q0, q1, qP, qK, qD, qN⟩ := q; exact ⟨q0, q1, qP, va_K.moved (u := U) (U := U.calling g mk a) (Vm.Alike.refl U.vm) qK, qD, vNE.same (U := U.calling g mk a) rfl qN⟩, va_recv hK hP rfl (q0 := 0) rfl, fun U hU hW => ⟨rfl, by rw [hU], by rw [hU]; exact hPc, va_K.moved hW.alike hK, hDc.weaken (fun _ _ _ _ => trivial), vNE.moved hW hN⟩⟩ rfl rfl hl.1 rfl (lv_room (Nat.le_of_ble_eq_true rfl)) d_Reader_readWeight_40 ⟨Nat.zero_le _, Nat.zero_le _⟩) hS (fun q _ h => hFc q h) hFc (fun r40 u t H_40 locs ht hvm h hB hz1 hk1 hS => ?_)
          obtain ⟨rP_40, rfl⟩ : ∃ z, z = u := ⟨_, rfl⟩
          obtain ⟨hP1, hK1, hD1⟩ := hB
          rw [ht] at hP1
          try dsimp only at h
          obtain ⟨hP, hD⟩ := va_join (wr := []) (w1 := [(qr, .inr (3, [.ref qt, .int rP_40])), (qt, .inr (5, [.ref qtC, .int tL])), (qtC, .inl (kC, 240, .inl tC))]) hP hD [0, 1, 2] [] rfl rfl (by decide) (by decide) hk1 hFc hP1 hD1
          have hP : va_P (dC, dI) vwCl [(qr, .inr (3, [.ref qt, .int rP_40])), (qt, .inr (5, [.ref qtC, .int tL])), (qtC, .inl (kC, 240, .inl tC))] H_40 := hP.sub (ws' := [(qr, .inr (3, [.ref qt, .int rP_40])), (qt, .inr (5, [.ref qtC, .int tL])), (qtC, .inl (kC, 240, .inl tC))]) [0, 1, 2] rfl
          have hD : va_D A [(qr, .inr (3, [.ref qt, .int rP_40])), (qt, .inr (5, [.ref qtC, .int tL])), (qtC, .inl (kC, 240, .inl tC))] := hD.sub (ws' := [(qr, .inr (3, [.ref qt, .int rP_40])), (qt, .inr (5, [.ref qtC, .int tL])), (qtC, .inl (kC, 240, .inl tC))]) [0, 1, 2] (by decide) rfl
          refine lv_iadd hx hb d_Reader_readWeight_43 ?_
          refine lv_bipush (v := 48) hx hb d_Reader_readWeight_44 (by decide) ?_
          refine lv_isub hx hb d_Reader_readWeight_46 ?_
          refine lv_topi (fun y1_47 e_y1_47 => ?_)
          have h := h y1_47 e_y1_47
          refine lv_istore_n hx hb d_Reader_readWeight_47 rfl hl (by decide) rfl (fun ls hl => ?_)
          have hl : lv_has ls 3 [(1, .int y1_47), (0, .ref qr), (2, .int x2)] := hl
          refine lv_iinc (k := 2) (v := (x2 + 1)) hx hb d_Reader_readWeight_48 hl rfl (congrArg (x2 + ·) (by decide)) (by decide) rfl (fun ls hl => ?_)
          have hl : lv_has ls 3 [(2, .int (x2 + 1)), (1, .int y1_47), (0, .ref qr)] := hl
          refine lv_goto hx hb d_Reader_readWeight_51 (tgt := 20) (by decide) ?_
          exact ih y1_47 (x2 + 1) rP_40 _ _ _ h (lv_sub hl [2, 1, 0] rfl) hP hD hS
  have hl := lv_entry ([.ref qr]) (n := 3) (Nat.le_of_ble_eq_true rfl)
  rw [lg_entry_eq]
  generalize (lg_sl ([.ref qr]) ++ List.replicate (3 - (lg_sl ([.ref qr])).length) Slot.unset).toArray = ls at hl ⊢
  have hl : lv_has ls 3 [(0, .ref qr)] := hl
  unfold v_Reader_readWeight at h
  refine lv_aload_n hx hb d_Reader_readWeight_0 rfl (lv_at hl 0 rfl) ?_
  have hPc := hP.sub (ws' := [(qr, .inr (3, [.ref qt, .int rP])), (qt, .inr (5, [.ref qtC, .int tL])), (qtC, .inl (kC, 240, .inl tC))]) [0, 1, 2] rfl
  have hDc := hD.sub (ws' := [(qr, .inr (3, [.ref qt, .int rP])), (qt, .inr (5, [.ref qtC, .int tL])), (qtC, .inl (kC, 240, .inl tC))]) [0, 1, 2] (by decide) rfl
  have hFc := va_free (wc := [(qr, .inr (3, [.ref qt, .int rP])), (qt, .inr (5, [.ref qtC, .int tL])), (qtC, .inl (kC, 240, .inl tC))]) hD hS hA [0, 1, 2] rfl
  refine va_calli (va_runV (As := []) (rest := []) ⟨hx, hb, hml, hown, hts⟩ (c_Reader_peek l dC dI kI kC kZ kJ kB kS qr qt qtC s.heap.size rP tL tC h) ⟨callB_of 0 hts (gA tb_269) rfl rfl rfl (hT _ tb_45) (hT _ tb_266) (by decide +kernel) ⟨Nat.le_of_ble_eq_true rfl, Nat.le_of_ble_eq_true rfl⟩, (hT _ tb_268), (hT _ tb_2)⟩ ⟨fun a U g mk q => by obtain ⟨q0, q1, qP, qK, qD, qN⟩ := q; exact ⟨q0, q1, qP, va_K.moved (u := U) (U := U.calling g mk a) (Vm.Alike.refl U.vm) qK, qD, vNE.same (U := U.calling g mk a) rfl qN⟩, va_recv hK hP rfl (q0 := 0) rfl, fun U hU hW => ⟨rfl, by rw [hU], by rw [hU]; exact hPc, va_K.moved hW.alike hK, hDc.weaken (fun _ _ _ _ => trivial), vNE.moved hW hN⟩⟩ rfl rfl hl.1 rfl (lv_room (Nat.le_of_ble_eq_true rfl)) d_Reader_readWeight_1 ⟨Nat.zero_le _, Nat.zero_le _⟩) hS (fun q _ h => hFc q h) hFc (fun r1 u t H_1 locs ht hvm h hB hz1 hk1 hS => ?_)
  obtain ⟨hP1, hK1, hD1⟩ := hB
  rw [ht] at hP1
  try dsimp only at h
  obtain ⟨hP, hD⟩ := va_join (wr := []) (w1 := [(qr, .inr (3, [.ref qt, .int rP])), (qt, .inr (5, [.ref qtC, .int tL])), (qtC, .inl (kC, 240, .inl tC))]) hP hD [0, 1, 2] [] rfl rfl (by decide) (by decide) hk1 hFc hP1 hD1
  have hP : va_P (dC, dI) vwCl [(qr, .inr (3, [.ref qt, .int rP])), (qt, .inr (5, [.ref qtC, .int tL])), (qtC, .inl (kC, 240, .inl tC))] H_1 := hP.sub (ws' := [(qr, .inr (3, [.ref qt, .int rP])), (qt, .inr (5, [.ref qtC, .int tL])), (qtC, .inl (kC, 240, .inl tC))]) [0, 1, 2] rfl
  have hD : va_D A [(qr, .inr (3, [.ref qt, .int rP])), (qt, .inr (5, [.ref qtC, .int tL])), (qtC, .inl (kC, 240, .inl tC))] := hD.sub (ws' := [(qr, .inr (3, [.ref qt, .int rP])), (qt, .inr (5, [.ref qtC, .int tL])), (qtC, .inl (kC, 240, .inl tC))]) [0, 1, 2] (by decide) rfl
  refine lv_bipush (v := 58) hx hb d_Reader_readWeight_4 (by decide) ?_
  refine lv_icmp_eq hx hb d_Reader_readWeight_6 (tgt := 11) (by decide) (fun hc => ?_) (fun hc => ?_)
  · have h := h.1 hc
    refine lv_aload_n hx hb d_Reader_readWeight_11 rfl (lv_at hl 0 rfl) ?_
    have hPc := hP.sub (ws' := [(qr, .inr (3, [.ref qt, .int rP])), (qt, .inr (5, [.ref qtC, .int tL])), (qtC, .inl (kC, 240, .inl tC))]) [0, 1, 2] rfl
    have hDc := hD.sub (ws' := [(qr, .inr (3, [.ref qt, .int rP])), (qt, .inr (5, [.ref qtC, .int tL])), (qtC, .inl (kC, 240, .inl tC))]) [0, 1, 2] (by decide) rfl
    have hFc := va_free (wc := [(qr, .inr (3, [.ref qt, .int rP])), (qt, .inr (5, [.ref qtC, .int tL])), (qtC, .inl (kC, 240, .inl tC))]) hD hS hA [0, 1, 2] rfl
    refine va_calli (va_runV (As := []) (rest := []) ⟨hx, hb, hml, hown, hts⟩ (c_Reader_take l dC dI kI kC kZ kJ kB kS qr qt qtC H_1.size rP tL tC h) ⟨callB_of 0 hts (gA tb_265) rfl rfl rfl (hT _ tb_45) (hT _ tb_262) (by decide +kernel) ⟨Nat.le_of_ble_eq_true rfl, Nat.le_of_ble_eq_true rfl⟩, (hT _ tb_264), (hT _ tb_1)⟩ ⟨fun a U g mk q => by obtain ⟨q0, q1, qP, qK, qD, qN⟩ := q; exact ⟨q0, q1, qP, va_K.moved (u := U) (U := U.calling g mk a) (Vm.Alike.refl U.vm) qK, qD, vNE.same (U := U.calling g mk a) rfl qN⟩, va_recv hK hP rfl (q0 := 0) rfl, fun U hU hW => ⟨rfl, by rw [hU], by rw [hU]; exact hPc, va_K.moved hW.alike hK, hDc.weaken (fun _ _ _ _ => trivial), vNE.moved hW hN⟩⟩ rfl rfl hl.1 rfl (lv_room (Nat.le_of_ble_eq_true rfl)) d_Reader_readWeight_12 ⟨Nat.zero_le _, Nat.zero_le _⟩) hS (fun q _ h => hFc q h) hFc (fun r12 u t H_12 locs ht hvm h hB hz1 hk1 hS => ?_)
    obtain ⟨rP_12, rfl⟩ : ∃ z, z = u := ⟨_, rfl⟩
    obtain ⟨hP1, hK1, hD1⟩ := hB
    rw [ht] at hP1
    try dsimp only at h
    obtain ⟨hP, hD⟩ := va_join (wr := []) (w1 := [(qr, .inr (3, [.ref qt, .int rP_12])), (qt, .inr (5, [.ref qtC, .int tL])), (qtC, .inl (kC, 240, .inl tC))]) hP hD [0, 1, 2] [] rfl rfl (by decide) (by decide) hk1 hFc hP1 hD1
    have hP : va_P (dC, dI) vwCl [(qr, .inr (3, [.ref qt, .int rP_12])), (qt, .inr (5, [.ref qtC, .int tL])), (qtC, .inl (kC, 240, .inl tC))] H_12 := hP.sub (ws' := [(qr, .inr (3, [.ref qt, .int rP_12])), (qt, .inr (5, [.ref qtC, .int tL])), (qtC, .inl (kC, 240, .inl tC))]) [0, 1, 2] rfl
    have hD : va_D A [(qr, .inr (3, [.ref qt, .int rP_12])), (qt, .inr (5, [.ref qtC, .int tL])), (qtC, .inl (kC, 240, .inl tC))] := hD.sub (ws' := [(qr, .inr (3, [.ref qt, .int rP_12])), (qt, .inr (5, [.ref qtC, .int tL])), (qtC, .inl (kC, 240, .inl tC))]) [0, 1, 2] (by decide) rfl
    refine lv_pop hx hb d_Reader_readWeight_15 rfl ?_
    refine lv_iconst (v := 0) hx hb d_Reader_readWeight_16 (by decide) ?_
    refine lv_istore_n hx hb d_Reader_readWeight_17 rfl hl (by decide) rfl (fun ls hl => ?_)
    have hl : lv_has ls 3 [(1, .int (0 : Int32)), (0, .ref qr)] := hl
    refine lv_iconst (v := 0) hx hb d_Reader_readWeight_18 (by decide) ?_
    refine lv_istore_n hx hb d_Reader_readWeight_19 rfl hl (by decide) rfl (fun ls hl => ?_)
    have hl : lv_has ls 3 [(2, .int (0 : Int32)), (1, .int (0 : Int32)), (0, .ref qr)] := hl
    obtain ⟨k20, h⟩ := h
    exact L20 k20 (0 : Int32) (0 : Int32) rP_12 _ _ _ h (lv_sub hl [2, 1, 0] rfl) hP hD hS
  · have h := h.2 hc
    refine lv_iconst (v := 1) hx hb d_Reader_readWeight_9 (by decide) ?_
    exact W.iret (v := (1 : Int32)) hx hb hr (fun t ht hW => ⟨⟨(1 : Int32), rP, rfl, h, by rw [ht]; exact hP, va_K.moved hW.alike hK, hD⟩, hS.F ht⟩) hS.2.2 d_Reader_readWeight_10

def v_Reader_readRule (rP : Int32) (tL : Int32) (tC : Nat → Int32) (gN : Int32) (gH : Nat → Int32) (gS : Nat → Int32) (gL : Nat → Int32) (gW : Nat → Int32) (post : Int32 → Int32 → Int32 → (Nat → Int32) → (Nat → Int32) → (Nat → Int32) → (Nat → Int32) → Prop) : Prop :=
  (v_Reader_take rP tL tC (fun r6 rP_6 => (v_RT_isLetter r6 (fun r11 => ((r11 = 0 → (post (0 : Int32) rP_6 gN gH gS gL gW)) ∧ (¬ r11 = 0 → (v_Reader_take rP_6 tL tC (fun r18 rP_18 => ((r18 = (61 : Int32) → (v_Reader_readBody gN rP_18 tL tC gS gL (fun r29 rP_29 gS_29 gL_29 => ((r29 = 0 → (post (0 : Int32) rP_29 gN gH gS_29 gL_29 gW)) ∧ (¬ r29 = 0 → (v_Reader_readWeight rP_29 tL tC (fun r38 rP_38 => ((r38 < 0 → (post (0 : Int32) rP_38 gN gH gS_29 gL_29 gW)) ∧ (¬ r38 < 0 → (v_Reader_take rP_38 tL tC (fun r49 rP_49 => ((r49 = (59 : Int32) → (vp_in gN 14 ∧ (vp_in gN 14 ∧ (v_Grammar_hasTwinBefore gN (upd gH gN.toNatClampNeg r6) gS_29 (fun r86 => ((r86 = 0 → (post (1 : Int32) rP_49 (gN + (1 : Int32)) (upd gH gN.toNatClampNeg r6) gS_29 gL_29 (upd gW gN.toNatClampNeg r38))) ∧ (¬ r86 = 0 → (post (0 : Int32) rP_49 (gN + (1 : Int32)) (upd gH gN.toNatClampNeg r6) gS_29 gL_29 (upd gW gN.toNatClampNeg r38))))))))) ∧ (¬ r49 = (59 : Int32) → (post (0 : Int32) rP_49 gN gH gS_29 gL_29 gW)))))))))))))) ∧ (¬ r18 = (61 : Int32) → (post (0 : Int32) rP_18 gN gH gS gL gW)))))))))))
set_option maxHeartbeats 1000000 in
set_option maxRecDepth 100000 in
theorem c_Reader_readRule (l : Launch) (dC : Nat → ClassId) (dI : Nat → Nat → Nat) (kI kC kZ kJ kB kS : ClassId) (qr qt qtC qg qgH qgS qgL qgW qgU qgO : Nat) (sz : Nat) (rP : Int32) (tL : Int32) (tC : Nat → Int32) (gN : Int32) (gD : Int32) (gH : Nat → Int32) (gS : Nat → Int32) (gL : Nat → Int32) (gW : Nat → Int32) {post : Int32 → Int32 → Int32 → (Nat → Int32) → (Nat → Int32) → (Nat → Int32) → (Nat → Int32) → Prop} (h : v_Reader_readRule rP tL tC gN gH gS gL gW post) : Met l y_Reader_readRule w_Reader_readRule ({ frames := 3, cells := 0, slots := 0, locals := 65 }) (va_Pc [.ref qr, .ref qg] (fun U => U.heap.size = sz ∧ va_P (dC, dI) vwCl [(qr, .inr (3, [.ref qt, .int rP])), (qt, .inr (5, [.ref qtC, .int tL])), (qtC, .inl (kC, 240, .inl tC)), (qg, .inr (2, [.int gN, .ref qgH, .ref qgS, .ref qgL, .ref qgW, .ref qgU, .ref qgO, .int gD])), (qgH, .inl (kI, 14, .inl gH)), (qgS, .inl (kI, 42, .inl gS)), (qgL, .inl (kI, 14, .inl gL)), (qgW, .inl (kI, 14, .inl gW))] U.heap ∧ va_K (dC, dI) vwCl (vTY kI kC kZ kJ kB kS) U ∧ va_D (fun _ => True) [(qr, .inr (3, [.ref qt, .int rP])), (qt, .inr (5, [.ref qtC, .int tL])), (qtC, .inl (kC, 240, .inl tC)), (qg, .inr (2, [.int gN, .ref qgH, .ref qgS, .ref qgL, .ref qgW, .ref qgU, .ref qgO, .int gD])), (qgH, .inl (kI, 14, .inl gH)), (qgS, .inl (kI, 42, .inl gS)), (qgL, .inl (kI, 14, .inl gL)), (qgW, .inl (kI, 14, .inl gW))] ∧ vNE U)) (va_Qi (fun (r : Int32) (u : Int32 × Int32 × (Nat → Int32) × (Nat → Int32) × (Nat → Int32) × (Nat → Int32)) => post r u.1 u.2.1 u.2.2.1 u.2.2.2.1 u.2.2.2.2.1 u.2.2.2.2.2) (fun u t => va_P (dC, dI) vwCl [(qr, .inr (3, [.ref qt, .int u.1])), (qt, .inr (5, [.ref qtC, .int tL])), (qtC, .inl (kC, 240, .inl tC)), (qg, .inr (2, [.int u.2.1, .ref qgH, .ref qgS, .ref qgL, .ref qgW, .ref qgU, .ref qgO, .int gD])), (qgH, .inl (kI, 14, .inl u.2.2.1)), (qgS, .inl (kI, 42, .inl u.2.2.2.1)), (qgL, .inl (kI, 14, .inl u.2.2.2.2.1)), (qgW, .inl (kI, 14, .inl u.2.2.2.2.2))] t.heap ∧ va_K (dC, dI) vwCl (vTY kI kC kZ kJ kB kS) t ∧ va_D (va_A [(qr, .inr (3, [.ref qt, .int rP])), (qt, .inr (5, [.ref qtC, .int tL])), (qtC, .inl (kC, 240, .inl tC)), (qg, .inr (2, [.int gN, .ref qgH, .ref qgS, .ref qgL, .ref qgW, .ref qgU, .ref qgO, .int gD])), (qgH, .inl (kI, 14, .inl gH)), (qgS, .inl (kI, 42, .inl gS)), (qgL, .inl (kI, 14, .inl gL)), (qgW, .inl (kI, 14, .inl gW))] sz) [(qr, .inr (3, [.ref qt, .int u.1])), (qt, .inr (5, [.ref qtC, .int tL])), (qtC, .inl (kC, 240, .inl tC)), (qg, .inr (2, [.int u.2.1, .ref qgH, .ref qgS, .ref qgL, .ref qgW, .ref qgU, .ref qgO, .int gD])), (qgH, .inl (kI, 14, .inl u.2.2.1)), (qgS, .inl (kI, 42, .inl u.2.2.2.1)), (qgL, .inl (kI, 14, .inl u.2.2.2.2.1)), (qgW, .inl (kI, 14, .inl u.2.2.2.2.2))]) (va_A [(qr, .inr (3, [.ref qt, .int rP])), (qt, .inr (5, [.ref qtC, .int tL])), (qtC, .inl (kC, 240, .inl tC)), (qg, .inr (2, [.int gN, .ref qgH, .ref qgS, .ref qgL, .ref qgW, .ref qgU, .ref qgO, .int gD])), (qgH, .inl (kI, 14, .inl gH)), (qgS, .inl (kI, 42, .inl gS)), (qgL, .inl (kI, 14, .inl gL)), (qgW, .inl (kI, 14, .inl gW))] sz)) 0 0 (va_A [(qr, .inr (3, [.ref qt, .int rP])), (qt, .inr (5, [.ref qtC, .int tL])), (qtC, .inl (kC, 240, .inl tC)), (qg, .inr (2, [.int gN, .ref qgH, .ref qgS, .ref qgL, .ref qgW, .ref qgU, .ref qgO, .int gD])), (qgH, .inl (kI, 14, .inl gH)), (qgS, .inl (kI, 42, .inl gS)), (qgL, .inl (kI, 14, .inl gL)), (qgW, .inl (kI, 14, .inl gW))] sz) := by
  refine Met.ofW (cc := b_Reader_readRule) (maxL := 5) (ret := (some .boolean)) (by decide) rfl ?_
  intro p e s m args below meth c s₁ B hml hv
  obtain ⟨rfl, hsz, hP, hK, hD0, hN⟩ := hv
  have hx := B.exec
  have hb := B.bytes
  have hr := B.returns
  have hts := atoms_spec (ws := w_Reader_readRule) B.pre
  have hT : ∀ w ∈ TB, w.before ([.ref qr, .ref qg] : List Value).toArray s = true := fun w h => hts w (List.mem_cons_of_mem _ h)
  have hown : s.vm.findClass R_Reader = some m.cls := findClass_of_methodNamed B.named
  have hlocks := B.notSynchronized
  subst hsz
  have hD := hD0.self (sz := s.heap.size)
  generalize hAe : va_A [(qr, .inr (3, [.ref qt, .int rP])), (qt, .inr (5, [.ref qtC, .int tL])), (qtC, .inl (kC, 240, .inl tC)), (qg, .inr (2, [.int gN, .ref qgH, .ref qgS, .ref qgL, .ref qgW, .ref qgU, .ref qgO, .int gD])), (qgH, .inl (kI, 14, .inl gH)), (qgS, .inl (kI, 42, .inl gS)), (qgL, .inl (kI, 14, .inl gL)), (qgW, .inl (kI, 14, .inl gW))] s.heap.size = A at hD ⊢
  have hA : ∀ q : Nat, s.heap.size ≤ q → A q := fun q h => by rw [← hAe]; exact Or.inr h
  have hS : va_S A s.heap s.heap [] := va_S.rf
  have hl := lv_entry ([.ref qr, .ref qg]) (n := 5) (Nat.le_of_ble_eq_true rfl)
  rw [lg_entry_eq]
  generalize (lg_sl ([.ref qr, .ref qg]) ++ List.replicate (5 - (lg_sl ([.ref qr, .ref qg])).length) Slot.unset).toArray = ls at hl ⊢
  have hl : lv_has ls 5 [(0, .ref qr), (1, .ref qg)] := hl
  unfold v_Reader_readRule at h
  refine lv_aload_n hx hb d_Reader_readRule_0 rfl (lv_at hl 1 rfl) ?_
  refine va_get (D := (dC, dI)) (ci := 2) (v := .int gN) (C := R_Grammar) (T := T_Grammar) (N := 8) hx hb hT hn_Grammar hown hK hP 3 rfl rfl 0 (by decide) (hT _ tb_118) (fun _ h9 => h9) rfl d_Reader_readRule_1 ?_
  refine lv_istore_n hx hb d_Reader_readRule_4 rfl hl (by decide) rfl (fun ls hl => ?_)
  have hl : lv_has ls 5 [(2, .int gN), (0, .ref qr), (1, .ref qg)] := hl
  refine lv_aload_n hx hb d_Reader_readRule_5 rfl (lv_at hl 1 rfl) ?_
  have hPc := hP.sub (ws' := [(qr, .inr (3, [.ref qt, .int rP])), (qt, .inr (5, [.ref qtC, .int tL])), (qtC, .inl (kC, 240, .inl tC))]) [0, 1, 2] rfl
  have hDc := hD.sub (ws' := [(qr, .inr (3, [.ref qt, .int rP])), (qt, .inr (5, [.ref qtC, .int tL])), (qtC, .inl (kC, 240, .inl tC))]) [0, 1, 2] (by decide) rfl
  have hFc := va_free (wc := [(qr, .inr (3, [.ref qt, .int rP])), (qt, .inr (5, [.ref qtC, .int tL])), (qtC, .inl (kC, 240, .inl tC))]) hD hS hA [0, 1, 2] rfl
  refine va_calli (va_runV (As := []) (rest := []) ⟨hx, hb, hml, hown, hts⟩ (c_Reader_take l dC dI kI kC kZ kJ kB kS qr qt qtC s.heap.size rP tL tC h) ⟨callB_of 0 hts (gA tb_265) rfl rfl rfl (hT _ tb_45) (hT _ tb_262) (by decide +kernel) ⟨Nat.le_of_ble_eq_true rfl, Nat.le_of_ble_eq_true rfl⟩, (hT _ tb_264), (hT _ tb_1)⟩ ⟨fun a U g mk q => by obtain ⟨q0, q1, qP, qK, qD, qN⟩ := q; exact ⟨q0, q1, qP, va_K.moved (u := U) (U := U.calling g mk a) (Vm.Alike.refl U.vm) qK, qD, vNE.same (U := U.calling g mk a) rfl qN⟩, va_recv hK hP rfl (q0 := 0) rfl, fun U hU hW => ⟨rfl, by rw [hU], by rw [hU]; exact hPc, va_K.moved hW.alike hK, hDc.weaken (fun _ _ _ _ => trivial), vNE.moved hW hN⟩⟩ rfl rfl hl.1 rfl (lv_room (Nat.le_of_ble_eq_true rfl)) d_Reader_readRule_6 ⟨Nat.zero_le _, Nat.zero_le _⟩) hS (fun q _ h => hFc q h) hFc (fun r6 u t H_6 locs ht hvm h hB hz1 hk1 hS => ?_)
  obtain ⟨rP_6, rfl⟩ : ∃ z, z = u := ⟨_, rfl⟩
  obtain ⟨hP1, hK1, hD1⟩ := hB
  rw [ht] at hP1
  try dsimp only at h
  obtain ⟨hP, hD⟩ := va_join (wr := [(qg, .inr (2, [.int gN, .ref qgH, .ref qgS, .ref qgL, .ref qgW, .ref qgU, .ref qgO, .int gD])), (qgH, .inl (kI, 14, .inl gH)), (qgS, .inl (kI, 42, .inl gS)), (qgL, .inl (kI, 14, .inl gL)), (qgW, .inl (kI, 14, .inl gW))]) (w1 := [(qr, .inr (3, [.ref qt, .int rP_6])), (qt, .inr (5, [.ref qtC, .int tL])), (qtC, .inl (kC, 240, .inl tC))]) hP hD [0, 1, 2] [3, 4, 5, 6, 7] rfl rfl (by decide) (by decide) hk1 hFc hP1 hD1
  have hP : va_P (dC, dI) vwCl [(qr, .inr (3, [.ref qt, .int rP_6])), (qt, .inr (5, [.ref qtC, .int tL])), (qtC, .inl (kC, 240, .inl tC)), (qg, .inr (2, [.int gN, .ref qgH, .ref qgS, .ref qgL, .ref qgW, .ref qgU, .ref qgO, .int gD])), (qgH, .inl (kI, 14, .inl gH)), (qgS, .inl (kI, 42, .inl gS)), (qgL, .inl (kI, 14, .inl gL)), (qgW, .inl (kI, 14, .inl gW))] H_6 := hP.sub (ws' := [(qr, .inr (3, [.ref qt, .int rP_6])), (qt, .inr (5, [.ref qtC, .int tL])), (qtC, .inl (kC, 240, .inl tC)), (qg, .inr (2, [.int gN, .ref qgH, .ref qgS, .ref qgL, .ref qgW, .ref qgU, .ref qgO, .int gD])), (qgH, .inl (kI, 14, .inl gH)), (qgS, .inl (kI, 42, .inl gS)), (qgL, .inl (kI, 14, .inl gL)), (qgW, .inl (kI, 14, .inl gW))]) [5, 6, 7, 0, 1, 2, 3, 4] rfl
  have hD : va_D A [(qr, .inr (3, [.ref qt, .int rP_6])), (qt, .inr (5, [.ref qtC, .int tL])), (qtC, .inl (kC, 240, .inl tC)), (qg, .inr (2, [.int gN, .ref qgH, .ref qgS, .ref qgL, .ref qgW, .ref qgU, .ref qgO, .int gD])), (qgH, .inl (kI, 14, .inl gH)), (qgS, .inl (kI, 42, .inl gS)), (qgL, .inl (kI, 14, .inl gL)), (qgW, .inl (kI, 14, .inl gW))] := hD.sub (ws' := [(qr, .inr (3, [.ref qt, .int rP_6])), (qt, .inr (5, [.ref qtC, .int tL])), (qtC, .inl (kC, 240, .inl tC)), (qg, .inr (2, [.int gN, .ref qgH, .ref qgS, .ref qgL, .ref qgW, .ref qgU, .ref qgO, .int gD])), (qgH, .inl (kI, 14, .inl gH)), (qgS, .inl (kI, 42, .inl gS)), (qgL, .inl (kI, 14, .inl gL)), (qgW, .inl (kI, 14, .inl gW))]) [5, 6, 7, 0, 1, 2, 3, 4] (by decide) rfl
  refine lv_istore_n hx hb d_Reader_readRule_9 rfl hl (by decide) rfl (fun ls hl => ?_)
  have hl : lv_has ls 5 [(3, .int r6), (2, .int gN), (0, .ref qr), (1, .ref qg)] := hl
  refine lv_iload_n hx hb d_Reader_readRule_10 rfl (lv_at hl 0 rfl) ?_
  have hPc := hP.sub (ws' := []) [] rfl
  have hDc := hD.sub (ws' := []) [] (by decide) rfl
  have hFc := va_free (wc := []) hD hS hA [] rfl
  refine va_calli (va_runSN (As := [.int r6]) (rest := []) ⟨hx, hb, hml, hown, hts⟩ (c_RT_isLetter l dC dI kI kC kZ kJ kB kS H_6.size r6 h) ⟨va_cnB 1 hts (gA tb_272) rfl rfl rfl (nE_270 hN) (hT _ tb_43) (by decide +kernel) ⟨Nat.le_of_ble_eq_true rfl, Nat.le_of_ble_eq_true rfl⟩, (hT _ tb_271), trivial⟩ ⟨fun a U g mk q => by obtain ⟨q0, q1, qP, qK, qD, qN⟩ := q; exact ⟨q0, q1, qP, va_K.moved (u := U) (U := U.calling g mk a) (Vm.Alike.refl U.vm) qK, qD, vNE.same (U := U.calling g mk a) rfl qN⟩, fun U hU hW => ⟨rfl, by rw [hU], by rw [hU]; exact hPc, va_K.moved hW.alike hK, hDc.weaken (fun _ _ _ _ => trivial), vNE.moved hW hN⟩⟩ rfl rfl hl.1 rfl (lv_room (Nat.le_of_ble_eq_true rfl)) d_Reader_readRule_11 ⟨Nat.zero_le _, Nat.zero_le _⟩) hS (fun q _ h => hFc q h) hFc (fun r11 u t H_11 locs ht hvm h hB hz1 hk1 hS => ?_)
  obtain ⟨hP1, hK1, hD1⟩ := hB
  rw [ht] at hP1
  try dsimp only at h
  obtain ⟨hP, hD⟩ := va_join (wr := [(qr, .inr (3, [.ref qt, .int rP_6])), (qt, .inr (5, [.ref qtC, .int tL])), (qtC, .inl (kC, 240, .inl tC)), (qg, .inr (2, [.int gN, .ref qgH, .ref qgS, .ref qgL, .ref qgW, .ref qgU, .ref qgO, .int gD])), (qgH, .inl (kI, 14, .inl gH)), (qgS, .inl (kI, 42, .inl gS)), (qgL, .inl (kI, 14, .inl gL)), (qgW, .inl (kI, 14, .inl gW))]) (w1 := []) hP hD [] [0, 1, 2, 3, 4, 5, 6, 7] rfl rfl (by decide) (by decide) hk1 hFc hP1 hD1
  have hP : va_P (dC, dI) vwCl [(qr, .inr (3, [.ref qt, .int rP_6])), (qt, .inr (5, [.ref qtC, .int tL])), (qtC, .inl (kC, 240, .inl tC)), (qg, .inr (2, [.int gN, .ref qgH, .ref qgS, .ref qgL, .ref qgW, .ref qgU, .ref qgO, .int gD])), (qgH, .inl (kI, 14, .inl gH)), (qgS, .inl (kI, 42, .inl gS)), (qgL, .inl (kI, 14, .inl gL)), (qgW, .inl (kI, 14, .inl gW))] H_11 := hP.sub (ws' := [(qr, .inr (3, [.ref qt, .int rP_6])), (qt, .inr (5, [.ref qtC, .int tL])), (qtC, .inl (kC, 240, .inl tC)), (qg, .inr (2, [.int gN, .ref qgH, .ref qgS, .ref qgL, .ref qgW, .ref qgU, .ref qgO, .int gD])), (qgH, .inl (kI, 14, .inl gH)), (qgS, .inl (kI, 42, .inl gS)), (qgL, .inl (kI, 14, .inl gL)), (qgW, .inl (kI, 14, .inl gW))]) [0, 1, 2, 3, 4, 5, 6, 7] rfl
  have hD : va_D A [(qr, .inr (3, [.ref qt, .int rP_6])), (qt, .inr (5, [.ref qtC, .int tL])), (qtC, .inl (kC, 240, .inl tC)), (qg, .inr (2, [.int gN, .ref qgH, .ref qgS, .ref qgL, .ref qgW, .ref qgU, .ref qgO, .int gD])), (qgH, .inl (kI, 14, .inl gH)), (qgS, .inl (kI, 42, .inl gS)), (qgL, .inl (kI, 14, .inl gL)), (qgW, .inl (kI, 14, .inl gW))] := hD.sub (ws' := [(qr, .inr (3, [.ref qt, .int rP_6])), (qt, .inr (5, [.ref qtC, .int tL])), (qtC, .inl (kC, 240, .inl tC)), (qg, .inr (2, [.int gN, .ref qgH, .ref qgS, .ref qgL, .ref qgW, .ref qgU, .ref qgO, .int gD])), (qgH, .inl (kI, 14, .inl gH)), (qgS, .inl (kI, 42, .inl gS)), (qgL, .inl (kI, 14, .inl gL)), (qgW, .inl (kI, 14, .inl gW))]) [0, 1, 2, 3, 4, 5, 6, 7] (by decide) rfl
  refine lv_if_eq hx hb d_Reader_readRule_14 (tgt := 35) (by decide) (fun hc => ?_) (fun hc => ?_)
  · have h := h.1 hc
    refine lv_iconst (v := 0) hx hb d_Reader_readRule_35 (by decide) ?_
    exact W.zret (ty := .boolean) (v := (0 : Int32)) hx hb hr rfl (fun t ht hW => ⟨⟨(0 : Int32), (rP_6, gN, gH, gS, gL, gW), rfl, h, by rw [ht]; exact hP, va_K.moved hW.alike hK, hD⟩, hS.F ht⟩) hS.2.2 d_Reader_readRule_36
  · have h := h.2 hc
    refine lv_aload_n hx hb d_Reader_readRule_17 rfl (lv_at hl 2 rfl) ?_
    have hPc := hP.sub (ws' := [(qr, .inr (3, [.ref qt, .int rP_6])), (qt, .inr (5, [.ref qtC, .int tL])), (qtC, .inl (kC, 240, .inl tC))]) [0, 1, 2] rfl
    have hDc := hD.sub (ws' := [(qr, .inr (3, [.ref qt, .int rP_6])), (qt, .inr (5, [.ref qtC, .int tL])), (qtC, .inl (kC, 240, .inl tC))]) [0, 1, 2] (by decide) rfl
    have hFc := va_free (wc := [(qr, .inr (3, [.ref qt, .int rP_6])), (qt, .inr (5, [.ref qtC, .int tL])), (qtC, .inl (kC, 240, .inl tC))]) hD hS hA [0, 1, 2] rfl
    refine va_calli (va_runV (As := []) (rest := []) ⟨hx, hb, hml, hown, hts⟩ (c_Reader_take l dC dI kI kC kZ kJ kB kS qr qt qtC H_11.size rP_6 tL tC h) ⟨callB_of 0 hts (gA tb_265) rfl rfl rfl (hT _ tb_45) (hT _ tb_262) (by decide +kernel) ⟨Nat.le_of_ble_eq_true rfl, Nat.le_of_ble_eq_true rfl⟩, (hT _ tb_264), (hT _ tb_1)⟩ ⟨fun a U g mk q => by obtain ⟨q0, q1, qP, qK, qD, qN⟩ := q; exact ⟨q0, q1, qP, va_K.moved (u := U) (U := U.calling g mk a) (Vm.Alike.refl U.vm) qK, qD, vNE.same (U := U.calling g mk a) rfl qN⟩, va_recv hK hP rfl (q0 := 0) rfl, fun U hU hW => ⟨rfl, by rw [hU], by rw [hU]; exact hPc, va_K.moved hW.alike hK, hDc.weaken (fun _ _ _ _ => trivial), vNE.moved hW hN⟩⟩ rfl rfl hl.1 rfl (lv_room (Nat.le_of_ble_eq_true rfl)) d_Reader_readRule_18 ⟨Nat.zero_le _, Nat.zero_le _⟩) hS (fun q _ h => hFc q h) hFc (fun r18 u t H_18 locs ht hvm h hB hz1 hk1 hS => ?_)
    obtain ⟨rP_18, rfl⟩ : ∃ z, z = u := ⟨_, rfl⟩
    obtain ⟨hP1, hK1, hD1⟩ := hB
    rw [ht] at hP1
    try dsimp only at h
    obtain ⟨hP, hD⟩ := va_join (wr := [(qg, .inr (2, [.int gN, .ref qgH, .ref qgS, .ref qgL, .ref qgW, .ref qgU, .ref qgO, .int gD])), (qgH, .inl (kI, 14, .inl gH)), (qgS, .inl (kI, 42, .inl gS)), (qgL, .inl (kI, 14, .inl gL)), (qgW, .inl (kI, 14, .inl gW))]) (w1 := [(qr, .inr (3, [.ref qt, .int rP_18])), (qt, .inr (5, [.ref qtC, .int tL])), (qtC, .inl (kC, 240, .inl tC))]) hP hD [0, 1, 2] [3, 4, 5, 6, 7] rfl rfl (by decide) (by decide) hk1 hFc hP1 hD1
    have hP : va_P (dC, dI) vwCl [(qr, .inr (3, [.ref qt, .int rP_18])), (qt, .inr (5, [.ref qtC, .int tL])), (qtC, .inl (kC, 240, .inl tC)), (qg, .inr (2, [.int gN, .ref qgH, .ref qgS, .ref qgL, .ref qgW, .ref qgU, .ref qgO, .int gD])), (qgH, .inl (kI, 14, .inl gH)), (qgS, .inl (kI, 42, .inl gS)), (qgL, .inl (kI, 14, .inl gL)), (qgW, .inl (kI, 14, .inl gW))] H_18 := hP.sub (ws' := [(qr, .inr (3, [.ref qt, .int rP_18])), (qt, .inr (5, [.ref qtC, .int tL])), (qtC, .inl (kC, 240, .inl tC)), (qg, .inr (2, [.int gN, .ref qgH, .ref qgS, .ref qgL, .ref qgW, .ref qgU, .ref qgO, .int gD])), (qgH, .inl (kI, 14, .inl gH)), (qgS, .inl (kI, 42, .inl gS)), (qgL, .inl (kI, 14, .inl gL)), (qgW, .inl (kI, 14, .inl gW))]) [5, 6, 7, 0, 1, 2, 3, 4] rfl
    have hD : va_D A [(qr, .inr (3, [.ref qt, .int rP_18])), (qt, .inr (5, [.ref qtC, .int tL])), (qtC, .inl (kC, 240, .inl tC)), (qg, .inr (2, [.int gN, .ref qgH, .ref qgS, .ref qgL, .ref qgW, .ref qgU, .ref qgO, .int gD])), (qgH, .inl (kI, 14, .inl gH)), (qgS, .inl (kI, 42, .inl gS)), (qgL, .inl (kI, 14, .inl gL)), (qgW, .inl (kI, 14, .inl gW))] := hD.sub (ws' := [(qr, .inr (3, [.ref qt, .int rP_18])), (qt, .inr (5, [.ref qtC, .int tL])), (qtC, .inl (kC, 240, .inl tC)), (qg, .inr (2, [.int gN, .ref qgH, .ref qgS, .ref qgL, .ref qgW, .ref qgU, .ref qgO, .int gD])), (qgH, .inl (kI, 14, .inl gH)), (qgS, .inl (kI, 42, .inl gS)), (qgL, .inl (kI, 14, .inl gL)), (qgW, .inl (kI, 14, .inl gW))]) [5, 6, 7, 0, 1, 2, 3, 4] (by decide) rfl
    refine lv_bipush (v := 61) hx hb d_Reader_readRule_21 (by decide) ?_
    refine lv_icmp_ne hx hb d_Reader_readRule_23 (tgt := 35) (by decide) (fun hc => ?_) (fun hc => ?_)
    · have h := h.2 hc
      refine lv_iconst (v := 0) hx hb d_Reader_readRule_35 (by decide) ?_
      exact W.zret (ty := .boolean) (v := (0 : Int32)) hx hb hr rfl (fun t ht hW => ⟨⟨(0 : Int32), (rP_18, gN, gH, gS, gL, gW), rfl, h, by rw [ht]; exact hP, va_K.moved hW.alike hK, hD⟩, hS.F ht⟩) hS.2.2 d_Reader_readRule_36
    · have h := h.1 hc
      refine lv_aload_n hx hb d_Reader_readRule_26 rfl (lv_at hl 2 rfl) ?_
      refine lv_aload_n hx hb d_Reader_readRule_27 rfl (lv_at hl 3 rfl) ?_
      refine lv_iload_n hx hb d_Reader_readRule_28 rfl (lv_at hl 1 rfl) ?_
      have hPc := hP.sub (ws' := [(qr, .inr (3, [.ref qt, .int rP_18])), (qt, .inr (5, [.ref qtC, .int tL])), (qtC, .inl (kC, 240, .inl tC)), (qg, .inr (2, [.int gN, .ref qgH, .ref qgS, .ref qgL, .ref qgW, .ref qgU, .ref qgO, .int gD])), (qgS, .inl (kI, 42, .inl gS)), (qgL, .inl (kI, 14, .inl gL))]) [0, 1, 2, 3, 5, 6] rfl
      have hDc := hD.sub (ws' := [(qr, .inr (3, [.ref qt, .int rP_18])), (qt, .inr (5, [.ref qtC, .int tL])), (qtC, .inl (kC, 240, .inl tC)), (qg, .inr (2, [.int gN, .ref qgH, .ref qgS, .ref qgL, .ref qgW, .ref qgU, .ref qgO, .int gD])), (qgS, .inl (kI, 42, .inl gS)), (qgL, .inl (kI, 14, .inl gL))]) [0, 1, 2, 3, 5, 6] (by decide) rfl
      have hFc := va_free (wc := [(qr, .inr (3, [.ref qt, .int rP_18])), (qt, .inr (5, [.ref qtC, .int tL])), (qtC, .inl (kC, 240, .inl tC)), (qg, .inr (2, [.int gN, .ref qgH, .ref qgS, .ref qgL, .ref qgW, .ref qgU, .ref qgO, .int gD])), (qgS, .inl (kI, 42, .inl gS)), (qgL, .inl (kI, 14, .inl gL))]) hD hS hA [0, 1, 2, 3, 5, 6] rfl
      refine va_calli (va_runV (As := [.ref qg, .int gN]) (rest := []) ⟨hx, hb, hml, hown, hts⟩ (c_Reader_readBody l dC dI kI kC kZ kJ kB kS qr qt qtC qg qgH qgS qgL qgW qgU qgO H_18.size rP_18 tL tC gN gD gS gL gN h) ⟨callB_of 2 hts (gA tb_276) rfl rfl rfl (hT _ tb_45) (hT _ tb_273) (by decide +kernel) ⟨Nat.le_of_ble_eq_true rfl, Nat.le_of_ble_eq_true rfl⟩, (hT _ tb_275), (hT _ tb_3)⟩ ⟨fun a U g mk q => by obtain ⟨q0, q1, qP, qK, qD, qN⟩ := q; exact ⟨q0, q1, qP, va_K.moved (u := U) (U := U.calling g mk a) (Vm.Alike.refl U.vm) qK, qD, vNE.same (U := U.calling g mk a) rfl qN⟩, va_recv hK hP rfl (q0 := 0) rfl, fun U hU hW => ⟨rfl, by rw [hU], by rw [hU]; exact hPc, va_K.moved hW.alike hK, hDc.weaken (fun _ _ _ _ => trivial), vNE.moved hW hN⟩⟩ rfl rfl hl.1 rfl (lv_room (Nat.le_of_ble_eq_true rfl)) d_Reader_readRule_29 ⟨Nat.zero_le _, Nat.zero_le _⟩) hS (fun q _ h => hFc q h) hFc (fun r29 u t H_29 locs ht hvm h hB hz1 hk1 hS => ?_)
      obtain ⟨rP_29, gS_29, gL_29⟩ := u
      obtain ⟨hP1, hK1, hD1⟩ := hB
      rw [ht] at hP1
      try dsimp only at h
      obtain ⟨hP, hD⟩ := va_join (wr := [(qgH, .inl (kI, 14, .inl gH)), (qgW, .inl (kI, 14, .inl gW))]) (w1 := [(qr, .inr (3, [.ref qt, .int rP_29])), (qt, .inr (5, [.ref qtC, .int tL])), (qtC, .inl (kC, 240, .inl tC)), (qg, .inr (2, [.int gN, .ref qgH, .ref qgS, .ref qgL, .ref qgW, .ref qgU, .ref qgO, .int gD])), (qgS, .inl (kI, 42, .inl gS_29)), (qgL, .inl (kI, 14, .inl gL_29))]) hP hD [0, 1, 2, 3, 5, 6] [4, 7] rfl rfl (by decide) (by decide) hk1 hFc hP1 hD1
      have hP : va_P (dC, dI) vwCl [(qr, .inr (3, [.ref qt, .int rP_29])), (qt, .inr (5, [.ref qtC, .int tL])), (qtC, .inl (kC, 240, .inl tC)), (qg, .inr (2, [.int gN, .ref qgH, .ref qgS, .ref qgL, .ref qgW, .ref qgU, .ref qgO, .int gD])), (qgH, .inl (kI, 14, .inl gH)), (qgS, .inl (kI, 42, .inl gS_29)), (qgL, .inl (kI, 14, .inl gL_29)), (qgW, .inl (kI, 14, .inl gW))] H_29 := hP.sub (ws' := [(qr, .inr (3, [.ref qt, .int rP_29])), (qt, .inr (5, [.ref qtC, .int tL])), (qtC, .inl (kC, 240, .inl tC)), (qg, .inr (2, [.int gN, .ref qgH, .ref qgS, .ref qgL, .ref qgW, .ref qgU, .ref qgO, .int gD])), (qgH, .inl (kI, 14, .inl gH)), (qgS, .inl (kI, 42, .inl gS_29)), (qgL, .inl (kI, 14, .inl gL_29)), (qgW, .inl (kI, 14, .inl gW))]) [2, 3, 4, 5, 0, 6, 7, 1] rfl
      have hD : va_D A [(qr, .inr (3, [.ref qt, .int rP_29])), (qt, .inr (5, [.ref qtC, .int tL])), (qtC, .inl (kC, 240, .inl tC)), (qg, .inr (2, [.int gN, .ref qgH, .ref qgS, .ref qgL, .ref qgW, .ref qgU, .ref qgO, .int gD])), (qgH, .inl (kI, 14, .inl gH)), (qgS, .inl (kI, 42, .inl gS_29)), (qgL, .inl (kI, 14, .inl gL_29)), (qgW, .inl (kI, 14, .inl gW))] := hD.sub (ws' := [(qr, .inr (3, [.ref qt, .int rP_29])), (qt, .inr (5, [.ref qtC, .int tL])), (qtC, .inl (kC, 240, .inl tC)), (qg, .inr (2, [.int gN, .ref qgH, .ref qgS, .ref qgL, .ref qgW, .ref qgU, .ref qgO, .int gD])), (qgH, .inl (kI, 14, .inl gH)), (qgS, .inl (kI, 42, .inl gS_29)), (qgL, .inl (kI, 14, .inl gL_29)), (qgW, .inl (kI, 14, .inl gW))]) [2, 3, 4, 5, 0, 6, 7, 1] (by decide) rfl
      refine lv_if_ne hx hb d_Reader_readRule_32 (tgt := 37) (by decide) (fun hc => ?_) (fun hc => ?_)
      · have h := h.2 hc
        refine lv_aload_n hx hb d_Reader_readRule_37 rfl (lv_at hl 2 rfl) ?_
        have hPc := hP.sub (ws' := [(qr, .inr (3, [.ref qt, .int rP_29])), (qt, .inr (5, [.ref qtC, .int tL])), (qtC, .inl (kC, 240, .inl tC))]) [0, 1, 2] rfl
        have hDc := hD.sub (ws' := [(qr, .inr (3, [.ref qt, .int rP_29])), (qt, .inr (5, [.ref qtC, .int tL])), (qtC, .inl (kC, 240, .inl tC))]) [0, 1, 2] (by decide) rfl
        have hFc := va_free (wc := [(qr, .inr (3, [.ref qt, .int rP_29])), (qt, .inr (5, [.ref qtC, .int tL])), (qtC, .inl (kC, 240, .inl tC))]) hD hS hA [0, 1, 2] rfl
        refine va_calli (va_runV (As := []) (rest := []) ⟨hx, hb, hml, hown, hts⟩ (c_Reader_readWeight l dC dI kI kC kZ kJ kB kS qr qt qtC H_29.size rP_29 tL tC h) ⟨callB_of 0 hts (gA tb_283) rfl rfl rfl (hT _ tb_45) (hT _ tb_280) (by decide +kernel) ⟨Nat.le_of_ble_eq_true rfl, Nat.le_of_ble_eq_true rfl⟩, (hT _ tb_282), (hT _ tb_4)⟩ ⟨fun a U g mk q => by obtain ⟨q0, q1, qP, qK, qD, qN⟩ := q; exact ⟨q0, q1, qP, va_K.moved (u := U) (U := U.calling g mk a) (Vm.Alike.refl U.vm) qK, qD, vNE.same (U := U.calling g mk a) rfl qN⟩, va_recv hK hP rfl (q0 := 0) rfl, fun U hU hW => ⟨rfl, by rw [hU], by rw [hU]; exact hPc, va_K.moved hW.alike hK, hDc.weaken (fun _ _ _ _ => trivial), vNE.moved hW hN⟩⟩ rfl rfl hl.1 rfl (lv_room (Nat.le_of_ble_eq_true rfl)) d_Reader_readRule_38 ⟨Nat.zero_le _, Nat.zero_le _⟩) hS (fun q _ h => hFc q h) hFc (fun r38 u t H_38 locs ht hvm h hB hz1 hk1 hS => ?_)
        obtain ⟨rP_38, rfl⟩ : ∃ z, z = u := ⟨_, rfl⟩
        obtain ⟨hP1, hK1, hD1⟩ := hB
        rw [ht] at hP1
        try dsimp only at h
        obtain ⟨hP, hD⟩ := va_join (wr := [(qg, .inr (2, [.int gN, .ref qgH, .ref qgS, .ref qgL, .ref qgW, .ref qgU, .ref qgO, .int gD])), (qgH, .inl (kI, 14, .inl gH)), (qgS, .inl (kI, 42, .inl gS_29)), (qgL, .inl (kI, 14, .inl gL_29)), (qgW, .inl (kI, 14, .inl gW))]) (w1 := [(qr, .inr (3, [.ref qt, .int rP_38])), (qt, .inr (5, [.ref qtC, .int tL])), (qtC, .inl (kC, 240, .inl tC))]) hP hD [0, 1, 2] [3, 4, 5, 6, 7] rfl rfl (by decide) (by decide) hk1 hFc hP1 hD1
        have hP : va_P (dC, dI) vwCl [(qr, .inr (3, [.ref qt, .int rP_38])), (qt, .inr (5, [.ref qtC, .int tL])), (qtC, .inl (kC, 240, .inl tC)), (qg, .inr (2, [.int gN, .ref qgH, .ref qgS, .ref qgL, .ref qgW, .ref qgU, .ref qgO, .int gD])), (qgH, .inl (kI, 14, .inl gH)), (qgS, .inl (kI, 42, .inl gS_29)), (qgL, .inl (kI, 14, .inl gL_29)), (qgW, .inl (kI, 14, .inl gW))] H_38 := hP.sub (ws' := [(qr, .inr (3, [.ref qt, .int rP_38])), (qt, .inr (5, [.ref qtC, .int tL])), (qtC, .inl (kC, 240, .inl tC)), (qg, .inr (2, [.int gN, .ref qgH, .ref qgS, .ref qgL, .ref qgW, .ref qgU, .ref qgO, .int gD])), (qgH, .inl (kI, 14, .inl gH)), (qgS, .inl (kI, 42, .inl gS_29)), (qgL, .inl (kI, 14, .inl gL_29)), (qgW, .inl (kI, 14, .inl gW))]) [5, 6, 7, 0, 1, 2, 3, 4] rfl
        have hD : va_D A [(qr, .inr (3, [.ref qt, .int rP_38])), (qt, .inr (5, [.ref qtC, .int tL])), (qtC, .inl (kC, 240, .inl tC)), (qg, .inr (2, [.int gN, .ref qgH, .ref qgS, .ref qgL, .ref qgW, .ref qgU, .ref qgO, .int gD])), (qgH, .inl (kI, 14, .inl gH)), (qgS, .inl (kI, 42, .inl gS_29)), (qgL, .inl (kI, 14, .inl gL_29)), (qgW, .inl (kI, 14, .inl gW))] := hD.sub (ws' := [(qr, .inr (3, [.ref qt, .int rP_38])), (qt, .inr (5, [.ref qtC, .int tL])), (qtC, .inl (kC, 240, .inl tC)), (qg, .inr (2, [.int gN, .ref qgH, .ref qgS, .ref qgL, .ref qgW, .ref qgU, .ref qgO, .int gD])), (qgH, .inl (kI, 14, .inl gH)), (qgS, .inl (kI, 42, .inl gS_29)), (qgL, .inl (kI, 14, .inl gL_29)), (qgW, .inl (kI, 14, .inl gW))]) [5, 6, 7, 0, 1, 2, 3, 4] (by decide) rfl
        refine lv_istore hx hb d_Reader_readRule_41 hl (by decide) rfl (fun ls hl => ?_)
        have hl : lv_has ls 5 [(4, .int r38), (3, .int r6), (2, .int gN), (0, .ref qr), (1, .ref qg)] := hl
        refine lv_iload hx hb d_Reader_readRule_43 (lv_at hl 0 rfl) ?_
        refine lv_if_lt hx hb d_Reader_readRule_45 (tgt := 57) (by decide) (fun hc => ?_) (fun hc => ?_)
        · have h := h.1 hc
          refine lv_iconst (v := 0) hx hb d_Reader_readRule_57 (by decide) ?_
          exact W.zret (ty := .boolean) (v := (0 : Int32)) hx hb hr rfl (fun t ht hW => ⟨⟨(0 : Int32), (rP_38, gN, gH, gS_29, gL_29, gW), rfl, h, by rw [ht]; exact hP, va_K.moved hW.alike hK, hD⟩, hS.F ht⟩) hS.2.2 d_Reader_readRule_58
        · have h := h.2 hc
          refine lv_aload_n hx hb d_Reader_readRule_48 rfl (lv_at hl 3 rfl) ?_
          have hPc := hP.sub (ws' := [(qr, .inr (3, [.ref qt, .int rP_38])), (qt, .inr (5, [.ref qtC, .int tL])), (qtC, .inl (kC, 240, .inl tC))]) [0, 1, 2] rfl
          have hDc := hD.sub (ws' := [(qr, .inr (3, [.ref qt, .int rP_38])), (qt, .inr (5, [.ref qtC, .int tL])), (qtC, .inl (kC, 240, .inl tC))]) [0, 1, 2] (by decide) rfl
          have hFc := va_free (wc := [(qr, .inr (3, [.ref qt, .int rP_38])), (qt, .inr (5, [.ref qtC, .int tL])), (qtC, .inl (kC, 240, .inl tC))]) hD hS hA [0, 1, 2] rfl
          refine va_calli (va_runV (As := []) (rest := []) ⟨hx, hb, hml, hown, hts⟩ (c_Reader_take l dC dI kI kC kZ kJ kB kS qr qt qtC H_38.size rP_38 tL tC h) ⟨callB_of 0 hts (gA tb_265) rfl rfl rfl (hT _ tb_45) (hT _ tb_262) (by decide +kernel) ⟨Nat.le_of_ble_eq_true rfl, Nat.le_of_ble_eq_true rfl⟩, (hT _ tb_264), (hT _ tb_1)⟩ ⟨fun a U g mk q => by obtain ⟨q0, q1, qP, qK, qD, qN⟩ := q; exact ⟨q0, q1, qP, va_K.moved (u := U) (U := U.calling g mk a) (Vm.Alike.refl U.vm) qK, qD, vNE.same (U := U.calling g mk a) rfl qN⟩, va_recv hK hP rfl (q0 := 0) rfl, fun U hU hW => ⟨rfl, by rw [hU], by rw [hU]; exact hPc, va_K.moved hW.alike hK, hDc.weaken (fun _ _ _ _ => trivial), vNE.moved hW hN⟩⟩ rfl rfl hl.1 rfl (lv_room (Nat.le_of_ble_eq_true rfl)) d_Reader_readRule_49 ⟨Nat.zero_le _, Nat.zero_le _⟩) hS (fun q _ h => hFc q h) hFc (fun r49 u t H_49 locs ht hvm h hB hz1 hk1 hS => ?_)
          obtain ⟨rP_49, rfl⟩ : ∃ z, z = u := ⟨_, rfl⟩
          obtain ⟨hP1, hK1, hD1⟩ := hB
          rw [ht] at hP1
          try dsimp only at h
          obtain ⟨hP, hD⟩ := va_join (wr := [(qg, .inr (2, [.int gN, .ref qgH, .ref qgS, .ref qgL, .ref qgW, .ref qgU, .ref qgO, .int gD])), (qgH, .inl (kI, 14, .inl gH)), (qgS, .inl (kI, 42, .inl gS_29)), (qgL, .inl (kI, 14, .inl gL_29)), (qgW, .inl (kI, 14, .inl gW))]) (w1 := [(qr, .inr (3, [.ref qt, .int rP_49])), (qt, .inr (5, [.ref qtC, .int tL])), (qtC, .inl (kC, 240, .inl tC))]) hP hD [0, 1, 2] [3, 4, 5, 6, 7] rfl rfl (by decide) (by decide) hk1 hFc hP1 hD1
          have hP : va_P (dC, dI) vwCl [(qr, .inr (3, [.ref qt, .int rP_49])), (qt, .inr (5, [.ref qtC, .int tL])), (qtC, .inl (kC, 240, .inl tC)), (qg, .inr (2, [.int gN, .ref qgH, .ref qgS, .ref qgL, .ref qgW, .ref qgU, .ref qgO, .int gD])), (qgH, .inl (kI, 14, .inl gH)), (qgS, .inl (kI, 42, .inl gS_29)), (qgL, .inl (kI, 14, .inl gL_29)), (qgW, .inl (kI, 14, .inl gW))] H_49 := hP.sub (ws' := [(qr, .inr (3, [.ref qt, .int rP_49])), (qt, .inr (5, [.ref qtC, .int tL])), (qtC, .inl (kC, 240, .inl tC)), (qg, .inr (2, [.int gN, .ref qgH, .ref qgS, .ref qgL, .ref qgW, .ref qgU, .ref qgO, .int gD])), (qgH, .inl (kI, 14, .inl gH)), (qgS, .inl (kI, 42, .inl gS_29)), (qgL, .inl (kI, 14, .inl gL_29)), (qgW, .inl (kI, 14, .inl gW))]) [5, 6, 7, 0, 1, 2, 3, 4] rfl
          have hD : va_D A [(qr, .inr (3, [.ref qt, .int rP_49])), (qt, .inr (5, [.ref qtC, .int tL])), (qtC, .inl (kC, 240, .inl tC)), (qg, .inr (2, [.int gN, .ref qgH, .ref qgS, .ref qgL, .ref qgW, .ref qgU, .ref qgO, .int gD])), (qgH, .inl (kI, 14, .inl gH)), (qgS, .inl (kI, 42, .inl gS_29)), (qgL, .inl (kI, 14, .inl gL_29)), (qgW, .inl (kI, 14, .inl gW))] := hD.sub (ws' := [(qr, .inr (3, [.ref qt, .int rP_49])), (qt, .inr (5, [.ref qtC, .int tL])), (qtC, .inl (kC, 240, .inl tC)), (qg, .inr (2, [.int gN, .ref qgH, .ref qgS, .ref qgL, .ref qgW, .ref qgU, .ref qgO, .int gD])), (qgH, .inl (kI, 14, .inl gH)), (qgS, .inl (kI, 42, .inl gS_29)), (qgL, .inl (kI, 14, .inl gL_29)), (qgW, .inl (kI, 14, .inl gW))]) [5, 6, 7, 0, 1, 2, 3, 4] (by decide) rfl
          refine lv_bipush (v := 59) hx hb d_Reader_readRule_52 (by decide) ?_
          refine lv_icmp_eq hx hb d_Reader_readRule_54 (tgt := 59) (by decide) (fun hc => ?_) (fun hc => ?_)
          · have h := h.1 hc
            refine lv_aload_n hx hb d_Reader_readRule_59 rfl (lv_at hl 4 rfl) ?_
            refine va_get (D := (dC, dI)) (ci := 2) (v := .ref qgH) (C := R_Grammar) (T := T_Grammar) (N := 8) hx hb hT hn_Grammar hown hK hP 3 rfl rfl 1 (by decide) (hT _ tb_122) (fun _ h9 => h9) rfl d_Reader_readRule_60 ?_
            refine lv_iload_n hx hb d_Reader_readRule_63 rfl (lv_at hl 2 rfl) ?_
            refine lv_iload_n hx hb d_Reader_readRule_64 rfl (lv_at hl 1 rfl) ?_
            refine va_iast hx hb hK hP hD hS 4 0 rfl rfl h.1 d_Reader_readRule_65 (fun H_65 locs hP hD hS => ?_)
            have hP : va_P (dC, dI) vwCl [(qr, .inr (3, [.ref qt, .int rP_49])), (qt, .inr (5, [.ref qtC, .int tL])), (qtC, .inl (kC, 240, .inl tC)), (qg, .inr (2, [.int gN, .ref qgH, .ref qgS, .ref qgL, .ref qgW, .ref qgU, .ref qgO, .int gD])), (qgH, .inl (kI, 14, .inl (upd gH gN.toNatClampNeg r6))), (qgS, .inl (kI, 42, .inl gS_29)), (qgL, .inl (kI, 14, .inl gL_29)), (qgW, .inl (kI, 14, .inl gW))] H_65 := hP
            have hD : va_D A [(qr, .inr (3, [.ref qt, .int rP_49])), (qt, .inr (5, [.ref qtC, .int tL])), (qtC, .inl (kC, 240, .inl tC)), (qg, .inr (2, [.int gN, .ref qgH, .ref qgS, .ref qgL, .ref qgW, .ref qgU, .ref qgO, .int gD])), (qgH, .inl (kI, 14, .inl (upd gH gN.toNatClampNeg r6))), (qgS, .inl (kI, 42, .inl gS_29)), (qgL, .inl (kI, 14, .inl gL_29)), (qgW, .inl (kI, 14, .inl gW))] := hD
            have h := h.2
            refine lv_aload_n hx hb d_Reader_readRule_66 rfl (lv_at hl 4 rfl) ?_
            refine va_get (D := (dC, dI)) (ci := 2) (v := .ref qgW) (C := R_Grammar) (T := T_Grammar) (N := 8) hx hb hT hn_Grammar hown hK hP 3 rfl rfl 4 (by decide) (hT _ tb_131) (fun _ h9 => h9) rfl d_Reader_readRule_67 ?_
            refine lv_iload_n hx hb d_Reader_readRule_70 rfl (lv_at hl 2 rfl) ?_
            refine lv_iload hx hb d_Reader_readRule_71 (lv_at hl 0 rfl) ?_
            refine va_iast hx hb hK hP hD hS 7 0 rfl rfl h.1 d_Reader_readRule_73 (fun H_73 locs hP hD hS => ?_)
            have hP : va_P (dC, dI) vwCl [(qr, .inr (3, [.ref qt, .int rP_49])), (qt, .inr (5, [.ref qtC, .int tL])), (qtC, .inl (kC, 240, .inl tC)), (qg, .inr (2, [.int gN, .ref qgH, .ref qgS, .ref qgL, .ref qgW, .ref qgU, .ref qgO, .int gD])), (qgH, .inl (kI, 14, .inl (upd gH gN.toNatClampNeg r6))), (qgS, .inl (kI, 42, .inl gS_29)), (qgL, .inl (kI, 14, .inl gL_29)), (qgW, .inl (kI, 14, .inl (upd gW gN.toNatClampNeg r38)))] H_73 := hP
            have hD : va_D A [(qr, .inr (3, [.ref qt, .int rP_49])), (qt, .inr (5, [.ref qtC, .int tL])), (qtC, .inl (kC, 240, .inl tC)), (qg, .inr (2, [.int gN, .ref qgH, .ref qgS, .ref qgL, .ref qgW, .ref qgU, .ref qgO, .int gD])), (qgH, .inl (kI, 14, .inl (upd gH gN.toNatClampNeg r6))), (qgS, .inl (kI, 42, .inl gS_29)), (qgL, .inl (kI, 14, .inl gL_29)), (qgW, .inl (kI, 14, .inl (upd gW gN.toNatClampNeg r38)))] := hD
            have h := h.2
            refine lv_aload_n hx hb d_Reader_readRule_74 rfl (lv_at hl 4 rfl) ?_
            refine lv_dup hx hb d_Reader_readRule_75 rfl ?_
            refine va_get (D := (dC, dI)) (ci := 2) (v := .int gN) (C := R_Grammar) (T := T_Grammar) (N := 8) hx hb hT hn_Grammar hown hK hP 3 rfl rfl 0 (by decide) (hT _ tb_118) (fun _ h9 => h9) rfl d_Reader_readRule_76 ?_
            refine lv_iconst (v := 1) hx hb d_Reader_readRule_79 (by decide) ?_
            refine lv_iadd hx hb d_Reader_readRule_80 ?_
            refine va_put (D := (dC, dI)) (ci := 2) (v := .int (gN + (1 : Int32))) (ty := .int) (C := R_Grammar) (T := T_Grammar) (N := 8) hx hb hT hn_Grammar t_Grammar tk_Grammar nk_Grammar hown hK hP hD hS 3 rfl rfl 0 (by decide) (hT _ tb_118) (fun _ h9 => h9) rfl (by decide +kernel) rfl rfl (Nat.le_of_ble_eq_true rfl) d_Reader_readRule_81 (fun H_81 locs hP hD hS => ?_)
            have hP : va_P (dC, dI) vwCl [(qr, .inr (3, [.ref qt, .int rP_49])), (qt, .inr (5, [.ref qtC, .int tL])), (qtC, .inl (kC, 240, .inl tC)), (qg, .inr (2, [.int (gN + (1 : Int32)), .ref qgH, .ref qgS, .ref qgL, .ref qgW, .ref qgU, .ref qgO, .int gD])), (qgH, .inl (kI, 14, .inl (upd gH gN.toNatClampNeg r6))), (qgS, .inl (kI, 42, .inl gS_29)), (qgL, .inl (kI, 14, .inl gL_29)), (qgW, .inl (kI, 14, .inl (upd gW gN.toNatClampNeg r38)))] H_81 := hP
            have hD : va_D A [(qr, .inr (3, [.ref qt, .int rP_49])), (qt, .inr (5, [.ref qtC, .int tL])), (qtC, .inl (kC, 240, .inl tC)), (qg, .inr (2, [.int (gN + (1 : Int32)), .ref qgH, .ref qgS, .ref qgL, .ref qgW, .ref qgU, .ref qgO, .int gD])), (qgH, .inl (kI, 14, .inl (upd gH gN.toNatClampNeg r6))), (qgS, .inl (kI, 42, .inl gS_29)), (qgL, .inl (kI, 14, .inl gL_29)), (qgW, .inl (kI, 14, .inl (upd gW gN.toNatClampNeg r38)))] := hD
            refine lv_aload_n hx hb d_Reader_readRule_84 rfl (lv_at hl 4 rfl) ?_
            refine lv_iload_n hx hb d_Reader_readRule_85 rfl (lv_at hl 2 rfl) ?_
            have hPc := hP.sub (ws' := [(qg, .inr (2, [.int (gN + (1 : Int32)), .ref qgH, .ref qgS, .ref qgL, .ref qgW, .ref qgU, .ref qgO, .int gD])), (qgH, .inl (kI, 14, .inl (upd gH gN.toNatClampNeg r6))), (qgS, .inl (kI, 42, .inl gS_29))]) [3, 4, 5] rfl
            have hDc := hD.sub (ws' := [(qg, .inr (2, [.int (gN + (1 : Int32)), .ref qgH, .ref qgS, .ref qgL, .ref qgW, .ref qgU, .ref qgO, .int gD])), (qgH, .inl (kI, 14, .inl (upd gH gN.toNatClampNeg r6))), (qgS, .inl (kI, 42, .inl gS_29))]) [3, 4, 5] (by decide) rfl
            have hFc := va_free (wc := [(qg, .inr (2, [.int (gN + (1 : Int32)), .ref qgH, .ref qgS, .ref qgL, .ref qgW, .ref qgU, .ref qgO, .int gD])), (qgH, .inl (kI, 14, .inl (upd gH gN.toNatClampNeg r6))), (qgS, .inl (kI, 42, .inl gS_29))]) hD hS hA [3, 4, 5] rfl
            refine va_calli (va_runV (As := [.int gN]) (rest := []) ⟨hx, hb, hml, hown, hts⟩ (c_Grammar_hasTwinBefore l dC dI kI kC kZ kJ kB kS qg qgH qgS qgL qgW qgU qgO H_81.size (gN + (1 : Int32)) gD (upd gH gN.toNatClampNeg r6) gS_29 gN h) ⟨callB_of 1 hts (gA tb_290) rfl rfl rfl (hT _ tb_47) (hT _ tb_287) (by decide +kernel) ⟨Nat.le_of_ble_eq_true rfl, Nat.le_of_ble_eq_true rfl⟩, (hT _ tb_288), (hT _ tb_289)⟩ ⟨fun a U g mk q => by obtain ⟨q0, q1, qP, qK, qD, qN⟩ := q; exact ⟨q0, q1, qP, va_K.moved (u := U) (U := U.calling g mk a) (Vm.Alike.refl U.vm) qK, qD, vNE.same (U := U.calling g mk a) rfl qN⟩, va_recv hK hP rfl (q0 := 3) rfl, fun U hU hW => ⟨rfl, by rw [hU], by rw [hU]; exact hPc, va_K.moved hW.alike hK, hDc.weaken (fun _ _ _ _ => trivial), vNE.moved hW hN⟩⟩ rfl rfl hl.1 rfl (lv_room (Nat.le_of_ble_eq_true rfl)) d_Reader_readRule_86 ⟨Nat.zero_le _, Nat.zero_le _⟩) hS (fun q _ h => hFc q h) hFc (fun r86 u t H_86 locs ht hvm h hB hz1 hk1 hS => ?_)
            obtain ⟨hP1, hK1, hD1⟩ := hB
            rw [ht] at hP1
            try dsimp only at h
            obtain ⟨hP, hD⟩ := va_join (wr := [(qr, .inr (3, [.ref qt, .int rP_49])), (qt, .inr (5, [.ref qtC, .int tL])), (qtC, .inl (kC, 240, .inl tC)), (qgL, .inl (kI, 14, .inl gL_29)), (qgW, .inl (kI, 14, .inl (upd gW gN.toNatClampNeg r38)))]) (w1 := [(qg, .inr (2, [.int (gN + (1 : Int32)), .ref qgH, .ref qgS, .ref qgL, .ref qgW, .ref qgU, .ref qgO, .int gD])), (qgH, .inl (kI, 14, .inl (upd gH gN.toNatClampNeg r6))), (qgS, .inl (kI, 42, .inl gS_29))]) hP hD [3, 4, 5] [0, 1, 2, 6, 7] rfl rfl (by decide) (by decide) hk1 hFc hP1 hD1
            have hP : va_P (dC, dI) vwCl [(qr, .inr (3, [.ref qt, .int rP_49])), (qt, .inr (5, [.ref qtC, .int tL])), (qtC, .inl (kC, 240, .inl tC)), (qg, .inr (2, [.int (gN + (1 : Int32)), .ref qgH, .ref qgS, .ref qgL, .ref qgW, .ref qgU, .ref qgO, .int gD])), (qgH, .inl (kI, 14, .inl (upd gH gN.toNatClampNeg r6))), (qgS, .inl (kI, 42, .inl gS_29)), (qgL, .inl (kI, 14, .inl gL_29)), (qgW, .inl (kI, 14, .inl (upd gW gN.toNatClampNeg r38)))] H_86 := hP.sub (ws' := [(qr, .inr (3, [.ref qt, .int rP_49])), (qt, .inr (5, [.ref qtC, .int tL])), (qtC, .inl (kC, 240, .inl tC)), (qg, .inr (2, [.int (gN + (1 : Int32)), .ref qgH, .ref qgS, .ref qgL, .ref qgW, .ref qgU, .ref qgO, .int gD])), (qgH, .inl (kI, 14, .inl (upd gH gN.toNatClampNeg r6))), (qgS, .inl (kI, 42, .inl gS_29)), (qgL, .inl (kI, 14, .inl gL_29)), (qgW, .inl (kI, 14, .inl (upd gW gN.toNatClampNeg r38)))]) [0, 1, 2, 5, 6, 7, 3, 4] rfl
            have hD : va_D A [(qr, .inr (3, [.ref qt, .int rP_49])), (qt, .inr (5, [.ref qtC, .int tL])), (qtC, .inl (kC, 240, .inl tC)), (qg, .inr (2, [.int (gN + (1 : Int32)), .ref qgH, .ref qgS, .ref qgL, .ref qgW, .ref qgU, .ref qgO, .int gD])), (qgH, .inl (kI, 14, .inl (upd gH gN.toNatClampNeg r6))), (qgS, .inl (kI, 42, .inl gS_29)), (qgL, .inl (kI, 14, .inl gL_29)), (qgW, .inl (kI, 14, .inl (upd gW gN.toNatClampNeg r38)))] := hD.sub (ws' := [(qr, .inr (3, [.ref qt, .int rP_49])), (qt, .inr (5, [.ref qtC, .int tL])), (qtC, .inl (kC, 240, .inl tC)), (qg, .inr (2, [.int (gN + (1 : Int32)), .ref qgH, .ref qgS, .ref qgL, .ref qgW, .ref qgU, .ref qgO, .int gD])), (qgH, .inl (kI, 14, .inl (upd gH gN.toNatClampNeg r6))), (qgS, .inl (kI, 42, .inl gS_29)), (qgL, .inl (kI, 14, .inl gL_29)), (qgW, .inl (kI, 14, .inl (upd gW gN.toNatClampNeg r38)))]) [0, 1, 2, 5, 6, 7, 3, 4] (by decide) rfl
            refine lv_if_ne hx hb d_Reader_readRule_89 (tgt := 96) (by decide) (fun hc => ?_) (fun hc => ?_)
            · have h := h.2 hc
              refine lv_iconst (v := 0) hx hb d_Reader_readRule_96 (by decide) ?_
              exact W.zret (ty := .boolean) (v := (0 : Int32)) hx hb hr rfl (fun t ht hW => ⟨⟨(0 : Int32), (rP_49, (gN + (1 : Int32)), (upd gH gN.toNatClampNeg r6), gS_29, gL_29, (upd gW gN.toNatClampNeg r38)), rfl, h, by rw [ht]; exact hP, va_K.moved hW.alike hK, hD⟩, hS.F ht⟩) hS.2.2 d_Reader_readRule_97
            · have h := h.1 hc
              refine lv_iconst (v := 1) hx hb d_Reader_readRule_92 (by decide) ?_
              refine lv_goto hx hb d_Reader_readRule_93 (tgt := 97) (by decide) ?_
              exact W.zret (ty := .boolean) (v := (1 : Int32)) hx hb hr rfl (fun t ht hW => ⟨⟨(1 : Int32), (rP_49, (gN + (1 : Int32)), (upd gH gN.toNatClampNeg r6), gS_29, gL_29, (upd gW gN.toNatClampNeg r38)), rfl, h, by rw [ht]; exact hP, va_K.moved hW.alike hK, hD⟩, hS.F ht⟩) hS.2.2 d_Reader_readRule_97
          · have h := h.2 hc
            refine lv_iconst (v := 0) hx hb d_Reader_readRule_57 (by decide) ?_
            exact W.zret (ty := .boolean) (v := (0 : Int32)) hx hb hr rfl (fun t ht hW => ⟨⟨(0 : Int32), (rP_49, gN, gH, gS_29, gL_29, gW), rfl, h, by rw [ht]; exact hP, va_K.moved hW.alike hK, hD⟩, hS.F ht⟩) hS.2.2 d_Reader_readRule_58
      · have h := h.1 hc
        refine lv_iconst (v := 0) hx hb d_Reader_readRule_35 (by decide) ?_
        exact W.zret (ty := .boolean) (v := (0 : Int32)) hx hb hr rfl (fun t ht hW => ⟨⟨(0 : Int32), (rP_29, gN, gH, gS_29, gL_29, gW), rfl, h, by rw [ht]; exact hP, va_K.moved hW.alike hK, hD⟩, hS.F ht⟩) hS.2.2 d_Reader_readRule_36

def v_Reader_readInto_L12 (post : Int32 → Int32 → Int32 → (Nat → Int32) → (Nat → Int32) → (Nat → Int32) → (Nat → Int32) → Prop) (tL : Int32) (tC : Nat → Int32) : Nat → Int32 → Int32 → Int32 → (Nat → Int32) → (Nat → Int32) → (Nat → Int32) → (Nat → Int32) → Prop
  | 0, _, _, _, _, _, _, _ => False
  | n12 + 1, x2, rP, gN, gH, gS, gL, gW =>
    (((14 : Int32) < x2 → (post (-15 : Int32) rP gN gH gS gL gW)) ∧ (¬ (14 : Int32) < x2 → (v_Reader_readRule rP tL tC gN gH gS gL gW (fun r20 rP_20 gN_20 gH_20 gS_20 gL_20 gW_20 => ((r20 = 0 → (post (-x2) rP_20 gN_20 gH_20 gS_20 gL_20 gW_20)) ∧ (¬ r20 = 0 → ((rP_20 < tL → ((v_Reader_readInto_L12 post tL tC n12) (x2 + 1) rP_20 gN_20 gH_20 gS_20 gL_20 gW_20)) ∧ (¬ rP_20 < tL → (post (0 : Int32) rP_20 gN_20 gH_20 gS_20 gL_20 gW_20)))))))))
def v_Reader_readInto (rP : Int32) (tL : Int32) (tC : Nat → Int32) (gN : Int32) (gH : Nat → Int32) (gS : Nat → Int32) (gL : Nat → Int32) (gW : Nat → Int32) (post : Int32 → Int32 → Int32 → (Nat → Int32) → (Nat → Int32) → (Nat → Int32) → (Nat → Int32) → Prop) : Prop :=
  (∃ k12, v_Reader_readInto_L12 post tL tC k12 (1 : Int32) (0 : Int32) (0 : Int32) gH gS gL gW)
set_option maxHeartbeats 1000000 in
set_option maxRecDepth 100000 in
theorem c_Reader_readInto (l : Launch) (dC : Nat → ClassId) (dI : Nat → Nat → Nat) (kI kC kZ kJ kB kS : ClassId) (qr qt qtC qg qgH qgS qgL qgW qgU qgO : Nat) (sz : Nat) (rP : Int32) (tL : Int32) (tC : Nat → Int32) (gN : Int32) (gD : Int32) (gH : Nat → Int32) (gS : Nat → Int32) (gL : Nat → Int32) (gW : Nat → Int32) {post : Int32 → Int32 → Int32 → (Nat → Int32) → (Nat → Int32) → (Nat → Int32) → (Nat → Int32) → Prop} (h : v_Reader_readInto rP tL tC gN gH gS gL gW post) : Met l y_Reader_readInto w_Reader_readInto ({ frames := 4, cells := 0, slots := 0, locals := 89 }) (va_Pc [.ref qr, .ref qg] (fun U => U.heap.size = sz ∧ va_P (dC, dI) vwCl [(qr, .inr (3, [.ref qt, .int rP])), (qt, .inr (5, [.ref qtC, .int tL])), (qtC, .inl (kC, 240, .inl tC)), (qg, .inr (2, [.int gN, .ref qgH, .ref qgS, .ref qgL, .ref qgW, .ref qgU, .ref qgO, .int gD])), (qgH, .inl (kI, 14, .inl gH)), (qgS, .inl (kI, 42, .inl gS)), (qgL, .inl (kI, 14, .inl gL)), (qgW, .inl (kI, 14, .inl gW))] U.heap ∧ va_K (dC, dI) vwCl (vTY kI kC kZ kJ kB kS) U ∧ va_D (fun _ => True) [(qr, .inr (3, [.ref qt, .int rP])), (qt, .inr (5, [.ref qtC, .int tL])), (qtC, .inl (kC, 240, .inl tC)), (qg, .inr (2, [.int gN, .ref qgH, .ref qgS, .ref qgL, .ref qgW, .ref qgU, .ref qgO, .int gD])), (qgH, .inl (kI, 14, .inl gH)), (qgS, .inl (kI, 42, .inl gS)), (qgL, .inl (kI, 14, .inl gL)), (qgW, .inl (kI, 14, .inl gW))] ∧ vNE U)) (va_Qi (fun (r : Int32) (u : Int32 × Int32 × (Nat → Int32) × (Nat → Int32) × (Nat → Int32) × (Nat → Int32)) => post r u.1 u.2.1 u.2.2.1 u.2.2.2.1 u.2.2.2.2.1 u.2.2.2.2.2) (fun u t => va_P (dC, dI) vwCl [(qr, .inr (3, [.ref qt, .int u.1])), (qt, .inr (5, [.ref qtC, .int tL])), (qtC, .inl (kC, 240, .inl tC)), (qg, .inr (2, [.int u.2.1, .ref qgH, .ref qgS, .ref qgL, .ref qgW, .ref qgU, .ref qgO, .int gD])), (qgH, .inl (kI, 14, .inl u.2.2.1)), (qgS, .inl (kI, 42, .inl u.2.2.2.1)), (qgL, .inl (kI, 14, .inl u.2.2.2.2.1)), (qgW, .inl (kI, 14, .inl u.2.2.2.2.2))] t.heap ∧ va_K (dC, dI) vwCl (vTY kI kC kZ kJ kB kS) t ∧ va_D (va_A [(qr, .inr (3, [.ref qt, .int rP])), (qt, .inr (5, [.ref qtC, .int tL])), (qtC, .inl (kC, 240, .inl tC)), (qg, .inr (2, [.int gN, .ref qgH, .ref qgS, .ref qgL, .ref qgW, .ref qgU, .ref qgO, .int gD])), (qgH, .inl (kI, 14, .inl gH)), (qgS, .inl (kI, 42, .inl gS)), (qgL, .inl (kI, 14, .inl gL)), (qgW, .inl (kI, 14, .inl gW))] sz) [(qr, .inr (3, [.ref qt, .int u.1])), (qt, .inr (5, [.ref qtC, .int tL])), (qtC, .inl (kC, 240, .inl tC)), (qg, .inr (2, [.int u.2.1, .ref qgH, .ref qgS, .ref qgL, .ref qgW, .ref qgU, .ref qgO, .int gD])), (qgH, .inl (kI, 14, .inl u.2.2.1)), (qgS, .inl (kI, 42, .inl u.2.2.2.1)), (qgL, .inl (kI, 14, .inl u.2.2.2.2.1)), (qgW, .inl (kI, 14, .inl u.2.2.2.2.2))]) (va_A [(qr, .inr (3, [.ref qt, .int rP])), (qt, .inr (5, [.ref qtC, .int tL])), (qtC, .inl (kC, 240, .inl tC)), (qg, .inr (2, [.int gN, .ref qgH, .ref qgS, .ref qgL, .ref qgW, .ref qgU, .ref qgO, .int gD])), (qgH, .inl (kI, 14, .inl gH)), (qgS, .inl (kI, 42, .inl gS)), (qgL, .inl (kI, 14, .inl gL)), (qgW, .inl (kI, 14, .inl gW))] sz)) 0 0 (va_A [(qr, .inr (3, [.ref qt, .int rP])), (qt, .inr (5, [.ref qtC, .int tL])), (qtC, .inl (kC, 240, .inl tC)), (qg, .inr (2, [.int gN, .ref qgH, .ref qgS, .ref qgL, .ref qgW, .ref qgU, .ref qgO, .int gD])), (qgH, .inl (kI, 14, .inl gH)), (qgS, .inl (kI, 42, .inl gS)), (qgL, .inl (kI, 14, .inl gL)), (qgW, .inl (kI, 14, .inl gW))] sz) := by
  refine Met.ofW (cc := b_Reader_readInto) (maxL := 3) (ret := (some .int)) (by decide) rfl ?_
  intro p e s m args below meth c s₁ B hml hv
  obtain ⟨rfl, hsz, hP, hK, hD0, hN⟩ := hv
  have hx := B.exec
  have hb := B.bytes
  have hr := B.returns
  have hts := atoms_spec (ws := w_Reader_readInto) B.pre
  have hT : ∀ w ∈ TB, w.before ([.ref qr, .ref qg] : List Value).toArray s = true := fun w h => hts w (List.mem_cons_of_mem _ h)
  have hown : s.vm.findClass R_Reader = some m.cls := findClass_of_methodNamed B.named
  have hlocks := B.notSynchronized
  subst hsz
  have hD := hD0.self (sz := s.heap.size)
  generalize hAe : va_A [(qr, .inr (3, [.ref qt, .int rP])), (qt, .inr (5, [.ref qtC, .int tL])), (qtC, .inl (kC, 240, .inl tC)), (qg, .inr (2, [.int gN, .ref qgH, .ref qgS, .ref qgL, .ref qgW, .ref qgU, .ref qgO, .int gD])), (qgH, .inl (kI, 14, .inl gH)), (qgS, .inl (kI, 42, .inl gS)), (qgL, .inl (kI, 14, .inl gL)), (qgW, .inl (kI, 14, .inl gW))] s.heap.size = A at hD ⊢
  have hA : ∀ q : Nat, s.heap.size ≤ q → A q := fun q h => by rw [← hAe]; exact Or.inr h
  have hS : va_S A s.heap s.heap [] := va_S.rf
  have L12 : ∀ (n12 : Nat) (x2 : Int32) (rP : Int32) (gN : Int32) (gH : Nat → Int32) (gS : Nat → Int32) (gL : Nat → Int32) (gW : Nat → Int32) (ls : Array Slot) (H : Heap) (locs : List Loc), v_Reader_readInto_L12 post tL tC n12 x2 rP gN gH gS gL gW → lv_has ls 3 [(0, .ref qr), (1, .ref qg), (2, .int x2)] → va_P (dC, dI) vwCl [(qr, .inr (3, [.ref qt, .int rP])), (qt, .inr (5, [.ref qtC, .int tL])), (qtC, .inl (kC, 240, .inl tC)), (qg, .inr (2, [.int gN, .ref qgH, .ref qgS, .ref qgL, .ref qgW, .ref qgU, .ref qgO, .int gD])), (qgH, .inl (kI, 14, .inl gH)), (qgS, .inl (kI, 42, .inl gS)), (qgL, .inl (kI, 14, .inl gL)), (qgW, .inl (kI, 14, .inl gW))] H → va_D A [(qr, .inr (3, [.ref qt, .int rP])), (qt, .inr (5, [.ref qtC, .int tL])), (qtC, .inl (kC, 240, .inl tC)), (qg, .inr (2, [.int gN, .ref qgH, .ref qgS, .ref qgL, .ref qgW, .ref qgU, .ref qgO, .int gD])), (qgH, .inl (kI, 14, .inl gH)), (qgS, .inl (kI, 42, .inl gS)), (qgL, .inl (kI, 14, .inl gL)), (qgW, .inl (kI, 14, .inl gW))] → va_S A s.heap H locs → W p l e (headSpec w_Reader_readInto { frames := 4, cells := 0, slots := 0, locals := 89 }).room s m ([.ref qr, .ref qg] : List Value).toArray below meth c H locs 0 0 (MQ below (va_Qi (fun (r : Int32) (u : Int32 × Int32 × (Nat → Int32) × (Nat → Int32) × (Nat → Int32) × (Nat → Int32)) => post r u.1 u.2.1 u.2.2.1 u.2.2.2.1 u.2.2.2.2.1 u.2.2.2.2.2) (fun u t => va_P (dC, dI) vwCl [(qr, .inr (3, [.ref qt, .int u.1])), (qt, .inr (5, [.ref qtC, .int tL])), (qtC, .inl (kC, 240, .inl tC)), (qg, .inr (2, [.int u.2.1, .ref qgH, .ref qgS, .ref qgL, .ref qgW, .ref qgU, .ref qgO, .int gD])), (qgH, .inl (kI, 14, .inl u.2.2.1)), (qgS, .inl (kI, 42, .inl u.2.2.2.1)), (qgL, .inl (kI, 14, .inl u.2.2.2.2.1)), (qgW, .inl (kI, 14, .inl u.2.2.2.2.2))] t.heap ∧ va_K (dC, dI) vwCl (vTY kI kC kZ kJ kB kS) t ∧ va_D (A) [(qr, .inr (3, [.ref qt, .int u.1])), (qt, .inr (5, [.ref qtC, .int tL])), (qtC, .inl (kC, 240, .inl tC)), (qg, .inr (2, [.int u.2.1, .ref qgH, .ref qgS, .ref qgL, .ref qgW, .ref qgU, .ref qgO, .int gD])), (qgH, .inl (kI, 14, .inl u.2.2.1)), (qgS, .inl (kI, 42, .inl u.2.2.2.1)), (qgL, .inl (kI, 14, .inl u.2.2.2.2.1)), (qgW, .inl (kI, 14, .inl u.2.2.2.2.2))]) (A)) ([.ref qr, .ref qg] : List Value).toArray s 0 0 A) (F0 m 12 ls []) := by
    intro n12
    induction n12 with
    | zero => intro x2 rP gN gH gS gL gW ls H locs h; exact False.elim h
    | succ n12 ih =>
      intro x2 rP gN gH gS gL gW ls H locs h hl hP hD hS
      unfold v_Reader_readInto_L12 at h
      refine lv_iload_n hx hb d_Reader_readInto_12 rfl (lv_at hl 2 rfl) ?_
      refine lv_bipush (v := 14) hx hb d_Reader_readInto_13 (by decide) ?_
      refine lv_icmp_gt hx hb d_Reader_readInto_15 (tgt := 51) (by decide) (fun hc => ?_) (fun hc => ?_)
      · have h := h.1 hc
        refine lv_bipush (v := -15) hx hb d_Reader_readInto_51 (by decide) ?_
        exact W.iret (v := (-15 : Int32)) hx hb hr (fun t ht hW => ⟨⟨(-15 : Int32), (rP, gN, gH, gS, gL, gW), rfl, h, by rw [ht]; exact hP, va_K.moved hW.alike hK, hD⟩, hS.F ht⟩) hS.2.2 d_Reader_readInto_53
      · have h := h.2 hc
        refine lv_aload_n hx hb d_Reader_readInto_18 rfl (lv_at hl 0 rfl) ?_
        refine lv_aload_n hx hb d_Reader_readInto_19 rfl (lv_at hl 1 rfl) ?_
        have hPc := hP.sub (ws' := [(qr, .inr (3, [.ref qt, .int rP])), (qt, .inr (5, [.ref qtC, .int tL])), (qtC, .inl (kC, 240, .inl tC)), (qg, .inr (2, [.int gN, .ref qgH, .ref qgS, .ref qgL, .ref qgW, .ref qgU, .ref qgO, .int gD])), (qgH, .inl (kI, 14, .inl gH)), (qgS, .inl (kI, 42, .inl gS)), (qgL, .inl (kI, 14, .inl gL)), (qgW, .inl (kI, 14, .inl gW))]) [0, 1, 2, 3, 4, 5, 6, 7] rfl
        have hDc := hD.sub (ws' := [(qr, .inr (3, [.ref qt, .int rP])), (qt, .inr (5, [.ref qtC, .int tL])), (qtC, .inl (kC, 240, .inl tC)), (qg, .inr (2, [.int gN, .ref qgH, .ref qgS, .ref qgL, .ref qgW, .ref qgU, .ref qgO, .int gD])), (qgH, .inl (kI, 14, .inl gH)), (qgS, .inl (kI, 42, .inl gS)), (qgL, .inl (kI, 14, .inl gL)), (qgW, .inl (kI, 14, .inl gW))]) [0, 1, 2, 3, 4, 5, 6, 7] (by decide) rfl
        have hFc := va_free (wc := [(qr, .inr (3, [.ref qt, .int rP])), (qt, .inr (5, [.ref qtC, .int tL])), (qtC, .inl (kC, 240, .inl tC)), (qg, .inr (2, [.int gN, .ref qgH, .ref qgS, .ref qgL, .ref qgW, .ref qgU, .ref qgO, .int gD])), (qgH, .inl (kI, 14, .inl gH)), (qgS, .inl (kI, 42, .inl gS)), (qgL, .inl (kI, 14, .inl gL)), (qgW, .inl (kI, 14, .inl gW))]) hD hS hA [0, 1, 2, 3, 4, 5, 6, 7] rfl
        refine va_calli (va_runV (As := [.ref qg]) (rest := []) ⟨hx, hb, hml, hown, hts⟩ (c_Reader_readRule l dC dI kI kC kZ kJ kB kS qr qt qtC qg qgH qgS qgL qgW qgU qgO H.size rP tL tC gN gD gH gS gL gW h) ⟨callB_of 1 hts (gA tb_261) rfl rfl rfl (hT _ tb_45) (hT _ tb_258) (by decide +kernel) ⟨Nat.le_of_ble_eq_true rfl, Nat.le_of_ble_eq_true rfl⟩, (hT _ tb_260), (hT _ tb_0)⟩ ⟨fun a U g mk q => by obtain ⟨q0, q1, qP, qK, qD, qN⟩ := q; exact ⟨q0, q1, qP, va_K.moved (u := U) (U := U.calling g mk a) (Vm.Alike.refl U.vm) qK, qD, vNE.same (U := U.calling g mk a) rfl qN⟩, va_recv hK hP rfl (q0 := 0) rfl, fun U hU hW => ⟨rfl, by rw [hU], by rw [hU]; exact hPc, va_K.moved hW.alike hK, hDc.weaken (fun _ _ _ _ => trivial), vNE.moved hW hN⟩⟩ rfl rfl hl.1 rfl (lv_room (Nat.le_of_ble_eq_true rfl)) d_Reader_readInto_20 ⟨Nat.zero_le _, Nat.zero_le _⟩) hS (fun q _ h => hFc q h) hFc (fun r20 u t H_20 locs ht hvm h hB hz1 hk1 hS => ?_)
        obtain ⟨rP_20, gN_20, gH_20, gS_20, gL_20, gW_20⟩ := u
        obtain ⟨hP1, hK1, hD1⟩ := hB
        rw [ht] at hP1
        try dsimp only at h
        obtain ⟨hP, hD⟩ := va_join (wr := []) (w1 := [(qr, .inr (3, [.ref qt, .int rP_20])), (qt, .inr (5, [.ref qtC, .int tL])), (qtC, .inl (kC, 240, .inl tC)), (qg, .inr (2, [.int gN_20, .ref qgH, .ref qgS, .ref qgL, .ref qgW, .ref qgU, .ref qgO, .int gD])), (qgH, .inl (kI, 14, .inl gH_20)), (qgS, .inl (kI, 42, .inl gS_20)), (qgL, .inl (kI, 14, .inl gL_20)), (qgW, .inl (kI, 14, .inl gW_20))]) hP hD [0, 1, 2, 3, 4, 5, 6, 7] [] rfl rfl (by decide) (by decide) hk1 hFc hP1 hD1
        have hP : va_P (dC, dI) vwCl [(qr, .inr (3, [.ref qt, .int rP_20])), (qt, .inr (5, [.ref qtC, .int tL])), (qtC, .inl (kC, 240, .inl tC)), (qg, .inr (2, [.int gN_20, .ref qgH, .ref qgS, .ref qgL, .ref qgW, .ref qgU, .ref qgO, .int gD])), (qgH, .inl (kI, 14, .inl gH_20)), (qgS, .inl (kI, 42, .inl gS_20)), (qgL, .inl (kI, 14, .inl gL_20)), (qgW, .inl (kI, 14, .inl gW_20))] H_20 := hP.sub (ws' := [(qr, .inr (3, [.ref qt, .int rP_20])), (qt, .inr (5, [.ref qtC, .int tL])), (qtC, .inl (kC, 240, .inl tC)), (qg, .inr (2, [.int gN_20, .ref qgH, .ref qgS, .ref qgL, .ref qgW, .ref qgU, .ref qgO, .int gD])), (qgH, .inl (kI, 14, .inl gH_20)), (qgS, .inl (kI, 42, .inl gS_20)), (qgL, .inl (kI, 14, .inl gL_20)), (qgW, .inl (kI, 14, .inl gW_20))]) [0, 1, 2, 3, 4, 5, 6, 7] rfl
        have hD : va_D A [(qr, .inr (3, [.ref qt, .int rP_20])), (qt, .inr (5, [.ref qtC, .int tL])), (qtC, .inl (kC, 240, .inl tC)), (qg, .inr (2, [.int gN_20, .ref qgH, .ref qgS, .ref qgL, .ref qgW, .ref qgU, .ref qgO, .int gD])), (qgH, .inl (kI, 14, .inl gH_20)), (qgS, .inl (kI, 42, .inl gS_20)), (qgL, .inl (kI, 14, .inl gL_20)), (qgW, .inl (kI, 14, .inl gW_20))] := hD.sub (ws' := [(qr, .inr (3, [.ref qt, .int rP_20])), (qt, .inr (5, [.ref qtC, .int tL])), (qtC, .inl (kC, 240, .inl tC)), (qg, .inr (2, [.int gN_20, .ref qgH, .ref qgS, .ref qgL, .ref qgW, .ref qgU, .ref qgO, .int gD])), (qgH, .inl (kI, 14, .inl gH_20)), (qgS, .inl (kI, 42, .inl gS_20)), (qgL, .inl (kI, 14, .inl gL_20)), (qgW, .inl (kI, 14, .inl gW_20))]) [0, 1, 2, 3, 4, 5, 6, 7] (by decide) rfl
        refine lv_if_ne hx hb d_Reader_readInto_23 (tgt := 29) (by decide) (fun hc => ?_) (fun hc => ?_)
        · have h := h.2 hc
          refine lv_aload_n hx hb d_Reader_readInto_29 rfl (lv_at hl 0 rfl) ?_
          refine va_get (D := (dC, dI)) (ci := 3) (v := .int rP_20) (C := R_Reader) (T := T_Reader) (N := 2) hx hb hT hn_Reader hown hK hP 0 rfl rfl 1 (by decide) (hT _ tb_90) (fun _ h9 => h9) rfl d_Reader_readInto_30 ?_
          refine lv_aload_n hx hb d_Reader_readInto_33 rfl (lv_at hl 0 rfl) ?_
          refine va_get (D := (dC, dI)) (ci := 3) (v := .ref qt) (C := R_Reader) (T := T_Reader) (N := 2) hx hb hT hn_Reader hown hK hP 0 rfl rfl 0 (by decide) (hT _ tb_89) (fun _ h9 => h9) rfl d_Reader_readInto_34 ?_
          refine va_get (D := (dC, dI)) (ci := 5) (v := .int tL) (C := R_Text) (T := T_Text) (N := 2) hx hb hT hn_Text hown hK hP 1 rfl rfl 1 (by decide) (hT _ tb_75) (fun _ h9 => h9) rfl d_Reader_readInto_37 ?_
          refine lv_icmp_lt hx hb d_Reader_readInto_40 (tgt := 45) (by decide) (fun hc => ?_) (fun hc => ?_)
          · have h := h.1 hc
            refine lv_iinc (k := 2) (v := (x2 + 1)) hx hb d_Reader_readInto_45 hl rfl (congrArg (x2 + ·) (by decide)) (by decide) rfl (fun ls hl => ?_)
            have hl : lv_has ls 3 [(2, .int (x2 + 1)), (0, .ref qr), (1, .ref qg)] := hl
            refine lv_goto hx hb d_Reader_readInto_48 (tgt := 12) (by decide) ?_
            exact ih (x2 + 1) rP_20 gN_20 gH_20 gS_20 gL_20 gW_20 _ _ _ h (lv_sub hl [1, 2, 0] rfl) hP hD hS
          · have h := h.2 hc
            refine lv_iconst (v := 0) hx hb d_Reader_readInto_43 (by decide) ?_
            exact W.iret (v := (0 : Int32)) hx hb hr (fun t ht hW => ⟨⟨(0 : Int32), (rP_20, gN_20, gH_20, gS_20, gL_20, gW_20), rfl, h, by rw [ht]; exact hP, va_K.moved hW.alike hK, hD⟩, hS.F ht⟩) hS.2.2 d_Reader_readInto_44
        · have h := h.1 hc
          refine lv_iload_n hx hb d_Reader_readInto_26 rfl (lv_at hl 2 rfl) ?_
          refine lv_ineg hx hb d_Reader_readInto_27 ?_
          exact W.iret (v := (-x2)) hx hb hr (fun t ht hW => ⟨⟨(-x2), (rP_20, gN_20, gH_20, gS_20, gL_20, gW_20), rfl, h, by rw [ht]; exact hP, va_K.moved hW.alike hK, hD⟩, hS.F ht⟩) hS.2.2 d_Reader_readInto_28
  have hl := lv_entry ([.ref qr, .ref qg]) (n := 3) (Nat.le_of_ble_eq_true rfl)
  rw [lg_entry_eq]
  generalize (lg_sl ([.ref qr, .ref qg]) ++ List.replicate (3 - (lg_sl ([.ref qr, .ref qg])).length) Slot.unset).toArray = ls at hl ⊢
  have hl : lv_has ls 3 [(0, .ref qr), (1, .ref qg)] := hl
  unfold v_Reader_readInto at h
  refine lv_aload_n hx hb d_Reader_readInto_0 rfl (lv_at hl 1 rfl) ?_
  refine lv_iconst (v := 0) hx hb d_Reader_readInto_1 (by decide) ?_
  refine va_put (D := (dC, dI)) (ci := 2) (v := .int (0 : Int32)) (ty := .int) (C := R_Grammar) (T := T_Grammar) (N := 8) hx hb hT hn_Grammar t_Grammar tk_Grammar nk_Grammar hown hK hP hD hS 3 rfl rfl 0 (by decide) (hT _ tb_118) (fun _ h9 => h9) rfl (by decide +kernel) rfl rfl (Nat.le_of_ble_eq_true rfl) d_Reader_readInto_2 (fun H_2 locs hP hD hS => ?_)
  have hP : va_P (dC, dI) vwCl [(qr, .inr (3, [.ref qt, .int rP])), (qt, .inr (5, [.ref qtC, .int tL])), (qtC, .inl (kC, 240, .inl tC)), (qg, .inr (2, [.int (0 : Int32), .ref qgH, .ref qgS, .ref qgL, .ref qgW, .ref qgU, .ref qgO, .int gD])), (qgH, .inl (kI, 14, .inl gH)), (qgS, .inl (kI, 42, .inl gS)), (qgL, .inl (kI, 14, .inl gL)), (qgW, .inl (kI, 14, .inl gW))] H_2 := hP
  have hD : va_D A [(qr, .inr (3, [.ref qt, .int rP])), (qt, .inr (5, [.ref qtC, .int tL])), (qtC, .inl (kC, 240, .inl tC)), (qg, .inr (2, [.int (0 : Int32), .ref qgH, .ref qgS, .ref qgL, .ref qgW, .ref qgU, .ref qgO, .int gD])), (qgH, .inl (kI, 14, .inl gH)), (qgS, .inl (kI, 42, .inl gS)), (qgL, .inl (kI, 14, .inl gL)), (qgW, .inl (kI, 14, .inl gW))] := hD
  refine lv_aload_n hx hb d_Reader_readInto_5 rfl (lv_at hl 0 rfl) ?_
  refine lv_iconst (v := 0) hx hb d_Reader_readInto_6 (by decide) ?_
  refine va_put (D := (dC, dI)) (ci := 3) (v := .int (0 : Int32)) (ty := .int) (C := R_Reader) (T := T_Reader) (N := 2) hx hb hT hn_Reader t_Reader tk_Reader nk_Reader hown hK hP hD hS 0 rfl rfl 1 (by decide) (hT _ tb_90) (fun _ h9 => h9) rfl (by decide +kernel) rfl rfl (Nat.le_of_ble_eq_true rfl) d_Reader_readInto_7 (fun H_7 locs hP hD hS => ?_)
  have hP : va_P (dC, dI) vwCl [(qr, .inr (3, [.ref qt, .int (0 : Int32)])), (qt, .inr (5, [.ref qtC, .int tL])), (qtC, .inl (kC, 240, .inl tC)), (qg, .inr (2, [.int (0 : Int32), .ref qgH, .ref qgS, .ref qgL, .ref qgW, .ref qgU, .ref qgO, .int gD])), (qgH, .inl (kI, 14, .inl gH)), (qgS, .inl (kI, 42, .inl gS)), (qgL, .inl (kI, 14, .inl gL)), (qgW, .inl (kI, 14, .inl gW))] H_7 := hP
  have hD : va_D A [(qr, .inr (3, [.ref qt, .int (0 : Int32)])), (qt, .inr (5, [.ref qtC, .int tL])), (qtC, .inl (kC, 240, .inl tC)), (qg, .inr (2, [.int (0 : Int32), .ref qgH, .ref qgS, .ref qgL, .ref qgW, .ref qgU, .ref qgO, .int gD])), (qgH, .inl (kI, 14, .inl gH)), (qgS, .inl (kI, 42, .inl gS)), (qgL, .inl (kI, 14, .inl gL)), (qgW, .inl (kI, 14, .inl gW))] := hD
  refine lv_iconst (v := 1) hx hb d_Reader_readInto_10 (by decide) ?_
  refine lv_istore_n hx hb d_Reader_readInto_11 rfl hl (by decide) rfl (fun ls hl => ?_)
  have hl : lv_has ls 3 [(2, .int (1 : Int32)), (0, .ref qr), (1, .ref qg)] := hl
  obtain ⟨k12, h⟩ := h
  exact L12 k12 (1 : Int32) (0 : Int32) (0 : Int32) gH gS gL gW _ _ _ h (lv_sub hl [1, 2, 0] rfl) hP hD hS
