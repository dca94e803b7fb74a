set_option maxHeartbeats 1000000 in
set_option maxRecDepth 100000 in
theorem c_Text_init (l : Launch) (dC : Nat → ClassId) (dI : Nat → Nat → Nat) (kI kC kZ kJ kB kS : ClassId) (qt : Nat) (sz : Nat) : Met l y_Text_init w_Text_init ({ frames := 1, cells := 1, slots := 240, locals := 12 }) (va_Pc [.ref qt] (fun U => U.heap.size = sz ∧ va_P (dC, dI) vwCl [(qt, .inr (5, [.null, .int 0]))] U.heap ∧ va_K (dC, dI) vwCl (vTY kI kC kZ kJ kB kS) U ∧ va_D (fun _ => True) [(qt, .inr (5, [.null, .int 0]))] ∧ vNE U)) (va_Qv (fun (u : Nat) => True) (fun u t => va_P (dC, dI) vwCl [(qt, .inr (5, [.ref u, .int 0])), (u, .inl (kC, 240, .inl (fun _ => 0)))] t.heap ∧ va_K (dC, dI) vwCl (vTY kI kC kZ kJ kB kS) t ∧ va_D (va_A [(qt, .inr (5, [.null, .int 0]))] sz) [(qt, .inr (5, [.ref u, .int 0])), (u, .inl (kC, 240, .inl (fun _ => 0)))]) (va_A [(qt, .inr (5, [.null, .int 0]))] sz)) 1 240 (va_A [(qt, .inr (5, [.null, .int 0]))] sz) := by
  refine Met.ofW (cc := b_Text_init) (maxL := 1) (ret := none) (by decide) rfl ?_
  intro p e s m args below meth c s₁ B hml hv
  obtain ⟨rfl, hsz, hP, hK, hD0, hN⟩ := hv
  have hx := B.exec
  have hb := B.bytes
  have hr := B.returns
  have hts := atoms_spec (ws := w_Text_init) B.pre
  have hT : ∀ w ∈ TB, w.before ([.ref qt] : List Value).toArray s = true := fun w h => hts w (List.mem_cons_of_mem _ h)
  have hown : s.vm.findClass R_Text = some m.cls := findClass_of_methodNamed B.named
  have hlocks := B.notSynchronized
  have hin : meth.name = "<init>" := (name_of_methodNamed B.named B.method).1
  subst hsz
  have hD := hD0.self (sz := s.heap.size)
  generalize hAe : va_A [(qt, .inr (5, [.null, .int 0]))] s.heap.size = A at hD ⊢
  have hA : ∀ q : Nat, s.heap.size ≤ q → A q := fun q h => by rw [← hAe]; exact Or.inr h
  have hS : va_S A s.heap s.heap [] := va_S.rf
  have hl := lv_entry ([.ref qt]) (n := 1) (Nat.le_of_ble_eq_true rfl)
  rw [lg_entry_eq]
  generalize (lg_sl ([.ref qt]) ++ List.replicate (1 - (lg_sl ([.ref qt])).length) Slot.unset).toArray = ls at hl ⊢
  have hl : lv_has ls 1 [(0, .ref qt)] := hl
  refine lv_aload_n hx hb d_Text_init_0 rfl (lv_at hl 0 rfl) ?_
  refine W.objInit hx hb hown (hT _ tb_71) (hT _ tb_64) (hT _ tb_65) rfl (by rw [hml]; exact hl.1) rfl d_Text_init_1 (Nat.le_of_ble_eq_true rfl) (Nat.le_of_ble_eq_true rfl) ?_
  refine W.eq (g2 := F0 m 4 ls []) rfl ?_
  refine lv_aload_n hx hb d_Text_init_4 rfl (lv_at hl 0 rfl) ?_
  refine lv_sipush (v := 240) hx hb d_Text_init_5 (by decide) ?_
  refine va_newa (atype := .char) (ty := .char) (a0 := (240, .inl (fun _ => 0))) hx hb (hT _ tb_82) rfl hK hP hD hS hA (fun _ => rfl) (by decide) (by decide) (by decide) (Nat.le_of_ble_eq_true rfl) (Nat.le_of_ble_eq_true rfl) d_Text_init_8 (fun a8 kk H8 hKn hP hD hS => ?_)
  obtain rfl : kC = kk := Option.some.inj (((hK.2 1 (kC, .char) rfl).2).symm.trans (hKn.2 6 (kk, .char) rfl).2)
  have hP : va_P (dC, dI) vwCl [(qt, .inr (5, [.null, .int 0])), (a8, .inl (kC, 240, .inl (fun _ => 0)))] H8 := hP
  have hD : va_D A [(qt, .inr (5, [.null, .int 0])), (a8, .inl (kC, 240, .inl (fun _ => 0)))] := hD
  refine W.widen (k := 1) (n := 240) (by decide) (by decide) ?_
  refine va_putF (D := (dC, dI)) (ci := 5) (v := .ref a8) (ty := .array .char) (C := R_Text) (T := T_Text) (N := 2) hx hb hT hn_Text t_Text tk_Text nk_Text hown hK hP hD hS 0 rfl rfl 0 (by decide) (hT _ tb_72) (fun _ h9 => h9) rfl hin rfl (by decide +kernel) rfl rfl (Nat.le_of_ble_eq_true rfl) d_Text_init_10 (fun H10 locs hP hD hS => ?_)
  have hP : va_P (dC, dI) vwCl [(qt, .inr (5, [.ref a8, .int 0])), (a8, .inl (kC, 240, .inl (fun _ => 0)))] H10 := hP
  have hD : va_D A [(qt, .inr (5, [.ref a8, .int 0])), (a8, .inl (kC, 240, .inl (fun _ => 0)))] := hD
  exact W.vret hx hb hr (fun t ht hW => ⟨⟨a8, rfl, trivial, by rw [ht]; exact hP, va_K.moved hW.alike hK, hD⟩, hS.F ht⟩) hS.2.2 d_Text_init_13

set_option maxHeartbeats 1000000 in
set_option maxRecDepth 100000 in
theorem c_Row_init (l : Launch) (dC : Nat → ClassId) (dI : Nat → Nat → Nat) (kI kC kZ kJ kB kS : ClassId) (qw : Nat) (sz : Nat) : Met l y_Row_init w_Row_init ({ frames := 1, cells := 1, slots := 6, locals := 12 }) (va_Pc [.ref qw] (fun U => U.heap.size = sz ∧ va_P (dC, dI) vwCl [(qw, .inr (4, [.null, .int 0]))] U.heap ∧ va_K (dC, dI) vwCl (vTY kI kC kZ kJ kB kS) U ∧ va_D (fun _ => True) [(qw, .inr (4, [.null, .int 0]))] ∧ vNE U)) (va_Qv (fun (u : Nat) => True) (fun u t => va_P (dC, dI) vwCl [(qw, .inr (4, [.ref u, .int 0])), (u, .inl (kC, 6, .inl (fun _ => 0)))] t.heap ∧ va_K (dC, dI) vwCl (vTY kI kC kZ kJ kB kS) t ∧ va_D (va_A [(qw, .inr (4, [.null, .int 0]))] sz) [(qw, .inr (4, [.ref u, .int 0])), (u, .inl (kC, 6, .inl (fun _ => 0)))]) (va_A [(qw, .inr (4, [.null, .int 0]))] sz)) 1 6 (va_A [(qw, .inr (4, [.null, .int 0]))] sz) := by
  refine Met.ofW (cc := b_Row_init) (maxL := 1) (ret := none) (by decide) rfl ?_
  intro p e s m args below meth c s₁ B hml hv
  obtain ⟨rfl, hsz, hP, hK, hD0, hN⟩ := hv
  have hx := B.exec
  have hb := B.bytes
  have hr := B.returns
  have hts := atoms_spec (ws := w_Row_init) B.pre
  have hT : ∀ w ∈ TB, w.before ([.ref qw] : List Value).toArray s = true := fun w h => hts w (List.mem_cons_of_mem _ h)
  have hown : s.vm.findClass R_Row = some m.cls := findClass_of_methodNamed B.named
  have hlocks := B.notSynchronized
  have hin : meth.name = "<init>" := (name_of_methodNamed B.named B.method).1
  subst hsz
  have hD := hD0.self (sz := s.heap.size)
  generalize hAe : va_A [(qw, .inr (4, [.null, .int 0]))] s.heap.size = A at hD ⊢
  have hA : ∀ q : Nat, s.heap.size ≤ q → A q := fun q h => by rw [← hAe]; exact Or.inr h
  have hS : va_S A s.heap s.heap [] := va_S.rf
  have hl := lv_entry ([.ref qw]) (n := 1) (Nat.le_of_ble_eq_true rfl)
  rw [lg_entry_eq]
  generalize (lg_sl ([.ref qw]) ++ List.replicate (1 - (lg_sl ([.ref qw])).length) Slot.unset).toArray = ls at hl ⊢
  have hl : lv_has ls 1 [(0, .ref qw)] := hl
  refine lv_aload_n hx hb d_Row_init_0 rfl (lv_at hl 0 rfl) ?_
  refine W.objInit hx hb hown (hT _ tb_101) (hT _ tb_64) (hT _ tb_65) rfl (by rw [hml]; exact hl.1) rfl d_Row_init_1 (Nat.le_of_ble_eq_true rfl) (Nat.le_of_ble_eq_true rfl) ?_
  refine W.eq (g2 := F0 m 4 ls []) rfl ?_
  refine lv_aload_n hx hb d_Row_init_4 rfl (lv_at hl 0 rfl) ?_
  refine lv_bipush (v := 6) hx hb d_Row_init_5 (by decide) ?_
  refine va_newa (atype := .char) (ty := .char) (a0 := (6, .inl (fun _ => 0))) hx hb (hT _ tb_82) rfl hK hP hD hS hA (fun _ => rfl) (by decide) (by decide) (by decide) (Nat.le_of_ble_eq_true rfl) (Nat.le_of_ble_eq_true rfl) d_Row_init_7 (fun a7 kk H7 hKn hP hD hS => ?_)
  obtain rfl : kC = kk := Option.some.inj (((hK.2 1 (kC, .char) rfl).2).symm.trans (hKn.2 6 (kk, .char) rfl).2)
  have hP : va_P (dC, dI) vwCl [(qw, .inr (4, [.null, .int 0])), (a7, .inl (kC, 6, .inl (fun _ => 0)))] H7 := hP
  have hD : va_D A [(qw, .inr (4, [.null, .int 0])), (a7, .inl (kC, 6, .inl (fun _ => 0)))] := hD
  refine W.widen (k := 1) (n := 6) (by decide) (by decide) ?_
  refine va_putF (D := (dC, dI)) (ci := 4) (v := .ref a7) (ty := .array .char) (C := R_Row) (T := T_Row) (N := 2) hx hb hT hn_Row t_Row tk_Row nk_Row hown hK hP hD hS 0 rfl rfl 0 (by decide) (hT _ tb_102) (fun _ h9 => h9) rfl hin rfl (by decide +kernel) rfl rfl (Nat.le_of_ble_eq_true rfl) d_Row_init_9 (fun H9 locs hP hD hS => ?_)
  have hP : va_P (dC, dI) vwCl [(qw, .inr (4, [.ref a7, .int 0])), (a7, .inl (kC, 6, .inl (fun _ => 0)))] H9 := hP
  have hD : va_D A [(qw, .inr (4, [.ref a7, .int 0])), (a7, .inl (kC, 6, .inl (fun _ => 0)))] := hD
  exact W.vret hx hb hr (fun t ht hW => ⟨⟨a7, rfl, trivial, by rw [ht]; exact hP, va_K.moved hW.alike hK, hD⟩, hS.F ht⟩) hS.2.2 d_Row_init_12

def v_Text_add_L8 (post : Int32 → Int32 → (Nat → Int32) → Prop) (x1 : Int64) (tL : Int32) : Nat → Int32 → Int32 → (Nat → Int32) → Prop
  | 0, _, _, _ => False
  | n8 + 1, x3, x4, tC =>
    (((64 : Int32) ≤ x4 → (post (1 : Int32) x3 tC)) ∧ (¬ (64 : Int32) ≤ x4 → (∀ y5_24 : Int32, y5_24 = (((x1.toUInt64 >>> (x4.toInt64.toUInt64 &&& Int64.toUInt64 63)).toInt64).toInt32 &&& (255 : Int32)) → ((y5_24 = 0 → ((v_Text_add_L8 post x1 tL n8) x3 (x4 + 8) tC)) ∧ (¬ y5_24 = 0 → ((y5_24 < (32 : Int32) → (post (0 : Int32) tL tC)) ∧ (¬ y5_24 < (32 : Int32) → (((126 : Int32) < y5_24 → (post (0 : Int32) tL tC)) ∧ (¬ (126 : Int32) < y5_24 → ((x3 < (240 : Int32) → (vp_in x3 240 ∧ ((v_Text_add_L8 post x1 tL n8) (x3 + 1) (x4 + 8) (upd tC x3.toNatClampNeg (vp_nar .char ((y5_24.toUInt32 % 65536).toInt32)))))) ∧ (¬ x3 < (240 : Int32) → (post (0 : Int32) tL tC))))))))))))
def v_Text_add (a1 : Int64) (tL : Int32) (tC : Nat → Int32) (post : Int32 → Int32 → (Nat → Int32) → Prop) : Prop :=
  (∃ k8, v_Text_add_L8 post a1 tL k8 tL (0 : Int32) tC)
set_option maxHeartbeats 1000000 in
set_option maxRecDepth 100000 in
theorem c_Text_add (l : Launch) (dC : Nat → ClassId) (dI : Nat → Nat → Nat) (kI kC kZ kJ kB kS : ClassId) (qt qtC : Nat) (sz : Nat) (tL : Int32) (tC : Nat → Int32) (a1 : Int64) {post : Int32 → Int32 → (Nat → Int32) → Prop} (h : v_Text_add a1 tL tC post) : Met l y_Text_add w_Text_add ({ frames := 0, cells := 0, slots := 0, locals := 0 }) (va_Pc [.ref qt, .long a1] (fun U => U.heap.size = sz ∧ va_P (dC, dI) vwCl [(qt, .inr (5, [.ref qtC, .int tL])), (qtC, .inl (kC, 240, .inl tC))] U.heap ∧ va_K (dC, dI) vwCl (vTY kI kC kZ kJ kB kS) U ∧ va_D (fun _ => True) [(qt, .inr (5, [.ref qtC, .int tL])), (qtC, .inl (kC, 240, .inl tC))] ∧ vNE U)) (va_Qi (fun (r : Int32) (u : Int32 × (Nat → Int32)) => post r u.1 u.2) (fun u t => va_P (dC, dI) vwCl [(qt, .inr (5, [.ref qtC, .int u.1])), (qtC, .inl (kC, 240, .inl u.2))] t.heap ∧ va_K (dC, dI) vwCl (vTY kI kC kZ kJ kB kS) t ∧ va_D (va_A [(qt, .inr (5, [.ref qtC, .int tL])), (qtC, .inl (kC, 240, .inl tC))] sz) [(qt, .inr (5, [.ref qtC, .int u.1])), (qtC, .inl (kC, 240, .inl u.2))]) (va_A [(qt, .inr (5, [.ref qtC, .int tL])), (qtC, .inl (kC, 240, .inl tC))] sz)) 0 0 (va_A [(qt, .inr (5, [.ref qtC, .int tL])), (qtC, .inl (kC, 240, .inl tC))] sz) := by
  refine Met.ofW (cc := b_Text_add) (maxL := 6) (ret := (some .boolean)) (by decide) rfl ?_
  intro p e s m args below meth c s₁ B hml hv
  obtain ⟨rfl, hsz, hP, hK, hD0, hN⟩ := hv
  have hx := B.exec
  have hb := B.bytes
  have hr := B.returns
  have hts := atoms_spec (ws := w_Text_add) B.pre
  have hT : ∀ w ∈ TB, w.before ([.ref qt, .long a1] : List Value).toArray s = true := fun w h => hts w (List.mem_cons_of_mem _ h)
  have hown : s.vm.findClass R_Text = some m.cls := findClass_of_methodNamed B.named
  have hlocks := B.notSynchronized
  subst hsz
  have hD := hD0.self (sz := s.heap.size)
  generalize hAe : va_A [(qt, .inr (5, [.ref qtC, .int tL])), (qtC, .inl (kC, 240, .inl tC))] s.heap.size = A at hD ⊢
  have hA : ∀ q : Nat, s.heap.size ≤ q → A q := fun q h => by rw [← hAe]; exact Or.inr h
  have hS : va_S A s.heap s.heap [] := va_S.rf
  have L8 : ∀ (x1 : Int64) (tL : Int32) (n8 : Nat) (x3 : Int32) (x4 : Int32) (tC : Nat → Int32) (ls : Array Slot) (H : Heap) (locs : List Loc), v_Text_add_L8 post x1 tL n8 x3 x4 tC → lv_has ls 6 [(0, .ref qt), (1, .long x1), (3, .int x3), (4, .int x4)] → va_P (dC, dI) vwCl [(qt, .inr (5, [.ref qtC, .int tL])), (qtC, .inl (kC, 240, .inl tC))] H → va_D A [(qt, .inr (5, [.ref qtC, .int tL])), (qtC, .inl (kC, 240, .inl tC))] → va_S A s.heap H locs → W p l e (headSpec w_Text_add { frames := 0, cells := 0, slots := 0, locals := 0 }).room s m ([.ref qt, .long a1] : List Value).toArray below meth c H locs 0 0 (MQ below (va_Qi (fun (r : Int32) (u : Int32 × (Nat → Int32)) => post r u.1 u.2) (fun u t => va_P (dC, dI) vwCl [(qt, .inr (5, [.ref qtC, .int u.1])), (qtC, .inl (kC, 240, .inl u.2))] t.heap ∧ va_K (dC, dI) vwCl (vTY kI kC kZ kJ kB kS) t ∧ va_D (A) [(qt, .inr (5, [.ref qtC, .int u.1])), (qtC, .inl (kC, 240, .inl u.2))]) (A)) ([.ref qt, .long a1] : List Value).toArray s 0 0 A) (F0 m 8 ls []) := by
    intro x1 tL n8
    induction n8 with
    | zero => intro x3 x4 tC ls H locs h; exact False.elim h
    | succ n8 ih =>
      intro x3 x4 tC ls H locs h hl hP hD hS
      unfold v_Text_add_L8 at h
      refine lv_iload hx hb d_Text_add_8 (lv_at hl 3 rfl) ?_
      refine lv_bipush (v := 64) hx hb d_Text_add_10 (by decide) ?_
      refine lv_icmp_ge hx hb d_Text_add_12 (tgt := 75) (by decide) (fun hc => ?_) (fun hc => ?_)
      · have h := h.1 hc
        refine lv_aload_n hx hb d_Text_add_75 rfl (lv_at hl 0 rfl) ?_
        refine lv_iload_n hx hb d_Text_add_76 rfl (lv_at hl 2 rfl) ?_
        refine va_put (D := (dC, dI)) (ci := 5) (v := .int x3) (ty := .int) (C := R_Text) (T := T_Text) (N := 2) hx hb hT hn_Text t_Text tk_Text nk_Text hown hK hP hD hS 0 rfl rfl 1 (by decide) (hT _ tb_74) (fun _ h9 => h9) rfl (by decide +kernel) rfl rfl (Nat.le_of_ble_eq_true rfl) d_Text_add_77 (fun H_77 locs hP hD hS => ?_)
        have hP : va_P (dC, dI) vwCl [(qt, .inr (5, [.ref qtC, .int x3])), (qtC, .inl (kC, 240, .inl tC))] H_77 := hP
        have hD : va_D A [(qt, .inr (5, [.ref qtC, .int x3])), (qtC, .inl (kC, 240, .inl tC))] := hD
        refine lv_iconst (v := 1) hx hb d_Text_add_80 (by decide) ?_
        exact W.zret (ty := .boolean) (v := (1 : Int32)) hx hb hr rfl (fun t ht hW => ⟨⟨(1 : Int32), (x3, tC), rfl, h, by rw [ht]; exact hP, va_K.moved hW.alike hK, hD⟩, hS.F ht⟩) hS.2.2 d_Text_add_81
      · have h := h.2 hc
        refine lv_lload_n hx hb d_Text_add_15 rfl (lv_at hl 1 rfl) ?_
        refine lv_iload hx hb d_Text_add_16 (lv_at hl 3 rfl) ?_
        refine lv_lushr (v := (x1.toUInt64 >>> (x4.toInt64.toUInt64 &&& Int64.toUInt64 63)).toInt64) hx hb d_Text_add_18 rfl ?_
        refine lv_l2i (v := ((x1.toUInt64 >>> (x4.toInt64.toUInt64 &&& Int64.toUInt64 63)).toInt64).toInt32) hx hb d_Text_add_19 rfl ?_
        refine lv_sipush (v := 255) hx hb d_Text_add_20 (by decide) ?_
        refine lv_iand hx hb d_Text_add_23 ?_
        refine lv_topi (fun y5_24 e_y5_24 => ?_)
        have h := h y5_24 e_y5_24
        refine lv_istore hx hb d_Text_add_24 hl (by decide) rfl (fun ls hl => ?_)
        have hl : lv_has ls 6 [(5, .int y5_24), (0, .ref qt), (1, .long x1), (3, .int x3), (4, .int x4)] := hl
        refine lv_iload hx hb d_Text_add_26 (lv_at hl 0 rfl) ?_
        refine lv_if_ne hx hb d_Text_add_28 (tgt := 34) (by decide) (fun hc => ?_) (fun hc => ?_)
        · have h := h.2 hc
          refine lv_iload hx hb d_Text_add_34 (lv_at hl 0 rfl) ?_
          refine lv_bipush (v := 32) hx hb d_Text_add_36 (by decide) ?_
          refine lv_icmp_lt hx hb d_Text_add_38 (tgt := 55) (by decide) (fun hc => ?_) (fun hc => ?_)
          · have h := h.1 hc
            refine lv_iconst (v := 0) hx hb d_Text_add_55 (by decide) ?_
            exact W.zret (ty := .boolean) (v := (0 : Int32)) hx hb hr rfl (fun t ht hW => ⟨⟨(0 : Int32), (tL, tC), rfl, h, by rw [ht]; exact hP, va_K.moved hW.alike hK, hD⟩, hS.F ht⟩) hS.2.2 d_Text_add_56
          · have h := h.2 hc
            refine lv_iload hx hb d_Text_add_41 (lv_at hl 0 rfl) ?_
            refine lv_bipush (v := 126) hx hb d_Text_add_43 (by decide) ?_
            refine lv_icmp_gt hx hb d_Text_add_45 (tgt := 55) (by decide) (fun hc => ?_) (fun hc => ?_)
            · have h := h.1 hc
              refine lv_iconst (v := 0) hx hb d_Text_add_55 (by decide) ?_
              exact W.zret (ty := .boolean) (v := (0 : Int32)) hx hb hr rfl (fun t ht hW => ⟨⟨(0 : Int32), (tL, tC), rfl, h, by rw [ht]; exact hP, va_K.moved hW.alike hK, hD⟩, hS.F ht⟩) hS.2.2 d_Text_add_56
            · have h := h.2 hc
              refine lv_iload_n hx hb d_Text_add_48 rfl (lv_at hl 3 rfl) ?_
              refine lv_sipush (v := 240) hx hb d_Text_add_49 (by decide) ?_
              refine lv_icmp_lt hx hb d_Text_add_52 (tgt := 57) (by decide) (fun hc => ?_) (fun hc => ?_)
              · have h := h.1 hc
                refine lv_aload_n hx hb d_Text_add_57 rfl (lv_at hl 1 rfl) ?_
                refine va_get (D := (dC, dI)) (ci := 5) (v := .ref qtC) (C := R_Text) (T := T_Text) (N := 2) hx hb hT hn_Text hown hK hP 0 rfl rfl 0 (by decide) (hT _ tb_72) (fun _ h9 => h9) rfl d_Text_add_58 ?_
                refine lv_iload_n hx hb d_Text_add_61 rfl (lv_at hl 3 rfl) ?_
                refine lv_iload hx hb d_Text_add_62 (lv_at hl 0 rfl) ?_
                refine lv_i2c (v := (y5_24.toUInt32 % 65536).toInt32) hx hb d_Text_add_64 rfl ?_
                refine va_cast hx hb hK hP hD hS 1 1 rfl rfl h.1 d_Text_add_65 (fun H_65 locs hP hD hS => ?_)
                have hP : va_P (dC, dI) vwCl [(qt, .inr (5, [.ref qtC, .int tL])), (qtC, .inl (kC, 240, .inl (upd tC x3.toNatClampNeg (vp_nar .char ((y5_24.toUInt32 % 65536).toInt32)))))] H_65 := hP
                have hD : va_D A [(qt, .inr (5, [.ref qtC, .int tL])), (qtC, .inl (kC, 240, .inl (upd tC x3.toNatClampNeg (vp_nar .char ((y5_24.toUInt32 % 65536).toInt32)))))] := hD
                have h := h.2
                refine lv_iinc (k := 3) (v := (x3 + 1)) hx hb d_Text_add_66 hl rfl (congrArg (x3 + ·) (by decide)) (by decide) rfl (fun ls hl => ?_)
                have hl : lv_has ls 6 [(3, .int (x3 + 1)), (5, .int y5_24), (0, .ref qt), (1, .long x1), (4, .int x4)] := hl
                refine lv_iinc (k := 4) (v := (x4 + 8)) hx hb d_Text_add_69 hl rfl (congrArg (x4 + ·) (by decide)) (by decide) rfl (fun ls hl => ?_)
                have hl : lv_has ls 6 [(4, .int (x4 + 8)), (3, .int (x3 + 1)), (5, .int y5_24), (0, .ref qt), (1, .long x1)] := hl
                refine lv_goto hx hb d_Text_add_72 (tgt := 8) (by decide) ?_
                exact ih (x3 + 1) (x4 + 8) (upd tC x3.toNatClampNeg (vp_nar .char ((y5_24.toUInt32 % 65536).toInt32))) _ _ _ h (lv_sub hl [3, 4, 1, 0] rfl) hP hD hS
              · have h := h.2 hc
                refine lv_iconst (v := 0) hx hb d_Text_add_55 (by decide) ?_
                exact W.zret (ty := .boolean) (v := (0 : Int32)) hx hb hr rfl (fun t ht hW => ⟨⟨(0 : Int32), (tL, tC), rfl, h, by rw [ht]; exact hP, va_K.moved hW.alike hK, hD⟩, hS.F ht⟩) hS.2.2 d_Text_add_56
        · have h := h.1 hc
          refine lv_goto hx hb d_Text_add_31 (tgt := 69) (by decide) ?_
          refine lv_iinc (k := 4) (v := (x4 + 8)) hx hb d_Text_add_69 hl rfl (congrArg (x4 + ·) (by decide)) (by decide) rfl (fun ls hl => ?_)
          have hl : lv_has ls 6 [(4, .int (x4 + 8)), (5, .int y5_24), (0, .ref qt), (1, .long x1), (3, .int x3)] := hl
          refine lv_goto hx hb d_Text_add_72 (tgt := 8) (by decide) ?_
          exact ih x3 (x4 + 8) tC _ _ _ h (lv_sub hl [2, 3, 4, 0] rfl) hP hD hS
  have hl := lv_entry ([.ref qt, .long a1]) (n := 6) (Nat.le_of_ble_eq_true rfl)
  rw [lg_entry_eq]
  generalize (lg_sl ([.ref qt, .long a1]) ++ List.replicate (6 - (lg_sl ([.ref qt, .long a1])).length) Slot.unset).toArray = ls at hl ⊢
  have hl : lv_has ls 6 [(0, .ref qt), (1, .long a1)] := hl
  unfold v_Text_add at h
  refine lv_aload_n hx hb d_Text_add_0 rfl (lv_at hl 0 rfl) ?_
  refine va_get (D := (dC, dI)) (ci := 5) (v := .int tL) (C := R_Text) (T := T_Text) (N := 2) hx hb hT hn_Text hown hK hP 0 rfl rfl 1 (by decide) (hT _ tb_74) (fun _ h9 => h9) rfl d_Text_add_1 ?_
  refine lv_istore_n hx hb d_Text_add_4 rfl hl (by decide) rfl (fun ls hl => ?_)
  have hl : lv_has ls 6 [(3, .int tL), (0, .ref qt), (1, .long a1)] := hl
  refine lv_iconst (v := 0) hx hb d_Text_add_5 (by decide) ?_
  refine lv_istore hx hb d_Text_add_6 hl (by decide) rfl (fun ls hl => ?_)
  have hl : lv_has ls 6 [(4, .int (0 : Int32)), (3, .int tL), (0, .ref qt), (1, .long a1)] := hl
  obtain ⟨k8, h⟩ := h
  exact L8 a1 tL k8 tL (0 : Int32) tC _ _ _ h (lv_sub hl [2, 3, 1, 0] rfl) hP hD hS
