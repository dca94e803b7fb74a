/-! The model compares a new tree, and offers it to a cell. -/
theorem p_byte : ∀ r, r < 14 → (nI r).toInt8.toInt32 = nI r := by decide +kernel
theorem p_short {n : Nat} (h : n < 32768) : (nI n).toInt16.toInt32 = nI n := by
  apply Int32.toInt_inj.mp
  rw [Int16.toInt_toInt32, Int32.toInt_toInt16, nI_toInt (by omega)]
  exact Int.bmod_eq_of_le (by omega) (by omega)
theorem p_shortm : ((-1 : Int32)).toInt16.toInt32 = -1 := by decide
section MOF
variable {G : Gr} {Tb : Tab} {ρ : Nat → Nat} {D : Nat → Nat → Nat → Prop}
theorem Gr.Dv_mem : ∀ d l T, G.Dv d l T → ∀ a, a ∈ T.fl → a < G.k
  | 0, _, _, h => h.elim
  | d + 1, l, T, h => by
    obtain ⟨r, i, j, a, b, c, h1, h2, rfl, h4, h5, h6⟩ := h
    have key : ∀ (m : Nat) (x : Tr), (if G.lb r m = true then G.Dv d (G.sy r m - 65) x else x = Tr.leaf) → ∀ z, z ∈ x.fl → z < G.k := by
      intro m x hx z hz
      by_cases q : G.lb r m = true
      · rw [if_pos q] at hx
        exact Gr.Dv_mem d _ _ hx z hz
      · rw [if_neg q] at hx
        rw [hx] at hz
        exact absurd hz (by simp [Tr.leaf, Tr.fl, Tr.nd])
    intro z hz
    rw [mkT_fl] at hz
    simp only [List.mem_cons, List.mem_append] at hz
    rcases hz with hz | hz | hz | hz
    · rw [hz]; exact h1
    · exact key 0 a h4 z hz
    · exact key 1 b h5 z hz
    · exact key 2 c h6 z hz
theorem fl_len (T : Tr) : T.fl.length = T.sz := by unfold Tr.fl Tr.sz; rw [List.length_map]
section ONE
variable {mRule mSum mOne mTwo mThree : Nat → Int32}
/-- one part of the new tree is written behind the list F -/
theorem ps_mB90 (hC : ∀ x i j, i < j → G.CP ρ x (j - i) (Tb x i j)) (hD : G.Dc D) (hR : G.mER Tb mRule mSum mOne mTwo mThree D) {l i j r m w : Nat} {v : Int32} {x : Tr} (hS : ∀ y a b, G.Sb l i j y a b → D y a b) (h : G.CHp Tb mxc l i j r m v x) {F F' : List Nat} (hF : F.length + x.sz ≤ 60) {mWritten mOut mWhose mOpen : Nat → Int32} (w0 : mWritten 0 = nI F.length) (w1 : mWritten 1 = nI w) (r0 : RN mOut 0 F) (r1 : RN mOut 60 F')
    {K58 : Int32 → (Nat → Int32) → (Nat → Int32) → (Nat → Int32) → (Nat → Int32) → Prop} (k : ∀ mWritten' mOut' mWhose' mOpen' : Nat → Int32, mWritten' 0 = nI (F ++ x.fl).length → mWritten' 1 = nI w → RN mOut' 0 (F ++ x.fl) → RN mOut' 60 F' → K58 (nI (m + 1)) mWritten' mOut' mWhose' mOpen') : v_M_comesBefore_B90 K58 mRule mOne mTwo mThree (nI m) v mWritten mOut mWhose mOpen := by
  unfold v_M_comesBefore_B90
  rw [p_1, show (0 : Int32).toNatClampNeg = 0 from rfl, w0]
  rcases h with ⟨h1, i', j', q, h2, h3, h4, h5⟩ | ⟨h1, h2, h3⟩
  · have hd := hS _ _ _ h2
    obtain ⟨g1, g2, g3, g4⟩ := hR _ _ _ hd
    have := mxc_lt g1 g2 g3
    have sz1 := ((hC _ _ _ g2).2.2 q h3).2.2.1
    have p8 := (hC (G.sy r m - 65) i' j' g2).1.1
    rw [h4]
    refine br_f (show ¬ nI _ < nI 0 from fun z => by have := (nI_ltI (by omega) (by decide)).mp z; omega) ⟨vp_in_nI (n := 0) (by decide) (by decide), ?_⟩
    refine ps_writeOut (s := 0) (n := F.length) (T := x) hC hD hR (by decide) (h5 ▸ Gr.mV_D hC hD hR hd h3) (by rw [h5]; exact sz1) hF fun mOut' mWhose' mOpen' hW hf => ?_
    rw [Nat.mul_zero, Nat.zero_add] at hW hf
    refine k _ mOut' mWhose' mOpen' ?_ ?_ ?_ ?_
    · rw [pk_us, List.length_append, fl_len]
    · rw [pk_un (by decide)]; exact w1
    · refine RN_app (RN_fr r0 fun y _ hy => (hf y (by omega)).1) ?_
      rw [Nat.zero_add]
      exact hW.rn
    · exact RN_fr r1 fun y hy _ => (hf y (by omega)).1
  · rw [h2]
    refine br_t (by decide) (k mWritten mOut mWhose mOpen ?_ w1 ?_ r1)
    · rw [h3]; rw [show Tr.leaf.fl = [] from rfl, List.append_nil]; exact w0
    · rw [h3]; rw [show Tr.leaf.fl = [] from rfl, List.append_nil]; exact r0
theorem ps_mbefore (hw : G.WF) (hρ : G.Rk ρ) (hC : ∀ x i j, i < j → G.CP ρ x (j - i) (Tb x i j)) (hD : G.Dc D) (hR : G.mER Tb mRule mSum mOne mTwo mThree D) {l i j r u : Nat} {v0 v1 v2 : Int32} {a b c T T' : Tr} (hl : l < 5) (hij : i < j) (hj : j ≤ 6) (hS : ∀ y a b, G.Sb l i j y a b → D y a b)
    (hr : r < G.k) (eT : T = mkT (G.wt r) r i j a b c) (c0 : G.CHp Tb mxc l i j r 0 v0 a) (c1 : G.CHp Tb mxc l i j r 1 v1 b) (c2 : G.CHp Tb mxc l i j r 2 v2 c) (hu : u < 1440) (hV : G.mV Tb mRule mSum mOne mTwo mThree D u T') (eS : mSum u = nI T'.w) (tT : G.TP ρ (j - i) l T) (tT' : G.TP ρ (j - i) l T')
    {mWritten mOut mWhose mOpen : Nat → Int32} {post : Int32 → (Nat → Int32) → (Nat → Int32) → (Nat → Int32) → (Nat → Int32) → Prop} (k1 : bef T T' → ∀ mW mO mH mP : Nat → Int32, post 1 mW mO mH mP) (k0 : ¬ bef T T' → ∀ mW mO mH mP : Nat → Int32, post 0 mW mO mH mP) :
    v_M_comesBefore (nI u) (nI r) (nI T.w) v0 v1 v2 mRule mSum mOne mTwo mThree mWritten mOut mWhose mOpen post := by
  have hk := hw.1
  obtain ⟨wT, sT⟩ := Gr.TP_w hρ hl (show j - i ≤ 6 by omega) tT
  obtain ⟨wT', sT'⟩ := Gr.TP_w hρ hl (show j - i ≤ 6 by omega) tT'
  unfold v_M_comesBefore
  have iu : vp_in (nI u) 1440 := vp_in_nI hu (by decide)
  rw [nI_clamp (show u < 2 ^ 31 by omega), eS]
  refine ⟨iu, p_eq (by omega) (by omega) (fun e => ?_) (fun e => ⟨iu, p_le (by omega) (by omega) (fun z => k0 ?_ _ _ _ _) (fun z => k1 (Or.inl z) _ _ _ _)⟩)⟩
  · refine ps_writeOut (s := 1) (n := 0) (T := T') hC hD hR (by decide) hV tT'.2.2.1 (by omega) fun mOut' mWhose' mOpen' hW hf => ?_
    refine ⟨vp_in_nI (n := 0) (by decide) (by decide), vp_in_nI (n := 0) (by decide) (by decide), 4, ?_⟩
    rw [show (0 : Int32).toNatClampNeg = 0 from rfl]
    have szT : T.sz = 1 + a.sz + b.sz + c.sz := by rw [eT, mkT_sz]
    have flT : T.fl = [r] ++ a.fl ++ b.fl ++ c.fl := by rw [eT, mkT_fl]; simp [List.append_assoc]
    have n3 : ∀ m, m < 3 → ¬ nI 3 ≤ nI m := fun m hm z => by have := (nI_leI (by decide) (by omega)).mp z; omega
    -- part 0
    unfold v_M_comesBefore_L58
    refine br_f (n3 0 (by decide)) (br_t rfl ?_)
    refine ps_mB90 (m := 0) (w := T'.sz) (F := [r]) (F' := T'.fl) hC hD hR hS c0 (by rw [List.length_singleton]; omega) pk_us ?_ ?_ ?_ fun mW1 mO1 mH1 mP1 a0 a1 a2 a3 => ?_
    · rw [pk_un (by decide), pk_us, Nat.zero_add]
    · intro t z hz
      cases t with
      | zero => have : r = z := by simpa using hz
                rw [← this]; exact pk_us
      | succ t => simp at hz
    · refine RN_fr hW.rn fun y hy _ => ?_
      exact pk_un (by omega)
    -- part 1
    unfold v_M_comesBefore_L58
    refine br_f (n3 1 (by decide)) (br_f (show ¬ nI 1 = nI 0 by decide) (br_t rfl ?_))
    refine ps_mB90 (m := 1) (w := T'.sz) (F := [r] ++ a.fl) (F' := T'.fl) hC hD hR hS c1 (by rw [List.length_append, List.length_singleton, fl_len]; omega) a0 a1 a2 a3 fun mW2 mO2 mH2 mP2 b0 b1 b2 b3 => ?_
    -- part 2
    unfold v_M_comesBefore_L58
    refine br_f (n3 2 (by decide)) (br_f (show ¬ nI 2 = nI 0 by decide) (br_f (show ¬ nI 2 = nI 1 by decide) ?_))
    refine ps_mB90 (m := 2) (w := T'.sz) (F := [r] ++ a.fl ++ b.fl) (F' := T'.fl) hC hD hR hS c2 (by rw [List.length_append, List.length_append, List.length_singleton, fl_len, fl_len]; omega) b0 b1 b2 b3 fun mW3 mO3 mH3 mP3 d0 d1 d2 d3 => ?_
    rw [← flT] at d0 d2
    unfold v_M_comesBefore_L58
    refine br_t (show nI 3 ≤ nI 3 from Int32.le_refl _) ⟨T.fl.length + 1, ?_⟩
    refine ps_c115 T.fl T'.fl 0 (fun z hz => by have := Gr.Dv_mem _ _ _ tT.1 z hz; omega) (fun z hz => by have := Gr.Dv_mem _ _ _ tT'.1 z hz; omega) d2 d3 (by rw [Nat.zero_add]; exact d0) (by rw [Nat.zero_add, fl_len]; exact d1) (by rw [fl_len]; omega) (by rw [fl_len]; omega) (Gr.Dv_pf _ _ _ _ _ tT.1 tT'.1) (fun z => k1 (Or.inr ⟨e, z⟩) _ _ _ _) (fun z => k0 ?_ _ _ _ _)
    rintro (y | ⟨-, y⟩)
    · omega
    · exact z y
  · rintro (y | ⟨y, -⟩) <;> omega
end ONE
/-- entry v of the second is entry u of the first -/
def eqM (fR fS f1 f2 f3 : Nat → Int32) (u : Nat) (gR gS g1 g2 g3 : Nat → Int32) (v : Nat) : Prop := gR v = fR u ∧ gS v = fS u ∧ g1 v = f1 u ∧ g2 v = f2 u ∧ g3 v = f3 u
theorem eqM_rf (fR fS f1 f2 f3 : Nat → Int32) (u : Nat) : eqM fR fS f1 f2 f3 u fR fS f1 f2 f3 u := ⟨rfl, rfl, rfl, rfl, rfl⟩
theorem eqM_tr {fR fS f1 f2 f3 gR gS g1 g2 g3 hR hS h1 h2 h3 : Nat → Int32} {u v w : Nat} (h : eqM fR fS f1 f2 f3 u gR gS g1 g2 g3 v) (g : eqM gR gS g1 g2 g3 v hR hS h1 h2 h3 w) : eqM fR fS f1 f2 f3 u hR hS h1 h2 h3 w := by
  obtain ⟨a1, a2, a3, a4, a5⟩ := h
  obtain ⟨b1, b2, b3, b4, b5⟩ := g
  exact ⟨by rw [b1, a1], by rw [b2, a2], by rw [b3, a3], by rw [b4, a4], by rw [b5, a5]⟩
theorem Gr.mEN_eq {fR fS f1 f2 f3 gR gS g1 g2 g3 : Nat → Int32} {l i j u v : Nat} {T : Tr} (h : G.mEN Tb fR fS f1 f2 f3 l i j u T) (g : eqM fR fS f1 f2 f3 u gR gS g1 g2 g3 v) : G.mEN Tb gR gS g1 g2 g3 l i j v T := by
  obtain ⟨b1, b2, b3, b4, b5⟩ := g
  unfold Gr.mEN
  rw [b1, b2, b3, b4, b5]
  exact h
/-- numbers that a row of the model keeps as they are -/
def fitM (o v0 v1 v2 : Int32) : Prop := (∃ r, r < 14 ∧ o = nI r) ∧ (v0 = -1 ∨ ∃ n, n < 1440 ∧ v0 = nI n) ∧ (v1 = -1 ∨ ∃ n, n < 1440 ∧ v1 = nI n) ∧ (v2 = -1 ∨ ∃ n, n < 1440 ∧ v2 = nI n)
theorem fit_b {o : Int32} (h : ∃ r, r < 14 ∧ o = nI r) : vp_nar .byte o = o ∧ vp_nar .byte o.toInt8.toInt32 = o := by
  obtain ⟨r, h1, rfl⟩ := h
  exact ⟨by rw [vp_nar_byte, p_byte r h1], by rw [pk_vb, p_byte r h1]⟩
theorem fit_s {v : Int32} (h : v = -1 ∨ ∃ n, n < 1440 ∧ v = nI n) : vp_nar .short v = v ∧ vp_nar .short v.toInt16.toInt32 = v := by
  rcases h with rfl | ⟨n, h1, rfl⟩
  · exact ⟨by rw [vp_nar_short]; exact p_shortm, by rw [pk_vs]; exact p_shortm⟩
  · exact ⟨by rw [vp_nar_short, p_short (by omega)], by rw [pk_vs, p_short (by omega)]⟩
theorem Gr.CHp_fit (hC : ∀ x i j, i < j → G.CP ρ x (j - i) (Tb x i j)) {l i j r m : Nat} {v : Int32} {a : Tr} (hb : ∀ x i' j', G.Sb l i j x i' j' → x < 5 ∧ i' < j' ∧ j' ≤ 6) (h : G.CHp Tb mxc l i j r m v a) : v = -1 ∨ ∃ n, n < 1440 ∧ v = nI n := by
  rcases h with ⟨h1, i', j', q, h2, h3, h4, h5⟩ | ⟨h1, h2, _⟩
  · obtain ⟨g1, g2, g3⟩ := hb _ _ _ h2
    have := mxc_lt g1 g2 g3
    have := (hC (G.sy r m - 65) i' j' g2).1.1
    exact Or.inr ⟨_, by omega, h4⟩
  · exact Or.inl h2
theorem Gr.mEN_fit (hw : G.WF) (hC : ∀ x i j, i < j → G.CP ρ x (j - i) (Tb x i j)) {fR fS f1 f2 f3 : Nat → Int32} {l i j u : Nat} {T : Tr} (hb : ∀ x i' j', G.Sb l i j x i' j' → x < 5 ∧ i' < j' ∧ j' ≤ 6) (h : G.mEN Tb fR fS f1 f2 f3 l i j u T) : fitM (fR u) (f1 u) (f2 u) (f3 u) := by
  obtain ⟨r, a, b, c, hr, hru, hrl, eM, eO, eS, c0, c1, c2⟩ := h
  exact ⟨⟨r, by have := hw.1; omega, eO⟩, Gr.CHp_fit hC hb c0, Gr.CHp_fit hC hb c1, Gr.CHp_fit hC hb c2⟩
/-- from k down to the rank everything moves up by one, then the new tree is put there -/
theorem ps_mshift {X rk n' : Nat} (hX : X < 180) (hr : rk < n') (hn : n' ≤ 8) {o s v0 v1 v2 : Int32} (hf : fitM o v0 v1 v2) {mKept mWritten mOut mWhose mOpen hR hS h1 h2 h3 : Nat → Int32} (hfit : ∀ q, q + 1 < n' → fitM (hR (8 * X + q)) (h1 (8 * X + q)) (h2 (8 * X + q)) (h3 (8 * X + q)))
    {post : (Nat → Int32) → (Nat → Int32) → (Nat → Int32) → (Nat → Int32) → (Nat → Int32) → (Nat → Int32) → (Nat → Int32) → (Nat → Int32) → (Nat → Int32) → (Nat → Int32) → Prop}
    (k : ∀ gR gS g1 g2 g3 : Nat → Int32, (∀ w, w < 8 * X ∨ 8 * X + 8 ≤ w → eqM hR hS h1 h2 h3 w gR gS g1 g2 g3 w) → (∀ q, q < rk → eqM hR hS h1 h2 h3 (8 * X + q) gR gS g1 g2 g3 (8 * X + q)) → (gR (8 * X + rk) = o ∧ gS (8 * X + rk) = s ∧ g1 (8 * X + rk) = v0 ∧ g2 (8 * X + rk) = v1 ∧ g3 (8 * X + rk) = v2) → (∀ q, rk < q → q < n' → eqM hR hS h1 h2 h3 (8 * X + (q - 1)) gR gS g1 g2 g3 (8 * X + q)) → post (upd mKept X (nI n')) gR gS g1 g2 g3 mWritten mOut mWhose mOpen) :
    ∀ (c : Nat) (fR fS f1 f2 f3 : Nat → Int32), rk + c < n' → (∀ w, w < 8 * X ∨ 8 * X + 8 ≤ w → eqM hR hS h1 h2 h3 w fR fS f1 f2 f3 w) → (∀ q, q ≤ rk + c → eqM hR hS h1 h2 h3 (8 * X + q) fR fS f1 f2 f3 (8 * X + q)) → (∀ q, rk + c < q → q < n' → eqM hR hS h1 h2 h3 (8 * X + (q - 1)) fR fS f1 f2 f3 (8 * X + q)) →
      v_M_offer_L70 post o s v0 v1 v2 (nI X) (nI rk) (nI (n' - 1)) mKept mWritten mOut mWhose mOpen (c + 1) (nI (8 * X + (rk + c))) fR fS f1 f2 f3 := by
  intro c
  induction c with
  | zero =>
    intro fR fS f1 f2 f3 hc a1 a2 a3
    unfold v_M_offer_L70
    rw [show (8 : Int32) = nI 8 from rfl, pk_mul, nI_add]
    refine br_t (Int32.le_refl _) ?_
    intro y4 hy4
    subst hy4
    have iy : vp_in (nI (8 * X + rk)) 1440 := vp_in_nI (by omega) (by decide)
    refine ⟨iy, iy, iy, iy, iy, vp_in_nI hX (by decide), ?_⟩
    rw [nI_clamp (show 8 * X + rk < 2 ^ 31 by omega), nI_clamp (show X < 2 ^ 31 by omega), p_1, show n' - 1 + 1 = n' by omega, (fit_b hf.1).2, (fit_s hf.2.1).2, (fit_s hf.2.2.1).2, (fit_s hf.2.2.2).2]
    have kp : ∀ w, w ≠ 8 * X + rk → eqM fR fS f1 f2 f3 w (upd fR (8 * X + rk) o) (upd fS (8 * X + rk) s) (upd f1 (8 * X + rk) v0) (upd f2 (8 * X + rk) v1) (upd f3 (8 * X + rk) v2) w := fun w hw => ⟨pk_un hw, pk_un hw, pk_un hw, pk_un hw, pk_un hw⟩
    exact k _ _ _ _ _ (fun w hw => eqM_tr (a1 w hw) (kp w (by omega))) (fun q hq => eqM_tr (a2 q (by omega)) (kp _ (by omega))) ⟨pk_us, pk_us, pk_us, pk_us, pk_us⟩ (fun q z1 z2 => eqM_tr (a3 q z1 z2) (kp _ (by omega)))
  | succ c ih =>
    intro fR fS f1 f2 f3 hc a1 a2 a3
    unfold v_M_offer_L70
    rw [show (8 : Int32) = nI 8 from rfl, pk_mul, nI_add, p_s1 (by omega)]
    refine br_f (fun z => by have := (nI_leI (by omega) (by omega)).mp z; omega) ?_
    have i1 : vp_in (nI (8 * X + (rk + (c + 1)) - 1)) 1440 := vp_in_nI (by omega) (by decide)
    have i2 : vp_in (nI (8 * X + (rk + (c + 1)))) 1440 := vp_in_nI (by omega) (by decide)
    refine ⟨i1, i2, i1, i2, i1, i2, i1, i2, i1, i2, ?_⟩
    rw [nI_clamp (show 8 * X + (rk + (c + 1)) - 1 < 2 ^ 31 by omega), nI_clamp (show 8 * X + (rk + (c + 1)) < 2 ^ 31 by omega), show nI (8 * X + (rk + (c + 1))) + (-1 : Int32) = nI (8 * X + (rk + c)) by rw [show 8 * X + (rk + (c + 1)) = (8 * X + (rk + c)) + 1 by omega, pk_m1], show 8 * X + (rk + (c + 1)) - 1 = 8 * X + (rk + c) by omega]
    obtain ⟨e1, e2, e3, e4, e5⟩ := a2 (rk + c) (by omega)
    obtain ⟨t1, t2, t3, t4⟩ := hfit (rk + c) (by omega)
    rw [e1, e2, e3, e4, e5, (fit_b t1).1, (fit_s t2).1, (fit_s t3).1, (fit_s t4).1]
    have kp : ∀ w, w ≠ 8 * X + (rk + (c + 1)) → eqM fR fS f1 f2 f3 w (upd fR (8 * X + (rk + (c + 1))) (hR (8 * X + (rk + c)))) (upd fS (8 * X + (rk + (c + 1))) (hS (8 * X + (rk + c)))) (upd f1 (8 * X + (rk + (c + 1))) (h1 (8 * X + (rk + c)))) (upd f2 (8 * X + (rk + (c + 1))) (h2 (8 * X + (rk + c)))) (upd f3 (8 * X + (rk + (c + 1))) (h3 (8 * X + (rk + c)))) w := fun w hw => ⟨pk_un hw, pk_un hw, pk_un hw, pk_un hw, pk_un hw⟩
    refine ih _ _ _ _ _ (by omega) (fun w hw => eqM_tr (a1 w hw) (kp w (by omega))) (fun q hq => eqM_tr (a2 q (by omega)) (kp _ (by omega))) fun q z1 z2 => ?_
    by_cases z : q = rk + (c + 1)
    · subst z
      rw [show rk + (c + 1) - 1 = rk + c by omega]
      exact ⟨pk_us, pk_us, pk_us, pk_us, pk_us⟩
    · exact eqM_tr (a3 q (by omega) z2) (kp _ (by omega))
/-- the cell's row is R -/
def Gr.mNow (G : Gr) (Tb : Tab) (l i j : Nat) (R : Row) (mKept mRule mSum mOne mTwo mThree : Nat → Int32) : Prop := mKept (mxc l i j) = nI R.n ∧ ∀ q, q < R.n → G.mEN Tb mRule mSum mOne mTwo mThree l i j (8 * mxc l i j + q) (R.f q)
/-- nothing but this cell's row has changed -/
def mFr (X : Nat) (mKept fR fS f1 f2 f3 mKept' gR gS g1 g2 g3 : Nat → Int32) : Prop := (∀ y, y ≠ X → mKept' y = mKept y) ∧ ∀ w, w < 8 * X ∨ 8 * X + 8 ≤ w → eqM fR fS f1 f2 f3 w gR gS g1 g2 g3 w
theorem mFr_rf (X : Nat) (mKept fR fS f1 f2 f3 : Nat → Int32) : mFr X mKept fR fS f1 f2 f3 mKept fR fS f1 f2 f3 := ⟨fun _ _ => rfl, fun _ _ => eqM_rf _ _ _ _ _ _⟩
theorem mFr_tr {X : Nat} {mKept fR fS f1 f2 f3 mKept' gR gS g1 g2 g3 mKept'' hR hS h1 h2 h3 : Nat → Int32} (h : mFr X mKept fR fS f1 f2 f3 mKept' gR gS g1 g2 g3) (g : mFr X mKept' gR gS g1 g2 g3 mKept'' hR hS h1 h2 h3) : mFr X mKept fR fS f1 f2 f3 mKept'' hR hS h1 h2 h3 :=
  ⟨fun y hy => by rw [g.1 y hy, h.1 y hy], fun w hw => eqM_tr (h.2 w hw) (g.2 w hw)⟩
theorem Gr.mER_fr (hC : ∀ x i j, i < j → G.CP ρ x (j - i) (Tb x i j)) {l i j : Nat} (hij : i < j) (hj : j ≤ 6) (hnD : ¬ D l i j) {mKept fR fS f1 f2 f3 mKept' gR gS g1 g2 g3 : Nat → Int32} (hR : G.mER Tb fR fS f1 f2 f3 D) (h : mFr (mxc l i j) mKept fR fS f1 f2 f3 mKept' gR gS g1 g2 g3) : G.mER Tb gR gS g1 g2 g3 D := fun x i' j' hx => by
  obtain ⟨g1, g2, g3, g4⟩ := hR x i' j' hx
  have b2 := (hC x i' j' g2).1.1
  have ne : mxc x i' j' ≠ mxc l i j := fun z => by
    obtain ⟨z1, z2, z3⟩ := mxc_inj g2 g3 hij hj z
    rw [z1, z2, z3] at hx
    exact hnD hx
  exact ⟨g1, g2, g3, fun q hq => Gr.mEN_eq (g4 q hq) (h.2 _ (by omega))⟩
theorem ps_moffer (hw : G.WF) (hρ : G.Rk ρ) (hC : ∀ x i j, i < j → G.CP ρ x (j - i) (Tb x i j)) (hD : G.Dc D) {mKept mRule mSum mOne mTwo mThree mWritten mOut mWhose mOpen : Nat → Int32} (hR : G.mER Tb mRule mSum mOne mTwo mThree D)
    {l i j r : Nat} {v0 v1 v2 : Int32} {a b c T : Tr} {R : Row} (hl : l < 5) (hij : i < j) (hj : j ≤ 6) (hS : ∀ y a b, G.Sb l i j y a b → D y a b) (hr : r < G.k) (hru : G.us r = true) (hrl : G.hd r = l) (eT : T = mkT (G.wt r) r i j a b c) (c0 : G.CHp Tb mxc l i j r 0 v0 a) (c1 : G.CHp Tb mxc l i j r 1 v1 b) (c2 : G.CHp Tb mxc l i j r 2 v2 c)
    (hRo : R.ok) (hT : G.TP ρ (j - i) l T) (hTs : ∀ q, q < R.n → G.TP ρ (j - i) l (R.f q)) (hN : G.mNow Tb l i j R mKept mRule mSum mOne mTwo mThree)
    {post : (Nat → Int32) → (Nat → Int32) → (Nat → Int32) → (Nat → Int32) → (Nat → Int32) → (Nat → Int32) → (Nat → Int32) → (Nat → Int32) → (Nat → Int32) → (Nat → Int32) → Prop}
    (k : ∀ mK gR gS g1 g2 g3 mW mO mH mP : Nat → Int32, G.mNow Tb l i j (insR T R) mK gR gS g1 g2 g3 → mFr (mxc l i j) mKept mRule mSum mOne mTwo mThree mK gR gS g1 g2 g3 → post mK gR gS g1 g2 g3 mW mO mH mP) :
    v_M_offer (nI (mxc l i j)) (nI r) (nI T.w) v0 v1 v2 mKept mRule mSum mOne mTwo mThree mWritten mOut mWhose mOpen post := by
  have hk := hw.1
  have hX := mxc_lt hl hij hj
  have hSb : ∀ x i' j', G.Sb l i j x i' j' → x < 5 ∧ i' < j' ∧ j' ≤ 6 := fun x i' j' h => ⟨(hR _ _ _ (hS _ _ _ h)).1, (hR _ _ _ (hS _ _ _ h)).2.1, (hR _ _ _ (hS _ _ _ h)).2.2.1⟩
  have h8 := hRo.1
  have hfT : fitM (nI r) v0 v1 v2 := ⟨⟨r, by omega, rfl⟩, Gr.CHp_fit hC hSb c0, Gr.CHp_fit hC hSb c1, Gr.CHp_fit hC hSb c2⟩
  unfold v_M_offer
  rw [nI_clamp (show mxc l i j < 2 ^ 31 by omega), hN.1]
  have iX : vp_in (nI (mxc l i j)) 180 := vp_in_nI hX (by decide)
  refine ⟨iX, ?_⟩
  intro y2 hy2
  subst hy2
  have rank : ∀ (q : Nat) (mW mO mH mP : Nat → Int32), q ≤ R.n → rkn T R.f R.n = rkn T R.f q → v_M_offer_L7 post (nI r) (nI T.w) v0 v1 v2 (nI (mxc l i j)) mKept mRule mSum mOne mTwo mThree (q + 1) (nI q) mW mO mH mP := by
    have fin : ∀ (q : Nat) (mW mO mH mP : Nat → Int32), q ≤ R.n → rkn T R.f R.n = q → v_M_offer_B32 post (nI r) (nI T.w) v0 v1 v2 (nI (mxc l i j)) (nI q) mKept mRule mSum mOne mTwo mThree mW mO mH mP := by
      intro q mW mO mH mP hq hrk
      unfold v_M_offer_B32
      refine p_eq (b := 8) (by omega) (by decide) (fun h => ?_) (fun h => ?_)
      · have ins : insR T R = R := by unfold insR; rw [hrk, if_pos (by omega)]
        exact k _ _ _ _ _ _ _ _ _ _ (by rw [ins]; exact hN) (mFr_rf _ _ _ _ _ _ _)
      · rw [nI_clamp (show mxc l i j < 2 ^ 31 by omega), hN.1]
        have ins : insR T R = put T q R := by unfold insR; rw [hrk, if_neg (by omega)]
        have fin2 : ∀ gR gS g1 g2 g3 : Nat → Int32, (∀ w, w < 8 * mxc l i j ∨ 8 * mxc l i j + 8 ≤ w → eqM mRule mSum mOne mTwo mThree w gR gS g1 g2 g3 w) → (∀ q', q' < q → eqM mRule mSum mOne mTwo mThree (8 * mxc l i j + q') gR gS g1 g2 g3 (8 * mxc l i j + q')) → (gR (8 * mxc l i j + q) = nI r ∧ gS (8 * mxc l i j + q) = nI T.w ∧ g1 (8 * mxc l i j + q) = v0 ∧ g2 (8 * mxc l i j + q) = v1 ∧ g3 (8 * mxc l i j + q) = v2) → (∀ q', q < q' → q' < min 8 (R.n + 1) → eqM mRule mSum mOne mTwo mThree (8 * mxc l i j + (q' - 1)) gR gS g1 g2 g3 (8 * mxc l i j + q')) → post (upd mKept (mxc l i j) (nI (min 8 (R.n + 1)))) gR gS g1 g2 g3 mW mO mH mP := by
          intro gR gS g1 g2 g3 e3 e4 e5 e6
          refine k _ gR gS g1 g2 g3 mW mO mH mP ?_ ⟨fun y hy => pk_un hy, e3⟩
          rw [ins]
          refine ⟨pk_us, fun q' hq' => ?_⟩
          have hq2 : q' < min 8 (R.n + 1) := hq'
          show G.mEN Tb gR gS g1 g2 g3 l i j (8 * mxc l i j + q') (if q' < q then R.f q' else if q' = q then T else R.f (q' - 1))
          by_cases z1 : q' < q
          · rw [if_pos z1]; exact Gr.mEN_eq (hN.2 q' (by omega)) (e4 q' z1)
          · rw [if_neg z1]
            by_cases z2 : q' = q
            · rw [if_pos z2, z2]
              obtain ⟨e50, e51, e52, e53, e54⟩ := e5
              unfold Gr.mEN
              rw [e50, e51, e52, e53, e54]
              exact ⟨r, a, b, c, hr, hru, hrl, eT, rfl, rfl, c0, c1, c2⟩
            · rw [if_neg z2]; exact Gr.mEN_eq (hN.2 (q' - 1) (by omega)) (e6 q' (by omega) hq2)
        have hfit : ∀ q, q < R.n → fitM (mRule (8 * mxc l i j + q)) (mOne (8 * mxc l i j + q)) (mTwo (8 * mxc l i j + q)) (mThree (8 * mxc l i j + q)) := fun q hq => Gr.mEN_fit hw hC hSb (hN.2 q hq)
        refine ⟨iX, p_eq (b := 8) (by omega) (by decide) (fun z => ?_) (fun z => ⟨iX, ?_⟩)⟩
        · rw [show (8 : Int32) = nI 8 from rfl, show (7 : Int32) = nI 7 from rfl, pk_mul, nI_add]
          intro y4 hy4
          subst hy4
          refine ⟨7 - q + 1, ?_⟩
          have := ps_mshift (X := mxc l i j) (rk := q) (n' := 8) (s := nI T.w) (mKept := mKept) (mWritten := mW) (mOut := mO) (mWhose := mH) (mOpen := mP) (hR := mRule) (hS := mSum) (h1 := mOne) (h2 := mTwo) (h3 := mThree) (post := post) hX (by omega) (by decide) hfT (fun q' hq' => hfit q' (by omega)) (fun gR gS g1 g2 g3 e3 e4 e5 e6 => by
            have := fin2 gR gS g1 g2 g3 e3 e4 e5 (fun q' a b => e6 q' a (by omega))
            rw [show min 8 (R.n + 1) = 8 by omega] at this
            exact this) (7 - q) mRule mSum mOne mTwo mThree (by omega) (fun w _ => eqM_rf _ _ _ _ _ _) (fun q' _ => eqM_rf _ _ _ _ _ _) (fun q' a b => by omega)
          rw [show q + (7 - q) = 7 by omega] at this
          exact this
        · intro y3 hy3
          subst hy3
          rw [show (8 : Int32) = nI 8 from rfl, pk_mul, nI_add]
          intro y4 hy4
          subst hy4
          refine ⟨R.n - q + 1, ?_⟩
          have := ps_mshift (X := mxc l i j) (rk := q) (n' := R.n + 1) (s := nI T.w) (mKept := mKept) (mWritten := mW) (mOut := mO) (mWhose := mH) (mOpen := mP) (hR := mRule) (hS := mSum) (h1 := mOne) (h2 := mTwo) (h3 := mThree) (post := post) hX (by omega) (by omega) hfT (fun q' hq' => hfit q' (by omega)) (fun gR gS g1 g2 g3 e3 e4 e5 e6 => by
            have := fin2 gR gS g1 g2 g3 e3 e4 e5 (fun q' a b => e6 q' a (by omega))
            rw [show min 8 (R.n + 1) = R.n + 1 by omega] at this
            exact this) (R.n - q) mRule mSum mOne mTwo mThree (by omega) (fun w _ => eqM_rf _ _ _ _ _ _) (fun q' _ => eqM_rf _ _ _ _ _ _) (fun q' a b => by omega)
          rw [show q + (R.n - q) = R.n by omega, Nat.add_sub_cancel] at this
          exact this
    intro q
    induction q with
    | zero =>
      intro mW mO mH mP hq hrk
      unfold v_M_offer_L7
      exact br_t (show nI 0 ≤ (0 : Int32) from Int32.le_refl _) (fin 0 mW mO mH mP hq hrk)
    | succ q ih =>
      intro mW mO mH mP hq hrk
      unfold v_M_offer_L7
      refine br_f (show ¬ nI (q + 1) ≤ nI 0 from fun z => by have := (nI_leI (by omega) (by decide)).mp z; omega) ?_
      rw [show (8 : Int32) = nI 8 from rfl, pk_mul, nI_add, p_s1 (by omega), show 8 * mxc l i j + (q + 1) - 1 = 8 * mxc l i j + q by omega, pk_m1]
      have eS : mSum (8 * mxc l i j + q) = nI (R.f q).w := by obtain ⟨_, _, _, _, _, _, _, _, _, e, _⟩ := hN.2 q (by omega); exact e
      refine ps_mbefore hw hρ hC hD hR hl hij hj hS hr eT c0 c1 c2 (by omega) ⟨l, i, j, q, hl, hij, hj, by omega, rfl, hN.2 q (by omega), hS⟩ eS hT (hTs q (by omega)) (fun z mW2 mO2 mH2 mP2 => ?_) (fun z mW2 mO2 mH2 mP2 => ?_)
      · refine br_f (by decide) (ih mW2 mO2 mH2 mP2 (by omega) ?_)
        rw [hrk]
        show (if befB T (R.f q) then rkn T R.f q else q + 1) = _
        rw [if_pos (befB_t.mpr z)]
      · refine br_t rfl (fin (q + 1) mW2 mO2 mH2 mP2 hq ?_)
        rw [hrk]
        show (if befB T (R.f q) then rkn T R.f q else q + 1) = _
        rw [if_neg (fun y => z (befB_t.mp y))]
  exact ⟨R.n + 1, rank R.n mWritten mOut mWhose mOpen (Nat.le_refl _) rfl⟩
end MOF
