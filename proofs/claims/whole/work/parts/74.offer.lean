/-! The class offers a tree to a cell. -/
/-- entry v of the second is entry u of the first -/
def eqE (fO fW fZ fC : Nat → Int32) (u : Nat) (gO gW gZ gC : Nat → Int32) (v : Nat) : Prop := gO v = fO u ∧ gW v = fW u ∧ gZ v = fZ u ∧ gC (3 * v + 0) = fC (3 * u + 0) ∧ gC (3 * v + 1) = fC (3 * u + 1) ∧ gC (3 * v + 2) = fC (3 * u + 2)
theorem eqE_rf (fO fW fZ fC : Nat → Int32) (u : Nat) : eqE fO fW fZ fC u fO fW fZ fC u := ⟨rfl, rfl, rfl, rfl, rfl, rfl⟩
theorem eqE_tr {fO fW fZ fC gO gW gZ gC hO hW hZ hC : Nat → Int32} {u v w : Nat} (h : eqE fO fW fZ fC u gO gW gZ gC v) (g : eqE gO gW gZ gC v hO hW hZ hC w) : eqE fO fW fZ fC u hO hW hZ hC w := by
  obtain ⟨h1, h2, h3, h4, h5, h6⟩ := h
  obtain ⟨g1, g2, g3, g4, g5, g6⟩ := g
  exact ⟨by rw [g1, h1], by rw [g2, h2], by rw [g3, h3], by rw [g4, h4], by rw [g5, h5], by rw [g6, h6]⟩
theorem Gr.cEN_eq {G : Gr} {Tb : Tab} {fO fW fZ fC gO gW gZ gC : Nat → Int32} {l i j u v : Nat} {T : Tr} (h : G.cEN Tb fO fW fZ fC l i j u T) (g : eqE fO fW fZ fC u gO gW gZ gC v) : G.cEN Tb gO gW gZ gC l i j v T := by
  obtain ⟨g1, g2, g3, g4, g5, g6⟩ := g
  unfold Gr.cEN
  rw [g1, g2, g3, g4, g5, g6]
  exact h
theorem p_8 (x : Nat) : nI x * (8 : Int32) = nI (8 * x) := by rw [show (8 : Int32) = nI 8 from rfl, pk_mul, Nat.mul_comm]
theorem p_s1 {a : Nat} (h : 0 < a) : nI a - (1 : Int32) = nI (a - 1) := pk_sub (b := 1) h
theorem ps_copy {u v : Nat} (hu : u < 841) (hv : v < 841) (huv : u ≠ v) {fO fW fZ fC : Nat → Int32} {post : (Nat → Int32) → (Nat → Int32) → (Nat → Int32) → (Nat → Int32) → Prop}
    (k : ∀ gO gW gZ gC : Nat → Int32, eqE fO fW fZ fC u gO gW gZ gC v → (∀ w, w ≠ v → eqE fO fW fZ fC w gO gW gZ gC w) → post gO gW gZ gC) : v_Forest_copy (nI u) (nI v) fO fW fZ fC post := by
  unfold v_Forest_copy
  have iu := vp_in_nI hu (by decide)
  have iv := vp_in_nI hv (by decide)
  refine ⟨iu, iv, iu, iv, iu, iv, 4, ?_⟩
  rw [nI_clamp (show u < 2 ^ 31 by omega), nI_clamp (show v < 2 ^ 31 by omega)]
  have st : ∀ (gO gW gZ gC : Nat → Int32) (n m : Nat), m < 3 → v_Forest_copy_L38 post (nI u) (nI v) gO gW gZ n (nI (m + 1)) (upd gC (3 * v + m) (gC (3 * u + m))) → v_Forest_copy_L38 post (nI u) (nI v) gO gW gZ (n + 1) (nI m) gC := by
    intro gO gW gZ gC n m hm h
    unfold v_Forest_copy_L38
    refine br_f (show ¬ nI 3 ≤ nI m from fun z => by have := (nI_leI (by decide) (by omega)).mp z; omega) ?_
    rw [p_ix, p_ix, p_1, nI_clamp (show 3 * u + m < 2 ^ 31 by omega), nI_clamp (show 3 * v + m < 2 ^ 31 by omega)]
    exact ⟨vp_in_nI (by omega) (by decide), vp_in_nI (by omega) (by decide), h⟩
  refine st _ _ _ _ 3 0 (by decide) (st _ _ _ _ 2 1 (by decide) (st _ _ _ _ 1 2 (by decide) ?_))
  unfold v_Forest_copy_L38
  refine br_t (show nI 3 ≤ nI 3 from Int32.le_refl _) (k _ _ _ _ ?_ ?_)
  · refine ⟨pk_us, pk_us, pk_us, ?_, ?_, ?_⟩
    · rw [pk_un (by omega), pk_un (by omega), pk_us]
    · rw [pk_un (by omega), pk_us, pk_un (by omega)]
    · rw [pk_us, pk_un (by omega), pk_un (by omega)]
  · intro w hw
    refine ⟨pk_un hw, pk_un hw, pk_un hw, ?_, ?_, ?_⟩ <;> rw [pk_un (by omega), pk_un (by omega), pk_un (by omega)]
section OFR
variable {G : Gr} {Tb : Tab} {ρ : Nat → Nat} {D : Nat → Nat → Nat → Prop}
theorem Gr.TP_w (hρ : G.Rk ρ) {w l : Nat} {T : Tr} (hl : l < 5) (hw : w ≤ 6) (h : G.TP ρ w l T) : T.w < 2 ^ 20 ∧ T.sz ≤ 55 := by
  have := hρ.1 l hl
  have h1 := h.2.1
  have h2 := h.2.2.2
  omega
theorem ps_before (hw : G.WF) (hρ : G.Rk ρ) (hC : ∀ x i j, i < j → G.CP ρ x (j - i) (Tb x i j)) (hD : G.Dc D) {fO fW fZ fC : Nat → Int32} (hR : G.cER Tb fO fW fZ fC D)
    {l i j u : Nat} {T T' : Tr} (hl : l < 5) (hij : i < j) (hj : j ≤ 6) (hu : u < 840) (hT : G.cEN Tb fO fW fZ fC l i j 840 T) (hT' : G.cEN Tb fO fW fZ fC l i j u T') (wT : T.w < 2 ^ 20) (wT' : T'.w < 2 ^ 20) (hS : ∀ x a b, G.Sb l i j x a b → D x a b)
    {post : Int32 → Prop} (k1 : bef T T' → post 1) (k0 : ¬ bef T T' → post 0) : v_Forest_comesBefore (840 : Int32) (nI u) fO fW fC post := by
  unfold v_Forest_comesBefore
  rw [show (840 : Int32) = nI 840 from rfl, nI_clamp (show 840 < 2 ^ 31 by decide), nI_clamp (show u < 2 ^ 31 by omega)]
  have i1 : vp_in (nI 840) 841 := vp_in_nI (by decide) (by decide)
  have i2 : vp_in (nI u) 841 := vp_in_nI (by omega) (by decide)
  have e1 : fW 840 = nI T.w := by obtain ⟨⟨r, a, b, c, -, -, -, -, -, e, -⟩, -⟩ := hT; exact e
  have e2 : fW u = nI T'.w := by obtain ⟨⟨r, a, b, c, -, -, -, -, -, e, -⟩, -⟩ := hT'; exact e
  rw [e1, e2]
  refine ⟨i1, i2, p_eq (by omega) (by omega) (fun e => ?_) (fun e => ⟨i1, i2, ?_⟩)⟩
  · have := hρ.1 l hl
    refine ps_cmp hw hρ hC hD hR 35 43 0 l i j i j 840 u T T' (by decide) (by omega) (by decide) (by decide) (by omega) hT hT' hS hS (fun z => by omega) _ fun r hr => ?_
    rcases hr with ⟨h, g⟩ | ⟨h, g⟩ | ⟨h, g⟩
    · refine br_t (by rw [h]; exact Int32.le_refl _) (k0 fun z => ?_)
      rcases z with z | ⟨-, z⟩
      · omega
      · rw [g] at z; exact lx_irr _ z
    · exact br_f (fun z => by rw [Int32.lt_iff_toInt_lt] at h; rw [Int32.le_iff_toInt_le] at z; omega) (k1 (Or.inr ⟨e, g⟩))
    · refine br_t (by rw [Int32.lt_iff_toInt_lt] at h; rw [Int32.le_iff_toInt_le]; omega) (k0 fun z => ?_)
      rcases z with z | ⟨-, z⟩
      · omega
      · exact lx_asym _ _ g z
  · refine p_le (by omega) (by omega) (fun z => k0 ?_) (fun z => k1 (Or.inl z))
    rintro (y | ⟨y, -⟩) <;> omega
/-- the first tree of a part, and how many -/
def Gr.cFm (G : Gr) (Tb : Tab) (l i j r m : Nat) (v : Int32) (R : Row) : Prop := (G.lb r m = true ∧ ∃ i' j', G.Sb l i j (G.sy r m - 65) i' j' ∧ v = nI (8 * cxc (G.sy r m - 65) i' j') ∧ R = (Tb (G.sy r m - 65) i' j').r) ∨ (G.lb r m = false ∧ v = -1 ∧ ∀ q, R.f q = Tr.leaf)
theorem nI_m1 {n : Nat} (h : n < 2 ^ 30) : nI n ≠ (-1 : Int32) := fun z => by
  have z2 : (nI n).toInt = (-1 : Int32).toInt := by rw [z]
  rw [nI_toInt (by omega), show (-1 : Int32).toInt = -1 by decide] at z2
  omega
theorem ps_chosen {l i j r m a : Nat} (hm : m < 3) (hS : ∀ x i' j', G.Sb l i j x i' j' → x < 5 ∧ i' < j' ∧ j' ≤ 6) {cF : Nat → Int32} {R : Row} (h : G.cFm Tb l i j r m (cF m) R) (ha : a < R.n) {post : Int32 → Prop} (k : ∀ v, G.CHp Tb cxc l i j r m v (R.f a) → post v) : v_Chart_chosen (nI m) (nI a) cF post := by
  unfold v_Chart_chosen
  rw [nI_clamp (show m < 2 ^ 31 by omega)]
  have im : vp_in (nI m) 3 := vp_in_nI hm (by decide)
  refine ⟨im, ?_⟩
  rcases h with ⟨h1, i', j', h2, h3, h4⟩ | ⟨h1, h2, h3⟩
  · obtain ⟨g1, g2, g3⟩ := hS _ _ _ h2
    have := cxc_lt g1 g2 g3
    rw [h3]
    refine br_f (nI_m1 (by omega)) ⟨im, ?_⟩
    rw [nI_add]
    exact k _ (Or.inl ⟨h1, i', j', a, h2, by rw [← h4]; exact ha, rfl, by rw [h4]⟩)
  · rw [h2]
    exact br_t rfl (k _ (Or.inr ⟨h1, rfl, h3 a⟩))
/-- an entry of the done cells by its number -/
theorem Gr.CHp_en {fO fW fZ fC : Nat → Int32} (hR : G.cER Tb fO fW fZ fC D) (hC : ∀ x i j, i < j → G.CP ρ x (j - i) (Tb x i j)) {l i j r m : Nat} {v : Int32} {a : Tr} (hS : ∀ x i' j', G.Sb l i j x i' j' → D x i' j') (h : G.CHp Tb cxc l i j r m v a) :
    (v = -1 ∧ a = Tr.leaf) ∨ ∃ n, n < 840 ∧ v = nI n ∧ fW n = nI a.w ∧ fZ n = nI a.sz := by
  rcases h with ⟨h1, i', j', q, h2, h3, h4, h5⟩ | ⟨h1, h2, h3⟩
  · right
    obtain ⟨g1, g2, g3, g4⟩ := hR _ _ _ (hS _ _ _ h2)
    have := cxc_lt g1 g2 g3
    have p1 := (hC (G.sy r m - 65) i' j' g2).1.1
    obtain ⟨⟨r', x, y, z, -, -, -, -, -, e, -⟩, e'⟩ := g4 q h3
    exact ⟨8 * cxc (G.sy r m - 65) i' j' + q, by omega, h4, by rw [h5]; exact e, by rw [h5]; exact e'⟩
  · exact Or.inl ⟨h2, h3⟩
def agF (N : Nat) (f g : Nat → Int32) : Prop := ∀ u, u < N → g u = f u
theorem ps_addD {m W Z : Nat} (hm : m < 3) {v : Int32} {a : Tr} {hW hZ fW fZ fC : Nat → Int32} (h : (v = -1 ∧ a = Tr.leaf) ∨ ∃ n, n < 840 ∧ v = nI n ∧ hW n = nI a.w ∧ hZ n = nI a.sz) (aW : agF 840 hW fW) (aZ : agF 840 hZ fZ) (eW : fW 840 = nI W) (eZ : fZ 840 = nI Z)
    {post : (Nat → Int32) → (Nat → Int32) → (Nat → Int32) → Prop} (k : ∀ gW gZ : Nat → Int32, agF 840 hW gW → agF 840 hZ gZ → gW 840 = nI (W + a.w) → gZ 840 = nI (Z + a.sz) → post gW gZ (upd fC (2520 + m) v)) : v_Forest_addToDraft (nI m) v fW fZ fC post := by
  unfold v_Forest_addToDraft
  rw [show (2520 : Int32) = nI 2520 from rfl, show (840 : Int32) = nI 840 from rfl, nI_add, nI_clamp (show 2520 + m < 2 ^ 31 by omega), nI_clamp (show 840 < 2 ^ 31 by decide)]
  refine ⟨vp_in_nI (by omega) (by decide), ?_⟩
  have i8 : vp_in (nI 840) 841 := vp_in_nI (by decide) (by decide)
  rcases h with ⟨h1, h2⟩ | ⟨n, h1, h2, h3, h4⟩
  · refine br_t h1 (k fW fZ aW aZ ?_ ?_)
    · rw [h2, leaf_w]; exact eW
    · rw [h2, leaf_sz]; exact eZ
  · have iv : vp_in v 841 := by rw [h2]; exact vp_in_nI (by omega) (by decide)
    refine br_f (by rw [h2]; exact nI_m1 (by omega)) ⟨i8, iv, i8, i8, iv, i8, ?_⟩
    rw [h2, nI_clamp (show n < 2 ^ 31 by omega), ← h2]
    refine k _ _ (fun u hu => ?_) (fun u hu => ?_) ?_ ?_
    · rw [pk_un (by omega)]; exact aW u hu
    · rw [pk_un (by omega)]; exact aZ u hu
    · rw [pk_us, eW, aW n h1, h3, nI_add]
    · rw [pk_us, eZ, aZ n h1, h4, nI_add]
/-- from k down to the rank everything moves up by one, then the draft is put there -/
theorem ps_shift {X rk n' : Nat} (hX : X < 105) (hr : rk < n') (hn : n' ≤ 8) {cK hO hW hZ hC : Nat → Int32} {post : Int32 → (Nat → Int32) → (Nat → Int32) → (Nat → Int32) → (Nat → Int32) → (Nat → Int32) → Prop}
    (k : ∀ gO gW gZ gC : Nat → Int32, (∀ w, w < 8 * X ∨ 8 * X + 8 ≤ w → eqE hO hW hZ hC w gO gW gZ gC w) → (∀ q, q < rk → eqE hO hW hZ hC (8 * X + q) gO gW gZ gC (8 * X + q)) → eqE hO hW hZ hC 840 gO gW gZ gC (8 * X + rk) → (∀ q, rk < q → q < n' → eqE hO hW hZ hC (8 * X + (q - 1)) gO gW gZ gC (8 * X + q)) → post 1 cK gO gW gZ gC) :
    ∀ (c : Nat) (fO fW fZ fC : Nat → Int32), rk + c < n' → (∀ w, w < 8 * X ∨ 8 * X + 8 ≤ w → eqE hO hW hZ hC w fO fW fZ fC w) → (∀ q, q ≤ rk + c → eqE hO hW hZ hC (8 * X + q) fO fW fZ fC (8 * X + q)) → (∀ q, rk + c < q → q < n' → eqE hO hW hZ hC (8 * X + (q - 1)) fO fW fZ fC (8 * X + q)) →
      v_Chart_offer_L146 post (nI (8 * X)) (nI rk) cK (c + 1) (nI (rk + c)) fO fW fZ fC := by
  intro c
  induction c with
  | zero =>
    intro fO fW fZ fC hc h1 h2 h3
    unfold v_Chart_offer_L146
    refine br_t (Int32.le_refl _) ?_
    rw [nI_add, show (840 : Int32) = nI 840 from rfl]
    refine ps_copy (by decide) (by omega) (by omega) fun gO gW gZ gC e1 e2 => k gO gW gZ gC ?_ ?_ ?_ ?_
    · exact fun w hw => eqE_tr (h1 w hw) (e2 w (by omega))
    · exact fun q hq => eqE_tr (h2 q (by omega)) (e2 _ (by omega))
    · exact eqE_tr (h1 840 (by omega)) e1
    · exact fun q a b => eqE_tr (h3 q a b) (e2 _ (by omega))
  | succ c ih =>
    intro fO fW fZ fC hc h1 h2 h3
    unfold v_Chart_offer_L146
    refine br_f (fun z => by have := (nI_leI (by omega) (by omega)).mp z; omega) ?_
    rw [nI_add, p_s1 (by omega)]
    refine ps_copy (by omega) (by omega) (by omega) fun gO gW gZ gC e1 e2 => ?_
    rw [show nI (rk + (c + 1)) + (-1 : Int32) = nI (rk + c) from pk_m1 (rk + c)]
    refine ih gO gW gZ gC (by omega) (fun w hw => eqE_tr (h1 w hw) (e2 w (by omega))) (fun q hq => eqE_tr (h2 q (by omega)) (e2 _ (by omega))) fun q a b => ?_
    by_cases z : q = rk + (c + 1)
    · subst z
      rw [show 8 * X + (rk + (c + 1) - 1) = 8 * X + (rk + (c + 1)) - 1 by omega]
      refine eqE_tr ?_ e1
      have := h2 (rk + c) (by omega)
      rw [show 8 * X + (rk + (c + 1)) - 1 = 8 * X + (rk + c) by omega]
      exact this
    · exact eqE_tr (h3 q (by omega) b) (e2 _ (by omega))
theorem ps_offer (hw : G.WF) (hρ : G.Rk ρ) (hC : ∀ x i j, i < j → G.CP ρ x (j - i) (Tb x i j)) (hD : G.Dc D) {fO fW fZ fC cK cF gW : Nat → Int32} (hR : G.cER Tb fO fW fZ fC D)
    {l i j r a b c : Nat} {R R0 R1 R2 : Row} (hl : l < 5) (hij : i < j) (hj : j ≤ 6) (hnD : ¬ D l i j) (hS : ∀ x a b, G.Sb l i j x a b → D x a b) (hr : r < G.k) (hru : G.us r = true) (hrl : G.hd r = l) (hgW : gW r = nI (G.wt r))
    (f0 : G.cFm Tb l i j r 0 (cF 0) R0) (f1 : G.cFm Tb l i j r 1 (cF 1) R1) (f2 : G.cFm Tb l i j r 2 (cF 2) R2) (ha : a < R0.n) (hb : b < R1.n) (hc : c < R2.n)
    (hRo : R.ok) (hT : G.TP ρ (j - i) l (mkT (G.wt r) r i j (R0.f a) (R1.f b) (R2.f c))) (hTs : ∀ q, q < R.n → G.TP ρ (j - i) l (R.f q)) (hK : cK (cxc l i j) = nI R.n) (hE : ∀ q, q < R.n → G.cEN Tb fO fW fZ fC l i j (8 * cxc l i j + q) (R.f q))
    {post : Int32 → (Nat → Int32) → (Nat → Int32) → (Nat → Int32) → (Nat → Int32) → (Nat → Int32) → Prop}
    (k : ∀ (rr : Int32) (cK' fO' fW' fZ' fC' : Nat → Int32), (8 ≤ rkn (mkT (G.wt r) r i j (R0.f a) (R1.f b) (R2.f c)) R.f R.n → rr = 0) → (¬ 8 ≤ rkn (mkT (G.wt r) r i j (R0.f a) (R1.f b) (R2.f c)) R.f R.n → rr = 1) →
      cK' (cxc l i j) = nI (insR (mkT (G.wt r) r i j (R0.f a) (R1.f b) (R2.f c)) R).n → (∀ y, y ≠ cxc l i j → cK' y = cK y) → (∀ q, q < (insR (mkT (G.wt r) r i j (R0.f a) (R1.f b) (R2.f c)) R).n → G.cEN Tb fO' fW' fZ' fC' l i j (8 * cxc l i j + q) ((insR (mkT (G.wt r) r i j (R0.f a) (R1.f b) (R2.f c)) R).f q)) →
      (∀ w, w < 840 → w < 8 * cxc l i j ∨ 8 * cxc l i j + 8 ≤ w → eqE fO fW fZ fC w fO' fW' fZ' fC' w) → post rr cK' fO' fW' fZ' fC') :
    v_Chart_offer (nI r) (nI (cxc l i j)) (nI a) (nI b) (nI c) cK cF fO fW fZ fC gW post := by
  have hk := hw.1
  have hX := cxc_lt hl hij hj
  have hSD : ∀ x i' j', G.Sb l i j x i' j' → x < 5 ∧ i' < j' ∧ j' ≤ 6 := fun x i' j' h => ⟨(hR _ _ _ (hS _ _ _ h)).1, (hR _ _ _ (hS _ _ _ h)).2.1, (hR _ _ _ (hS _ _ _ h)).2.2.1⟩
  generalize hTT : mkT (G.wt r) r i j (R0.f a) (R1.f b) (R2.f c) = T at *
  unfold v_Chart_offer v_Forest_beginDraft
  rw [show (840 : Int32) = nI 840 from rfl, nI_clamp (show 840 < 2 ^ 31 by decide), nI_clamp (show r < 2 ^ 31 by omega), hgW]
  have i8 : vp_in (nI 840) 841 := vp_in_nI (by decide) (by decide)
  refine ⟨p_in14 (by omega), i8, i8, i8, ?_⟩
  refine ps_chosen (m := 0) (by decide) hSD f0 ha fun v0 c0 => ?_
  refine ps_addD (m := 0) (W := G.wt r) (Z := 1) (hW := fW) (hZ := fZ) (by decide) (Gr.CHp_en hR hC hS c0) (fun u hu => pk_un (by omega)) (fun u hu => pk_un (by omega)) pk_us pk_us fun gW1 gZ1 aW1 aZ1 eW1 eZ1 => ?_
  refine ps_chosen (m := 1) (by decide) hSD f1 hb fun v1 c1 => ?_
  refine ps_addD (m := 1) (hW := fW) (hZ := fZ) (by decide) (Gr.CHp_en hR hC hS c1) aW1 aZ1 eW1 eZ1 fun gW2 gZ2 aW2 aZ2 eW2 eZ2 => ?_
  refine ps_chosen (m := 2) (by decide) hSD f2 hc fun v2 c2 => ?_
  refine ps_addD (m := 2) (hW := fW) (hZ := fZ) (by decide) (Gr.CHp_en hR hC hS c2) aW2 aZ2 eW2 eZ2 fun gW3 gZ3 aW3 aZ3 eW3 eZ3 => ?_
  -- the draft
  generalize hC3 : upd (upd (upd fC (2520 + 0) v0) (2520 + 1) v1) (2520 + 2) v2 = gC3
  generalize hO3 : upd fO 840 (nI r) = gO3
  have dE : G.cEN Tb gO3 gW3 gZ3 gC3 l i j 840 T := by
    refine ⟨⟨r, _, _, _, hr, hru, hrl, hTT.symm, by rw [← hO3]; exact pk_us, ?_, ?_, ?_, ?_⟩, ?_⟩
    · rw [eW3, ← hTT]; rfl
    · have : gC3 (3 * 840 + 0) = v0 := by rw [← hC3, pk_un (by decide), pk_un (by decide)]; exact pk_us
      rw [this]; exact c0
    · have : gC3 (3 * 840 + 1) = v1 := by rw [← hC3, pk_un (by decide)]; exact pk_us
      rw [this]; exact c1
    · have : gC3 (3 * 840 + 2) = v2 := by rw [← hC3]; exact pk_us
      rw [this]; exact c2
    · rw [eZ3, ← hTT, mkT_sz]
  have keep : ∀ w, w < 840 → eqE fO fW fZ fC w gO3 gW3 gZ3 gC3 w := by
    intro w hw
    refine ⟨by rw [← hO3]; exact pk_un (by omega), aW3 w hw, aZ3 w hw, ?_, ?_, ?_⟩ <;> rw [← hC3, pk_un (by omega), pk_un (by omega), pk_un (by omega)]
  have hE3 : ∀ q, q < R.n → G.cEN Tb gO3 gW3 gZ3 gC3 l i j (8 * cxc l i j + q) (R.f q) := fun q hq => Gr.cEN_eq (hE q hq) (keep _ (by have := hRo.1; omega))
  have hR3 : G.cER Tb gO3 gW3 gZ3 gC3 D := fun x i' j' h => by
    obtain ⟨g1, g2, g3, g4⟩ := hR x i' j' h
    have := cxc_lt g1 g2 g3
    have := (hC x i' j' g2).1.1
    exact ⟨g1, g2, g3, fun q hq => Gr.cEN_eq (g4 q hq) (keep _ (by omega))⟩
  have h8 := hRo.1
  rw [nI_clamp (show cxc l i j < 2 ^ 31 by omega), hK, p_8]
  refine ⟨vp_in_nI hX (by decide), ?_⟩
  intro y7 hy7
  subst hy7
  -- the rank
  have rank : ∀ q, q ≤ R.n → rkn T R.f R.n = rkn T R.f q → v_Chart_offer_L75 post (nI (cxc l i j)) (nI (8 * cxc l i j)) cK gO3 gW3 gZ3 gC3 (q + 1) (nI q) := by
    have fin : ∀ q, q ≤ R.n → rkn T R.f R.n = q → v_Chart_offer_B106 post (nI (cxc l i j)) (nI (8 * cxc l i j)) (nI q) cK gO3 gW3 gZ3 gC3 := by
      intro q hq hrk
      unfold v_Chart_offer_B106
      have iX : vp_in (nI (cxc l i j)) 105 := vp_in_nI hX (by decide)
      refine p_lt (b := 8) (by omega) (by decide) (fun h => ?_) (fun h => ?_)
      · rw [nI_clamp (show cxc l i j < 2 ^ 31 by omega), hK]
        have ins : insR T R = put T q R := by unfold insR; rw [hrk, if_neg (by omega)]
        have fin2 : ∀ (cK' gO gW gZ gC : Nat → Int32), cK' (cxc l i j) = nI (min 8 (R.n + 1)) → (∀ y, y ≠ cxc l i j → cK' y = cK y) → (∀ w, w < 8 * cxc l i j ∨ 8 * cxc l i j + 8 ≤ w → eqE gO3 gW3 gZ3 gC3 w gO gW gZ gC w) → (∀ q', q' < q → eqE gO3 gW3 gZ3 gC3 (8 * cxc l i j + q') gO gW gZ gC (8 * cxc l i j + q')) → eqE gO3 gW3 gZ3 gC3 840 gO gW gZ gC (8 * cxc l i j + q) → (∀ q', q < q' → q' < min 8 (R.n + 1) → eqE gO3 gW3 gZ3 gC3 (8 * cxc l i j + (q' - 1)) gO gW gZ gC (8 * cxc l i j + q')) → post 1 cK' gO gW gZ gC := by
          intro cK' gO gW gZ gC e1 e2 e3 e4 e5 e6
          refine k 1 cK' gO gW gZ gC (fun z => by omega) (fun _ => rfl) (by rw [ins]; exact e1) e2 ?_ ?_
          · intro q' hq'
            rw [ins] at hq' ⊢
            have hq2 : q' < min 8 (R.n + 1) := hq'
            show G.cEN Tb gO gW gZ gC l i j (8 * cxc l i j + q') (if q' < q then R.f q' else if q' = q then T else R.f (q' - 1))
            by_cases z1 : q' < q
            · rw [if_pos z1]; exact Gr.cEN_eq (hE3 q' (by omega)) (e4 q' z1)
            · rw [if_neg z1]
              by_cases z2 : q' = q
              · rw [if_pos z2, z2]; exact Gr.cEN_eq dE e5
              · rw [if_neg z2]; exact Gr.cEN_eq (hE3 (q' - 1) (by omega)) (e6 q' (by omega) hq2)
          · exact fun w hw1 hw2 => eqE_tr (keep w hw1) (e3 w hw2)
        refine ⟨iX, p_le (a := 8) (by decide) (by omega) (fun z => ⟨iX, ?_⟩) (fun z => ⟨iX, iX, iX, ?_⟩)⟩
        · rw [p_s1 (by omega)]
          intro y8 hy8
          subst hy8
          refine ⟨R.n - 1 - q + 1, ?_⟩
          have := ps_shift (X := cxc l i j) (rk := q) (n' := 8) (cK := cK) (hO := gO3) (hW := gW3) (hZ := gZ3) (hC := gC3) (post := post) hX h (by decide) (fun gO gW gZ gC e3 e4 e5 e6 => fin2 cK gO gW gZ gC (by rw [hK]; congr 1; omega) (fun _ _ => rfl) e3 e4 e5 (fun q' a b => e6 q' a (by omega))) (R.n - 1 - q) gO3 gW3 gZ3 gC3 (by omega) (fun w _ => eqE_rf _ _ _ _ _) (fun q' _ => eqE_rf _ _ _ _ _) (fun q' a b => by omega)
          rw [show q + (R.n - 1 - q) = R.n - 1 by omega] at this
          exact this
        · rw [pk_us, show nI R.n + (1 : Int32) - (1 : Int32) = nI R.n by rw [p_1, p_s1 (by omega), Nat.add_sub_cancel]]
          intro y8 hy8
          subst hy8
          refine ⟨R.n - q + 1, ?_⟩
          have := ps_shift (X := cxc l i j) (rk := q) (n' := R.n + 1) (cK := upd cK (cxc l i j) (nI R.n + (1 : Int32))) (hO := gO3) (hW := gW3) (hZ := gZ3) (hC := gC3) (post := post) hX (by omega) (by omega) (fun gO gW gZ gC e3 e4 e5 e6 => fin2 _ gO gW gZ gC (by rw [pk_us, p_1]; congr 1; omega) (fun y hy => pk_un hy) e3 e4 e5 (fun q' a b => e6 q' a (by omega))) (R.n - q) gO3 gW3 gZ3 gC3 (by omega) (fun w _ => eqE_rf _ _ _ _ _) (fun q' _ => eqE_rf _ _ _ _ _) (fun q' a b => by omega)
          rw [show q + (R.n - q) = R.n by omega] at this
          exact this
      · have ins : insR T R = R := by unfold insR; rw [hrk, if_pos h]
        exact k 0 cK gO3 gW3 gZ3 gC3 (fun _ => rfl) (fun z => absurd (by omega) z) (by rw [ins]; exact hK) (fun _ _ => rfl) (by rw [ins]; exact hE3) (fun w hw _ => keep w hw)
    intro q
    induction q with
    | zero =>
      intro hq hrk
      unfold v_Chart_offer_L75
      exact br_t (show nI 0 ≤ (0 : Int32) from Int32.le_refl _) (fin 0 hq hrk)
    | succ q ih =>
      intro hq hrk
      unfold v_Chart_offer_L75
      refine br_f (show ¬ nI (q + 1) ≤ nI 0 from fun z => by have := (nI_leI (by omega) (by decide)).mp z; omega) ?_
      rw [nI_add, p_s1 (by omega), show 8 * cxc l i j + (q + 1) - 1 = 8 * cxc l i j + q by omega, pk_m1]
      refine ps_before hw hρ hC hD hR3 hl hij hj (by omega) dE (hE3 q (by omega)) (Gr.TP_w hρ hl (by omega) hT).1 (Gr.TP_w hρ hl (by omega) (hTs q (by omega))).1 hS (fun z => ?_) (fun z => ?_)
      · refine br_f (by decide) (ih (by omega) ?_)
        rw [hrk]
        show (if befB T (R.f q) then rkn T R.f q else q + 1) = _
        rw [if_pos (befB_t.mpr z)]
      · refine br_t rfl (fin (q + 1) hq ?_)
        rw [hrk]
        show (if befB T (R.f q) then rkn T R.f q else q + 1) = _
        rw [if_neg (fun y => z (befB_t.mp y))]
  exact ⟨R.n + 1, rank R.n (Nat.le_refl _) rfl⟩
end OFR
