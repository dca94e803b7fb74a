/-! Kept trees in the class: what an entry stands for, and how two are compared. -/
/-- part m of rule r over i .. j, kept as v -/
def Gr.CHp (G : Gr) (Tb : Tab) (cx : Nat → Nat → Nat → Nat) (l i j r m : Nat) (v : Int32) (a : Tr) : Prop :=
  (G.lb r m = true ∧ ∃ i' j' q, G.Sb l i j (G.sy r m - 65) i' j' ∧ q < (Tb (G.sy r m - 65) i' j').r.n ∧ v = nI (8 * cx (G.sy r m - 65) i' j' + q) ∧ a = (Tb (G.sy r m - 65) i' j').r.f q) ∨ (G.lb r m = false ∧ v = -1 ∧ a = Tr.leaf)
/-- these numbers stand for the tree T -/
def Gr.ENv (G : Gr) (Tb : Tab) (cx : Nat → Nat → Nat → Nat) (l i j : Nat) (o w v0 v1 v2 : Int32) (T : Tr) : Prop :=
  ∃ r a b c, r < G.k ∧ G.us r = true ∧ G.hd r = l ∧ T = mkT (G.wt r) r i j a b c ∧ o = nI r ∧ w = nI T.w ∧ G.CHp Tb cx l i j r 0 v0 a ∧ G.CHp Tb cx l i j r 1 v1 b ∧ G.CHp Tb cx l i j r 2 v2 c
/-- the class's number of a cell -/
def cxc (l i j : Nat) : Nat := 5 * (j * (j - 1) / 2 + i) + l
theorem cxc_t : ∀ j, j < 7 → ∀ i, i < j → j * (j - 1) / 2 + i < 21 := by decide +kernel
theorem cxc_u : ∀ j, j < 7 → ∀ i, i < j → ∀ j', j' < 7 → ∀ i', i' < j' → j * (j - 1) / 2 + i = j' * (j' - 1) / 2 + i' → i = i' ∧ j = j' := by
  intro j hj i hi j' hj' i' hi' h
  rcases (show j = 1 ∨ j = 2 ∨ j = 3 ∨ j = 4 ∨ j = 5 ∨ j = 6 by omega) with rfl | rfl | rfl | rfl | rfl | rfl <;> rcases (show j' = 1 ∨ j' = 2 ∨ j' = 3 ∨ j' = 4 ∨ j' = 5 ∨ j' = 6 by omega) with rfl | rfl | rfl | rfl | rfl | rfl <;> omega
theorem cxc_lt {l i j : Nat} (hl : l < 5) (hij : i < j) (hj : j ≤ 6) : cxc l i j < 105 := by
  have := cxc_t j (by omega) i hij
  unfold cxc
  omega
theorem cxc_inj {l i j l' i' j' : Nat} (hl : l < 5) (hij : i < j) (hj : j ≤ 6) (hl' : l' < 5) (hij' : i' < j') (hj' : j' ≤ 6) (h : cxc l i j = cxc l' i' j') : l = l' ∧ i = i' ∧ j = j' := by
  unfold cxc at h
  have := cxc_u j (by omega) i hij j' (by omega) i' hij' (by omega)
  exact ⟨by omega, this.1, this.2⟩
def Gr.cEN (G : Gr) (Tb : Tab) (fO fW fZ fC : Nat → Int32) (l i j u : Nat) (T : Tr) : Prop := G.ENv Tb cxc l i j (fO u) (fW u) (fC (3 * u + 0)) (fC (3 * u + 1)) (fC (3 * u + 2)) T ∧ fZ u = nI T.sz
/-- what a comparison says -/
def cmpR (r : Int32) (x y : List Nat) : Prop := (r = 0 ∧ x = y) ∨ (r < 0 ∧ lx x y = true) ∨ (0 < r ∧ lx y x = true)
theorem pf_self (x : List Nat) : pf x x := fun _ _ _ => rfl
theorem cmpR_0 {r : Int32} {x y : List Nat} (h : cmpR r x y) (h0 : r = 0) : x = y := by
  rcases h with ⟨_, h⟩ | ⟨h, _⟩ | ⟨h, _⟩
  · exact h
  · rw [h0] at h; exact absurd h (by decide)
  · rw [h0] at h; exact absurd h (by decide)
theorem cmpR_app {r : Int32} {x x' : List Nat} (p : pf x x') (h : cmpR r x x') (h0 : r ≠ 0) (y y' : List Nat) : cmpR r (x ++ y) (x' ++ y') := by
  rcases h with ⟨h, _⟩ | ⟨h, g⟩ | ⟨h, g⟩
  · exact absurd h h0
  · exact Or.inr (Or.inl ⟨h, (lx_app x x' p y y').mpr (Or.inl g)⟩)
  · exact Or.inr (Or.inr ⟨h, (lx_app x' x p.sym y' y).mpr (Or.inl g)⟩)
theorem cmpR_app0 {r : Int32} {y y' : List Nat} (x : List Nat) (h : cmpR r y y') : cmpR r (x ++ y) (x ++ y') := by
  rcases h with ⟨h, e⟩ | ⟨h, g⟩ | ⟨h, g⟩
  · exact Or.inl ⟨h, by rw [e]⟩
  · exact Or.inr (Or.inl ⟨h, (lx_app x x (pf_self x) y y').mpr (Or.inr ⟨rfl, g⟩)⟩)
  · exact Or.inr (Or.inr ⟨h, (lx_app x x (pf_self x) y' y).mpr (Or.inr ⟨rfl, g⟩)⟩)
/-- the last c of three -/
def tlc (P : Nat → List Nat) : Nat → List Nat
  | 0 => []
  | c + 1 => P (2 - c) ++ tlc P c
theorem cmp_L31 {Kr : Int32 → Int32 → Int32 → (Int32 → Prop) → Prop} {post : Int32 → Prop} {fC : Nat → Int32} {u u' dd : Nat} {P P' : Nat → List Nat} (hu : u < 841) (hu' : u' < 841)
    (step : ∀ m, m < 3 → (fC (3 * u + m) = -1 ∧ fC (3 * u' + m) = -1 ∧ P m = [] ∧ P' m = []) ∨ (fC (3 * u + m) ≠ -1 ∧ fC (3 * u' + m) ≠ -1 ∧ pf (P m) (P' m) ∧ ∀ po : Int32 → Prop, (∀ r, cmpR r (P m) (P' m) → po r) → Kr (fC (3 * u + m)) (fC (3 * u' + m)) (nI dd + (1 : Int32)) po)) :
    ∀ c, c ≤ 3 → ∀ x4 : Int32, (∀ r, (x4 ≠ 0 → r = x4) → (x4 = 0 → cmpR r (tlc P c) (tlc P' c)) → post r) → v_Forest_compareRules_L31 Kr post fC (nI u) (nI u') (nI dd) (c + 1) x4 (nI (3 - c)) := by
  intro c
  induction c with
  | zero =>
    intro _ x4 hp
    unfold v_Forest_compareRules_L31
    exact br_t (show nI 3 ≤ nI 3 from Int32.le_refl _) (hp x4 (fun _ => rfl) fun e => Or.inl ⟨e, rfl⟩)
  | succ c ih =>
    intro hc x4 hp
    unfold v_Forest_compareRules_L31
    refine br_f (show ¬ nI 3 ≤ nI (3 - (c + 1)) from fun z => by have := (nI_leI (by decide) (by omega)).mp z; omega) ?_
    refine ⟨fun e => ?_, fun e => hp x4 (fun _ => rfl) fun z => absurd z e⟩
    have em : 3 - (c + 1) = 2 - c := by omega
    rw [em]
    rw [show nI u * (3 : Int32) + nI (2 - c) = nI (3 * u + (2 - c)) from p_ix u (2 - c), show nI u' * (3 : Int32) + nI (2 - c) = nI (3 * u' + (2 - c)) from p_ix u' (2 - c), nI_clamp (show 3 * u + (2 - c) < 2 ^ 31 by omega), nI_clamp (show 3 * u' + (2 - c) < 2 ^ 31 by omega), p_1, show 2 - c + 1 = 3 - c by omega]
    refine ⟨vp_in_nI (by omega) (by decide), ?_⟩
    intro y6 hy6
    refine ⟨vp_in_nI (by omega) (by decide), ?_⟩
    intro y7 hy7
    subst hy6 hy7
    rcases step (2 - c) (by omega) with ⟨s1, s2, s3, s4⟩ | ⟨s1, s2, s3, s4⟩
    · refine br_t s1 ?_
      refine ih (by omega) x4 fun r h1 h2 => hp r h1 fun z => ?_
      show cmpR r (P (2 - c) ++ tlc P c) (P' (2 - c) ++ tlc P' c)
      rw [s3, s4]
      exact h2 z
    · refine br_f s1 (br_f s2 (s4 _ fun r hr => ?_))
      refine ih (by omega) r fun r2 h1 h2 => hp r2 (fun z => absurd e z) fun _ => ?_
      show cmpR r2 (P (2 - c) ++ tlc P c) (P' (2 - c) ++ tlc P' c)
      by_cases z : r = 0
      · rw [cmpR_0 hr z]
        exact cmpR_app0 _ (h2 z)
      · rw [h1 z]
        exact cmpR_app s3 hr z _ _
section CMP
variable {G : Gr} {Tb : Tab} {ρ : Nat → Nat} {fO fW fZ fC : Nat → Int32} {D : Nat → Nat → Nat → Prop}
/-- a set of cells that holds what its cells are made of -/
def Gr.Dc (G : Gr) (D : Nat → Nat → Nat → Prop) : Prop := ∀ l i j x i' j', D l i j → G.Sb l i j x i' j' → D x i' j'
/-- the entries of these cells are right -/
def Gr.cER (G : Gr) (Tb : Tab) (fO fW fZ fC : Nat → Int32) (D : Nat → Nat → Nat → Prop) : Prop := ∀ x i j, D x i j → x < 5 ∧ i < j ∧ j ≤ 6 ∧ ∀ q, q < (Tb x i j).r.n → G.cEN Tb fO fW fZ fC x i j (8 * cxc x i j + q) ((Tb x i j).r.f q)
theorem Gr.CHp_neg {cx : Nat → Nat → Nat → Nat} {l i j r m : Nat} {v : Int32} {a : Tr} (h : G.CHp Tb cx l i j r m v a) (hb : ∀ x i' j', G.Sb l i j x i' j' → ∀ q, q < (Tb x i' j').r.n → 8 * cx x i' j' + q < 2 ^ 30) : (v = -1 ↔ G.lb r m = false) := by
  rcases h with ⟨h1, i', j', q, h2, h3, h4, _⟩ | ⟨h1, h2, _⟩
  · constructor
    · intro z
      rw [h4] at z
      have := hb _ _ _ h2 q h3
      have z2 : (nI (8 * cx (G.sy r m - 65) i' j' + q)).toInt = (-1 : Int32).toInt := by rw [z]
      rw [nI_toInt (by omega)] at z2
      have : (-1 : Int32).toInt = -1 := by decide
      omega
    · intro z; rw [h1] at z; exact absurd z (by decide)
  · exact ⟨fun _ => h1, fun _ => h2⟩
theorem ps_cmp (hw : G.WF) (hρ : G.Rk ρ) (hC : ∀ x i j, i < j → G.CP ρ x (j - i) (Tb x i j)) (hD : G.Dc D) (hR : G.cER Tb fO fW fZ fC D) :
    ∀ N d dd l i j i' j' u u' (T T' : Tr), u < 841 → u' < 841 → N ≤ d → dd + N ≤ 41 → 5 * (j - i) + ρ l < N → G.cEN Tb fO fW fZ fC l i j u T → G.cEN Tb fO fW fZ fC l i' j' u' T' → (∀ x a b, G.Sb l i j x a b → D x a b) → (∀ x a b, G.Sb l i' j' x a b → D x a b) → (u = u' → T.fl = T'.fl) → ∀ post : Int32 → Prop, (∀ r, cmpR r T.fl T'.fl → post r) → v_Forest_compareRules fO fC d (nI u) (nI u') (nI dd) post := by
  intro N
  induction N with
  | zero => intro d dd l i j i' j' u u' T T' _ _ _ _ h; omega
  | succ N ih =>
    intro d dd l i j i' j' u u' T T' hu hu' hd hdd hμ hE hE' hS hS' hdis post hp
    obtain ⟨d', rfl⟩ : ∃ d', d = d' + 1 := ⟨d - 1, by omega⟩
    unfold v_Forest_compareRules
    refine ⟨fun e => hp 0 (Or.inl ⟨rfl, hdis ((nI_eq (by omega) (by omega)).mp e)⟩), fun _ => ?_⟩
    refine br_t (show nI dd ≤ nI 40 from (nI_leI (by omega) (by decide)).mpr (by omega)) ?_
    refine ⟨vp_in_nI hu (by decide), vp_in_nI hu' (by decide), ?_⟩
    rw [nI_clamp (show u < 2 ^ 31 by omega), nI_clamp (show u' < 2 ^ 31 by omega)]
    obtain ⟨⟨r, a, b, c, hr, hru, hrl, rfl, eO, -, c0, c1, c2⟩, -⟩ := hE
    obtain ⟨⟨r', a', b', c', hr', hru', hrl', rfl, eO', -, c0', c1', c2'⟩, -⟩ := hE'
    have hk := hw.1
    intro y4 hy4
    rw [eO, eO'] at hy4
    have tI : y4.toInt = (r : Int) - r' := by rw [hy4]; exact pk_sub_toInt (by omega) (by omega)
    have t0 : (0 : Int32).toInt = 0 := by decide
    by_cases er : r = r'
    · subst er
      have y0 : y4 = 0 := Int32.toInt_inj.mp (by rw [tI, t0]; omega)
      subst y0
      refine ⟨4, ?_⟩
      have bd : ∀ x a b, D x a b → ∀ q, q < (Tb x a b).r.n → 8 * cxc x a b + q < 840 := by
        intro x a b hx q hq
        obtain ⟨g1, g2, g3, -⟩ := hR x a b hx
        have := cxc_lt g1 g2 g3
        have := (hC x a b g2).1.1
        omega
      have part : ∀ m v v' (x x' : Tr), m < 3 → fC (3 * u + m) = v → fC (3 * u' + m) = v' → G.CHp Tb cxc l i j r m v x → G.CHp Tb cxc l i' j' r m v' x' → (fC (3 * u + m) = -1 ∧ fC (3 * u' + m) = -1 ∧ x.fl = [] ∧ x'.fl = []) ∨ (fC (3 * u + m) ≠ -1 ∧ fC (3 * u' + m) ≠ -1 ∧ pf x.fl x'.fl ∧ ∀ po : Int32 → Prop, (∀ r, cmpR r x.fl x'.fl → po r) → v_Forest_compareRules fO fC d' (fC (3 * u + m)) (fC (3 * u' + m)) (nI dd + (1 : Int32)) po) := by
        intro m v v' x x' hm e e' h h'
        have n1 := Gr.CHp_neg h fun x a b hx q hq => by have := bd x a b (hS x a b hx) q hq; omega
        have n2 := Gr.CHp_neg h' fun x a b hx q hq => by have := bd x a b (hS' x a b hx) q hq; omega
        rcases h with ⟨h1, i1, j1, q1, h2, h3, h4, h5⟩ | ⟨h1, h2, h3⟩
        · rcases h' with ⟨g1, i2, j2, q2, g2, g3, g4, g5⟩ | ⟨g1, _⟩
          · right
            rw [e, e']
            have hx := hS _ _ _ h2
            have hx' := hS' _ _ _ g2
            obtain ⟨k1, k2, k3, k4⟩ := hR _ _ _ hx
            obtain ⟨m1, m2, m3, m4⟩ := hR _ _ _ hx'
            refine ⟨fun z => by rw [n1.mp z] at h1; exact absurd h1 (by decide), fun z => by rw [n2.mp z] at g1; exact absurd g1 (by decide), ?_, fun po hpo => ?_⟩
            · rw [h5, g5]
              exact Gr.Dv_pf _ _ _ _ _ ((hC _ _ _ k2).2.2 q1 h3).1 ((hC _ _ _ m2).2.2 q2 g3).1
            · rw [h4, g4, p_1]
              have := Gr.Sb_mu hρ h2
              have b1 := bd _ _ _ hx q1 h3
              have b2 := bd _ _ _ hx' q2 g3
              refine ih d' (dd + 1) (G.sy r m - 65) i1 j1 i2 j2 _ _ x x' (by omega) (by omega) (by omega) (by omega) (by omega) (h5 ▸ k4 q1 h3) (g5 ▸ m4 q2 g3) (fun y a b hy => hD _ _ _ _ _ _ hx hy) (fun y a b hy => hD _ _ _ _ _ _ hx' hy) (fun z => ?_) po hpo
              have p1 := (hC (G.sy r m - 65) i1 j1 k2).1.1
              have p2 := (hC (G.sy r m - 65) i2 j2 m2).1.1
              obtain ⟨-, z1, z2⟩ := cxc_inj k1 k2 k3 m1 m2 m3 (show cxc (G.sy r m - 65) i1 j1 = cxc (G.sy r m - 65) i2 j2 by omega)
              subst z1 z2
              have : q1 = q2 := by omega
              rw [h5, g5, this]
          · rw [h1] at g1; exact absurd g1 (by decide)
        · rcases h' with ⟨g1, _⟩ | ⟨g1, g2, g3⟩
          · rw [h1] at g1; exact absurd g1 (by decide)
          · left
            rw [e, e', h3, g3]
            exact ⟨h2, g2, rfl, rfl⟩
      have := cmp_L31 (Kr := v_Forest_compareRules fO fC d') (post := post) (fC := fC) (dd := dd) (P := fun m => if m = 0 then a.fl else if m = 1 then b.fl else c.fl) (P' := fun m => if m = 0 then a'.fl else if m = 1 then b'.fl else c'.fl) hu hu' (fun m hm => by
        rcases (show m = 0 ∨ m = 1 ∨ m = 2 by omega) with e | e | e
        · subst e; exact part 0 _ _ a a' hm rfl rfl c0 c0'
        · subst e; exact part 1 _ _ b b' hm rfl rfl c1 c1'
        · subst e; exact part 2 _ _ c c' hm rfl rfl c2 c2') 3 (Nat.le_refl _) 0 fun rr _ h2 => hp rr ?_
      · exact this
      · have h3 := h2 rfl
        have t1 : ∀ x y z : List Nat, tlc (fun m => if m = 0 then x else if m = 1 then y else z) 3 = x ++ (y ++ z) := by intro x y z; simp [tlc]
        rw [t1, t1] at h3
        rw [mkT_fl, mkT_fl]
        exact cmpR_app0 [r] h3
    · have y0 : y4 ≠ 0 := fun z => by rw [z, t0] at tI; omega
      refine ⟨1, ?_⟩
      unfold v_Forest_compareRules_L31
      refine br_f (show ¬ nI 3 ≤ nI 0 by decide) (br_f y0 (hp y4 ?_))
      rw [mkT_fl, mkT_fl]
      by_cases lt : r < r'
      · exact Or.inr (Or.inl ⟨Int32.lt_iff_toInt_lt.mpr (by rw [tI, t0]; omega), (lx_cons _ _ _ _).mpr (Or.inl lt)⟩)
      · exact Or.inr (Or.inr ⟨Int32.lt_iff_toInt_lt.mpr (by rw [tI, t0]; omega), (lx_cons _ _ _ _).mpr (Or.inl (by omega))⟩)
end CMP
