/-! The class completes the chart. -/
section CPL
variable {G : Gr} {ρ : Nat → Nat} {tk : Nat → Nat}
/-- the cells that are done when those of the spans to b that begin at a or later are -/
def dT (a b : Nat) (x i j : Nat) : Prop := x < 5 ∧ i < j ∧ (j < b ∨ (j = b ∧ a ≤ i))
theorem Gr.dT_c (a b : Nat) : G.Dc (dT a b) := by
  rintro l i j x i' j' ⟨h1, h2, h3⟩ ⟨s1, s2, s3, s4, -⟩
  exact ⟨s1, s3, by omega⟩
/-- .. and those of the letters before l over a .. b -/
def dL (ρ : Nat → Nat) (l a b : Nat) (x i j : Nat) : Prop := dT (a + 1) b x i j ∨ (x < 5 ∧ i = a ∧ j = b ∧ ρ x < ρ l)
theorem Gr.dL_c (hρ : G.Rk ρ) {l a b : Nat} (hab : a < b) : G.Dc (dL ρ l a b) := by
  rintro m i j x i' j' h s
  rcases h with h | ⟨h1, rfl, rfl, h4⟩
  · exact Or.inl (Gr.dT_c _ _ _ _ _ _ _ _ h s)
  · obtain ⟨s1, s2, s3, s4, s5⟩ := s
    rcases s5 with s5 | ⟨rfl, rfl, r, hr, rfl, hu⟩
    · exact Or.inl ⟨s1, s3, by omega⟩
    · exact Or.inr ⟨s1, rfl, rfl, by have := hρ.2 r hr x s1 hu; omega⟩
theorem Gr.dL_S (hρ : G.Rk ρ) {l a b : Nat} : ∀ x i' j', G.Sb l a b x i' j' → dL ρ l a b x i' j' := by
  rintro x i' j' ⟨s1, s2, s3, s4, s5⟩
  rcases s5 with s5 | ⟨rfl, rfl, r, hr, rfl, hu⟩
  · exact Or.inl ⟨s1, s3, by omega⟩
  · exact Or.inr ⟨s1, rfl, rfl, hρ.2 r hr x s1 hu⟩
theorem dL_n {l a b : Nat} : ¬ dL ρ l a b l a b := by
  rintro (⟨h1, h2, h3⟩ | ⟨_, _, _, h⟩)
  · omega
  · omega
/-- the row of another cell does not change -/
theorem Gr.rNow_fr {Tb : Tab} {l i j x i' j' : Nat} (hl : l < 5) (hij : i < j) (hj : j ≤ 6) (hx : x < 5) (hij' : i' < j') (hj' : j' ≤ 6) (ne : ¬ (x = l ∧ i' = i ∧ j' = j)) {R : Row} (h8 : R.n ≤ 8) {cK fO fW fZ fC cK' gO gW gZ gC : Nat → Int32} (h : G.rNow Tb x i' j' R cK fO fW fZ fC) (f : rFr (cxc l i j) cK fO fW fZ fC cK' gO gW gZ gC) : G.rNow Tb x i' j' R cK' gO gW gZ gC := by
  have nX : cxc x i' j' ≠ cxc l i j := fun z => ne (by obtain ⟨a, b, c⟩ := cxc_inj hx hij' hj' hl hij hj z; exact ⟨a, b, c⟩)
  have := cxc_lt hx hij' hj'
  refine ⟨by rw [f.1 _ nX]; exact h.1, fun q hq => Gr.cEN_eq (h.2 q hq) (f.2 _ (by omega) (by omega))⟩
theorem ps_clear {i j : Nat} (hij : i < j) (hj : j ≤ 6) {cC : Nat → Int64} {cK : Nat → Int32} {post : (Nat → Int64) → (Nat → Int32) → Prop}
    (k : ∀ (cC' : Nat → Int64) (cK' : Nat → Int32), (∀ x, x < 5 → cC' (cxc x i j) = 0 ∧ cK' (cxc x i j) = 0) → (∀ y, (∀ x, x < 5 → y ≠ cxc x i j) → cC' y = cC y ∧ cK' y = cK y) → post cC' cK') : v_Chart_clear (nI i) (nI j) cC cK post := by
  unfold v_Chart_clear
  refine ⟨6, ?_⟩
  have lp : ∀ (d l : Nat) (cC' : Nat → Int64) (cK' : Nat → Int32), l + d = 5 → (∀ x, x < l → cC' (cxc x i j) = 0 ∧ cK' (cxc x i j) = 0) → (∀ y, (∀ x, x < 5 → y ≠ cxc x i j) → cC' y = cC y ∧ cK' y = cK y) → v_Chart_clear_L3 post (nI i) (nI j) (d + 1) (nI (65 + l)) cC' cK' := by
    intro d
    induction d with
    | zero =>
      intro l cC' cK' hl h1 h2
      unfold v_Chart_clear_L3
      refine br_t (show nI 70 ≤ nI (65 + l) from (nI_leI (by decide) (by omega)).mpr (by omega)) (k cC' cK' ?_ h2)
      intro x hx
      exact h1 x (by omega)
    | succ d ih =>
      intro l cC' cK' hl h1 h2
      unfold v_Chart_clear_L3
      refine br_f (show ¬ nI 70 ≤ nI (65 + l) from fun z => by have := (nI_leI (by decide) (by omega)).mp z; omega) ?_
      have hX := cxc_lt (show l < 5 by omega) hij hj
      refine ps_cellOf (by omega) hij hj ?_
      rw [nI_clamp (show cxc l i j < 2 ^ 31 by omega), p_1]
      have iX : vp_in (nI (cxc l i j)) 105 := vp_in_nI hX (by decide)
      refine ⟨iX, iX, ih (l + 1) _ _ (by omega) (fun x hx => ?_) (fun y hy => ?_)⟩
      · by_cases e : x = l
        · subst e; exact ⟨pk_uLs, pk_us⟩
        · have ne : cxc x i j ≠ cxc l i j := fun z => by unfold cxc at z; omega
          rw [pk_uLn ne, pk_un ne]
          exact h1 x (by omega)
      · rw [pk_uLn (hy l (by omega)), pk_un (hy l (by omega))]
        exact h2 y hy
  exact lp 5 0 cC cK (by omega) (fun x hx => absurd hx (Nat.not_lt_zero x)) (fun _ _ => ⟨rfl, rfl⟩)
theorem ps_complete (hw : G.WF) (hn : G.NT) {Dn : Nat} {od : Nat → Nat} (hod : G.Od ρ Dn od) {gH gS gL gW gO : Nat → Int32} (hg : G.c gH gS gL gW) (hgO : ∀ t, t < Dn → gO t = nI (od t))
    {d0 w : Nat} (hd0 : d0 ≤ w) (hw6 : w ≤ 6) {cC : Nat → Int64} {cK cU cH cF wT fO fW fZ fC : Nat → Int32} (hwT : ∀ t, t < w → wT t = nI (tk t) ∧ tk t < 2 ^ 31) (hR : G.cDR (G.T tk) cC cK fO fW fZ fC (dT 0 d0))
    {post : Int32 → (Nat → Int64) → (Nat → Int32) → (Nat → Int32) → (Nat → Int32) → (Nat → Int32) → (Nat → Int32) → (Nat → Int32) → (Nat → Int32) → (Nat → Int32) → Prop}
    (k : ∀ (cC' : Nat → Int64) (cK' cU' cH' cF' fO' fW' fZ' fC' : Nat → Int32), G.cDR (G.T tk) cC' cK' fO' fW' fZ' fC' (dT 0 w) → post (nI w) cC' cK' cU' cH' cF' fO' fW' fZ' fC') :
    v_Chart_complete (nI d0) cC cK cU cH cF (nI w) wT fO fW fZ fC (nI Dn) gH gS gL gW gO post := by
  have hρ : G.Rk ρ := hod.Rk
  have hk := hw.1
  have hC : ∀ x i j, i < j → G.CP ρ x (j - i) (G.T tk x i j) := fun x i j h => Gr.CP_T hw hρ h
  have hB : ∀ x i j, x < 5 → i < j → j ≤ i + 6 → (G.T tk x i j).c ≤ bM (j - i) := fun x i j h1 h2 h3 => Gr.T_bM hw hn hρ hod.2.2.1 h1 h2 h3
  -- the rules over one span
  have rules : ∀ (K22 : Int32 → (Nat → Int64) → (Nat → Int32) → (Nat → Int32) → (Nat → Int32) → (Nat → Int32) → (Nat → Int32) → (Nat → Int32) → (Nat → Int32) → (Nat → Int32) → Prop) (i j : Nat), i < j → j ≤ w →
      (∀ (cC' : Nat → Int64) (cK' cU' cH' cF' fO' fW' fZ' fC' : Nat → Int32), G.cDR (G.T tk) cC' cK' fO' fW' fZ' fC' (dT i j) → K22 (nI i + (-1 : Int32)) cC' cK' cU' cH' cF' fO' fW' fZ' fC') →
      ∀ (d t : Nat) (cC' : Nat → Int64) (cK' cU' cH' cF' fO' fW' fZ' fC' : Nat → Int32), t + d = Dn → G.cDR (G.T tk) cC' cK' fO' fW' fZ' fC' (dT (i + 1) j) → (∀ x, x < 5 → cC' (cxc x i j) = lN (G.pg tk (G.T tk) od i j x t).c ∧ G.rNow (G.T tk) x i j (G.pg tk (G.T tk) od i j x t).r cK' fO' fW' fZ' fC') →
      v_Chart_complete_L34 K22 wT (nI Dn) gH gS gL gW gO (nI j) (nI i) (d + 1) (nI t) cC' cK' cU' cH' cF' fO' fW' fZ' fC' := by
    intro K22 i j hij hjw ex d
    have pgC : ∀ x t, x < 5 → t ≤ Dn → G.CP ρ x (j - i) (G.pg tk (G.T tk) od i j x t) := fun x t hx ht => by
      obtain ⟨m, hm, e, -⟩ := Gr.pg_cf (tk := tk) (Tb := G.T tk) (i := i) (j := j) (x := x) hod t ht
      rw [e]
      exact Gr.CP_cf hw hρ hm hij fun x i' j' h => hC x i' j' h.2.2.1
    induction d with
    | zero =>
      intro t cC' cK' cU' cH' cF' fO' fW' fZ' fC' ht hR' hx
      have : t = Dn := by omega
      subst this
      unfold v_Chart_complete_L34
      refine br_t (Int32.le_refl _) (ex cC' cK' cU' cH' cF' fO' fW' fZ' fC' ?_)
      have fin : ∀ x, x < 5 → G.pg tk (G.T tk) od i j x t = G.T tk x i j := fun x hx5 => by
        rw [Gr.pg_end hod (Nat.le_refl _) (fun t' a b => by omega)]
        exact (Gr.T_fix hw hρ hx5 hij (by omega)).symm
      refine ⟨fun x i' j' h => ?_, fun x i' j' h => ?_⟩
      · by_cases e : i' = i ∧ j' = j
        · obtain ⟨rfl, rfl⟩ := e
          have := (hx x h.1).2.2
          rw [fin x h.1] at this
          exact ⟨h.1, hij, by omega, this⟩
        · exact hR'.1 x i' j' ⟨h.1, h.2.1, by have := h.2.2; omega⟩
      · by_cases e : i' = i ∧ j' = j
        · obtain ⟨rfl, rfl⟩ := e
          have := hx x h.1
          rw [fin x h.1] at this
          exact ⟨this.1, this.2.1⟩
        · exact hR'.2 x i' j' ⟨h.1, h.2.1, by have := h.2.2; omega⟩
    | succ d ih =>
      intro t cC' cK' cU' cH' cF' fO' fW' fZ' fC' ht hR' hx
      unfold v_Chart_complete_L34
      have ho := hod.1
      refine br_f (fun z => by have := (nI_leI (by omega) (by omega)).mp z; omega) ?_
      obtain ⟨o1, o2⟩ := hod.2.2.2.2.1 t (by omega)
      have hl := (hw.2 _ o1).1
      rw [nI_clamp (show t < 2 ^ 31 by omega), hgO t (by omega), p_1]
      refine ⟨p_in14 (by omega), ?_⟩
      have hRL : G.cDR (G.T tk) cC' cK' fO' fW' fZ' fC' (dL ρ (G.hd (od t)) i j) := by
        have fin : ∀ x, x < 5 → ρ x < ρ (G.hd (od t)) → G.pg tk (G.T tk) od i j x t = G.T tk x i j := fun x hx5 hlt => by
          rw [Gr.pg_end hod (by omega) (fun t' a b z => ?_)]
          · exact (Gr.T_fix hw hρ hx5 hij (by omega)).symm
          · by_cases y : t' = t
            · rw [y] at z; rw [z] at hlt; omega
            · rcases hod.2.2.2.2.2.2 t t' (by omega) b with g | ⟨g, _⟩
              · rw [z] at g; omega
              · rw [g, z] at hlt; omega
        refine ⟨fun x i' j' h => ?_, fun x i' j' h => ?_⟩
        · rcases h with h | ⟨h1, rfl, rfl, h4⟩
          · exact hR'.1 x i' j' h
          · have := (hx x h1).2.2
            rw [fin x h1 h4] at this
            exact ⟨h1, hij, by omega, this⟩
        · rcases h with h | ⟨h1, rfl, rfl, h4⟩
          · exact hR'.2 x i' j' h
          · have := hx x h1
            rw [fin x h1 h4] at this
            exact ⟨this.1, this.2.1⟩
      refine ps_divide (tk := tk) hw hρ hC hB (Gr.dL_c hρ hij) hg hRL hl hij (by omega) dL_n (Gr.dL_S hρ) o1 o2 rfl (fun s h1 h2 => hwT s (by omega)) (pgC _ t hl (by omega)) (hx _ hl).1 (hx _ hl).2 fun cC2 cK2 cU2 cH2 cF2 fO2 fW2 fZ2 fC2 dd => ?_
      obtain ⟨d1, d2, d3, d4⟩ := dd
      refine ih (t + 1) cC2 cK2 cU2 cH2 cF2 fO2 fW2 fZ2 fC2 (by omega) (Gr.cDR_fr hC hl hij (by omega) (fun z => by have := z.2.2; omega) hR' d3 d4) fun x hx5 => ?_
      rw [Gr.pg_s]
      by_cases e : G.hd (od t) = x
      · rw [if_pos e]
        subst e
        exact ⟨d1, d2⟩
      · rw [if_neg e]
        refine ⟨?_, Gr.rNow_fr hl hij (by omega) hx5 hij (by omega) (fun z => e z.1.symm) (pgC x t hx5 (by omega)).1.1 (hx x hx5).2 d4⟩
        rw [d3 _ (fun z => e (cxc_inj hx5 hij (by omega) hl hij (by omega) z).1.symm)]
        exact (hx x hx5).1
  -- the spans with one end
  have spans : ∀ (K7 : Int32 → (Nat → Int64) → (Nat → Int32) → (Nat → Int32) → (Nat → Int32) → (Nat → Int32) → (Nat → Int32) → (Nat → Int32) → (Nat → Int32) → (Nat → Int32) → Prop) (j : Nat), 0 < j → j ≤ w →
      (∀ (cC' : Nat → Int64) (cK' cU' cH' cF' fO' fW' fZ' fC' : Nat → Int32), G.cDR (G.T tk) cC' cK' fO' fW' fZ' fC' (dT 0 j) → K7 (nI (j + 1)) cC' cK' cU' cH' cF' fO' fW' fZ' fC') →
      ∀ (i : Nat) (cC' : Nat → Int64) (cK' cU' cH' cF' fO' fW' fZ' fC' : Nat → Int32), i ≤ j → G.cDR (G.T tk) cC' cK' fO' fW' fZ' fC' (dT i j) →
      v_Chart_complete_L22 K7 wT (nI Dn) gH gS gL gW gO (nI j) (i + 1) (nI i + (-1 : Int32)) cC' cK' cU' cH' cF' fO' fW' fZ' fC' := by
    intro K7 j hj0 hjw ex i
    induction i with
    | zero =>
      intro cC' cK' cU' cH' cF' fO' fW' fZ' fC' _ hR'
      unfold v_Chart_complete_L22
      refine br_t (by decide) ?_
      rw [p_1]
      exact ex cC' cK' cU' cH' cF' fO' fW' fZ' fC' hR'
    | succ i ih =>
      intro cC' cK' cU' cH' cF' fO' fW' fZ' fC' hi hR'
      rw [pk_m1]
      unfold v_Chart_complete_L22
      refine br_f (show ¬ nI i < nI 0 from fun z => by have := (nI_ltI (by omega) (by decide)).mp z; omega) ?_
      refine ps_clear (by omega) (by omega) fun cC2 cK2 e1 e2 => ?_
      refine ⟨Dn + 1, rules _ i j (by omega) hjw (fun cC3 cK3 cU3 cH3 cF3 fO3 fW3 fZ3 fC3 q => ih cC3 cK3 cU3 cH3 cF3 fO3 fW3 fZ3 fC3 (by omega) q) Dn 0 cC2 cK2 cU' cH' cF' fO' fW' fZ' fC' (by omega) ?_ ?_⟩
      · refine ⟨hR'.1, fun x a b h => ?_⟩
        have ne : ∀ y, y < 5 → cxc x a b ≠ cxc y i j := fun y hy z => by
          obtain ⟨g1, g2, g3, -⟩ := hR'.1 x a b h
          obtain ⟨-, z2, z3⟩ := cxc_inj g1 g2 g3 hy (show i < j by omega) (by omega) z
          have := h.2.2
          omega
        obtain ⟨g1, g2⟩ := e2 _ ne
        rw [g1, g2]
        exact hR'.2 x a b h
      · intro x hx5
        obtain ⟨g1, g2⟩ := e1 x hx5
        exact ⟨g1, g2, fun q hq => absurd hq (Nat.not_lt_zero q)⟩
  unfold v_Chart_complete
  have ends : ∀ (d j : Nat) (cC' : Nat → Int64) (cK' cU' cH' cF' fO' fW' fZ' fC' : Nat → Int32), j + d = w → G.cDR (G.T tk) cC' cK' fO' fW' fZ' fC' (dT 0 j) → v_Chart_complete_L7 post (nI w) wT (nI Dn) gH gS gL gW gO (d + 1) (nI (j + 1)) cC' cK' cU' cH' cF' fO' fW' fZ' fC' := by
    intro d
    induction d with
    | zero =>
      intro j cC' cK' cU' cH' cF' fO' fW' fZ' fC' hj hR'
      have : j = w := by omega
      subst this
      unfold v_Chart_complete_L7
      exact br_t ((nI_ltI (by omega) (by omega)).mpr (by omega)) (k cC' cK' cU' cH' cF' fO' fW' fZ' fC' hR')
    | succ d ih =>
      intro j cC' cK' cU' cH' cF' fO' fW' fZ' fC' hj hR'
      unfold v_Chart_complete_L7
      refine br_f (fun z => by have := (nI_ltI (by omega) (by omega)).mp z; omega) ⟨j + 1 + 1, ?_⟩
      rw [show nI (j + 1) - (1 : Int32) = nI (j + 1) + (-1 : Int32) from Int32.sub_eq_add_neg _ _]
      refine spans _ (j + 1) (by omega) (by omega) (fun cC2 cK2 cU2 cH2 cF2 fO2 fW2 fZ2 fC2 q => ih (j + 1) cC2 cK2 cU2 cH2 cF2 fO2 fW2 fZ2 fC2 (by omega) q) (j + 1) cC' cK' cU' cH' cF' fO' fW' fZ' fC' (Nat.le_refl _) ?_
      have sub : ∀ x a b, dT (j + 1) (j + 1) x a b → dT 0 j x a b := fun x a b h => ⟨h.1, h.2.1, by have := h.2; omega⟩
      exact ⟨fun x a b h => hR'.1 x a b (sub x a b h), fun x a b h => hR'.2 x a b (sub x a b h)⟩
  refine ⟨w - d0 + 1, ?_⟩
  rw [p_1]
  exact ends (w - d0) d0 cC cK cU cH cF fO fW fZ fC (by omega) hR
end CPL
