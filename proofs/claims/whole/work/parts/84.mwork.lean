/-! The model works its whole table out. -/
section MWK
variable {G : Gr} {ρ : Nat → Nat} {tk : Nat → Nat}
theorem Gr.LV_Rk (hw : G.WF) (hρ : G.Rk ρ) : G.Rk (G.LV 6 0) := by
  refine ⟨fun l hl => Nat.lt_of_le_of_lt (Gr.LV_le hw hρ 6 0 (Nat.zero_le _) l hl) (hρ.1 l hl), fun r hr x hx hu => ?_⟩
  obtain ⟨h1, h2⟩ := Gr.uni_uB hx hu
  have := Gr.LV_fix hw hρ 6 r hr h1 (by have := hρ.1 (G.hd r) (hw.2 r hr).1; omega)
  rwa [h2] at this
/-- the cells done before those of width wd from i on -/
def dM (w wd i0 : Nat) (x i j : Nat) : Prop := x < 5 ∧ i < j ∧ j ≤ w ∧ (j - i < wd ∨ (j - i = wd ∧ i < i0))
theorem Gr.dM_c (w wd i0 : Nat) : G.Dc (dM w wd i0) := by
  rintro l i j x i' j' ⟨h1, h2, h3, h4⟩ ⟨s1, s2, s3, s4, s5⟩
  refine ⟨s1, s3, by omega, ?_⟩
  rcases s5 with s5 | ⟨rfl, rfl, -⟩
  · omega
  · exact h4
def dV (lam : Nat → Nat) (w wd i0 lv : Nat) (x i j : Nat) : Prop := dM w wd i0 x i j ∨ (x < 5 ∧ i = i0 ∧ j = i0 + wd ∧ lam x < lv)
theorem Gr.dV_c {lam : Nat → Nat} (hlam : G.Rk lam) {w wd i0 lv : Nat} (h0 : 0 < wd) (hw : i0 + wd ≤ w) : G.Dc (dV lam w wd i0 lv) := by
  rintro l i j x i' j' h s
  rcases h with h | ⟨h1, rfl, rfl, h4⟩
  · exact Or.inl (Gr.dM_c _ _ _ _ _ _ _ _ _ h s)
  · obtain ⟨s1, s2, s3, s4, s5⟩ := s
    rcases s5 with s5 | ⟨rfl, rfl, r, hr, rfl, hu⟩
    · exact Or.inl ⟨s1, s3, by omega, Or.inl (by omega)⟩
    · exact Or.inr ⟨s1, rfl, rfl, by have := hlam.2 r hr x s1 hu; omega⟩
theorem Gr.dV_S {lam : Nat → Nat} (hlam : G.Rk lam) {w wd i0 l : Nat} (hw : i0 + wd ≤ w) : ∀ x i' j', G.Sb l i0 (i0 + wd) x i' j' → dV lam w wd i0 (lam l) x i' j' := by
  rintro x i' j' ⟨s1, s2, s3, s4, s5⟩
  rcases s5 with s5 | ⟨rfl, rfl, r, hr, rfl, hu⟩
  · exact Or.inl ⟨s1, s3, by omega, Or.inl (by omega)⟩
  · exact Or.inr ⟨s1, rfl, rfl, hlam.2 r hr x s1 hu⟩
theorem dV_n {lam : Nat → Nat} {w wd i0 l : Nat} : ¬ dV lam w wd i0 (lam l) l i0 (i0 + wd) := by
  rintro (⟨h1, h2, h3, h4⟩ | ⟨_, _, _, h⟩)
  · omega
  · omega
/-- the cell holds S -/
def Gr.mHd (G : Gr) (Tb : Tab) (x i j : Nat) (S : Cell) (mMany : Nat → Int64) (mKept fR fS f1 f2 f3 : Nat → Int32) : Prop := mMany (mxc x i j) = lN S.c ∧ G.mNow Tb x i j S.r mKept fR fS f1 f2 f3
theorem Gr.mHd_fr {Tb : Tab} {l i j x i' j' : Nat} (hij : i < j) (hj : j ≤ 6) (hij' : i' < j') (hj' : j' ≤ 6) (ne : ¬ (x = l ∧ i' = i ∧ j' = j)) {S : Cell} (h8 : S.r.n ≤ 8) {mM mM' : Nat → Int64} {mKept fR fS f1 f2 f3 mKept' gR gS g1 g2 g3 : Nat → Int32} (h : G.mHd Tb x i' j' S mM mKept fR fS f1 f2 f3) (hc : ∀ y, y ≠ mxc l i j → mM' y = mM y) (f : mFr (mxc l i j) mKept fR fS f1 f2 f3 mKept' gR gS g1 g2 g3) : G.mHd Tb x i' j' S mM' mKept' gR gS g1 g2 g3 := by
  have nX : mxc x i' j' ≠ mxc l i j := fun z => ne (mxc_inj hij' hj' hij hj z)
  refine ⟨by rw [hc _ nX]; exact h.1, by rw [f.1 _ nX]; exact h.2.1, fun q hq => Gr.mEN_eq (h.2.2 q hq) (f.2 _ (by omega))⟩
theorem Gr.mHd_e {Tb : Tab} {x i j : Nat} {mM : Nat → Int64} {mKept fR fS f1 f2 f3 : Nat → Int32} (h1 : mM (mxc x i j) = 0) (h2 : mKept (mxc x i j) = 0) : G.mHd Tb x i j Cell.e mM mKept fR fS f1 f2 f3 := ⟨h1, h2, fun q hq => absurd hq (Nat.not_lt_zero q)⟩
theorem ps_mwork (hw : G.WF) (hρ : G.Rk ρ) {mCount mHead mSize mBody mWeight mUseful mLevel mRow : Nat → Int32} (hg : G.m 0 mHead mSize mBody mWeight) (hcnt : mCount 0 = nI G.k) (hus : ∀ i, i < G.k → mUseful i = b2 (G.us i))
    {w : Nat} (hw6 : w ≤ 6) {mDone : Int32} {mMany : Nat → Int64} {mKept mRule mSum mOne mTwo mThree mW mO mH mP : Nat → Int32} {m0 m1 m2 m3 m4 : Int32} (hwT : ∀ t, t < w → mRow t = nI (tk t) ∧ tk t < 2 ^ 31) (hdn : mDone ≠ 0 → G.mDR (G.T tk) mMany mKept mRule mSum mOne mTwo mThree (dT 0 w))
    {post : Int32 → Int32 → Int32 → Int32 → Int32 → Int32 → (Nat → Int32) → (Nat → Int64) → (Nat → Int32) → (Nat → Int32) → (Nat → Int32) → (Nat → Int32) → (Nat → Int32) → (Nat → Int32) → (Nat → Int32) → (Nat → Int32) → (Nat → Int32) → (Nat → Int32) → Prop}
    (k : ∀ (dn n0 n1 n2 n3 n4 : Int32) (mL : Nat → Int32) (mM : Nat → Int64) (mK gR gS g1 g2 g3 mW mO mH mP : Nat → Int32), G.mDR (G.T tk) mM mK gR gS g1 g2 g3 (dT 0 w) → post dn n0 n1 n2 n3 n4 mL mM mK gR gS g1 g2 g3 mW mO mH mP) :
    v_M_work (nI w) mDone m0 m1 m2 m3 m4 mCount mHead mSize mBody mWeight mUseful mLevel mRow mMany mKept mRule mSum mOne mTwo mThree mW mO mH mP post := by
  have hlam := Gr.LV_Rk hw hρ
  generalize hlm : G.LV 6 0 = lam at hlam
  have hk := hw.1
  have hC : ∀ x i j, i < j → G.CP lam x (j - i) (G.T tk x i j) := fun x i j h => Gr.CP_T hw hlam h
  have zr : ((0 : Int32).toNatClampNeg) = 0 := rfl
  have in0 : vp_in (0 : Int32) 2 := vp_in_nI (n := 0) (by decide) (by decide)
  unfold v_M_work
  refine ⟨fun hd0 => ?_, fun hd1 => k mDone m0 m1 m2 m3 m4 mLevel mMany mKept mRule mSum mOne mTwo mThree mW mO mH mP (hdn hd1)⟩
  refine ps_mfindLevels hw hg hcnt hus fun lvl hlvl => ?_
  rw [hlm] at hlvl
  -- the part-way cell
  have mpC : ∀ (i j x lv r : Nat), i < j → r ≤ G.k → G.CP lam x (j - i) (if lam x < lv then G.T tk x i j else if lam x = lv then G.cf tk (G.T tk) x i j r else Cell.e) := by
    intro i j x lv r hij hr
    by_cases e1 : lam x < lv
    · rw [if_pos e1]; exact hC x i j hij
    · rw [if_neg e1]
      by_cases e2 : lam x = lv
      · rw [if_pos e2]; exact Gr.CP_cf hw hlam hr hij fun x i' j' h => hC x i' j' h.2.2.1
      · rw [if_neg e2]; exact Gr.CP_e
  -- the rules at one level over one span
  have rules : ∀ (K70 : Int32 → Int32 → Int32 → Int32 → Int32 → Int32 → (Nat → Int64) → (Nat → Int32) → (Nat → Int32) → (Nat → Int32) → (Nat → Int32) → (Nat → Int32) → (Nat → Int32) → (Nat → Int32) → (Nat → Int32) → (Nat → Int32) → (Nat → Int32) → Prop) (wd i lv : Nat), 0 < wd → i + wd ≤ w → lv < 5 →
      (∀ (n0 n1 n2 n3 n4 : Int32) (mM : Nat → Int64) (mK gR gS g1 g2 g3 mW mO mH mP : Nat → Int32), G.mDR (G.T tk) mM mK gR gS g1 g2 g3 (dM w wd i) → (∀ x, x < 5 → G.mHd (G.T tk) x i (i + wd) (if lam x < lv + 1 then G.T tk x i (i + wd) else if lam x = lv + 1 then G.cf tk (G.T tk) x i (i + wd) 0 else Cell.e) mM mK gR gS g1 g2 g3) → (∀ x a b, x < 5 → a < b → b ≤ 6 → ¬ dM w wd i x a b → ¬ (a = i ∧ b = i + wd) → mM (mxc x a b) = 0 ∧ mK (mxc x a b) = 0) → K70 (nI (lv + 1)) n0 n1 n2 n3 n4 mM mK gR gS g1 g2 g3 mW mO mH mP) →
      ∀ (d r : Nat) (n0 n1 n2 n3 n4 : Int32) (mM : Nat → Int64) (mK gR gS g1 g2 g3 mW mO mH mP : Nat → Int32), r + d = G.k → G.mDR (G.T tk) mM mK gR gS g1 g2 g3 (dM w wd i) → (∀ x, x < 5 → G.mHd (G.T tk) x i (i + wd) (if lam x < lv then G.T tk x i (i + wd) else if lam x = lv then G.cf tk (G.T tk) x i (i + wd) r else Cell.e) mM mK gR gS g1 g2 g3) → (∀ x a b, x < 5 → a < b → b ≤ 6 → ¬ dM w wd i x a b → ¬ (a = i ∧ b = i + wd) → mM (mxc x a b) = 0 ∧ mK (mxc x a b) = 0) →
      v_M_work_L78 K70 mCount mHead mSize mBody mWeight mUseful mRow (nI wd) (nI i) (nI lv) lvl (d + 1) (nI r) n0 n1 n2 n3 n4 mM mK gR gS g1 g2 g3 mW mO mH mP := by
    intro K70 wd i lv h0 hiw hlv ex d
    have hij : i < i + wd := by omega
    have hj6 : i + wd ≤ 6 := by omega
    induction d with
    | zero =>
      intro r n0 n1 n2 n3 n4 mM mK gR gS g1 g2 g3 mW mO mH mP hrd hR hx hem
      have : r = G.k := by omega
      subst this
      unfold v_M_work_L78
      rw [zr, hcnt, p_1]
      refine ⟨in0, br_t (Int32.le_refl _) (ex n0 n1 n2 n3 n4 mM mK gR gS g1 g2 g3 mW mO mH mP hR (fun x hx5 => ?_) hem)⟩
      have := hx x hx5
      by_cases e1 : lam x < lv
      · rw [if_pos e1] at this
        rw [if_pos (by omega)]
        exact this
      · rw [if_neg e1] at this
        by_cases e2 : lam x = lv
        · rw [if_pos e2] at this
          rw [if_pos (by omega), Gr.T_fix hw hlam hx5 hij (by omega)]
          exact this
        · rw [if_neg e2] at this
          rw [if_neg (by omega)]
          by_cases e3 : lam x = lv + 1
          · rw [if_pos e3]; exact this
          · rw [if_neg e3]; exact this
    | succ d ih =>
      intro r n0 n1 n2 n3 n4 mM mK gR gS g1 g2 g3 mW mO mH mP hrd hR hx hem
      have hr : r < G.k := by omega
      have hh := (hw.2 r hr).1
      have eH : mHead r = nI (G.hd r) := by have := (hg r hr).1; rwa [Nat.zero_add] at this
      unfold v_M_work_L78
      rw [zr, hcnt, p_1 lv, p_1 r]
      have ir : vp_in (nI r) 28 := vp_in_nI (by omega) (by decide)
      -- a turn that leaves the cells
      have skip : ¬ (G.us r = true ∧ lam (G.hd r) = lv) → ∀ x, x < 5 → G.mHd (G.T tk) x i (i + wd) (if lam x < lv then G.T tk x i (i + wd) else if lam x = lv then G.cf tk (G.T tk) x i (i + wd) (r + 1) else Cell.e) mM mK gR gS g1 g2 g3 := by
        intro no x hx5
        have := hx x hx5
        by_cases e1 : lam x < lv
        · rw [if_pos e1] at this ⊢; exact this
        · rw [if_neg e1] at this ⊢
          by_cases e2 : lam x = lv
          · rw [if_pos e2] at this ⊢
            rw [Gr.cf_skip (show r ≤ r + 1 by omega) (fun r' a b => ?_)]
            · exact this
            · have : r' = r := by omega
              subst this
              rintro ⟨z1, z2⟩
              exact no ⟨z1, by rw [z2]; exact e2⟩
          · rw [if_neg e2] at this ⊢; exact this
      refine ⟨in0, br_f (fun z => by have := (nI_leI (by omega) (by omega)).mp z; omega) ⟨ir, ?_⟩⟩
      rw [nI_clamp (show r < 2 ^ 31 by omega), hus r hr]
      cases eu : G.us r with
      | false => exact br_t rfl (ih (r + 1) n0 n1 n2 n3 n4 mM mK gR gS g1 g2 g3 mW mO mH mP (by omega) hR (skip (fun z => by rw [eu] at z; exact absurd z.1 (by decide))) hem)
      | true =>
        refine br_f (by decide) ⟨ir, ?_⟩
        rw [eH, nI_clamp (show G.hd r < 2 ^ 31 by omega), hlvl _ hh]
        have l5 := hlam.1 _ hh
        refine ⟨vp_in_nI hh (by decide), p_eq (by omega) (by omega) (fun z => ?_) (fun z => ih (r + 1) n0 n1 n2 n3 n4 mM mK gR gS g1 g2 g3 mW mO mH mP (by omega) hR (skip (fun y => z y.2)) hem)⟩
        rw [nI_add]
        have hRL : G.mDR (G.T tk) mM mK gR gS g1 g2 g3 (dV lam w wd i (lam (G.hd r))) := by
          refine ⟨fun x a b h => ?_, fun x a b h => ?_⟩
          · rcases h with h | ⟨h1, rfl, rfl, h4⟩
            · exact hR.1 x a b h
            · have := (hx x h1).2.2
              rw [if_pos (by omega)] at this
              exact ⟨h1, hij, hj6, this⟩
          · rcases h with h | ⟨h1, rfl, rfl, h4⟩
            · exact hR.2 x a b h
            · have := hx x h1
              rw [if_pos (by omega)] at this
              exact ⟨this.1, this.2.1⟩
        have cur := hx _ hh
        rw [if_neg (by omega), if_pos z] at cur
        refine ps_mapply (tk := tk) hw hlam hC (Gr.dV_c hlam h0 hiw) hg hRL hh hij hj6 dV_n (Gr.dV_S hlam hiw) hr eu rfl (fun s z1 z2 => hwT s (by omega)) (Gr.CP_cf hw hlam (by omega) hij fun x i' j' h => hC x i' j' h.2.2.1) cur.1 cur.2 fun n02 n12 n22 n32 n42 mM2 mK2 gR2 gS2 g12 g22 g32 mW2 mO2 mH2 mP2 dd => ?_
        obtain ⟨d1, d2, d3, d4⟩ := dd
        refine ih (r + 1) n02 n12 n22 n32 n42 mM2 mK2 gR2 gS2 g12 g22 g32 mW2 mO2 mH2 mP2 (by omega) (Gr.mDR_fr hC hij hj6 (fun y => dV_n (lam := lam) (Or.inl y)) hR d3 d4) (fun x hx5 => ?_) (fun x a b q1 q2 q3 q4 q5 => ?_)
        · by_cases e : x = G.hd r
          · subst e
            rw [if_neg (by omega), if_pos z, Gr.cf_s eu rfl]
            exact ⟨d1, d2⟩
          · have h8 := (mpC i (i + wd) x lv r hij (by omega)).1.1
            have := Gr.mHd_fr hij hj6 hij hj6 (fun y => e y.1) h8 (hx x hx5) d3 d4
            by_cases e1 : lam x < lv
            · rw [if_pos e1] at this ⊢; exact this
            · rw [if_neg e1] at this ⊢
              by_cases e2 : lam x = lv
              · rw [if_pos e2] at this ⊢
                rw [Gr.cf_skip (show r ≤ r + 1 by omega) (fun r' a b => ?_)]
                · exact this
                · have : r' = r := by omega
                  subst this
                  rintro ⟨z1, z2⟩
                  exact e z2.symm
              · rw [if_neg e2] at this ⊢; exact this
        · have nX : mxc x a b ≠ mxc (G.hd r) i (i + wd) := fun y => q5 (by have := mxc_inj q2 q3 hij hj6 y; exact this.2)
          rw [d3 _ nX, d4.1 _ nX]
          exact hem x a b q1 q2 q3 q4 q5
  -- the levels over one span
  have levels : ∀ (K58 : Int32 → Int32 → Int32 → Int32 → Int32 → Int32 → (Nat → Int64) → (Nat → Int32) → (Nat → Int32) → (Nat → Int32) → (Nat → Int32) → (Nat → Int32) → (Nat → Int32) → (Nat → Int32) → (Nat → Int32) → (Nat → Int32) → (Nat → Int32) → Prop) (wd i : Nat), 0 < wd → i + wd ≤ w →
      (∀ (n0 n1 n2 n3 n4 : Int32) (mM : Nat → Int64) (mK gR gS g1 g2 g3 mW mO mH mP : Nat → Int32), G.mDR (G.T tk) mM mK gR gS g1 g2 g3 (dM w wd (i + 1)) → (∀ x a b, x < 5 → a < b → b ≤ 6 → ¬ dM w wd (i + 1) x a b → mM (mxc x a b) = 0 ∧ mK (mxc x a b) = 0) → K58 (nI (i + 1)) n0 n1 n2 n3 n4 mM mK gR gS g1 g2 g3 mW mO mH mP) →
      ∀ (d lv : Nat) (n0 n1 n2 n3 n4 : Int32) (mM : Nat → Int64) (mK gR gS g1 g2 g3 mW mO mH mP : Nat → Int32), lv + d = 5 → G.mDR (G.T tk) mM mK gR gS g1 g2 g3 (dM w wd i) → (∀ x, x < 5 → G.mHd (G.T tk) x i (i + wd) (if lam x < lv then G.T tk x i (i + wd) else if lam x = lv then G.cf tk (G.T tk) x i (i + wd) 0 else Cell.e) mM mK gR gS g1 g2 g3) → (∀ x a b, x < 5 → a < b → b ≤ 6 → ¬ dM w wd i x a b → ¬ (a = i ∧ b = i + wd) → mM (mxc x a b) = 0 ∧ mK (mxc x a b) = 0) →
      v_M_work_L70 K58 mCount mHead mSize mBody mWeight mUseful mRow (nI wd) (nI i) lvl (d + 1) (nI lv) n0 n1 n2 n3 n4 mM mK gR gS g1 g2 g3 mW mO mH mP := by
    intro K58 wd i h0 hiw ex d
    have hij : i < i + wd := by omega
    have hj6 : i + wd ≤ 6 := by omega
    induction d with
    | zero =>
      intro lv n0 n1 n2 n3 n4 mM mK gR gS g1 g2 g3 mW mO mH mP hld hR hx hem
      unfold v_M_work_L70
      rw [p_1]
      refine br_t (show nI 5 ≤ nI lv from (nI_leI (by decide) (by omega)).mpr (by omega)) (ex n0 n1 n2 n3 n4 mM mK gR gS g1 g2 g3 mW mO mH mP ?_ ?_)
      · have fin : ∀ x, x < 5 → G.mHd (G.T tk) x i (i + wd) (G.T tk x i (i + wd)) mM mK gR gS g1 g2 g3 := fun x hx5 => by
          have := hx x hx5
          rwa [if_pos (by have := hlam.1 x hx5; omega)] at this
        refine ⟨fun x a b h => ?_, fun x a b h => ?_⟩
        · by_cases e : a = i ∧ b = i + wd
          · obtain ⟨rfl, rfl⟩ := e
            exact ⟨h.1, hij, hj6, (fin x h.1).2.2⟩
          · exact hR.1 x a b ⟨h.1, h.2.1, h.2.2.1, by have := h.2.2; omega⟩
        · by_cases e : a = i ∧ b = i + wd
          · obtain ⟨rfl, rfl⟩ := e
            exact ⟨(fin x h.1).1, (fin x h.1).2.1⟩
          · exact hR.2 x a b ⟨h.1, h.2.1, h.2.2.1, by have := h.2.2; omega⟩
      · intro x a b q1 q2 q3 q4
        refine hem x a b q1 q2 q3 (fun y => q4 ⟨y.1, y.2.1, y.2.2.1, by have := y.2.2.2; omega⟩) (fun y => q4 ⟨q1, q2, by omega, by omega⟩)
    | succ d ih =>
      intro lv n0 n1 n2 n3 n4 mM mK gR gS g1 g2 g3 mW mO mH mP hld hR hx hem
      unfold v_M_work_L70
      refine br_f (show ¬ nI 5 ≤ nI lv from fun z => by have := (nI_leI (by decide) (by omega)).mp z; omega) ⟨G.k + 1, ?_⟩
      exact rules _ wd i lv h0 hiw (by omega) (fun n02 n12 n22 n32 n42 mM2 mK2 gR2 gS2 g12 g22 g32 mW2 mO2 mH2 mP2 z1 z2 z3 => ih (lv + 1) n02 n12 n22 n32 n42 mM2 mK2 gR2 gS2 g12 g22 g32 mW2 mO2 mH2 mP2 (by omega) z1 z2 z3) G.k 0 n0 n1 n2 n3 n4 mM mK gR gS g1 g2 g3 mW mO mH mP (by omega) hR hx hem
  -- the spans of one width
  have spans : ∀ (K48 : Int32 → Int32 → Int32 → Int32 → Int32 → Int32 → (Nat → Int64) → (Nat → Int32) → (Nat → Int32) → (Nat → Int32) → (Nat → Int32) → (Nat → Int32) → (Nat → Int32) → (Nat → Int32) → (Nat → Int32) → (Nat → Int32) → (Nat → Int32) → Prop) (wd : Nat), 0 < wd → wd ≤ w →
      (∀ (n0 n1 n2 n3 n4 : Int32) (mM : Nat → Int64) (mK gR gS g1 g2 g3 mW mO mH mP : Nat → Int32), G.mDR (G.T tk) mM mK gR gS g1 g2 g3 (dM w (wd + 1) 0) → (∀ x a b, x < 5 → a < b → b ≤ 6 → ¬ dM w (wd + 1) 0 x a b → mM (mxc x a b) = 0 ∧ mK (mxc x a b) = 0) → K48 (nI (wd + 1)) n0 n1 n2 n3 n4 mM mK gR gS g1 g2 g3 mW mO mH mP) →
      ∀ (d i : Nat) (n0 n1 n2 n3 n4 : Int32) (mM : Nat → Int64) (mK gR gS g1 g2 g3 mW mO mH mP : Nat → Int32), i + wd + d = w + 1 → G.mDR (G.T tk) mM mK gR gS g1 g2 g3 (dM w wd i) → (∀ x a b, x < 5 → a < b → b ≤ 6 → ¬ dM w wd i x a b → mM (mxc x a b) = 0 ∧ mK (mxc x a b) = 0) →
      v_M_work_L58 K48 (nI w) mCount mHead mSize mBody mWeight mUseful mRow (nI wd) lvl (d + 1) (nI i) n0 n1 n2 n3 n4 mM mK gR gS g1 g2 g3 mW mO mH mP := by
    intro K48 wd h0 hwd ex d
    induction d with
    | zero =>
      intro i n0 n1 n2 n3 n4 mM mK gR gS g1 g2 g3 mW mO mH mP hid hR hem
      unfold v_M_work_L58
      rw [nI_add, p_1]
      have same : ∀ x a b, dM w (wd + 1) 0 x a b ↔ dM w wd i x a b := fun x a b => by
        unfold dM
        constructor
        · rintro ⟨q1, q2, q3, q4⟩; exact ⟨q1, q2, q3, by omega⟩
        · rintro ⟨q1, q2, q3, q4⟩; exact ⟨q1, q2, q3, by omega⟩
      refine br_t ((nI_ltI (by omega) (by omega)).mpr (by omega)) (ex n0 n1 n2 n3 n4 mM mK gR gS g1 g2 g3 mW mO mH mP ⟨fun x a b h => hR.1 x a b ((same x a b).mp h), fun x a b h => hR.2 x a b ((same x a b).mp h)⟩ (fun x a b q1 q2 q3 q4 => hem x a b q1 q2 q3 (fun y => q4 ((same x a b).mpr y))))
    | succ d ih =>
      intro i n0 n1 n2 n3 n4 mM mK gR gS g1 g2 g3 mW mO mH mP hid hR hem
      unfold v_M_work_L58
      rw [nI_add]
      refine br_f (fun z => by have := (nI_ltI (by omega) (by omega)).mp z; omega) ⟨6, ?_⟩
      refine levels _ wd i h0 (by omega) (fun n02 n12 n22 n32 n42 mM2 mK2 gR2 gS2 g12 g22 g32 mW2 mO2 mH2 mP2 z1 z2 => ih (i + 1) n02 n12 n22 n32 n42 mM2 mK2 gR2 gS2 g12 g22 g32 mW2 mO2 mH2 mP2 (by omega) z1 z2) 5 0 n0 n1 n2 n3 n4 mM mK gR gS g1 g2 g3 mW mO mH mP (by omega) hR (fun x hx5 => ?_) (fun x a b q1 q2 q3 q4 _ => hem x a b q1 q2 q3 q4)
      have := hem x i (i + wd) hx5 (by omega) (by omega) (fun y => by have := y.2.2.2; omega)
      rw [if_neg (Nat.not_lt_zero _)]
      by_cases e : lam x = 0
      · rw [if_pos e]; exact Gr.mHd_e this.1 this.2
      · rw [if_neg e]; exact Gr.mHd_e this.1 this.2
  have widths : ∀ (d wd : Nat) (n0 n1 n2 n3 n4 : Int32) (mM : Nat → Int64) (mK gR gS g1 g2 g3 mW mO mH mP : Nat → Int32), wd + d = w + 1 → 0 < wd → G.mDR (G.T tk) mM mK gR gS g1 g2 g3 (dM w wd 0) → (∀ x a b, x < 5 → a < b → b ≤ 6 → ¬ dM w wd 0 x a b → mM (mxc x a b) = 0 ∧ mK (mxc x a b) = 0) →
      v_M_work_L48 post (nI w) mCount mHead mSize mBody mWeight mUseful mRow (1 : Int32) lvl (d + 1) (nI wd) n0 n1 n2 n3 n4 mM mK gR gS g1 g2 g3 mW mO mH mP := by
    intro d
    induction d with
    | zero =>
      intro wd n0 n1 n2 n3 n4 mM mK gR gS g1 g2 g3 mW mO mH mP hwd h0 hR hem
      unfold v_M_work_L48
      refine br_t ((nI_ltI (by omega) (by omega)).mpr (by omega)) (k _ _ _ _ _ _ _ mM mK gR gS g1 g2 g3 mW mO mH mP ?_)
      have sub : ∀ x a b, dT 0 w x a b → dM w wd 0 x a b := fun x a b h => ⟨h.1, h.2.1, by have := h.2.2; omega, by have := h.2.2; omega⟩
      exact ⟨fun x a b h => hR.1 x a b (sub x a b h), fun x a b h => hR.2 x a b (sub x a b h)⟩
    | succ d ih =>
      intro wd n0 n1 n2 n3 n4 mM mK gR gS g1 g2 g3 mW mO mH mP hwd h0 hR hem
      unfold v_M_work_L48
      refine br_f (fun z => by have := (nI_ltI (by omega) (by omega)).mp z; omega) ⟨w + 1 - wd + 1, ?_⟩
      exact spans _ wd h0 (by omega) (fun n02 n12 n22 n32 n42 mM2 mK2 gR2 gS2 g12 g22 g32 mW2 mO2 mH2 mP2 z1 z2 => ih (wd + 1) n02 n12 n22 n32 n42 mM2 mK2 gR2 gS2 g12 g22 g32 mW2 mO2 mH2 mP2 (by omega) (by omega) z1 z2) (w + 1 - wd) 0 n0 n1 n2 n3 n4 mM mK gR gS g1 g2 g3 mW mO mH mP (by omega) hR hem
  have clear : ∀ (d n : Nat) (mM : Nat → Int64) (mK : Nat → Int32), n + d = 180 → (∀ y, y < n → mM y = 0 ∧ mK y = 0) → v_M_work_L19 post (nI w) mCount mHead mSize mBody mWeight mUseful mRow (1 : Int32) m0 m1 m2 m3 m4 lvl mRule mSum mOne mTwo mThree mW mO mH mP (d + 1) (nI n) mM mK := by
    intro d
    induction d with
    | zero =>
      intro n mM mK hn h
      unfold v_M_work_L19
      refine br_t (show nI 180 ≤ nI n from (nI_leI (by decide) (by omega)).mpr (by omega)) ⟨w + 1, ?_⟩
      refine widths w 1 m0 m1 m2 m3 m4 mM mK mRule mSum mOne mTwo mThree mW mO mH mP (by omega) (by decide) ⟨fun x a b h => ?_, fun x a b h => ?_⟩ (fun x a b q1 q2 q3 _ => h _ (by have := mxc_lt q1 q2 q3; omega))
      · exfalso; have := h.2; omega
      · exfalso; have := h.2; omega
    | succ d ih =>
      intro n mM mK hn h
      unfold v_M_work_L19
      refine br_f (show ¬ nI 180 ≤ nI n from fun z => by have := (nI_leI (by decide) (by omega)).mp z; omega) ?_
      have i1 : vp_in (nI n) 180 := vp_in_nI (by omega) (by decide)
      rw [nI_clamp (show n < 2 ^ 31 by omega), p_1]
      refine ⟨i1, i1, ih (n + 1) _ _ (by omega) (fun y hy => ?_)⟩
      by_cases e : y = n
      · subst e; exact ⟨pk_uLs, pk_us⟩
      · rw [pk_uLn e, pk_un e]; exact h y (by omega)
  exact ⟨181, clear 180 0 mMany mKept (by omega) (fun y hy => absurd hy (Nat.not_lt_zero y))⟩
end MWK
