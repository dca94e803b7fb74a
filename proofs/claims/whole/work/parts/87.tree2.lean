/-! The answers of both to a question about a tree. -/
section TRE
variable {G : Gr} {ρ : Nat → Nat} {D : Nat} {od : Nat → Nat} {w : Nat} {tk : Nat → Nat} {gN gD : Int32} {gH gS gL gW gU gO mCount mHead mSize mBody mWeight mUseful : Nat → Int32} {wL : Int32} {wT : Nat → Int32} {mFilled : Int32} {mRow : Nat → Int32}
/-- the cell of the whole row -/
noncomputable def aC (G : Gr) (tk : Nat → Nat) (w : Nat) : Cell := G.T tk (G.hd 0) 0 w
/-- what is wrong with a rank -/
noncomputable def aR (G : Gr) (tk : Nat → Nat) (w : Nat) (a : Int32) : Int32 := if G.k = 0 then 1 else if a < 0 ∨ ¬ a < 8 then 2 else if w = 0 then 3 else if a.toNatClampNeg < (aC G tk w).r.n then 0 else 3
theorem ps_ranked (hg : Ig G ρ D od gN gD gH gS gL gW gU gO mCount mHead mSize mBody mWeight mUseful) (hw : Iw w tk wL wT mFilled mRow) {cD : Int32} {cC : Nat → Int64} {cK cU cH cF fO fW fZ fC : Nat → Int32} (hc : Ic G tk w cD cC cK fO fW fZ fC) {a : Int32} {post : Int32 → Int32 → (Nat → Int64) → (Nat → Int32) → (Nat → Int32) → (Nat → Int32) → (Nat → Int32) → (Nat → Int32) → (Nat → Int32) → (Nat → Int32) → (Nat → Int32) → Prop} {px : String → Int32 → (Nat → Int64) → (Nat → Int32) → (Nat → Int32) → (Nat → Int32) → (Nat → Int32) → (Nat → Int32) → (Nat → Int32) → (Nat → Int32) → (Nat → Int32) → Prop}
    (k0 : aR G tk w a = 0 → ∀ (q : Nat) (cD' : Int32) (cC' : Nat → Int64) (cK' cU' cH' cF' fO' fW' fZ' fC' : Nat → Int32), a = nI q → q < 8 → 0 < G.k → 0 < w → G.hd 0 < 5 → q < (aC G tk w).r.n → G.cDR (G.T tk) cC' cK' fO' fW' fZ' fC' (dT 0 w) → Ic G tk w cD' cC' cK' fO' fW' fZ' fC' → post (nI (8 * cxc (G.hd 0) 0 w + q)) cD' cC' cK' cU' cH' cF' fO' fW' fZ' fC')
    (k1 : aR G tk w a = 1 → ∀ (cD' : Int32) (cC' : Nat → Int64) (cK' cU' cH' cF' fO' fW' fZ' fC' : Nat → Int32), Ic G tk w cD' cC' cK' fO' fW' fZ' fC' → px "java/lang/IllegalStateException" cD' cC' cK' cU' cH' cF' fO' fW' fZ' fC')
    (k2 : aR G tk w a = 2 → ∀ (cD' : Int32) (cC' : Nat → Int64) (cK' cU' cH' cF' fO' fW' fZ' fC' : Nat → Int32), Ic G tk w cD' cC' cK' fO' fW' fZ' fC' → px "java/lang/IllegalArgumentException" cD' cC' cK' cU' cH' cF' fO' fW' fZ' fC')
    (k3 : aR G tk w a = 3 → ∀ (cD' : Int32) (cC' : Nat → Int64) (cK' cU' cH' cF' fO' fW' fZ' fC' : Nat → Int32), Ic G tk w cD' cC' cK' fO' fW' fZ' fC' → px "java/util/NoSuchElementException" cD' cC' cK' cU' cH' cF' fO' fW' fZ' fC') :
    v_RT_rankedTree a wL wT cD cC cK cU cH cF fO fW fZ fC gN gD gH gS gL gW gO post px := by
  have hk14 := hg.1.1
  have h6 := hw.1
  have e' := hw.2.1
  unfold v_RT_rankedTree v_RT_needGrammar
  rw [hg.2.2.1]
  unfold aR at k0 k1 k2 k3
  refine p_eq (b := 0) (by omega) (by decide) (fun e => ?_) (fun e => ?_)
  · rw [if_pos e] at k1
    exact k1 rfl _ _ _ _ _ _ _ _ _ _ hc
  · rw [if_neg e] at k0 k2 k3
    by_cases es : a < 0 ∨ ¬ a < 8
    · rw [if_pos es] at k2
      have kk := k2 rfl cD cC cK cU cH cF fO fW fZ fC hc
      refine ⟨fun _ => kk, fun n1 => ⟨fun n2 => ?_, fun _ => kk⟩⟩
      rcases es with z | z
      · exact absurd z n1
      · exact absurd n2 z
    · rw [if_neg es] at k0 k3
      have n1 : ¬ a < 0 := fun z => es (Or.inl z)
      have n2 : a < 8 := Classical.byContradiction fun z => es (Or.inr z)
      obtain ⟨q, hq, rfl⟩ := nI_of n1
      have hq8 : q < 8 := (nI_ltI (b := 8) hq (by decide)).mp n2
      rw [nI_clamp hq] at k0 k3
      refine br_f n1 (br_t n2 ⟨fun z => ?_, fun z => ?_⟩)
      · have w0 : w = 0 := by rw [e'] at z; exact (p_eq0 (by omega)).mp z
        rw [if_pos w0] at k3
        exact k3 rfl _ _ _ _ _ _ _ _ _ _ hc
      · have w0 : ¬ w = 0 := fun y => z (by rw [e', y]; rfl)
        rw [if_neg w0] at k0 k3
        refine ps_compl hg (by omega) hw hc fun cC' cK' cU' cH' cF' fO' fW' fZ' fC' hR => ?_
        refine ps_start hg (by omega) hw (by omega) fun hh => ?_
        have hX := cxc_lt hh (show 0 < w by omega) h6
        have hK := (hR.2 (G.hd 0) 0 w ⟨hh, by omega, by omega⟩).2
        have h8 : (aC G tk w).r.n ≤ 8 := by
          obtain ⟨g1, g2, g3, g4, g5⟩ := hg
          exact (Gr.CP_T (tk := tk) g1 (g5 (by omega)).1.Rk (l := G.hd 0) (show 0 < w by omega)).1.1
        rw [nI_clamp (show cxc (G.hd 0) 0 w < 2 ^ 31 by omega), hK, p_8, nI_add]
        have hI := Ic.all (cD := cD) (cU := cU) (cH := cH) (cF := cF) hR
        refine ⟨vp_in_nI hX (by decide), p_lt hq (by show (aC G tk w).r.n < _; omega) (fun y => ?_) (fun y => ?_)⟩
        · have y' : q < (aC G tk w).r.n := y
          rw [if_pos y'] at k0
          exact k0 rfl q _ _ _ _ _ _ _ _ _ _ rfl hq8 (by omega) (by omega) hh y' hR hI
        · have y' : ¬ q < (aC G tk w).r.n := Nat.not_lt.mpr y
          rw [if_neg y'] at k3
          exact k3 rfl _ _ _ _ _ _ _ _ _ _ hI
theorem aR_4 {a : Int32} : aR G tk w a = 0 ∨ aR G tk w a = 1 ∨ aR G tk w a = 2 ∨ aR G tk w a = 3 := by
  unfold aR
  by_cases e : G.k = 0
  · rw [if_pos e]; exact Or.inr (Or.inl rfl)
  · rw [if_neg e]
    by_cases e1 : a < 0 ∨ ¬ a < 8
    · rw [if_pos e1]; exact Or.inr (Or.inr (Or.inl rfl))
    · rw [if_neg e1]
      by_cases e2 : w = 0
      · rw [if_pos e2]; exact Or.inr (Or.inr (Or.inr rfl))
      · rw [if_neg e2]
        by_cases e3 : a.toNatClampNeg < (aC G tk w).r.n
        · rw [if_pos e3]; exact Or.inl rfl
        · rw [if_neg e3]; exact Or.inr (Or.inr (Or.inr rfl))
/-- the kept tree in the class -/
theorem ps_ent (hw6 : w ≤ 6) (h0 : 0 < w) (hh : G.hd 0 < 5) {q : Nat} {cD : Int32} {cC : Nat → Int64} {cK cU cH cF fO fW fZ fC : Nat → Int32} (hR : G.cDR (G.T tk) cC cK fO fW fZ fC (dT 0 w)) (hq : q < (aC G tk w).r.n) (hq8 : q < 8) : 8 * cxc (G.hd 0) 0 w + q < 840 ∧ fW (8 * cxc (G.hd 0) 0 w + q) = nI ((aC G tk w).r.f q).w ∧ fZ (8 * cxc (G.hd 0) 0 w + q) = nI ((aC G tk w).r.f q).sz := by
  obtain ⟨g1, g2, g3, g4⟩ := hR.1 (G.hd 0) 0 w ⟨hh, h0, by omega⟩
  have hX := cxc_lt hh h0 hw6
  obtain ⟨⟨r, x, y, z, -, -, -, -, -, e, -⟩, e2⟩ := g4 q hq
  exact ⟨by omega, e, e2⟩
/-- a tree of the model -/
theorem ps_Mtree (hg : Ig G ρ D od gN gD gH gS gL gW gU gO mCount mHead mSize mBody mWeight mUseful) (hw : Iw w tk wL wT mFilled mRow) {mFault : Int32} {mDone mNewRule mNewSum mNewOne mNewTwo mNewThree : Int32} {mLevel : Nat → Int32} {mMany : Nat → Int64} {mKept mRule mSum mOne mTwo mThree mWritten mOut mWhose mOpen : Nat → Int32} (hm : Im G tk w mDone mMany mKept mRule mSum mOne mTwo mThree) {a f : Int32} {post : Int32 → Int32 → Int32 → Int32 → Int32 → Int32 → Int32 → Int32 → (Nat → Int32) → (Nat → Int64) → (Nat → Int32) → (Nat → Int32) → (Nat → Int32) → (Nat → Int32) → (Nat → Int32) → (Nat → Int32) → (Nat → Int32) → (Nat → Int32) → (Nat → Int32) → (Nat → Int32) → Prop}
    (k0 : aR G tk w a = 0 → f ≠ 0 → ∀ (q : Nat) (mDone' mNewRule' mNewSum' mNewOne' mNewTwo' mNewThree' : Int32) (mLevel' : Nat → Int32) (mMany' : Nat → Int64) (mKept' mRule' mSum' mOne' mTwo' mThree' mWritten' mOut' mWhose' mOpen' : Nat → Int32), a = nI q → q < 8 → 0 < G.k → 0 < w → G.hd 0 < 5 → q < (aC G tk w).r.n → G.mDR (G.T tk) mMany' mKept' mRule' mSum' mOne' mTwo' mThree' (dT 0 w) → post (nI (8 * mxc (G.hd 0) 0 w + q)) 0 mDone' mNewRule' mNewSum' mNewOne' mNewTwo' mNewThree' mLevel' mMany' mKept' mRule' mSum' mOne' mTwo' mThree' mWritten' mOut' mWhose' mOpen')
    (k1 : aR G tk w a = 1 → ∀ (mDone' mNewRule' mNewSum' mNewOne' mNewTwo' mNewThree' : Int32) (mLevel' : Nat → Int32) (mMany' : Nat → Int64) (mKept' mRule' mSum' mOne' mTwo' mThree' mWritten' mOut' mWhose' mOpen' : Nat → Int32), Im G tk w mDone' mMany' mKept' mRule' mSum' mOne' mTwo' mThree' → post (-1) 1 mDone' mNewRule' mNewSum' mNewOne' mNewTwo' mNewThree' mLevel' mMany' mKept' mRule' mSum' mOne' mTwo' mThree' mWritten' mOut' mWhose' mOpen')
    (k2 : (aR G tk w a = 2 ∨ (¬ aR G tk w a = 1 ∧ f = 0)) → ∀ (mDone' mNewRule' mNewSum' mNewOne' mNewTwo' mNewThree' : Int32) (mLevel' : Nat → Int32) (mMany' : Nat → Int64) (mKept' mRule' mSum' mOne' mTwo' mThree' mWritten' mOut' mWhose' mOpen' : Nat → Int32), Im G tk w mDone' mMany' mKept' mRule' mSum' mOne' mTwo' mThree' → post (-1) 2 mDone' mNewRule' mNewSum' mNewOne' mNewTwo' mNewThree' mLevel' mMany' mKept' mRule' mSum' mOne' mTwo' mThree' mWritten' mOut' mWhose' mOpen')
    (k3 : aR G tk w a = 3 → f ≠ 0 → ∀ (mDone' mNewRule' mNewSum' mNewOne' mNewTwo' mNewThree' : Int32) (mLevel' : Nat → Int32) (mMany' : Nat → Int64) (mKept' mRule' mSum' mOne' mTwo' mThree' mWritten' mOut' mWhose' mOpen' : Nat → Int32), Im G tk w mDone' mMany' mKept' mRule' mSum' mOne' mTwo' mThree' → post (-1) 3 mDone' mNewRule' mNewSum' mNewOne' mNewTwo' mNewThree' mLevel' mMany' mKept' mRule' mSum' mOne' mTwo' mThree' mWritten' mOut' mWhose' mOpen') :
    v_M_tree a f mFault mFilled mDone mNewRule mNewSum mNewOne mNewTwo mNewThree mCount mHead mSize mBody mWeight mUseful mLevel mRow mMany mKept mRule mSum mOne mTwo mThree mWritten mOut mWhose mOpen post := by
  have hk14 := hg.1.1
  have h6 := hw.1
  have e' := hw.2.2.1
  unfold v_M_tree
  rw [show (0 : Int32).toNatClampNeg = 0 from rfl, hg.2.2.2.1]
  have nk : ∀ x : Int32, x = 1 ∨ x = 2 ∨ x = 3 → ¬ x ≤ 0 := by rintro x (rfl | rfl | rfl) <;> decide
  unfold aR at k0 k1 k2 k3
  refine ⟨vp_in_nI (n := 0) (by decide) (by decide), p_eq (b := 0) (by omega) (by decide) (fun e => ?_) (fun e => ?_)⟩
  · rw [if_pos e] at k1
    unfold v_M_tree_B33
    exact br_f (by decide) (k1 rfl _ _ _ _ _ _ _ _ _ _ _ _ _ _ _ _ _ _ hm)
  · rw [if_neg e] at k0 k2 k3
    by_cases es : a < 0 ∨ ¬ a < 8
    · rw [if_pos es] at k2
      have kk : v_M_tree_B33 post mFilled mCount mHead mSize mBody mWeight mUseful mRow a (2 : Int32) mDone mNewRule mNewSum mNewOne mNewTwo mNewThree mLevel mMany mKept mRule mSum mOne mTwo mThree mWritten mOut mWhose mOpen := by
        unfold v_M_tree_B33
        exact br_f (by decide) (k2 (Or.inl rfl) _ _ _ _ _ _ _ _ _ _ _ _ _ _ _ _ _ _ hm)
      refine ⟨fun _ => kk, fun n1 => ⟨fun _ => kk, fun n2 => ?_⟩⟩
      exfalso
      rcases es with z | z
      · exact n1 z
      · rw [Int32.lt_iff_toInt_lt] at z n2
        have c7 : (7 : Int32).toInt = 7 := by decide
        have c8 : (8 : Int32).toInt = 8 := by decide
        omega
    · rw [if_neg es] at k0 k2 k3
      have n1 : ¬ a < 0 := fun z => es (Or.inl z)
      have n2 : a < 8 := Classical.byContradiction fun z => es (Or.inr z)
      obtain ⟨q, hq, rfl⟩ := nI_of n1
      have hq8 : q < 8 := (nI_ltI (b := 8) hq (by decide)).mp n2
      rw [nI_clamp hq] at k0 k2 k3
      refine br_f n1 (br_f (fun z => by have := (nI_ltI (a := 7) (by decide) hq).mp z; omega) ⟨fun z => ?_, fun z => ?_⟩)
      · unfold v_M_tree_B33
        refine br_f (by decide) (k2 (Or.inr ⟨?_, z⟩) _ _ _ _ _ _ _ _ _ _ _ _ _ _ _ _ _ _ hm)
        by_cases e2 : w = 0
        · rw [if_pos e2]; decide
        · rw [if_neg e2]
          by_cases e3 : q < (aC G tk w).r.n
          · rw [if_pos e3]; decide
          · rw [if_neg e3]; decide
      · unfold v_M_tree_B33
        refine br_t (by decide) ?_
        refine ps_mwk hg (by omega) hw hm fun mDone' mNewRule' mNewSum' mNewOne' mNewTwo' mNewThree' mLevel' mMany' mKept' mRule' mSum' mOne' mTwo' mThree' mWritten' mOut' mWhose' mOpen' hR => ?_
        refine ⟨fun y => ?_, fun y => ?_⟩
        · have w0 : w = 0 := by rw [e'] at y; exact (p_eq0 (by omega)).mp y
          rw [if_pos w0] at k3
          exact k3 rfl z _ _ _ _ _ _ _ _ _ _ _ _ _ _ _ _ _ _ (fun _ => hR)
        · have w0 : ¬ w = 0 := fun x => y (by rw [e', x]; rfl)
          rw [if_neg w0] at k0 k3
          refine ps_mwhole hg (by omega) hw (by omega) fun hh => ?_
          have hX := mxc_lt hh (show 0 < w by omega) h6
          have hK := (hR.2 (G.hd 0) 0 w ⟨hh, by omega, by omega⟩).2
          have h8 : (aC G tk w).r.n ≤ 8 := by
            obtain ⟨g1, g2, g3, g4, g5⟩ := hg
            exact (Gr.CP_T (tk := tk) g1 (g5 (by omega)).1.Rk (l := G.hd 0) (show 0 < w by omega)).1.1
          rw [nI_clamp (show mxc (G.hd 0) 0 w < 2 ^ 31 by omega), hK]
          refine ⟨vp_in_nI hX (by decide), p_lt hq (by show (aC G tk w).r.n < _; omega) (fun x => ?_) (fun x => ?_)⟩
          · have x' : q < (aC G tk w).r.n := x
            rw [if_pos x'] at k0
            refine ps_mwhole hg (by omega) hw (by omega) fun _ => ?_
            rw [show (8 : Int32) = nI 8 from rfl, pk_mul, nI_add]
            exact k0 rfl z q _ _ _ _ _ _ _ _ _ _ _ _ _ _ _ _ _ _ rfl hq8 (by omega) (by omega) hh x' hR
          · have x' : ¬ q < (aC G tk w).r.n := Nat.not_lt.mpr x
            rw [if_neg x'] at k3
            exact k3 rfl z _ _ _ _ _ _ _ _ _ _ _ _ _ _ _ _ _ _ (fun _ => hR)

/-! weight -/
theorem ps_Lweight (hg : Ig G ρ D od gN gD gH gS gL gW gU gO mCount mHead mSize mBody mWeight mUseful) (hw : Iw w tk wL wT mFilled mRow) {cD : Int32} {cC : Nat → Int64} {cK cU cH cF fO fW fZ fC : Nat → Int32} (hc : Ic G tk w cD cC cK fO fW fZ fC) {oV : Nat → Int64} {a : Int32} {post : Int32 → Int32 → (Nat → Int64) → (Nat → Int32) → (Nat → Int32) → (Nat → Int32) → (Nat → Int32) → (Nat → Int32) → (Nat → Int32) → (Nat → Int32) → (Nat → Int32) → (Nat → Int64) → Prop}
    (k : ∀ (cD' : Int32) (cC' : Nat → Int64) (cK' cU' cH' cF' fO' fW' fZ' fC' : Nat → Int32) (oV' : Nat → Int64), Ic G tk w cD' cC' cK' fO' fW' fZ' fC' → (aR G tk w a = 0 → oV' (0 : Int32).toNatClampNeg = (nI ((aC G tk w).r.f a.toNatClampNeg).w).toInt64) → post (aR G tk w a) cD' cC' cK' cU' cH' cF' fO' fW' fZ' fC' oV') : v_Law_weight a wL wT cD cC cK cU cH cF fO fW fZ fC gN gD gH gS gL gW gO oV post := by
  unfold v_Law_weight v_RT_weight
  refine ps_ranked hg hw hc (fun e q cD' cC' cK' cU' cH' cF' fO' fW' fZ' fC' ea q8 hk h0 hh hq hR hI => ?_) (fun e cD' cC' cK' cU' cH' cF' fO' fW' fZ' fC' hI => Or.inl ⟨rfl, ?_⟩) (fun e cD' cC' cK' cU' cH' cF' fO' fW' fZ' fC' hI => Or.inr (Or.inl ⟨rfl, ?_⟩)) (fun e cD' cC' cK' cU' cH' cF' fO' fW' fZ' fC' hI => Or.inr (Or.inr ⟨rfl, ?_⟩))
  · obtain ⟨b1, b2, b3⟩ := ps_ent (cD := cD') (cU := cU') (cH := cH') (cF := cF') hw.1 h0 hh hR hq q8
    rw [nI_clamp (show 8 * cxc (G.hd 0) 0 w + q < 2 ^ 31 by omega), b2]
    rw [e] at k
    refine ⟨vp_in_nI (by omega) (by decide), vp_in_nI (n := 0) (by decide) (by decide), k _ _ _ _ _ _ _ _ _ _ _ hI (fun _ => ?_)⟩
    rw [oV_0, ea, nI_clamp (show q < 2 ^ 31 by omega)]
  · rw [e] at k; exact k _ _ _ _ _ _ _ _ _ _ _ hI (fun z => absurd z (by decide))
  · rw [e] at k; exact k _ _ _ _ _ _ _ _ _ _ _ hI (fun z => absurd z (by decide))
  · rw [e] at k; exact k _ _ _ _ _ _ _ _ _ _ _ hI (fun z => absurd z (by decide))

/-! size -/
theorem ps_Lsize (hg : Ig G ρ D od gN gD gH gS gL gW gU gO mCount mHead mSize mBody mWeight mUseful) (hw : Iw w tk wL wT mFilled mRow) {cD : Int32} {cC : Nat → Int64} {cK cU cH cF fO fW fZ fC : Nat → Int32} (hc : Ic G tk w cD cC cK fO fW fZ fC) {oV : Nat → Int64} {a : Int32} {post : Int32 → Int32 → (Nat → Int64) → (Nat → Int32) → (Nat → Int32) → (Nat → Int32) → (Nat → Int32) → (Nat → Int32) → (Nat → Int32) → (Nat → Int32) → (Nat → Int32) → (Nat → Int64) → Prop}
    (k : ∀ (cD' : Int32) (cC' : Nat → Int64) (cK' cU' cH' cF' fO' fW' fZ' fC' : Nat → Int32) (oV' : Nat → Int64), Ic G tk w cD' cC' cK' fO' fW' fZ' fC' → (aR G tk w a = 0 → oV' (0 : Int32).toNatClampNeg = (nI ((aC G tk w).r.f a.toNatClampNeg).sz).toInt64) → post (aR G tk w a) cD' cC' cK' cU' cH' cF' fO' fW' fZ' fC' oV') : v_Law_size a wL wT cD cC cK cU cH cF fO fW fZ fC gN gD gH gS gL gW gO oV post := by
  unfold v_Law_size v_RT_size
  refine ps_ranked hg hw hc (fun e q cD' cC' cK' cU' cH' cF' fO' fW' fZ' fC' ea q8 hk h0 hh hq hR hI => ?_) (fun e cD' cC' cK' cU' cH' cF' fO' fW' fZ' fC' hI => Or.inl ⟨rfl, ?_⟩) (fun e cD' cC' cK' cU' cH' cF' fO' fW' fZ' fC' hI => Or.inr (Or.inl ⟨rfl, ?_⟩)) (fun e cD' cC' cK' cU' cH' cF' fO' fW' fZ' fC' hI => Or.inr (Or.inr ⟨rfl, ?_⟩))
  · obtain ⟨b1, b2, b3⟩ := ps_ent (cD := cD') (cU := cU') (cH := cH') (cF := cF') hw.1 h0 hh hR hq q8
    rw [nI_clamp (show 8 * cxc (G.hd 0) 0 w + q < 2 ^ 31 by omega), b3]
    rw [e] at k
    refine ⟨vp_in_nI (by omega) (by decide), vp_in_nI (n := 0) (by decide) (by decide), k _ _ _ _ _ _ _ _ _ _ _ hI (fun _ => ?_)⟩
    rw [oV_0, ea, nI_clamp (show q < 2 ^ 31 by omega)]
  · rw [e] at k; exact k _ _ _ _ _ _ _ _ _ _ _ hI (fun z => absurd z (by decide))
  · rw [e] at k; exact k _ _ _ _ _ _ _ _ _ _ _ hI (fun z => absurd z (by decide))
  · rw [e] at k; exact k _ _ _ _ _ _ _ _ _ _ _ hI (fun z => absurd z (by decide))

theorem ps_Mweight (hg : Ig G ρ D od gN gD gH gS gL gW gU gO mCount mHead mSize mBody mWeight mUseful) (hw : Iw w tk wL wT mFilled mRow) {mFault : Int32} {mDone mNewRule mNewSum mNewOne mNewTwo mNewThree : Int32} {mLevel : Nat → Int32} {mMany : Nat → Int64} {mKept mRule mSum mOne mTwo mThree mWritten mOut mWhose mOpen : Nat → Int32} (hm : Im G tk w mDone mMany mKept mRule mSum mOne mTwo mThree) {a : Int32} {post : Int32 → Int32 → Int32 → Int32 → Int32 → Int32 → Int32 → Int32 → (Nat → Int32) → (Nat → Int64) → (Nat → Int32) → (Nat → Int32) → (Nat → Int32) → (Nat → Int32) → (Nat → Int32) → (Nat → Int32) → (Nat → Int32) → (Nat → Int32) → (Nat → Int32) → (Nat → Int32) → Prop}
    (k : ∀ (v : Int32) (mDone' mNewRule' mNewSum' mNewOne' mNewTwo' mNewThree' : Int32) (mLevel' : Nat → Int32) (mMany' : Nat → Int64) (mKept' mRule' mSum' mOne' mTwo' mThree' mWritten' mOut' mWhose' mOpen' : Nat → Int32), Im G tk w mDone' mMany' mKept' mRule' mSum' mOne' mTwo' mThree' → (aR G tk w a = 0 → v = nI ((aC G tk w).r.f a.toNatClampNeg).w) → post v (aR G tk w a) mDone' mNewRule' mNewSum' mNewOne' mNewTwo' mNewThree' mLevel' mMany' mKept' mRule' mSum' mOne' mTwo' mThree' mWritten' mOut' mWhose' mOpen') : v_M_weight a mFault mFilled mDone mNewRule mNewSum mNewOne mNewTwo mNewThree mCount mHead mSize mBody mWeight mUseful mLevel mRow mMany mKept mRule mSum mOne mTwo mThree mWritten mOut mWhose mOpen post := by
  unfold v_M_weight
  refine ps_Mtree hg hw hm (fun e hf q mDone' mNewRule' mNewSum' mNewOne' mNewTwo' mNewThree' mLevel' mMany' mKept' mRule' mSum' mOne' mTwo' mThree' mWritten' mOut' mWhose' mOpen' ea q8 hk h0 hh hq hR => ?_) (fun e mDone' mNewRule' mNewSum' mNewOne' mNewTwo' mNewThree' mLevel' mMany' mKept' mRule' mSum' mOne' mTwo' mThree' mWritten' mOut' mWhose' mOpen' hI => br_f (by decide) ?_) (fun e mDone' mNewRule' mNewSum' mNewOne' mNewTwo' mNewThree' mLevel' mMany' mKept' mRule' mSum' mOne' mTwo' mThree' mWritten' mOut' mWhose' mOpen' hI => br_f (by decide) ?_) (fun e _ mDone' mNewRule' mNewSum' mNewOne' mNewTwo' mNewThree' mLevel' mMany' mKept' mRule' mSum' mOne' mTwo' mThree' mWritten' mOut' mWhose' mOpen' hI => br_f (by decide) ?_)
  · obtain ⟨g1, g2, g3, g4⟩ := hR.1 (G.hd 0) 0 w ⟨hh, h0, by omega⟩
    have hX := mxc_lt hh h0 hw.1
    obtain ⟨r, x, y, z, -, -, -, -, -, es, -⟩ := g4 q hq
    rw [nI_clamp (show 8 * mxc (G.hd 0) 0 w + q < 2 ^ 31 by omega)]
    refine br_t (show nI 0 ≤ nI _ from (nI_leI (by decide) (by omega)).mpr (Nat.zero_le _)) ⟨vp_in_nI (by omega) (by decide), ?_⟩
    rw [e] at k
    refine k _ _ _ _ _ _ _ _ _ _ _ _ _ _ _ _ _ _ _ (fun _ => hR) (fun _ => ?_)
    rw [es, ea, nI_clamp (show q < 2 ^ 31 by omega)]
    rfl
  · rw [e] at k; exact k _ _ _ _ _ _ _ _ _ _ _ _ _ _ _ _ _ _ _ hI (fun z => absurd z (by decide))
  · have e2 : aR G tk w a = 2 := by rcases e with e | ⟨_, e⟩; exact e; exact absurd e (by decide)
    rw [e2] at k; exact k _ _ _ _ _ _ _ _ _ _ _ _ _ _ _ _ _ _ _ hI (fun z => absurd z (by decide))
  · rw [e] at k; exact k _ _ _ _ _ _ _ _ _ _ _ _ _ _ _ _ _ _ _ hI (fun z => absurd z (by decide))
/-- the model writes the kept tree out -/
theorem ps_wr (hg : Ig G ρ D od gN gD gH gS gL gW gU gO mCount mHead mSize mBody mWeight mUseful) (hw : Iw w tk wL wT mFilled mRow) (hk : 0 < G.k) (h0 : 0 < w) (hh : G.hd 0 < 5) {q : Nat} (hq : q < (aC G tk w).r.n) {mDone mNewRule mNewSum mNewOne mNewTwo mNewThree : Int32} {mLevel : Nat → Int32} {mMany : Nat → Int64} {mKept mRule mSum mOne mTwo mThree mWritten mOut mWhose mOpen : Nat → Int32} (hR : G.mDR (G.T tk) mMany mKept mRule mSum mOne mTwo mThree (dT 0 w)) {post : (Nat → Int32) → (Nat → Int32) → (Nat → Int32) → (Nat → Int32) → Prop}
    (k : ∀ mOut' mWhose' mOpen' : Nat → Int32, WN mOut' mWhose' 0 ((aC G tk w).r.f q).nd → ((aC G tk w).r.f q).sz ≤ 55 → post (upd mWritten 0 (nI ((aC G tk w).r.f q).sz)) mOut' mWhose' mOpen') : v_M_writeOut (0 : Int32) (0 : Int32) (nI (8 * mxc (G.hd 0) 0 w + q)) mRule mOne mTwo mThree mWritten mOut mWhose mOpen post := by
  obtain ⟨g1, g2, g3, g4, g5⟩ := hg
  have hρ := (g5 hk).1.Rk
  have hC : ∀ x i j, i < j → G.CP ρ x (j - i) (G.T tk x i j) := fun x i j h => Gr.CP_T g1 hρ h
  have tp := (hC (G.hd 0) 0 w h0).2.2 q hq
  have sz := (Gr.TP_w hρ hh (show w - 0 ≤ 6 by have := hw.1; omega) tp).2
  refine ps_writeOut (s := 0) (n := 0) hC (Gr.dT_c 0 w) hR.1 (by decide) (Gr.mV_D hC (Gr.dT_c 0 w) hR.1 (show dT 0 w (G.hd 0) 0 w from ⟨hh, h0, by omega⟩) hq) tp.2.2.1 (by omega) fun mOut' mWhose' mOpen' hW _ => ?_
  rw [Nat.zero_add]
  exact k mOut' mWhose' mOpen' hW sz
theorem ps_Msize (hg : Ig G ρ D od gN gD gH gS gL gW gU gO mCount mHead mSize mBody mWeight mUseful) (hw : Iw w tk wL wT mFilled mRow) {mFault : Int32} {mDone mNewRule mNewSum mNewOne mNewTwo mNewThree : Int32} {mLevel : Nat → Int32} {mMany : Nat → Int64} {mKept mRule mSum mOne mTwo mThree mWritten mOut mWhose mOpen : Nat → Int32} (hm : Im G tk w mDone mMany mKept mRule mSum mOne mTwo mThree) {a : Int32} {post : Int32 → Int32 → Int32 → Int32 → Int32 → Int32 → Int32 → Int32 → (Nat → Int32) → (Nat → Int64) → (Nat → Int32) → (Nat → Int32) → (Nat → Int32) → (Nat → Int32) → (Nat → Int32) → (Nat → Int32) → (Nat → Int32) → (Nat → Int32) → (Nat → Int32) → (Nat → Int32) → Prop}
    (k : ∀ (v : Int32) (mDone' mNewRule' mNewSum' mNewOne' mNewTwo' mNewThree' : Int32) (mLevel' : Nat → Int32) (mMany' : Nat → Int64) (mKept' mRule' mSum' mOne' mTwo' mThree' mWritten' mOut' mWhose' mOpen' : Nat → Int32), Im G tk w mDone' mMany' mKept' mRule' mSum' mOne' mTwo' mThree' → (aR G tk w a = 0 → v = nI ((aC G tk w).r.f a.toNatClampNeg).sz) → post v (aR G tk w a) mDone' mNewRule' mNewSum' mNewOne' mNewTwo' mNewThree' mLevel' mMany' mKept' mRule' mSum' mOne' mTwo' mThree' mWritten' mOut' mWhose' mOpen') : v_M_size a mFault mFilled mDone mNewRule mNewSum mNewOne mNewTwo mNewThree mCount mHead mSize mBody mWeight mUseful mLevel mRow mMany mKept mRule mSum mOne mTwo mThree mWritten mOut mWhose mOpen post := by
  unfold v_M_size
  refine ps_Mtree hg hw hm (fun e hf q mDone' mNewRule' mNewSum' mNewOne' mNewTwo' mNewThree' mLevel' mMany' mKept' mRule' mSum' mOne' mTwo' mThree' mWritten' mOut' mWhose' mOpen' ea q8 hk h0 hh hq hR => ?_) (fun e mDone' mNewRule' mNewSum' mNewOne' mNewTwo' mNewThree' mLevel' mMany' mKept' mRule' mSum' mOne' mTwo' mThree' mWritten' mOut' mWhose' mOpen' hI => br_f (by decide) ?_) (fun e mDone' mNewRule' mNewSum' mNewOne' mNewTwo' mNewThree' mLevel' mMany' mKept' mRule' mSum' mOne' mTwo' mThree' mWritten' mOut' mWhose' mOpen' hI => br_f (by decide) ?_) (fun e _ mDone' mNewRule' mNewSum' mNewOne' mNewTwo' mNewThree' mLevel' mMany' mKept' mRule' mSum' mOne' mTwo' mThree' mWritten' mOut' mWhose' mOpen' hI => br_f (by decide) ?_)
  · have hX := mxc_lt hh h0 hw.1
    refine br_t (show nI 0 ≤ nI _ from (nI_leI (by decide) (by omega)).mpr (Nat.zero_le _)) ?_
    refine ps_wr (mDone := mDone') (mNewRule := mNewRule') (mNewSum := mNewSum') (mNewOne := mNewOne') (mNewTwo := mNewTwo') (mNewThree := mNewThree') (mLevel := mLevel') hg hw hk h0 hh hq hR fun mO mH mP hW hs => ⟨vp_in_nI (n := 0) (by decide) (by decide), ?_⟩
    rw [e] at k
    refine k _ _ _ _ _ _ _ _ _ _ _ _ _ _ _ _ _ _ _ (fun _ => hR) (fun _ => ?_)
    rw [ea, nI_clamp (show q < 2 ^ 31 by omega)]
    exact pk_us
  · rw [e] at k; exact k _ _ _ _ _ _ _ _ _ _ _ _ _ _ _ _ _ _ _ hI (fun z => absurd z (by decide))
  · have e2 : aR G tk w a = 2 := by rcases e with e | ⟨_, e⟩; exact e; exact absurd e (by decide)
    rw [e2] at k; exact k _ _ _ _ _ _ _ _ _ _ _ _ _ _ _ _ _ _ _ hI (fun z => absurd z (by decide))
  · rw [e] at k; exact k _ _ _ _ _ _ _ _ _ _ _ _ _ _ _ _ _ _ _ hI (fun z => absurd z (by decide))
/-! at -/
def nV (T : Tr) (m : Nat) (c : Int32) : Int32 := match T.nd[m]? with
  | some (r, i, j) => if c = 0 then nI r else if c = 1 then nI i else nI j
  | none => 0
theorem nV_s {T : Tr} {m r i j : Nat} {c : Int32} (h : T.nd[m]? = some (r, i, j)) : nV T m c = if c = 0 then nI r else if c = 1 then nI i else nI j := by unfold nV; rw [h]
noncomputable def aA (G : Gr) (tk : Nat → Nat) (w : Nat) (a b c : Int32) : Int32 := if G.k = 0 then 1 else if c < 0 ∨ ¬ c ≤ 2 then 2 else if ¬ aR G tk w a = 0 then aR G tk w a else if b < 0 ∨ ¬ b < nI ((aC G tk w).r.f a.toNatClampNeg).sz then 4 else 0
theorem ps_Lat (hg : Ig G ρ D od gN gD gH gS gL gW gU gO mCount mHead mSize mBody mWeight mUseful) (hw : Iw w tk wL wT mFilled mRow) {cD : Int32} {cC : Nat → Int64} {cK cU cH cF fO fW fZ fC : Nat → Int32} (hc : Ic G tk w cD cC cK fO fW fZ fC) {oV : Nat → Int64} {a b c : Int32} {post : Int32 → Int32 → (Nat → Int64) → (Nat → Int32) → (Nat → Int32) → (Nat → Int32) → (Nat → Int32) → (Nat → Int32) → (Nat → Int32) → (Nat → Int32) → (Nat → Int32) → (Nat → Int64) → Prop}
    (k : ∀ (cD' : Int32) (cC' : Nat → Int64) (cK' cU' cH' cF' fO' fW' fZ' fC' : Nat → Int32) (oV' : Nat → Int64), Ic G tk w cD' cC' cK' fO' fW' fZ' fC' → (aA G tk w a b c = 0 → oV' (0 : Int32).toNatClampNeg = (nV ((aC G tk w).r.f a.toNatClampNeg) b.toNatClampNeg c).toInt64) → post (aA G tk w a b c) cD' cC' cK' cU' cH' cF' fO' fW' fZ' fC' oV') : v_Law_at a b c wL wT cD cC cK cU cH cF fO fW fZ fC gN gD gH gS gL gW gO oV post := by
  have hk14 := hg.1.1
  have h6 := hw.1
  have hgN := hg.2.2.1
  unfold v_Law_at v_RT_at v_RT_needGrammar
  unfold aA at k
  rw [hgN]
  refine p_eq (b := 0) (by omega) (by decide) (fun e => Or.inl ⟨rfl, ?_⟩) (fun e => ?_)
  · rw [if_pos e] at k
    exact k _ _ _ _ _ _ _ _ _ _ oV hc (fun z => absurd z (by decide))
  · rw [if_neg e] at k
    rw [← hgN]
    by_cases es : c < 0 ∨ ¬ c ≤ 2
    · rw [if_pos es] at k
      have kk := k cD cC cK cU cH cF fO fW fZ fC oV hc (fun z => absurd z (by decide))
      refine ⟨fun _ => Or.inr (Or.inl ⟨rfl, kk⟩), fun n1 => ⟨fun n2 => ?_, fun _ => Or.inr (Or.inl ⟨rfl, kk⟩)⟩⟩
      exfalso
      rcases es with z | z
      · exact n1 z
      · exact z n2
    · rw [if_neg es] at k
      have n1 : ¬ c < 0 := fun z => es (Or.inl z)
      have n2 : c ≤ 2 := Classical.byContradiction fun z => es (Or.inr z)
      refine br_f n1 (br_t n2 ?_)
      refine ps_ranked hg hw hc (fun e0 q cD' cC' cK' cU' cH' cF' fO' fW' fZ' fC' ea q8 hk h0 hh hq hR hI => ?_) (fun e1 cD' cC' cK' cU' cH' cF' fO' fW' fZ' fC' hI => Or.inl ⟨rfl, ?_⟩) (fun e1 cD' cC' cK' cU' cH' cF' fO' fW' fZ' fC' hI => Or.inr (Or.inl ⟨rfl, ?_⟩)) (fun e1 cD' cC' cK' cU' cH' cF' fO' fW' fZ' fC' hI => Or.inr (Or.inr (Or.inl ⟨rfl, ?_⟩)))
      · rw [if_neg (fun z => z e0)] at k
        obtain ⟨b1, b2, b3⟩ := ps_ent (cD := cD') (cU := cU') (cH := cH') (cF := cF') h6 h0 hh hR hq q8
        rw [ea, nI_clamp (show q < 2 ^ 31 by omega)] at k
        have iv : vp_in (nI (8 * cxc (G.hd 0) 0 w + q)) 841 := vp_in_nI (by omega) (by decide)
        rw [nI_clamp (show 8 * cxc (G.hd 0) 0 w + q < 2 ^ 31 by omega), b3]
        by_cases eb : b < 0 ∨ ¬ b < nI ((aC G tk w).r.f q).sz
        · rw [if_pos eb] at k
          have kk := k cD' cC' cK' cU' cH' cF' fO' fW' fZ' fC' oV hI (fun z => absurd z (by decide))
          refine ⟨fun _ => Or.inr (Or.inr (Or.inr ⟨rfl, kk⟩)), fun m1 => ⟨iv, fun m2 => ?_, fun _ => Or.inr (Or.inr (Or.inr ⟨rfl, kk⟩))⟩⟩
          exfalso
          rcases eb with z | z
          · exact m1 z
          · exact z m2
        · rw [if_neg eb] at k
          have m1 : ¬ b < 0 := fun z => eb (Or.inl z)
          have m2 : b < nI ((aC G tk w).r.f q).sz := Classical.byContradiction fun z => eb (Or.inr z)
          obtain ⟨m, hm, rfl⟩ := nI_of m1
          obtain ⟨g1, g2, g3, g4, g5⟩ := hg
          have hρ := (g5 hk).1.Rk
          have hC : ∀ x i j, i < j → G.CP ρ x (j - i) (G.T tk x i j) := fun x i j h => Gr.CP_T g1 hρ h
          have sz := (Gr.TP_w hρ hh (show w - 0 ≤ 6 by omega) ((hC (G.hd 0) 0 w h0).2.2 q hq)).2
          have sz' : ((aC G tk w).r.f q).sz ≤ 55 := sz
          have hms : m < ((aC G tk w).r.f q).sz := (nI_ltI hm (by omega)).mp m2
          rw [nI_clamp hm] at k
          refine br_f m1 ⟨iv, br_t m2 ?_⟩
          unfold v_Forest_partAt
          refine ⟨m + 1, ps_partAt hC hρ (Gr.dT_c 0 w) hR.1 (m + 1) m (G.hd 0) 0 w q ⟨hh, h0, by omega⟩ hq hms (by omega) fun x i' j' q' r' x5 hij hj6 q8' hr' eO eN => ?_⟩
          have hX := cxc_lt x5 hij hj6
          have eV : nV ((aC G tk w).r.f q) m c = if c = 0 then nI r' else if c = 1 then nI i' else nI j' := nV_s eN
          rw [eV] at k
          rw [nI_clamp (show 8 * cxc x i' j' + q' < 2 ^ 31 by omega), eO]
          refine ⟨fun z => ?_, fun z => ⟨fun z2 => ?_, fun z2 => ?_⟩⟩
          · rw [if_pos z] at k
            exact ⟨vp_in_nI (by omega) (by decide), vp_in_nI (n := 0) (by decide) (by decide), k _ _ _ _ _ _ _ _ _ _ _ hI (fun _ => oV_0)⟩
          · rw [if_neg z, if_pos z2] at k
            exact ps_fromOf x5 hij hj6 q8' ⟨vp_in_nI (n := 0) (by decide) (by decide), k _ _ _ _ _ _ _ _ _ _ _ hI (fun _ => oV_0)⟩
          · rw [if_neg z, if_neg z2] at k
            exact ps_toOf x5 hij hj6 q8' ⟨vp_in_nI (n := 0) (by decide) (by decide), k _ _ _ _ _ _ _ _ _ _ _ hI (fun _ => oV_0)⟩
      · rw [e1, if_pos (by decide)] at k; exact k _ _ _ _ _ _ _ _ _ _ _ hI (fun z => absurd z (by decide))
      · rw [e1, if_pos (by decide)] at k; exact k _ _ _ _ _ _ _ _ _ _ _ hI (fun z => absurd z (by decide))
      · rw [e1, if_pos (by decide)] at k; exact k _ _ _ _ _ _ _ _ _ _ _ hI (fun z => absurd z (by decide))
theorem m_from {x i j q : Nat} (hx : x < 5) (hij : i < j) (hj : j ≤ 6) (hq : q < 8) : (8 * mxc x i j + q) / 8 % 36 = 6 * i + (j - 1) := by unfold mxc; omega
theorem ps_Mat (hg : Ig G ρ D od gN gD gH gS gL gW gU gO mCount mHead mSize mBody mWeight mUseful) (hw : Iw w tk wL wT mFilled mRow) {mFault : Int32} {mDone mNewRule mNewSum mNewOne mNewTwo mNewThree : Int32} {mLevel : Nat → Int32} {mMany : Nat → Int64} {mKept mRule mSum mOne mTwo mThree mWritten mOut mWhose mOpen : Nat → Int32} (hm : Im G tk w mDone mMany mKept mRule mSum mOne mTwo mThree) {a b c : Int32} {post : Int32 → Int32 → Int32 → Int32 → Int32 → Int32 → Int32 → Int32 → (Nat → Int32) → (Nat → Int64) → (Nat → Int32) → (Nat → Int32) → (Nat → Int32) → (Nat → Int32) → (Nat → Int32) → (Nat → Int32) → (Nat → Int32) → (Nat → Int32) → (Nat → Int32) → (Nat → Int32) → Prop}
    (k : ∀ (v : Int32) (mDone' mNewRule' mNewSum' mNewOne' mNewTwo' mNewThree' : Int32) (mLevel' : Nat → Int32) (mMany' : Nat → Int64) (mKept' mRule' mSum' mOne' mTwo' mThree' mWritten' mOut' mWhose' mOpen' : Nat → Int32), Im G tk w mDone' mMany' mKept' mRule' mSum' mOne' mTwo' mThree' → (aA G tk w a b c = 0 → v = nV ((aC G tk w).r.f a.toNatClampNeg) b.toNatClampNeg c) → post v (aA G tk w a b c) mDone' mNewRule' mNewSum' mNewOne' mNewTwo' mNewThree' mLevel' mMany' mKept' mRule' mSum' mOne' mTwo' mThree' mWritten' mOut' mWhose' mOpen') : v_M_at a b c mFault mFilled mDone mNewRule mNewSum mNewOne mNewTwo mNewThree mCount mHead mSize mBody mWeight mUseful mLevel mRow mMany mKept mRule mSum mOne mTwo mThree mWritten mOut mWhose mOpen post := by
  have h6 := hw.1
  have hR1 : aR G tk w a = 1 ↔ G.k = 0 := by
    unfold aR
    constructor
    · intro h
      refine Classical.byContradiction fun e => ?_
      rw [if_neg e] at h
      by_cases e1 : a < 0 ∨ ¬ a < 8
      · rw [if_pos e1] at h; exact absurd h (by decide)
      · rw [if_neg e1] at h
        by_cases e2 : w = 0
        · rw [if_pos e2] at h; exact absurd h (by decide)
        · rw [if_neg e2] at h
          by_cases e3 : a.toNatClampNeg < (aC G tk w).r.n
          · rw [if_pos e3] at h; exact absurd h (by decide)
          · rw [if_neg e3] at h; exact absurd h (by decide)
    · intro h; rw [if_pos h]
  have main : ∀ f : Int32, (f = 0 ↔ (c < 0 ∨ ¬ c ≤ 2)) → v_M_at_B16 post mFilled mCount mHead mSize mBody mWeight mUseful mRow b c a f mFault mDone mNewRule mNewSum mNewOne mNewTwo mNewThree mLevel mMany mKept mRule mSum mOne mTwo mThree mWritten mOut mWhose mOpen := by
    intro f hf
    unfold v_M_at_B16
    refine ps_Mtree hg hw hm (fun e hf0 q mDone' mNewRule' mNewSum' mNewOne' mNewTwo' mNewThree' mLevel' mMany' mKept' mRule' mSum' mOne' mTwo' mThree' mWritten' mOut' mWhose' mOpen' ea q8 hk h0 hh hq hR => ?_) (fun e mDone' mNewRule' mNewSum' mNewOne' mNewTwo' mNewThree' mLevel' mMany' mKept' mRule' mSum' mOne' mTwo' mThree' mWritten' mOut' mWhose' mOpen' hI => br_f (by decide) ?_) (fun e mDone' mNewRule' mNewSum' mNewOne' mNewTwo' mNewThree' mLevel' mMany' mKept' mRule' mSum' mOne' mTwo' mThree' mWritten' mOut' mWhose' mOpen' hI => br_f (by decide) ?_) (fun e hf0 mDone' mNewRule' mNewSum' mNewOne' mNewTwo' mNewThree' mLevel' mMany' mKept' mRule' mSum' mOne' mTwo' mThree' mWritten' mOut' mWhose' mOpen' hI => br_f (by decide) ?_)
    · have es : ¬ (c < 0 ∨ ¬ c ≤ 2) := fun z => hf0 (hf.mpr z)
      unfold aA at k
      rw [if_neg (show ¬ G.k = 0 by omega), if_neg es, if_neg (fun z => z e), ea, nI_clamp (show q < 2 ^ 31 by omega)] at k
      have hX := mxc_lt hh h0 h6
      refine br_t (show nI 0 ≤ nI _ from (nI_leI (by decide) (by omega)).mpr (Nat.zero_le _)) ?_
      refine ps_wr (mDone := mDone') (mNewRule := mNewRule') (mNewSum := mNewSum') (mNewOne := mNewOne') (mNewTwo := mNewTwo') (mNewThree := mNewThree') (mLevel := mLevel') hg hw hk h0 hh hq hR fun mO mH mP hW hs => ?_
      rw [show (0 : Int32).toNatClampNeg = 0 from rfl, pk_us]
      have i0 : vp_in (0 : Int32) 2 := vp_in_nI (n := 0) (by decide) (by decide)
      by_cases eb : b < 0 ∨ ¬ b < nI ((aC G tk w).r.f q).sz
      · rw [if_pos eb] at k
        refine ⟨fun _ => k _ _ _ _ _ _ _ _ _ _ _ _ _ _ _ _ _ _ _ (fun _ => hR) (fun z => absurd z (by decide)), fun m1 => ⟨i0, fun m2 => ?_, fun _ => k _ _ _ _ _ _ _ _ _ _ _ _ _ _ _ _ _ _ _ (fun _ => hR) (fun z => absurd z (by decide))⟩⟩
        exfalso
        rcases eb with z | z
        · exact m1 z
        · exact z m2
      · rw [if_neg eb] at k
        have m1 : ¬ b < 0 := fun z => eb (Or.inl z)
        have m2 : b < nI ((aC G tk w).r.f q).sz := Classical.byContradiction fun z => eb (Or.inr z)
        obtain ⟨m, hm', rfl⟩ := nI_of m1
        have hms : m < ((aC G tk w).r.f q).sz := (nI_ltI hm' (by omega)).mp m2
        rw [nI_clamp hm'] at k
        refine br_f m1 ⟨i0, br_t m2 ?_⟩
        rw [nI_clamp hm']
        have im : vp_in (nI m) 120 := vp_in_nI (by omega) (by decide)
        obtain ⟨y, hy⟩ : ∃ y, ((aC G tk w).r.f q).nd[m]? = some y := ⟨_, List.getElem?_eq_getElem (show m < ((aC G tk w).r.f q).nd.length from hms)⟩
        obtain ⟨r', i', j'⟩ := y
        obtain ⟨w1, x, q', x5, q8', hij, hj6, w2⟩ := hW m r' i' j' hy
        rw [Nat.zero_add] at w1 w2
        have hX' := mxc_lt x5 hij hj6
        rw [nV_s hy] at k
        refine ⟨im, ?_⟩
        rw [w2, show (8 : Int32) = nI 8 from rfl, show (36 : Int32) = nI 36 from rfl, pk_div (by omega) (by decide) (by decide), pk_rem (by omega) (by decide) (by decide), m_from x5 hij hj6 q8', w1]
        intro y5 hy5
        subst hy5
        rw [show (6 : Int32) = nI 6 from rfl, pk_rem (by omega) (by decide) (by decide), pk_div (by omega) (by decide) (by decide), p_1, show (6 * i' + (j' - 1)) / 6 = i' by omega, show (6 * i' + (j' - 1)) % 6 + 1 = j' by omega]
        refine ⟨fun z => ⟨im, ?_⟩, fun z => ⟨fun z2 => ?_, fun z2 => ?_⟩⟩
        · rw [if_pos z] at k; exact k _ _ _ _ _ _ _ _ _ _ _ _ _ _ _ _ _ _ _ (fun _ => hR) (fun _ => rfl)
        · rw [if_neg z, if_pos z2] at k; exact k _ _ _ _ _ _ _ _ _ _ _ _ _ _ _ _ _ _ _ (fun _ => hR) (fun _ => rfl)
        · rw [if_neg z, if_neg z2] at k; exact k _ _ _ _ _ _ _ _ _ _ _ _ _ _ _ _ _ _ _ (fun _ => hR) (fun _ => rfl)
    · unfold aA at k
      rw [if_pos (hR1.mp e)] at k
      exact k _ _ _ _ _ _ _ _ _ _ _ _ _ _ _ _ _ _ _ hI (fun z => absurd z (by decide))
    · have hk0 : ¬ G.k = 0 := fun z => by
        have := hR1.mpr z
        rcases e with e | ⟨e, _⟩
        · rw [this] at e; exact absurd e (by decide)
        · exact e this
      unfold aA at k
      rw [if_neg hk0] at k
      by_cases es : c < 0 ∨ ¬ c ≤ 2
      · rw [if_pos es] at k
        exact k _ _ _ _ _ _ _ _ _ _ _ _ _ _ _ _ _ _ _ hI (fun z => absurd z (by decide))
      · rw [if_neg es] at k
        have e2 : aR G tk w a = 2 := by
          rcases e with e | ⟨_, e⟩
          · exact e
          · exact absurd (hf.mp e) es
        rw [e2, if_pos (by decide)] at k
        exact k _ _ _ _ _ _ _ _ _ _ _ _ _ _ _ _ _ _ _ hI (fun z => absurd z (by decide))
    · have es : ¬ (c < 0 ∨ ¬ c ≤ 2) := fun z => hf0 (hf.mpr z)
      have hk0 : ¬ G.k = 0 := fun z => by rw [hR1.mpr z] at e; exact absurd e (by decide)
      unfold aA at k
      rw [if_neg hk0, if_neg es, e, if_pos (by decide)] at k
      exact k _ _ _ _ _ _ _ _ _ _ _ _ _ _ _ _ _ _ _ hI (fun z => absurd z (by decide))
  unfold v_M_at
  refine ⟨fun z => main 0 ⟨fun _ => Or.inl z, fun _ => rfl⟩, fun z => ⟨fun z2 => main 0 ⟨fun _ => Or.inr (fun y => ?_), fun _ => rfl⟩, fun z2 => main 1 ⟨fun y => absurd y (by decide), fun y => ?_⟩⟩⟩
  · rw [Int32.lt_iff_toInt_lt] at z2; rw [Int32.le_iff_toInt_le] at y; omega
  · exfalso
    rcases y with y | y
    · exact z y
    · rw [Int32.lt_iff_toInt_lt] at z2; rw [Int32.le_iff_toInt_le] at y; omega

end TRE
