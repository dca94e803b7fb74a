/-! The answers of both to a question about the row. -/
section QRY
variable {G : Gr} {ρ : Nat → Nat} {D : Nat} {od : Nat → Nat} {w : Nat} {tk : Nat → Nat} {gN gD : Int32} {gH gS gL gW gU gO mCount mHead mSize mBody mWeight mUseful : Nat → Int32} {wL : Int32} {wT : Nat → Int32} {mFilled : Int32} {mRow : Nat → Int32}
theorem Iw.rw1 (h : Iw w tk wL wT mFilled mRow) : ∀ t, t < w → wT t = nI (tk t) ∧ tk t < 2 ^ 31 := fun t ht => ⟨(h.2.2.2 t ht).1, by have := (h.2.2.2 t ht).2.2.2; omega⟩
theorem Iw.rw2 (h : Iw w tk wL wT mFilled mRow) : ∀ t, t < w → mRow t = nI (tk t) ∧ tk t < 2 ^ 31 := fun t ht => ⟨(h.2.2.2 t ht).2.1, by have := (h.2.2.2 t ht).2.2.2; omega⟩
theorem Ic.all {cD : Int32} {cC : Nat → Int64} {cK cU cH cF fO fW fZ fC : Nat → Int32} (h : G.cDR (G.T tk) cC cK fO fW fZ fC (dT 0 w)) : Ic G tk w (nI w) cC cK fO fW fZ fC := ⟨w, Nat.le_refl _, rfl, h⟩
theorem ps_compl (hg : Ig G ρ D od gN gD gH gS gL gW gU gO mCount mHead mSize mBody mWeight mUseful) (hk : 0 < G.k) (hw : Iw w tk wL wT mFilled mRow) {cD : Int32} {cC : Nat → Int64} {cK cU cH cF fO fW fZ fC : Nat → Int32} (hc : Ic G tk w cD cC cK fO fW fZ fC) {post : Int32 → (Nat → Int64) → (Nat → Int32) → (Nat → Int32) → (Nat → Int32) → (Nat → Int32) → (Nat → Int32) → (Nat → Int32) → (Nat → Int32) → (Nat → Int32) → Prop}
    (k : ∀ (cC' : Nat → Int64) (cK' cU' cH' cF' fO' fW' fZ' fC' : Nat → Int32), G.cDR (G.T tk) cC' cK' fO' fW' fZ' fC' (dT 0 w) → post (nI w) cC' cK' cU' cH' cF' fO' fW' fZ' fC') : v_Chart_complete cD cC cK cU cH cF wL wT fO fW fZ fC gD gH gS gL gW gO post := by
  obtain ⟨g1, g2, g3, g4, g5⟩ := hg
  obtain ⟨h1, h2, h3, h4, h5, h6⟩ := g5 hk
  obtain ⟨d, d1, d2, d3⟩ := hc
  rw [d2, hw.2.1, h4]
  exact ps_complete g1 g2 h1 h2 h5 d1 hw.1 hw.rw1 d3 k
theorem ps_start (hg : Ig G ρ D od gN gD gH gS gL gW gU gO mCount mHead mSize mBody mWeight mUseful) (hk : 0 < G.k) (hw : Iw w tk wL wT mFilled mRow) (h0 : 0 < w) {post : Int32 → Prop} (k : G.hd 0 < 5 → post (nI (cxc (G.hd 0) 0 w))) : v_RT_startCell wL gH post := by
  obtain ⟨g1, g2, g3, g4, g5⟩ := hg
  obtain ⟨h1, h2, h3, h4, h5, h6⟩ := g5 hk
  have hh := (g1.2 0 hk).1
  unfold v_RT_startCell
  rw [show (0 : Int32).toNatClampNeg = 0 from rfl, (h2 0 hk).1, hw.2.1]
  exact ⟨vp_in_nI (n := 0) (by decide) (by decide), ps_cellOf (i := 0) hh h0 hw.1 (k hh)⟩
theorem ps_mwk (hg : Ig G ρ D od gN gD gH gS gL gW gU gO mCount mHead mSize mBody mWeight mUseful) (hk : 0 < G.k) (hw : Iw w tk wL wT mFilled mRow) {mDone mNewRule mNewSum mNewOne mNewTwo mNewThree : Int32} {mLevel : Nat → Int32} {mMany : Nat → Int64} {mKept mRule mSum mOne mTwo mThree mWritten mOut mWhose mOpen : Nat → Int32} (hm : Im G tk w mDone mMany mKept mRule mSum mOne mTwo mThree) {post : Int32 → Int32 → Int32 → Int32 → Int32 → Int32 → (Nat → Int32) → (Nat → Int64) → (Nat → Int32) → (Nat → Int32) → (Nat → Int32) → (Nat → Int32) → (Nat → Int32) → (Nat → Int32) → (Nat → Int32) → (Nat → Int32) → (Nat → Int32) → (Nat → Int32) → Prop}
    (k : ∀ (mDone' mNewRule' mNewSum' mNewOne' mNewTwo' mNewThree' : Int32) (mLevel' : Nat → Int32) (mMany' : Nat → Int64) (mKept' mRule' mSum' mOne' mTwo' mThree' mWritten' mOut' mWhose' mOpen' : Nat → Int32), G.mDR (G.T tk) mMany' mKept' mRule' mSum' mOne' mTwo' mThree' (dT 0 w) → post mDone' mNewRule' mNewSum' mNewOne' mNewTwo' mNewThree' mLevel' mMany' mKept' mRule' mSum' mOne' mTwo' mThree' mWritten' mOut' mWhose' mOpen') : v_M_work mFilled mDone mNewRule mNewSum mNewOne mNewTwo mNewThree mCount mHead mSize mBody mWeight mUseful mLevel mRow mMany mKept mRule mSum mOne mTwo mThree mWritten mOut mWhose mOpen post := by
  obtain ⟨g1, g2, g3, g4, g5⟩ := hg
  obtain ⟨h1, h2, h3, h4, h5, h6⟩ := g5 hk
  rw [hw.2.2.1]
  exact ps_mwork g1 h1.Rk h3 g4 (fun i hi => (h6 i hi).2) hw.1 hw.rw2 hm k
/-! trees -/
noncomputable def aT (G : Gr) (tk : Nat → Nat) (w : Nat) : Int32 × Int64 := if G.k = 0 then (1, 0) else if w = 0 then (0, 0) else (0, lN (G.T tk (G.hd 0) 0 w).c)
theorem ps_Ltrees (hg : Ig G ρ D od gN gD gH gS gL gW gU gO mCount mHead mSize mBody mWeight mUseful) (hw : Iw w tk wL wT mFilled mRow) {cD : Int32} {cC : Nat → Int64} {cK cU cH cF fO fW fZ fC : Nat → Int32} (hc : Ic G tk w cD cC cK fO fW fZ fC) {oV : Nat → Int64} {post : Int32 → Int32 → (Nat → Int64) → (Nat → Int32) → (Nat → Int32) → (Nat → Int32) → (Nat → Int32) → (Nat → Int32) → (Nat → Int32) → (Nat → Int32) → (Nat → Int32) → (Nat → Int64) → Prop}
    (k : ∀ (cD' : Int32) (cC' : Nat → Int64) (cK' cU' cH' cF' fO' fW' fZ' fC' : Nat → Int32) (oV' : Nat → Int64), Ic G tk w cD' cC' cK' fO' fW' fZ' fC' → ((aT G tk w).1 = 0 → oV' (0 : Int32).toNatClampNeg = (aT G tk w).2) → post (aT G tk w).1 cD' cC' cK' cU' cH' cF' fO' fW' fZ' fC' oV') : v_Law_trees wL wT cD cC cK cU cH cF fO fW fZ fC gN gD gH gS gL gW gO oV post := by
  have hk14 := hg.1.1
  unfold v_Law_trees v_RT_trees v_RT_needGrammar
  rw [hg.2.2.1]
  unfold aT at k
  refine p_eq (b := 0) (by omega) (by decide) (fun e => ⟨rfl, ?_⟩) (fun e => ?_)
  · rw [if_pos e] at k
    exact k _ _ _ _ _ _ _ _ _ _ oV hc (fun z => absurd z (by decide))
  · rw [if_neg e] at k
    have h6 := hw.1
    have e' := hw.2.1
    refine ⟨fun z => ⟨vp_in_nI (n := 0) (by decide) (by decide), ?_⟩, fun z => ?_⟩
    · have w0 : w = 0 := by rw [e'] at z; exact (p_eq0 (by omega)).mp z
      rw [if_pos w0] at k
      exact k _ _ _ _ _ _ _ _ _ _ _ hc (fun _ => oV_0)
    · have w0 : ¬ w = 0 := fun y => z (by rw [e', y]; rfl)
      rw [if_neg w0] at k
      refine ps_compl hg (by omega) hw hc fun cC' cK' cU' cH' cF' fO' fW' fZ' fC' hR => ?_
      refine ps_start hg (by omega) hw (by omega) fun hh => ?_
      have hX := cxc_lt hh (show 0 < w by omega) h6
      rw [nI_clamp (show cxc (G.hd 0) 0 w < 2 ^ 31 by omega)]
      refine ⟨vp_in_nI hX (by decide), vp_in_nI (n := 0) (by decide) (by decide), k _ _ _ _ _ _ _ _ _ _ _ (Ic.all (cD := cD) (cU := cU) (cH := cH) (cF := cF) hR) (fun _ => ?_)⟩
      rw [oV_0]
      exact (hR.2 (G.hd 0) 0 w ⟨hh, by omega, by omega⟩).1
theorem ps_mwhole (hg : Ig G ρ D od gN gD gH gS gL gW gU gO mCount mHead mSize mBody mWeight mUseful) (hk : 0 < G.k) (hw : Iw w tk wL wT mFilled mRow) (h0 : 0 < w) {post : Int32 → Prop} (k : G.hd 0 < 5 → post (nI (mxc (G.hd 0) 0 w))) : v_M_whole mFilled mHead post := by
  obtain ⟨g1, g2, g3, g4, g5⟩ := hg
  obtain ⟨h1, h2, h3, h4, h5, h6⟩ := g5 hk
  have hh := (g1.2 0 hk).1
  have eH : mHead 0 = nI (G.hd 0) := (h3 0 hk).1
  unfold v_M_whole
  rw [show (0 : Int32).toNatClampNeg = 0 from rfl, eH, hw.2.2.1, show (36 : Int32) = nI 36 from rfl, pk_mul, nI_add, p_s1 (by omega)]
  have := k hh
  unfold mxc at this
  exact ⟨vp_in_nI (n := 0) (by decide) (by decide), this⟩
theorem ps_Mtrees (hg : Ig G ρ D od gN gD gH gS gL gW gU gO mCount mHead mSize mBody mWeight mUseful) (hw : Iw w tk wL wT mFilled mRow) {mFault : Int32} {mDone mNewRule mNewSum mNewOne mNewTwo mNewThree : Int32} {mLevel : Nat → Int32} {mMany : Nat → Int64} {mKept mRule mSum mOne mTwo mThree mWritten mOut mWhose mOpen : Nat → Int32} (hm : Im G tk w mDone mMany mKept mRule mSum mOne mTwo mThree) {post : Int64 → Int32 → Int32 → Int32 → Int32 → Int32 → Int32 → Int32 → (Nat → Int32) → (Nat → Int64) → (Nat → Int32) → (Nat → Int32) → (Nat → Int32) → (Nat → Int32) → (Nat → Int32) → (Nat → Int32) → (Nat → Int32) → (Nat → Int32) → (Nat → Int32) → (Nat → Int32) → Prop}
    (k : ∀ (v : Int64) (mDone' mNewRule' mNewSum' mNewOne' mNewTwo' mNewThree' : Int32) (mLevel' : Nat → Int32) (mMany' : Nat → Int64) (mKept' mRule' mSum' mOne' mTwo' mThree' mWritten' mOut' mWhose' mOpen' : Nat → Int32), Im G tk w mDone' mMany' mKept' mRule' mSum' mOne' mTwo' mThree' → ((aT G tk w).1 = 0 → v = (aT G tk w).2) → post v (aT G tk w).1 mDone' mNewRule' mNewSum' mNewOne' mNewTwo' mNewThree' mLevel' mMany' mKept' mRule' mSum' mOne' mTwo' mThree' mWritten' mOut' mWhose' mOpen') : v_M_trees mFault mFilled mDone mNewRule mNewSum mNewOne mNewTwo mNewThree mCount mHead mSize mBody mWeight mUseful mLevel mRow mMany mKept mRule mSum mOne mTwo mThree mWritten mOut mWhose mOpen post := by
  have hk14 := hg.1.1
  have h6 := hw.1
  have e' := hw.2.2.1
  unfold v_M_trees
  rw [show (0 : Int32).toNatClampNeg = 0 from rfl, hg.2.2.2.1]
  unfold aT at k
  refine ⟨vp_in_nI (n := 0) (by decide) (by decide), p_eq (b := 0) (by omega) (by decide) (fun e => ?_) (fun e => ?_)⟩
  · rw [if_pos e] at k
    unfold v_M_trees_B15
    exact br_t (by decide) (k _ _ _ _ _ _ _ _ _ _ _ _ _ _ _ _ _ _ _ hm (fun z => absurd z (by decide)))
  · rw [if_neg e] at k
    unfold v_M_trees_B15
    refine br_f (by decide) ⟨fun z => ?_, fun z => ?_⟩
    · have w0 : w = 0 := by rw [e'] at z; exact (p_eq0 (by omega)).mp z
      rw [if_pos w0] at k
      exact k _ _ _ _ _ _ _ _ _ _ _ _ _ _ _ _ _ _ _ hm (fun _ => rfl)
    · have w0 : ¬ w = 0 := fun y => z (by rw [e', y]; rfl)
      rw [if_neg w0] at k
      refine ps_mwk hg (by omega) hw hm fun mDone' mNewRule' mNewSum' mNewOne' mNewTwo' mNewThree' mLevel' mMany' mKept' mRule' mSum' mOne' mTwo' mThree' mWritten' mOut' mWhose' mOpen' hR => ?_
      refine ps_mwhole hg (by omega) hw (by omega) fun hh => ?_
      have hX := mxc_lt hh (show 0 < w by omega) h6
      rw [nI_clamp (show mxc (G.hd 0) 0 w < 2 ^ 31 by omega)]
      exact ⟨vp_in_nI hX (by decide), k _ _ _ _ _ _ _ _ _ _ _ _ _ _ _ _ _ _ _ (fun _ => hR) (fun _ => (hR.2 (G.hd 0) 0 w ⟨hh, by omega, by omega⟩).1)⟩
/-! ways -/
noncomputable def aW (G : Gr) (tk : Nat → Nat) (w c : Nat) (a b : Int32) : Int32 × Int64 := if G.k = 0 then (1, 0) else if ¬ (65 ≤ c ∧ c ≤ 69) then (2, 0) else if a < 0 ∨ nI w < b ∨ ¬ a < b then (3, 0) else (0, lN (G.T tk (c - 65) a.toNatClampNeg b.toNatClampNeg).c)
/-- a good span -/
theorem span_ok {w : Nat} (hw : w ≤ 6) {a b : Int32} (h : ¬ (a < 0 ∨ nI w < b ∨ ¬ a < b)) : ∃ i j, a = nI i ∧ b = nI j ∧ i < j ∧ j ≤ w := by
  have h1 : ¬ a < 0 := fun z => h (Or.inl z)
  have h2 : ¬ nI w < b := fun z => h (Or.inr (Or.inl z))
  have h3 : a < b := Classical.byContradiction fun z => h (Or.inr (Or.inr z))
  obtain ⟨i, hi, rfl⟩ := nI_of h1
  have h4 : ¬ b < 0 := fun z => by
    rw [Int32.lt_iff_toInt_lt] at h3 z
    rw [nI_toInt hi] at h3
    have : (0 : Int32).toInt = 0 := by decide
    omega
  obtain ⟨j, hj, rfl⟩ := nI_of h4
  exact ⟨i, j, rfl, rfl, (nI_ltI hi hj).mp h3, Nat.le_of_not_lt fun z => h2 ((nI_ltI (by omega) hj).mpr z)⟩
theorem ps_Lways (hg : Ig G ρ D od gN gD gH gS gL gW gU gO mCount mHead mSize mBody mWeight mUseful) (hw : Iw w tk wL wT mFilled mRow) {cD : Int32} {cC : Nat → Int64} {cK cU cH cF fO fW fZ fC : Nat → Int32} (hc : Ic G tk w cD cC cK fO fW fZ fC) {oV : Nat → Int64} {c : Nat} (hc16 : c < 65536) {a b : Int32} {post : Int32 → Int32 → (Nat → Int64) → (Nat → Int32) → (Nat → Int32) → (Nat → Int32) → (Nat → Int32) → (Nat → Int32) → (Nat → Int32) → (Nat → Int32) → (Nat → Int32) → (Nat → Int64) → Prop}
    (k : ∀ (cD' : Int32) (cC' : Nat → Int64) (cK' cU' cH' cF' fO' fW' fZ' fC' : Nat → Int32) (oV' : Nat → Int64), Ic G tk w cD' cC' cK' fO' fW' fZ' fC' → ((aW G tk w c a b).1 = 0 → oV' (0 : Int32).toNatClampNeg = (aW G tk w c a b).2) → post (aW G tk w c a b).1 cD' cC' cK' cU' cH' cF' fO' fW' fZ' fC' oV') : v_Law_ways (nI c) a b wL wT cD cC cK cU cH cF fO fW fZ fC gN gD gH gS gL gW gO oV post := by
  have hk14 := hg.1.1
  have h6 := hw.1
  unfold v_Law_ways v_RT_ways v_RT_needGrammar
  rw [hg.2.2.1]
  unfold aW at k
  refine p_eq (b := 0) (by omega) (by decide) (fun e => Or.inl ⟨rfl, ?_⟩) (fun e => ?_)
  · rw [if_pos e] at k
    exact k _ _ _ _ _ _ _ _ _ _ oV hc (fun z => absurd z (by decide))
  · rw [if_neg e] at k
    by_cases el : 65 ≤ c ∧ c ≤ 69
    · rw [if_neg (fun z => z el)] at k
      rw [show c = 65 + (c - 65) by omega]
      refine ps_isLetter_t (by omega) (br_f (by decide) ?_)
      by_cases es : a < 0 ∨ nI w < b ∨ ¬ a < b
      · rw [if_pos es] at k
        have kk := k cD cC cK cU cH cF fO fW fZ fC oV hc (fun z => absurd z (by decide))
        rw [hw.2.1]
        refine ⟨fun _ => Or.inr (Or.inr ⟨rfl, kk⟩), fun n1 => ⟨fun _ => Or.inr (Or.inr ⟨rfl, kk⟩), fun n2 => ⟨fun n3 => ?_, fun _ => Or.inr (Or.inr ⟨rfl, kk⟩)⟩⟩⟩
        rcases es with z | z | z
        · exact absurd z n1
        · exact absurd z n2
        · exact absurd n3 z
      · rw [if_neg es] at k
        obtain ⟨i, j, rfl, rfl, hij, hjw⟩ := span_ok h6 es
        rw [nI_clamp (show i < 2 ^ 31 by omega), nI_clamp (show j < 2 ^ 31 by omega)] at k
        refine br_f (fun z => es (Or.inl z)) (br_f (fun z => es (Or.inr (Or.inl (by rw [hw.2.1] at z; exact z)))) (br_t ((nI_ltI (by omega) (by omega)).mpr hij) ?_))
        refine ps_compl hg (by omega) hw hc fun cC' cK' cU' cH' cF' fO' fW' fZ' fC' hR => ?_
        refine ps_cellOf (by omega) hij (by omega) ?_
        have hX := cxc_lt (show c - 65 < 5 by omega) hij (show j ≤ 6 by omega)
        rw [nI_clamp (show cxc (c - 65) i j < 2 ^ 31 by omega)]
        refine ⟨vp_in_nI hX (by decide), vp_in_nI (n := 0) (by decide) (by decide), k _ _ _ _ _ _ _ _ _ _ _ (Ic.all (cD := cD) (cU := cU) (cH := cH) (cF := cF) hR) (fun _ => ?_)⟩
        rw [oV_0]
        exact (hR.2 (c - 65) i j ⟨by omega, hij, by omega⟩).1
    · rw [if_pos el] at k
      refine ps_isLetter_f (by omega) (by omega) (br_t rfl (Or.inr (Or.inl ⟨rfl, ?_⟩)))
      exact k _ _ _ _ _ _ _ _ _ _ oV hc (fun z => absurd z (by decide))
theorem ps_mIsL {c : Nat} (hc : c < 65536) {post : Int32 → Prop} (k1 : 65 ≤ c ∧ c ≤ 69 → post 1) (k0 : ¬ (65 ≤ c ∧ c ≤ 69) → post 0) : v_M_isLetter (nI c) post := by
  unfold v_M_isLetter
  refine p_lt (b := 65) (by omega) (by decide) (fun z => k0 (by omega)) (fun z => p_lt (a := 69) (by decide) (by omega) (fun y => k0 (by omega)) (fun y => k1 (by omega)))
theorem ps_Mways (hg : Ig G ρ D od gN gD gH gS gL gW gU gO mCount mHead mSize mBody mWeight mUseful) (hw : Iw w tk wL wT mFilled mRow) {mFault : Int32} {mDone mNewRule mNewSum mNewOne mNewTwo mNewThree : Int32} {mLevel : Nat → Int32} {mMany : Nat → Int64} {mKept mRule mSum mOne mTwo mThree mWritten mOut mWhose mOpen : Nat → Int32} (hm : Im G tk w mDone mMany mKept mRule mSum mOne mTwo mThree) {c : Nat} (hc16 : c < 65536) {a b : Int32} {post : Int64 → Int32 → Int32 → Int32 → Int32 → Int32 → Int32 → Int32 → (Nat → Int32) → (Nat → Int64) → (Nat → Int32) → (Nat → Int32) → (Nat → Int32) → (Nat → Int32) → (Nat → Int32) → (Nat → Int32) → (Nat → Int32) → (Nat → Int32) → (Nat → Int32) → (Nat → Int32) → Prop}
    (k : ∀ (v : Int64) (mDone' mNewRule' mNewSum' mNewOne' mNewTwo' mNewThree' : Int32) (mLevel' : Nat → Int32) (mMany' : Nat → Int64) (mKept' mRule' mSum' mOne' mTwo' mThree' mWritten' mOut' mWhose' mOpen' : Nat → Int32), Im G tk w mDone' mMany' mKept' mRule' mSum' mOne' mTwo' mThree' → ((aW G tk w c a b).1 = 0 → v = (aW G tk w c a b).2) → post v (aW G tk w c a b).1 mDone' mNewRule' mNewSum' mNewOne' mNewTwo' mNewThree' mLevel' mMany' mKept' mRule' mSum' mOne' mTwo' mThree' mWritten' mOut' mWhose' mOpen') : v_M_ways (nI c) a b mFault mFilled mDone mNewRule mNewSum mNewOne mNewTwo mNewThree mCount mHead mSize mBody mWeight mUseful mLevel mRow mMany mKept mRule mSum mOne mTwo mThree mWritten mOut mWhose mOpen post := by
  have hk14 := hg.1.1
  have h6 := hw.1
  have e' := hw.2.2.1
  unfold v_M_ways
  rw [show (0 : Int32).toNatClampNeg = 0 from rfl, hg.2.2.2.1]
  unfold aW at k
  refine ⟨vp_in_nI (n := 0) (by decide) (by decide), p_eq (b := 0) (by omega) (by decide) (fun e => ?_) (fun e => ?_)⟩
  · rw [if_pos e] at k
    unfold v_M_ways_B47
    exact br_f (by decide) (k _ _ _ _ _ _ _ _ _ _ _ _ _ _ _ _ _ _ _ hm (fun z => absurd z (by decide)))
  · rw [if_neg e] at k
    refine ps_mIsL hc16 (fun el => br_f (by decide) ?_) (fun el => br_t rfl ?_)
    · rw [if_neg (fun z => z el)] at k
      by_cases es : a < 0 ∨ nI w < b ∨ ¬ a < b
      · rw [if_pos es] at k
        have kk : v_M_ways_B47 post mFilled mCount mHead mSize mBody mWeight mUseful mRow (nI c) a b (3 : Int32) mDone mNewRule mNewSum mNewOne mNewTwo mNewThree mLevel mMany mKept mRule mSum mOne mTwo mThree mWritten mOut mWhose mOpen := by
          unfold v_M_ways_B47
          exact br_f (by decide) (k _ _ _ _ _ _ _ _ _ _ _ _ _ _ _ _ _ _ _ hm (fun z => absurd z (by decide)))
        rw [e']
        rw [e'] at kk
        refine ⟨fun _ => kk, fun n1 => ⟨fun _ => kk, fun n2 => ⟨fun n3 => ?_, fun _ => kk⟩⟩⟩
        rcases es with z | z | z
        · exact absurd z n1
        · rw [Int32.lt_iff_toInt_lt] at z; rw [Int32.le_iff_toInt_le] at n3; omega
        · rw [Int32.lt_iff_toInt_lt] at z; rw [Int32.le_iff_toInt_le] at n2; omega
      · rw [if_neg es] at k
        obtain ⟨i, j, rfl, rfl, hij, hjw⟩ := span_ok h6 es
        rw [nI_clamp (show i < 2 ^ 31 by omega), nI_clamp (show j < 2 ^ 31 by omega)] at k
        refine br_f (fun z => es (Or.inl z)) (br_f (fun z => by have := (nI_leI (by omega) (by omega)).mp z; omega) (br_t (by rw [e']; exact (nI_leI (by omega) (by omega)).mpr hjw) ?_))
        unfold v_M_ways_B47
        refine br_t (by decide) ?_
        refine ps_mwk hg (by omega) hw hm fun mDone' mNewRule' mNewSum' mNewOne' mNewTwo' mNewThree' mLevel' mMany' mKept' mRule' mSum' mOne' mTwo' mThree' mWritten' mOut' mWhose' mOpen' hR => ?_
        have hX := mxc_lt (show c - 65 < 5 by omega) hij (show j ≤ 6 by omega)
        rw [p_sub65 (show c = 65 + (c - 65) by omega), p_mx hij, nI_clamp (show mxc (c - 65) i j < 2 ^ 31 by omega)]
        exact ⟨vp_in_nI hX (by decide), k _ _ _ _ _ _ _ _ _ _ _ _ _ _ _ _ _ _ _ (fun _ => hR) (fun _ => (hR.2 (c - 65) i j ⟨by omega, hij, by omega⟩).1)⟩
    · rw [if_pos el] at k
      unfold v_M_ways_B47
      exact br_f (by decide) (k _ _ _ _ _ _ _ _ _ _ _ _ _ _ _ _ _ _ _ hm (fun z => absurd z (by decide)))

end QRY
