/-! What holds between the calls. -/
section INV
def It (n : Nat) (tL : Int32) (tC : Nat → Int32) (mTyped : Int32) (mText : Nat → Int32) : Prop := tL = nI n ∧ mTyped = nI n ∧ rText n tC mText
def Ig (G : Gr) (ρ : Nat → Nat) (D : Nat) (od : Nat → Nat) (gN gD : Int32) (gH gS gL gW gU gO mCount mHead mSize mBody mWeight mUseful : Nat → Int32) : Prop := G.WF ∧ G.NT ∧ gN = nI G.k ∧ mCount 0 = nI G.k ∧ (0 < G.k → G.Od ρ D od ∧ G.c gH gS gL gW ∧ G.m 0 mHead mSize mBody mWeight ∧ gD = nI D ∧ (∀ t, t < D → gO t = nI (od t)) ∧ ∀ i, i < G.k → gU i = b2 (G.us i) ∧ mUseful i = b2 (G.us i))
def Iw (w : Nat) (tk : Nat → Nat) (wL : Int32) (wT : Nat → Int32) (mFilled : Int32) (mRow : Nat → Int32) : Prop := w ≤ 6 ∧ wL = nI w ∧ mFilled = nI w ∧ ∀ t, t < w → wT t = nI (tk t) ∧ mRow t = nI (tk t) ∧ 97 ≤ tk t ∧ tk t ≤ 122
def Ic (G : Gr) (tk : Nat → Nat) (w : Nat) (cD : Int32) (cC : Nat → Int64) (cK fO fW fZ fC : Nat → Int32) : Prop := ∃ d, d ≤ w ∧ cD = nI d ∧ G.cDR (G.T tk) cC cK fO fW fZ fC (dT 0 d)
def Im (G : Gr) (tk : Nat → Nat) (w : Nat) (mDone : Int32) (mMany : Nat → Int64) (mKept mRule mSum mOne mTwo mThree : Nat → Int32) : Prop := mDone ≠ 0 → G.mDR (G.T tk) mMany mKept mRule mSum mOne mTwo mThree (dT 0 w)
def INV (tL : Int32) (tC : Nat → Int32) (rP wL : Int32) (wT : Nat → Int32) (cD : Int32) (cC : Nat → Int64) (cK cU cH cF fO fW fZ fC : Nat → Int32) (gN gD : Int32) (gH gS gL gW gU gO : Nat → Int32) (sN sD : Int32) (sH sS sL sW sU sO : Nat → Int32) (mFault mTyped mAt mFilled mDone mNewRule mNewSum mNewOne mNewTwo mNewThree : Int32) (mText mCount mHead mSize mBody mWeight mUseful mProductive mReached mLevel mRow : Nat → Int32) (mMany : Nat → Int64) (mKept mRule mSum mOne mTwo mThree mWritten mOut mWhose mOpen : Nat → Int32) (oV : Nat → Int64) : Prop := ∃ (n : Nat) (G : Gr) (ρ : Nat → Nat) (D : Nat) (od : Nat → Nat) (w : Nat) (tk : Nat → Nat), It n tL tC mTyped mText ∧ Ig G ρ D od gN gD gH gS gL gW gU gO mCount mHead mSize mBody mWeight mUseful ∧ Iw w tk wL wT mFilled mRow ∧ Ic G tk w cD cC cK fO fW fZ fC ∧ Im G tk w mDone mMany mKept mRule mSum mOne mTwo mThree
/-- both answer the same -/
theorem fin_eq {f e : Int32} {a b : Int64} {P : Prop} (h : f = e) (hab : e = 0 → a = b) (p : P) : (f = e → ((e = 0 → (vp_in (0 : Int32) 1 ∧ ((lg_cmp a b = 0 → P) ∧ (¬ lg_cmp a b = 0 → False)))) ∧ (¬ e = 0 → P))) ∧ (¬ f = e → False) :=
  ⟨fun _ => ⟨fun e0 => ⟨vp_in_nI (n := 0) (by decide) (by decide), fun _ => p, fun z => z ((lg_cmp_eq a b).mpr (hab e0))⟩, fun _ => p⟩, fun z => z h⟩
theorem eq_f {a b : Int32} {P : Prop} (h : a = b) (p : P) : (a = b → P) ∧ (¬ a = b → False) := ⟨fun _ => p, fun z => z h⟩
theorem oV_0 {oV : Nat → Int64} {v : Int64} : vp_updL oV (0 : Int32).toNatClampNeg v (0 : Int32).toNatClampNeg = v := pk_uLs
/-- entries of a table that is the same there -/
theorem Gr.ENv_cong {G : Gr} {Tb Tb' : Tab} {cx : Nat → Nat → Nat → Nat} {l i j : Nat} {o w v0 v1 v2 : Int32} {T : Tr} (h : ∀ x i' j', G.Sb l i j x i' j' → Tb x i' j' = Tb' x i' j') (e : G.ENv Tb cx l i j o w v0 v1 v2 T) : G.ENv Tb' cx l i j o w v0 v1 v2 T := by
  obtain ⟨r, a, b, c, h1, h2, h3, h4, h5, h6, c0, c1, c2⟩ := e
  have key : ∀ m v x, G.CHp Tb cx l i j r m v x → G.CHp Tb' cx l i j r m v x := by
    intro m v x hx
    rcases hx with ⟨g1, i', j', q, g2, g3, g4, g5⟩ | g
    · rw [h _ _ _ g2] at g3 g5
      exact Or.inl ⟨g1, i', j', q, g2, g3, g4, g5⟩
    · exact Or.inr g
  exact ⟨r, a, b, c, h1, h2, h3, h4, h5, h6, key 0 _ _ c0, key 1 _ _ c1, key 2 _ _ c2⟩
theorem Gr.cDR_tk {G : Gr} (hw : G.WF) {tk tk' : Nat → Nat} {d : Nat} (h : ∀ t, t < d → tk t = tk' t) {cC : Nat → Int64} {cK fO fW fZ fC : Nat → Int32} (hR : G.cDR (G.T tk) cC cK fO fW fZ fC (dT 0 d)) : G.cDR (G.T tk') cC cK fO fW fZ fC (dT 0 d) := by
  have eq : ∀ x i j, dT 0 d x i j → G.T tk x i j = G.T tk' x i j := fun x i j hd => Gr.T_tk hw hd.2.1 fun t _ h2 => h t (by have := hd.2.2; omega)
  refine ⟨fun x i j hd => ?_, fun x i j hd => ?_⟩
  · obtain ⟨g1, g2, g3, g4⟩ := hR.1 x i j hd
    refine ⟨g1, g2, g3, fun q hq => ?_⟩
    rw [← eq x i j hd] at hq ⊢
    obtain ⟨e1, e2⟩ := g4 q hq
    exact ⟨Gr.ENv_cong (fun y a b s => eq y a b (Gr.dT_c (G := G) 0 d _ _ _ _ _ _ hd s)) e1, e2⟩
  · rw [← eq x i j hd]
    exact hR.2 x i j hd
end INV
