/-! The model applies a rule to a span. -/
section MAP
variable {G : Gr} {Tb : Tab} {ρ : Nat → Nat} {D : Nat → Nat → Nat → Prop} {tk : Nat → Nat}
/-- these cells of the model are right -/
def Gr.mDR (G : Gr) (Tb : Tab) (mMany : Nat → Int64) (mKept fR fS f1 f2 f3 : Nat → Int32) (D : Nat → Nat → Nat → Prop) : Prop := G.mER Tb fR fS f1 f2 f3 D ∧ ∀ x i j, D x i j → mMany (mxc x i j) = lN (Tb x i j).c ∧ mKept (mxc x i j) = nI (Tb x i j).r.n
theorem Gr.mDR_fr (hC : ∀ x i j, i < j → G.CP ρ x (j - i) (Tb x i j)) {l i j : Nat} (hij : i < j) (hj : j ≤ 6) (hnD : ¬ D l i j) {mMany mMany' : Nat → Int64} {mKept fR fS f1 f2 f3 mKept' gR gS g1 g2 g3 : Nat → Int32} (hR : G.mDR Tb mMany mKept fR fS f1 f2 f3 D) (hc : ∀ y, y ≠ mxc l i j → mMany' y = mMany y) (h : mFr (mxc l i j) mKept fR fS f1 f2 f3 mKept' gR gS g1 g2 g3) : G.mDR Tb mMany' mKept' gR gS g1 g2 g3 D := by
  refine ⟨Gr.mER_fr hC hij hj hnD hR.1 h, fun x i' j' hx => ?_⟩
  obtain ⟨g1, g2, g3, -⟩ := hR.1 x i' j' hx
  have ne : mxc x i' j' ≠ mxc l i j := fun z => by
    obtain ⟨z1, z2, z3⟩ := mxc_inj g2 g3 hij hj z
    rw [z1, z2, z3] at hx
    exact hnD hx
  rw [hc _ ne, h.1 _ ne]
  exact hR.2 x i' j' hx
/-- the cell of letter l is S, the rest as at the start -/
def Gr.mSt (G : Gr) (Tb : Tab) (l i j : Nat) (S : Cell) (mM0 : Nat → Int64) (mK0 hR hS h1 h2 h3 : Nat → Int32) (mMany : Nat → Int64) (mKept fR fS f1 f2 f3 : Nat → Int32) : Prop :=
  mMany (mxc l i j) = lN S.c ∧ G.mNow Tb l i j S.r mKept fR fS f1 f2 f3 ∧ (∀ y, y ≠ mxc l i j → mMany y = mM0 y) ∧ mFr (mxc l i j) mK0 hR hS h1 h2 h3 mKept fR fS f1 f2 f3
theorem ps_mdivide (hw : G.WF) (hρ : G.Rk ρ) (hC : ∀ x i j, i < j → G.CP ρ x (j - i) (Tb x i j)) (hD : G.Dc D) {mHead mSize mBody mWeight mRow : Nat → Int32} (hg : G.m 0 mHead mSize mBody mWeight)
    {mMany : Nat → Int64} {mKept mRule mSum mOne mTwo mThree mW mO mH mP : Nat → Int32} (hR : G.mDR Tb mMany mKept mRule mSum mOne mTwo mThree D)
    {l i j r p q : Nat} (hl : l < 5) (hij : i < j) (hj : j ≤ 6) (hnD : ¬ D l i j) (hS : ∀ x a b, G.Sb l i j x a b → D x a b) (hr : r < G.k) (hru : G.us r = true) (hrl : G.hd r = l) (hs : G.sp r i j p q) (hwT : ∀ t, i ≤ t → t < j → mRow t = nI (tk t) ∧ tk t < 2 ^ 31)
    {S : Cell} (hSc : G.CP ρ l (j - i) S) (hcS : mMany (mxc l i j) = lN S.c) (hN : G.mNow Tb l i j S.r mKept mRule mSum mOne mTwo mThree) {m0 m1 m2 m3 m4 : Int32}
    {post : Int32 → Int32 → Int32 → Int32 → Int32 → (Nat → Int64) → (Nat → Int32) → (Nat → Int32) → (Nat → Int32) → (Nat → Int32) → (Nat → Int32) → (Nat → Int32) → (Nat → Int32) → (Nat → Int32) → (Nat → Int32) → (Nat → Int32) → Prop}
    (k : ∀ (n0 n1 n2 n3 n4 : Int32) (mMany' : Nat → Int64) (mK gR gS g1 g2 g3 mW mO mH mP : Nat → Int32), mMany' (mxc l i j) = lN (G.jr tk Tb r i j p q S).c → (∀ y, y ≠ mxc l i j → mMany' y = mMany y) → G.mNow Tb l i j (G.jr tk Tb r i j p q S).r mK gR gS g1 g2 g3 → mFr (mxc l i j) mKept mRule mSum mOne mTwo mThree mK gR gS g1 g2 g3 → post n0 n1 n2 n3 n4 mMany' mK gR gS g1 g2 g3 mW mO mH mP) :
    v_M_divide (nI r) (nI i) (nI p) (nI q) (nI j) m0 m1 m2 m3 m4 mHead mSize mBody mWeight mRow mMany mKept mRule mSum mOne mTwo mThree mW mO mH mP post := by
  obtain ⟨wh, w1, w3, wwt, wsy⟩ := hw.2 r hr
  have hk := hw.1
  have hX := mxc_lt hl hij hj
  obtain ⟨eH, eZ, eWt, eB⟩ := hg r hr
  rw [Nat.zero_add] at eH eZ eWt
  have eB' : ∀ m, m < G.ln r → mBody (3 * r + m) = nI (G.sy r m) := fun m hm => by have := eB m hm; rwa [Nat.zero_add] at this
  obtain ⟨s0, s1, s2⟩ := Gr.pc_sub hw hr hru hij hs
  rw [hrl] at s0 s1 s2
  have jrc : (G.jr tk Tb r i j p q S).c = S.c + (G.pc tk Tb r 0 i (if G.ln r = 1 then j else p)).c * (G.pc tk Tb r 1 p (if G.ln r = 2 then j else q)).c * (G.pc tk Tb r 2 q j).c := rfl
  have ie0 : i < (if G.ln r = 1 then j else p) ∧ (if G.ln r = 1 then j else p) ≤ 6 := by
    rcases hs with e | ⟨e, t1, t2⟩ | ⟨e, t1, t2, t3⟩
    · rw [if_pos e]; exact ⟨hij, hj⟩
    · rw [if_neg (by omega)]; exact ⟨t1, by omega⟩
    · rw [if_neg (by omega)]; exact ⟨t1, by omega⟩
  have pe1 : 2 ≤ G.ln r → i ≤ p ∧ p < (if G.ln r = 2 then j else q) ∧ (if G.ln r = 2 then j else q) ≤ j := fun z => by
    rcases hs with e | ⟨e, t1, t2⟩ | ⟨e, t1, t2, t3⟩
    · omega
    · rw [if_pos e]; exact ⟨by omega, t2, Nat.le_refl _⟩
    · rw [if_neg (by omega)]; exact ⟨by omega, t2, by omega⟩
  have qj : 3 ≤ G.ln r → i ≤ q ∧ q < j := fun z => by
    rcases hs with e | ⟨e, t1, t2⟩ | ⟨e, t1, t2, t3⟩
    · omega
    · omega
    · exact ⟨by omega, t3⟩
  unfold v_M_divide
  rw [nI_clamp (show r < 2 ^ 31 by omega), eH, hrl, p_mx hij, eZ]
  refine ⟨vp_in_nI (by omega) (by decide), ?_⟩
  intro y6 hy6
  subst hy6
  refine ⟨vp_in_nI (by omega) (by decide), ?_⟩
  intro y7 hy7
  subst hy7
  rw [show (3 : Int32) * nI r = nI (3 * r) by rw [show (3 : Int32) = nI 3 from rfl, pk_mul], nI_clamp (show 3 * r < 2 ^ 31 by omega), show mBody (3 * r) = nI (G.sy r 0) from eB' 0 (by omega)]
  refine ⟨vp_in_nI (by omega) (by decide), ?_⟩
  intro y8 hy8
  subst hy8
  -- from the symbols on
  have go : ∀ x9 x10 : Int32, (2 ≤ G.ln r → x9 = nI (G.sy r 1)) → (3 ≤ G.ln r → x10 = nI (G.sy r 2)) → v_M_divide_B83 post mWeight mRow (nI r) (nI i) (nI p) (nI q) (nI j) (nI (mxc l i j)) (nI (G.ln r)) (nI (G.sy r 0)) x9 x10 m0 m1 m2 m3 m4 mMany mKept mRule mSum mOne mTwo mThree mW mO mH mP := by
    intro x9 x10 h9 h10
    have g2 : ∀ e0 e1 : Nat, e0 = (if G.ln r = 1 then j else p) → e1 = (if G.ln r = 2 then j else q) → v_M_divide_B112 post mWeight mRow (nI r) (nI i) (nI p) (nI q) (nI j) (nI (mxc l i j)) (nI (G.ln r)) (nI (G.sy r 0)) x9 x10 (nI e0) (nI e1) m0 m1 m2 m3 m4 mMany mKept mRule mSum mOne mTwo mThree mW mO mH mP := by
      intro e0 e1 he0 he1
      rw [← he0] at s0 ie0 jrc
      rw [← he1] at s1 pe1 jrc
      -- the loops
      have g5 : ∀ (M' : Nat → Int64), M' = vp_updL mMany (mxc l i j) (lN (G.jr tk Tb r i j p q S).c) → ∃ n, v_M_divide_L245 post mWeight (nI r) (nI i) (nI p) (nI q) (nI j) (nI (mxc l i j)) (nI (G.ln r)) (nI (G.sy r 0)) x9 x10 (nI e0) (nI e1) (nI (G.pc tk Tb r 0 i e0).r.n) (nI (G.pc tk Tb r 1 p e1).r.n) (nI (G.pc tk Tb r 2 q j).r.n) M' n (0 : Int32) m0 m1 m2 m3 m4 mKept mRule mSum mOne mTwo mThree mW mO mH mP := by
        intro M' hM'
        refine ps_mloops hw hρ hC hD hR.1 hl hij hj hnD hS hr hru hrl hs he0 he1 eWt h9 h10 hSc.1 hSc.2.2 hN (fun n0 n1 n2 n3 n4 mK gR gS g1 g2 g3 mW mO mH mP z1 z2 => k n0 n1 n2 n3 n4 M' mK gR gS g1 g2 g3 mW mO mH mP ?_ ?_ ?_ z2) m0 m1 m2 m3 m4 mW mO mH mP
        · rw [hM']; exact pk_uLs
        · intro y hy; rw [hM']; exact pk_uLn hy
        · unfold Gr.jr
          rw [← he0, ← he1]
          exact z1
      have tok0 : (e0 = i + 1 → mRow i = nI (tk i) ∧ tk i < 2 ^ 31) := fun _ => hwT i (Nat.le_refl _) hij
      -- how many are kept
      have g4 : ∀ pd : Nat, S.c + pd = (G.jr tk Tb r i j p q S).c → v_M_divide_B174 post mWeight mRow (nI r) (nI i) (nI p) (nI q) (nI j) (nI (mxc l i j)) (nI (G.ln r)) (nI (G.sy r 0)) x9 x10 (nI e0) (nI e1) (lN pd) m0 m1 m2 m3 m4 mMany mKept mRule mSum mOne mTwo mThree mW mO mH mP := by
        intro pd hpd
        unfold v_M_divide_B174
        rw [nI_clamp (show mxc l i j < 2 ^ 31 by omega), hcS, lN_add, hpd]
        have iX : vp_in (nI (mxc l i j)) 180 := vp_in_nI hX (by decide)
        generalize hM' : vp_updL mMany (mxc l i j) (lN (G.jr tk Tb r i j p q S).c) = M'
        have g5' := g5 M' hM'.symm
        refine ⟨iX, iX, ?_⟩
        refine ps_kept (tk := tk) (Tb := Tb) hw hr (by omega) ie0.1 ie0.2 (fun e => (hR.2 _ _ _ (hS _ _ _ (s0 e))).2) tok0 ?_
        have last : ∀ x16 : Int32, x16 = nI (G.pc tk Tb r 1 p e1).r.n → v_M_divide_B218 post mWeight mRow (nI r) (nI i) (nI p) (nI q) (nI j) (nI (mxc l i j)) (nI (G.ln r)) (nI (G.sy r 0)) x9 x10 (nI e0) (nI e1) (nI (G.pc tk Tb r 0 i e0).r.n) x16 m0 m1 m2 m3 m4 M' mKept mRule mSum mOne mTwo mThree mW mO mH mP := by
          intro x16 h16
          rw [h16]
          unfold v_M_divide_B218
          refine p_le (b := 2) (by omega) (by decide) (fun z => ?_) (fun z => ?_)
          · rw [show (G.pc tk Tb r 2 q j).r.n = 1 by rw [Gr.pc_o (by omega)]; rfl] at g5'
            exact g5'
          · have h10' := h10 (by omega)
            subst h10'
            exact ps_kept (tk := tk) (Tb := Tb) hw hr (by omega) (qj (by omega)).2 hj (fun e => (hR.2 _ _ _ (hS _ _ _ (s2 e))).2) (fun _ => hwT q (qj (by omega)).1 (qj (by omega)).2) g5'
        refine p_le (b := 1) (by omega) (by decide) (fun z => last 1 ?_) (fun z => ?_)
        · rw [Gr.pc_o (by omega)]; rfl
        · have h9' := h9 (by omega)
          subst h9'
          have pp := pe1 (by omega)
          exact ps_kept (tk := tk) (Tb := Tb) hw hr (by omega) pp.2.1 (by omega) (fun e => (hR.2 _ _ _ (hS _ _ _ (s1 e))).2) (fun _ => hwT p pp.1 (by omega)) (last _ rfl)
      unfold v_M_divide_B112
      refine ps_many (tk := tk) (Tb := Tb) hw hr (by omega) ie0.1 ie0.2 (fun e => (hR.2 _ _ _ (hS _ _ _ (s0 e))).1) tok0 ?_
      have third : ∀ pd : Nat, S.c + pd * (G.pc tk Tb r 2 q j).c = (G.jr tk Tb r i j p q S).c → v_M_divide_B148 post mWeight mRow (nI r) (nI i) (nI p) (nI q) (nI j) (nI (mxc l i j)) (nI (G.ln r)) (nI (G.sy r 0)) x9 x10 (nI e0) (nI e1) (lN pd) m0 m1 m2 m3 m4 mMany mKept mRule mSum mOne mTwo mThree mW mO mH mP := by
        intro pd hpd
        unfold v_M_divide_B148
        refine p_le (b := 2) (by omega) (by decide) (fun z => g4 pd ?_) (fun z => ?_)
        · rw [← hpd, show (G.pc tk Tb r 2 q j).c = 1 by rw [Gr.pc_o (by omega)]; rfl, Nat.mul_one]
        · have h10' := h10 (by omega)
          subst h10'
          refine ps_many (tk := tk) (Tb := Tb) hw hr (by omega) (qj (by omega)).2 hj (fun e => (hR.2 _ _ _ (hS _ _ _ (s2 e))).1) (fun _ => hwT q (qj (by omega)).1 (qj (by omega)).2) ?_
          rw [lN_mul]
          exact g4 _ hpd
      refine p_le (b := 1) (by omega) (by decide) (fun z => third _ ?_) (fun z => ?_)
      · rw [jrc, show (G.pc tk Tb r 1 p e1).c = 1 by rw [Gr.pc_o (by omega)]; rfl, Nat.mul_one]
      · have h9' := h9 (by omega)
        subst h9'
        have pp := pe1 (by omega)
        refine ps_many (tk := tk) (Tb := Tb) hw hr (by omega) pp.2.1 (by omega) (fun e => (hR.2 _ _ _ (hS _ _ _ (s1 e))).1) (fun _ => hwT p pp.1 (by omega)) ?_
        rw [lN_mul]
        exact third _ jrc.symm
    unfold v_M_divide_B83
    have g3 : ∀ e0 : Nat, e0 = (if G.ln r = 1 then j else p) → v_M_divide_B97 post mWeight mRow (nI r) (nI i) (nI p) (nI q) (nI j) (nI (mxc l i j)) (nI (G.ln r)) (nI (G.sy r 0)) x9 x10 (nI e0) m0 m1 m2 m3 m4 mMany mKept mRule mSum mOne mTwo mThree mW mO mH mP := by
      intro e0 he0
      unfold v_M_divide_B97
      exact p_eq (b := 2) (by omega) (by decide) (fun z => g2 e0 j he0 (by rw [if_pos z])) (fun z => g2 e0 q he0 (by rw [if_neg z]))
    exact p_eq (b := 1) (by omega) (by decide) (fun z => g3 j (by rw [if_pos z])) (fun z => g3 p (by rw [if_neg z]))
  have sec : ∀ x9 : Int32, (2 ≤ G.ln r → x9 = nI (G.sy r 1)) → v_M_divide_B60 post mBody mWeight mRow (nI r) (nI i) (nI p) (nI q) (nI j) (nI (mxc l i j)) (nI (G.ln r)) (nI (G.sy r 0)) x9 m0 m1 m2 m3 m4 mMany mKept mRule mSum mOne mTwo mThree mW mO mH mP := by
    intro x9 h9
    unfold v_M_divide_B60
    refine p_le (b := 2) (by omega) (by decide) (fun z => go x9 97 h9 (fun y => by omega)) (fun z => ?_)
    rw [show (3 : Int32) * nI r + (2 : Int32) = nI (3 * r + 2) from p_ix2 r 2, nI_clamp (show 3 * r + 2 < 2 ^ 31 by omega)]
    exact ⟨vp_in_nI (by omega) (by decide), go x9 _ h9 (fun _ => eB' 2 (by omega))⟩
  refine p_le (b := 1) (by omega) (by decide) (fun z => sec 97 (fun y => by omega)) (fun z => ?_)
  rw [show nI (3 * r) + (1 : Int32) = nI (3 * r + 1) from p_1 (3 * r), nI_clamp (show 3 * r + 1 < 2 ^ 31 by omega)]
  exact ⟨vp_in_nI (by omega) (by decide), sec _ (fun _ => eB' 1 (by omega))⟩
theorem ps_mapply (hw : G.WF) (hρ : G.Rk ρ) (hC : ∀ x i j, i < j → G.CP ρ x (j - i) (Tb x i j)) (hD : G.Dc D) {mHead mSize mBody mWeight mRow : Nat → Int32} (hg : G.m 0 mHead mSize mBody mWeight)
    {mM0 : Nat → Int64} {mK0 hRu hSu h1 h2 h3 mW mO mH mP : Nat → Int32} (hR : G.mDR Tb mM0 mK0 hRu hSu h1 h2 h3 D)
    {l i j r : Nat} (hl : l < 5) (hij : i < j) (hj : j ≤ 6) (hnD : ¬ D l i j) (hS : ∀ x a b, G.Sb l i j x a b → D x a b) (hr : r < G.k) (hru : G.us r = true) (hrl : G.hd r = l) (hwT : ∀ t, i ≤ t → t < j → mRow t = nI (tk t) ∧ tk t < 2 ^ 31)
    {S : Cell} (hSc : G.CP ρ l (j - i) S) (hcS : mM0 (mxc l i j) = lN S.c) (hN : G.mNow Tb l i j S.r mK0 hRu hSu h1 h2 h3) {m0 m1 m2 m3 m4 : Int32}
    {post : Int32 → Int32 → Int32 → Int32 → Int32 → (Nat → Int64) → (Nat → Int32) → (Nat → Int32) → (Nat → Int32) → (Nat → Int32) → (Nat → Int32) → (Nat → Int32) → (Nat → Int32) → (Nat → Int32) → (Nat → Int32) → (Nat → Int32) → Prop}
    (k : ∀ (n0 n1 n2 n3 n4 : Int32) (mMany : Nat → Int64) (mK gR gS g1 g2 g3 mW mO mH mP : Nat → Int32), G.mSt Tb l i j (G.ap tk Tb r i j S) mM0 mK0 hRu hSu h1 h2 h3 mMany mK gR gS g1 g2 g3 → post n0 n1 n2 n3 n4 mMany mK gR gS g1 g2 g3 mW mO mH mP) :
    v_M_apply (nI r) (nI i) (nI j) m0 m1 m2 m3 m4 mHead mSize mBody mWeight mRow mM0 mK0 hRu hSu h1 h2 h3 mW mO mH mP post := by
  obtain ⟨wh, w1, w3, wwt, wsy⟩ := hw.2 r hr
  have hk := hw.1
  have eZ : mSize r = nI (G.ln r) := by have := (hg r hr).2.1; rwa [Nat.zero_add] at this
  -- one division
  have one : ∀ (p q : Nat) (S' : Cell) (n0 n1 n2 n3 n4 : Int32) (mMany : Nat → Int64) (mK gR gS g1 g2 g3 mW mO mH mP : Nat → Int32) {po : Int32 → Int32 → Int32 → Int32 → Int32 → (Nat → Int64) → (Nat → Int32) → (Nat → Int32) → (Nat → Int32) → (Nat → Int32) → (Nat → Int32) → (Nat → Int32) → (Nat → Int32) → (Nat → Int32) → (Nat → Int32) → (Nat → Int32) → Prop}, G.sp r i j p q → G.CP ρ l (j - i) S' → G.mSt Tb l i j S' mM0 mK0 hRu hSu h1 h2 h3 mMany mK gR gS g1 g2 g3 →
      (∀ (n0 n1 n2 n3 n4 : Int32) (mM2 : Nat → Int64) (mK2 gR2 gS2 g12 g22 g32 mW2 mO2 mH2 mP2 : Nat → Int32), G.CP ρ l (j - i) (G.jr tk Tb r i j p q S') → G.mSt Tb l i j (G.jr tk Tb r i j p q S') mM0 mK0 hRu hSu h1 h2 h3 mM2 mK2 gR2 gS2 g12 g22 g32 → po n0 n1 n2 n3 n4 mM2 mK2 gR2 gS2 g12 g22 g32 mW2 mO2 mH2 mP2) →
      v_M_divide (nI r) (nI i) (nI p) (nI q) (nI j) n0 n1 n2 n3 n4 mHead mSize mBody mWeight mRow mMany mK gR gS g1 g2 g3 mW mO mH mP po := by
    intro p q S' n0 n1 n2 n3 n4 mMany mK gR gS g1 g2 g3 mW mO mH mP po hs hcp ⟨d1, d2, d3, d4⟩ kk
    refine ps_mdivide (tk := tk) hw hρ hC hD hg (Gr.mDR_fr hC hij hj hnD hR d3 d4) hl hij hj hnD hS hr hru hrl hs hwT hcp d1 d2 fun n0 n1 n2 n3 n4 mM2 mK2 gR2 gS2 g12 g22 g32 mW2 mO2 mH2 mP2 e1 e2 e3 e4 => kk n0 n1 n2 n3 n4 mM2 mK2 gR2 gS2 g12 g22 g32 mW2 mO2 mH2 mP2 ?_ ⟨e1, e3, fun y hy => by rw [e2 y hy, d3 y hy], mFr_tr d4 e4⟩
    have := Gr.CP_jr (tk := tk) hw hρ hr hru hij hs (fun x i' j' h => hC x i' j' h.2.2.1) (S := S') (by rw [hrl]; exact hcp)
    rwa [hrl] at this
  have start : G.mSt Tb l i j S mM0 mK0 hRu hSu h1 h2 h3 mM0 mK0 hRu hSu h1 h2 h3 := ⟨hcS, hN, fun _ _ => rfl, mFr_rf _ _ _ _ _ _ _⟩
  unfold v_M_apply
  rw [nI_clamp (show r < 2 ^ 31 by omega), eZ]
  have ir : vp_in (nI r) 28 := vp_in_nI (by omega) (by decide)
  refine ⟨ir, p_eq (b := 1) (by omega) (by decide) (fun e1 => ?_) (fun e1 => ⟨ir, p_eq (b := 2) (by omega) (by decide) (fun e2 => ?_) (fun e2 => ?_)⟩)⟩
  · refine one 0 0 S m0 m1 m2 m3 m4 mM0 mK0 hRu hSu h1 h2 h3 mW mO mH mP (Or.inl e1) hSc start fun n0 n1 n2 n3 n4 mM2 mK2 gR2 gS2 g12 g22 g32 mW2 mO2 mH2 mP2 _ d => k _ _ _ _ _ _ _ _ _ _ _ _ _ _ _ _ ?_
    unfold Gr.ap
    rw [if_pos e1]
    exact d
  · have lp : ∀ (d t : Nat) (S' : Cell) (n0 n1 n2 n3 n4 : Int32) (mMany : Nat → Int64) (mK gR gS g1 g2 g3 mW mO mH mP : Nat → Int32), t + d = j - i - 1 → S' = itr (fun S t => G.jr tk Tb r i j (i + 1 + t) 0 S) t S → G.CP ρ l (j - i) S' → G.mSt Tb l i j S' mM0 mK0 hRu hSu h1 h2 h3 mMany mK gR gS g1 g2 g3 →
        v_M_apply_L37 post mHead mSize mBody mWeight mRow (nI r) (nI i) (nI j) (d + 1) (nI (i + 1 + t)) n0 n1 n2 n3 n4 mMany mK gR gS g1 g2 g3 mW mO mH mP := by
      intro d
      induction d with
      | zero =>
        intro t S' n0 n1 n2 n3 n4 mMany mK gR gS g1 g2 g3 mW mO mH mP ht hS' hcp hd
        unfold v_M_apply_L37
        refine br_t ((nI_leI (by omega) (by omega)).mpr (by omega)) (k _ _ _ _ _ _ _ _ _ _ _ _ _ _ _ _ ?_)
        unfold Gr.ap
        rw [if_neg e1, if_pos e2, ← show t = j - i - 1 by omega, ← hS']
        exact hd
      | succ d ih =>
        intro t S' n0 n1 n2 n3 n4 mMany mK gR gS g1 g2 g3 mW mO mH mP ht hS' hcp hd
        unfold v_M_apply_L37
        refine br_f (fun z => by have := (nI_leI (by omega) (by omega)).mp z; omega) ?_
        rw [p_1]
        exact one (i + 1 + t) 0 S' n0 n1 n2 n3 n4 mMany mK gR gS g1 g2 g3 mW mO mH mP (Or.inr (Or.inl ⟨e2, by omega, by omega⟩)) hcp hd fun n02 n12 n22 n32 n42 mM2 mK2 gR2 gS2 g12 g22 g32 mW2 mO2 mH2 mP2 q1 q2 => ih (t + 1) _ _ _ _ _ _ mM2 mK2 gR2 gS2 g12 g22 g32 mW2 mO2 mH2 mP2 (by omega) (by rw [hS']; rfl) q1 q2
    refine ⟨j - i - 1 + 1, ?_⟩
    rw [p_1]
    exact lp (j - i - 1) 0 S m0 m1 m2 m3 m4 mM0 mK0 hRu hSu h1 h2 h3 mW mO mH mP (by omega) rfl hSc start
  · have e3 : G.ln r = 3 := by omega
    have inner : ∀ (K67 : Int32 → Int32 → Int32 → Int32 → Int32 → Int32 → (Nat → Int64) → (Nat → Int32) → (Nat → Int32) → (Nat → Int32) → (Nat → Int32) → (Nat → Int32) → (Nat → Int32) → (Nat → Int32) → (Nat → Int32) → (Nat → Int32) → (Nat → Int32) → Prop) (t : Nat) (S1 : Cell), i + 1 + t < j →
        (∀ (n0 n1 n2 n3 n4 : Int32) (mMany : Nat → Int64) (mK gR gS g1 g2 g3 mW mO mH mP : Nat → Int32), G.CP ρ l (j - i) (itr (fun S u => G.jr tk Tb r i j (i + 1 + t) (i + 2 + t + u) S) (j - i - 2 - t) S1) → G.mSt Tb l i j (itr (fun S u => G.jr tk Tb r i j (i + 1 + t) (i + 2 + t + u) S) (j - i - 2 - t) S1) mM0 mK0 hRu hSu h1 h2 h3 mMany mK gR gS g1 g2 g3 → K67 (nI (i + 1 + (t + 1))) n0 n1 n2 n3 n4 mMany mK gR gS g1 g2 g3 mW mO mH mP) →
        ∀ (d u : Nat) (S' : Cell) (n0 n1 n2 n3 n4 : Int32) (mMany : Nat → Int64) (mK gR gS g1 g2 g3 mW mO mH mP : Nat → Int32), u + d = j - i - 2 - t → S' = itr (fun S u => G.jr tk Tb r i j (i + 1 + t) (i + 2 + t + u) S) u S1 → G.CP ρ l (j - i) S' → G.mSt Tb l i j S' mM0 mK0 hRu hSu h1 h2 h3 mMany mK gR gS g1 g2 g3 →
        v_M_apply_L79 K67 mHead mSize mBody mWeight mRow (nI r) (nI i) (nI j) (nI (i + 1 + t)) (d + 1) (nI (i + 2 + t + u)) n0 n1 n2 n3 n4 mMany mK gR gS g1 g2 g3 mW mO mH mP := by
      intro K67 t S1 ht ex d
      induction d with
      | zero =>
        intro u S' n0 n1 n2 n3 n4 mMany mK gR gS g1 g2 g3 mW mO mH mP hu hS' hcp hd
        unfold v_M_apply_L79
        refine br_t ((nI_leI (by omega) (by omega)).mpr (by omega)) ?_
        rw [p_1]
        have eu : u = j - i - 2 - t := by omega
        rw [← eu] at ex
        rw [← hS'] at ex
        exact ex _ _ _ _ _ mMany mK gR gS g1 g2 g3 mW mO mH mP hcp hd
      | succ d ih =>
        intro u S' n0 n1 n2 n3 n4 mMany mK gR gS g1 g2 g3 mW mO mH mP hu hS' hcp hd
        unfold v_M_apply_L79
        refine br_f (fun z => by have := (nI_leI (by omega) (by omega)).mp z; omega) ?_
        rw [p_1]
        exact one (i + 1 + t) (i + 2 + t + u) S' n0 n1 n2 n3 n4 mMany mK gR gS g1 g2 g3 mW mO mH mP (Or.inr (Or.inr ⟨e3, by omega, by omega, by omega⟩)) hcp hd fun n02 n12 n22 n32 n42 mM2 mK2 gR2 gS2 g12 g22 g32 mW2 mO2 mH2 mP2 q1 q2 => ih (u + 1) _ _ _ _ _ _ mM2 mK2 gR2 gS2 g12 g22 g32 mW2 mO2 mH2 mP2 (by omega) (by rw [hS']; rfl) q1 q2
    have lp : ∀ (d t : Nat) (S' : Cell) (n0 n1 n2 n3 n4 : Int32) (mMany : Nat → Int64) (mK gR gS g1 g2 g3 mW mO mH mP : Nat → Int32), t + d = j - i - 1 → S' = itr (fun S t => itr (fun S u => G.jr tk Tb r i j (i + 1 + t) (i + 2 + t + u) S) (j - i - 2 - t) S) t S → G.CP ρ l (j - i) S' → G.mSt Tb l i j S' mM0 mK0 hRu hSu h1 h2 h3 mMany mK gR gS g1 g2 g3 →
        v_M_apply_L67 post mHead mSize mBody mWeight mRow (nI r) (nI i) (nI j) (d + 1) (nI (i + 1 + t)) n0 n1 n2 n3 n4 mMany mK gR gS g1 g2 g3 mW mO mH mP := by
      intro d
      induction d with
      | zero =>
        intro t S' n0 n1 n2 n3 n4 mMany mK gR gS g1 g2 g3 mW mO mH mP ht hS' hcp hd
        unfold v_M_apply_L67
        refine br_t ((nI_leI (by omega) (by omega)).mpr (by omega)) (k _ _ _ _ _ _ _ _ _ _ _ _ _ _ _ _ ?_)
        unfold Gr.ap
        rw [if_neg e1, if_neg e2, ← show t = j - i - 1 by omega, ← hS']
        exact hd
      | succ d ih =>
        intro t S' n0 n1 n2 n3 n4 mMany mK gR gS g1 g2 g3 mW mO mH mP ht hS' hcp hd
        unfold v_M_apply_L67
        refine br_f (fun z => by have := (nI_leI (by omega) (by omega)).mp z; omega) ⟨j - i - 2 - t + 1, ?_⟩
        rw [p_1, show i + 1 + t + 1 = i + 2 + t + 0 by omega]
        exact inner _ t S' (by omega) (fun n02 n12 n22 n32 n42 mM2 mK2 gR2 gS2 g12 g22 g32 mW2 mO2 mH2 mP2 q1 q2 => ih (t + 1) _ _ _ _ _ _ mM2 mK2 gR2 gS2 g12 g22 g32 mW2 mO2 mH2 mP2 (by omega) (by rw [hS']; rfl) q1 q2) (j - i - 2 - t) 0 S' n0 n1 n2 n3 n4 mMany mK gR gS g1 g2 g3 mW mO mH mP (by omega) rfl hcp hd
    refine ⟨j - i - 1 + 1, ?_⟩
    rw [p_1]
    exact lp (j - i - 1) 0 S m0 m1 m2 m3 m4 mM0 mK0 hRu hSu h1 h2 h3 mW mO mH mP (by omega) rfl hSc start
end MAP
