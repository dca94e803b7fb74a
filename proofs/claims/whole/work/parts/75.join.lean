/-! The class joins all choices of the parts of a rule into a cell. -/
section JON
variable {G : Gr} {Tb : Tab} {ρ : Nat → Nat} {D : Nat → Nat → Nat → Prop} {tk : Nat → Nat}
/-- these cells are right -/
def Gr.cDR (G : Gr) (Tb : Tab) (cC : Nat → Int64) (cK fO fW fZ fC : Nat → Int32) (D : Nat → Nat → Nat → Prop) : Prop := G.cER Tb fO fW fZ fC D ∧ ∀ x i j, D x i j → cC (cxc x i j) = lN (Tb x i j).c ∧ cK (cxc x i j) = nI (Tb x i j).r.n
/-- the cell's row is R -/
def Gr.rNow (G : Gr) (Tb : Tab) (l i j : Nat) (R : Row) (cK fO fW fZ fC : Nat → Int32) : Prop := cK (cxc l i j) = nI R.n ∧ ∀ q, q < R.n → G.cEN Tb fO fW fZ fC l i j (8 * cxc l i j + q) (R.f q)
/-- nothing but this cell's row has changed -/
def rFr (X : Nat) (cK fO fW fZ fC cK' gO gW gZ gC : Nat → Int32) : Prop := (∀ y, y ≠ X → cK' y = cK y) ∧ ∀ w, w < 840 → w < 8 * X ∨ 8 * X + 8 ≤ w → eqE fO fW fZ fC w gO gW gZ gC w
theorem rFr_rf (X : Nat) (cK fO fW fZ fC : Nat → Int32) : rFr X cK fO fW fZ fC cK fO fW fZ fC := ⟨fun _ _ => rfl, fun _ _ _ => eqE_rf _ _ _ _ _⟩
theorem rFr_tr {X : Nat} {cK fO fW fZ fC cK' gO gW gZ gC cK'' hO hW hZ hC : Nat → Int32} (h : rFr X cK fO fW fZ fC cK' gO gW gZ gC) (g : rFr X cK' gO gW gZ gC cK'' hO hW hZ hC) : rFr X cK fO fW fZ fC cK'' hO hW hZ hC :=
  ⟨fun y hy => by rw [g.1 y hy, h.1 y hy], fun w h1 h2 => eqE_tr (h.2 w h1 h2) (g.2 w h1 h2)⟩
theorem Gr.cER_fr (hC : ∀ x i j, i < j → G.CP ρ x (j - i) (Tb x i j)) {l i j : Nat} (hl : l < 5) (hij : i < j) (hj : j ≤ 6) (hnD : ¬ D l i j) {cK fO fW fZ fC cK' gO gW gZ gC : Nat → Int32} (hR : G.cER Tb fO fW fZ fC D) (h : rFr (cxc l i j) cK fO fW fZ fC cK' gO gW gZ gC) : G.cER Tb gO gW gZ gC D := fun x i' j' hx => by
  obtain ⟨g1, g2, g3, g4⟩ := hR x i' j' hx
  have b1 := cxc_lt g1 g2 g3
  have b2 := (hC x i' j' g2).1.1
  have ne : cxc x i' j' ≠ cxc l i j := fun z => by
    obtain ⟨z1, z2, z3⟩ := cxc_inj g1 g2 g3 hl hij hj z
    rw [z1, z2, z3] at hx
    exact hnD hx
  exact ⟨g1, g2, g3, fun q hq => Gr.cEN_eq (g4 q hq) (h.2 _ (by omega) (by omega))⟩
theorem Gr.cDR_fr (hC : ∀ x i j, i < j → G.CP ρ x (j - i) (Tb x i j)) {l i j : Nat} (hl : l < 5) (hij : i < j) (hj : j ≤ 6) (hnD : ¬ D l i j) {cC cC' : Nat → Int64} {cK fO fW fZ fC cK' gO gW gZ gC : Nat → Int32} (hR : G.cDR Tb cC cK fO fW fZ fC D) (hc : ∀ y, y ≠ cxc l i j → cC' y = cC y) (h : rFr (cxc l i j) cK fO fW fZ fC cK' gO gW gZ gC) : G.cDR Tb cC' cK' gO gW gZ gC D := by
  refine ⟨Gr.cER_fr hC hl hij hj hnD hR.1 h, fun x i' j' hx => ?_⟩
  obtain ⟨g1, g2, g3, -⟩ := hR.1 x i' j' hx
  have ne : cxc x i' j' ≠ cxc l i j := fun z => by
    obtain ⟨z1, z2, z3⟩ := cxc_inj g1 g2 g3 hl hij hj z
    rw [z1, z2, z3] at hx
    exact hnD hx
  rw [hc _ ne, h.1 _ ne]
  exact hR.2 x i' j' hx
/-- the loops over the choices, in the class -/
theorem ps_join47 (hw : G.WF) (hρ : G.Rk ρ) (hC : ∀ x i j, i < j → G.CP ρ x (j - i) (Tb x i j)) (hD : G.Dc D) {hO hW hZ hCh cK0 cH cF gW : Nat → Int32} {cC : Nat → Int64} (hR : G.cER Tb hO hW hZ hCh D)
    {l i j r : Nat} {S R0 R1 R2 : Row} (hl : l < 5) (hij : i < j) (hj : j ≤ 6) (hnD : ¬ D l i j) (hS : ∀ x a b, G.Sb l i j x a b → D x a b) (hr : r < G.k) (hru : G.us r = true) (hrl : G.hd r = l) (hgW : gW r = nI (G.wt r))
    (f0 : G.cFm Tb l i j r 0 (cF 0) R0) (f1 : G.cFm Tb l i j r 1 (cF 1) R1) (f2 : G.cFm Tb l i j r 2 (cF 2) R2) (h0 : cH 0 = nI R0.n) (h1 : cH 1 = nI R1.n) (h2 : cH 2 = nI R2.n) (b0 : R0.n ≤ 8) (b1 : R1.n ≤ 8) (b2 : R2.n ≤ 8)
    (hm : cmono (fun a b c => mkT (G.wt r) r i j (R0.f a) (R1.f b) (R2.f c)) R0.n R1.n R2.n) (hT : ∀ a b c, a < R0.n → b < R1.n → c < R2.n → G.TP ρ (j - i) l (mkT (G.wt r) r i j (R0.f a) (R1.f b) (R2.f c)))
    (hSo : S.ok) (hSs : ∀ q, q < S.n → G.TP ρ (j - i) l (S.f q)) (hN : G.rNow Tb l i j S cK0 hO hW hZ hCh)
    {post : (Nat → Int64) → (Nat → Int32) → (Nat → Int32) → (Nat → Int32) → (Nat → Int32) → (Nat → Int32) → (Nat → Int32) → (Nat → Int32) → Prop}
    (k : ∀ cK' gO gW' gZ gC : Nat → Int32, G.rNow Tb l i j (cA (fun a b c => mkT (G.wt r) r i j (R0.f a) (R1.f b) (R2.f c)) R0.n R1.n R2.n S) cK' gO gW' gZ gC → rFr (cxc l i j) cK0 hO hW hZ hCh cK' gO gW' gZ gC → post cC cK' cH cF gO gW' gZ gC) :
    ∃ n, v_Chart_join_L47 post gW (nI r) (nI (cxc l i j)) cC cH cF n (0 : Int32) cK0 hO hW hZ hCh := by
  generalize hmk : (fun a b c => mkT (G.wt r) r i j (R0.f a) (R1.f b) (R2.f c)) = mk at *
  have emk : ∀ a b c, mkT (G.wt r) r i j (R0.f a) (R1.f b) (R2.f c) = mk a b c := fun a b c => by rw [← hmk]
  have alls : ∀ (R : Row) (A B C : Nat), A ≤ R0.n → B ≤ R1.n → C ≤ R2.n → (∀ q, q < R.n → G.TP ρ (j - i) l (R.f q)) → ∀ q, q < (cA mk A B C R).n → G.TP ρ (j - i) l ((cA mk A B C R).f q) := fun R A B C hA hB hC h => cA_all (fun a b c p1 p2 p3 => by rw [← emk]; exact hT a b c (by omega) (by omega) (by omega)) R h
  have allsP : ∀ (R : Row) (a B C : Nat), a < R0.n → B ≤ R1.n → C ≤ R2.n → (∀ q, q < R.n → G.TP ρ (j - i) l (R.f q)) → ∀ q, q < (cP mk a B C R).n → G.TP ρ (j - i) l ((cP mk a B C R).f q) := fun R a B C hA hB hC h =>
    itr_invb (P := fun R : Row => ∀ q, q < R.n → G.TP ρ (j - i) l (R.f q)) B (fun R b hb h => itr_invb (P := fun R : Row => ∀ q, q < R.n → G.TP ρ (j - i) l (R.f q)) C (fun R c hc h => insR_all h (by rw [← emk]; exact hT a b c hA (by omega) (by omega))) R h) R h
  have allsR : ∀ (R : Row) (a b C : Nat), a < R0.n → b < R1.n → C ≤ R2.n → (∀ q, q < R.n → G.TP ρ (j - i) l (R.f q)) → ∀ q, q < (cR mk a b C R).n → G.TP ρ (j - i) l ((cR mk a b C R).f q) := fun R a b C hA hB hC h =>
    itr_invb (P := fun R : Row => ∀ q, q < R.n → G.TP ρ (j - i) l (R.f q)) C (fun R c hc h => insR_all h (by rw [← emk]; exact hT a b c hA hB (by omega))) R h
  -- one row
  have row : ∀ (K69 : Int32 → Int32 → (Nat → Int32) → (Nat → Int32) → (Nat → Int32) → (Nat → Int32) → (Nat → Int32) → Prop) (a b o : Nat) (R : Row), a < R0.n → b < R1.n → o ≤ R2.n → R.ok → (∀ q, q < R.n → G.TP ρ (j - i) l (R.f q)) →
      (∀ (c : Nat) (cK' gO gW' gZ gC : Nat → Int32), c ≤ o → (c < o → atl (mk a b c) (cR mk a b c R) 8) → G.rNow Tb l i j (cR mk a b c R) cK' gO gW' gZ gC → rFr (cxc l i j) cK0 hO hW hZ hCh cK' gO gW' gZ gC → v_Chart_join_B116 post K69 (nI b) (nI c) cC cK' cH cF gO gW' gZ gC) →
      ∀ (d c : Nat) (cK' gO gW' gZ gC : Nat → Int32), c + d = o → G.rNow Tb l i j (cR mk a b c R) cK' gO gW' gZ gC → rFr (cxc l i j) cK0 hO hW hZ hCh cK' gO gW' gZ gC → v_Chart_join_L88 post K69 gW (nI r) (nI (cxc l i j)) (nI a) (nI o) (nI b) cC cH cF (d + 1) (nI c) cK' gO gW' gZ gC := by
    intro K69 a b o R ha hb ho hRo hRs ex d
    induction d with
    | zero =>
      intro c cK' gO gW' gZ gC hcd hN' hF'
      have : c = o := by omega
      subst this
      unfold v_Chart_join_L88
      exact br_t (Int32.le_refl _) (ex c cK' gO gW' gZ gC (Nat.le_refl _) (fun z => absurd z (Nat.lt_irrefl _)) hN' hF')
    | succ d ih =>
      intro c cK' gO gW' gZ gC hcd hN' hF'
      unfold v_Chart_join_L88
      refine br_f (fun z => by have := (nI_leI (by omega) (by omega)).mp z; omega) ?_
      have hok : (cR mk a b c R).ok := cR_ok hRo
      refine ps_offer hw hρ hC hD (Gr.cER_fr hC hl hij hj hnD hR hF') hl hij hj hnD hS hr hru hrl hgW f0 f1 f2 ha hb (show c < R2.n by omega) hok (hT a b c ha hb (by omega)) (allsR R a b c ha hb (by omega) hRs) hN'.1 hN'.2 fun rr cK2 fO2 fW2 fZ2 fC2 e1 e2 e3 e4 e5 e6 => ?_
      rw [emk] at e1 e2 e3 e5
      have hF2 : rFr (cxc l i j) cK0 hO hW hZ hCh cK2 fO2 fW2 fZ2 fC2 := rFr_tr hF' ⟨e4, e6⟩
      by_cases rj : 8 ≤ rkn (mk a b c) (cR mk a b c R).f (cR mk a b c R).n
      · have at8 := (rej_rk hok).mp rj
        rw [rej_ins hok at8] at e3 e5
        rw [e1 rj]
        exact br_t rfl (ex c cK2 fO2 fW2 fZ2 fC2 (by omega) (fun _ => at8) ⟨e3, e5⟩ hF2)
      · rw [e2 rj]
        refine br_f (by decide) ?_
        rw [p_1]
        exact ih (c + 1) cK2 fO2 fW2 fZ2 fC2 (by omega) ⟨e3, e5⟩ hF2
  -- one plane
  have plane : ∀ (K47 : Int32 → (Nat → Int32) → (Nat → Int32) → (Nat → Int32) → (Nat → Int32) → (Nat → Int32) → Prop) (a : Nat), a < R0.n →
      (∀ cK' gO gW' gZ gC : Nat → Int32, G.rNow Tb l i j (cA mk (a + 1) R1.n R2.n S) cK' gO gW' gZ gC → rFr (cxc l i j) cK0 hO hW hZ hCh cK' gO gW' gZ gC → K47 (nI (a + 1)) cK' gO gW' gZ gC) →
      ∀ (d b o : Nat) (cK' gO gW' gZ gC : Nat → Int32), b + d = R1.n → o ≤ R2.n → (o < R2.n → ∀ b', b ≤ b' → b' < R1.n → atl (mk a b' o) (cP mk a b R2.n (cA mk a R1.n R2.n S)) 8) → (b = 0 → o = R2.n) → G.rNow Tb l i j (cP mk a b R2.n (cA mk a R1.n R2.n S)) cK' gO gW' gZ gC → rFr (cxc l i j) cK0 hO hW hZ hCh cK' gO gW' gZ gC →
      v_Chart_join_L69 post K47 gW (nI r) (nI (cxc l i j)) (nI a) cC cH cF (d + 1) (nI o) (nI b) cK' gO gW' gZ gC := by
    intro K47 a ha ex d
    have hAo : (cA mk a R1.n R2.n S).ok := cA_ok hSo
    have hAs := alls S a R1.n R2.n (by omega) (Nat.le_refl _) (Nat.le_refl _) hSs
    induction d with
    | zero =>
      intro b o cK' gO gW' gZ gC hbd ho hat hbo hN' hF'
      have : b = R1.n := by omega
      subst this
      unfold v_Chart_join_L69
      rw [show (1 : Int32).toNatClampNeg = 1 from rfl, h1, p_1]
      exact ⟨vp_in_nI (n := 1) (by decide) (by decide), br_t (Int32.le_refl _) (ex cK' gO gW' gZ gC hN' hF')⟩
    | succ d ih =>
      intro b o cK' gO gW' gZ gC hbd ho hat hbo hN' hF'
      unfold v_Chart_join_L69
      rw [show (1 : Int32).toNatClampNeg = 1 from rfl, h1, p_1]
      refine ⟨vp_in_nI (n := 1) (by decide) (by decide), br_f (fun z => by have := (nI_leI (by omega) (by omega)).mp z; omega) ?_⟩
      have hPo : (cP mk a b R2.n (cA mk a R1.n R2.n S)).ok := cP_ok hAo
      refine p_le (b := 0) (by omega) (by decide) (fun z => ex cK' gO gW' gZ gC ?_ hF') (fun z => ?_)
      · have := cP_rest hm ha (show b ≤ R1.n by omega) hAo fun q1 q2 => by
          have := hat (by omega) b (Nat.le_refl _) (by omega)
          rwa [show o = 0 by omega] at this
        show G.rNow Tb l i j (cP mk a R1.n R2.n (cA mk a R1.n R2.n S)) cK' gO gW' gZ gC
        rw [this]
        exact hN'
      · refine ⟨o + 1, row (v_Chart_join_L69 post K47 gW (nI r) (nI (cxc l i j)) (nI a) cC cH cF (d + 1)) a b o _ ha (by omega) ho hPo (allsP _ a b R2.n ha (by omega) (Nat.le_refl _) hAs) (fun c cK2 gO2 gW2 gZ2 gC2 hc hcat hN2 hF2 => ?_) o 0 cK' gO gW' gZ gC (by omega) hN' hF'⟩
        have rest := cR_rest hm ha (show b < R1.n by omega) (show c ≤ R2.n by omega) hPo fun q => by
          by_cases y : c < o
          · exact hcat y
          · have : c = o := by omega
            subst this
            exact cR_keep hPo (hat q b (Nat.le_refl _) (by omega))
        have nat : c < R2.n → ∀ b', b + 1 ≤ b' → b' < R1.n → atl (mk a b' c) (cP mk a (b + 1) R2.n (cA mk a R1.n R2.n S)) 8 := by
          intro q b' q1 q2
          show atl (mk a b' c) (cR mk a b R2.n (cP mk a b R2.n (cA mk a R1.n R2.n S))) 8
          rw [rest]
          refine atl_le (hm a b c a b' c (Nat.le_refl _) (by omega) (Nat.le_refl _) ha q2 q) ?_
          by_cases y : c < o
          · exact hcat y
          · have : c = o := by omega
            subst this
            exact cR_keep hPo (hat q b (Nat.le_refl _) (by omega))
        have hN3 : G.rNow Tb l i j (cP mk a (b + 1) R2.n (cA mk a R1.n R2.n S)) cK2 gO2 gW2 gZ2 gC2 := by
          show G.rNow Tb l i j (cR mk a b R2.n (cP mk a b R2.n (cA mk a R1.n R2.n S))) cK2 gO2 gW2 gZ2 gC2
          rw [rest]
          exact hN2
        have go : v_Chart_join_L69 post K47 gW (nI r) (nI (cxc l i j)) (nI a) cC cH cF (d + 1) (nI c) (nI b + (1 : Int32)) cK2 gO2 gW2 gZ2 gC2 := by
          rw [p_1]
          exact ih (b + 1) c cK2 gO2 gW2 gZ2 gC2 (by omega) (by omega) nat (fun q => by omega) hN3 hF2
        unfold v_Chart_join_B116
        refine p_eq (b := 0) (by omega) (by decide) (fun e => p_eq (b := 0) (by omega) (by decide) (fun e2 => ?_) (fun _ => go)) (fun _ => go)
        subst e e2
        refine k cK2 gO2 gW2 gZ2 gC2 ?_ hF2
        have hz : 0 < R2.n := by have := hbo rfl; omega
        have at0 : atl (mk a 0 0) (cA mk a R1.n R2.n S) 8 := hcat (by omega)
        rw [cA_rest hm (show a ≤ R0.n by omega) hSo fun _ _ _ => at0]
        exact hN2
  -- all planes
  have all : ∀ (d a : Nat) (cK' gO gW' gZ gC : Nat → Int32), a + d = R0.n → G.rNow Tb l i j (cA mk a R1.n R2.n S) cK' gO gW' gZ gC → rFr (cxc l i j) cK0 hO hW hZ hCh cK' gO gW' gZ gC → v_Chart_join_L47 post gW (nI r) (nI (cxc l i j)) cC cH cF (d + 1) (nI a) cK' gO gW' gZ gC := by
    intro d
    induction d with
    | zero =>
      intro a cK' gO gW' gZ gC had hN' hF'
      have : a = R0.n := by omega
      subst this
      unfold v_Chart_join_L47
      rw [show (0 : Int32).toNatClampNeg = 0 from rfl, h0]
      exact ⟨vp_in_nI (n := 0) (by decide) (by decide), br_t (Int32.le_refl _) (k cK' gO gW' gZ gC hN' hF')⟩
    | succ d ih =>
      intro a cK' gO gW' gZ gC had hN' hF'
      unfold v_Chart_join_L47
      rw [show (0 : Int32).toNatClampNeg = 0 from rfl, h0, show (2 : Int32).toNatClampNeg = 2 from rfl, h2]
      refine ⟨vp_in_nI (n := 0) (by decide) (by decide), br_f (fun z => by have := (nI_leI (by omega) (by omega)).mp z; omega) ⟨vp_in_nI (n := 2) (by decide) (by decide), ?_⟩⟩
      intro y6 hy6
      subst hy6
      exact ⟨R1.n + 1, plane _ a (by omega) (fun cK2 gO2 gW2 gZ2 gC2 q1 q2 => ih (a + 1) cK2 gO2 gW2 gZ2 gC2 (by omega) q1 q2) R1.n 0 R2.n cK' gO gW' gZ gC (by omega) (Nat.le_refl _) (fun z => absurd z (Nat.lt_irrefl _)) (fun _ => rfl) hN' hF'⟩
  exact ⟨R0.n + 1, all R0.n 0 cK0 hO hW hZ hCh (by omega) hN (rFr_rf _ _ _ _ _ _)⟩
end JON
