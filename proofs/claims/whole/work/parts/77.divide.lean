/-! The class divides a span by a rule, and completes the chart. -/
section DVD
variable {G : Gr} {Tb : Tab} {ρ : Nat → Nat} {D : Nat → Nat → Nat → Prop} {tk : Nat → Nat}
theorem p_last {j n p : Nat} (hj : j < 2 ^ 20) (hn : n < 2 ^ 20) (hp : p < 2 ^ 20) : ((nI j - nI n) + (1 : Int32) < nI p) ↔ j + 1 < p + n := by
  rw [Int32.lt_iff_toInt_lt, show nI j - nI n + (1 : Int32) = nI (j + 1) - nI n by rw [← p_1, Int32.sub_eq_add_neg, Int32.sub_eq_add_neg, Int32.add_assoc, Int32.add_assoc, Int32.add_comm (-nI n) 1], pk_sub_toInt (by omega) (by omega), nI_toInt (by omega)]
  omega
/-- the cell of letter l is S, the rest as at the start -/
def Gr.dSt (G : Gr) (Tb : Tab) (l i j : Nat) (S : Cell) (cC0 : Nat → Int64) (cK0 hO hW hZ hC : Nat → Int32) (cC : Nat → Int64) (cK fO fW fZ fC : Nat → Int32) : Prop :=
  cC (cxc l i j) = lN S.c ∧ G.rNow Tb l i j S.r cK fO fW fZ fC ∧ (∀ y, y ≠ cxc l i j → cC y = cC0 y) ∧ rFr (cxc l i j) cK0 hO hW hZ hC cK fO fW fZ fC
theorem ps_divide (hw : G.WF) (hρ : G.Rk ρ) (hC : ∀ x i j, i < j → G.CP ρ x (j - i) (Tb x i j)) (hB : ∀ x i j, x < 5 → i < j → j ≤ i + 6 → (Tb x i j).c ≤ bM (j - i)) (hD : G.Dc D) {gH gS gL gW : Nat → Int32} (hg : G.c gH gS gL gW)
    {cC0 : Nat → Int64} {cK0 cU cH cF wT hO hW hZ hCh : Nat → Int32} (hR : G.cDR Tb cC0 cK0 hO hW hZ hCh D)
    {l i j r : Nat} (hl : l < 5) (hij : i < j) (hj : j ≤ 6) (hnD : ¬ D l i j) (hS : ∀ x a b, G.Sb l i j x a b → D x a b) (hr : r < G.k) (hru : G.us r = true) (hrl : G.hd r = l) (hwT : ∀ t, i ≤ t → t < j → wT t = nI (tk t) ∧ tk t < 2 ^ 31)
    {S : Cell} (hSc : G.CP ρ l (j - i) S) (hcS : cC0 (cxc l i j) = lN S.c) (hN : G.rNow Tb l i j S.r cK0 hO hW hZ hCh)
    {post : (Nat → Int64) → (Nat → Int32) → (Nat → Int32) → (Nat → Int32) → (Nat → Int32) → (Nat → Int32) → (Nat → Int32) → (Nat → Int32) → (Nat → Int32) → Prop}
    (k : ∀ (cC : Nat → Int64) (cK cU' cH' cF' fO fW fZ fC : Nat → Int32), G.dSt Tb l i j (G.ap tk Tb r i j S) cC0 cK0 hO hW hZ hCh cC cK fO fW fZ fC → post cC cK cU' cH' cF' fO fW fZ fC) :
    v_Chart_divide (nI r) (nI i) (nI j) cC0 cK0 cU cH cF wT hO hW hZ hCh gH gS gL gW post := by
  obtain ⟨wh, w1, w3, wwt, wsy⟩ := hw.2 r hr
  have hk := hw.1
  unfold v_Chart_divide
  rw [nI_clamp (show r < 2 ^ 31 by omega), (hg r hr).1, (hg r hr).2.1, hrl]
  refine ⟨p_in14 (by omega), ?_⟩
  intro y4 hy4
  subst hy4
  refine ⟨p_in14 (by omega), ?_⟩
  refine ps_cellOf hl hij hj ?_
  rw [nI_clamp (show G.ln r < 2 ^ 31 by omega), show (0 : Int32).toNatClampNeg = 0 from rfl]
  refine ⟨vp_in_nI (n := 0) (by decide) (by decide), vp_in_nI (by omega) (by decide), ?_⟩
  -- one join
  have one : ∀ (p q : Nat) (S' : Cell) (cC : Nat → Int64) (cK cU' cH' cF' fO fW fZ fC : Nat → Int32) {po : (Nat → Int64) → (Nat → Int32) → (Nat → Int32) → (Nat → Int32) → (Nat → Int32) → (Nat → Int32) → (Nat → Int32) → (Nat → Int32) → Prop}, G.sp r i j p q → cU' 0 = nI i → cU' 1 = nI (if G.ln r = 1 then j else p) → (2 ≤ G.ln r → cU' 2 = nI (if G.ln r = 2 then j else q)) → (G.ln r = 3 → cU' 3 = nI j) → G.CP ρ l (j - i) S' → G.dSt Tb l i j S' cC0 cK0 hO hW hZ hCh cC cK fO fW fZ fC →
      (∀ (cC2 : Nat → Int64) (cK2 cH2 cF2 fO2 fW2 fZ2 fC2 : Nat → Int32), G.CP ρ l (j - i) (G.jr tk Tb r i j p q S') → G.dSt Tb l i j (G.jr tk Tb r i j p q S') cC0 cK0 hO hW hZ hCh cC2 cK2 fO2 fW2 fZ2 fC2 → po cC2 cK2 cH2 cF2 fO2 fW2 fZ2 fC2) →
      v_Chart_join (nI r) (nI (cxc l i j)) cC cK cU' cH' cF' wT fO fW fZ fC gS gL gW po := by
    intro p q S' cC cK cU' cH' cF' fO fW fZ fC po hs u0 u1 u2 u3 hcp ⟨d1, d2, d3, d4⟩ kk
    refine ps_join hw hρ hC hB hD hg (Gr.cDR_fr hC hl hij hj hnD hR d3 d4) hl hij hj hnD hS hr hru hrl hs u0 u1 u2 u3 hwT hcp d1 d2 fun cC2 cK2 cH2 cF2 fO2 fW2 fZ2 fC2 e1 e2 e3 e4 => kk cC2 cK2 cH2 cF2 fO2 fW2 fZ2 fC2 ?_ ⟨e1, e3, fun y hy => by rw [e2 y hy, d3 y hy], rFr_tr d4 e4⟩
    have := Gr.CP_jr (tk := tk) hw hρ hr hru hij hs (fun x i' j' h => hC x i' j' h.2.2.1) (S := S') (by rw [hrl]; exact hcp)
    rwa [hrl] at this
  have start : G.dSt Tb l i j S cC0 cK0 hO hW hZ hCh cC0 cK0 hO hW hZ hCh := ⟨hcS, hN, fun _ _ => rfl, rFr_rf _ _ _ _ _ _⟩
  refine p_eq (b := 1) (by omega) (by decide) (fun e1 => ?_) (fun e1 => ?_)
  · refine one 0 0 S cC0 cK0 _ cH cF hO hW hZ hCh (Or.inl e1) ?_ ?_ (fun z => by omega) (fun z => by omega) hSc start fun cC2 cK2 cH2 cF2 fO2 fW2 fZ2 fC2 _ d => k _ _ _ _ _ _ _ _ _ ?_
    · rw [e1, pk_un (by decide)]; exact pk_us
    · rw [e1, if_pos rfl]; exact pk_us
    · unfold Gr.ap; rw [if_pos e1]; exact d
  · intro y6 hy6
    subst hy6
    -- the cuts that stay
    have cut0 : (upd (upd cU 0 (nI i)) (G.ln r) (nI j)) 0 = nI i ∧ (upd (upd cU 0 (nI i)) (G.ln r) (nI j)) (G.ln r) = nI j := ⟨by rw [pk_un (by omega)]; exact pk_us, pk_us⟩
    generalize upd (upd cU 0 (nI i)) (G.ln r) (nI j) = cU0 at cut0 ⊢
    -- what one outer turn does
    by_cases e2 : G.ln r = 2
    · have lp : ∀ (d t : Nat) (S' : Cell) (cC : Nat → Int64) (cK cU' cH' cF' fO fW fZ fC : Nat → Int32), t + d = j - i - 1 → S' = itr (fun S t => G.jr tk Tb r i j (i + 1 + t) 0 S) t S → cU' 0 = nI i → cU' 2 = nI j → G.CP ρ l (j - i) S' → G.dSt Tb l i j S' cC0 cK0 hO hW hZ hCh cC cK fO fW fZ fC →
          v_Chart_divide_L69 post wT gS gL gW (nI r) (nI j) (nI (G.ln r)) (nI (cxc l i j)) (nI j - nI (G.ln r) + (1 : Int32)) (d + 1) (nI (i + 1 + t)) cC cK cU' cH' cF' fO fW fZ fC := by
        intro d
        induction d with
        | zero =>
          intro t S' cC cK cU' cH' cF' fO fW fZ fC ht hS' c0 c2 hcp hd
          unfold v_Chart_divide_L69
          refine br_t ((p_last (by omega) (by omega) (by omega)).mpr (by omega)) (k _ _ _ _ _ _ _ _ _ ?_)
          unfold Gr.ap
          rw [if_neg e1, if_pos e2, ← show t = j - i - 1 by omega, ← hS']
          exact hd
        | succ d ih =>
          intro t S' cC cK cU' cH' cF' fO fW fZ fC ht hS' c0 c2 hcp hd
          unfold v_Chart_divide_L69
          refine br_f (fun z => by have := (p_last (by omega) (by omega) (by omega)).mp z; omega) ?_
          rw [show (1 : Int32).toNatClampNeg = 1 from rfl, p_1]
          refine ⟨vp_in_nI (n := 1) (by decide) (by decide), br_t (by rw [e2]; rfl) ?_⟩
          refine one (i + 1 + t) 0 S' cC cK _ cH' cF' fO fW fZ fC (Or.inr (Or.inl ⟨e2, by omega, by omega⟩)) ?_ ?_ (fun _ => ?_) (fun z => by omega) hcp hd fun cC2 cK2 cH2 cF2 fO2 fW2 fZ2 fC2 q1 q2 => ?_
          · rw [pk_un (by decide)]; exact c0
          · rw [if_neg e1]; exact pk_us
          · rw [pk_un (by decide), if_pos e2]; exact c2
          · exact ih (t + 1) _ cC2 cK2 _ cH2 cF2 fO2 fW2 fZ2 fC2 (by omega) (by rw [hS']; rfl) (by rw [pk_un (by decide)]; exact c0) (by rw [pk_un (by decide)]; exact c2) q1 q2
      refine ⟨j - i - 1 + 1, ?_⟩
      rw [p_1]
      exact lp (j - i - 1) 0 S cC0 cK0 cU0 cH cF hO hW hZ hCh (by omega) rfl cut0.1 (by rw [← e2]; exact cut0.2) hSc start
    · have e3 : G.ln r = 3 := by omega
      have inner : ∀ (K69 : Int32 → (Nat → Int64) → (Nat → Int32) → (Nat → Int32) → (Nat → Int32) → (Nat → Int32) → (Nat → Int32) → (Nat → Int32) → (Nat → Int32) → (Nat → Int32) → Prop) (t : Nat) (S1 : Cell), i + 1 + t < j →
          (∀ (cC : Nat → Int64) (cK cU' cH' cF' fO fW fZ fC : Nat → Int32), cU' 0 = nI i → cU' 3 = nI j → G.CP ρ l (j - i) (itr (fun S u => G.jr tk Tb r i j (i + 1 + t) (i + 2 + t + u) S) (j - i - 2 - t) S1) → G.dSt Tb l i j (itr (fun S u => G.jr tk Tb r i j (i + 1 + t) (i + 2 + t + u) S) (j - i - 2 - t) S1) cC0 cK0 hO hW hZ hCh cC cK fO fW fZ fC → K69 (nI (i + 1 + (t + 1))) cC cK cU' cH' cF' fO fW fZ fC) →
          ∀ (d u : Nat) (S' : Cell) (cC : Nat → Int64) (cK cU' cH' cF' fO fW fZ fC : Nat → Int32), u + d = j - i - 2 - t → S' = itr (fun S u => G.jr tk Tb r i j (i + 1 + t) (i + 2 + t + u) S) u S1 → cU' 0 = nI i → cU' 1 = nI (i + 1 + t) → cU' 3 = nI j → G.CP ρ l (j - i) S' → G.dSt Tb l i j S' cC0 cK0 hO hW hZ hCh cC cK fO fW fZ fC →
          v_Chart_divide_L106 K69 wT gS gL gW (nI r) (nI j) (nI (cxc l i j)) (nI (i + 1 + t)) (d + 1) (nI (i + 2 + t + u)) cC cK cU' cH' cF' fO fW fZ fC := by
        intro K69 t S1 ht ex d
        induction d with
        | zero =>
          intro u S' cC cK cU' cH' cF' fO fW fZ fC hu hS' c0 c1 c3 hcp hd
          unfold v_Chart_divide_L106
          refine br_t ((nI_leI (by omega) (by omega)).mpr (by omega)) ?_
          rw [p_1]
          have eu : u = j - i - 2 - t := by omega
          rw [← eu] at ex
          rw [← hS'] at ex
          exact ex cC cK cU' cH' cF' fO fW fZ fC c0 c3 hcp hd
        | succ d ih =>
          intro u S' cC cK cU' cH' cF' fO fW fZ fC hu hS' c0 c1 c3 hcp hd
          unfold v_Chart_divide_L106
          refine br_f (fun z => by have := (nI_leI (by omega) (by omega)).mp z; omega) ?_
          rw [show (2 : Int32).toNatClampNeg = 2 from rfl, p_1]
          refine ⟨vp_in_nI (n := 2) (by decide) (by decide), ?_⟩
          refine one (i + 1 + t) (i + 2 + t + u) S' cC cK _ cH' cF' fO fW fZ fC (Or.inr (Or.inr ⟨e3, by omega, by omega, by omega⟩)) ?_ ?_ (fun _ => ?_) (fun _ => ?_) hcp hd fun cC2 cK2 cH2 cF2 fO2 fW2 fZ2 fC2 q1 q2 => ?_
          · rw [pk_un (by decide)]; exact c0
          · rw [pk_un (by decide), if_neg e1]; exact c1
          · rw [if_neg e2]; exact pk_us
          · rw [pk_un (by decide)]; exact c3
          · exact ih (u + 1) _ cC2 cK2 _ cH2 cF2 fO2 fW2 fZ2 fC2 (by omega) (by rw [hS']; rfl) (by rw [pk_un (by decide)]; exact c0) (by rw [pk_un (by decide)]; exact c1) (by rw [pk_un (by decide)]; exact c3) q1 q2
      have lp : ∀ (d t : Nat) (S' : Cell) (cC : Nat → Int64) (cK cU' cH' cF' fO fW fZ fC : Nat → Int32), t + d = j - i - 2 → S' = itr (fun S t => itr (fun S u => G.jr tk Tb r i j (i + 1 + t) (i + 2 + t + u) S) (j - i - 2 - t) S) t S → cU' 0 = nI i → cU' 3 = nI j → G.CP ρ l (j - i) S' → G.dSt Tb l i j S' cC0 cK0 hO hW hZ hCh cC cK fO fW fZ fC →
          v_Chart_divide_L69 post wT gS gL gW (nI r) (nI j) (nI (G.ln r)) (nI (cxc l i j)) (nI j - nI (G.ln r) + (1 : Int32)) (d + 1) (nI (i + 1 + t)) cC cK cU' cH' cF' fO fW fZ fC := by
        intro d
        induction d with
        | zero =>
          intro t S' cC cK cU' cH' cF' fO fW fZ fC ht hS' c0 c2 hcp hd
          unfold v_Chart_divide_L69
          refine br_t ((p_last (by omega) (by omega) (by omega)).mpr (by omega)) (k _ _ _ _ _ _ _ _ _ ?_)
          unfold Gr.ap
          rw [if_neg e1, if_neg e2]
          by_cases z : j - i = 1
          · rw [show j - i - 1 = 0 by omega]
            rw [show t = 0 by omega] at hS'
            rw [← hS']
            exact hd
          · have et : j - i - 1 = t + 1 := by omega
            rw [et]
            show G.dSt Tb l i j (itr (fun S u => G.jr tk Tb r i j (i + 1 + t) (i + 2 + t + u) S) (j - i - 2 - t) (itr (fun S t => itr (fun S u => G.jr tk Tb r i j (i + 1 + t) (i + 2 + t + u) S) (j - i - 2 - t) S) t S)) _ _ _ _ _ _ _ _ _ _ _ _
            rw [← hS', show j - i - 2 - t = 0 by omega]
            exact hd
        | succ d ih =>
          intro t S' cC cK cU' cH' cF' fO fW fZ fC ht hS' c0 c2 hcp hd
          unfold v_Chart_divide_L69
          refine br_f (fun z => by have := (p_last (by omega) (by omega) (by omega)).mp z; omega) ?_
          rw [show (1 : Int32).toNatClampNeg = 1 from rfl]
          refine ⟨vp_in_nI (n := 1) (by decide) (by decide), br_f (fun z => by have := (nI_eq (b := 2) (by omega) (by decide)).mp z; omega) ?_⟩
          refine ⟨j - i - 2 - t + 1, ?_⟩
          rw [p_1, show i + 1 + t + 1 = i + 2 + t + 0 by omega]
          refine inner _ t S' (by omega) (fun cC2 cK2 cU2 cH2 cF2 fO2 fW2 fZ2 fC2 q0 q3 q1 q2 => ?_) (j - i - 2 - t) 0 S' cC cK _ cH' cF' fO fW fZ fC (by omega) rfl (by rw [pk_un (by decide)]; exact c0) pk_us (by rw [pk_un (by decide)]; exact c2) hcp hd
          exact ih (t + 1) _ cC2 cK2 cU2 cH2 cF2 fO2 fW2 fZ2 fC2 (by omega) (by rw [hS']; rfl) q0 q3 q1 q2
      refine ⟨j - i - 2 + 1, ?_⟩
      rw [p_1]
      exact lp (j - i - 2) 0 S cC0 cK0 cU0 cH cF hO hW hZ hCh (by omega) rfl cut0.1 (by rw [← e3]; exact cut0.2) hSc start
end DVD
