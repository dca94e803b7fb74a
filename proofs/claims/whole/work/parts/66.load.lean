/-! load, in class and model. -/
/-- the grammar of the first k rules of a text -/
def tG (tx : Nat → Nat) (k : Nat) : Gr := (k, tHd tx, tLn tx, tSy tx, tWt tx)
def oF (tx : Nat → Nat) (n k : Nat) : Prop := k < 14 ∧ (∀ j, j < k → tGood tx j ∧ ppos tx (j + 1) < n) ∧ ¬ tGood tx k
def oL (tx : Nat → Nat) (n : Nat) : Prop := ∀ j, j < 14 → tGood tx j ∧ ppos tx (j + 1) < n
def oS (tx : Nat → Nat) (n r : Nat) : Prop := r < 14 ∧ (∀ j, j < r → tGood tx j ∧ ppos tx (j + 1) < n) ∧ tGood tx r ∧ n ≤ ppos tx (r + 1)
theorem oFF {tx : Nat → Nat} {n k k' : Nat} (h : oF tx n k) (h' : oF tx n k') : k = k' := by
  rcases Nat.lt_trichotomy k k' with q | q | q
  · exact absurd (h'.2.1 k q).1 h.2.2
  · exact q
  · exact absurd (h.2.1 k' q).1 h'.2.2
theorem oFL {tx : Nat → Nat} {n k : Nat} (h : oF tx n k) (h' : oL tx n) : False := h.2.2 (h' k h.1).1
theorem oFS {tx : Nat → Nat} {n k r : Nat} (h : oF tx n k) (h' : oS tx n r) : False := by
  rcases Nat.lt_trichotomy k r with q | q | q
  · exact h.2.2 (h'.2.1 k q).1
  · exact h.2.2 (by rw [q]; exact h'.2.2.1)
  · have := (h.2.1 r q).2; have := h'.2.2.2; omega
theorem oSL {tx : Nat → Nat} {n r : Nat} (h : oS tx n r) (h' : oL tx n) : False := by
  have := (h' r h.1).2; have := h.2.2.2; omega
theorem oSS {tx : Nat → Nat} {n r r' : Nat} (h : oS tx n r) (h' : oS tx n r') : r = r' := by
  rcases Nat.lt_trichotomy r r' with q | q | q
  · have := (h'.2.1 r q).2; have := h.2.2.2; omega
  · exact q
  · have := (h.2.1 r' q).2; have := h'.2.2.2; omega
theorem oS_wf {tx : Nat → Nat} {n r : Nat} (h : oS tx n r) : (tG tx (r + 1)).WF := ⟨h.1, fun i hi => by
  by_cases e : i = r
  · subst e; exact t_wf h.2.2.1.1
  · exact t_wf (h.2.1 i (by have : i < r + 1 := hi; omega)).1.1⟩
/-- no two of its rules are alike -/
def Gr.NT (G : Gr) : Prop := ∀ i o, i < G.k → o < i → ¬ gTwin G.hd G.ln G.sy i o
theorem oS_nt {tx : Nat → Nat} {n r : Nat} (h : oS tx n r) : (tG tx (r + 1)).NT := fun i o hi ho => by
  by_cases e : i = r
  · subst e; exact h.2.2.1.2 o ho
  · exact (h.2.1 i (by have : i < r + 1 := hi; omega)).1.2 o ho
theorem neg_k : ∀ k : Nat, k < 14 → ¬ (-(nI (k + 1)) : Int32) = 0 := by decide
theorem ps_RTload {n : Nat} {tx : Nat → Nat} {tC : Nat → Int32} (h : rTx n tx tC) {qg qs : Nat} {rP cD sN sD : Int32} {sH sS sL sW sU sO : Nat → Int32} {post : Int32 → Nat → Nat → Nat → Int32 → Int32 → Int32 → Int32 → (Nat → Int32) → (Nat → Int32) → (Nat → Int32) → (Nat → Int32) → (Nat → Int32) → (Nat → Int32) → Prop}
    (kF : ∀ k, oF tx n k → ∀ p a b H S L W U O, post (-(nI (k + 1))) qg qg qs p cD a b H S L W U O)
    (kL : oL tx n → ∀ p a b H S L W U O, post (-15) qg qg qs p cD a b H S L W U O)
    (kC : ∀ r, oS tx n r → (tG tx (r + 1)).Cy → ∀ p a b H S L W U O, post (-1000) qg qg qs p cD a b H S L W U O)
    (kO : ∀ r, oS tx n r → ∀ ρ D od, (tG tx (r + 1)).Od ρ D od → ∀ p H S L W U O, (tG tx (r + 1)).c H S L W → (∀ i, i < r + 1 → U i = b2 ((tG tx (r + 1)).us i)) → (∀ t, t < D → O t = nI (od t)) → post 0 qs qs qg p 0 (nI (r + 1)) (nI D) H S L W U O) :
    v_RT_load qg qs (nI n) tC rP cD sN sD sH sS sL sW sU sO post := by
  unfold v_RT_load
  refine ps_readInto h (fun k hk hall hno a b c d e f => ⟨fun z => absurd z (neg_k k hk), fun _ => kF k ⟨hk, hall, hno⟩ _ _ _ _ _ _ _ _ _⟩) (fun hall a b c d e f => ⟨fun z => absurd z (by decide), fun _ => kL hall _ _ _ _ _ _ _ _ _⟩) (fun r hr hall hg hn a c d e f hrel => ⟨fun _ => ?_, fun z => absurd rfl z⟩)
  have hS : oS tx n r := ⟨hr, hall, hg, hn⟩
  have hw := oS_wf hS
  have hc : (tG tx (r + 1)).c c d e f := hrel
  refine ps_markUseful (G := tG tx (r + 1)) hw (Nat.succ_pos r) hc (fun u hu => ?_)
  refine ps_orderUseful (G := tG tx (r + 1)) hw hc hu (fun ρ D od o' hod ho => ⟨fun z => absurd z (by decide), fun _ => ?_⟩) (fun hcy d' o' => ⟨fun _ => kC r hS hcy _ _ _ _ _ _ _ _ _, fun z => absurd rfl z⟩)
  unfold v_Chart_restart
  exact kO r hS ρ D od hod _ _ _ _ _ _ _ hc hu ho
/-- the model takes its new rules over -/
theorem ps_madopt {G : Gr} (hw : G.WF) {dn : Int32} {mC mH mZ mB mW mU : Nat → Int32} (hm : G.m 14 mH mZ mB mW) (hC : mC 1 = nI G.k) (hu : ∀ i, i < G.k → mU (14 + i) = b2 (G.us i)) {post : Int32 → (Nat → Int32) → (Nat → Int32) → (Nat → Int32) → (Nat → Int32) → (Nat → Int32) → (Nat → Int32) → Prop}
    (k : ∀ c a b d e u, c 0 = nI G.k → G.m 0 a b d e → (∀ i, i < G.k → u i = b2 (G.us i)) → post 0 c a b d e u) : v_M_adopt dn mC mH mZ mB mW mU post := by
  have hk := hw.1
  unfold v_M_adopt
  refine ⟨vp_in_nI (n := 1) (by decide) (by decide), vp_in_nI (n := 0) (by decide) (by decide), ?_⟩
  rw [show ((1 : Int32).toNatClampNeg) = 1 from by decide, show ((0 : Int32).toNatClampNeg) = 0 from by decide, hC]
  refine lp5 (W := fun f x a b c d => v_M_adopt_L14 post (upd mC 0 (nI G.k)) mB f x a b c d) (I := fun x a b c d => ∃ m, m ≤ 14 ∧ x = nI m ∧ (∀ i, a (14 + i) = mH (14 + i) ∧ b (14 + i) = mZ (14 + i) ∧ c (14 + i) = mW (14 + i) ∧ d (14 + i) = mU (14 + i)) ∧ (∀ i, i < m → a i = mH (14 + i) ∧ b i = mZ (14 + i) ∧ c i = mW (14 + i) ∧ (i < G.k → d i = mU (14 + i)))) (μ := fun x _ _ _ _ => 20 - x.toNatClampNeg) ?_ 0 mH mZ mW mU ⟨0, by omega, nI_0.symm, fun i => ⟨rfl, rfl, rfl, rfl⟩, fun i hi => absurd hi (Nat.not_lt_zero i)⟩
  rintro f x a b c d ⟨m, hml, rfl, h1, h2⟩ ih
  show v_M_adopt_L14 post (upd mC 0 (nI G.k)) mB (f + 1) _ _ _ _ _
  unfold v_M_adopt_L14
  rw [p_1, show (14 : Int32) + nI m = nI (14 + m) from nI_add 14 m]
  refine p_le (a := 14) (by decide) (by omega) (fun h => ?_) (fun h => ?_)
  rotate_left
  · have in1 : vp_in (nI (14 + m)) 28 := vp_in_nI (by omega) (by decide)
    have in2 : vp_in (nI m) 28 := vp_in_nI (by omega) (by decide)
    refine ⟨in1, in2, in1, in2, in1, in2, in1, in2, ih _ _ _ _ _ ⟨m + 1, by omega, rfl, fun i => ?_, fun i hi => ?_⟩ (p_mu (by omega) (by decide) rfl)⟩
    · rw [nI_clamp (by omega), nI_clamp (by omega), pk_un (by omega), pk_un (by omega), pk_un (by omega), pk_un (by omega)]
      exact h1 i
    · rw [nI_clamp (by omega), nI_clamp (by omega)]
      by_cases e : i = m
      · subst e
        rw [pk_us, pk_us, pk_us, pk_us]
        obtain ⟨y1, y2, y3, y4⟩ := h1 i
        refine ⟨y1, y2, y3, fun hik => ?_⟩
        rw [y4, hu i hik, b2_nar]
      · rw [pk_un e, pk_un e, pk_un e, pk_un e]
        exact h2 i (by omega)
  refine lp2 (W := fun f x g => v_M_adopt_L88 post (upd mC 0 (nI G.k)) a b c d f x g) (I := fun x g => ∃ m, m ≤ 42 ∧ x = nI m ∧ (∀ q, g (42 + q) = mB (42 + q)) ∧ (∀ i j, i < G.k → j < G.ln i → 3 * i + j < m → g (3 * i + j) = mB (42 + (3 * i + j)))) (μ := fun x _ => 50 - x.toNatClampNeg) ?_ 0 mB ⟨0, by omega, nI_0.symm, fun _ => rfl, fun i j _ _ hi => absurd hi (Nat.not_lt_zero _)⟩
  rintro f x g ⟨q, hq, rfl, g1, g2⟩ ih
  show v_M_adopt_L88 post (upd mC 0 (nI G.k)) a b c d (f + 1) _ _
  unfold v_M_adopt_L88
  rw [p_1, show (42 : Int32) + nI q = nI (42 + q) from nI_add 42 q]
  refine p_le (a := 42) (by decide) (by omega) (fun h' => ?_) (fun h' => ⟨vp_in_nI (by omega) (by decide), vp_in_nI (by omega) (by decide), ih _ _ ⟨q + 1, by omega, rfl, fun z => ?_, fun i j hi hj hlt => ?_⟩ (p_mu (by omega) (by decide) rfl)⟩)
  · refine k _ _ _ _ _ _ pk_us (fun i hi => ?_) (fun i hi => by rw [(h2 i (by omega)).2.2.2 hi]; exact hu i hi)
    obtain ⟨y1, y2, y3, -⟩ := h2 i (by omega)
    obtain ⟨c1, c2, c3, c4⟩ := hm i hi
    have h3 := (hw.2 i hi).2.2.1
    rw [Nat.zero_add]
    refine ⟨y1.trans c1, y2.trans c2, y3.trans c3, fun j hj => ?_⟩
    rw [g2 i j hi hj (by omega), ← c4 j hj]
    congr 1
    omega
  · rw [nI_clamp (by omega), pk_un (by omega)]; exact g1 z
  · rw [nI_clamp (by omega), nI_clamp (by omega)]
    by_cases e : 3 * i + j = q
    · have h3 := (hw.2 i hi).2.2.1
      have hs := (hw.2 i hi).2.2.2.2 j hj
      have hs2 : G.sy i j < 256 := by unfold isL isT at hs; omega
      rw [e, pk_us, g1, ← e]
      have : mB (42 + (3 * i + j)) = nI (G.sy i j) := by
        rw [← (hm i hi).2.2.2 j hj]
        congr 1
        omega
      rw [this, p_char2 hs2]
    · rw [pk_un e]; exact g2 i j hi hj (by omega)
theorem ps_mload2 {n : Nat} {tx : Nat → Nat} {t : Nat → Int32} (h : rTx n tx t) {f0 a0 dn : Int32} {mC mH mZ mB mW mU mP mR mL : Nat → Int32} {post : Int32 → Int32 → Int32 → Int32 → (Nat → Int32) → (Nat → Int32) → (Nat → Int32) → (Nat → Int32) → (Nat → Int32) → (Nat → Int32) → (Nat → Int32) → (Nat → Int32) → (Nat → Int32) → Prop}
    (kF : ∀ k, oF tx n k → ∀ a c b0 b1 b4 b3 u p q l, c 0 = mC 0 → keepM 14 mH mZ mB mW b0 b1 b4 b3 → (∀ i, i < 14 → u i = mU i) → post (-(nI (k + 1))) 0 a dn c b0 b1 b4 b3 u p q l)
    (kL : oL tx n → ∀ a c b0 b1 b4 b3 u p q l, c 0 = mC 0 → keepM 14 mH mZ mB mW b0 b1 b4 b3 → (∀ i, i < 14 → u i = mU i) → post (-15) 0 a dn c b0 b1 b4 b3 u p q l)
    (kC : ∀ r, oS tx n r → (∃ l, l < 5 ∧ 4 < (tG tx (r + 1)).LV 6 0 l) → ∀ a c b0 b1 b4 b3 u p q l, c 0 = mC 0 → keepM 14 mH mZ mB mW b0 b1 b4 b3 → (∀ i, i < 14 → u i = mU i) → post (-1000) 0 a dn c b0 b1 b4 b3 u p q l)
    (kO : ∀ r, oS tx n r → (∀ l, l < 5 → (tG tx (r + 1)).LV 6 0 l ≤ 4) → ∀ a c b0 b1 b4 b3 u p q l, c 0 = nI (r + 1) → (tG tx (r + 1)).m 0 b0 b1 b4 b3 → (∀ i, i < r + 1 → u i = b2 ((tG tx (r + 1)).us i)) → post 0 0 a 0 c b0 b1 b4 b3 u p q l) :
    v_M_load f0 (nI n) a0 dn t mC mH mZ mB mW mU mP mR mL post := by
  refine ps_mload h (fun k hk hall hno a c b0 b1 b4 b3 e1 e2 => kF k ⟨hk, hall, hno⟩ _ _ _ _ _ _ _ _ _ _ e1 e2 (fun _ _ => rfl)) (fun hall a c b0 b1 b4 b3 e1 e2 => kL hall _ _ _ _ _ _ _ _ _ _ e1 e2 (fun _ _ => rfl)) (fun r hr hall hg hn a c b0 b1 b4 b3 e1 e2 e3 e4 => ?_)
  have hS : oS tx n r := ⟨hr, hall, hg, hn⟩
  have hw := oS_wf hS
  have hm : (tG tx (r + 1)).m 14 b0 b1 b4 b3 := e4
  refine ps_mfindUseful (G := tG tx (r + 1)) hw (Nat.succ_pos r) hm e2 (fun u p q hu hk => ?_)
  refine ps_misRound (G := tG tx (r + 1)) hw hm e2 hu (fun hx v => ⟨fun z => absurd z (by decide), fun _ => kC r hS hx _ _ _ _ _ _ _ _ _ _ e1 e3 hk⟩) (fun hx v => ⟨fun _ => ?_, fun z => absurd rfl z⟩)
  exact ps_madopt (G := tG tx (r + 1)) hw hm e2 hu (fun c' a' b' d' e' u' z1 z2 z3 => kO r hS hx _ _ _ _ _ _ _ _ _ _ z1 z2 z3)
