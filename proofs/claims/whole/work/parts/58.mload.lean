/-! The model's load, up to where the rules are read. -/
/-- the model's arrays hold the rules below r, from row o on -/
def mRel (o r : Nat) (hd ln : Nat → Nat) (sy : Nat → Nat → Nat) (wt : Nat → Nat) (mH mZ mB mW : Nat → Int32) : Prop :=
  ∀ i, i < r → mH (o + i) = nI (hd i) ∧ mZ (o + i) = nI (ln i) ∧ mW (o + i) = nI (wt i) ∧ ∀ j, j < ln i → mB (3 * (o + i) + j) = nI (sy i j)
theorem keepM.tr {R R' : Nat} {mH mZ mB mW a b c d a' b' c' d' : Nat → Int32} (hR : R ≤ R') (h : keepM R mH mZ mB mW a b c d) (h' : keepM R' a b c d a' b' c' d') : keepM R mH mZ mB mW a' b' c' d' :=
  ⟨fun i hi => by
    obtain ⟨x1, x2, x3⟩ := h.1 i hi
    obtain ⟨y1, y2, y3⟩ := h'.1 i (by omega)
    exact ⟨y1.trans x1, y2.trans x2, y3.trans x3⟩, fun q hq => (h'.2 q (by omega)).trans (h.2 q hq)⟩
theorem mRel.keep {o r : Nat} {hd ln : Nat → Nat} {sy : Nat → Nat → Nat} {wt : Nat → Nat} {mH mZ mB mW a b c d : Nat → Int32} (h : mRel o r hd ln sy wt mH mZ mB mW) (hl : ∀ i, i < r → ln i ≤ 3) (k : keepM (o + r) mH mZ mB mW a b c d) : mRel o r hd ln sy wt a b c d := fun i hi => by
  obtain ⟨x1, x2, x3, x4⟩ := h i hi
  obtain ⟨y1, y2, y3⟩ := k.1 (o + i) (by omega)
  have := hl i hi
  exact ⟨y1.trans x1, y2.trans x2, y3.trans x3, fun j hj => (k.2 _ (by omega)).trans (x4 j hj)⟩
theorem ps_mload {n : Nat} {tx : Nat → Nat} {t : Nat → Int32} (h : rTx n tx t) {f0 a0 dn : Int32} {mC mH mZ mB mW mU mP mR mL : Nat → Int32} {post : Int32 → Int32 → Int32 → Int32 → (Nat → Int32) → (Nat → Int32) → (Nat → Int32) → (Nat → Int32) → (Nat → Int32) → (Nat → Int32) → (Nat → Int32) → (Nat → Int32) → (Nat → Int32) → Prop}
    (hf : ∀ k, k < 14 → (∀ j, j < k → tGood tx j ∧ ppos tx (j + 1) < n) → ¬ tGood tx k → ∀ a c b0 b1 b2 b3, c 0 = mC 0 → keepM 14 mH mZ mB mW b0 b1 b2 b3 → post (-(nI (k + 1))) 0 a dn c b0 b1 b2 b3 mU mP mR mL)
    (h15 : (∀ j, j < 14 → tGood tx j ∧ ppos tx (j + 1) < n) → ∀ a c b0 b1 b2 b3, c 0 = mC 0 → keepM 14 mH mZ mB mW b0 b1 b2 b3 → post (-15) 0 a dn c b0 b1 b2 b3 mU mP mR mL)
    (hs : ∀ r, r < 14 → (∀ j, j < r → tGood tx j ∧ ppos tx (j + 1) < n) → tGood tx r → n ≤ ppos tx (r + 1) → ∀ a (c b0 b1 b2 b3 : Nat → Int32), c 0 = mC 0 → c 1 = nI (r + 1) → keepM 14 mH mZ mB mW b0 b1 b2 b3 → mRel 14 (r + 1) (tHd tx) (tLn tx) (tSy tx) (tWt tx) b0 b1 b2 b3 →
      v_M_findUseful c b0 b1 b2 mU mP mR (fun u p q => v_M_isRound c b0 b1 b2 u mL (fun r73 l => (r73 = 0 → v_M_adopt dn c b0 b1 b2 b3 u (fun dn' c' b0' b1' b2' b3' u' => post 0 0 a dn' c' b0' b1' b2' b3' u' p q l)) ∧ (¬ r73 = 0 → post (-1000) 0 a dn c b0 b1 b2 b3 u p q l)))) :
    v_M_load f0 (nI n) a0 dn t mC mH mZ mB mW mU mP mR mL post := by
  have hn := h.1
  have one : ((1 : Int32).toNatClampNeg) = 1 := by decide
  have in1 : vp_in (1 : Int32) 2 := vp_in_nI (n := 1) (by decide) (by decide)
  unfold v_M_load
  refine ⟨in1, ?_⟩
  rw [one]
  refine lp6 (W := fun f a b c d e g => v_M_load_L17 post (nI n) t 0 dn mU mP mR mL f a b c d e g) (I := fun at9 c b0 b1 b2 b3 => ∃ r, r ≤ 14 ∧ at9 = nI (ppos tx r) ∧ ppos tx r ≤ n ∧ c 0 = mC 0 ∧ c 1 = nI r ∧ (∀ j, j < r → tGood tx j ∧ ppos tx j < n) ∧ keepM 14 mH mZ mB mW b0 b1 b2 b3 ∧ mRel 14 r (tHd tx) (tLn tx) (tSy tx) (tWt tx) b0 b1 b2 b3) (μ := fun _ c _ _ _ _ => 20 - (c 1).toNatClampNeg) ?_ 0 (upd mC 1 0) mH mZ mB mW ⟨0, by omega, nI_0.symm, Nat.zero_le _, pk_un (by decide), by rw [pk_us, nI_0], fun j hj => absurd hj (Nat.not_lt_zero j), keepM.rf, fun i hi => absurd hi (Nat.not_lt_zero i)⟩
  rintro f at9 c b0 b1 b2 b3 ⟨r, hr, rfl, hle, c0, c1, hall, hkeep, hrel⟩ ih
  show v_M_load_L17 post (nI n) t 0 dn mU mP mR mL (f + 1) _ _ _ _ _ _
  unfold v_M_load_L17
  rw [one, c1]
  refine p_le (by omega) (by omega) (fun hend => ⟨in1, ?_⟩) (fun hmore => ?_)
  · refine ⟨fun z => ?_, fun z => ?_⟩
    · have r0 : r = 0 := (p_eq0 (by omega)).mp z
      subst r0
      have n0 : n = 0 := Nat.le_zero.mp hend
      have t0 : tx 0 = 0 := h.2.2 0 (by omega)
      refine hf 0 (by decide) (fun j hj => absurd hj (Nat.not_lt_zero j)) (fun y => ?_) _ _ _ _ _ _ c0 hkeep
      have := y.1.1.1
      simp only [ppos] at this
      omega
    · have r0 : r ≠ 0 := fun y => z ((p_eq0 (by omega)).mpr y)
      obtain ⟨r', rfl⟩ : ∃ r', r = r' + 1 := ⟨r - 1, by omega⟩
      exact hs r' (by omega) (fun j hj => ⟨(hall j (by omega)).1, (hall (j + 1) (by omega)).2⟩) (hall r' (by omega)).1 hend _ _ _ _ _ _ c0 c1 hkeep hrel
  · have hall' : ∀ j, j < r → tGood tx j ∧ ppos tx (j + 1) < n := fun j hj => ⟨(hall j hj).1, by
      by_cases e : j + 1 = r
      · rw [e]; exact hmore
      · exact (hall (j + 1) (by omega)).2⟩
    by_cases e14 : r = 14
    · subst e14
      unfold v_M_readRule
      rw [one, c1]
      exact ⟨in1, fun _ => ⟨fun _ => ⟨in1, h15 hall' _ _ _ _ _ _ c0 hkeep⟩, fun z => absurd rfl z⟩, fun z => absurd rfl z⟩
    have hr14 : r < 14 := by omega
    have neg : (-1 : Int32) - nI r = -(nI (r + 1)) := by
      rw [show nI (r + 1) = nI r + 1 from nI_succ r, Int32.neg_add, Int32.sub_eq_add_neg, Int32.add_comm, Int32.sub_eq_add_neg]
    rw [neg]
    refine ps_mreadRule h hr14 (by omega) c1 (fun hb a b0' b1' b2' b3' hk' => ⟨fun _ => ⟨in1, hf r hr14 hall' (fun y => hb y.1) _ _ _ _ _ _ c0 (hkeep.tr (by omega) hk')⟩, fun z => absurd rfl z⟩) (fun hok b0' b1' b2' b3' hk' e0 e1 e2 e3 => ?_)
    have hwf := t_wf hok
    have hl3 : ∀ i, i < r → tLn tx i ≤ 3 := fun i hi => (t_wf (hall i hi).1.1).2.2.1
    have hkeep' := hkeep.tr (by omega) hk'
    have hrel' : mRel 14 (r + 1) (tHd tx) (tLn tx) (tSy tx) (tWt tx) b0' b1' b2' b3' := fun i hi => by
      by_cases e : i = r
      · subst e; exact ⟨e0, e1, e3, e2⟩
      · exact hrel.keep hl3 hk' i (by omega)
    have hWF : gWF (r + 1) (tHd tx) (tLn tx) (tSy tx) (tWt tx) := fun i hi => by
      by_cases e : i = r
      · subst e; exact hwf
      · exact t_wf (hall i (by omega)).1.1
    have htw : ∀ o, o < r → (mTwin b0' b1' b2' (14 + r) (14 + o) (pK tx (ppos tx r)) ↔ gTwin (tHd tx) (tLn tx) (tSy tx) r o) := fun o ho => by
      obtain ⟨x1, x2, -, x4⟩ := hrel' r (by omega)
      obtain ⟨y1, y2, -, y4⟩ := hrel' o (by omega)
      obtain ⟨u1, u2, u3, -, u5⟩ := hWF r (by omega)
      obtain ⟨w1, w2, w3, -, w5⟩ := hWF o (by omega)
      have sm : ∀ {c : Nat}, isL c ∨ isT c → c < 2 ^ 31 := fun h => by unfold isL isT at h; omega
      unfold mTwin gTwin
      rw [x1, y1, x2, y2, nI_eq (by omega) (by omega), nI_eq (by omega) (by omega)]
      constructor
      · rintro ⟨z1, z2, z3⟩
        refine ⟨z1, z2, fun j hj => ?_⟩
        have := z3 j hj
        rw [x4 j hj, y4 j (by omega), nI_eq (sm (w5 j (by omega))) (sm (u5 j hj))] at this
        exact this
      · rintro ⟨z1, z2, z3⟩
        refine ⟨z1, z2, fun j hj => ?_⟩
        rw [x4 j hj, y4 j (by rw [z2]; exact hj), z3 j hj]
    refine ⟨fun ⟨q, hq1, hq2, hz⟩ a => ⟨fun _ => ⟨in1, hf r hr14 hall' (fun z => ?_) _ _ _ _ _ _ c0 hkeep'⟩, fun z => absurd rfl z⟩, fun hno => ⟨fun z => absurd z (by decide), fun _ => ⟨in1, in1, ?_⟩⟩⟩
    · obtain ⟨o, rfl⟩ : ∃ o, q = 14 + o := ⟨q - 14, by omega⟩
      exact z.2 o (by omega) ((htw o (by omega)).mp hz)
    · have hgood : tGood tx r := ⟨hok, fun o ho z => hno (14 + o) (by omega) (by omega) ((htw o ho).mpr z)⟩
      have hE : pE tx (ppos tx r) < n := h.inside (by rw [hok.2.2.2.2]; decide)
      refine ih _ _ _ _ _ _ ⟨r + 1, by omega, rfl, hE, by rw [pk_un (by decide)]; exact c0, by rw [pk_us]; exact nI_add r 1, fun j hj => ?_, hkeep', hrel'⟩ ?_
      · by_cases e : j = r
        · subst e; exact ⟨hgood, hmore⟩
        · exact hall j (by omega)
      · rw [pk_us, c1, show nI r + (1 : Int32) = nI (r + 1) from nI_add r 1]
        exact p_mu (by omega) (by decide) rfl
