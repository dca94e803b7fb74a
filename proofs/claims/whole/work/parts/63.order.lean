/-! The order of the useful rules. -/
def cnt (P : Nat → Bool) : Nat → Nat
  | 0 => 0
  | m + 1 => cnt P m + (P m).toNat
theorem cnt_le (P : Nat → Bool) : ∀ {m n : Nat}, m ≤ n → cnt P m ≤ cnt P n := by
  intro m n h
  induction n with
  | zero => rw [Nat.le_zero.mp h]; exact Nat.le_refl _
  | succ n ih =>
    by_cases e : m = n + 1
    · rw [e]; exact Nat.le_refl _
    · exact Nat.le_trans (ih (by omega)) (Nat.le_add_right _ _)
theorem cnt_add {P Q R : Nat → Bool} (h : ∀ i, (R i).toNat = (P i).toNat + (Q i).toNat) : ∀ m, cnt R m = cnt P m + cnt Q m := by
  intro m
  induction m with
  | zero => rfl
  | succ m ih => have := h m; unfold cnt; omega
theorem cnt_m (P : Nat → Bool) : ∀ m, cnt P m ≤ m := by
  intro m
  induction m with
  | zero => exact Nat.le_refl _
  | succ m ih => have q : ∀ b : Bool, b.toNat ≤ 1 := by decide
                 have := q (P m); unfold cnt; omega
section OR
variable {G : Gr}
/-- rule i is useful and has the letter x alone -/
def Gr.uni (G : Gr) (i x : Nat) : Prop := G.us i = true ∧ G.ln i = 1 ∧ G.sy i 0 = 65 + x
/-- the letters that stand alone under l, by the rules below m -/
def Gr.alm (G : Gr) (l : Nat) : Nat → Nat → Bool
  | 0 => fun _ => false
  | m + 1 => ad5 (G.alm l m) (G.us m && G.hd m == l && G.ln m == 1) (G.lt m)
def Gr.al (G : Gr) (l : Nat) : Nat → Bool := G.alm l G.k
theorem Gr.alm_5 {l x : Nat} : ∀ {m : Nat}, G.alm l m x = true → x < 5 := by
  intro m
  induction m with
  | zero => intro h; exact absurd h (by simp [Gr.alm])
  | succ m ih =>
    intro h
    simp only [Gr.alm, ad5, Bool.or_eq_true, Bool.and_eq_true] at h
    rcases h with h | h
    · exact ih h
    · exact G.ltm_5 m h.2
theorem Gr.alm_iff {l x : Nat} (hx : x < 5) : ∀ {m : Nat}, G.alm l m x = true ↔ ∃ i, i < m ∧ G.hd i = l ∧ G.uni i x := by
  intro m
  induction m with
  | zero => simp [Gr.alm]
  | succ m ih =>
    have one : (G.us m && G.hd m == l && G.ln m == 1 && G.lt m x) = true ↔ G.hd m = l ∧ G.uni m x := by
      simp only [Bool.and_eq_true, beq_iff_eq, Gr.uni]
      constructor
      · rintro ⟨⟨⟨h1, h2⟩, h3⟩, h4⟩
        unfold Gr.lt at h4
        rw [h3, Gr.ltm_iff] at h4
        obtain ⟨-, j, hj, e⟩ := h4
        have : j = 0 := by omega
        subst this
        exact ⟨h2, h1, h3, e⟩
      · rintro ⟨h2, h1, h3, e⟩
        refine ⟨⟨⟨h1, h2⟩, h3⟩, ?_⟩
        unfold Gr.lt
        rw [h3, Gr.ltm_iff]
        exact ⟨hx, 0, by decide, e⟩
    show (G.alm l m x || (G.us m && G.hd m == l && G.ln m == 1 && G.lt m x)) = true ↔ _
    rw [Bool.or_eq_true, ih, one]
    constructor
    · rintro (⟨i, hi, q⟩ | q)
      · exact ⟨i, by omega, q⟩
      · exact ⟨m, by omega, q⟩
    · rintro ⟨i, hi, q⟩
      by_cases e : i = m
      · subst e; exact Or.inr q
      · exact Or.inl ⟨i, by omega, q⟩
theorem ps_aloneUnder (hw : G.WF) {gH gS gL gW gU : Nat → Int32} (hc : G.c gH gS gL gW) (hu : ∀ i, i < G.k → gU i = b2 (G.us i)) {l : Nat} (hl : l < 5) {post : Int32 → Prop} (k : post (bms (G.al l))) : v_Grammar_aloneUnder (nI (65 + l)) (nI G.k) gH gS gL gU post := by
  have hk := hw.1
  unfold v_Grammar_aloneUnder
  refine lp2 (W := fun f a b => v_Grammar_aloneUnder_L4 post (nI G.k) gH gS gL gU (nI (65 + l)) f a b) (I := fun x2 x3 => ∃ m, m ≤ G.k ∧ x2 = bms (G.alm l m) ∧ x3 = nI m) (μ := fun _ x3 => 20 - x3.toNatClampNeg) ?_ 0 0 ⟨0, Nat.zero_le _, bms_0.symm, nI_0.symm⟩
  rintro f x2 x3 ⟨m, hm, rfl, rfl⟩ ih
  show v_Grammar_aloneUnder_L4 post (nI G.k) gH gS gL gU (nI (65 + l)) (f + 1) _ _
  unfold v_Grammar_aloneUnder_L4
  rw [p_1]
  refine p_le (by omega) (by omega) (fun h => ?_) (fun h => ⟨p_in14 (by omega), ?_⟩)
  · have e : m = G.k := by omega
    subst e
    exact k
  obtain ⟨c1, c2, -, -, -⟩ := hc m h
  obtain ⟨w1, w2, w3, -, -⟩ := hw.2 m h
  rw [nI_clamp (by omega), hu m h, c1, c2, b2_0]
  have hmu := p_mu (M := 20) (a := m) (by omega) (by decide) rfl
  have no : (G.us m && G.hd m == l && G.ln m == 1) = false → v_Grammar_aloneUnder_L4 post (nI G.k) gH gS gL gU (nI (65 + l)) f (bms (G.alm l m)) (nI (m + 1)) := fun q =>
    ih _ _ ⟨m + 1, h, by show _ = bms (ad5 _ (G.us m && G.hd m == l && G.ln m == 1) _); rw [q, ad5_f], rfl⟩ hmu
  refine ⟨fun q => no (by rw [q]; rfl), fun q => ⟨p_in14 (by omega), p_eq (by omega) (by omega) (fun e1 => ⟨p_in14 (by omega), p_eq (b := 1) (by omega) (by decide) (fun e2 => ?_) (fun e2 => no ?_)⟩) (fun e1 => no ?_)⟩⟩
  · refine ps_lettersIn hw hc h (ih _ _ ⟨m + 1, h, ?_, rfl⟩ hmu)
    show _ = bms (ad5 _ (G.us m && G.hd m == l && G.ln m == 1) _)
    rw [Bool.not_eq_false] at q
    have e3 : G.hd m = l := by omega
    rw [q, e3, e2, show (true && l == l && (1 : Nat) == 1) = true from by simp, ad5_t, bms_or]
  · rw [beq_eq_false_iff_ne.mpr e2, Bool.and_false]
  · rw [beq_eq_false_iff_ne.mpr (show G.hd m ≠ l from fun z => e1 (by omega)), Bool.and_false, Bool.false_and]
/-- the rules of one letter are put behind the others, in their order -/
theorem ps_appendUseful (hw : G.WF) {gH gS gL gW gU gO : Nat → Int32} (hc : G.c gH gS gL gW) (hu : ∀ i, i < G.k → gU i = b2 (G.us i)) {l D : Nat} (hl : l < 5) {od : Nat → Nat} (hO : ∀ t, t < D → gO t = nI (od t)) (hD : D + cnt (fun i => G.us i && G.hd i == l) G.k ≤ 14) {post : Int32 → (Nat → Int32) → Prop}
    (k : ∀ (D' : Nat) (od' : Nat → Nat) (o' : Nat → Int32), D' = D + cnt (fun i => G.us i && G.hd i == l) G.k → (∀ t, t < D' → o' t = nI (od' t)) → (∀ t, t < D → od' t = od t) → (∀ t, D ≤ t → t < D' → od' t < G.k ∧ G.us (od' t) = true ∧ G.hd (od' t) = l) → (∀ t t', D ≤ t → t < t' → t' < D' → od' t < od' t') → (∀ i, i < G.k → G.us i = true → G.hd i = l → ∃ t, D ≤ t ∧ t < D' ∧ od' t = i) → post (nI D') o') :
    v_Grammar_appendUseful (nI (65 + l)) (nI G.k) (nI D) gH gU gO post := by
  have hk := hw.1
  unfold v_Grammar_appendUseful
  refine lp3 (W := fun f a b c => v_Grammar_appendUseful_L2 post (nI G.k) gH gU (nI (65 + l)) f a b c) (I := fun x2 gD o' => ∃ (m D' : Nat) (od' : Nat → Nat), m ≤ G.k ∧ x2 = nI m ∧ gD = nI D' ∧ D' = D + cnt (fun i => G.us i && G.hd i == l) m ∧ (∀ t, t < D' → o' t = nI (od' t)) ∧ (∀ t, t < D → od' t = od t) ∧ (∀ t, D ≤ t → t < D' → od' t < m ∧ G.us (od' t) = true ∧ G.hd (od' t) = l) ∧ (∀ t t', D ≤ t → t < t' → t' < D' → od' t < od' t') ∧ (∀ i, i < m → G.us i = true → G.hd i = l → ∃ t, D ≤ t ∧ t < D' ∧ od' t = i)) (μ := fun x2 _ _ => 20 - x2.toNatClampNeg) ?_ 0 (nI D) gO ⟨0, D, od, by omega, nI_0.symm, rfl, rfl, hO, fun _ _ => rfl, fun t h1 h2 => by omega, fun t t' h1 h2 h3 => by omega, fun i hi => absurd hi (Nat.not_lt_zero i)⟩
  rintro f x2 gD o' ⟨m, D', od', hm, rfl, rfl, eD, h1, h2, h3, h4, h5⟩ ih
  show v_Grammar_appendUseful_L2 post (nI G.k) gH gU (nI (65 + l)) (f + 1) _ _ _
  unfold v_Grammar_appendUseful_L2
  rw [p_1]
  have hmono := cnt_le (fun i => G.us i && G.hd i == l) hm
  refine p_le (by omega) (by omega) (fun h => ?_) (fun h => ⟨p_in14 (by omega), ?_⟩)
  · have e : m = G.k := by omega
    subst e
    exact k D' od' o' eD h1 h2 h3 h4 h5
  obtain ⟨c1, -, -, -, -⟩ := hc m h
  obtain ⟨w1, -, -, -, -⟩ := hw.2 m h
  rw [nI_clamp (by omega), hu m h, c1, b2_0]
  have hmu := p_mu (M := 20) (a := m) (by omega) (by decide) rfl
  have cs : cnt (fun i => G.us i && G.hd i == l) (m + 1) = cnt (fun i => G.us i && G.hd i == l) m + (G.us m && G.hd m == l).toNat := rfl
  have no : (G.us m && G.hd m == l) = false → v_Grammar_appendUseful_L2 post (nI G.k) gH gU (nI (65 + l)) f (nI (m + 1)) (nI D') o' := fun q => by
    refine ih _ _ _ ⟨m + 1, D', od', h, rfl, rfl, by rw [cs, q]; exact eD, h1, h2, fun t z1 z2 => ?_, h4, fun i hi u1 u2 => ?_⟩ hmu
    · obtain ⟨y1, y2⟩ := h3 t z1 z2
      exact ⟨by omega, y2⟩
    · by_cases e : i = m
      · subst e
        rw [u1, u2] at q
        simp at q
      · exact h5 i (by omega) u1 u2
  refine ⟨fun q => no (by rw [q]; rfl), fun q => ⟨p_in14 (by omega), p_eq (by omega) (by omega) (fun e1 => ?_) (fun e1 => no ?_)⟩⟩
  rotate_left
  · rw [beq_eq_false_iff_ne.mpr (show G.hd m ≠ l from fun z => e1 (by omega)), Bool.and_false]
  rw [Bool.not_eq_false] at q
  have e2 : G.hd m = l := by omega
  have yes : (G.us m && G.hd m == l).toNat = 1 := by rw [q, e2]; simp
  have hm1 := cnt_le (fun i => G.us i && G.hd i == l) (show m + 1 ≤ G.k from h)
  rw [p_1, nI_clamp (by omega)]
  refine p_le (a := 14) (by decide) (by omega) (fun z => by omega) (fun z => ⟨p_in14 (by omega), ih _ _ _ ⟨m + 1, D' + 1, fun t => if t = D' then m else od' t, h, rfl, rfl, by omega, fun t ht => ?_, fun t ht => ?_, fun t z1 z2 => ?_, fun t t' z1 z2 z3 => ?_, fun i hi u1 u2 => ?_⟩ hmu⟩)
  · by_cases e : t = D'
    · rw [e, pk_us]; simp
    · rw [pk_un e, h1 t (by omega)]; simp [e]
  · simp only [show ¬ t = D' by omega, if_false]; exact h2 t ht
  · by_cases e : t = D'
    · simp only [e, if_true]; exact ⟨by omega, q, e2⟩
    · simp only [e, if_false]
      obtain ⟨y1, y2⟩ := h3 t z1 (by omega)
      exact ⟨by omega, y2⟩
  · have et : ¬ t = D' := by omega
    simp only [et, if_false]
    by_cases e : t' = D'
    · simp only [e, if_true]; exact (h3 t z1 (by omega)).1
    · simp only [e, if_false]; exact h4 t t' z1 z2 (by omega)
  · by_cases e : i = m
    · exact ⟨D', by omega, by omega, by simp [e]⟩
    · obtain ⟨t, y1, y2, y3⟩ := h5 i (by omega) u1 u2
      exact ⟨t, y1, by omega, by simp only [show ¬ t = D' by omega, if_false]; exact y3⟩
end OR
