/-! fertileLetters and markUseful. -/
theorem p_in14 {i : Nat} (h : i < 14) : vp_in (nI i) 14 := vp_in_nI h (by decide)
theorem p_1 (a : Nat) : nI a + (1 : Int32) = nI (a + 1) := nI_add a 1
section MK
variable {G : Gr}
theorem ps_fertile (hw : G.WF) {gH gS gL gW : Nat → Int32} (hc : G.c gH gS gL gW) {post : Int32 → Prop} (k : post (bms G.fert)) : v_Grammar_fertileLetters (nI G.k) gH gS gL post := by
  have hk := hw.1
  unfold v_Grammar_fertileLetters
  refine lp2 (W := fun f a b => v_Grammar_fertileLetters_L4 post (nI G.k) gH gS gL f a b) (I := fun x1 x2 => ∃ t, t ≤ 5 ∧ x1 = bms (itr (fun X _ => itr G.fs G.k X) t (fun _ => false)) ∧ x2 = nI t) (μ := fun _ x2 => 9 - x2.toNatClampNeg) ?_ 0 0 ⟨0, by omega, bms_0.symm, nI_0.symm⟩
  rintro f x1 x2 ⟨t, ht, rfl, rfl⟩ ih
  show v_Grammar_fertileLetters_L4 post (nI G.k) gH gS gL (f + 1) _ _
  unfold v_Grammar_fertileLetters_L4
  refine p_le (a := 5) (by decide) (by omega) (fun h => ?_) (fun h => ?_)
  · have e : t = 5 := by omega
    subst e
    exact k
  refine lp2 (W := fun f' a b => v_Grammar_fertileLetters_L11 (v_Grammar_fertileLetters_L4 post (nI G.k) gH gS gL f) (nI G.k) gH gS gL (nI t) f' a b) (I := fun x1 x3 => ∃ m, m ≤ G.k ∧ x1 = bms (itr G.fs m (itr (fun X _ => itr G.fs G.k X) t (fun _ => false))) ∧ x3 = nI m) (μ := fun _ x3 => 20 - x3.toNatClampNeg) ?_ _ 0 ⟨0, by omega, rfl, nI_0.symm⟩
  rintro f' x1 x3 ⟨m, hm, rfl, rfl⟩ ih'
  show v_Grammar_fertileLetters_L11 _ (nI G.k) gH gS gL (nI t) (f' + 1) _ _
  unfold v_Grammar_fertileLetters_L11
  rw [p_1, p_1]
  refine p_le (by omega) (by omega) (fun h' => ?_) (fun h' => ?_)
  · have e : m = G.k := by omega
    subst e
    exact ih _ _ ⟨t + 1, by omega, rfl, rfl⟩ (p_mu (by omega) (by decide) rfl)
  refine ps_lettersIn hw hc h' ?_
  have step : itr G.fs (m + 1) (itr (fun X _ => itr G.fs G.k X) t (fun _ => false)) = ad5 (itr G.fs m (itr (fun X _ => itr G.fs G.k X) t (fun _ => false))) (sb5 (G.lt m) (itr G.fs m (itr (fun X _ => itr G.fs G.k X) t (fun _ => false)))) (one5 (G.hd m)) := rfl
  rw [bms_sub]
  have hmu := p_mu (M := 20) (a := m) (by omega) (by decide) rfl
  refine ⟨fun hs => ⟨p_in14 (by omega), ?_⟩, fun hs => ?_⟩
  · rw [nI_clamp (by omega), (hc m h').1]
    refine ps_bitOf (hw.2 m h').1 (ih' _ _ ⟨m + 1, h', ?_, rfl⟩ hmu)
    rw [bms_or, step, hs, ad5_t]
  · refine ih' _ _ ⟨m + 1, h', ?_, rfl⟩ hmu
    rw [Bool.not_eq_true] at hs
    rw [step, hs, ad5_f]
/-- the class's marks are those of the useful rules -/
theorem ps_markUseful (hw : G.WF) (h0 : 0 < G.k) {gH gS gL gW gU : Nat → Int32} (hc : G.c gH gS gL gW) {post : (Nat → Int32) → Prop} (k : ∀ u, (∀ i, i < G.k → u i = b2 (G.us i)) → post u) : v_Grammar_markUseful (nI G.k) gH gS gL gU post := by
  have hk := hw.1
  unfold v_Grammar_markUseful
  refine ps_fertile hw hc ⟨vp_in_nI (n := 0) (by decide) (by decide), ?_⟩
  rw [show (0 : Int32).toNatClampNeg = 0 from by decide, (hc 0 h0).1]
  refine ps_bitOf (hw.2 0 h0).1 ?_
  refine lp2 (W := fun f a b => v_Grammar_markUseful_L17 post (nI G.k) gH gS gL (bms G.fert) (bms (one5 (G.hd 0))) f a b) (I := fun x3 u => ∃ m, m ≤ G.k ∧ x3 = nI m ∧ ∀ i, i < m → u i = 0) (μ := fun x3 _ => 20 - x3.toNatClampNeg) ?_ 0 gU ⟨0, by omega, nI_0.symm, fun i hi => absurd hi (Nat.not_lt_zero i)⟩
  rintro f x3 u ⟨m, hm, rfl, hu⟩ ih
  show v_Grammar_markUseful_L17 post (nI G.k) gH gS gL (bms G.fert) (bms (one5 (G.hd 0))) (f + 1) _ _
  unfold v_Grammar_markUseful_L17
  rw [p_1]
  refine p_le (by omega) (by omega) (fun h => ?_) (fun h => ?_)
  rotate_left
  · refine ⟨p_in14 (by omega), ih _ _ ⟨m + 1, h, rfl, fun i hi => ?_⟩ (p_mu (by omega) (by decide) rfl)⟩
    rw [nI_clamp (by omega), show vp_nar .boolean (0 : Int32) = 0 from rfl]
    by_cases e : i = m
    · subst e; exact pk_us
    · rw [pk_un e]; exact hu i (by omega)
  have e : m = G.k := by omega
  subst e
  let X : Nat → Nat → Bool := fun t => itr (fun X _ => itr (G.rs G.fert) G.k X) t (one5 (G.hd 0))
  have Xs : ∀ t, X (t + 1) = itr (G.rs G.fert) G.k (X t) := fun t => rfl
  have hm1 : ∀ S i l, S l = true → G.rs G.fert S i l = true := fun S i l h => ad5_mono h
  have hm2 : ∀ S (i : Nat) l, S l = true → itr (G.rs G.fert) G.k S l = true := fun S i l h => itr_mono hm1 (m := 0) (Nat.zero_le _) h
  have Xle : ∀ t m l, t < 5 → m ≤ G.k → itr (G.rs G.fert) m (X t) l = true → G.rch l = true := fun t m l ht hm q => by
    have q1 : X (t + 1) l = true := by rw [Xs]; exact itr_mono hm1 hm q
    exact itr_mono (st := fun X _ => itr (G.rs G.fert) G.k X) hm2 (m := t + 1) (n := 5) (by omega) q1
  refine lp3 (W := fun f a b c => v_Grammar_markUseful_L40 post (nI G.k) gH gS gL (bms G.fert) f a b c) (I := fun x2 x3 u => ∃ t, t ≤ 5 ∧ x2 = bms (X t) ∧ x3 = nI t ∧ (∀ i, i < G.k → (u i = 0 ∨ u i = 1) ∧ (u i = 1 → G.us i = true)) ∧ (t = 5 → ∀ i, i < G.k → G.us i = true → u i = 1)) (μ := fun _ x3 _ => 9 - x3.toNatClampNeg) ?_ _ 0 u ⟨0, by omega, rfl, nI_0.symm, fun i hi => ⟨Or.inl (hu i hi), fun q => absurd ((hu i hi).symm.trans q) (by decide)⟩, fun q => absurd q (by decide)⟩
  rintro f x2 x3 u ⟨t, ht, rfl, rfl, u1, u2⟩ ih
  show v_Grammar_markUseful_L40 post (nI G.k) gH gS gL (bms G.fert) (f + 1) _ _ _
  unfold v_Grammar_markUseful_L40
  refine p_le (a := 5) (by decide) (by omega) (fun h => k u fun i hi => ?_) (fun h => ?_)
  · have e : t = 5 := by omega
    cases hus : G.us i with
    | true => exact u2 e i hi hus
    | false =>
      rcases (u1 i hi).1 with q | q
      · exact q
      · exact absurd ((u1 i hi).2 q) (by rw [hus]; decide)
  refine lp3 (W := fun f' a b c => v_Grammar_markUseful_L48 (v_Grammar_markUseful_L40 post (nI G.k) gH gS gL (bms G.fert) f) (nI G.k) gH gS gL (bms G.fert) (nI t) f' a b c) (I := fun x2 x4 u => ∃ m, m ≤ G.k ∧ x2 = bms (itr (G.rs G.fert) m (X t)) ∧ x4 = nI m ∧ (∀ i, i < G.k → (u i = 0 ∨ u i = 1) ∧ (u i = 1 → G.us i = true)) ∧ (∀ i, i < m → X t (G.hd i) = true → sb5 (G.lt i) G.fert = true → u i = 1)) (μ := fun _ x4 _ => 20 - x4.toNatClampNeg) ?_ _ 0 u ⟨0, by omega, rfl, nI_0.symm, u1, fun i hi => absurd hi (Nat.not_lt_zero i)⟩
  rintro f' x2 x4 u ⟨m, hm, rfl, rfl, v1, v2⟩ ih'
  show v_Grammar_markUseful_L48 _ (nI G.k) gH gS gL (bms G.fert) (nI t) (f' + 1) _ _ _
  unfold v_Grammar_markUseful_L48
  rw [p_1, p_1]
  refine p_le (by omega) (by omega) (fun h' => ?_) (fun h' => ?_)
  · have e : m = G.k := by omega
    subst e
    refine ih _ _ _ ⟨t + 1, by omega, rfl, rfl, v1, fun q i hi hus => ?_⟩ (p_mu (by omega) (by decide) rfl)
    have e4 : t = 4 := by omega
    subst e4
    unfold Gr.us at hus
    rw [Bool.and_eq_true] at hus
    refine v2 i hi ?_ hus.2
    rw [Gr.rch_4 hw h0] at hus
    exact hus.1
  refine ps_lettersIn hw hc h' ⟨p_in14 (by omega), ?_⟩
  have hmu := p_mu (M := 20) (a := m) (by omega) (by decide) rfl
  have step : itr (G.rs G.fert) (m + 1) (X t) = ad5 (itr (G.rs G.fert) m (X t)) (itr (G.rs G.fert) m (X t) (G.hd m) && sb5 (G.lt m) G.fert) (G.lt m) := rfl
  rw [nI_clamp (by omega), (hc m h').1]
  refine ps_bitOf (hw.2 m h').1 ?_
  rw [bms_bit _ (hw.2 m h').1, bms_sub]
  have Xt : X t (G.hd m) = true → itr (G.rs G.fert) m (X t) (G.hd m) = true := fun q => itr_mono hm1 (m := 0) (Nat.zero_le _) q
  refine ⟨fun hr => ?_, fun hr => ⟨fun hs => ⟨p_in14 (by omega), ?_⟩, fun hs => ?_⟩⟩
  · refine ih' _ _ _ ⟨m + 1, h', by rw [step, hr, Bool.false_and, ad5_f], rfl, v1, fun i hi q1 q2 => ?_⟩ hmu
    by_cases e : i = m
    · subst e; exact absurd (Xt q1) (by rw [hr]; decide)
    · exact v2 i (by omega) q1 q2
  · rw [Bool.not_eq_false] at hr
    refine ih' _ _ _ ⟨m + 1, h', by rw [step, hr, hs, bms_or]; rfl, rfl, fun i hi => ?_, fun i hi q1 q2 => ?_⟩ hmu
    · by_cases e : i = m
      · subst e
        rw [pk_us]
        refine ⟨Or.inr rfl, fun _ => ?_⟩
        unfold Gr.us
        rw [hs, Xle t i _ (by omega) (by omega) hr]
        rfl
      · rw [pk_un e]; exact v1 i hi
    · by_cases e : i = m
      · subst e; exact pk_us
      · rw [pk_un e]; exact v2 i (by omega) q1 q2
  · rw [Bool.not_eq_true] at hs
    refine ih' _ _ _ ⟨m + 1, h', by rw [step, hs, Bool.and_false, ad5_f], rfl, v1, fun i hi q1 q2 => ?_⟩ hmu
    by_cases e : i = m
    · subst e; exact absurd q2 (by rw [hs]; decide)
    · exact v2 i (by omega) q1 q2
end MK
