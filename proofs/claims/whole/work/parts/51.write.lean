/-! write: class and model append the same characters, or refuse both. -/
def pcnt (x : Int64) : Nat → Nat
  | 0 => 0
  | k + 1 => pcnt x k + (if pzB x k = 0 then 0 else 1)
def pgood (x : Int64) (k : Nat) : Prop := ∀ j, j < k → pzB x j = 0 ∨ (32 ≤ pzB x j ∧ pzB x j ≤ 126)
theorem pcnt_le (x : Int64) : ∀ k, pcnt x k ≤ k
  | 0 => Nat.le_refl 0
  | k + 1 => by
    have h := pcnt_le x k
    unfold pcnt
    split <;> omega
theorem pcnt_z {x : Int64} {k : Nat} (h : pzB x k = 0) : pcnt x (k + 1) = pcnt x k := by
  show pcnt x k + (if pzB x k = 0 then 0 else 1) = _
  rw [if_pos h, Nat.add_zero]
theorem pcnt_nz {x : Int64} {k : Nat} (h : pzB x k ≠ 0) : pcnt x (k + 1) = pcnt x k + 1 := by
  show pcnt x k + (if pzB x k = 0 then 0 else 1) = _
  rw [if_neg h]
theorem pcnt_mono (x : Int64) {j : Nat} : ∀ {k}, j ≤ k → pcnt x j ≤ pcnt x k := by
  intro k h
  induction h with
  | refl => exact Nat.le_refl _
  | step _ ih => exact Nat.le_trans ih (by show pcnt x _ ≤ pcnt x _ + _; omega)
theorem p_char {c : Nat} (h : c < 256) : vp_nar .char (((nI c).toUInt32 % 65536).toInt32) = nI c := by
  rw [pk_vc, pk_char, pk_tn (by omega)]
  congr 1
  omega
theorem p_and {c A B : Prop} (f : c → A) (g : ¬ c → B) : (c → A) ∧ (¬ c → B) := ⟨f, g⟩
/-- nI c below 2^31: comparisons by numbers -/
theorem p_eq0 {c : Nat} (h : c < 2 ^ 31) : nI c = 0 ↔ c = 0 := by rw [← nI_0]; exact nI_eq h (by decide)
set_option maxRecDepth 4000 in
theorem ps_add {x : Int64} {n : Nat} {tC : Nat → Int32} {post : Int32 → Int32 → (Nat → Int32) → Prop} (hn : n ≤ 240)
    (hok : pgood x 8 → n + pcnt x 8 ≤ 240 → ∀ t : Nat → Int32, (∀ j, j < n → t j = tC j) → (∀ k, k < 8 → pzB x k ≠ 0 → t (n + pcnt x k) = nI (pzB x k)) → post 1 (nI (n + pcnt x 8)) t)
    (hbad : ¬ (pgood x 8 ∧ n + pcnt x 8 ≤ 240) → ∀ t : Nat → Int32, (∀ j, j < n → t j = tC j) → post 0 (nI n) t) : v_Text_add x (nI n) tC post := by
  unfold v_Text_add
  refine lp3 (W := fun f a b c => v_Text_add_L8 post x (nI n) f a b c) (I := fun x3 x4 t => ∃ k, k ≤ 8 ∧ x4 = nI (8 * k) ∧ x3 = nI (n + pcnt x k) ∧ n + pcnt x k ≤ 240 ∧ pgood x k ∧ (∀ j, j < n → t j = tC j) ∧ (∀ j, j < k → pzB x j ≠ 0 → t (n + pcnt x j) = nI (pzB x j))) (μ := fun _ x4 _ => 64 - x4.toNatClampNeg) ?_ (nI n) 0 tC ⟨0, by omega, by rw [← nI_0], rfl, hn, fun j h => absurd h (Nat.not_lt_zero j), fun _ _ => rfl, fun j h => absurd h (Nat.not_lt_zero j)⟩
  rintro f x3 x4 t ⟨k, hk, rfl, rfl, hle, hg, hlo, hhi⟩ ih
  show v_Text_add_L8 post x (nI n) (f + 1) _ _ _
  unfold v_Text_add_L8
  refine p_and (fun h => ?_) (fun h => ?_)
  · have hk8 : k = 8 := by
      have h1 : (nI 64) ≤ nI (8 * k) := h
      rw [nI_leI (by decide) (by omega)] at h1
      omega
    subst hk8
    exact hok hg hle t hlo hhi
  · have hk8 : k < 8 := by
      have h1 : ¬ (nI 64) ≤ nI (8 * k) := h
      rw [nI_leI (by decide) (by omega)] at h1
      omega
    intro y hy
    rw [pz_c x hk8] at hy
    subst hy
    have hB := pzB_lt x k
    have hstep : nI (8 * k) + 8 = nI (8 * (k + 1)) := nI_add (8 * k) 8
    have hm : ∀ a b : Nat, 64 - (nI (8 * (k + 1))).toNatClampNeg < 64 - (nI (8 * k)).toNatClampNeg := fun _ _ => by
      rw [nI_clamp (by omega), nI_clamp (by omega)]
      omega
    refine p_and (fun h0 => ?_) (fun h0 => ?_)
    · have hz : pzB x k = 0 := (p_eq0 (by omega)).mp h0
      have hc : pcnt x (k + 1) = pcnt x k := pcnt_z hz
      rw [hstep]
      refine ih _ _ _ ⟨k + 1, by omega, rfl, by rw [hc], by rw [hc]; exact hle, fun j hj => ?_, hlo, fun j hj hne => ?_⟩ (hm 0 0)
      · by_cases e : j = k
        · subst e; exact Or.inl hz
        · exact hg j (by omega)
      · by_cases e : j = k
        · subst e; exact absurd hz hne
        · exact hhi j (by omega) hne
    · have hz : pzB x k ≠ 0 := fun e => h0 ((p_eq0 (by omega)).mpr e)
      have hc : pcnt x (k + 1) = pcnt x k + 1 := pcnt_nz hz
      have hmono := pcnt_mono x (j := k + 1) (k := 8) (by omega)
      refine p_and (fun h1 => ?_) (fun h1 => ?_)
      · have h2 : nI (pzB x k) < nI 32 := h1
        rw [nI_ltI (by omega) (by decide)] at h2
        exact hbad (fun q => by rcases q.1 k hk8 with e | e <;> omega) t hlo
      · have h2 : ¬ nI (pzB x k) < nI 32 := h1
        rw [nI_ltI (by omega) (by decide)] at h2
        refine p_and (fun h3 => ?_) (fun h3 => ?_)
        · have h4 : nI 126 < nI (pzB x k) := h3
          rw [nI_ltI (by decide) (by omega)] at h4
          exact hbad (fun q => by rcases q.1 k hk8 with e | e <;> omega) t hlo
        · have h4 : ¬ nI 126 < nI (pzB x k) := h3
          rw [nI_ltI (by decide) (by omega)] at h4
          refine p_and (fun h5 => ?_) (fun h5 => ?_)
          · have h6 : nI (n + pcnt x k) < nI 240 := h5
            rw [nI_ltI (by omega) (by decide)] at h6
            refine ⟨vp_in_nI h6 (by decide), ?_⟩
            rw [hstep, show nI (n + pcnt x k) + 1 = nI (n + pcnt x (k + 1)) by rw [hc]; exact nI_add _ 1, nI_clamp (show n + pcnt x k < 2 ^ 31 by omega), p_char hB]
            refine ih _ _ _ ⟨k + 1, by omega, rfl, rfl, by omega, fun j hj => ?_, fun j hj => ?_, fun j hj hne => ?_⟩ (hm 0 0)
            · by_cases e : j = k
              · subst e; exact Or.inr ⟨by omega, by omega⟩
              · exact hg j (by omega)
            · rw [pk_un (by omega)]; exact hlo j hj
            · by_cases e : j = k
              · subst e; exact pk_us
              · have h7 := pcnt_mono x (j := j + 1) (k := k) (by omega)
                have h8 : pcnt x (j + 1) = pcnt x j + 1 := pcnt_nz hne
                rw [pk_un (by omega)]; exact hhi j (by omega) hne
          · have h6 : ¬ nI (n + pcnt x k) < nI 240 := h5
            rw [nI_ltI (by omega) (by decide)] at h6
            exact hbad (fun q => by omega) t hlo
set_option maxRecDepth 4000 in
theorem ps_mwrite {x : Int64} {n : Nat} {f0 : Int32} {tC : Nat → Int32} {post : Int32 → Int32 → Int32 → (Nat → Int32) → Prop} (hn : n ≤ 240)
    (hok : pgood x 8 → n + pcnt x 8 ≤ 240 → ∀ t : Nat → Int32, (∀ j, j < n → t j = tC j) → (∀ k, k < 8 → pzB x k ≠ 0 → t (n + pcnt x k) = nI (pzB x k)) → post 1 0 (nI (n + pcnt x 8)) t)
    (hbad : ¬ (pgood x 8 ∧ n + pcnt x 8 ≤ 240) → post 0 0 (nI n) tC) : v_M_write x f0 (nI n) tC post := by
  unfold v_M_write
  refine lp2 (W := fun f a b => v_M_write_L10 post x 0 (nI n) tC f a b) (I := fun x3 x4 => ∃ k, k ≤ 8 ∧ x4 = nI k ∧ x3 = nI (pcnt x k) ∧ pgood x k) (μ := fun _ x4 => 8 - x4.toNatClampNeg) ?_ 0 0 ⟨0, by omega, nI_0.symm, nI_0.symm, fun j h => absurd h (Nat.not_lt_zero j)⟩
  rintro f x3 x4 ⟨k, hk, rfl, rfl, hg⟩ ih
  show v_M_write_L10 post x 0 (nI n) tC (f + 1) _ _
  unfold v_M_write_L10
  have hcl := pcnt_le x k
  refine p_and (fun h => ?_) (fun h => ?_)
  · have hk8 : k = 8 := by
      have h1 : (nI 8) ≤ nI k := h
      rw [nI_leI (by decide) (by omega)] at h1
      omega
    subst hk8
    rw [nI_add]
    refine p_and (fun h1 => ?_) (fun h1 => ?_)
    · have h2 : nI (n + pcnt x 8) ≤ nI 240 := h1
      rw [nI_leI (by omega) (by decide)] at h2
      refine lp3 (W := fun f a b c => v_M_write_L88 post x 0 f a b c) (I := fun x4 ty t => ∃ k, k ≤ 8 ∧ x4 = nI k ∧ ty = nI (n + pcnt x k) ∧ (∀ j, j < n → t j = tC j) ∧ (∀ j, j < k → pzB x j ≠ 0 → t (n + pcnt x j) = nI (pzB x j))) (μ := fun x4 _ _ => 8 - x4.toNatClampNeg) ?_ 0 (nI n) tC ⟨0, by omega, nI_0.symm, rfl, fun _ _ => rfl, fun j h => absurd h (Nat.not_lt_zero j)⟩
      rintro f x4 ty t ⟨k, hk, rfl, rfl, hlo, hhi⟩ ih
      show v_M_write_L88 post x 0 (f + 1) _ _ _
      unfold v_M_write_L88
      have hcl := pcnt_le x k
      refine p_and (fun h => ?_) (fun h => ?_)
      · have hk8 : k = 8 := by
          have h1 : (nI 8) ≤ nI k := h
          rw [nI_leI (by decide) (by omega)] at h1
          omega
        subst hk8
        exact hok hg h2 t hlo hhi
      · have hk8 : k < 8 := by
          have h1 : ¬ (nI 8) ≤ nI k := h
          rw [nI_leI (by decide) (by omega)] at h1
          omega
        intro y hy
        rw [pz_m x hk8] at hy
        subst hy
        have hB := pzB_lt x k
        have hm : 8 - (nI (k + 1)).toNatClampNeg < 8 - (nI k).toNatClampNeg := by
          rw [nI_clamp (by omega), nI_clamp (by omega)]
          omega
        have hmono := pcnt_mono x (j := k + 1) (k := 8) (by omega)
        rw [show nI k + 1 = nI (k + 1) from nI_add k 1]
        refine p_and (fun h0 => ?_) (fun h0 => ?_)
        · have hz : pzB x k = 0 := (p_eq0 (by omega)).mp h0
          have hc : pcnt x (k + 1) = pcnt x k := pcnt_z hz
          refine ih _ _ _ ⟨k + 1, by omega, rfl, by rw [hc], hlo, fun j hj hne => ?_⟩ hm
          by_cases e : j = k
          · subst e; exact absurd hz hne
          · exact hhi j (by omega) hne
        · have hz : pzB x k ≠ 0 := fun e => h0 ((p_eq0 (by omega)).mpr e)
          have hc : pcnt x (k + 1) = pcnt x k + 1 := pcnt_nz hz
          refine ⟨vp_in_nI (by omega) (by decide), ?_⟩
          rw [show nI (n + pcnt x k) + 1 = nI (n + pcnt x (k + 1)) by rw [hc]; exact nI_add _ 1, nI_clamp (show n + pcnt x k < 2 ^ 31 by omega), p_char hB]
          refine ih _ _ _ ⟨k + 1, by omega, rfl, rfl, fun j hj => ?_, fun j hj hne => ?_⟩ hm
          · rw [pk_un (by omega)]; exact hlo j hj
          · by_cases e : j = k
            · subst e; exact pk_us
            · have h7 := pcnt_mono x (j := j + 1) (k := k) (by omega)
              have h8 : pcnt x (j + 1) = pcnt x j + 1 := pcnt_nz hne
              rw [pk_un (by omega)]; exact hhi j (by omega) hne
    · have h2 : ¬ nI (n + pcnt x 8) ≤ nI 240 := h1
      rw [nI_leI (by omega) (by decide)] at h2
      exact hbad (fun q => by omega)
  · have hk8 : k < 8 := by
      have h1 : ¬ (nI 8) ≤ nI k := h
      rw [nI_leI (by decide) (by omega)] at h1
      omega
    intro y hy
    rw [pz_m x hk8] at hy
    subst hy
    have hB := pzB_lt x k
    have hm : 8 - (nI (k + 1)).toNatClampNeg < 8 - (nI k).toNatClampNeg := by
      rw [nI_clamp (by omega), nI_clamp (by omega)]
      omega
    have hb52 : (pzB x k = 0 ∨ (32 ≤ pzB x k ∧ pzB x k ≤ 126)) → v_M_write_B52 (v_M_write_L10 post x 0 (nI n) tC f) (nI (pcnt x k)) (nI k) (nI (pzB x k)) := fun hgk => by
      have hg' : pgood x (k + 1) := fun j hj => by
        by_cases e : j = k
        · subst e; exact hgk
        · exact hg j (by omega)
      unfold v_M_write_B52
      rw [show nI k + 1 = nI (k + 1) from nI_add k 1]
      refine p_and (fun h0 => ?_) (fun h0 => ?_)
      · have hz : pzB x k = 0 := (p_eq0 (by omega)).mp h0
        exact ih _ _ ⟨k + 1, by omega, rfl, by rw [pcnt_z hz]; exact nI_add _ 0, hg'⟩ hm
      · have hz : pzB x k ≠ 0 := fun e => h0 ((p_eq0 (by omega)).mpr e)
        exact ih _ _ ⟨k + 1, by omega, rfl, by rw [pcnt_nz hz]; exact nI_add _ 1, hg'⟩ hm
    refine p_and (fun h0 => ?_) (fun h0 => ?_)
    · exact hb52 (Or.inl ((p_eq0 (by omega)).mp h0))
    · have hz : pzB x k ≠ 0 := fun e => h0 ((p_eq0 (by omega)).mpr e)
      refine p_and (fun h1 => ?_) (fun h1 => ?_)
      · have h2 : nI (pzB x k) < nI 32 := h1
        rw [nI_ltI (by omega) (by decide)] at h2
        exact hbad (fun q => by rcases q.1 k hk8 with e | e <;> omega)
      · have h2 : ¬ nI (pzB x k) < nI 32 := h1
        rw [nI_ltI (by omega) (by decide)] at h2
        refine p_and (fun h3 => ?_) (fun h3 => ?_)
        · have h4 : nI (pzB x k) ≤ nI 126 := h3
          rw [nI_leI (by omega) (by decide)] at h4
          exact hb52 (Or.inr ⟨by omega, h4⟩)
        · have h4 : ¬ nI (pzB x k) ≤ nI 126 := h3
          rw [nI_leI (by omega) (by decide)] at h4
          exact hbad (fun q => by rcases q.1 k hk8 with e | e <;> omega)
/-- the text: n characters, the same in class and model -/
def rText (n : Nat) (tC mT : Nat → Int32) : Prop := n ≤ 240 ∧ ∀ j, j < n → ∃ c, 32 ≤ c ∧ c ≤ 126 ∧ tC j = nI c ∧ mT j = nI c
/-- write in class and model, from the same text -/
theorem ps_both {x : Int64} {n : Nat} {f0 : Int32} {tC mT : Nat → Int32} (hr : rText n tC mT) {K : Int32 → Int32 → (Nat → Int32) → Int32 → Int32 → (Nat → Int32) → Prop}
    (hK : ∀ (r : Int32) (n' : Nat) (t t' : Nat → Int32), narrow .boolean (.int r) = .int r → rText n' t t' → K r (nI n') t 0 (nI n') t') :
    v_RT_write x (nI n) tC (fun r a b => v_M_write x f0 (nI n) mT (fun r' f a' b' => (r = r' → K r a b f a' b') ∧ (¬ r = r' → False))) := by
  obtain ⟨hn, hc⟩ := hr
  unfold v_RT_write
  refine ps_add hn (fun hg hle t h1 h2 => ⟨rfl, ?_⟩) (fun hb t h1 => ⟨rfl, ?_⟩)
  · refine ps_mwrite hn (fun _ _ t' h1' h2' => p_and (fun _ => hK 1 _ t t' rfl ⟨hle, fun j hj => ?_⟩) (fun h => absurd rfl h)) (fun hb => absurd ⟨hg, hle⟩ hb)
    by_cases e : j < n
    · obtain ⟨c, c1, c2, c3, c4⟩ := hc j e
      exact ⟨c, c1, c2, (h1 j e).trans c3, (h1' j e).trans c4⟩
    · -- the j-th of the new ones
      have key : ∀ k, k ≤ 8 → j < n + pcnt x k → ∃ i, i < k ∧ pzB x i ≠ 0 ∧ j = n + pcnt x i := by
        intro k
        induction k with
        | zero => intro _ h; exact absurd (show j < n from h) e
        | succ k ih =>
          intro hk h
          by_cases hz : pzB x k = 0
          · rw [pcnt_z hz] at h
            obtain ⟨i, a, b⟩ := ih (by omega) h
            exact ⟨i, by omega, b⟩
          · rw [pcnt_nz hz] at h
            by_cases h9 : j < n + pcnt x k
            · obtain ⟨i, a, b⟩ := ih (by omega) h9
              exact ⟨i, by omega, b⟩
            · exact ⟨k, by omega, hz, by omega⟩
      obtain ⟨i, a, b, rfl⟩ := key 8 (by omega) hj
      have hgi := hg i a
      exact ⟨pzB x i, by omega, by omega, h2 i a b, h2' i a b⟩
  · refine ps_mwrite hn (fun hg hle => absurd ⟨hg, hle⟩ hb) (fun _ => p_and (fun _ => hK 0 n t mT rfl ⟨hn, fun j hj => ?_⟩) (fun h => absurd rfl h))
    obtain ⟨c, c1, c2, c3, c4⟩ := hc j hj
    exact ⟨c, c1, c2, (h1 j hj).trans c3, c4⟩
