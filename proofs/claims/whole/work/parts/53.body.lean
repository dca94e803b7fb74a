/-! The class reads a rule's body. -/
theorem p_ix (r k : Nat) : nI r * (3 : Int32) + nI k = nI (3 * r + k) := by
  rw [show (3 : Int32) = nI 3 from rfl, pk_mul, nI_add, Nat.mul_comm]
theorem p_mu {M a b : Nat} (ha : a < M) (hM : M < 2 ^ 30) (hb : b = a + 1) : M - (nI b).toNatClampNeg < M - (nI a).toNatClampNeg := by
  subst hb
  rw [nI_clamp (by omega), nI_clamp (by omega)]
  omega
section RB
variable {n : Nat} {tx : Nat → Nat} {t : Nat → Int32} {r : Nat}
theorem ps_rb50 (hr : r < 14) {K : Nat} (hK : K ≤ 3) {gS gL : Nat → Int32} {rP : Int32} {post : Int32 → Int32 → (Nat → Int32) → (Nat → Int32) → Prop}
    (k : ∀ g : Nat → Int32, (∀ j, j < K → g (3 * r + j) = gS (3 * r + j)) → (∀ j, K ≤ j → j < 3 → g (3 * r + j) = 0) → (∀ q, (q < 3 * r ∨ 3 * r + 3 ≤ q) → g q = gS q) → post (if K = 0 then 0 else 1) rP g (upd gL r (nI K))) :
    ∃ f, v_Reader_readBody_L50 post (nI r) (nI K) rP gL f (nI K) gS := by
  refine lp2 (W := fun f a b => v_Reader_readBody_L50 post (nI r) (nI K) rP gL f a b) (I := fun x4 g => ∃ q, K ≤ q ∧ q ≤ 3 ∧ x4 = nI q ∧ (∀ j, j < K → g (3 * r + j) = gS (3 * r + j)) ∧ (∀ j, K ≤ j → j < q → g (3 * r + j) = 0) ∧ (∀ z, (z < 3 * r ∨ 3 * r + 3 ≤ z) → g z = gS z)) (μ := fun x4 _ => 3 - x4.toNatClampNeg) ?_ (nI K) gS ⟨K, Nat.le_refl K, hK, rfl, fun _ _ => rfl, fun j h1 h2 => by omega, fun _ _ => rfl⟩
  rintro f x4 g ⟨q, h1, h2, rfl, g1, g2, g3⟩ ih
  show v_Reader_readBody_L50 post (nI r) (nI K) rP gL (f + 1) _ _
  unfold v_Reader_readBody_L50
  refine p_le (a := 3) (by decide) (by omega) (fun h => ⟨vp_in_nI hr (by decide), ?_⟩) (fun h => ?_)
  · have e : q = 3 := by omega
    subst e
    rw [nI_clamp (by omega)]
    refine p_le (b := 0) (by omega) (by decide) (fun h0 => ?_) (fun h0 => ?_)
    · have := k g g1 g2 g3
      rw [if_pos (by omega)] at this
      exact this
    · have := k g g1 g2 g3
      rw [if_neg (by omega)] at this
      exact this
  · rw [p_ix, nI_clamp (show 3 * r + q < 2 ^ 31 by omega), show nI q + 1 = nI (q + 1) from nI_add q 1]
    refine ⟨vp_in_nI (by omega) (by decide), ih _ _ ⟨q + 1, by omega, by omega, rfl, fun j hj => ?_, fun j h3 h4 => ?_, fun z hz => ?_⟩ (p_mu h (by decide) rfl)⟩
    · rw [pk_un (by omega)]; exact g1 j hj
    · by_cases e : j = q
      · subst e; exact pk_us
      · rw [pk_un (by omega)]; exact g2 j h3 (by omega)
    · rw [pk_un (by omega)]; exact g3 z hz
theorem ps_readBody (h : rTx n tx t) (hr : r < 14) {p : Nat} (hp : p ≤ n) {gS gL : Nat → Int32} {post : Int32 → Int32 → (Nat → Int32) → (Nat → Int32) → Prop}
    (k : ∀ g : Nat → Int32, (∀ j, j < prun psym tx 3 p → g (3 * r + j) = nI (tx (p + j))) → (∀ j, prun psym tx 3 p ≤ j → j < 3 → g (3 * r + j) = 0) → (∀ q, (q < 3 * r ∨ 3 * r + 3 ≤ q) → g q = gS q) → p + prun psym tx 3 p ≤ n →
      post (if prun psym tx 3 p = 0 then 0 else 1) (nI (p + prun psym tx 3 p)) g (upd gL r (nI (prun psym tx 3 p)))) :
    v_Reader_readBody (nI r) (nI p) (nI n) t gS gL post := by
  have hn := h.1
  unfold v_Reader_readBody
  refine lp3 (W := fun f a b c => v_Reader_readBody_L2 post (nI n) t (nI r) gL f a b c) (I := fun x3 rP g => ∃ q, q ≤ 3 ∧ x3 = nI q ∧ rP = nI (p + q) ∧ p + q ≤ n ∧ (∀ j, j < q → psym (tx (p + j)) = true ∧ g (3 * r + j) = nI (tx (p + j))) ∧ (∀ z, (z < 3 * r ∨ 3 * r + 3 ≤ z) → g z = gS z)) (μ := fun x3 _ _ => 3 - x3.toNatClampNeg) ?_ 0 (nI p) gS ⟨0, by omega, nI_0.symm, rfl, hp, fun j hj => absurd hj (Nat.not_lt_zero j), fun _ _ => rfl⟩
  rintro f x3 rP g ⟨q, h1, rfl, rfl, hle, g1, g2⟩ ih
  show v_Reader_readBody_L2 post (nI n) t (nI r) gL (f + 1) _ _ _
  have hfin : (q < 3 → psym (tx (p + q)) = false) → ∃ k50, v_Reader_readBody_L50 post (nI r) (nI q) (nI (p + q)) gL k50 (nI q) g := fun hs => by
    have e : prun psym tx 3 p = q := prun_eq h1 (fun j hj => (g1 j hj).1) hs
    refine ps_rb50 hr h1 (fun g' a1 a2 a3 => ?_)
    have := k g' (fun j hj => by rw [e] at hj; rw [a1 j hj]; exact (g1 j hj).2) (fun j hj hj3 => a2 j (by omega) hj3) (fun z hz => (a3 z hz).trans (g2 z hz)) (by omega)
    rw [e] at this
    exact this
  have hgo : psym (tx (p + q)) = true → q < 3 → v_Reader_readBody_B27 (v_Reader_readBody_L2 post (nI n) t (nI r) gL f) (nI n) t (nI r) (nI q) (nI (p + q)) g := fun hs hq => by
    have hin : p + q < n := h.inside (fun e => by rw [e] at hs; exact absurd hs (by decide))
    unfold v_Reader_readBody_B27
    refine ps_take h (by omega) (fun _ => ?_) (fun g => by omega)
    rw [p_ix, nI_clamp (show 3 * r + q < 2 ^ 31 by omega), show nI q + 1 = nI (q + 1) from nI_add q 1]
    refine ⟨vp_in_nI (by omega) (by decide), ih _ _ _ ⟨q + 1, by omega, rfl, by rw [Nat.add_assoc], by omega, fun j hj => ?_, fun z hz => ?_⟩ (p_mu hq (by decide) rfl)⟩
    · by_cases e : j = q
      · subst e; exact ⟨hs, pk_us⟩
      · rw [pk_un (by omega)]; exact g1 j (by omega)
    · rw [pk_un (by omega)]; exact g2 z hz
  have hc := h.lt (p + q)
  unfold v_Reader_readBody_L2
  refine p_le (a := 3) (by decide) (by omega) (fun h3 => hfin (fun z => by omega)) (fun h3 => ?_)
  refine ps_peek h (by omega) (ps_isLetter (by omega) (fun hL => ?_) (fun hL => ?_))
  · refine ⟨fun z => absurd z (by decide), fun _ => hgo (psym_t.mpr (Or.inl hL)) h3⟩
  · refine ⟨fun _ => ?_, fun z => absurd rfl z⟩
    refine ps_peek h (by omega) (ps_isToken (by omega) (fun hT => ?_) (fun hT => ?_))
    · exact ⟨fun z => absurd z (by decide), fun _ => hgo (psym_t.mpr (Or.inr hT)) h3⟩
    · refine ⟨fun _ => hfin (fun _ => ?_), fun z => absurd rfl z⟩
      cases hb : psym (tx (p + q)) with
      | false => rfl
      | true => exact absurd (psym_t.mp hb) (fun z => z.elim hL hT)
end RB
