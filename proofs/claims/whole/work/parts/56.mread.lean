/-! The model reads a rule. -/
theorem prun_stop {P : Nat → Bool} {tx : Nat → Nat} : ∀ {m p : Nat}, prun P tx m p < m → P (tx (p + prun P tx m p)) = false
  | 0, p, h => absurd h (Nat.not_lt_zero _)
  | m + 1, p, h => by
    unfold prun at h ⊢
    by_cases e : P (tx p) = true
    · rw [if_pos e] at h ⊢
      have := prun_stop (P := P) (tx := tx) (m := m) (p := p + 1) (by omega)
      rw [show p + (prun P tx m (p + 1) + 1) = p + 1 + prun P tx m (p + 1) by omega]
      exact this
    · rw [if_neg e, Nat.add_zero]
      cases hb : P (tx p) with
      | false => rfl
      | true => exact absurd hb e
/-- four digits at most, three at most -/
theorem prun43 {P : Nat → Bool} {tx : Nat → Nat} {p : Nat} : (prun P tx 4 p ≤ 3 → prun P tx 3 p = prun P tx 4 p) ∧ (prun P tx 4 p = 4 → prun P tx 3 p = 3 ∧ P (tx (p + 3)) = true) := by
  have h4 := prun_le P tx 4 p
  refine ⟨fun h => prun_eq h (fun j hj => prun_all hj) (fun _ => prun_stop (by omega)), fun h => ⟨prun_eq (by omega) (fun j hj => prun_all (m := 4) (by omega)) (fun z => by omega), prun_all (m := 4) (by omega)⟩⟩
theorem p_char2 {c : Nat} (h : c < 256) : vp_nar .char (nI c) = nI c := by
  have h1 := p_char h
  rw [pk_char, pk_tn (by omega), Nat.mod_eq_of_lt (by omega)] at h1
  exact h1
section MR
variable {n : Nat} {tx : Nat → Nat} {t : Nat → Int32}
theorem ps_mdigit (h : rTx n tx t) {p : Nat} (hp : p < 2 ^ 29) {post : Int32 → Prop} (h1 : isD (tx p) → post 1) (h0 : ¬ isD (tx p) → post 0) : v_M_digit (nI n) (nI p) t post := by
  have hc := h.lt p
  unfold v_M_digit
  refine ps_next h (by omega) (p_lt (b := 48) (by omega) (by decide) (fun z => h0 (fun q => by have := q.1; omega)) (fun z => ?_))
  exact ps_next h (by omega) (p_lt (a := 57) (by decide) (by omega) (fun y => h0 (fun q => by have := q.2; omega)) (fun y => h1 ⟨z, y⟩))
theorem p_num2 {v c : Nat} (hc : 48 ≤ c) : (((10 : Int32) * nI v) + nI c) - (48 : Int32) = nI (v * 10 + (c - 48)) := by
  rw [show (10 : Int32) = nI 10 from rfl, show (48 : Int32) = nI 48 from rfl, pk_mul, nI_add, pk_sub (by omega)]
  congr 1
  omega
theorem ps_mnumber (h : rTx n tx t) {p : Nat} (hp : p < 2 ^ 28) {post : Int32 → Int32 → Prop} (h0 : (prun pdig tx 4 p = 0 ∨ prun pdig tx 4 p = 4) → ∀ q, q ≤ p + 4 → post (-1) (nI q))
    (hk : 1 ≤ prun pdig tx 4 p → prun pdig tx 4 p ≤ 3 → post (nI (pnum tx p (prun pdig tx 4 p))) (nI (p + prun pdig tx 4 p))) : v_M_number (nI n) (nI p) t post := by
  unfold v_M_number
  refine lp3 (W := fun f a b c => v_M_number_L4 post (nI n) t f a b c) (I := fun x1 x2 at9 => ∃ d, d ≤ 4 ∧ x2 = nI d ∧ x1 = nI (pnum tx p d) ∧ at9 = nI (p + d) ∧ ∀ j, j < d → pdig (tx (p + j)) = true) (μ := fun _ x2 _ => 4 - x2.toNatClampNeg) ?_ 0 0 (nI p) ⟨0, by omega, nI_0.symm, nI_0.symm, rfl, fun j hj => absurd hj (Nat.not_lt_zero j)⟩
  rintro f x1 x2 at9 ⟨d, hd, rfl, rfl, rfl, hall⟩ ih
  show v_M_number_L4 post (nI n) t (f + 1) _ _ _
  have hfin : (d < 4 → pdig (tx (p + d)) = false) → v_M_number_B45 post (nI (pnum tx p d)) (nI d) (nI (p + d)) := fun hs => by
    have e9 : prun pdig tx 4 p = d := prun_eq hd hall hs
    unfold v_M_number_B45
    refine p_eq (b := 0) (by omega) (by decide) (fun z => h0 (by omega) _ (by omega)) (fun z => p_le (b := 3) (by omega) (by decide) (fun y => ?_) (fun y => h0 (by omega) _ (by omega)))
    have := hk (by omega) (by omega)
    rw [e9] at this
    exact this
  have hc := h.lt (p + d)
  unfold v_M_number_L4
  refine ps_mdigit h (by omega) (fun hD => ⟨fun z => absurd z (by decide), fun _ => ?_⟩) (fun hD => ⟨fun _ => hfin (fun _ => ?_), fun z => absurd rfl z⟩)
  · refine p_le (a := 4) (by decide) (by omega) (fun h4 => hfin (fun z => by omega)) (fun h4 => ?_)
    refine ps_next h (by omega) ?_
    intro y hy
    rw [p_num2 hD.1] at hy
    subst hy
    rw [show nI d + 1 = nI (d + 1) from nI_add d 1, show nI (p + d) + (1 : Int32) = nI (p + (d + 1)) from nI_add (p + d) 1]
    refine ih _ _ _ ⟨d + 1, by omega, rfl, rfl, rfl, fun j hj => ?_⟩ (p_mu h4 (by decide) rfl)
    by_cases e9 : j = d
    · subst e9; exact pdig_t.mpr hD
    · exact hall j (by omega)
  · cases hb : pdig (tx (p + d)) with
    | false => rfl
    | true => exact absurd (pdig_t.mp hb) hD
/-- a rule of the model's arrays is said before -/
def mTwin (mH mZ mB : Nat → Int32) (R q k : Nat) : Prop := mH q = mH R ∧ mZ q = mZ R ∧ ∀ j, j < k → mB (3 * q + j) = mB (3 * R + j)
theorem p_ix2 (r k : Nat) : (3 : Int32) * nI r + nI k = nI (3 * r + k) := by
  rw [show (3 : Int32) = nI 3 from rfl, pk_mul, nI_add]
theorem ps_magain {R k : Nat} (hR : R < 28) (hR14 : 14 ≤ R) (hk : k ≤ 3) {mH mZ mB : Nat → Int32} (hz : mZ R = nI k) {post : Int32 → Prop} (h1 : (∃ q, 14 ≤ q ∧ q < R ∧ mTwin mH mZ mB R q k) → post 1) (h0 : (∀ q, 14 ≤ q → q < R → ¬ mTwin mH mZ mB R q k) → post 0) : v_M_again (nI R) mH mZ mB post := by
  unfold v_M_again
  refine lp2 (W := fun f a b => v_M_again_L5 post mH mZ mB (nI R) f a b) (I := fun x2 x3 => ∃ q, 14 ≤ q ∧ q ≤ R ∧ x3 = nI q ∧ ((x2 = 0 ∧ ∀ o, 14 ≤ o → o < q → ¬ mTwin mH mZ mB R o k) ∨ (x2 = 1 ∧ ∃ o, 14 ≤ o ∧ o < q ∧ mTwin mH mZ mB R o k))) (μ := fun _ x3 => 28 - x3.toNatClampNeg) ?_ 0 14 ⟨14, Nat.le_refl _, hR14, rfl, Or.inl ⟨rfl, fun o h1 h2 => by omega⟩⟩
  rintro f x2 x3 ⟨q, hq, hqR, rfl, hx⟩ ih
  show v_M_again_L5 post mH mZ mB (nI R) (f + 1) _ _
  unfold v_M_again_L5
  refine p_le (by omega) (by omega) (fun hle => ?_) (fun hlt => ⟨vp_in_nI (by omega) (by decide), vp_in_nI hR (by decide), ?_⟩)
  · have e : q = R := by omega
    subst e
    rcases hx with ⟨rfl, hx⟩ | ⟨rfl, o, o1, o2, o3⟩
    · exact ⟨rfl, h0 hx⟩
    · exact ⟨rfl, h1 ⟨o, o1, o2, o3⟩⟩
  · -- the inner loop: s says whether all that was looked at is the same
    have inner : ∀ (s0 : Int32), (s0 = 1 → mH q = mH R ∧ mZ q = mZ R) → (s0 = 0 → ¬ (mH q = mH R ∧ mZ q = mZ R)) → (s0 = 0 ∨ s0 = 1) → ∃ k50, v_M_again_L50 (v_M_again_L5 post mH mZ mB (nI R) f) mZ mB (nI R) x2 (nI q) k50 s0 0 := by
      intro s0 s1 s00 s01
      refine lp2 (W := fun f9 a b => v_M_again_L50 (v_M_again_L5 post mH mZ mB (nI R) f) mZ mB (nI R) x2 (nI q) f9 a b) (I := fun x4 x5 => ∃ j, j ≤ k ∧ x5 = nI j ∧ ((x4 = 1 ∧ mH q = mH R ∧ mZ q = mZ R ∧ ∀ i, i < j → mB (3 * q + i) = mB (3 * R + i)) ∨ (x4 = 0 ∧ ¬ mTwin mH mZ mB R q k))) (μ := fun _ x5 => 3 - x5.toNatClampNeg) ?_ s0 0 ⟨0, by omega, nI_0.symm, ?_⟩
      · rintro f9 x4 x5 ⟨j, hj, rfl, hx4⟩ ih9
        show v_M_again_L50 (v_M_again_L5 post mH mZ mB (nI R) f) mZ mB (nI R) x2 (nI q) (f9 + 1) _ _
        unfold v_M_again_L50
        rw [nI_clamp (show R < 2 ^ 31 by omega), hz, p_ix2, p_ix2, nI_clamp (show 3 * q + j < 2 ^ 31 by omega), nI_clamp (show 3 * R + j < 2 ^ 31 by omega)]
        refine ⟨vp_in_nI hR (by decide), p_le (by omega) (by omega) (fun hkj => ?_) (fun hkj => ?_)⟩
        · have e : j = k := by omega
          subst e
          rw [show nI q + 1 = nI (q + 1) from nI_add q 1]
          have hmu : 28 - (nI (q + 1)).toNatClampNeg < 28 - (nI q).toNatClampNeg := p_mu (by omega) (by decide) rfl
          have yes : mTwin mH mZ mB R q j → v_M_again_L5 post mH mZ mB (nI R) f 1 (nI (q + 1)) := fun z => ih _ _ ⟨q + 1, by omega, by omega, rfl, Or.inr ⟨rfl, q, hq, by omega, z⟩⟩ hmu
          rcases hx with ⟨rfl, hx⟩ | ⟨rfl, o, o1, o2, o3⟩
          · refine ⟨fun _ => ?_, fun z => absurd rfl z⟩
            rcases hx4 with ⟨rfl, b1, b2, b3⟩ | ⟨rfl, b1⟩
            · exact ⟨fun z => absurd z (by decide), fun _ => yes ⟨b1, b2, b3⟩⟩
            · refine ⟨fun _ => ih _ _ ⟨q + 1, by omega, by omega, rfl, Or.inl ⟨rfl, fun o p1 p2 => ?_⟩⟩ hmu, fun z => absurd rfl z⟩
              by_cases e : o = q
              · subst e; exact b1
              · exact hx o p1 (by omega)
          · exact ⟨fun z => absurd z (by decide), fun _ => ih _ _ ⟨q + 1, by omega, by omega, rfl, Or.inr ⟨rfl, o, o1, by omega, o3⟩⟩ hmu⟩
        · rw [show nI j + 1 = nI (j + 1) from nI_add j 1]
          have hmu : 3 - (nI (j + 1)).toNatClampNeg < 3 - (nI j).toNatClampNeg := p_mu (by omega) (by decide) rfl
          rcases hx4 with ⟨rfl, b1, b2, b3⟩ | ⟨rfl, b1⟩
          · refine ⟨fun z => absurd z (by decide), fun _ => ⟨vp_in_nI (by omega) (by decide), vp_in_nI (by omega) (by decide), fun e => ?_, fun e => ?_⟩⟩
            · refine ih9 _ _ ⟨j + 1, by omega, rfl, Or.inl ⟨rfl, b1, b2, fun i hi => ?_⟩⟩ hmu
              by_cases e9 : i = j
              · subst e9; exact e
              · exact b3 i (by omega)
            · exact ih9 _ _ ⟨j + 1, by omega, rfl, Or.inr ⟨rfl, fun z => e (z.2.2 j hkj)⟩⟩ hmu
          · exact ⟨fun _ => ih9 _ _ ⟨j + 1, by omega, rfl, Or.inr ⟨rfl, b1⟩⟩ hmu, fun z => absurd rfl z⟩
      · rcases s01 with rfl | rfl
        · exact Or.inr ⟨rfl, fun z => s00 rfl ⟨z.1, z.2.1⟩⟩
        · exact Or.inl ⟨rfl, (s1 rfl).1, (s1 rfl).2, fun i hi => absurd hi (Nat.not_lt_zero i)⟩
    rw [nI_clamp (show q < 2 ^ 31 by omega), nI_clamp (show R < 2 ^ 31 by omega)]
    refine ⟨fun e1 => ⟨vp_in_nI (by omega) (by decide), vp_in_nI hR (by decide), fun e2 => ?_, fun e2 => ?_⟩, fun e1 => ?_⟩
    · exact inner 1 (fun _ => ⟨e1, e2⟩) (fun z => absurd z (by decide)) (Or.inr rfl)
    · exact inner 0 (fun z => absurd z (by decide)) (fun _ z => e2 z.2) (Or.inl rfl)
    · exact inner 0 (fun z => absurd z (by decide)) (fun _ z => e1 z.1) (Or.inl rfl)
end MR
