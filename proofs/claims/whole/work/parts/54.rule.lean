/-! The class reads a rule. -/
def pnum (tx : Nat → Nat) (p : Nat) : Nat → Nat
  | 0 => 0
  | d + 1 => pnum tx p d * 10 + (tx (p + d) - 48)
theorem pnum_lt (tx : Nat → Nat) (p : Nat) : ∀ d, (∀ j, j < d → isD (tx (p + j))) → pnum tx p d < 10 ^ d
  | 0, _ => Nat.zero_lt_one
  | d + 1, h => by
    have h1 := pnum_lt tx p d (fun j hj => h j (by omega))
    have h2 := (h d (by omega)).2
    unfold pnum
    rw [Nat.pow_succ]
    omega
/-- a rule that begins at p: how many symbols, where its weight would begin, its weight, where its ';' must stand -/
def pK (tx : Nat → Nat) (p : Nat) : Nat := prun psym tx 3 (p + 2)
def pQ (tx : Nat → Nat) (p : Nat) : Nat := p + 2 + pK tx p
def pDg (tx : Nat → Nat) (p : Nat) : Nat := prun pdig tx 3 (pQ tx p + 1)
def pE (tx : Nat → Nat) (p : Nat) : Nat := if tx (pQ tx p) = 58 then pQ tx p + 1 + pDg tx p else pQ tx p
def pW (tx : Nat → Nat) (p : Nat) : Nat := if tx (pQ tx p) = 58 then pnum tx (pQ tx p + 1) (pDg tx p) else 1
def pOK (tx : Nat → Nat) (p : Nat) : Prop := isL (tx p) ∧ tx (p + 1) = 61 ∧ 1 ≤ pK tx p ∧ (tx (pQ tx p) = 58 → 1 ≤ pDg tx p) ∧ tx (pE tx p) = 59
theorem pW_le (tx : Nat → Nat) (p : Nat) : pW tx p ≤ 999 := by
  unfold pW
  split
  · have h1 : pDg tx p ≤ 3 := prun_le _ _ _ _
    have h2 := pnum_lt tx (pQ tx p + 1) (pDg tx p) (fun j hj => pdig_t.mp (prun_all hj))
    have h3 : (10 : Nat) ^ pDg tx p ≤ 10 ^ 3 := Nat.pow_le_pow_right (by decide) h1
    omega
  · decide
section RR
variable {n : Nat} {tx : Nat → Nat} {t : Nat → Int32} {r : Nat}
theorem p_num {v c : Nat} (hc : 48 ≤ c) : ((nI v * (10 : Int32)) + nI c) - (48 : Int32) = nI (v * 10 + (c - 48)) := by
  rw [show (10 : Int32) = nI 10 from rfl, show (48 : Int32) = nI 48 from rfl, pk_mul, nI_add, pk_sub (by omega)]
  congr 1
  omega
theorem ps_readWeight (h : rTx n tx t) {p : Nat} (hp : p ≤ n) {post : Int32 → Int32 → Prop} (h1 : tx p ≠ 58 → post 1 (nI p)) (h0 : tx p = 58 → prun pdig tx 3 (p + 1) = 0 → ∀ z, post (-1) z)
    (hk : tx p = 58 → 1 ≤ prun pdig tx 3 (p + 1) → p + 1 + prun pdig tx 3 (p + 1) ≤ n → post (nI (pnum tx (p + 1) (prun pdig tx 3 (p + 1)))) (nI (p + 1 + prun pdig tx 3 (p + 1)))) : v_Reader_readWeight (nI p) (nI n) t post := by
  have hn := h.1
  have hc := h.lt p
  unfold v_Reader_readWeight
  refine ps_peek h (by omega) (p_eq (b := 58) (by omega) (by decide) (fun e => ?_) (fun e => h1 e))
  have hin : p < n := h.inside (by omega)
  refine ps_take h (by omega) (fun _ => ?_) (fun g => by omega)
  refine lp3 (W := fun f a b c => v_Reader_readWeight_L20 post (nI n) t f a b c) (I := fun x1 x2 rP => ∃ d, d ≤ 3 ∧ x2 = nI d ∧ x1 = nI (pnum tx (p + 1) d) ∧ rP = nI (p + 1 + d) ∧ p + 1 + d ≤ n ∧ ∀ j, j < d → pdig (tx (p + 1 + j)) = true) (μ := fun _ x2 _ => 3 - x2.toNatClampNeg) ?_ 0 0 (nI (p + 1)) ⟨0, by omega, nI_0.symm, nI_0.symm, rfl, hin, fun j hj => absurd hj (Nat.not_lt_zero j)⟩
  rintro f x1 x2 rP ⟨d, hd, rfl, rfl, rfl, hle, hall⟩ ih
  show v_Reader_readWeight_L20 post (nI n) t (f + 1) _ _ _
  have hfin : (d < 3 → pdig (tx (p + 1 + d)) = false) → v_Reader_readWeight_B54 post (nI (pnum tx (p + 1) d)) (nI d) (nI (p + 1 + d)) := fun hs => by
    have e9 : prun pdig tx 3 (p + 1) = d := prun_eq hd hall hs
    unfold v_Reader_readWeight_B54
    refine p_eq (b := 0) (by omega) (by decide) (fun z => h0 e (by omega) _) (fun z => ?_)
    have := hk e (by omega) (by omega)
    rw [e9] at this
    exact this
  have hc2 := h.lt (p + 1 + d)
  unfold v_Reader_readWeight_L20
  refine p_le (a := 3) (by decide) (by omega) (fun h3 => hfin (fun z => by omega)) (fun h3 => ?_)
  refine ps_peek h (by omega) (ps_isDigit (by omega) (fun hD => ?_) (fun hD => ?_))
  · refine ⟨fun z => absurd z (by decide), fun _ => ?_⟩
    have hin2 : p + 1 + d < n := h.inside (by have := hD.1; omega)
    refine ps_take h (by omega) (fun _ => ?_) (fun g => by omega)
    intro y hy
    rw [p_num hD.1] at hy
    subst hy
    rw [show nI d + 1 = nI (d + 1) from nI_add d 1]
    refine ih _ _ _ ⟨d + 1, by omega, rfl, rfl, by rw [Nat.add_assoc (p + 1)], by omega, fun j hj => ?_⟩ (p_mu h3 (by decide) rfl)
    by_cases e9 : j = d
    · subst e9; exact pdig_t.mpr hD
    · exact hall j (by omega)
  · refine ⟨fun _ => hfin (fun _ => ?_), fun z => absurd rfl z⟩
    cases hb : pdig (tx (p + 1 + d)) with
    | false => rfl
    | true => exact absurd (pdig_t.mp hb) hD
/-- a rule of the class's arrays is said before -/
def cTwin (gH gS : Nat → Int32) (r o : Nat) : Prop := gH o = gH r ∧ gS (3 * o) = gS (3 * r) ∧ gS (3 * o + 1) = gS (3 * r + 1) ∧ gS (3 * o + 2) = gS (3 * r + 2)
theorem ps_symbol {gS : Nat → Int32} {i j : Nat} (hi : i < 14) (hj : j < 3) {post : Int32 → Prop} (k : post (gS (3 * i + j))) : v_Grammar_symbol (nI i) (nI j) gS post := by
  unfold v_Grammar_symbol
  rw [p_ix, nI_clamp (show 3 * i + j < 2 ^ 31 by omega)]
  exact ⟨vp_in_nI (by omega) (by decide), k⟩
theorem ps_hasTwin (hr : r < 14) {gH gS : Nat → Int32} {post : Int32 → Prop} (h1 : (∃ o, o < r ∧ cTwin gH gS r o) → post 1) (h0 : (∀ o, o < r → ¬ cTwin gH gS r o) → post 0) : v_Grammar_hasTwinBefore (nI r) gH gS post := by
  unfold v_Grammar_hasTwinBefore
  refine lp1 (W := fun f a => v_Grammar_hasTwinBefore_L2 post gH gS (nI r) f a) (I := fun x2 => ∃ o, o ≤ r ∧ x2 = nI o ∧ ∀ q, q < o → ¬ cTwin gH gS r q) (μ := fun x2 => 14 - x2.toNatClampNeg) ?_ 0 ⟨0, by omega, nI_0.symm, fun q hq => absurd hq (Nat.not_lt_zero q)⟩
  rintro f x2 ⟨o, ho, rfl, hall⟩ ih
  show v_Grammar_hasTwinBefore_L2 post gH gS (nI r) (f + 1) _
  unfold v_Grammar_hasTwinBefore_L2
  refine p_le (by omega) (by omega) (fun h => h0 (fun q hq => hall q (by omega))) (fun h => ⟨vp_in_nI (by omega) (by decide), vp_in_nI hr (by decide), ?_⟩)
  have hnext : ¬ cTwin gH gS r o → v_Grammar_hasTwinBefore_L2 post gH gS (nI r) f (nI o + 1) := fun hno => by
    rw [show nI o + 1 = nI (o + 1) from nI_add o 1]
    refine ih _ ⟨o + 1, by omega, rfl, fun q hq => ?_⟩ (p_mu (by omega) (by decide) rfl)
    by_cases e : q = o
    · subst e; exact hno
    · exact hall q (by omega)
  rw [nI_clamp (show o < 2 ^ 31 by omega), nI_clamp (show r < 2 ^ 31 by omega)]
  refine ⟨fun c0 => ?_, fun c0 => hnext (fun z => c0 z.1)⟩
  refine ps_symbol (j := 0) (by omega) (by decide) (ps_symbol (j := 0) hr (by decide) ⟨fun c1 => ?_, fun c1 => hnext (fun z => c1 z.2.1)⟩)
  refine ps_symbol (j := 1) (by omega) (by decide) (ps_symbol (j := 1) hr (by decide) ⟨fun c2 => ?_, fun c2 => hnext (fun z => c2 z.2.2.1)⟩)
  refine ps_symbol (j := 2) (by omega) (by decide) (ps_symbol (j := 2) hr (by decide) ⟨fun c3 => ?_, fun c3 => hnext (fun z => c3 z.2.2.2)⟩)
  exact h1 ⟨o, h, c0, c1, c2, c3⟩
theorem ps_readRule (h : rTx n tx t) (hr : r < 14) {p : Nat} (hp : p ≤ n) {gH gS gL gW : Nat → Int32} {post : Int32 → Int32 → Int32 → (Nat → Int32) → (Nat → Int32) → (Nat → Int32) → (Nat → Int32) → Prop}
    (hbad : ¬ pOK tx p → ∀ a b c d e f, post 0 a b c d e f)
    (hok : pOK tx p → pE tx p + 1 ≤ n → ∀ g : Nat → Int32, (∀ j, j < pK tx p → g (3 * r + j) = nI (tx (p + 2 + j))) → (∀ j, pK tx p ≤ j → j < 3 → g (3 * r + j) = 0) → (∀ q, (q < 3 * r ∨ 3 * r + 3 ≤ q) → g q = gS q) →
      ((∃ o, o < r ∧ cTwin (upd gH r (nI (tx p))) g r o) → ∀ a b c d e f, post 0 a b c d e f) ∧
      ((∀ o, o < r → ¬ cTwin (upd gH r (nI (tx p))) g r o) → post 1 (nI (pE tx p + 1)) (nI (r + 1)) (upd gH r (nI (tx p))) g (upd gL r (nI (pK tx p))) (upd gW r (nI (pW tx p))))) :
    v_Reader_readRule (nI p) (nI n) t (nI r) gH gS gL gW post := by
  have hn := h.1
  have hc := h.lt p
  unfold v_Reader_readRule
  have fin : ∀ (q : Nat), q ≤ n → tx q ≠ 59 → True := fun _ _ _ => trivial
  refine ps_take h (by omega) (fun hin => ?_) (fun g => ?_)
  rotate_left
  · have e0 := h.2.2 p g
    have hb : ¬ pOK tx p := fun z => by have := z.1.1; omega
    exact ps_isLetter (c := 0) (by decide) (fun z => by have := z.1; omega) (fun _ => ⟨fun _ => hbad hb _ _ _ _ _ _, fun z => absurd rfl z⟩)
  refine ps_isLetter (by omega) (fun hL => ⟨fun z => absurd z (by decide), fun _ => ?_⟩) (fun hL => ⟨fun _ => hbad (fun z => hL z.1) _ _ _ _ _ _, fun z => absurd rfl z⟩)
  have hc1 := h.lt (p + 1)
  refine ps_take h (by omega) (fun hin1 => ?_) (fun g => ?_)
  rotate_left
  · have e0 := h.2.2 (p + 1) g
    have hb : ¬ pOK tx p := fun z => by have := z.2.1; omega
    exact ⟨fun z => absurd z (by decide), fun _ => hbad hb _ _ _ _ _ _⟩
  refine p_eq (b := 61) (by omega) (by decide) (fun e61 => ?_) (fun e61 => hbad (fun z => e61 z.2.1) _ _ _ _ _ _)
  refine ps_readBody (p := p + 2) h hr (by omega) (fun g g1 g2 g3 hq => ?_)
  have hKd : prun psym tx 3 (p + 2) = pK tx p := rfl
  rw [hKd] at g1 g2 hq ⊢
  have hK3 : pK tx p ≤ 3 := prun_le _ _ _ _
  by_cases hK0 : pK tx p = 0
  · rw [if_pos hK0]
    exact ⟨fun _ => hbad (fun z => by have := z.2.2.1; omega) _ _ _ _ _ _, fun z => absurd rfl z⟩
  rw [if_neg hK0]
  refine ⟨fun z => absurd z (by decide), fun _ => ?_⟩
  have hQd : p + 2 + pK tx p = pQ tx p := rfl
  rw [hQd] at hq ⊢
  -- behind the weight
  have hsemi : ∀ (w e : Nat), pE tx p = e → pW tx p = w → w ≤ 999 → e ≤ n → (tx (pQ tx p) = 58 → 1 ≤ pDg tx p) →
      ((nI w < 0 → post 0 (nI e) (nI r) gH g (upd gL r (nI (pK tx p))) gW) ∧ (¬ nI w < 0 → v_Reader_take (nI e) (nI n) t (fun r49 rP_49 => ((r49 = (59 : Int32) → (vp_in (nI r) 14 ∧ (vp_in (nI r) 14 ∧ (v_Grammar_hasTwinBefore (nI r) (upd gH (nI r).toNatClampNeg (nI (tx p))) g (fun r86 => ((r86 = 0 → (post (1 : Int32) rP_49 (nI r + (1 : Int32)) (upd gH (nI r).toNatClampNeg (nI (tx p))) g (upd gL r (nI (pK tx p))) (upd gW (nI r).toNatClampNeg (nI w)))) ∧ (¬ r86 = 0 → (post (0 : Int32) rP_49 (nI r + (1 : Int32)) (upd gH (nI r).toNatClampNeg (nI (tx p))) g (upd gL r (nI (pK tx p))) (upd gW (nI r).toNatClampNeg (nI w)))))))))) ∧ (¬ r49 = (59 : Int32) → (post (0 : Int32) rP_49 (nI r) gH g (upd gL r (nI (pK tx p))) gW)))))) := by
    intro w e he hw hw9 hen hdig
    have hce := h.lt e
    refine ⟨fun z => absurd z (nI_pos (by omega)), fun _ => ?_⟩
    refine ps_take h (by omega) (fun hine => ?_) (fun ge => ?_)
    · refine p_eq (b := 59) (by omega) (by decide) (fun e59 => ⟨vp_in_nI hr (by decide), vp_in_nI hr (by decide), ?_⟩) (fun e59 => hbad (fun z => e59 (by rw [← he]; exact z.2.2.2.2)) _ _ _ _ _ _)
      have hyes : pOK tx p := ⟨hL, e61, by omega, hdig, by rw [he]; exact e59⟩
      obtain ⟨k0, k1⟩ := hok hyes (by omega) g g1 g2 g3
      rw [nI_clamp (show r < 2 ^ 31 by omega)]
      refine ps_hasTwin hr (fun z => ⟨fun y => absurd y (by decide), fun _ => k0 z _ _ _ _ _ _⟩) (fun z => ⟨fun _ => ?_, fun y => absurd rfl y⟩)
      have := k1 z
      rw [he, hw, ← nI_add r 1] at this
      exact this
    · have e0 := h.2.2 e ge
      exact ⟨fun z => absurd z (by decide), fun _ => hbad (fun z => by have := z.2.2.2.2; rw [he] at this; omega) _ _ _ _ _ _⟩
  refine ps_readWeight h hq (fun e58 => ?_) (fun e58 hd z => ?_) (fun e58 hd hle => ?_)
  · exact hsemi 1 (pQ tx p) (by unfold pE; rw [if_neg e58]) (by unfold pW; rw [if_neg e58]) (by decide) hq (fun y => absurd y e58)
  · exact ⟨fun _ => hbad (fun y => by have := y.2.2.2.1 e58; unfold pDg at this; omega) _ _ _ _ _ _, fun y => absurd (by decide) y⟩
  · exact hsemi (pnum tx (pQ tx p + 1) (pDg tx p)) (pQ tx p + 1 + pDg tx p) (by unfold pE; rw [if_pos e58]) (by unfold pW; rw [if_pos e58]) (by have := pW_le tx p; unfold pW at this; rw [if_pos e58] at this; exact this) hle (fun _ => hd)
end RR
