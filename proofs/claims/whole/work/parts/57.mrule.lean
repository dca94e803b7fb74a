/-! The model reads a rule, whole. -/
/-- rows below R are as they were -/
def keepM (R : Nat) (mH mZ mB mW mH' mZ' mB' mW' : Nat → Int32) : Prop := (∀ i, i < R → mH' i = mH i ∧ mZ' i = mZ i ∧ mW' i = mW i) ∧ ∀ q, q < 3 * R → mB' q = mB q
theorem keepM.rf {R : Nat} {mH mZ mB mW : Nat → Int32} : keepM R mH mZ mB mW mH mZ mB mW := ⟨fun _ _ => ⟨rfl, rfl, rfl⟩, fun _ _ => rfl⟩
section MR2
variable {n : Nat} {tx : Nat → Nat} {t : Nat → Int32}
theorem ps_mreadRule (h : rTx n tx t) {r p : Nat} (hr : r < 14) (hp : p < 2 ^ 20) {mC mH mZ mB mW : Nat → Int32} (hmc : mC 1 = nI r) {post : Int32 → Int32 → (Nat → Int32) → (Nat → Int32) → (Nat → Int32) → (Nat → Int32) → Prop}
    (hbad : ¬ pOK tx p → ∀ a b c d e, keepM (14 + r) mH mZ mB mW b c d e → post 0 a b c d e)
    (hok : pOK tx p → ∀ b c d e, keepM (14 + r) mH mZ mB mW b c d e → b (14 + r) = nI (tx p - 65) → c (14 + r) = nI (pK tx p) → (∀ j, j < pK tx p → d (3 * (14 + r) + j) = nI (tx (p + 2 + j))) → e (14 + r) = nI (pW tx p) →
      ((∃ q, 14 ≤ q ∧ q < 14 + r ∧ mTwin b c d (14 + r) q (pK tx p)) → ∀ a, post 0 a b c d e) ∧ ((∀ q, 14 ≤ q → q < 14 + r → ¬ mTwin b c d (14 + r) q (pK tx p)) → post 1 (nI (pE tx p + 1)) b c d e)) :
    v_M_readRule (nI n) (nI p) t mC mH mZ mB mW post := by
  have hn := h.1
  have hc := h.lt p
  have hc1 := h.lt (p + 1)
  have one : ((1 : Int32).toNatClampNeg) = 1 := by decide
  have hR31 : 14 + r < 2 ^ 31 := by omega
  have inR : vp_in (nI (14 + r)) 28 := vp_in_nI (by omega) (by decide)
  unfold v_M_readRule
  rw [one, hmc]
  refine ⟨vp_in_nI (n := 1) (by decide) (by decide), p_eq (b := 14) (by omega) (by decide) (fun z => by omega) (fun _ => ?_)⟩
  refine ps_next h (by omega) (ps_misLetter (by omega) (fun hL => ⟨fun z => absurd z (by decide), fun _ => ⟨vp_in_nI (n := 1) (by decide) (by decide), ?_⟩⟩) (fun hL => ⟨fun _ => hbad (fun z => hL z.1) _ _ _ _ _ keepM.rf, fun z => absurd rfl z⟩))
  intro y hy
  rw [show (14 : Int32) = nI 14 from rfl, nI_add] at hy
  subst hy
  refine ps_next h (by omega) ⟨inR, ?_⟩
  rw [show nI p + (1 : Int32) = nI (p + 1) from nI_add p 1, show nI (p + 1) + (1 : Int32) = nI (p + 2) from nI_add (p + 1) 1, nI_clamp hR31, show nI (tx p) - (65 : Int32) = nI (tx p - 65) from pk_sub hL.1]
  refine ps_next h (by omega) (p_eq (b := 61) (by omega) (by decide) (fun e61 => ⟨inR, ?_⟩) (fun e61 => ?_))
  rotate_left
  · exact hbad (fun z => e61 z.2.1) _ _ _ _ _ ⟨fun i hi => ⟨pk_un (by omega), rfl, rfl⟩, fun _ _ => rfl⟩
  -- behind the symbols, with K of them
  have behind : ∀ (K : Nat) (c d : Nat → Int32), pK tx p = K → (∀ i, i < 14 + r → c i = mZ i) → c (14 + r) = nI K → (∀ q, q < 3 * (14 + r) → d q = mB q) → (∀ j, j < K → d (3 * (14 + r) + j) = nI (tx (p + 2 + j))) →
      v_M_readRule_B192 post (nI n) t (nI (14 + r)) (nI (p + 2 + K)) (upd mH (14 + r) (nI (tx p - 65))) c d mW := by
    intro K c d hK c1 c2 d1 d2
    have hK3 : K ≤ 3 := by rw [← hK]; exact prun_le _ _ _ _
    have hQ : pQ tx p = p + 2 + K := by unfold pQ; rw [hK]
    have hcq := h.lt (p + 2 + K)
    have kp : ∀ e : Nat → Int32, (∀ i, i < 14 + r → e i = mW i) → keepM (14 + r) mH mZ mB mW (upd mH (14 + r) (nI (tx p - 65))) c d e := fun e he => ⟨fun i hi => ⟨pk_un (by omega), c1 i hi, he i hi⟩, d1⟩
    -- the end: the ';' at e9, the weight w
    have bad260 : ∀ (e : Nat → Int32) (a : Int32), ¬ pOK tx p → (∀ i, i < 14 + r → e i = mW i) → v_M_readRule_B260 post (nI (14 + r)) 0 a (upd mH (14 + r) (nI (tx p - 65))) c d e := fun e a hb he => by
      unfold v_M_readRule_B260
      exact ⟨fun _ => hbad hb _ _ _ _ _ (kp e he), fun z => absurd rfl z⟩
    have b228 : ∀ (w e9 : Nat) (e : Nat → Int32), pE tx p = e9 → pW tx p = w → w ≤ 999 → e9 < 2 ^ 21 → (tx (pQ tx p) = 58 → 1 ≤ pDg tx p) → (∀ i, i < 14 + r → e i = mW i) → e (14 + r) = nI w →
        v_M_readRule_B228 post (nI n) t (nI (14 + r)) (nI e9) (upd mH (14 + r) (nI (tx p - 65))) c d e := by
      intro w e9 e hE hWt hw9 he9 hdg he1 he2
      have hce := h.lt e9
      unfold v_M_readRule_B228
      rw [nI_clamp hR31, c2, he2]
      refine ⟨inR, p_le (b := 0) (by omega) (by decide) (fun z => ?_) (fun z => ⟨inR, ⟨fun y => absurd y (nI_pos (by omega)), fun _ => ?_⟩⟩)⟩
      · exact bad260 e _ (fun y => by have := y.2.2.1; omega) he1
      · refine ps_next h (by omega) (p_eq (b := 59) (by omega) (by decide) (fun e59 => ?_) (fun e59 => bad260 e _ (fun y => e59 (by rw [← hE]; exact y.2.2.2.2)) he1))
        have hyes : pOK tx p := ⟨hL, e61, by omega, hdg, by rw [hE]; exact e59⟩
        have hend := hok hyes (upd mH (14 + r) (nI (tx p - 65))) c d e (kp e he1) pk_us (by rw [hK]; exact c2) (by rw [hK]; exact d2) (by rw [hWt]; exact he2)
        unfold v_M_readRule_B260
        refine ⟨fun y => absurd y (by decide), fun _ => ?_⟩
        rw [hK] at hend
        refine ps_magain (by omega) (by omega) hK3 c2 (fun z => ⟨fun y => absurd y (by decide), fun _ => hend.1 z _⟩) (fun z => ⟨fun _ => ?_, fun y => absurd rfl y⟩)
        have := hend.2 z
        rw [hE, ← nI_add e9 1] at this
        exact this
    unfold v_M_readRule_B192
    rw [nI_clamp hR31]
    refine ⟨inR, ps_next h (by omega) (p_eq (b := 58) (by omega) (by decide) (fun e58 => ?_) (fun e58 => ?_))⟩
    · rw [show nI (p + 2 + K) + (1 : Int32) = nI (p + 2 + K + 1) from nI_add _ 1]
      have e58' : tx (pQ tx p) = 58 := by rw [hQ]; exact e58
      have hDd : pDg tx p = prun pdig tx 3 (p + 2 + K + 1) := by unfold pDg; rw [hQ]
      have h43 := prun43 (P := pdig) (tx := tx) (p := p + 2 + K + 1)
      have uu : ∀ w : Int32, (upd (upd mW (14 + r) 1) (14 + r) w) (14 + r) = w := fun w => pk_us
      have uo : ∀ (w : Int32) (i : Nat), i < 14 + r → (upd (upd mW (14 + r) 1) (14 + r) w) i = mW i := fun w i hi => by rw [pk_un (by omega), pk_un (by omega)]
      refine ps_mnumber h (by omega) (fun hz q hq => ⟨inR, ?_⟩) (fun hd1 hd3 => ⟨inR, ?_⟩)
      · -- no digit, or four of them
        have hb : ¬ pOK tx p := fun y => by
          rcases hz with hz | hz
          · have e3 := h43.1 (by omega)
            have := y.2.2.2.1 e58'
            omega
          · obtain ⟨e3, e4⟩ := h43.2 hz
            have e5 := y.2.2.2.2
            unfold pE at e5
            rw [if_pos e58', hQ, hDd, e3] at e5
            have := (pdig_t.mp e4).2
            rw [show p + 2 + K + 1 + 3 = p + 2 + K + 1 + 3 from rfl] at e5
            omega
        unfold v_M_readRule_B228
        rw [nI_clamp hR31, c2, uu]
        refine ⟨inR, p_le (b := 0) (by omega) (by decide) (fun z => bad260 _ _ hb (uo _)) (fun z => ⟨inR, ⟨fun _ => bad260 _ _ hb (uo _), fun y => absurd (by decide) y⟩⟩)⟩
      · have e3 := h43.1 hd3
        rw [← e3] at hd1 hd3 ⊢
        refine b228 _ _ _ ?_ ?_ ?_ (by omega) (fun _ => by rw [hDd]; exact hd1) (uo _) (uu _)
        · unfold pE; rw [if_pos e58', hQ, hDd]
        · unfold pW; rw [if_pos e58', hQ, hDd]
        · have := pW_le tx p
          unfold pW at this
          rw [if_pos e58', hQ, hDd] at this
          exact this
    · have e58' : ¬ tx (pQ tx p) = 58 := by rw [hQ]; exact e58
      exact b228 1 _ _ (by unfold pE; rw [if_neg e58', hQ]) (by unfold pW; rw [if_neg e58']) (by decide) (by omega) (fun y => absurd y e58') (fun i hi => pk_un (by omega)) pk_us
  -- the loop over the symbols
  have loop : ∀ (x2 : Int32), (x2 = 1 → psym (tx (p + 2)) = true) → (x2 = 0 → psym (tx (p + 2)) = false) → (x2 = 0 ∨ x2 = 1) → ∃ k110, v_M_readRule_L110 post (nI n) t (nI (14 + r)) (upd mH (14 + r) (nI (tx p - 65))) mW k110 x2 (nI (p + 2)) (upd mZ (14 + r) 0) mB := by
    intro x20 s1 s0 s01
    refine lp4 (W := fun f a b c d => v_M_readRule_L110 post (nI n) t (nI (14 + r)) (upd mH (14 + r) (nI (tx p - 65))) mW f a b c d) (I := fun x2 at9 c d => ∃ k, k ≤ 3 ∧ at9 = nI (p + 2 + k) ∧ ((x2 = 1 ∧ psym (tx (p + 2 + k)) = true) ∨ (x2 = 0 ∧ psym (tx (p + 2 + k)) = false)) ∧ (∀ i, i < 14 + r → c i = mZ i) ∧ c (14 + r) = nI k ∧ (∀ q, q < 3 * (14 + r) → d q = mB q) ∧ (∀ j, j < k → psym (tx (p + 2 + j)) = true ∧ d (3 * (14 + r) + j) = nI (tx (p + 2 + j)))) (μ := fun _ at9 _ _ => 2 ^ 21 - at9.toNatClampNeg) ?_ x20 (nI (p + 2)) (upd mZ (14 + r) 0) mB ⟨0, by omega, rfl, ?_, fun i hi => pk_un (by omega), by rw [pk_us, nI_0], fun _ _ => rfl, fun j hj => absurd hj (Nat.not_lt_zero j)⟩
    rotate_left
    · rcases s01 with rfl | rfl
      · exact Or.inr ⟨rfl, s0 rfl⟩
      · exact Or.inl ⟨rfl, s1 rfl⟩
    rintro f x2 at9 c d ⟨k, hk, rfl, hx, c1, c2, d1, d2⟩ ih
    show v_M_readRule_L110 post (nI n) t (nI (14 + r)) (upd mH (14 + r) (nI (tx p - 65))) mW (f + 1) _ _ _ _
    unfold v_M_readRule_L110
    rw [nI_clamp hR31, c2]
    have fin : (k < 3 → psym (tx (p + 2 + k)) = false) → v_M_readRule_B192 post (nI n) t (nI (14 + r)) (nI (p + 2 + k)) (upd mH (14 + r) (nI (tx p - 65))) c d mW := fun hs =>
      behind k c d (prun_eq hk (fun j hj => (d2 j hj).1) hs) c1 c2 d1 (fun j hj => (d2 j hj).2)
    rcases hx with ⟨rfl, hs⟩ | ⟨rfl, hs⟩
    rotate_left
    · exact ⟨fun _ => fin (fun _ => hs), fun z => absurd rfl z⟩
    refine ⟨fun z => absurd z (by decide), fun _ => ⟨inR, p_le (a := 3) (by decide) (by omega) (fun h3 => fin (fun z => by omega)) (fun h3 => ⟨inR, ?_⟩)⟩⟩
    have hcq := h.lt (p + 2 + k)
    have hcq1 := h.lt (p + 2 + (k + 1))
    refine ps_next h (by omega) ?_
    rw [p_ix2, nI_clamp (show 3 * (14 + r) + k < 2 ^ 31 by omega), p_char2 (by omega), show nI (p + 2 + k) + (1 : Int32) = nI (p + 2 + (k + 1)) from nI_add (p + 2 + k) 1, show nI k + (1 : Int32) = nI (k + 1) from nI_add k 1]
    refine ⟨vp_in_nI (by omega) (by decide), inR, inR, ps_next h (by omega) ?_⟩
    have hmu : 2 ^ 21 - (nI (p + 2 + (k + 1))).toNatClampNeg < 2 ^ 21 - (nI (p + 2 + k)).toNatClampNeg := p_mu (by omega) (by decide) rfl
    have nxt : ∀ x2', ((x2' = 1 ∧ psym (tx (p + 2 + (k + 1))) = true) ∨ (x2' = 0 ∧ psym (tx (p + 2 + (k + 1))) = false)) → v_M_readRule_L110 post (nI n) t (nI (14 + r)) (upd mH (14 + r) (nI (tx p - 65))) mW f x2' (nI (p + 2 + (k + 1))) (upd c (14 + r) (nI (k + 1))) (upd d (3 * (14 + r) + k) (nI (tx (p + 2 + k)))) := fun x2' hx' => by
      refine ih _ _ _ _ ⟨k + 1, by omega, rfl, hx', fun i hi => by rw [pk_un (by omega)]; exact c1 i hi, pk_us, fun q hq => by rw [pk_un (by omega)]; exact d1 q hq, fun j hj => ?_⟩ hmu
      by_cases e : j = k
      · subst e; exact ⟨hs, pk_us⟩
      · rw [pk_un (by omega)]; exact d2 j (by omega)
    refine ps_misLetter (by omega) (fun hLn => ⟨fun z => absurd z (by decide), fun _ => nxt 1 (Or.inl ⟨rfl, psym_t.mpr (Or.inl hLn)⟩)⟩) (fun hLn => ⟨fun _ => ps_next h (by omega) (ps_misToken (by omega) (fun hTn => ⟨fun z => absurd z (by decide), fun _ => nxt 1 (Or.inl ⟨rfl, psym_t.mpr (Or.inr hTn)⟩)⟩) (fun hTn => ⟨fun _ => nxt 0 (Or.inr ⟨rfl, ?_⟩), fun z => absurd rfl z⟩)), fun z => absurd rfl z⟩)
    cases hb : psym (tx (p + 2 + (k + 1))) with
    | false => rfl
    | true => exact absurd (psym_t.mp hb) (fun z => z.elim hLn hTn)
  have hc2 := h.lt (p + 2)
  refine ps_next h (by omega) (ps_misLetter (by omega) (fun hL2 => ⟨fun z => absurd z (by decide), fun _ => loop 1 (fun _ => psym_t.mpr (Or.inl hL2)) (fun z => absurd z (by decide)) (Or.inr rfl)⟩) (fun hL2 => ⟨fun _ => ps_next h (by omega) (ps_misToken (by omega) (fun hT2 => ⟨fun z => absurd z (by decide), fun _ => loop 1 (fun _ => psym_t.mpr (Or.inr hT2)) (fun z => absurd z (by decide)) (Or.inr rfl)⟩) (fun hT2 => ⟨fun _ => loop 0 (fun z => absurd z (by decide)) (fun _ => ?_) (Or.inl rfl), fun z => absurd rfl z⟩)), fun z => absurd rfl z⟩))
  cases hb : psym (tx (p + 2)) with
  | false => rfl
  | true => exact absurd (psym_t.mp hb) (fun z => z.elim hL2 hT2)
end MR2
