/-! A grammar as numbers: head hd (0..4), length ln, symbols sy, weight wt of each rule; read off a text. -/
def ppos (tx : Nat → Nat) : Nat → Nat
  | 0 => 0
  | i + 1 => pE tx (ppos tx i) + 1
def tHd (tx : Nat → Nat) (i : Nat) : Nat := tx (ppos tx i) - 65
def tLn (tx : Nat → Nat) (i : Nat) : Nat := pK tx (ppos tx i)
def tSy (tx : Nat → Nat) (i j : Nat) : Nat := tx (ppos tx i + 2 + j)
def tWt (tx : Nat → Nat) (i : Nat) : Nat := pW tx (ppos tx i)
def gTwin (hd ln : Nat → Nat) (sy : Nat → Nat → Nat) (i o : Nat) : Prop := hd o = hd i ∧ ln o = ln i ∧ ∀ j, j < ln i → sy o j = sy i j
def tGood (tx : Nat → Nat) (i : Nat) : Prop := pOK tx (ppos tx i) ∧ ∀ o, o < i → ¬ gTwin (tHd tx) (tLn tx) (tSy tx) i o
/-- the rules below r are as they must be -/
def gWF (r : Nat) (hd ln : Nat → Nat) (sy : Nat → Nat → Nat) (wt : Nat → Nat) : Prop := ∀ i, i < r → hd i < 5 ∧ 1 ≤ ln i ∧ ln i ≤ 3 ∧ wt i ≤ 999 ∧ ∀ j, j < ln i → isL (sy i j) ∨ isT (sy i j)
/-- the class's arrays hold the rules below r -/
def cRel (r : Nat) (hd ln : Nat → Nat) (sy : Nat → Nat → Nat) (wt : Nat → Nat) (gH gS gL gW : Nat → Int32) : Prop :=
  ∀ i, i < r → gH i = nI (65 + hd i) ∧ gL i = nI (ln i) ∧ gW i = nI (wt i) ∧ (∀ j, j < ln i → gS (3 * i + j) = nI (sy i j)) ∧ ∀ j, ln i ≤ j → j < 3 → gS (3 * i + j) = 0
theorem t_wf {tx : Nat → Nat} {i : Nat} (h : pOK tx (ppos tx i)) : tHd tx i < 5 ∧ 1 ≤ tLn tx i ∧ tLn tx i ≤ 3 ∧ tWt tx i ≤ 999 ∧ ∀ j, j < tLn tx i → isL (tSy tx i j) ∨ isT (tSy tx i j) := by
  have h1 := h.1
  unfold isL at h1
  exact ⟨by unfold tHd; omega, h.2.2.1, prun_le _ _ _ _, pW_le _ _, fun j hj => psym_t.mp (prun_all hj)⟩
/-- twins in the class's arrays are twins -/
theorem cTwin_iff {r : Nat} {hd ln : Nat → Nat} {sy : Nat → Nat → Nat} {wt : Nat → Nat} {gH gS gL gW : Nat → Int32} (hw : gWF r hd ln sy wt) (hc : cRel r hd ln sy wt gH gS gL gW) {i o : Nat} (hi : i < r) (ho : o < r) : cTwin gH gS i o ↔ gTwin hd ln sy i o := by
  obtain ⟨a1, a2, a3, -, a5⟩ := hw i hi
  obtain ⟨b1, b2, b3, -, b5⟩ := hw o ho
  obtain ⟨c1, -, -, c4, c5⟩ := hc i hi
  obtain ⟨d1, -, -, d4, d5⟩ := hc o ho
  have sm : ∀ {c : Nat}, isL c ∨ isT c → 1 ≤ c ∧ c < 2 ^ 31 := fun h => by unfold isL isT at h; omega
  -- a symbol of each, by place
  have cell : ∀ j, j < 3 → (gS (3 * o + j) = gS (3 * i + j) ↔ ((j < ln i ∧ j < ln o ∧ sy o j = sy i j) ∨ (ln i ≤ j ∧ ln o ≤ j))) := by
    intro j hj
    by_cases ei : j < ln i <;> by_cases eo : j < ln o
    · rw [c4 j ei, d4 j eo, nI_eq (sm (b5 j eo)).2 (sm (a5 j ei)).2]
      constructor
      · exact fun z => Or.inl ⟨ei, eo, z⟩
      · rintro (⟨-, -, z⟩ | ⟨z, -⟩)
        · exact z
        · omega
    · rw [c4 j ei, d5 j (by omega) hj, ← nI_0, nI_eq (by decide) (sm (a5 j ei)).2]
      have := (sm (a5 j ei)).1
      constructor
      · intro z; omega
      · rintro (⟨-, z, -⟩ | ⟨z, -⟩) <;> omega
    · rw [c5 j (by omega) hj, d4 j eo, ← nI_0, nI_eq (sm (b5 j eo)).2 (by decide)]
      have := (sm (b5 j eo)).1
      constructor
      · intro z; omega
      · rintro (⟨z, -, -⟩ | ⟨-, z⟩) <;> omega
    · rw [c5 j (by omega) hj, d5 j (by omega) hj]
      exact ⟨fun _ => Or.inr ⟨by omega, by omega⟩, fun _ => rfl⟩
  unfold cTwin gTwin
  rw [c1, d1, nI_eq (by omega) (by omega)]
  have e0 := cell 0 (by decide)
  have e1 := cell 1 (by decide)
  have e2 := cell 2 (by decide)
  rw [Nat.add_zero, Nat.add_zero] at e0
  rw [e0, e1, e2]
  constructor
  · rintro ⟨z, z0, z1, z2⟩
    have hln : ln o = ln i := by omega
    refine ⟨by omega, hln, fun j hj => ?_⟩
    have hj3 : j = 0 ∨ j = 1 ∨ j = 2 := by omega
    rcases hj3 with rfl | rfl | rfl
    · rcases z0 with z0 | z0
      · exact z0.2.2
      · omega
    · rcases z1 with z1 | z1
      · exact z1.2.2
      · omega
    · rcases z2 with z2 | z2
      · exact z2.2.2
      · omega
  · rintro ⟨z, hln, hs⟩
    have one : ∀ j, j < 3 → ((j < ln i ∧ j < ln o ∧ sy o j = sy i j) ∨ (ln i ≤ j ∧ ln o ≤ j)) := fun j hj => by
      by_cases e : j < ln i
      · exact Or.inl ⟨e, by omega, hs j e⟩
      · exact Or.inr ⟨by omega, by omega⟩
    exact ⟨by omega, one 0 (by decide), one 1 (by decide), one 2 (by decide)⟩
theorem ps_readInto {n : Nat} {tx : Nat → Nat} {t : Nat → Int32} (h : rTx n tx t) {rP gN : Int32} {gH gS gL gW : Nat → Int32} {post : Int32 → Int32 → Int32 → (Nat → Int32) → (Nat → Int32) → (Nat → Int32) → (Nat → Int32) → Prop}
    (hf : ∀ k, k < 14 → (∀ j, j < k → tGood tx j ∧ ppos tx (j + 1) < n) → ¬ tGood tx k → ∀ a b c d e f, post (-(nI (k + 1))) a b c d e f)
    (h15 : (∀ j, j < 14 → tGood tx j ∧ ppos tx (j + 1) < n) → ∀ a b c d e f, post (-15) a b c d e f)
    (hs : ∀ r, r < 14 → (∀ j, j < r → tGood tx j ∧ ppos tx (j + 1) < n) → tGood tx r → n ≤ ppos tx (r + 1) → ∀ a (c d e f : Nat → Int32), cRel (r + 1) (tHd tx) (tLn tx) (tSy tx) (tWt tx) c d e f → post 0 a (nI (r + 1)) c d e f) :
    v_Reader_readInto rP (nI n) t gN gH gS gL gW post := by
  have hn := h.1
  unfold v_Reader_readInto
  refine lp7 (W := fun f a b c d e g i => v_Reader_readInto_L12 post (nI n) t f a b c d e g i) (I := fun x2 rP gN gH gS gL gW => ∃ r, r ≤ 14 ∧ x2 = nI (r + 1) ∧ rP = nI (ppos tx r) ∧ ppos tx r ≤ n ∧ gN = nI r ∧ (∀ j, j < r → tGood tx j ∧ ppos tx (j + 1) < n) ∧ cRel r (tHd tx) (tLn tx) (tSy tx) (tWt tx) gH gS gL gW) (μ := fun x2 _ _ _ _ _ _ => 15 - x2.toNatClampNeg) ?_ 1 0 0 gH gS gL gW ⟨0, by omega, rfl, nI_0.symm, Nat.zero_le _, nI_0.symm, fun j hj => absurd hj (Nat.not_lt_zero j), fun i hi => absurd hi (Nat.not_lt_zero i)⟩
  rintro f x2 rP gN gH gS gL gW ⟨r, hr, rfl, rfl, hle, rfl, hall, hrel⟩ ih
  show v_Reader_readInto_L12 post (nI n) t (f + 1) _ _ _ _ _ _ _
  unfold v_Reader_readInto_L12
  refine p_lt (a := 14) (by decide) (by omega) (fun h14 => ?_) (fun h14 => ?_)
  · have e : r = 14 := by omega
    subst e
    exact h15 hall _ _ _ _ _ _
  have hr14 : r < 14 := by omega
  refine ps_readRule h hr14 hle (fun hb a b c d e f => ⟨fun _ => hf r hr14 hall (fun z => hb z.1) _ _ _ _ _ _, fun z => absurd rfl z⟩) (fun hok hE g g1 g2 g3 => ?_)
  have hwf := t_wf hok
  have hrel' : cRel (r + 1) (tHd tx) (tLn tx) (tSy tx) (tWt tx) (upd gH r (nI (tx (ppos tx r)))) g (upd gL r (nI (pK tx (ppos tx r)))) (upd gW r (nI (pW tx (ppos tx r)))) := by
    intro i hi
    by_cases e : i = r
    · subst e
      refine ⟨?_, pk_us, pk_us, g1, g2⟩
      rw [pk_us]
      have := hok.1.1
      congr 1
      unfold tHd
      omega
    · obtain ⟨c1, c2, c3, c4, c5⟩ := hrel i (by omega)
      have hl3 := (t_wf (hall i (by omega)).1.1).2.2.1
      exact ⟨by rw [pk_un e]; exact c1, by rw [pk_un e]; exact c2, by rw [pk_un e]; exact c3, fun j hj => by rw [g3 _ (by omega)]; exact c4 j hj, fun j hj hj3 => by rw [g3 _ (by omega)]; exact c5 j hj hj3⟩
  have hWF : gWF (r + 1) (tHd tx) (tLn tx) (tSy tx) (tWt tx) := fun i hi => by
    by_cases e : i = r
    · subst e; exact hwf
    · exact t_wf (hall i (by omega)).1.1
  have htw : ∀ o, o < r → (cTwin (upd gH r (nI (tx (ppos tx r)))) g r o ↔ gTwin (tHd tx) (tLn tx) (tSy tx) r o) := fun o ho => cTwin_iff hWF hrel' (by omega) (by omega)
  refine ⟨fun ⟨o, ho, hz⟩ a b c d e f => ⟨fun _ => hf r hr14 hall (fun z => z.2 o ho ((htw o ho).mp hz)) _ _ _ _ _ _, fun z => absurd rfl z⟩, fun hno => ⟨fun z => absurd z (by decide), fun _ => ?_⟩⟩
  have hgood : tGood tx r := ⟨hok, fun o ho z => hno o ho ((htw o ho).mpr z)⟩
  have hpos : pE tx (ppos tx r) + 1 = ppos tx (r + 1) := rfl
  rw [hpos] at hE ⊢
  refine p_lt (by omega) (by omega) (fun hlt => ?_) (fun hge => hs r hr14 hall hgood hge _ _ _ _ _ hrel')
  rw [show nI (r + 1) + 1 = nI (r + 1 + 1) from nI_add (r + 1) 1]
  refine ih _ _ _ _ _ _ _ ⟨r + 1, by omega, rfl, rfl, by omega, rfl, fun j hj => ?_, hrel'⟩ (p_mu (by omega) (by decide) rfl)
  by_cases e : j = r
  · subst e; exact ⟨hgood, hlt⟩
  · exact hall j (by omega)
