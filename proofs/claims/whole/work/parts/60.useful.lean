/-! Which rules are useful, in class and model. -/
/-- a grammar's rules -/
def Gr : Type := Nat × (Nat → Nat) × (Nat → Nat) × (Nat → Nat → Nat) × (Nat → Nat)
def Gr.k (G : Gr) : Nat := G.1
def Gr.hd (G : Gr) : Nat → Nat := G.2.1
def Gr.ln (G : Gr) : Nat → Nat := G.2.2.1
def Gr.sy (G : Gr) : Nat → Nat → Nat := G.2.2.2.1
def Gr.wt (G : Gr) : Nat → Nat := G.2.2.2.2
def Gr.WF (G : Gr) : Prop := G.k ≤ 14 ∧ gWF G.k G.hd G.ln G.sy G.wt
/-- the letters among the first m symbols of rule i -/
def Gr.ltm (G : Gr) (i : Nat) : Nat → Nat → Bool
  | 0 => fun _ => false
  | m + 1 => fun l => G.ltm i m l || (decide (l < 5) && G.sy i m == 65 + l)
def Gr.lt (G : Gr) (i : Nat) : Nat → Bool := G.ltm i (G.ln i)
theorem Gr.ltm_5 (G : Gr) (i : Nat) {l : Nat} : ∀ {m : Nat}, G.ltm i m l = true → l < 5 := by
  intro m
  induction m with
  | zero => intro h; exact absurd h (by simp [Gr.ltm])
  | succ m ih =>
    intro h
    simp only [Gr.ltm, Bool.or_eq_true, Bool.and_eq_true, decide_eq_true_eq] at h
    rcases h with h | h
    · exact ih h
    · exact h.1
theorem Gr.ltm_iff (G : Gr) (i : Nat) {l : Nat} : ∀ {m : Nat}, G.ltm i m l = true ↔ l < 5 ∧ ∃ j, j < m ∧ G.sy i j = 65 + l := by
  intro m
  induction m with
  | zero => simp [Gr.ltm]
  | succ m ih =>
    simp only [Gr.ltm, Bool.or_eq_true, Bool.and_eq_true, decide_eq_true_eq, ih, beq_iff_eq]
    constructor
    · rintro (⟨h, j, hj, e⟩ | ⟨h, e⟩)
      · exact ⟨h, j, by omega, e⟩
      · exact ⟨h, m, by omega, e⟩
    · rintro ⟨h, j, hj, e⟩
      by_cases q : j = m
      · subst q; exact Or.inr ⟨h, e⟩
      · exact Or.inl ⟨h, j, by omega, e⟩
/-- a letter's symbol adds its bit -/
theorem Gr.ltm_L (G : Gr) (i m : Nat) {l : Nat} (h : G.sy i m = 65 + l) (hl : l < 5) : G.ltm i (m + 1) = fun x => G.ltm i m x || one5 l x := by
  funext x
  have q : (decide (x < 5) && (65 + l == 65 + x)) = (x == l) := by
    by_cases e : x = l
    · subst e; simp [hl]
    · have : ¬ (65 + l = 65 + x) := by omega
      rw [beq_eq_false_iff_ne.mpr this, beq_eq_false_iff_ne.mpr e, Bool.and_false]
  simp only [Gr.ltm, one5, h, q]
theorem Gr.ltm_T (G : Gr) (i m : Nat) (h : ¬ isL (G.sy i m)) : G.ltm i (m + 1) = G.ltm i m := by
  funext x
  simp only [Gr.ltm]
  by_cases e : x < 5
  · have : ¬ (G.sy i m = 65 + x) := fun q => h (by unfold isL; omega)
    simp [this]
  · simp [e]
theorem isL_l {c : Nat} (h : isL c) : ∃ l, l < 5 ∧ c = 65 + l := ⟨c - 65, by unfold isL at h; omega, by unfold isL at h; omega⟩
/-- the class holds G -/
def Gr.c (G : Gr) (gH gS gL gW : Nat → Int32) : Prop := cRel G.k G.hd G.ln G.sy G.wt gH gS gL gW
/-- the model holds G from row o on -/
def Gr.m (G : Gr) (o : Nat) (mH mZ mB mW : Nat → Int32) : Prop := mRel o G.k G.hd G.ln G.sy G.wt mH mZ mB mW
section US
variable {G : Gr}
theorem Gr.sy_lt (hw : G.WF) {i j : Nat} (hi : i < G.k) (hj : j < G.ln i) : G.sy i j < 2 ^ 31 := by
  have := (hw.2 i hi).2.2.2.2 j hj
  unfold isL isT at this
  omega
theorem ps_lettersIn (hw : G.WF) {gH gS gL gW : Nat → Int32} (hc : G.c gH gS gL gW) {i : Nat} (hi : i < G.k) {post : Int32 → Prop} (k : post (bms (G.lt i))) : v_Grammar_lettersIn (nI i) gS gL post := by
  have hk := hw.1
  obtain ⟨w1, w2, w3, w4, w5⟩ := hw.2 i hi
  obtain ⟨c1, c2, c3, c4, c5⟩ := hc i hi
  unfold v_Grammar_lettersIn
  refine lp2 (W := fun f a b => v_Grammar_lettersIn_L4 post gS gL (nI i) f a b) (I := fun x2 x3 => ∃ m, m ≤ G.ln i ∧ x2 = bms (G.ltm i m) ∧ x3 = nI m) (μ := fun _ x3 => 9 - x3.toNatClampNeg) ?_ 0 0 ⟨0, Nat.zero_le _, by rw [← bms_0]; rfl, nI_0.symm⟩
  rintro f x2 x3 ⟨m, hm, rfl, rfl⟩ ih
  show v_Grammar_lettersIn_L4 post gS gL (nI i) (f + 1) _ _
  unfold v_Grammar_lettersIn_L4
  rw [nI_clamp (by omega), c2]
  refine ⟨vp_in_nI (by omega) (by decide), p_le (by omega) (by omega) (fun h => ?_) (fun h => ?_)⟩
  · have e : m = G.ln i := by omega
    subst e
    exact k
  have hmu := p_mu (M := 9) (a := m) (by omega) (by decide) rfl
  have hs := Gr.sy_lt hw hi h
  refine ps_symbol (by omega) (by omega) ?_
  rw [c4 m h]
  refine ps_isLetter hs (fun hL => ⟨fun z => absurd z (by decide), fun _ => ps_symbol (by omega) (by omega) ?_⟩) (fun hL => ⟨fun _ => ?_, fun z => absurd rfl z⟩)
  · obtain ⟨l, hl, e⟩ := isL_l hL
    rw [c4 m h, e]
    refine ps_bitOf hl ?_
    rw [bms_or, ← Gr.ltm_L G i m e hl]
    exact ih _ _ ⟨m + 1, by omega, rfl, nI_add m 1⟩ (by rw [show nI m + (1 : Int32) = nI (m + 1) from nI_add m 1]; exact hmu)
  · rw [← Gr.ltm_T G i m hL]
    exact ih _ _ ⟨m + 1, by omega, rfl, nI_add m 1⟩ (by rw [show nI m + (1 : Int32) = nI (m + 1) from nI_add m 1]; exact hmu)
end US
def Gr.fs (G : Gr) (S : Nat → Bool) (i : Nat) : Nat → Bool := ad5 S (sb5 (G.lt i) S) (one5 (G.hd i))
def Gr.rs (G : Gr) (F R : Nat → Bool) (i : Nat) : Nat → Bool := ad5 R (R (G.hd i) && sb5 (G.lt i) F) (G.lt i)
def Gr.fert (G : Gr) : Nat → Bool := itr (fun X _ => itr G.fs G.k X) 5 (fun _ => false)
def Gr.rch (G : Gr) : Nat → Bool := itr (fun X _ => itr (G.rs G.fert) G.k X) 5 (one5 (G.hd 0))
/-- the useful rules -/
def Gr.us (G : Gr) (i : Nat) : Bool := G.rch (G.hd i) && sb5 (G.lt i) G.fert
section US2
variable {G : Gr}
theorem Gr.fs_g (hw : G.WF) (S : Nat → Bool) (i : Nat) (hi : i < G.k) (h : G.fs S i ≠ S) : cd5 S < cd5 (G.fs S i) := ad5_grow (fun l hl => by
  have : l = G.hd i := by simpa [one5] using hl
  rw [this]; exact (hw.2 i hi).1) h
theorem Gr.rs_g (F S : Nat → Bool) (i : Nat) (h : G.rs F S i ≠ S) : cd5 S < cd5 (G.rs F S i) := ad5_grow (fun l hl => G.ltm_5 i hl) h
theorem Gr.fert_cl (hw : G.WF) : ∀ i, i < G.k → G.fs G.fert i = G.fert := rnd_end (Gr.fs_g hw) _ (by omega)
theorem Gr.rch4 (hw : G.WF) (h0 : 0 < G.k) : ∀ i, i < G.k → G.rs G.fert (itr (fun X _ => itr (G.rs G.fert) G.k X) 4 (one5 (G.hd 0))) i = itr (fun X _ => itr (G.rs G.fert) G.k X) 4 (one5 (G.hd 0)) := by
  refine rnd_end (fun S i _ => Gr.rs_g G.fert S i) _ ?_
  have h5 := (hw.2 0 h0).1
  have : cd5 (one5 (G.hd 0)) = 1 := by
    have q : ∀ l : Nat, l < 5 → cd5 (one5 l) = 1 := by decide
    exact q _ h5
  omega
theorem Gr.rch_4 (hw : G.WF) (h0 : 0 < G.k) : G.rch = itr (fun X _ => itr (G.rs G.fert) G.k X) 4 (one5 (G.hd 0)) := rnd_cl (Gr.rch4 hw h0) G.k (Nat.le_refl _)
/-- a rule whose letters are fertile has a fertile head -/
theorem Gr.fert_hd (hw : G.WF) {i : Nat} (hi : i < G.k) (h : sb5 (G.lt i) G.fert = true) : G.fert (G.hd i) = true := by
  have := congrFun (Gr.fert_cl hw i hi) (G.hd i)
  rw [← this]
  simp [Gr.fs, ad5, h, one5]
/-- the letters of a useful rule are reached -/
theorem Gr.us_lt (hw : G.WF) (h0 : 0 < G.k) {i : Nat} (hi : i < G.k) (h : G.us i = true) {l : Nat} (hl : G.lt i l = true) : G.rch l = true := by
  have := congrFun (Gr.rch4 hw h0 i hi) l
  rw [← Gr.rch_4 hw h0] at this
  rw [← this]
  unfold Gr.us at h
  simp [Gr.rs, ad5, h, hl]
end US2
