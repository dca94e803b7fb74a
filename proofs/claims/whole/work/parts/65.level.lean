/-! Levels: the model's isRound and findLevels. -/
def Gr.uB (G : Gr) (i : Nat) : Bool := G.us i && G.ln i == 1 && decide (65 ≤ G.sy i 0 ∧ G.sy i 0 ≤ 69)
def Gr.ux (G : Gr) (i : Nat) : Nat := G.sy i 0 - 65
def Gr.lvs (G : Gr) (v : Nat → Nat) (i : Nat) : Nat → Nat := if G.uB i then (fun l => if l = G.hd i then max (v (G.ux i) + 1) (v (G.hd i)) else v l) else v
def Gr.LV (G : Gr) (n m : Nat) : Nat → Nat := itr G.lvs m (itr (fun v _ => itr G.lvs G.k v) n (fun _ => 0))
/-- places that fall along every body of one letter -/
def Gr.Rk (G : Gr) (ρ : Nat → Nat) : Prop := (∀ l, l < 5 → ρ l < 5) ∧ ∀ i, i < G.k → ∀ x, x < 5 → G.uni i x → ρ x < ρ (G.hd i)
section LVL
variable {G : Gr}
theorem Gr.uB_uni {i : Nat} (h : G.uB i = true) : G.ux i < 5 ∧ G.uni i (G.ux i) := by
  simp only [Gr.uB, Bool.and_eq_true, beq_iff_eq, decide_eq_true_eq] at h
  obtain ⟨⟨h1, h2⟩, h3, h4⟩ := h
  unfold Gr.ux
  exact ⟨by omega, h1, h2, by omega⟩
theorem Gr.uni_uB {i x : Nat} (hx : x < 5) (h : G.uni i x) : G.uB i = true ∧ G.ux i = x := by
  obtain ⟨h1, h2, h3⟩ := h
  refine ⟨?_, by unfold Gr.ux; omega⟩
  simp only [Gr.uB, Bool.and_eq_true, beq_iff_eq, decide_eq_true_eq]
  exact ⟨⟨h1, h2⟩, by omega, by omega⟩
theorem Gr.lvs_t {v : Nat → Nat} {i l : Nat} (h : G.uB i = true) : G.lvs v i l = if l = G.hd i then max (v (G.ux i) + 1) (v (G.hd i)) else v l := by unfold Gr.lvs; rw [if_pos h]
theorem Gr.lvs_f {v : Nat → Nat} {i : Nat} (h : ¬ G.uB i = true) : G.lvs v i = v := by unfold Gr.lvs; rw [if_neg h]
theorem Gr.lvs_mono {v : Nat → Nat} {i l : Nat} : v l ≤ G.lvs v i l := by
  by_cases h : G.uB i = true
  · rw [Gr.lvs_t h]
    by_cases e : l = G.hd i
    · rw [if_pos e, e]; exact Nat.le_max_right _ _
    · rw [if_neg e]; exact Nat.le_refl _
  · rw [Gr.lvs_f h]; exact Nat.le_refl _
theorem Gr.LV_s (n m : Nat) : G.LV n (m + 1) = G.lvs (G.LV n m) m := rfl
theorem Gr.LV_n (n : Nat) : G.LV (n + 1) 0 = G.LV n G.k := rfl
theorem Gr.LV_bd (n : Nat) : ∀ m l, m ≤ 14 → G.k ≤ 14 → G.LV n m l ≤ 14 * n + m := by
  induction n with
  | zero =>
    intro m
    induction m with
    | zero => intro l _ _; exact Nat.le_refl _
    | succ m ih =>
      intro l h1 h2
      rw [Gr.LV_s]
      have a := ih l (by omega) h2
      by_cases h : G.uB m = true
      · rw [Gr.lvs_t h]
        have b := ih (G.ux m) (by omega) h2
        have c := ih (G.hd m) (by omega) h2
        by_cases e : l = G.hd m
        · rw [if_pos e]; omega
        · rw [if_neg e]; omega
      · rw [Gr.lvs_f h]; omega
  | succ n ihn =>
    intro m
    induction m with
    | zero => intro l h1 h2; rw [Gr.LV_n]; have := ihn G.k l h2 h2; omega
    | succ m ih =>
      intro l h1 h2
      rw [Gr.LV_s]
      have a := ih l (by omega) h2
      by_cases h : G.uB m = true
      · rw [Gr.lvs_t h]
        have b := ih (G.ux m) (by omega) h2
        have c := ih (G.hd m) (by omega) h2
        by_cases e : l = G.hd m
        · rw [if_pos e]; omega
        · rw [if_neg e]; omega
      · rw [Gr.lvs_f h]; omega
theorem Gr.LV_le {ρ : Nat → Nat} (hw : G.WF) (hρ : G.Rk ρ) (n : Nat) : ∀ m, m ≤ G.k → ∀ l, l < 5 → G.LV n m l ≤ ρ l := by
  have st : ∀ (v : Nat → Nat) (m : Nat), m < G.k → (∀ l, l < 5 → v l ≤ ρ l) → ∀ l, l < 5 → G.lvs v m l ≤ ρ l := fun v m hm hv l hl => by
    by_cases h : G.uB m = true
    · rw [Gr.lvs_t h]
      obtain ⟨x5, hu⟩ := Gr.uB_uni h
      have a := hρ.2 m hm _ x5 hu
      have b := hv _ x5
      have c := hv _ (hw.2 m hm).1
      by_cases e : l = G.hd m
      · rw [if_pos e, e]; omega
      · rw [if_neg e]; exact hv l hl
    · rw [Gr.lvs_f h]; exact hv l hl
  have it : ∀ (v : Nat → Nat), (∀ l, l < 5 → v l ≤ ρ l) → ∀ m, m ≤ G.k → ∀ l, l < 5 → itr G.lvs m v l ≤ ρ l := fun v hv m => by
    induction m with
    | zero => exact fun _ => hv
    | succ m ih => exact fun hm => st _ m (by omega) (ih (by omega))
  have n0 : ∀ n l, l < 5 → itr (fun v _ => itr G.lvs G.k v) n (fun _ => 0) l ≤ ρ l := fun n => by
    induction n with
    | zero => exact fun l _ => Nat.zero_le _
    | succ n ih => exact it _ ih G.k (Nat.le_refl _)
  exact it _ (n0 n)
/-- with places the levels come to rest -/
theorem Gr.LV_fix {ρ : Nat → Nat} (hw : G.WF) (hρ : G.Rk ρ) (n : Nat) : ∀ i, i < G.k → G.uB i = true → ρ (G.hd i) < n → G.LV n 0 (G.ux i) < G.LV n 0 (G.hd i) := by
  induction n with
  | zero => intro i _ _ h; exact absurd h (Nat.not_lt_zero _)
  | succ n ih =>
    have hr : ∀ i, i < G.k → G.uB i = true → ρ (G.ux i) < ρ (G.hd i) := fun i hi hu => hρ.2 i hi _ (Gr.uB_uni hu).1 (Gr.uB_uni hu).2
    have inner : ∀ m, m ≤ G.k → (∀ l, l < 5 → ρ l < n → G.LV n m l = G.LV n 0 l) ∧ (∀ i, i < m → G.uB i = true → ρ (G.hd i) ≤ n → G.LV n m (G.ux i) < G.LV n m (G.hd i)) := by
      intro m
      induction m with
      | zero => exact fun _ => ⟨fun _ _ _ => rfl, fun i hi => absurd hi (Nat.not_lt_zero i)⟩
      | succ m ihm =>
        intro hm
        obtain ⟨h1, h2⟩ := ihm (by omega)
        rw [Gr.LV_s]
        have hm5 := (hw.2 m (by omega)).1
        by_cases hu : G.uB m = true
        rotate_left
        · rw [Gr.lvs_f hu]
          refine ⟨h1, fun i hi hui hle => ?_⟩
          by_cases e : i = m
          · subst e; exact absurd hui hu
          · exact h2 i (by omega) hui hle
        have hx5 := (Gr.uB_uni hu).1
        have hrm := hr m (by omega) hu
        refine ⟨fun l hl hlt => ?_, fun i hi hui hle => ?_⟩
        · rw [Gr.lvs_t hu]
          by_cases e : l = G.hd m
          · subst e
            rw [if_pos rfl, h1 _ hx5 (by omega), h1 _ hl hlt]
            have := ih m (by omega) hu hlt
            omega
          · rw [if_neg e]; exact h1 l hl hlt
        · have hri := hr i (by omega) hui
          rw [Gr.lvs_t hu, Gr.lvs_t hu]
          by_cases ex : G.ux i = G.hd m
          · -- the head of m lies below n: it does not change
            have hmn : ρ (G.hd m) < n := by rw [← ex]; omega
            have hfix : max (G.LV n m (G.ux m) + 1) (G.LV n m (G.hd m)) = G.LV n m (G.hd m) := by
              rw [h1 _ hx5 (by omega), h1 _ hm5 hmn]
              have := ih m (by omega) hu hmn
              omega
            rw [if_pos ex, hfix]
            have eim : i ≠ m := fun z => by subst z; rw [ex] at hri; omega
            have hlt := h2 i (by omega) hui hle
            by_cases eh : G.hd i = G.hd m
            · rw [eh] at hri; rw [ex] at hri; omega
            · rw [if_neg eh, ← ex]; exact hlt
          · rw [if_neg ex]
            by_cases eh : G.hd i = G.hd m
            · rw [if_pos eh]
              by_cases e : i = m
              · subst e; omega
              · have := h2 i (by omega) hui hle
                rw [eh] at this
                omega
            · rw [if_neg eh]
              by_cases e : i = m
              · subst e; exact absurd rfl eh
              · exact h2 i (by omega) hui hle
    intro i hi hu hlt
    rw [Gr.LV_n]
    exact (inner G.k (Nat.le_refl _)).2 i hi hu (by omega)
/-- without an end they grow -/
theorem Gr.LV_cy (h : G.Cy) : ∃ l, l < 5 ∧ 4 < G.LV 6 0 l := by
  obtain ⟨U, ⟨l0, hl0, hU0⟩, hU⟩ := h
  have main : ∀ n l, l < 5 → U l = true → n ≤ G.LV n 0 l := by
    intro n
    induction n with
    | zero => exact fun l _ _ => Nat.zero_le _
    | succ n ih =>
      have inner : ∀ m, (∀ l, l < 5 → U l = true → n ≤ G.LV n m l) ∧ (∀ i, i < m → G.uB i = true → U (G.ux i) = true → n + 1 ≤ G.LV n m (G.hd i)) := by
        intro m
        induction m with
        | zero => exact ⟨ih, fun i hi => absurd hi (Nat.not_lt_zero i)⟩
        | succ m ihm =>
          obtain ⟨h1, h2⟩ := ihm
          rw [Gr.LV_s]
          refine ⟨fun l hl hUl => Nat.le_trans (h1 l hl hUl) Gr.lvs_mono, fun i hi hui hUx => ?_⟩
          by_cases e : i = m
          · subst e
            rw [Gr.lvs_t hui, if_pos rfl]
            have := h1 _ (Gr.uB_uni hui).1 hUx
            omega
          · exact Nat.le_trans (h2 i (by omega) hui hUx) Gr.lvs_mono
      intro l hl hUl
      rw [Gr.LV_n]
      obtain ⟨i, x, hi, hx, e1, e2, e3⟩ := hU l hl hUl
      obtain ⟨u1, u2⟩ := Gr.uni_uB hx e2
      rw [← e1]
      exact (inner G.k).2 i hi u1 (by rw [u2]; exact e3)
  exact ⟨l0, hl0, by have := main 6 l0 hl0 hU0; omega⟩
theorem ps_misUnit (hw : G.WF) {o : Nat} (ho : o ≤ 14) {mH mZ mB mW mU : Nat → Int32} (hm : G.m o mH mZ mB mW) (hu : ∀ i, i < G.k → mU (o + i) = b2 (G.us i)) {i : Nat} (hi : i < G.k) {post : Int32 → Prop} (h1 : G.uB i = true → post 1) (h0 : ¬ G.uB i = true → post 0) : v_M_isUnit (nI (o + i)) mZ mB mU post := by
  have hk := hw.1
  obtain ⟨c1, c2, c3, c4⟩ := hm i hi
  obtain ⟨w1, w2, w3, w4, w5⟩ := hw.2 i hi
  have inr : vp_in (nI (o + i)) 28 := vp_in_nI (by omega) (by decide)
  unfold v_M_isUnit
  have e3 : (3 : Int32) * nI (o + i) = nI (3 * (o + i)) := pk_mul 3 (o + i)
  rw [nI_clamp (by omega), hu i hi, c2, b2_0, e3, nI_clamp (by omega), show mB (3 * (o + i)) = nI (G.sy i 0) from c4 0 (by omega)]
  have iff : G.uB i = true ↔ G.us i = true ∧ G.ln i = 1 ∧ isL (G.sy i 0) := by
    simp only [Gr.uB, Bool.and_eq_true, beq_iff_eq, decide_eq_true_eq, isL]
    exact ⟨fun h => ⟨h.1.1, h.1.2, h.2⟩, fun h => ⟨⟨h.1, h.2.1⟩, h.2.2⟩⟩
  refine ⟨inr, fun q => h0 (fun z => by rw [(iff.mp z).1] at q; exact absurd q (by decide)), fun q => ⟨inr, p_eq (b := 1) (by omega) (by decide) (fun e => ⟨vp_in_nI (by omega) (by decide), ?_⟩) (fun e => h0 (fun z => e (iff.mp z).2.1))⟩⟩
  rw [Bool.not_eq_false] at q
  exact ps_misLetter (Gr.sy_lt hw hi (by omega)) (fun hL => ⟨fun z => absurd z (by decide), fun _ => h1 (iff.mpr ⟨q, e, hL⟩)⟩) (fun hL => ⟨fun _ => h0 (fun z => hL (iff.mp z).2.2), fun z => absurd rfl z⟩)
theorem p_sub65 {c l : Nat} (h : c = 65 + l) : nI c - (65 : Int32) = nI l := by
  rw [show (65 : Int32) = nI 65 from rfl, pk_sub (by omega)]
  congr 1
  omega
/-- one step of the levels -/
theorem Gr.lv_up {v : Nat → Nat} {m : Nat} (hu : G.uB m = true) {a : Nat → Int32} (ha : ∀ l, l < 5 → a l = nI (v l)) {x : Nat} (hx : x = max (v (G.ux m) + 1) (v (G.hd m))) : ∀ l, l < 5 → upd a (G.hd m) (nI x) l = nI (G.lvs v m l) := fun l hl => by
  rw [Gr.lvs_t hu]
  by_cases e : l = G.hd m
  · rw [if_pos e, e, pk_us, hx]
  · rw [if_neg e, pk_un e]; exact ha l hl
theorem ps_misRound (hw : G.WF) {mC mH mZ mB mW mU mL : Nat → Int32} (hm : G.m 14 mH mZ mB mW) (hC : mC 1 = nI G.k) (hu : ∀ i, i < G.k → mU (14 + i) = b2 (G.us i)) {post : Int32 → (Nat → Int32) → Prop}
    (k1 : (∃ l, l < 5 ∧ 4 < G.LV 6 0 l) → ∀ v, post 1 v) (k0 : (∀ l, l < 5 → G.LV 6 0 l ≤ 4) → ∀ v, post 0 v) : v_M_isRound mC mH mZ mB mU mL post := by
  have hk := hw.1
  have in1 : vp_in (1 : Int32) 2 := vp_in_nI (n := 1) (by decide) (by decide)
  have one : ((1 : Int32).toNatClampNeg) = 1 := by decide
  have top : (14 : Int32) + nI G.k = nI (14 + G.k) := nI_add 14 G.k
  unfold v_M_isRound
  refine lp2 (W := fun f a b => v_M_isRound_L2 post mC mH mZ mB mU f a b) (I := fun x1 v => ∃ t, t ≤ 5 ∧ x1 = nI t ∧ ∀ l, l < t → v l = nI 0) (μ := fun x1 _ => 9 - x1.toNatClampNeg) ?_ 0 mL ⟨0, by omega, nI_0.symm, fun i hi => absurd hi (Nat.not_lt_zero i)⟩
  rintro f x1 v ⟨t, ht, rfl, hv⟩ ih
  show v_M_isRound_L2 post mC mH mZ mB mU (f + 1) _ _
  unfold v_M_isRound_L2
  rw [p_1]
  refine p_le (a := 5) (by decide) (by omega) (fun h => ?_) (fun h => ⟨vp_in_nI h (by decide), ?_⟩)
  rotate_left
  · rw [nI_clamp (by omega)]
    refine ih _ _ ⟨t + 1, by omega, rfl, fun l hl => ?_⟩ (p_mu (by omega) (by decide) rfl)
    by_cases e : l = t
    · subst e; exact pk_us
    · rw [pk_un e]; exact hv l (by omega)
  have e5 : t = 5 := by omega
  subst e5
  refine lp3 (W := fun f a b c => v_M_isRound_L24 post mC mH mZ mB mU f a b c) (I := fun x1 x2 v => ∃ n b, n ≤ 6 ∧ x1 = b2 b ∧ x2 = nI n ∧ (∀ l, l < 5 → v l = nI (G.LV n 0 l)) ∧ (b = true ↔ ∃ l, l < 5 ∧ 4 < G.LV n 0 l)) (μ := fun _ x2 _ => 9 - x2.toNatClampNeg) ?_ 0 0 v ⟨0, false, by omega, rfl, nI_0.symm, hv, fun z => absurd z (by decide), fun ⟨l, _, z⟩ => absurd z (Nat.not_lt_zero _)⟩
  clear ih hv
  rintro f x1 x2 v ⟨n, b, hn, rfl, rfl, hv, hb⟩ ih
  show v_M_isRound_L24 post mC mH mZ mB mU (f + 1) _ _ _
  unfold v_M_isRound_L24
  refine p_le (a := 6) (by decide) (by omega) (fun h => ⟨b2_narrow b, ?_⟩) (fun h => ?_)
  · have e6 : n = 6 := by omega
    subst e6
    cases b with
    | true => exact k1 (hb.mp rfl) v
    | false => exact k0 (fun l hl => Nat.le_of_not_lt fun q => absurd (hb.mpr ⟨l, hl, q⟩) (by decide)) v
  refine lp3 (W := fun f' a b c => v_M_isRound_L33 (v_M_isRound_L24 post mC mH mZ mB mU f) mC mH mZ mB mU (nI n) f' a b c) (I := fun x1 x3 v => ∃ m b, m ≤ G.k ∧ x1 = b2 b ∧ x3 = nI (14 + m) ∧ (∀ l, l < 5 → v l = nI (G.LV n m l)) ∧ (b = true ↔ ∃ l, l < 5 ∧ 4 < G.LV n m l)) (μ := fun _ x3 _ => 40 - x3.toNatClampNeg) ?_ _ 14 v ⟨0, b, by omega, rfl, rfl, hv, hb⟩
  clear hv hb b
  rintro f' x1 x3 v ⟨m, b, hml, rfl, rfl, hv, hb⟩ ih'
  show v_M_isRound_L33 _ mC mH mZ mB mU (nI n) (f' + 1) _ _ _
  unfold v_M_isRound_L33
  rw [one, hC, top, p_1, p_1]
  refine ⟨in1, p_le (by omega) (by omega) (fun h' => ?_) (fun h' => ?_)⟩
  · have e : m = G.k := by omega
    subst e
    exact ih _ _ _ ⟨n + 1, b, by omega, rfl, rfl, hv, hb⟩ (p_mu (by omega) (by decide) rfl)
  have hmk : m < G.k := by omega
  have hmu := p_mu (M := 40) (a := 14 + m) (by omega) (by decide) rfl
  obtain ⟨c1, c2, c3, c4⟩ := hm m hmk
  obtain ⟨w1, w2, w3, w4, w5⟩ := hw.2 m hmk
  refine ps_misUnit hw (by decide) hm hu hmk (fun hU => ⟨fun z => absurd z (by decide), fun _ => ?_⟩) (fun hU => ⟨fun _ => ?_, fun z => absurd rfl z⟩)
  rotate_left
  · have e : G.LV n (m + 1) = G.LV n m := by rw [Gr.LV_s, Gr.lvs_f hU]
    exact ih' _ _ _ ⟨m + 1, b, hmk, rfl, rfl, by rw [e]; exact hv, by rw [e]; exact hb⟩ hmu
  obtain ⟨hx5, hux⟩ := Gr.uB_uni hU
  have inr : vp_in (nI (14 + m)) 28 := vp_in_nI (by omega) (by decide)
  have inh : vp_in (nI (G.hd m)) 5 := vp_in_nI w1 (by decide)
  rw [show (3 : Int32) * nI (14 + m) = nI (3 * (14 + m)) from pk_mul 3 (14 + m), nI_clamp (show 3 * (14 + m) < 2 ^ 31 by omega), show mB (3 * (14 + m)) = nI (G.sy m 0) from c4 0 (by omega), p_sub65 hux.2.2, nI_clamp (show 14 + m < 2 ^ 31 by omega), c1, nI_clamp (show G.hd m < 2 ^ 31 by omega), nI_clamp (show G.ux m < 2 ^ 31 by omega), hv _ hx5, hv _ w1]
  have b1 := Gr.LV_bd (G := G) n m (G.ux m) (by omega) hk
  have b2' := Gr.LV_bd (G := G) n m (G.hd m) (by omega) hk
  refine ⟨vp_in_nI (by omega) (by decide), vp_in_nI hx5 (by decide), ?_⟩
  intro y hy
  subst hy
  rw [p_1]
  have key : ∀ x, x = max (G.LV n m (G.ux m) + 1) (G.LV n m (G.hd m)) → v_M_isRound_B118 (v_M_isRound_L33 (v_M_isRound_L24 post mC mH mZ mB mU f) mC mH mZ mB mU (nI n) f') mH (b2 b) (nI (14 + m)) (nI (G.hd m)) (nI x) v := fun x hx => by
    unfold v_M_isRound_B118
    rw [nI_clamp (show 14 + m < 2 ^ 31 by omega), c1, nI_clamp (show G.hd m < 2 ^ 31 by omega), pk_us, p_1, b2_0]
    have hv' := Gr.lv_up hU hv hx
    have nx : ∀ b', (b' = true ↔ ∃ l, l < 5 ∧ 4 < G.LV n (m + 1) l) → v_M_isRound_L33 (v_M_isRound_L24 post mC mH mZ mB mU f) mC mH mZ mB mU (nI n) f' (b2 b') (nI (14 + m + 1)) (upd v (G.hd m) (nI x)) := fun b' hb' => ih' _ _ _ ⟨m + 1, b', hmk, rfl, rfl, hv', hb'⟩ hmu
    have hmax : G.LV n (m + 1) (G.hd m) = x := by rw [Gr.LV_s, Gr.lvs_t hU, if_pos rfl, hx]
    have hoth : ∀ l, l ≠ G.hd m → G.LV n (m + 1) l = G.LV n m l := fun l hl => by rw [Gr.LV_s, Gr.lvs_t hU, if_neg hl]
    refine ⟨inh, fun q => ⟨inr, inh, p_le (b := 4) (by omega) (by decide) (fun z => nx false ⟨fun y => absurd y (by decide), ?_⟩) (fun z => nx true ⟨fun _ => ⟨G.hd m, w1, by rw [hmax]; exact z⟩, fun _ => rfl⟩)⟩, fun q => nx true ⟨fun _ => ?_, fun _ => rfl⟩⟩
    · rintro ⟨l, hl, hlt⟩
      by_cases e : l = G.hd m
      · rw [e, hmax] at hlt; omega
      · rw [hoth l e] at hlt
        have := hb.mpr ⟨l, hl, hlt⟩
        rw [q] at this
        exact this
    · rw [Bool.not_eq_false] at q
      obtain ⟨l, hl, hlt⟩ := hb.mp q
      exact ⟨l, hl, Nat.lt_of_lt_of_le hlt Gr.lvs_mono⟩
  refine ⟨inr, inr, inh, p_le (by omega) (by omega) (fun z => ⟨inr, inh, key _ (by omega)⟩) (fun z => key _ (by omega))⟩
theorem ps_mfindLevels (hw : G.WF) {mC mH mZ mB mW mU mL : Nat → Int32} (hm : G.m 0 mH mZ mB mW) (hC : mC 0 = nI G.k) (hu : ∀ i, i < G.k → mU i = b2 (G.us i)) {post : (Nat → Int32) → Prop}
    (k : ∀ v, (∀ l, l < 5 → v l = nI (G.LV 6 0 l)) → post v) : v_M_findLevels mC mH mZ mB mU mL post := by
  have hk := hw.1
  have in0 : vp_in (0 : Int32) 2 := vp_in_nI (n := 0) (by decide) (by decide)
  have zr : ((0 : Int32).toNatClampNeg) = 0 := by decide
  unfold v_M_findLevels
  refine lp2 (W := fun f a b => v_M_findLevels_L2 post mC mH mZ mB mU f a b) (I := fun x1 v => ∃ t, t ≤ 5 ∧ x1 = nI t ∧ ∀ l, l < t → v l = nI 0) (μ := fun x1 _ => 9 - x1.toNatClampNeg) ?_ 0 mL ⟨0, by omega, nI_0.symm, fun i hi => absurd hi (Nat.not_lt_zero i)⟩
  rintro f x1 v ⟨t, ht, rfl, hv⟩ ih
  show v_M_findLevels_L2 post mC mH mZ mB mU (f + 1) _ _
  unfold v_M_findLevels_L2
  rw [p_1]
  refine p_le (a := 5) (by decide) (by omega) (fun h => ?_) (fun h => ⟨vp_in_nI h (by decide), ?_⟩)
  rotate_left
  · rw [nI_clamp (by omega)]
    refine ih _ _ ⟨t + 1, by omega, rfl, fun l hl => ?_⟩ (p_mu (by omega) (by decide) rfl)
    by_cases e : l = t
    · subst e; exact pk_us
    · rw [pk_un e]; exact hv l (by omega)
  have e5 : t = 5 := by omega
  subst e5
  refine lp2 (W := fun f b c => v_M_findLevels_L22 post mC mH mZ mB mU f b c) (I := fun x2 v => ∃ n, n ≤ 6 ∧ x2 = nI n ∧ (∀ l, l < 5 → v l = nI (G.LV n 0 l))) (μ := fun x2 _ => 9 - x2.toNatClampNeg) ?_ 0 v ⟨0, by omega, nI_0.symm, hv⟩
  clear ih hv
  rintro f x2 v ⟨n, hn, rfl, hv⟩ ih
  show v_M_findLevels_L22 post mC mH mZ mB mU (f + 1) _ _
  unfold v_M_findLevels_L22
  refine p_le (a := 6) (by decide) (by omega) (fun h => ?_) (fun h => ?_)
  · have e6 : n = 6 := by omega
    subst e6
    exact k v hv
  refine lp2 (W := fun f' b c => v_M_findLevels_L30 (v_M_findLevels_L22 post mC mH mZ mB mU f) mC mH mZ mB mU (nI n) f' b c) (I := fun x3 v => ∃ m, m ≤ G.k ∧ x3 = nI m ∧ (∀ l, l < 5 → v l = nI (G.LV n m l))) (μ := fun x3 _ => 40 - x3.toNatClampNeg) ?_ 0 v ⟨0, by omega, nI_0.symm, hv⟩
  clear hv
  rintro f' x3 v ⟨m, hml, rfl, hv⟩ ih'
  show v_M_findLevels_L30 _ mC mH mZ mB mU (nI n) (f' + 1) _ _
  unfold v_M_findLevels_L30
  rw [zr, hC, p_1, p_1]
  refine ⟨in0, p_le (by omega) (by omega) (fun h' => ?_) (fun h' => ?_)⟩
  · have e : m = G.k := by omega
    subst e
    exact ih _ _ ⟨n + 1, by omega, rfl, hv⟩ (p_mu (by omega) (by decide) rfl)
  have hmk : m < G.k := by omega
  have hmu := p_mu (M := 40) (a := m) (by omega) (by decide) rfl
  have c := hm m hmk
  rw [Nat.zero_add] at c
  obtain ⟨c1, c2, c3, c4⟩ := c
  obtain ⟨w1, w2, w3, w4, w5⟩ := hw.2 m hmk
  have mu : ∀ {p}, v_M_isUnit (nI (0 + m)) mZ mB mU p → v_M_isUnit (nI m) mZ mB mU p := fun h => by rw [Nat.zero_add] at h; exact h
  refine mu (ps_misUnit hw (by decide) hm (fun i hi => by rw [Nat.zero_add]; exact hu i hi) hmk (fun hU => ⟨fun z => absurd z (by decide), fun _ => ?_⟩) (fun hU => ⟨fun _ => ?_, fun z => absurd rfl z⟩))
  rotate_left
  · have e : G.LV n (m + 1) = G.LV n m := by rw [Gr.LV_s, Gr.lvs_f hU]
    exact ih' _ _ ⟨m + 1, hmk, rfl, by rw [e]; exact hv⟩ hmu
  obtain ⟨hx5, hux⟩ := Gr.uB_uni hU
  have inr : vp_in (nI m) 28 := vp_in_nI (by omega) (by decide)
  have inh : vp_in (nI (G.hd m)) 5 := vp_in_nI w1 (by decide)
  rw [show (3 : Int32) * nI m = nI (3 * m) from pk_mul 3 m, nI_clamp (show 3 * m < 2 ^ 31 by omega), show mB (3 * m) = nI (G.sy m 0) from c4 0 (by omega), p_sub65 hux.2.2, nI_clamp (show m < 2 ^ 31 by omega), c1, nI_clamp (show G.hd m < 2 ^ 31 by omega), nI_clamp (show G.ux m < 2 ^ 31 by omega), hv _ hx5, hv _ w1]
  have b1 := Gr.LV_bd (G := G) n m (G.ux m) (by omega) hk
  have b2' := Gr.LV_bd (G := G) n m (G.hd m) (by omega) hk
  refine ⟨vp_in_nI (by omega) (by decide), vp_in_nI hx5 (by decide), ?_⟩
  intro y hy
  subst hy
  rw [p_1]
  have key : ∀ x, x = max (G.LV n m (G.ux m) + 1) (G.LV n m (G.hd m)) → v_M_findLevels_L30 (v_M_findLevels_L22 post mC mH mZ mB mU f) mC mH mZ mB mU (nI n) f' (nI (m + 1)) (upd v (G.hd m) (nI x)) := fun x hx => ih' _ _ ⟨m + 1, hmk, rfl, Gr.lv_up hU hv hx⟩ hmu
  exact ⟨inr, inr, inh, p_le (by omega) (by omega) (fun z => ⟨inr, inh, inh, key _ (by omega)⟩) (fun z => ⟨inh, key _ (by omega)⟩)⟩
end LVL
