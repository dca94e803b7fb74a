/-! The model finds the useful rules. -/
theorem sb5_or (T U S : Nat → Bool) : sb5 (fun x => T x || U x) S = (sb5 T S && sb5 U S) := by
  rw [Bool.eq_iff_iff, Bool.and_eq_true, sb5_iff, sb5_iff, sb5_iff]
  constructor
  · exact fun h => ⟨fun l hl q => h l hl (by rw [q]; rfl), fun l hl q => h l hl (by rw [q, Bool.or_true])⟩
  · rintro ⟨h1, h2⟩ l hl q
    rw [Bool.or_eq_true] at q
    exact q.elim (h1 l hl) (h2 l hl)
theorem sb5_one {l : Nat} (hl : l < 5) (S : Nat → Bool) : sb5 (one5 l) S = S l := by
  rw [Bool.eq_iff_iff, sb5_iff]
  constructor
  · exact fun h => h l hl (by simp [one5])
  · intro h x _ q
    have : x = l := by simpa [one5] using q
    rw [this]; exact h
section MF
variable {G : Gr}
/-- rows o + i below 28 -/
theorem p_row (o i : Nat) : nI o + nI i = nI (o + i) := nI_add o i
theorem ps_mallProd (hw : G.WF) {o : Nat} (ho : o ≤ 14) {mH mZ mB mW mP : Nat → Int32} (hm : G.m o mH mZ mB mW) {S : Nat → Bool} (hP : ∀ l, l < 5 → mP l = b2 (S l)) {i : Nat} (hi : i < G.k) {post : Int32 → Prop} (k : post (b2 (sb5 (G.lt i) S))) : v_M_allProductive (nI (o + i)) mZ mB mP post := by
  have hk := hw.1
  obtain ⟨w1, w2, w3, w4, w5⟩ := hw.2 i hi
  obtain ⟨c1, c2, c3, c4⟩ := hm i hi
  unfold v_M_allProductive
  refine lp2 (W := fun f a b => v_M_allProductive_L4 post mZ mB mP (nI (o + i)) f a b) (I := fun x2 x3 => ∃ m, m ≤ G.ln i ∧ x2 = b2 (sb5 (G.ltm i m) S) ∧ x3 = nI m) (μ := fun _ x3 => 9 - x3.toNatClampNeg) ?_ 1 0 ⟨0, Nat.zero_le _, rfl, nI_0.symm⟩
  rintro f x2 x3 ⟨m, hml, rfl, rfl⟩ ih
  show v_M_allProductive_L4 post mZ mB mP (nI (o + i)) (f + 1) _ _
  unfold v_M_allProductive_L4
  rw [nI_clamp (by omega), c2, p_1]
  refine ⟨vp_in_nI (by omega) (by decide), p_le (by omega) (by omega) (fun h => ⟨b2_narrow _, ?_⟩) (fun h => ⟨?_, ?_⟩)⟩
  · have e : m = G.ln i := by omega
    subst e
    exact k
  · rw [p_ix2]; exact vp_in_nI (by omega) (by decide)
  have hmu := p_mu (M := 9) (a := m) (by omega) (by decide) rfl
  intro y hy
  rw [p_ix2, nI_clamp (by omega), c4 m h] at hy
  subst hy
  have hs := Gr.sy_lt hw hi h
  rw [b2_0]
  have nx : ∀ b, b = sb5 (G.ltm i (m + 1)) S → v_M_allProductive_L4 post mZ mB mP (nI (o + i)) f (b2 b) (nI (m + 1)) := fun b hb => ih _ _ ⟨m + 1, h, by rw [hb], rfl⟩ hmu
  refine ⟨fun q => nx false ?_, fun q => ps_misToken hs (fun hT => ⟨fun z => absurd z (by decide), fun _ => nx true ?_⟩) (fun hT => ⟨fun _ => ?_, fun z => absurd rfl z⟩)⟩
  · show false = sb5 (fun l => G.ltm i m l || (decide (l < 5) && G.sy i m == 65 + l)) S
    rw [sb5_or, q, Bool.false_and]
  · rw [Gr.ltm_T G i m (fun z => by unfold isL isT at *; omega)]
    rw [Bool.not_eq_false] at q
    exact q.symm
  · have hL : isL (G.sy i m) := (w5 m h).resolve_right hT
    obtain ⟨l, hl, e⟩ := isL_l hL
    rw [Bool.not_eq_false] at q
    rw [e, show nI (65 + l) - (65 : Int32) = nI l from by rw [show (65 : Int32) = nI 65 from rfl, pk_sub (by omega)]; congr 1; omega, nI_clamp (by omega), hP l hl, b2_0]
    have e2 : sb5 (G.ltm i (m + 1)) S = S l := by rw [Gr.ltm_L G i m e hl, sb5_or, q, Bool.true_and, sb5_one hl]
    exact ⟨vp_in_nI hl (by decide), fun z => nx false (by rw [e2, z]), fun z => nx true (by rw [e2]; rw [Bool.not_eq_false] at z; exact z.symm)⟩
/-- the reached letters as the model begins with them -/
def Gr.r0 (G : Gr) : Nat → Bool := fun l => G.fert (G.hd 0) && one5 (G.hd 0) l
def Gr.X (G : Gr) (t : Nat) : Nat → Bool := itr (fun X _ => itr (G.rs G.fert) G.k X) t G.r0
/-- both beginnings mark the same rules -/
theorem Gr.us_X (hw : G.WF) (h0 : 0 < G.k) {i : Nat} (hi : i < G.k) : (G.X 5 (G.hd i) && sb5 (G.lt i) G.fert) = G.us i := by
  cases hf : G.fert (G.hd 0) with
  | true =>
    have : G.r0 = one5 (G.hd 0) := by funext l; simp [Gr.r0, hf]
    unfold Gr.X Gr.us Gr.rch
    rw [this]
  | false =>
    have e0 : G.r0 = fun _ => false := by funext l; simp [Gr.r0, hf]
    have e1 : ∀ t, G.X t = fun _ => false := by
      intro t
      induction t with
      | zero => exact e0
      | succ t ih =>
        show itr (G.rs G.fert) G.k (G.X t) = _
        rw [ih]
        exact rnd_cl (fun i _ => by unfold Gr.rs; rw [Bool.false_and, ad5_f]) G.k (Nat.le_refl _)
    have e2 : ∀ i, i < G.k → (one5 (G.hd 0) (G.hd i) && sb5 (G.lt i) G.fert) = false := fun i hi => by
      cases hb : sb5 (G.lt i) G.fert with
      | false => simp
      | true =>
        have q := Gr.fert_hd hw hi hb
        cases hx : one5 (G.hd 0) (G.hd i) with
        | false => rfl
        | true =>
          have : G.hd i = G.hd 0 := by simpa [one5] using hx
          rw [this, hf] at q
          exact absurd q (by decide)
    have e3 : G.rch = one5 (G.hd 0) := by
      have cl : ∀ i, i < G.k → G.rs G.fert (one5 (G.hd 0)) i = one5 (G.hd 0) := fun i hi => by unfold Gr.rs; rw [e2 i hi, ad5_f]
      have q : ∀ t, itr (fun X _ => itr (G.rs G.fert) G.k X) t (one5 (G.hd 0)) = one5 (G.hd 0) := by
        intro t
        induction t with
        | zero => rfl
        | succ t ih =>
          show itr (G.rs G.fert) G.k (itr (fun X _ => itr (G.rs G.fert) G.k X) t (one5 (G.hd 0))) = _
          rw [ih]
          exact rnd_cl cl G.k (Nat.le_refl _)
      exact q 5
    unfold Gr.us
    rw [e1, e3, e2 i hi, Bool.false_and]
theorem ps_mfindUseful (hw : G.WF) (h0 : 0 < G.k) {mC mH mZ mB mW mU mP mR : Nat → Int32} (hm : G.m 14 mH mZ mB mW) (hC : mC 1 = nI G.k) {post : (Nat → Int32) → (Nat → Int32) → (Nat → Int32) → Prop}
    (k : ∀ u p q, (∀ i, i < G.k → u (14 + i) = b2 (G.us i)) → (∀ i, i < 14 → u i = mU i) → post u p q) : v_M_findUseful mC mH mZ mB mU mP mR post := by
  have hk := hw.1
  have in1 : vp_in (1 : Int32) 2 := vp_in_nI (n := 1) (by decide) (by decide)
  have one : ((1 : Int32).toNatClampNeg) = 1 := by decide
  have top : (14 : Int32) + nI G.k = nI (14 + G.k) := nI_add 14 G.k
  have hd5 : ∀ {i}, i < G.k → G.hd i < 5 := fun hi => (hw.2 _ hi).1
  have inh : ∀ {i}, i < G.k → vp_in (nI (G.hd i)) 5 := fun hi => vp_in_nI (hd5 hi) (by decide)
  have inr : ∀ {i}, i < G.k → vp_in (nI (14 + i)) 28 := fun hi => vp_in_nI (by omega) (by decide)
  have clr : ∀ {i}, i < G.k → (nI (14 + i)).toNatClampNeg = 14 + i := fun hi => nI_clamp (by omega)
  have clh : ∀ {i}, i < G.k → (nI (G.hd i)).toNatClampNeg = G.hd i := fun hi => nI_clamp (by have := hd5 hi; omega)
  have up : ∀ {a : Nat → Int32} {S : Nat → Bool} {x : Nat} {b : Bool}, (∀ l, l < 5 → a l = b2 (S l)) → ∀ l, l < 5 → upd a x (b2 b) l = b2 (if l = x then b else S l) := by
    intro a S x b ha l hl
    by_cases e : l = x
    · rw [if_pos e, e]; exact pk_us
    · rw [if_neg e, pk_un e]; exact ha l hl
  -- the last pass
  have pass : ∀ (P R : Nat → Int32) (u : Nat → Int32), (∀ l, l < 5 → P l = b2 (G.fert l)) → (∀ l, l < 5 → R l = b2 (G.X 5 l)) → (∀ i, i < 14 → u i = mU i) → ∃ k266, v_M_findUseful_L266 post mC mH mZ mB P R k266 14 u := by
    intro P R u hP hR hu
    refine lp2 (W := fun f a b => v_M_findUseful_L266 post mC mH mZ mB P R f a b) (I := fun x1 u => ∃ m, m ≤ G.k ∧ x1 = nI (14 + m) ∧ (∀ i, i < m → u (14 + i) = b2 (G.us i)) ∧ (∀ i, i < 14 → u i = mU i)) (μ := fun x1 _ => 40 - x1.toNatClampNeg) ?_ 14 u ⟨0, by omega, rfl, fun i hi => absurd hi (Nat.not_lt_zero i), hu⟩
    rintro f x1 u ⟨m, hml, rfl, h1, h2⟩ ih
    show v_M_findUseful_L266 post mC mH mZ mB P R (f + 1) _ _
    unfold v_M_findUseful_L266
    rw [one, hC, top, p_1]
    refine ⟨in1, p_le (by omega) (by omega) (fun h => ?_) (fun h => ?_)⟩
    · have e : m = G.k := by omega
      subst e
      exact k _ _ _ h1 h2
    have hmk : m < G.k := by omega
    obtain ⟨c1, -, -, -⟩ := hm m hmk
    rw [clr hmk, c1, clh hmk, hR _ (hd5 hmk), b2_0]
    have nx : ∀ b, b = G.us m → v_M_findUseful_L266 post mC mH mZ mB P R f (nI (14 + m + 1)) (upd u (14 + m) (b2 b)) := fun b hb => ih _ _ ⟨m + 1, hmk, rfl, fun i hi => by
        by_cases e : i = m
        · subst e; rw [pk_us, hb]
        · rw [pk_un (by omega)]; exact h1 i (by omega), fun i hi => by rw [pk_un (by omega)]; exact h2 i hi⟩ (p_mu (by omega) (by decide) rfl)
    refine ⟨inr hmk, inh hmk, fun q => ⟨inr hmk, nx false ?_⟩, fun q => ps_mallProd hw (by decide) hm hP hmk ?_⟩
    · rw [← Gr.us_X hw h0 hmk, q, Bool.false_and]
    · rw [Bool.not_eq_false] at q
      rw [b2_0]
      exact ⟨fun z => ⟨inr hmk, nx false (by rw [← Gr.us_X hw h0 hmk, q, z]; rfl)⟩, fun z => ⟨inr hmk, nx true (by rw [Bool.not_eq_false] at z; rw [← Gr.us_X hw h0 hmk, q, z]; rfl)⟩⟩
  -- the rounds that reach letters
  have rounds : ∀ (P R : Nat → Int32) (u : Nat → Int32), (∀ l, l < 5 → P l = b2 (G.fert l)) → (∀ l, l < 5 → R l = b2 (G.r0 l)) → (∀ i, i < 14 → u i = mU i) → ∃ k126, v_M_findUseful_L126 post mC mH mZ mB P k126 0 u R := by
    intro P R u hP hR hu
    refine lp3 (W := fun f a b c => v_M_findUseful_L126 post mC mH mZ mB P f a b c) (I := fun x1 u R => ∃ t, t ≤ 5 ∧ x1 = nI t ∧ (∀ l, l < 5 → R l = b2 (G.X t l)) ∧ (∀ i, i < 14 → u i = mU i)) (μ := fun x1 _ _ => 9 - x1.toNatClampNeg) ?_ 0 u R ⟨0, by omega, nI_0.symm, hR, hu⟩
    rintro f x1 u R ⟨t, ht, rfl, hR, hu⟩ ih
    show v_M_findUseful_L126 post mC mH mZ mB P (f + 1) _ _ _
    unfold v_M_findUseful_L126
    refine p_le (a := 5) (by decide) (by omega) (fun h => ?_) (fun h => ?_)
    · have e : t = 5 := by omega
      subst e
      exact pass P R u hP hR hu
    refine lp3 (W := fun f' a b c => v_M_findUseful_L134 (v_M_findUseful_L126 post mC mH mZ mB P f) mC mH mZ mB (nI t) P f' a b c) (I := fun x2 u R => ∃ m, m ≤ G.k ∧ x2 = nI (14 + m) ∧ (∀ l, l < 5 → R l = b2 (itr (G.rs G.fert) m (G.X t) l)) ∧ (∀ i, i < 14 → u i = mU i)) (μ := fun x2 _ _ => 40 - x2.toNatClampNeg) ?_ 14 u R ⟨0, by omega, rfl, hR, hu⟩
    rintro f' x2 u R ⟨m, hml, rfl, hR, hu⟩ ih'
    show v_M_findUseful_L134 _ mC mH mZ mB (nI t) P (f' + 1) _ _ _
    unfold v_M_findUseful_L134
    rw [one, hC, top, p_1]
    refine ⟨in1, p_le (by omega) (by omega) (fun h => ?_) (fun h => ?_)⟩
    · have e : m = G.k := by omega
      subst e
      exact ih _ _ _ ⟨t + 1, by omega, rfl, hR, hu⟩ (p_mu (by omega) (by decide) rfl)
    have hmk : m < G.k := by omega
    obtain ⟨c1, c2, -, c4⟩ := hm m hmk
    obtain ⟨w1, w2, w3, w4, w5⟩ := hw.2 m hmk
    rw [clr hmk, c1, clh hmk, hR _ (hd5 hmk), b2_0]
    have hmu := p_mu (M := 40) (a := 14 + m) (by omega) (by decide) rfl
    have step : itr (G.rs G.fert) (m + 1) (G.X t) = ad5 (itr (G.rs G.fert) m (G.X t)) (itr (G.rs G.fert) m (G.X t) (G.hd m) && sb5 (G.lt m) G.fert) (G.lt m) := rfl
    have keep : ∀ b i, i < 14 → upd u (14 + m) (b2 b) i = mU i := fun b i hi => by rw [pk_un (by omega)]; exact hu i hi
    -- not useful (as yet): nothing is reached
    have no : (itr (G.rs G.fert) m (G.X t) (G.hd m) && sb5 (G.lt m) G.fert) = false → ∃ k182, v_M_findUseful_L182 (v_M_findUseful_L134 (v_M_findUseful_L126 post mC mH mZ mB P f) mC mH mZ mB (nI t) P f') mH mZ mB (nI (14 + m)) (upd u (14 + m) (b2 false)) k182 0 R := fun q => by
      refine ⟨1, ?_⟩
      unfold v_M_findUseful_L182
      have fin : v_M_findUseful_L134 (v_M_findUseful_L126 post mC mH mZ mB P f) mC mH mZ mB (nI t) P f' (nI (14 + m) + 1) (upd u (14 + m) (b2 false)) R := ih' _ _ _ ⟨m + 1, hmk, by rw [p_1]; rfl, by rw [step, q, ad5_f]; exact hR, keep false⟩ (by rw [p_1]; exact hmu)
      rw [clr hmk, pk_us]
      exact ⟨inr hmk, fun _ => fin, fun _ => ⟨inr hmk, fun _ => fin, fun z => absurd rfl z⟩⟩
    refine ⟨inr hmk, inh hmk, fun q => ⟨inr hmk, no (by rw [q, Bool.false_and])⟩, fun q => ps_mallProd hw (by decide) hm hP hmk ?_⟩
    rw [Bool.not_eq_false] at q
    rw [b2_0]
    refine ⟨fun z => ⟨inr hmk, no (by rw [z, Bool.and_false])⟩, fun z => ⟨inr hmk, ?_⟩⟩
    rw [Bool.not_eq_false] at z
    -- its letters are reached
    refine lp2 (W := fun f'' a b => v_M_findUseful_L182 (v_M_findUseful_L134 (v_M_findUseful_L126 post mC mH mZ mB P f) mC mH mZ mB (nI t) P f') mH mZ mB (nI (14 + m)) (upd u (14 + m) (b2 true)) f'' a b) (I := fun x3 R => ∃ j, j ≤ G.ln m ∧ x3 = nI j ∧ ∀ l, l < 5 → R l = b2 (itr (G.rs G.fert) m (G.X t) l || G.ltm m j l)) (μ := fun x3 _ => 9 - x3.toNatClampNeg) ?_ 0 R ⟨0, by omega, nI_0.symm, fun l hl => by rw [hR l hl]; simp [Gr.ltm]⟩
    rintro f'' x3 R' ⟨j, hj, rfl, hR'⟩ ih''
    show v_M_findUseful_L182 _ mH mZ mB (nI (14 + m)) (upd u (14 + m) (b2 true)) (f'' + 1) _ _
    unfold v_M_findUseful_L182
    rw [clr hmk, c2, pk_us, p_1]
    refine ⟨inr hmk, p_le (by omega) (by omega) (fun hle => ?_) (fun hlt => ⟨inr hmk, fun y => absurd y (by decide), fun _ => ⟨by rw [p_ix2]; exact vp_in_nI (by omega) (by decide), ?_⟩⟩)⟩
    · have e : j = G.ln m := by omega
      subst e
      refine ih' _ _ _ ⟨m + 1, hmk, rfl, fun l hl => ?_, keep true⟩ hmu
      rw [hR' l hl, step, q, z]
      rfl
    intro y hy
    rw [p_ix2, nI_clamp (by omega), c4 j hlt] at hy
    subst hy
    have hs := Gr.sy_lt hw hmk hlt
    have hmu2 := p_mu (M := 9) (a := j) (by omega) (by decide) rfl
    unfold v_M_findUseful_B235
    rw [p_1, c1]
    refine ps_misLetter hs (fun hL => ⟨fun y => absurd y (by decide), fun _ => ?_⟩) (fun hL => ⟨fun _ => ⟨inr hmk, inh hmk, ?_⟩, fun y => absurd rfl y⟩)
    · obtain ⟨l, hl, e⟩ := isL_l hL
      rw [e, show nI (65 + l) - (65 : Int32) = nI l from by rw [show (65 : Int32) = nI 65 from rfl, pk_sub (by omega)]; congr 1; omega, nI_clamp (by omega)]
      refine ⟨vp_in_nI hl (by decide), ih'' _ _ ⟨j + 1, hlt, rfl, fun x hx => ?_⟩ hmu2⟩
      rw [Gr.ltm_L G m j e hl]
      by_cases ex : x = l
      · subst ex
        rw [show (upd R' x (vp_nar .boolean 1)) x = b2 true from pk_us]
        simp [one5]
      · have hx1 : one5 l x = false := beq_eq_false_iff_ne.mpr ex
        show _ = b2 (itr (G.rs G.fert) m (G.X t) x || (G.ltm m j x || one5 l x))
        rw [pk_un ex, hR' x hx, hx1, Bool.or_false]
    · refine ih'' _ _ ⟨j + 1, hlt, rfl, fun x hx => ?_⟩ hmu2
      rw [clh hmk, Gr.ltm_T G m j hL]
      by_cases ex : x = G.hd m
      · subst ex
        rw [show (upd R' (G.hd m) (vp_nar .boolean 1)) (G.hd m) = b2 true from pk_us, q]
        rfl
      · rw [pk_un ex]; exact hR' x hx
  -- the rounds that find the productive letters
  have prods : ∀ (P R : Nat → Int32), (∀ l, l < 5 → P l = b2 false) → (∀ l, l < 5 → R l = b2 false) → ∃ k29, v_M_findUseful_L29 post mC mH mZ mB mU R k29 0 P := by
    intro P R hP hR
    refine lp2 (W := fun f a b => v_M_findUseful_L29 post mC mH mZ mB mU R f a b) (I := fun x1 P => ∃ t, t ≤ 5 ∧ x1 = nI t ∧ ∀ l, l < 5 → P l = b2 (itr (fun X _ => itr G.fs G.k X) t (fun _ => false) l)) (μ := fun x1 _ => 9 - x1.toNatClampNeg) ?_ 0 P ⟨0, by omega, nI_0.symm, hP⟩
    rintro f x1 P ⟨t, ht, rfl, hP⟩ ih
    show v_M_findUseful_L29 post mC mH mZ mB mU R (f + 1) _ _
    unfold v_M_findUseful_L29
    refine p_le (a := 5) (by decide) (by omega) (fun h => ?_) (fun h => ?_)
    · have e : t = 5 := by omega
      subst e
      have c1 : mH 14 = nI (G.hd 0) := (hm 0 h0).1
      rw [show (14 : Int32).toNatClampNeg = 14 from by decide, c1, clh h0]
      have in14 : vp_in (14 : Int32) 28 := vp_in_nI (n := 14) (by decide) (by decide)
      refine ⟨in14, in14, inh h0, inh h0, rounds P _ mU hP (fun l hl => ?_) (fun _ _ => rfl)⟩
      rw [hP _ (hd5 h0), b2_nar, up hR l hl]
      congr 1
      by_cases e : l = G.hd 0
      · subst e; simp [Gr.r0, one5, Gr.fert]
      · simp [Gr.r0, one5, e]
    refine lp2 (W := fun f' a b => v_M_findUseful_L37 (v_M_findUseful_L29 post mC mH mZ mB mU R f) mC mH mZ mB (nI t) f' a b) (I := fun x2 P => ∃ m, m ≤ G.k ∧ x2 = nI (14 + m) ∧ ∀ l, l < 5 → P l = b2 (itr G.fs m (itr (fun X _ => itr G.fs G.k X) t (fun _ => false)) l)) (μ := fun x2 _ => 40 - x2.toNatClampNeg) ?_ 14 P ⟨0, by omega, rfl, hP⟩
    rintro f' x2 P ⟨m, hml, rfl, hP⟩ ih'
    show v_M_findUseful_L37 _ mC mH mZ mB (nI t) (f' + 1) _ _
    unfold v_M_findUseful_L37
    rw [one, hC, top, p_1, p_1]
    refine ⟨in1, p_le (by omega) (by omega) (fun h => ?_) (fun h => ?_)⟩
    · have e : m = G.k := by omega
      subst e
      exact ih _ _ ⟨t + 1, by omega, rfl, hP⟩ (p_mu (by omega) (by decide) rfl)
    have hmk : m < G.k := by omega
    obtain ⟨c1, c2, -, c4⟩ := hm m hmk
    rw [clr hmk, c1, clh hmk, hP _ (hd5 hmk), b2_0]
    have step : itr G.fs (m + 1) (itr (fun X _ => itr G.fs G.k X) t (fun _ => false)) = ad5 (itr G.fs m (itr (fun X _ => itr G.fs G.k X) t (fun _ => false))) (sb5 (G.lt m) (itr G.fs m (itr (fun X _ => itr G.fs G.k X) t (fun _ => false)))) (one5 (G.hd m)) := rfl
    have nx : ∀ b, b = (itr G.fs m (itr (fun X _ => itr G.fs G.k X) t (fun _ => false)) (G.hd m) || sb5 (G.lt m) (itr G.fs m (itr (fun X _ => itr G.fs G.k X) t (fun _ => false)))) → v_M_findUseful_L37 (v_M_findUseful_L29 post mC mH mZ mB mU R f) mC mH mZ mB (nI t) f' (nI (14 + m + 1)) (upd P (G.hd m) (b2 b)) := fun b hb => by
      refine ih' _ _ ⟨m + 1, hmk, rfl, fun l hl => ?_⟩ (p_mu (by omega) (by decide) rfl)
      rw [up hP l hl, step]
      congr 1
      by_cases e : l = G.hd m
      · subst e; rw [if_pos rfl, hb]; simp [ad5, one5]
      · rw [if_neg e]; simp [ad5, one5, e]
    refine ⟨inr hmk, inr hmk, inh hmk, fun q => ps_mallProd hw (by decide) hm hP hmk ?_, fun q => ⟨inh hmk, nx true ?_⟩⟩
    · rw [b2_0]
      exact ⟨fun z => ⟨inh hmk, nx false (by rw [q, z]; rfl)⟩, fun z => ⟨inh hmk, nx true (by rw [Bool.not_eq_false] at z; rw [z, Bool.or_true])⟩⟩
    · rw [Bool.not_eq_false] at q
      rw [q, Bool.true_or]
  unfold v_M_findUseful
  refine lp3 (W := fun f a b c => v_M_findUseful_L2 post mC mH mZ mB mU f a b c) (I := fun x1 P R => ∃ t, t ≤ 5 ∧ x1 = nI t ∧ (∀ l, l < t → P l = b2 false) ∧ (∀ l, l < t → R l = b2 false)) (μ := fun x1 _ _ => 9 - x1.toNatClampNeg) ?_ 0 mP mR ⟨0, by omega, nI_0.symm, fun i hi => absurd hi (Nat.not_lt_zero i), fun i hi => absurd hi (Nat.not_lt_zero i)⟩
  rintro f x1 P R ⟨t, ht, rfl, hP, hR⟩ ih
  show v_M_findUseful_L2 post mC mH mZ mB mU (f + 1) _ _ _
  unfold v_M_findUseful_L2
  rw [p_1]
  refine p_le (a := 5) (by decide) (by omega) (fun h => ?_) (fun h => ⟨vp_in_nI h (by decide), vp_in_nI h (by decide), ?_⟩)
  · exact prods P R (fun l hl => hP l (by omega)) (fun l hl => hR l (by omega))
  · rw [nI_clamp (by omega)]
    have z : ∀ {a : Nat → Int32}, (∀ l, l < t → a l = b2 false) → ∀ l, l < t + 1 → upd a t (vp_nar .boolean 0) l = b2 false := fun ha l hl => by
      by_cases e : l = t
      · subst e; exact pk_us
      · rw [pk_un e]; exact ha l (by omega)
    exact ih _ _ _ ⟨t + 1, by omega, rfl, z hP, z hR⟩ (p_mu (by omega) (by decide) rfl)
end MF
