/-! The model divides a span by a rule. -/
section MDV
variable {G : Gr} {Tb : Tab} {ρ : Nat → Nat} {D : Nat → Nat → Nat → Prop} {tk : Nat → Nat}
theorem p_mx {l i j : Nat} (h : i < j) : (((36 : Int32) * nI l + (6 : Int32) * nI i) + nI j) - (1 : Int32) = nI (mxc l i j) := by
  rw [show (36 : Int32) = nI 36 from rfl, show (6 : Int32) = nI 6 from rfl, pk_mul, pk_mul, nI_add, nI_add, p_s1 (by omega)]
  rfl
theorem ps_misT_t {c : Nat} (h1 : 97 ≤ c) (h2 : c ≤ 122) {post : Int32 → Prop} (k : post 1) : v_M_isToken (nI c) post := by
  unfold v_M_isToken
  exact br_f (fun z => by have := (nI_ltI (b := 97) (by omega) (by decide)).mp z; omega) (br_f (fun z => by have := (nI_ltI (a := 122) (by decide) (by omega)).mp z; omega) k)
theorem ps_misT_f {c : Nat} (h1 : c < 97) {post : Int32 → Prop} (k : post 0) : v_M_isToken (nI c) post := by
  unfold v_M_isToken
  exact br_t ((nI_ltI (b := 97) (by omega) (by decide)).mpr h1) k
/-- a symbol is a letter or a token -/
theorem Gr.sy_k (hw : G.WF) {r m : Nat} (hr : r < G.k) (hm : m < G.ln r) : (G.lb r m = true ∧ 65 ≤ G.sy r m ∧ G.sy r m ≤ 69) ∨ (G.lb r m = false ∧ 97 ≤ G.sy r m ∧ G.sy r m ≤ 122) := by
  rcases (hw.2 r hr).2.2.2.2 m hm with h | h
  · exact Or.inl ⟨Gr.lb_iff.mpr ⟨hm, h⟩, h⟩
  · refine Or.inr ⟨?_, h⟩
    cases e : G.lb r m with
    | false => rfl
    | true => have := (Gr.lb_iff.mp e).2; unfold isT at h; omega
theorem ps_many (hw : G.WF) {r m i' j' : Nat} (hr : r < G.k) (hm : m < G.ln r) (hij' : i' < j') (hj' : j' ≤ 6) {mRow : Nat → Int32} {mMany : Nat → Int64} (hM : G.lb r m = true → mMany (mxc (G.sy r m - 65) i' j') = lN (Tb (G.sy r m - 65) i' j').c) (hT : j' = i' + 1 → mRow i' = nI (tk i') ∧ tk i' < 2 ^ 31)
    {post : Int64 → Prop} (k : post (lN (G.pc tk Tb r m i' j').c)) : v_M_manyFor (nI (G.sy r m)) (nI i') (nI j') mRow mMany post := by
  unfold v_M_manyFor
  unfold Gr.pc at k
  rcases Gr.sy_k hw hr hm with ⟨e, s1, s2⟩ | ⟨e, s1, s2⟩
  · rw [if_pos e] at k
    refine ps_misT_f (by omega) (br_t rfl ?_)
    rw [p_sub65 (show G.sy r m = 65 + (G.sy r m - 65) by omega), p_mx hij', nI_clamp (show mxc (G.sy r m - 65) i' j' < 2 ^ 31 by have := mxc_lt (show G.sy r m - 65 < 5 by omega) hij' hj'; omega), hM e]
    exact ⟨vp_in_nI (mxc_lt (by omega) hij' hj') (by decide), k⟩
  · rw [if_neg (by rw [e]; decide)] at k
    refine ps_misT_t s1 s2 (br_f (by decide) ?_)
    rw [p_1]
    refine p_eq (by omega) (by omega) (fun z => ?_) (fun z => ?_)
    · obtain ⟨t1, t2⟩ := hT z
      rw [nI_clamp (show i' < 2 ^ 31 by omega), t1]
      refine ⟨vp_in_nI (by omega) (by decide), p_eq t2 (by omega) (fun y => ?_) (fun y => ?_)⟩
      · rw [if_neg (fun x => x.2 ⟨z, y⟩)] at k; exact k
      · rw [if_pos ⟨hm, fun x => y x.2⟩] at k; exact k
    · rw [if_pos ⟨hm, fun x => z x.1⟩] at k; exact k
theorem ps_kept (hw : G.WF) {r m i' j' : Nat} (hr : r < G.k) (hm : m < G.ln r) (hij' : i' < j') (hj' : j' ≤ 6) {mRow mKept : Nat → Int32} {mMany : Nat → Int64} (hM : G.lb r m = true → mKept (mxc (G.sy r m - 65) i' j') = nI (Tb (G.sy r m - 65) i' j').r.n) (hT : j' = i' + 1 → mRow i' = nI (tk i') ∧ tk i' < 2 ^ 31)
    {post : Int32 → Prop} (k : post (nI (G.pc tk Tb r m i' j').r.n)) : v_M_keptFor (nI (G.sy r m)) (nI i') (nI j') mRow mMany mKept post := by
  unfold v_M_keptFor
  rcases Gr.sy_k hw hr hm with ⟨e, s1, s2⟩ | ⟨e, s1, s2⟩
  · unfold Gr.pc at k
    rw [if_pos e] at k
    refine ps_misT_f (by omega) (br_t rfl ?_)
    rw [p_sub65 (show G.sy r m = 65 + (G.sy r m - 65) by omega), p_mx hij', nI_clamp (show mxc (G.sy r m - 65) i' j' < 2 ^ 31 by have := mxc_lt (show G.sy r m - 65 < 5 by omega) hij' hj'; omega), hM e]
    exact ⟨vp_in_nI (mxc_lt (by omega) hij' hj') (by decide), k⟩
  · refine ps_misT_t s1 s2 (br_f (by decide) ?_)
    refine ps_many (tk := tk) (Tb := Tb) hw hr hm hij' hj' (fun z => by rw [e] at z; exact absurd z (by decide)) hT ?_
    unfold Gr.pc at k ⊢
    rw [if_neg (by rw [e]; decide)] at k ⊢
    rw [lg_cmp_le]
    by_cases z : m < G.ln r ∧ ¬ (j' = i' + 1 ∧ tk i' = G.sy r m)
    · rw [if_pos z] at k ⊢
      exact br_t (show lN 0 ≤ (0 : Int64) by decide) k
    · rw [if_neg z] at k ⊢
      exact br_f (show ¬ lN 1 ≤ (0 : Int64) by decide) k
theorem ps_mtree (hw : G.WF) {l i j r m i' j' a : Nat} (hr : r < G.k) (hm : m < G.ln r) (hij' : i' < j') (hS : G.lb r m = true → G.Sb l i j (G.sy r m - 65) i' j') (ha : a < (G.pc tk Tb r m i' j').r.n) {post : Int32 → Prop} (k : ∀ v, G.CHp Tb mxc l i j r m v ((G.pc tk Tb r m i' j').r.f a) → post v) : v_M_treeOf (nI (G.sy r m)) (nI i') (nI j') (nI a) post := by
  unfold v_M_treeOf
  unfold Gr.pc at ha k
  rcases Gr.sy_k hw hr hm with ⟨e, s1, s2⟩ | ⟨e, s1, s2⟩
  · rw [if_pos e] at ha k
    refine ps_misT_f (by omega) (br_t rfl ?_)
    rw [p_sub65 (show G.sy r m = 65 + (G.sy r m - 65) by omega), p_mx hij', show (8 : Int32) = nI 8 from rfl, pk_mul, nI_add]
    exact k _ (Or.inl ⟨e, i', j', a, hS e, ha, rfl, rfl⟩)
  · rw [if_neg (by rw [e]; decide)] at k
    refine ps_misT_t s1 s2 (br_f (by decide) (k _ (Or.inr ⟨e, rfl, ?_⟩)))
    split <;> rfl
theorem Gr.CHp_o {l i j r m i' j' a : Nat} (hm : ¬ m < G.ln r) : G.CHp Tb mxc l i j r m (-1) ((G.pc tk Tb r m i' j').r.f a) := by
  refine Or.inr ⟨?_, rfl, ?_⟩
  · cases e : G.lb r m with
    | false => rfl
    | true => exact absurd (Gr.lb_iff.mp e).1 hm
  · rw [Gr.pc_o hm]; rfl
theorem ps_sumOf (hC : ∀ x i j, i < j → G.CP ρ x (j - i) (Tb x i j)) {mRule mSum mOne mTwo mThree : Nat → Int32} (hR : G.mER Tb mRule mSum mOne mTwo mThree D) {l i j r m : Nat} {v : Int32} {a : Tr} (hS : ∀ y a b, G.Sb l i j y a b → D y a b) (h : G.CHp Tb mxc l i j r m v a) {post : Int32 → Prop} (k : post (nI a.w)) : v_M_sumOf v mSum post := by
  unfold v_M_sumOf
  rcases h with ⟨h1, i', j', q, h2, h3, h4, h5⟩ | ⟨h1, h2, h3⟩
  · obtain ⟨g1, g2, g3, g4⟩ := hR _ _ _ (hS _ _ _ h2)
    have := mxc_lt g1 g2 g3
    have p8 := (hC (G.sy r m - 65) i' j' g2).1.1
    obtain ⟨_, _, _, _, _, _, _, _, _, e, _⟩ := g4 q h3
    rw [h4, nI_clamp (show 8 * mxc (G.sy r m - 65) i' j' + q < 2 ^ 31 by omega), e]
    refine br_t (show nI 0 ≤ nI _ from (nI_leI (by decide) (by omega)).mpr (Nat.zero_le _)) ⟨vp_in_nI (by omega) (by decide), ?_⟩
    rw [h5] at k
    exact k
  · rw [h2]
    rw [h3, leaf_w] at k
    exact br_f (by decide) k
/-- the loops over the choices, in the model -/
theorem ps_mloops (hw : G.WF) (hρ : G.Rk ρ) (hC : ∀ x i j, i < j → G.CP ρ x (j - i) (Tb x i j)) (hD : G.Dc D) {mWeight hK hRu hSu h1 h2 h3 : Nat → Int32} (hR : G.mER Tb hRu hSu h1 h2 h3 D)
    {l i j r p q e0 e1 : Nat} {S : Row} {x9 x10 : Int32} (hl : l < 5) (hij : i < j) (hj : j ≤ 6) (hnD : ¬ D l i j) (hS : ∀ x a b, G.Sb l i j x a b → D x a b) (hr : r < G.k) (hru : G.us r = true) (hrl : G.hd r = l) (hs : G.sp r i j p q) (he0 : e0 = if G.ln r = 1 then j else p) (he1 : e1 = if G.ln r = 2 then j else q) (hmW : mWeight r = nI (G.wt r)) (hx9 : 2 ≤ G.ln r → x9 = nI (G.sy r 1)) (hx10 : 3 ≤ G.ln r → x10 = nI (G.sy r 2))
    (hSo : S.ok) (hSs : ∀ q, q < S.n → G.TP ρ (j - i) l (S.f q)) (hN : G.mNow Tb l i j S hK hRu hSu h1 h2 h3) {mMany : Nat → Int64}
    {post : Int32 → Int32 → Int32 → Int32 → Int32 → (Nat → Int64) → (Nat → Int32) → (Nat → Int32) → (Nat → Int32) → (Nat → Int32) → (Nat → Int32) → (Nat → Int32) → (Nat → Int32) → (Nat → Int32) → (Nat → Int32) → (Nat → Int32) → Prop}
    (k : ∀ (n0 n1 n2 n3 n4 : Int32) (mK gR gS g1 g2 g3 mW mO mH mP : Nat → Int32), G.mNow Tb l i j (cA (fun a b c => mkT (G.wt r) r i j ((G.pc tk Tb r 0 i e0).r.f a) ((G.pc tk Tb r 1 p e1).r.f b) ((G.pc tk Tb r 2 q j).r.f c)) (G.pc tk Tb r 0 i e0).r.n (G.pc tk Tb r 1 p e1).r.n (G.pc tk Tb r 2 q j).r.n S) mK gR gS g1 g2 g3 → mFr (mxc l i j) hK hRu hSu h1 h2 h3 mK gR gS g1 g2 g3 → post n0 n1 n2 n3 n4 mMany mK gR gS g1 g2 g3 mW mO mH mP)
    (n0 n1 n2 n3 n4 : Int32) (mW0 mO0 mH0 mP0 : Nat → Int32) :
    ∃ n, v_M_divide_L245 post mWeight (nI r) (nI i) (nI p) (nI q) (nI j) (nI (mxc l i j)) (nI (G.ln r)) (nI (G.sy r 0)) x9 x10 (nI e0) (nI e1) (nI (G.pc tk Tb r 0 i e0).r.n) (nI (G.pc tk Tb r 1 p e1).r.n) (nI (G.pc tk Tb r 2 q j).r.n) mMany n (0 : Int32) n0 n1 n2 n3 n4 hK hRu hSu h1 h2 h3 mW0 mO0 mH0 mP0 := by
  obtain ⟨wh, w1, w3, wwt, wsy⟩ := hw.2 r hr
  have hk := hw.1
  have hX := mxc_lt hl hij hj
  obtain ⟨s0, s1, s2⟩ := Gr.pc_sub hw hr hru hij hs
  rw [hrl, ← he0] at s0
  rw [hrl, ← he1] at s1
  rw [hrl] at s2
  obtain ⟨q0, q1, q2⟩ := Gr.QP_parts (tk := tk) (ρ := ρ) (Tb := Tb) hw hr hru hij hs fun x i' j' h => hC x i' j' h.2.2.1
  rw [← he0] at q0
  rw [← he1] at q1
  have ie0 : i < e0 := by
    rw [he0]
    rcases hs with e | ⟨e, t1, t2⟩ | ⟨e, t1, t2, t3⟩
    · rw [if_pos e]; exact hij
    · rw [if_neg (by omega)]; exact t1
    · rw [if_neg (by omega)]; exact t1
  have pe1 : 2 ≤ G.ln r → p < e1 := fun z => by
    rw [he1]
    rcases hs with e | ⟨e, t1, t2⟩ | ⟨e, t1, t2, t3⟩
    · omega
    · rw [if_pos e]; exact t2
    · rw [if_neg (by omega)]; exact t2
  have qj : 3 ≤ G.ln r → q < j := fun z => by
    rcases hs with e | ⟨e, t1, t2⟩ | ⟨e, t1, t2, t3⟩
    · omega
    · omega
    · exact t3
  have hm := Gr.jr_mono (wt := G.wt r) (i := i) (j := j) q0 q1 q2
  have hT : ∀ a b c, a < (G.pc tk Tb r 0 i e0).r.n → b < (G.pc tk Tb r 1 p e1).r.n → c < (G.pc tk Tb r 2 q j).r.n → G.TP ρ (j - i) l (mkT (G.wt r) r i j ((G.pc tk Tb r 0 i e0).r.f a) ((G.pc tk Tb r 1 p e1).r.f b) ((G.pc tk Tb r 2 q j).r.f c)) := fun a b c ha hb hc => by
    have := Gr.TP_mk hw hρ hr hru hij hs (he0 ▸ q0.2.2 a ha) (he1 ▸ q1.2.2 b hb) (q2.2.2 c hc)
    rw [hrl, ← he0, ← he1] at this
    exact this
  have b0 := q0.1.1
  have b1 := q1.1.1
  have b2 := q2.1.1
  generalize hP0 : G.pc tk Tb r 0 i e0 = P0 at *
  generalize hP1 : G.pc tk Tb r 1 p e1 = P1 at *
  generalize hP2 : G.pc tk Tb r 2 q j = P2 at *
  generalize hmk : (fun a b c => mkT (G.wt r) r i j (P0.r.f a) (P1.r.f b) (P2.r.f c)) = mk at *
  have emk : ∀ a b c, mkT (G.wt r) r i j (P0.r.f a) (P1.r.f b) (P2.r.f c) = mk a b c := fun a b c => by rw [← hmk]
  have alls : ∀ (R : Row) (A B C : Nat), A ≤ P0.r.n → B ≤ P1.r.n → C ≤ P2.r.n → (∀ q, q < R.n → G.TP ρ (j - i) l (R.f q)) → ∀ q, q < (cA mk A B C R).n → G.TP ρ (j - i) l ((cA mk A B C R).f q) := fun R A B C hA hB hC h => cA_all (fun a b c p1 p2 p3 => by rw [← emk]; exact hT a b c (by omega) (by omega) (by omega)) R h
  have allsP : ∀ (R : Row) (a B C : Nat), a < P0.r.n → B ≤ P1.r.n → C ≤ P2.r.n → (∀ q, q < R.n → G.TP ρ (j - i) l (R.f q)) → ∀ q, q < (cP mk a B C R).n → G.TP ρ (j - i) l ((cP mk a B C R).f q) := fun R a B C hA hB hC h =>
    itr_invb (P := fun R : Row => ∀ q, q < R.n → G.TP ρ (j - i) l (R.f q)) B (fun R b hb h => itr_invb (P := fun R : Row => ∀ q, q < R.n → G.TP ρ (j - i) l (R.f q)) C (fun R c hc h => insR_all h (by rw [← emk]; exact hT a b c hA (by omega) (by omega))) R h) R h
  have allsR : ∀ (R : Row) (a b C : Nat), a < P0.r.n → b < P1.r.n → C ≤ P2.r.n → (∀ q, q < R.n → G.TP ρ (j - i) l (R.f q)) → ∀ q, q < (cR mk a b C R).n → G.TP ρ (j - i) l ((cR mk a b C R).f q) := fun R a b C hA hB hC h =>
    itr_invb (P := fun R : Row => ∀ q, q < R.n → G.TP ρ (j - i) l (R.f q)) C (fun R c hc h => insR_all h (by rw [← emk]; exact hT a b c hA hB (by omega))) R h
  -- one row
  have row : ∀ (K255 : Int32 → Int32 → Int32 → Int32 → Int32 → Int32 → (Nat → Int32) → (Nat → Int32) → (Nat → Int32) → (Nat → Int32) → (Nat → Int32) → (Nat → Int32) → (Nat → Int32) → (Nat → Int32) → (Nat → Int32) → (Nat → Int32) → Prop) (a b : Nat) (R : Row), a < P0.r.n → b < P1.r.n → R.ok → (∀ q, q < R.n → G.TP ρ (j - i) l (R.f q)) →
      (∀ (c : Nat) (n0 n1 n2 n3 n4 : Int32) (mK gR gS g1 g2 g3 mW mO mH mP : Nat → Int32), c ≤ P2.r.n → (c < P2.r.n → 8 < (a + 1) * (b + 1) * (c + 1)) → G.mNow Tb l i j (cR mk a b c R) mK gR gS g1 g2 g3 → mFr (mxc l i j) hK hRu hSu h1 h2 h3 mK gR gS g1 g2 g3 → K255 (nI (b + 1)) n0 n1 n2 n3 n4 mK gR gS g1 g2 g3 mW mO mH mP) →
      ∀ (d c : Nat) (n0 n1 n2 n3 n4 : Int32) (mK gR gS g1 g2 g3 mW mO mH mP : Nat → Int32), c + d = P2.r.n → G.mNow Tb l i j (cR mk a b c R) mK gR gS g1 g2 g3 → mFr (mxc l i j) hK hRu hSu h1 h2 h3 mK gR gS g1 g2 g3 →
      v_M_divide_L279 K255 mWeight (nI r) (nI i) (nI p) (nI q) (nI j) (nI (mxc l i j)) (nI (G.ln r)) (nI (G.sy r 0)) x9 x10 (nI e0) (nI e1) (nI P2.r.n) (nI a) (nI b) (d + 1) (nI c) n0 n1 n2 n3 n4 mK gR gS g1 g2 g3 mW mO mH mP := by
    intro K255 a b R ha hb hRo hRs ex d
    induction d with
    | zero =>
      intro c n0 n1 n2 n3 n4 mK gR gS g1 g2 g3 mW mO mH mP hcd hN' hF'
      unfold v_M_divide_L279
      rw [p_1]
      exact br_t ((nI_leI (by omega) (by omega)).mpr (by omega)) (ex c n0 n1 n2 n3 n4 mK gR gS g1 g2 g3 mW mO mH mP (by omega) (fun z => by omega) hN' hF')
    | succ d ih =>
      intro c n0 n1 n2 n3 n4 mK gR gS g1 g2 g3 mW mO mH mP hcd hN' hF'
      have hb3 : (a + 1) * (b + 1) * (c + 1) ≤ 9 * 9 * 9 := Nat.mul_le_mul (Nat.mul_le_mul (by omega) (by omega)) (by omega)
      unfold v_M_divide_L279
      rw [p_1, p_1, p_1, pk_mul, pk_mul]
      refine br_f (fun z => by have := (nI_leI (by omega) (by omega)).mp z; omega) (p_lt (a := 8) (by decide) (by omega) (fun z => ex c n0 n1 n2 n3 n4 mK gR gS g1 g2 g3 mW mO mH mP (by omega) (fun _ => z) hN' hF') (fun _ => ?_))
      have hok : (cR mk a b c R).ok := cR_ok hRo
      have hR' := Gr.mER_fr hC hij hj hnD hR hF'
      refine ps_mtree (tk := tk) (Tb := Tb) (l := l) (i := i) (j := j) (m := 0) (i' := i) (j' := e0) (a := a) hw hr (by omega) ie0 s0 (by rw [hP0]; exact ha) fun v0 c0 => ?_
      rw [hP0] at c0
      have fin : ∀ v1 v2 : Int32, G.CHp Tb mxc l i j r 1 v1 (P1.r.f b) → G.CHp Tb mxc l i j r 2 v2 (P2.r.f c) → v_M_divide_B370 (v_M_divide_L279 K255 mWeight (nI r) (nI i) (nI p) (nI q) (nI j) (nI (mxc l i j)) (nI (G.ln r)) (nI (G.sy r 0)) x9 x10 (nI e0) (nI e1) (nI P2.r.n) (nI a) (nI b) (d + 1)) mWeight (nI r) (nI (mxc l i j)) (nI c) v2 (nI r) v0 v1 mK gR gS g1 g2 g3 mW mO mH mP := by
        intro v1 v2 c1 c2
        unfold v_M_divide_B370
        refine ⟨vp_in_nI (by omega) (by decide), ?_⟩
        refine ps_sumOf hC hR' hS c0 ?_
        refine ps_sumOf hC hR' hS c1 ?_
        refine ps_sumOf hC hR' hS c2 ?_
        rw [nI_clamp (show r < 2 ^ 31 by omega), hmW, nI_add, nI_add, nI_add, p_1]
        have eT : mk a b c = mkT (G.wt r) r i j (P0.r.f a) (P1.r.f b) (P2.r.f c) := (emk a b c).symm
        have ew : G.wt r + (P0.r.f a).w + (P1.r.f b).w + (P2.r.f c).w = (mk a b c).w := by rw [eT]; rfl
        rw [ew]
        refine ps_moffer (T := mk a b c) (R := cR mk a b c R) hw hρ hC hD hR' hl hij hj hS hr hru hrl eT c0 c1 c2 hok (by rw [eT]; exact hT a b c ha hb (by omega)) (allsR R a b c ha hb (by omega) hRs) hN' fun mK2 gR2 gS2 g12 g22 g32 mW2 mO2 mH2 mP2 z1 z2 => ?_
        exact ih (c + 1) _ _ _ _ _ mK2 gR2 gS2 g12 g22 g32 mW2 mO2 mH2 mP2 (by omega) z1 (mFr_tr hF' z2)
      have mid : ∀ v1 : Int32, G.CHp Tb mxc l i j r 1 v1 (P1.r.f b) → v_M_divide_B345 (v_M_divide_L279 K255 mWeight (nI r) (nI i) (nI p) (nI q) (nI j) (nI (mxc l i j)) (nI (G.ln r)) (nI (G.sy r 0)) x9 x10 (nI e0) (nI e1) (nI P2.r.n) (nI a) (nI b) (d + 1)) mWeight (nI r) (nI q) (nI j) (nI (mxc l i j)) (nI (G.ln r)) x10 (nI c) v1 (nI r) v0 mK gR gS g1 g2 g3 mW mO mH mP := by
        intro v1 c1
        unfold v_M_divide_B345
        refine p_le (b := 2) (by omega) (by decide) (fun z => fin v1 (-1) c1 ?_) (fun z => ?_)
        · rw [← hP2]; exact Gr.CHp_o (by omega)
        · rw [hx10 (by omega)] at fin ⊢
          refine ps_mtree (tk := tk) (Tb := Tb) (l := l) (i := i) (j := j) (m := 2) (i' := q) (j' := j) (a := c) hw hr (by omega) (qj (by omega)) s2 (by rw [hP2]; omega) fun v2 c2 => fin v1 v2 c1 ?_
          rw [hP2] at c2
          exact c2
      refine p_le (b := 1) (by omega) (by decide) (fun z => mid (-1) ?_) (fun z => ?_)
      · rw [← hP1]; exact Gr.CHp_o (by omega)
      · rw [hx9 (by omega)]
        refine ps_mtree (tk := tk) (Tb := Tb) (l := l) (i := i) (j := j) (m := 1) (i' := p) (j' := e1) (a := b) hw hr (by omega) (pe1 (by omega)) s1 (by rw [hP1]; exact hb) fun v1 c1 => ?_
        rw [hP1] at c1
        rw [hx9 (by omega)] at mid
        exact mid v1 c1
  -- one plane
  have plane : ∀ (K245 : Int32 → Int32 → Int32 → Int32 → Int32 → Int32 → (Nat → Int32) → (Nat → Int32) → (Nat → Int32) → (Nat → Int32) → (Nat → Int32) → (Nat → Int32) → (Nat → Int32) → (Nat → Int32) → (Nat → Int32) → (Nat → Int32) → Prop) (a : Nat), a < P0.r.n →
      (∀ (n0 n1 n2 n3 n4 : Int32) (mK gR gS g1 g2 g3 mW mO mH mP : Nat → Int32), G.mNow Tb l i j (cA mk (a + 1) P1.r.n P2.r.n S) mK gR gS g1 g2 g3 → mFr (mxc l i j) hK hRu hSu h1 h2 h3 mK gR gS g1 g2 g3 → K245 (nI (a + 1)) n0 n1 n2 n3 n4 mK gR gS g1 g2 g3 mW mO mH mP) →
      ∀ (d b : Nat) (n0 n1 n2 n3 n4 : Int32) (mK gR gS g1 g2 g3 mW mO mH mP : Nat → Int32), b + d = P1.r.n → G.mNow Tb l i j (cP mk a b P2.r.n (cA mk a P1.r.n P2.r.n S)) mK gR gS g1 g2 g3 → mFr (mxc l i j) hK hRu hSu h1 h2 h3 mK gR gS g1 g2 g3 →
      v_M_divide_L255 K245 mWeight (nI r) (nI i) (nI p) (nI q) (nI j) (nI (mxc l i j)) (nI (G.ln r)) (nI (G.sy r 0)) x9 x10 (nI e0) (nI e1) (nI P1.r.n) (nI P2.r.n) (nI a) (d + 1) (nI b) n0 n1 n2 n3 n4 mK gR gS g1 g2 g3 mW mO mH mP := by
    intro K245 a ha ex d
    have hAo : (cA mk a P1.r.n P2.r.n S).ok := cA_ok hSo
    have hAs := alls S a P1.r.n P2.r.n (by omega) (Nat.le_refl _) (Nat.le_refl _) hSs
    induction d with
    | zero =>
      intro b n0 n1 n2 n3 n4 mK gR gS g1 g2 g3 mW mO mH mP hbd hN' hF'
      have : b = P1.r.n := by omega
      subst this
      unfold v_M_divide_L255
      rw [p_1]
      exact br_t (Int32.le_refl _) (ex _ _ _ _ _ mK gR gS g1 g2 g3 mW mO mH mP hN' hF')
    | succ d ih =>
      intro b n0 n1 n2 n3 n4 mK gR gS g1 g2 g3 mW mO mH mP hbd hN' hF'
      have hb2 : (a + 1) * (b + 1) ≤ 9 * 9 := Nat.mul_le_mul (by omega) (by omega)
      have hPo : (cP mk a b P2.r.n (cA mk a P1.r.n P2.r.n S)).ok := cP_ok hAo
      unfold v_M_divide_L255
      rw [p_1, p_1, pk_mul]
      refine br_f (fun z => by have := (nI_leI (by omega) (by omega)).mp z; omega) (p_lt (a := 8) (by decide) (by omega) (fun z => ex _ _ _ _ _ mK gR gS g1 g2 g3 mW mO mH mP ?_ hF') (fun z => ⟨P2.r.n + 1, ?_⟩))
      · have := cP_rest hm ha (show b ≤ P1.r.n by omega) hAo fun y1 y2 => cut9 hm ha y1 y2 hSo (by rw [Nat.mul_one]; exact z)
        show G.mNow Tb l i j (cP mk a P1.r.n P2.r.n (cA mk a P1.r.n P2.r.n S)) mK gR gS g1 g2 g3
        rw [this]
        exact hN'
      · refine row _ a b _ ha (by omega) hPo (allsP _ a b P2.r.n ha (by omega) (Nat.le_refl _) hAs) (fun c n02 n12 n22 n32 n42 mK2 gR2 gS2 g12 g22 g32 mW2 mO2 mH2 mP2 y1 y2 y3 y4 => ?_) P2.r.n 0 n0 n1 n2 n3 n4 mK gR gS g1 g2 g3 mW mO mH mP (by omega) hN' hF'
        have rest := cR_rest hm ha (show b < P1.r.n by omega) y1 hPo fun y5 => cut9 hm ha (by omega) y5 hSo (y2 y5)
        refine ih (b + 1) n02 n12 n22 n32 n42 mK2 gR2 gS2 g12 g22 g32 mW2 mO2 mH2 mP2 (by omega) ?_ y4
        show G.mNow Tb l i j (cR mk a b P2.r.n (cP mk a b P2.r.n (cA mk a P1.r.n P2.r.n S))) mK2 gR2 gS2 g12 g22 g32
        rw [rest]
        exact y3
  have all : ∀ (d a : Nat) (n0 n1 n2 n3 n4 : Int32) (mK gR gS g1 g2 g3 mW mO mH mP : Nat → Int32), a + d = P0.r.n → G.mNow Tb l i j (cA mk a P1.r.n P2.r.n S) mK gR gS g1 g2 g3 → mFr (mxc l i j) hK hRu hSu h1 h2 h3 mK gR gS g1 g2 g3 →
      v_M_divide_L245 post mWeight (nI r) (nI i) (nI p) (nI q) (nI j) (nI (mxc l i j)) (nI (G.ln r)) (nI (G.sy r 0)) x9 x10 (nI e0) (nI e1) (nI P0.r.n) (nI P1.r.n) (nI P2.r.n) mMany (d + 1) (nI a) n0 n1 n2 n3 n4 mK gR gS g1 g2 g3 mW mO mH mP := by
    intro d
    induction d with
    | zero =>
      intro a n0 n1 n2 n3 n4 mK gR gS g1 g2 g3 mW mO mH mP had hN' hF'
      have : a = P0.r.n := by omega
      subst this
      unfold v_M_divide_L245
      exact br_t (Int32.le_refl _) (k _ _ _ _ _ mK gR gS g1 g2 g3 mW mO mH mP hN' hF')
    | succ d ih =>
      intro a n0 n1 n2 n3 n4 mK gR gS g1 g2 g3 mW mO mH mP had hN' hF'
      unfold v_M_divide_L245
      refine br_f (fun z => by have := (nI_leI (by omega) (by omega)).mp z; omega) ⟨P1.r.n + 1, ?_⟩
      exact plane _ a (by omega) (fun n02 n12 n22 n32 n42 mK2 gR2 gS2 g12 g22 g32 mW2 mO2 mH2 mP2 y3 y4 => ih (a + 1) n02 n12 n22 n32 n42 mK2 gR2 gS2 g12 g22 g32 mW2 mO2 mH2 mP2 (by omega) y3 y4) P1.r.n 0 n0 n1 n2 n3 n4 mK gR gS g1 g2 g3 mW mO mH mP (by omega) hN' hF'
  exact ⟨P0.r.n + 1, all P0.r.n 0 n0 n1 n2 n3 n4 hK hRu hSu h1 h2 h3 mW0 mO0 mH0 mP0 (by omega) hN (mFr_rf _ _ _ _ _ _ _)⟩
end MDV
