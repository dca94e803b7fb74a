/-! The class looks the parts of a rule up, and joins them. -/
section CHS
variable {G : Gr} {Tb : Tab} {ρ : Nat → Nat} {D : Nat → Nat → Nat → Prop} {tk : Nat → Nat}
theorem cellOf_t : ∀ j, j < 7 → ∀ i, i < 7 → (nI j * (nI j - (1 : Int32))) / (2 : Int32) = nI (j * (j - 1) / 2) := by decide +kernel
theorem ps_cellOf {l i j : Nat} (hl : l < 5) (hi : i < j) (hj : j ≤ 6) {post : Int32 → Prop} (k : post (nI (cxc l i j))) : v_RT_cellOf (nI (65 + l)) (nI i) (nI j) post := by
  unfold v_RT_cellOf v_RT_spansBefore
  rw [cellOf_t j (by omega) i (by omega)]
  show post ((nI (j * (j - 1) / 2) + nI i) * (5 : Int32) + nI (65 + l) - (65 : Int32))
  rw [nI_add, show (5 : Int32) = nI 5 from rfl, pk_mul, nI_add, show (65 : Int32) = nI 65 from rfl, pk_sub (by omega), show (j * (j - 1) / 2 + i) * 5 + (65 + l) - 65 = cxc l i j by unfold cxc; omega]
  exact k
theorem ps_isLetter_t {l : Nat} (hl : l < 5) {post : Int32 → Prop} (k : post 1) : v_RT_isLetter (nI (65 + l)) post := by
  unfold v_RT_isLetter
  exact br_f (fun z => by have := (nI_ltI (b := 65) (by omega) (by decide)).mp z; omega) (br_f (fun z => by have := (nI_leI (a := 70) (by decide) (by omega)).mp z; omega) k)
theorem ps_isLetter_f {c : Nat} (hc : c < 65 ∨ 70 ≤ c) (hb : c < 2 ^ 31) {post : Int32 → Prop} (k : post 0) : v_RT_isLetter (nI c) post := by
  unfold v_RT_isLetter
  refine p_lt (b := 65) hb (by decide) (fun _ => k) (fun h => br_t ((nI_leI (a := 70) (by decide) hb).mpr (by omega)) k)
/-- the class's grammar, for one rule -/
theorem Gr.c_sy {gH gS gL gW : Nat → Int32} (hc : G.c gH gS gL gW) {r m : Nat} (hr : r < G.k) (hm : m < G.ln r) : gS (3 * r + m) = nI (G.sy r m) := (hc r hr).2.2.2.1 m hm
theorem ps_choose (hw : G.WF) {gH gS gL gW : Nat → Int32} (hc : G.c gH gS gL gW) {cC : Nat → Int64} {cK cU cH cF wT : Nat → Int32} {l i j r m i' j' : Nat} (hr : r < G.k) (hm : m < 3) (hij' : m < G.ln r → i' < j' ∧ j' ≤ 6)
    (hU : m < G.ln r → cU m = nI i' ∧ cU (m + 1) = nI j') (hS : G.lb r m = true → G.Sb l i j (G.sy r m - 65) i' j') (hD : G.lb r m = true → cC (cxc (G.sy r m - 65) i' j') = lN (Tb (G.sy r m - 65) i' j').c ∧ cK (cxc (G.sy r m - 65) i' j') = nI (Tb (G.sy r m - 65) i' j').r.n)
    (hT : m < G.ln r → j' = i' + 1 → wT i' = nI (tk i') ∧ tk i' < 2 ^ 31)
    {post : Int64 → (Nat → Int32) → (Nat → Int32) → Prop} (k : ∀ cH' cF' : Nat → Int32, (∀ y, y ≠ m → cH' y = cH y) → (∀ y, y ≠ m → cF' y = cF y) → ((G.pc tk Tb r m i' j').c ≠ 0 → cH' m = nI (G.pc tk Tb r m i' j').r.n ∧ G.cFm Tb l i j r m (cF' m) (G.pc tk Tb r m i' j').r) → post (lN (G.pc tk Tb r m i' j').c) cH' cF') :
    v_Chart_choose (nI r) (nI m) cC cK cU cH cF wT gS gL post := by
  obtain ⟨wh, w1, w3, wwt, wsy⟩ := hw.2 r hr
  have hk := hw.1
  unfold v_Chart_choose
  rw [nI_clamp (show m < 2 ^ 31 by omega), nI_clamp (show r < 2 ^ 31 by omega), (hc r hr).2.1]
  have i3 : vp_in (nI m) 3 := vp_in_nI hm (by decide)
  have one : G.lb r m ≠ true → G.pc tk Tb r m i' j' = Cell.o → post (1 : Int64) (upd cH m 1) (upd cF m (-1)) := by
    intro h e
    have := k (upd cH m 1) (upd cF m (-1)) (fun y hy => pk_un hy) (fun y hy => pk_un hy) fun _ => by
      rw [e, pk_us, pk_us]
      exact ⟨rfl, Or.inr ⟨by simpa using h, rfl, fun _ => rfl⟩⟩
    rw [e] at this
    exact this
  refine ⟨i3, i3, p_in14 (by omega), p_lt (by omega) (by omega) (fun h => ?_) (fun h => ?_)⟩
  · obtain ⟨g1, g2⟩ := hij' h
    obtain ⟨u1, u2⟩ := hU h
    unfold v_Grammar_symbol
    rw [p_ix, nI_clamp (show 3 * r + m < 2 ^ 31 by omega), Gr.c_sy hc hr h]
    refine ⟨vp_in_nI (by omega) (by decide), vp_in_nI (by omega) (by decide), ?_⟩
    rw [p_1, nI_clamp (show m + 1 < 2 ^ 31 by omega), u1, u2]
    intro y4 hy4
    refine ⟨vp_in_nI (by omega) (by decide), ?_⟩
    intro y5 hy5
    subst hy4 hy5
    by_cases e : G.lb r m = true
    · obtain ⟨-, s1, s2⟩ := Gr.lb_iff.mp e
      obtain ⟨d1, d2⟩ := hD e
      have X := cxc_lt (show G.sy r m - 65 < 5 by omega) g1 g2
      rw [show G.sy r m = 65 + (G.sy r m - 65) by omega]
      refine ps_isLetter_t (by omega) (br_f (by decide) ?_)
      refine ps_cellOf (by omega) g1 g2 ?_
      have iX : vp_in (nI (cxc (G.sy r m - 65) i' j')) 105 := vp_in_nI X (by decide)
      refine ⟨iX, i3, i3, iX, ?_⟩
      rw [nI_clamp (show cxc (G.sy r m - 65) i' j' < 2 ^ 31 by omega), d1, d2, p_8]
      have ep : G.pc tk Tb r m i' j' = Tb (G.sy r m - 65) i' j' := by unfold Gr.pc; rw [if_pos e]
      have := k (upd (upd cH m 1) m (nI (Tb (G.sy r m - 65) i' j').r.n)) (upd (upd cF m (-1)) m (nI (8 * cxc (G.sy r m - 65) i' j'))) (fun y hy => by rw [pk_un hy, pk_un hy]) (fun y hy => by rw [pk_un hy, pk_un hy]) fun _ => by
        rw [ep, pk_us, pk_us]
        exact ⟨rfl, Or.inl ⟨e, i', j', hS e, rfl, rfl⟩⟩
      rw [ep] at this
      exact this
    · have ns : G.sy r m < 65 ∨ 70 ≤ G.sy r m := by
        by_cases z : 65 ≤ G.sy r m
        · exact Or.inr (Nat.lt_of_not_le fun y => e (Gr.lb_iff.mpr ⟨h, z, y⟩))
        · exact Or.inl (by omega)
      have sl : G.sy r m < 2 ^ 31 := Gr.sy_lt hw hr h
      have zero : ¬ (j' = i' + 1 ∧ tk i' = G.sy r m) → post (0 : Int64) (upd cH m 1) (upd cF m (-1)) := by
        intro z
        have ep : G.pc tk Tb r m i' j' = Cell.e := by unfold Gr.pc; rw [if_neg e, if_pos ⟨h, z⟩]
        have := k (upd cH m 1) (upd cF m (-1)) (fun y hy => pk_un hy) (fun y hy => pk_un hy) fun q => by
          rw [ep] at q
          exact absurd rfl q
        rw [ep] at this
        exact this
      refine ps_isLetter_f ns sl (br_t rfl ?_)
      rw [pk_sub (by omega)]
      refine p_eq (b := 1) (by omega) (by decide) (fun z => ?_) (fun z => zero fun y => z (by omega))
      obtain ⟨t1, t2⟩ := hT h (by omega)
      rw [nI_clamp (show i' < 2 ^ 31 by omega), t1]
      refine ⟨vp_in_nI (by omega) (by decide), p_eq t2 sl (fun y => one e ?_) (fun y => zero fun x => y x.2)⟩
      unfold Gr.pc
      rw [if_neg e, if_neg (fun x => x.2 ⟨by omega, y⟩)]
  · refine one (fun z => by have := (Gr.lb_iff.mp z).1; omega) ?_
    unfold Gr.pc
    rw [if_neg (fun z => by have := (Gr.lb_iff.mp z).1; omega), if_neg (fun z => by omega)]
theorem lN_zero {n : Nat} (h : n < 18446744073709551616) : lN n = 0 ↔ n = 0 := by
  constructor
  · intro e
    have : (lN n).toUInt64.toNat = (0 : Int64).toUInt64.toNat := by rw [e]
    have e1 : (lN n).toUInt64.toNat = n % 18446744073709551616 := by
      show (UInt64.ofNat n).toNat = _
      exact UInt64.toNat_ofNat'
    rw [e1, Nat.mod_eq_of_lt h] at this
    exact this
  · intro e; rw [e]; rfl
/-- what a state of the class's chart must be for a cell to be worked at -/
theorem ps_join (hw : G.WF) (hρ : G.Rk ρ) (hC : ∀ x i j, i < j → G.CP ρ x (j - i) (Tb x i j)) (hB : ∀ x i j, x < 5 → i < j → j ≤ i + 6 → (Tb x i j).c ≤ bM (j - i)) (hD : G.Dc D) {gH gS gL gW : Nat → Int32} (hg : G.c gH gS gL gW)
    {cC : Nat → Int64} {cK cU cH cF wT fO fW fZ fC : Nat → Int32} (hR : G.cDR Tb cC cK fO fW fZ fC D)
    {l i j r p q : Nat} (hl : l < 5) (hij : i < j) (hj : j ≤ 6) (hnD : ¬ D l i j) (hS : ∀ x a b, G.Sb l i j x a b → D x a b) (hr : r < G.k) (hru : G.us r = true) (hrl : G.hd r = l) (hs : G.sp r i j p q)
    (u0 : cU 0 = nI i) (u1 : cU 1 = nI (if G.ln r = 1 then j else p)) (u2 : 2 ≤ G.ln r → cU 2 = nI (if G.ln r = 2 then j else q)) (u3 : G.ln r = 3 → cU 3 = nI j) (hwT : ∀ t, i ≤ t → t < j → wT t = nI (tk t) ∧ tk t < 2 ^ 31)
    {S : Cell} (hSc : G.CP ρ l (j - i) S) (hcS : cC (cxc l i j) = lN S.c) (hN : G.rNow Tb l i j S.r cK fO fW fZ fC)
    {post : (Nat → Int64) → (Nat → Int32) → (Nat → Int32) → (Nat → Int32) → (Nat → Int32) → (Nat → Int32) → (Nat → Int32) → (Nat → Int32) → Prop}
    (k : ∀ (cC' : Nat → Int64) (cK' cH' cF' gO gW' gZ gC : Nat → Int32), cC' (cxc l i j) = lN (G.jr tk Tb r i j p q S).c → (∀ y, y ≠ cxc l i j → cC' y = cC y) → G.rNow Tb l i j (G.jr tk Tb r i j p q S).r cK' gO gW' gZ gC → rFr (cxc l i j) cK fO fW fZ fC cK' gO gW' gZ gC → post cC' cK' cH' cF' gO gW' gZ gC) :
    v_Chart_join (nI r) (nI (cxc l i j)) cC cK cU cH cF wT fO fW fZ fC gS gL gW post := by
  obtain ⟨wh, w1, w3, wwt, wsy⟩ := hw.2 r hr
  have hk := hw.1
  have hX := cxc_lt hl hij hj
  obtain ⟨s0, s1, s2⟩ := Gr.pc_sub hw hr hru hij hs
  rw [hrl] at s0 s1 s2
  obtain ⟨q0, q1, q2⟩ := Gr.QP_parts (tk := tk) (ρ := ρ) (Tb := Tb) hw hr hru hij hs fun x i' j' h => hC x i' j' h.2.2.1
  have hpr : G.pr tk Tb r i j p q < 18446744073709551616 := Gr.pr_lt hw hr hij (by omega) hs hB
  have hjr : (G.jr tk Tb r i j p q S).c = S.c + G.pr tk Tb r i j p q := rfl
  have hjr2 : (G.jr tk Tb r i j p q S).r = cA (fun a b c => mkT (G.wt r) r i j ((G.pc tk Tb r 0 i (if G.ln r = 1 then j else p)).r.f a) ((G.pc tk Tb r 1 p (if G.ln r = 2 then j else q)).r.f b) ((G.pc tk Tb r 2 q j).r.f c)) (G.pc tk Tb r 0 i (if G.ln r = 1 then j else p)).r.n (G.pc tk Tb r 1 p (if G.ln r = 2 then j else q)).r.n (G.pc tk Tb r 2 q j).r.n S.r := rfl
  have hprd : G.pr tk Tb r i j p q = (G.pc tk Tb r 0 i (if G.ln r = 1 then j else p)).c * (G.pc tk Tb r 1 p (if G.ln r = 2 then j else q)).c * (G.pc tk Tb r 2 q j).c := rfl
  have hTP : ∀ a b c, a < (G.pc tk Tb r 0 i (if G.ln r = 1 then j else p)).r.n → b < (G.pc tk Tb r 1 p (if G.ln r = 2 then j else q)).r.n → c < (G.pc tk Tb r 2 q j).r.n → G.TP ρ (j - i) l (mkT (G.wt r) r i j ((G.pc tk Tb r 0 i (if G.ln r = 1 then j else p)).r.f a) ((G.pc tk Tb r 1 p (if G.ln r = 2 then j else q)).r.f b) ((G.pc tk Tb r 2 q j).r.f c)) := fun a b c ha hb hc => by
    have := Gr.TP_mk hw hρ hr hru hij hs (q0.2.2 a ha) (q1.2.2 b hb) (q2.2.2 c hc)
    rwa [hrl] at this
  have hmo := Gr.jr_mono (wt := G.wt r) (i := i) (j := j) q0 q1 q2
  unfold v_Chart_join
  refine ⟨4, ?_⟩
  have st : ∀ (n m v : Nat) (h f : Nat → Int32) (i' j' : Nat), m < 3 → (m < G.ln r → i' < j' ∧ j' ≤ 6) → (m < G.ln r → cU m = nI i' ∧ cU (m + 1) = nI j') → (G.lb r m = true → G.Sb l i j (G.sy r m - 65) i' j') → (m < G.ln r → i ≤ i' ∧ i' < j) →
      (∀ h' f' : Nat → Int32, (∀ y, y ≠ m → h' y = h y) → (∀ y, y ≠ m → f' y = f y) → ((G.pc tk Tb r m i' j').c ≠ 0 → h' m = nI (G.pc tk Tb r m i' j').r.n ∧ G.cFm Tb l i j r m (f' m) (G.pc tk Tb r m i' j').r) → v_Chart_join_L5 post cU wT gS gL gW (nI r) (nI (cxc l i j)) cC cK fO fW fZ fC n (lN (v * (G.pc tk Tb r m i' j').c)) (nI (m + 1)) h' f') →
      v_Chart_join_L5 post cU wT gS gL gW (nI r) (nI (cxc l i j)) cC cK fO fW fZ fC (n + 1) (lN v) (nI m) h f := by
    intro n m v h f i' j' hm a1 a2 a3 a4 kk
    unfold v_Chart_join_L5
    refine br_f (fun z => by have := (nI_leI (a := 3) (by decide) (by omega)).mp z; omega) ?_
    refine ps_choose (tk := tk) (l := l) (i := i) (j := j) hw hg hr hm a1 a2 a3 (fun e => hR.2 _ _ _ (hS _ _ _ (a3 e))) (fun e1 e2 => hwT i' (a4 e1).1 (a4 e1).2) fun h' f' b1 b2 b3 => ?_
    rw [lN_mul, p_1]
    exact kk h' f' b1 b2 b3
  refine st 3 0 1 cH cF i (if G.ln r = 1 then j else p) (by decide) ?_ ?_ s0 (fun _ => ⟨Nat.le_refl _, hij⟩) fun h1 f1 g1 g2 g3 => ?_
  · intro _
    rcases hs with e | ⟨e, t1, t2⟩ | ⟨e, t1, t2, t3⟩
    · rw [if_pos e]; exact ⟨hij, hj⟩
    · rw [if_neg (by omega)]; exact ⟨t1, by omega⟩
    · rw [if_neg (by omega)]; exact ⟨t1, by omega⟩
  · exact fun _ => ⟨u0, u1⟩
  refine st 2 1 _ h1 f1 p (if G.ln r = 2 then j else q) (by decide) ?_ ?_ s1 ?_ fun h2 f2 g4 g5 g6 => ?_
  · intro z
    rcases hs with e | ⟨e, t1, t2⟩ | ⟨e, t1, t2, t3⟩
    · omega
    · rw [if_pos e]; exact ⟨t2, hj⟩
    · rw [if_neg (by omega)]; exact ⟨t2, by omega⟩
  · intro z
    rw [if_neg (show ¬ G.ln r = 1 by omega)] at u1
    exact ⟨u1, u2 (by omega)⟩
  · intro z
    rcases hs with e | ⟨e, t1, t2⟩ | ⟨e, t1, t2, t3⟩ <;> omega
  refine st 1 2 _ h2 f2 q j (by decide) ?_ ?_ s2 ?_ fun h3 f3 g7 g8 g9 => ?_
  · intro z
    rcases hs with e | ⟨e, t1, t2⟩ | ⟨e, t1, t2, t3⟩
    · omega
    · omega
    · exact ⟨t3, hj⟩
  · intro z
    have u2' := u2 (by omega)
    rw [if_neg (show ¬ G.ln r = 2 by omega)] at u2'
    exact ⟨u2', u3 (by omega)⟩
  · intro z
    rcases hs with e | ⟨e, t1, t2⟩ | ⟨e, t1, t2, t3⟩ <;> omega
  unfold v_Chart_join_L5
  refine br_t (show nI 3 ≤ nI 3 from Int32.le_refl _) ?_
  rw [Nat.one_mul, ← hprd, lg_cmp_eq]
  refine ⟨fun e => ?_, fun e => ?_⟩
  · have z := (lN_zero hpr).mp e
    have nil : (G.pc tk Tb r 0 i (if G.ln r = 1 then j else p)).r.n = 0 ∨ (G.pc tk Tb r 1 p (if G.ln r = 2 then j else q)).r.n = 0 ∨ (G.pc tk Tb r 2 q j).r.n = 0 := by
      rw [hprd] at z
      rcases Nat.mul_eq_zero.mp z with y | y
      · rcases Nat.mul_eq_zero.mp y with y | y
        · exact Or.inl (q0.2.1 y)
        · exact Or.inr (Or.inl (q1.2.1 y))
      · exact Or.inr (Or.inr (q2.2.1 y))
    refine k cC cK h3 f3 fO fW fZ fC (by rw [hjr, z]; exact hcS) (fun _ _ => rfl) ?_ (rFr_rf _ _ _ _ _ _)
    rw [hjr2, cA_nil nil]
    exact hN
  · have z : G.pr tk Tb r i j p q ≠ 0 := fun y => e ((lN_zero hpr).mpr y)
    rw [hprd] at z
    have n0 : (G.pc tk Tb r 0 i (if G.ln r = 1 then j else p)).c ≠ 0 := fun y => z (by rw [y, Nat.zero_mul, Nat.zero_mul])
    have n1 : (G.pc tk Tb r 1 p (if G.ln r = 2 then j else q)).c ≠ 0 := fun y => z (by rw [y, Nat.mul_zero, Nat.zero_mul])
    have n2 : (G.pc tk Tb r 2 q j).c ≠ 0 := fun y => z (by rw [y, Nat.mul_zero])
    obtain ⟨a0, a1⟩ := g3 n0
    obtain ⟨a2, a3⟩ := g6 n1
    obtain ⟨a4, a5⟩ := g9 n2
    have iX : vp_in (nI (cxc l i j)) 105 := vp_in_nI hX (by decide)
    refine ⟨iX, iX, ?_⟩
    rw [nI_clamp (show cxc l i j < 2 ^ 31 by omega), hcS, lN_add]
    refine ps_join47 hw hρ hC hD hR.1 hl hij hj hnD hS hr hru hrl (hg r hr).2.2.1 (R0 := (G.pc tk Tb r 0 i (if G.ln r = 1 then j else p)).r) (R1 := (G.pc tk Tb r 1 p (if G.ln r = 2 then j else q)).r) (R2 := (G.pc tk Tb r 2 q j).r) (S := S.r) ?_ ?_ a5 ?_ ?_ a4 q0.1.1 q1.1.1 q2.1.1 hmo hTP hSc.1 hSc.2.2 hN fun cK' gO gW' gZ gC c1 c2 => k _ cK' _ _ gO gW' gZ gC ?_ (fun y hy => pk_uLn hy) c1 c2
    · rw [g8 0 (by decide), g5 0 (by decide)]; exact a1
    · rw [g8 1 (by decide)]; exact a3
    · rw [g7 0 (by decide), g4 0 (by decide)]; exact a0
    · rw [g7 1 (by decide)]; exact a2
    · rw [pk_uLs, hjr]
end CHS
