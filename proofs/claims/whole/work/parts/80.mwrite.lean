/-! The model writes a tree out and compares. -/
/-- the model's number of a cell -/
def mxc (l i j : Nat) : Nat := 36 * l + 6 * i + j - 1
theorem mxc_lt {l i j : Nat} (hl : l < 5) (hij : i < j) (hj : j ≤ 6) : mxc l i j < 180 := by unfold mxc; omega
theorem mxc_inj {l i j l' i' j' : Nat} (hij : i < j) (hj : j ≤ 6) (hij' : i' < j') (hj' : j' ≤ 6) (h : mxc l i j = mxc l' i' j') : l = l' ∧ i = i' ∧ j = j' := by
  have a1 : mxc l i j / 36 = l := by unfold mxc; omega
  have a2 : mxc l' i' j' / 36 = l' := by unfold mxc; omega
  have e1 : l = l' := by rw [← a1, ← a2, h]
  subst e1
  unfold mxc at h
  have e2 : i = i' := by omega
  exact ⟨rfl, e2, by omega⟩
/-- the nodes L stand from base on -/
def WN (mOut mWhose : Nat → Int32) (base : Nat) (L : List (Nat × Nat × Nat)) : Prop := ∀ t r i j, L[t]? = some (r, i, j) → mOut (base + t) = nI r ∧ ∃ x q, x < 5 ∧ q < 8 ∧ i < j ∧ j ≤ 6 ∧ mWhose (base + t) = nI (8 * mxc x i j + q)
/-- the rules F stand from base on -/
def RN (mOut : Nat → Int32) (base : Nat) (F : List Nat) : Prop := ∀ t a, F[t]? = some a → mOut (base + t) = nI a
theorem WN.rn {mOut mWhose : Nat → Int32} {base : Nat} {T : Tr} (h : WN mOut mWhose base T.nd) : RN mOut base T.fl := by
  intro t a e
  unfold Tr.fl at e
  rw [List.getElem?_map] at e
  cases e2 : T.nd[t]? with
  | none => rw [e2] at e; exact absurd e (by simp)
  | some y =>
    obtain ⟨r, i, j⟩ := y
    rw [e2] at e
    have : r = a := by simpa using e
    rw [← this]
    exact (h t r i j e2).1
theorem RN_nil (mOut : Nat → Int32) (base : Nat) : RN mOut base [] := fun t a e => by simp at e
theorem RN_app {mOut : Nat → Int32} {base : Nat} {F F' : List Nat} (h : RN mOut base F) (h' : RN mOut (base + F.length) F') : RN mOut base (F ++ F') := by
  intro t a e
  by_cases z : t < F.length
  · rw [List.getElem?_append_left z] at e
    exact h t a e
  · rw [List.getElem?_append_right (by omega)] at e
    have := h' (t - F.length) a e
    rw [show base + F.length + (t - F.length) = base + t by omega] at this
    exact this
theorem get_lt {α : Type} {L : List α} {t : Nat} {a : α} (e : L[t]? = some a) : t < L.length := by
  by_cases z : t < L.length
  · exact z
  · rw [List.getElem?_eq_none (by omega)] at e; exact absurd e (by simp)
theorem RN_fr {mOut mOut' : Nat → Int32} {base : Nat} {F : List Nat} (h : RN mOut base F) (f : ∀ y, base ≤ y → y < base + F.length → mOut' y = mOut y) : RN mOut' base F := by
  intro t a e
  have := get_lt e
  rw [f _ (by omega) (by omega)]
  exact h t a e
section MWR
variable {G : Gr} {Tb : Tab} {ρ : Nat → Nat} {D : Nat → Nat → Nat → Prop} {mRule mSum mOne mTwo mThree : Nat → Int32}
def Gr.mEN (G : Gr) (Tb : Tab) (mRule mSum mOne mTwo mThree : Nat → Int32) (l i j u : Nat) (T : Tr) : Prop := G.ENv Tb mxc l i j (mRule u) (mSum u) (mOne u) (mTwo u) (mThree u) T
def Gr.mER (G : Gr) (Tb : Tab) (mRule mSum mOne mTwo mThree : Nat → Int32) (D : Nat → Nat → Nat → Prop) : Prop := ∀ x i j, D x i j → x < 5 ∧ i < j ∧ j ≤ 6 ∧ ∀ q, q < (Tb x i j).r.n → G.mEN Tb mRule mSum mOne mTwo mThree x i j (8 * mxc x i j + q) ((Tb x i j).r.f q)
/-- u is an entry of T whose parts lie in done cells -/
def Gr.mV (G : Gr) (Tb : Tab) (mRule mSum mOne mTwo mThree : Nat → Int32) (D : Nat → Nat → Nat → Prop) (u : Nat) (T : Tr) : Prop := ∃ l i j q, l < 5 ∧ i < j ∧ j ≤ 6 ∧ q < 8 ∧ u = 8 * mxc l i j + q ∧ G.mEN Tb mRule mSum mOne mTwo mThree l i j u T ∧ ∀ y a b, G.Sb l i j y a b → D y a b
theorem Gr.mV_D (hC : ∀ x i j, i < j → G.CP ρ x (j - i) (Tb x i j)) (hD : G.Dc D) (hR : G.mER Tb mRule mSum mOne mTwo mThree D) {l i j q : Nat} (hd : D l i j) (hq : q < (Tb l i j).r.n) : G.mV Tb mRule mSum mOne mTwo mThree D (8 * mxc l i j + q) ((Tb l i j).r.f q) := by
  obtain ⟨g1, g2, g3, g4⟩ := hR _ _ _ hd
  have := (hC l i j g2).1.1
  exact ⟨l, i, j, q, g1, g2, g3, by omega, rfl, g4 q hq, fun y a b h => hD _ _ _ _ _ _ hd h⟩
/-- the stack, from its top down -/
def mSK (V : Nat → Tr → Prop) (mOpen : Nat → Int32) (s : Nat) : Nat → List (Nat × Nat × Nat) → Prop
  | 0, L => L = []
  | k + 1, L => ∃ u T L', mOpen (60 * s + k) = nI u ∧ V u T ∧ 1 ≤ T.sz ∧ L = T.nd ++ L' ∧ mSK V mOpen s k L'
theorem mSK_le {V : Nat → Tr → Prop} {mOpen : Nat → Int32} {s : Nat} : ∀ {k : Nat} {L : List (Nat × Nat × Nat)}, mSK V mOpen s k L → k ≤ L.length
  | 0, _, _ => Nat.zero_le _
  | k + 1, L, h => by
    obtain ⟨u, T, L', _, _, h1, rfl, h2⟩ := h
    have := mSK_le h2
    have : 1 ≤ T.nd.length := h1
    rw [List.length_append]
    omega
theorem mSK_fr {V : Nat → Tr → Prop} {mOpen mOpen' : Nat → Int32} {s : Nat} : ∀ {k : Nat} {L : List (Nat × Nat × Nat)}, mSK V mOpen s k L → (∀ y, y < 60 * s + k → mOpen' y = mOpen y) → mSK V mOpen' s k L
  | 0, _, h, _ => h
  | k + 1, L, h, f => by
    obtain ⟨u, T, L', e, h0, h1, h3, h2⟩ := h
    exact ⟨u, T, L', by rw [f _ (by omega)]; exact e, h0, h1, h3, mSK_fr h2 fun y hy => f y (by omega)⟩
theorem ps_push (hC : ∀ x i j, i < j → G.CP ρ x (j - i) (Tb x i j)) (hD : G.Dc D) (hR : G.mER Tb mRule mSum mOne mTwo mThree D) {l i j r m s k : Nat} {v : Int32} {x : Tr} (hs : s < 2) (hS : ∀ y a b, G.Sb l i j y a b → D y a b) (h : G.CHp Tb mxc l i j r m v x) {mOpen : Nat → Int32} {L : List (Nat × Nat × Nat)} (hk : mSK (G.mV Tb mRule mSum mOne mTwo mThree D) mOpen s k L) (hb : L.length + x.sz ≤ 60)
    {post : Int32 → (Nat → Int32) → Prop} (kk : ∀ (k' : Nat) (mOpen' : Nat → Int32), mSK (G.mV Tb mRule mSum mOne mTwo mThree D) mOpen' s k' (x.nd ++ L) → post (nI k') mOpen') : v_M_push (nI s) (nI k) v mOpen post := by
  unfold v_M_push
  have hkL := mSK_le hk
  rcases h with ⟨h1, i', j', q, h2, h3, h4, h5⟩ | ⟨h1, h2, h3⟩
  · have hd := hS _ _ _ h2
    obtain ⟨g1, g2, g3, g4⟩ := hR _ _ _ hd
    have := mxc_lt g1 g2 g3
    have sz1 := ((hC _ _ _ g2).2.2 q h3).2.2.1
    have p8 := (hC (G.sy r m - 65) i' j' g2).1.1
    have szx : 1 ≤ x.sz := by rw [h5]; exact sz1
    rw [h4]
    refine br_t (show nI 0 ≤ nI _ from (nI_leI (by decide) (by omega)).mpr (Nat.zero_le _)) ?_
    rw [show (60 : Int32) = nI 60 from rfl, pk_mul, nI_add, nI_clamp (show 60 * s + k < 2 ^ 31 by omega), p_1]
    refine ⟨vp_in_nI (by omega) (by decide), kk (k + 1) _ ⟨8 * mxc (G.sy r m - 65) i' j' + q, x, L, pk_us, h5 ▸ Gr.mV_D hC hD hR hd h3, szx, rfl, mSK_fr hk fun y hy => pk_un (by omega)⟩⟩
  · rw [h2]
    refine br_f (by decide) (kk k mOpen ?_)
    rw [h3]
    exact hk
theorem ps_wloop (hC : ∀ x i j, i < j → G.CP ρ x (j - i) (Tb x i j)) (hD : G.Dc D) (hR : G.mER Tb mRule mSum mOne mTwo mThree D) {s : Nat} (hs : s < 2) {mWritten : Nat → Int32} {post : (Nat → Int32) → (Nat → Int32) → (Nat → Int32) → (Nat → Int32) → Prop} :
    ∀ (m n k : Nat) (L : List (Nat × Nat × Nat)) (mOut mWhose mOpen : Nat → Int32), L.length = m → n + m ≤ 60 → mSK (G.mV Tb mRule mSum mOne mTwo mThree D) mOpen s k L →
      (∀ mOut' mWhose' mOpen' : Nat → Int32, WN mOut' mWhose' (60 * s + n) L → (∀ y, y < 60 * s + n ∨ 60 * s + n + m ≤ y → mOut' y = mOut y ∧ mWhose' y = mWhose y) → post (upd mWritten s (nI (n + m))) mOut' mWhose' mOpen') →
      v_M_writeOut_L16 post mRule mOne mTwo mThree (nI s) mWritten (m + 1) (nI n) (nI k) mOut mWhose mOpen := by
  intro m
  induction m with
  | zero =>
    intro n k L mOut mWhose mOpen hL hn hk kk
    have k0 : k = 0 := by have := mSK_le hk; omega
    subst k0
    unfold v_M_writeOut_L16
    refine br_t (show nI 0 ≤ nI 0 from Int32.le_refl _) ⟨vp_in_nI hs (by decide), ?_⟩
    rw [nI_clamp (show s < 2 ^ 31 by omega)]
    have L0 : L = [] := List.eq_nil_of_length_eq_zero hL
    subst L0
    exact kk mOut mWhose mOpen (fun t r i j e => by simp at e) fun _ _ => ⟨rfl, rfl⟩
  | succ m ih =>
    intro n k L mOut mWhose mOpen hL hn hk kk
    cases k with
    | zero =>
      have : L = [] := hk
      rw [this] at hL
      exact absurd hL (by simp)
    | succ k =>
      have hkL := mSK_le hk
      obtain ⟨u, T, L', e0, ⟨l, i, j, q, g1, g2, g3, q8, eu, hEN, hSb⟩, h1, eL, hk'⟩ := hk
      have hX := mxc_lt g1 g2 g3
      obtain ⟨r, a, b, c, hr, hru, hrl, eM, eO, eS, c0, c1, c2⟩ := hEN
      have hu : u < 1440 := by omega
      have lenT : T.nd.length = 1 + a.sz + b.sz + c.sz := by
        have := mkT_sz (G.wt r) r i j a b c
        rw [← eM] at this
        exact this
      have lenL : L'.length + (1 + a.sz + b.sz + c.sz) = m + 1 := by rw [eL, List.length_append, lenT] at hL; omega
      unfold v_M_writeOut_L16
      refine br_f (show ¬ nI (k + 1) ≤ nI 0 from fun z => by have := (nI_leI (by omega) (by decide)).mp z; omega) ?_
      rw [pk_m1, show (60 : Int32) = nI 60 from rfl, pk_mul, nI_add, nI_add, nI_clamp (show 60 * s + k < 2 ^ 31 by omega), nI_clamp (show 60 * s + n < 2 ^ 31 by omega), e0]
      refine ⟨vp_in_nI (by omega) (by decide), ?_⟩
      intro y6 hy6
      subst hy6
      rw [nI_clamp (show u < 2 ^ 31 by omega), p_1]
      have iu : vp_in (nI u) 1440 := vp_in_nI hu (by decide)
      have io : vp_in (nI (60 * s + n)) 120 := vp_in_nI (by omega) (by decide)
      refine ⟨iu, io, io, iu, ?_⟩
      refine ps_push hC hD hR hs hSb c2 hk' (by omega) fun k2 mOpen2 s2 => ⟨iu, ?_⟩
      have l2 : (c.nd ++ L').length = c.sz + L'.length := by rw [List.length_append]; rfl
      refine ps_push hC hD hR hs hSb c1 s2 (by omega) fun k3 mOpen3 s3 => ⟨iu, ?_⟩
      have l3 : (b.nd ++ (c.nd ++ L')).length = b.sz + (c.sz + L'.length) := by rw [List.length_append, l2]; rfl
      refine ps_push hC hD hR hs hSb c0 s3 (by omega) fun k4 mOpen4 s4 => ?_
      have l4 : (a.nd ++ (b.nd ++ (c.nd ++ L'))).length = m := by rw [List.length_append, l3]; have : a.nd.length = a.sz := rfl; omega
      refine ih (n + 1) k4 (a.nd ++ (b.nd ++ (c.nd ++ L'))) _ _ mOpen4 l4 (by omega) s4 fun mOut' mWhose' mOpen' hW hF => ?_
      rw [show n + 1 + m = n + (m + 1) by omega]
      have eL2 : L = (r, i, j) :: (a.nd ++ (b.nd ++ (c.nd ++ L'))) := by
        rw [eL, eM]
        show ((r, i, j) :: (a.nd ++ b.nd ++ c.nd)) ++ L' = _
        simp [List.append_assoc]
      refine kk mOut' mWhose' mOpen' ?_ fun y hy => ?_
      · intro t r' i' j' e
        rw [eL2] at e
        cases t with
        | zero =>
          have e' : (r, i, j) = (r', i', j') := by simpa using e
          obtain ⟨f1, f2⟩ := hF (60 * s + n) (by omega)
          have z1 : r = r' := congrArg (fun x => x.1) e'
          have z2 : i = i' := congrArg (fun x => x.2.1) e'
          have z3 : j = j' := congrArg (fun x => x.2.2) e'
          subst z1 z2 z3
          rw [Nat.add_zero, f1, f2, pk_us, pk_us]
          exact ⟨eO, l, q, g1, q8, g2, g3, by rw [eu]⟩
        | succ t =>
          rw [List.getElem?_cons_succ] at e
          have := hW t r' i' j' e
          rw [show 60 * s + (n + 1) + t = 60 * s + n + (t + 1) by omega] at this
          exact this
      · obtain ⟨f1, f2⟩ := hF y (by omega)
        rw [f1, f2, pk_un (by omega), pk_un (by omega)]
        exact ⟨rfl, rfl⟩
theorem ps_writeOut (hC : ∀ x i j, i < j → G.CP ρ x (j - i) (Tb x i j)) (hD : G.Dc D) (hR : G.mER Tb mRule mSum mOne mTwo mThree D) {s n u : Nat} {T : Tr} (hs : s < 2) (hV : G.mV Tb mRule mSum mOne mTwo mThree D u T) (h1 : 1 ≤ T.sz) (hn : n + T.sz ≤ 60) {mWritten mOut mWhose mOpen : Nat → Int32} {post : (Nat → Int32) → (Nat → Int32) → (Nat → Int32) → (Nat → Int32) → Prop}
    (kk : ∀ mOut' mWhose' mOpen' : Nat → Int32, WN mOut' mWhose' (60 * s + n) T.nd → (∀ y, y < 60 * s + n ∨ 60 * s + n + T.sz ≤ y → mOut' y = mOut y ∧ mWhose' y = mWhose y) → post (upd mWritten s (nI (n + T.sz))) mOut' mWhose' mOpen') :
    v_M_writeOut (nI s) (nI n) (nI u) mRule mOne mTwo mThree mWritten mOut mWhose mOpen post := by
  unfold v_M_writeOut
  rw [show (60 : Int32) = nI 60 from rfl, pk_mul, nI_clamp (show 60 * s < 2 ^ 31 by omega)]
  refine ⟨vp_in_nI (by omega) (by decide), T.sz + 1, ?_⟩
  refine ps_wloop hC hD hR hs T.sz n 1 T.nd mOut mWhose _ rfl hn ?_ kk
  exact ⟨u, T, [], pk_us, hV, h1, (List.append_nil _).symm, rfl⟩
/-- the lists are compared -/
theorem ps_c115 {mWritten mOut mWhose mOpen : Nat → Int32} {post : Int32 → (Nat → Int32) → (Nat → Int32) → (Nat → Int32) → (Nat → Int32) → Prop} :
    ∀ (x y : List Nat) (t : Nat), (∀ a, a ∈ x → a < 14) → (∀ a, a ∈ y → a < 14) → RN mOut t x → RN mOut (60 + t) y → mWritten 0 = nI (t + x.length) → mWritten 1 = nI (t + y.length) → t + x.length ≤ 60 → t + y.length ≤ 60 → pf x y →
      (lx x y = true → post 1 mWritten mOut mWhose mOpen) → (¬ lx x y = true → post 0 mWritten mOut mWhose mOpen) → v_M_comesBefore_L115 post mWritten mOut mWhose mOpen (x.length + 1) (nI t)
  | [], y, t, _, _, _, _, w0, w1, _, _, p, _, k0 => by
    unfold v_M_comesBefore_L115 v_M_comesBefore_B159
    rw [show (0 : Int32).toNatClampNeg = 0 from rfl, w0]
    have i0 : vp_in (0 : Int32) 2 := vp_in_nI (n := 0) (by decide) (by decide)
    have y0 : [] = y := p y [] (by simp)
    subst y0
    exact ⟨i0, br_t (Int32.le_refl _) ⟨i0, br_t (Int32.le_refl _) (k0 (lx_irr []))⟩⟩
  | a :: x, [], t, _, _, _, _, w0, w1, b0, _, p, _, k0 => by
    have y0 : a :: x = [] := p [] (a :: x) (by simp)
    exact absurd y0 (by simp)
  | a :: x, b :: y, t, hx, hy, rx, ry, w0, w1, b0, b1, p, k1, k0 => by
    have bx : a < 14 := hx a (by simp)
    have bY : b < 14 := hy b (by simp)
    rw [List.length_cons] at w0 w1 b0 b1
    unfold v_M_comesBefore_L115
    rw [show (0 : Int32).toNatClampNeg = 0 from rfl, show (1 : Int32).toNatClampNeg = 1 from rfl, w0, w1, show (60 : Int32) = nI 60 from rfl, nI_add, nI_clamp (show t < 2 ^ 31 by omega), nI_clamp (show 60 + t < 2 ^ 31 by omega), p_1]
    have e0 : mOut t = nI a := rx 0 a (by simp)
    have e1 : mOut (60 + t) = nI b := ry 0 b (by simp)
    rw [e0, e1]
    have i0 : vp_in (0 : Int32) 2 := vp_in_nI (n := 0) (by decide) (by decide)
    have i1 : vp_in (1 : Int32) 2 := vp_in_nI (n := 1) (by decide) (by decide)
    have n0 : ¬ nI (t + (x.length + 1)) ≤ nI t := fun z => by have := (nI_leI (by omega) (by omega)).mp z; omega
    have n1 : ¬ nI (t + (y.length + 1)) ≤ nI t := fun z => by have := (nI_leI (by omega) (by omega)).mp z; omega
    have it : vp_in (nI t) 120 := vp_in_nI (by omega) (by decide)
    have it6 : vp_in (nI (60 + t)) 120 := vp_in_nI (by omega) (by decide)
    refine ⟨i0, br_f n0 ⟨i1, br_f n1 ⟨it, it6, p_eq (by omega) (by omega) (fun e => ?_) (fun e => ?_)⟩⟩⟩
    · subst e
      refine ps_c115 x y (t + 1) (fun z hz => hx z (by simp [hz])) (fun z hz => hy z (by simp [hz])) (fun m z hz => ?_) (fun m z hz => ?_) (by rw [w0]; congr 1; omega) (by rw [w1]; congr 1; omega) (by omega) (by omega) p.tl (fun z => k1 ((lx_cons _ _ _ _).mpr (Or.inr ⟨rfl, z⟩))) (fun z => k0 fun q => ?_)
      · have := rx (m + 1) z (by rw [List.getElem?_cons_succ]; exact hz)
        rw [show t + 1 + m = t + (m + 1) by omega]
        exact this
      · have := ry (m + 1) z (by rw [List.getElem?_cons_succ]; exact hz)
        rw [show 60 + (t + 1) + m = 60 + t + (m + 1) by omega]
        exact this
      · rcases (lx_cons _ _ _ _).mp q with q | ⟨-, q⟩
        · exact absurd q (Nat.lt_irrefl _)
        · exact z q
    · unfold v_M_comesBefore_B159
      rw [show (0 : Int32).toNatClampNeg = 0 from rfl, show (1 : Int32).toNatClampNeg = 1 from rfl, w0, w1, show (60 : Int32) = nI 60 from rfl, nI_add, nI_clamp (show t < 2 ^ 31 by omega), nI_clamp (show 60 + t < 2 ^ 31 by omega), e0, e1]
      refine ⟨i0, br_f n0 ⟨i1, br_f n1 ⟨it, it6, p_le (by omega) (by omega) (fun z => k0 fun q => ?_) (fun z => k1 ((lx_cons _ _ _ _).mpr (Or.inl z)))⟩⟩⟩
      rcases (lx_cons _ _ _ _).mp q with q | ⟨q, -⟩
      · omega
      · exact e q
end MWR
