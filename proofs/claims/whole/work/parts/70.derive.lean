/-! What the trees of a cell are: prefix-free, small, not deep. -/
theorem pf_app {x x' y y' : List Nat} (h : pf x x') (h' : pf y y') : pf (x ++ y) (x' ++ y') := fun u v e => by
  rw [List.append_assoc, List.append_assoc] at e
  have e1 := h _ _ e
  rw [e1] at e
  have e2 := h' u v (List.append_cancel_left e)
  rw [e1, e2]
theorem pf_cons {a b : Nat} {x y : List Nat} (h : a = b → pf x y) : pf (a :: x) (b :: y) := fun u v e => by
  rw [List.cons_append, List.cons_append] at e
  have e1 := (List.cons.inj e).1
  rw [h e1 u v (List.cons.inj e).2, e1]
/-- T is a tree for l, at most d deep -/
def Gr.Dv (G : Gr) : Nat → Nat → Tr → Prop
  | 0, _, _ => False
  | d + 1, l, T => ∃ r i j a b c, r < G.k ∧ G.hd r = l ∧ T = mkT (G.wt r) r i j a b c ∧
      (if G.lb r 0 = true then G.Dv d (G.sy r 0 - 65) a else a = Tr.leaf) ∧ (if G.lb r 1 = true then G.Dv d (G.sy r 1 - 65) b else b = Tr.leaf) ∧ (if G.lb r 2 = true then G.Dv d (G.sy r 2 - 65) c else c = Tr.leaf)
section DRV
variable {G : Gr} {tk : Nat → Nat} {Tb : Tab} {ρ : Nat → Nat}
theorem ite_im {c : Bool} {A A' B : Prop} (h : A → A') (x : if c = true then A else B) : if c = true then A' else B := by
  cases c
  · exact x
  · exact h x
theorem Gr.Dv_up : ∀ d l T, G.Dv d l T → G.Dv (d + 1) l T
  | 0, _, _, h => h.elim
  | d + 1, l, T, h => by
    obtain ⟨r, i, j, a, b, c, h1, h2, h3, h4, h5, h6⟩ := h
    exact ⟨r, i, j, a, b, c, h1, h2, h3, ite_im (Gr.Dv_up d _ _) h4, ite_im (Gr.Dv_up d _ _) h5, ite_im (Gr.Dv_up d _ _) h6⟩
theorem Gr.Dv_le {d d' l : Nat} {T : Tr} (h : G.Dv d l T) (hd : d ≤ d') : G.Dv d' l T := by
  induction d' with
  | zero => rw [Nat.le_zero.mp hd] at h; exact h
  | succ d' ih =>
    by_cases e : d = d' + 1
    · rw [← e]; exact h
    · exact Gr.Dv_up d' l T (ih (by omega))
theorem Gr.Dv_pf : ∀ d d' l T T', G.Dv d l T → G.Dv d' l T' → pf T.fl T'.fl
  | 0, _, _, _, _, h, _ => h.elim
  | _ + 1, 0, _, _, _, _, h => h.elim
  | d + 1, d' + 1, l, T, T', h, h' => by
    obtain ⟨r, i, j, a, b, c, h1, h2, rfl, h4, h5, h6⟩ := h
    obtain ⟨r', i', j', a', b', c', g1, g2, rfl, g4, g5, g6⟩ := h'
    rw [mkT_fl, mkT_fl]
    refine pf_cons fun e => ?_
    subst e
    have key : ∀ (m : Nat) (x y : Tr), (if G.lb r m = true then G.Dv d (G.sy r m - 65) x else x = Tr.leaf) → (if G.lb r m = true then G.Dv d' (G.sy r m - 65) y else y = Tr.leaf) → pf x.fl y.fl := by
      intro m x y hx hy
      by_cases q : G.lb r m = true
      · rw [if_pos q] at hx hy
        exact Gr.Dv_pf d d' _ _ _ hx hy
      · rw [if_neg q] at hx hy
        rw [hx, hy]
        exact pf_nil
    exact pf_app (key 0 a a' h4 g4) (pf_app (key 1 b b' h5 g5) (key 2 c c' h6 g6))
/-- what holds for the trees of letter l over w tokens -/
def Gr.TP (G : Gr) (ρ : Nat → Nat) (w l : Nat) (T : Tr) : Prop := G.Dv (5 * (w - 1) + ρ l + 1) l T ∧ T.sz ≤ 10 * (w - 1) + ρ l + 1 ∧ 1 ≤ T.sz ∧ T.w ≤ 999 * T.sz
def Gr.PP (G : Gr) (ρ : Nat → Nat) (w r m : Nat) (a : Tr) : Prop := if G.lb r m = true then G.TP ρ w (G.sy r m - 65) a else a = Tr.leaf
theorem Gr.PP_f {w r m : Nat} {a : Tr} (h : G.PP ρ w r m a) (e : ¬ m < G.ln r) : a = Tr.leaf := by
  unfold Gr.PP at h
  rwa [if_neg (fun q => e (Gr.lb_iff.mp q).1)] at h
theorem leaf_sz : Tr.leaf.sz = 0 := rfl
theorem leaf_w : Tr.leaf.w = 0 := rfl
theorem leaf_nd : Tr.leaf.nd = [] := rfl
theorem Gr.PP_sz (hρ : G.Rk ρ) {w r m : Nat} {a : Tr} (h : G.PP ρ w r m a) : a.sz ≤ 10 * (w - 1) + 5 ∧ a.w ≤ 999 * a.sz := by
  unfold Gr.PP at h
  by_cases q : G.lb r m = true
  · rw [if_pos q] at h
    obtain ⟨-, q2, q3⟩ := Gr.lb_iff.mp q
    have := hρ.1 (G.sy r m - 65) (by omega)
    exact ⟨by have := h.2.1; omega, h.2.2.2⟩
  · rw [if_neg q] at h
    rw [h, leaf_sz, leaf_w]
    omega
theorem Gr.PP_dv (hρ : G.Rk ρ) {w r m d : Nat} {a : Tr} (h : G.PP ρ w r m a) (hd : G.lb r m = true → 5 * (w - 1) + ρ (G.sy r m - 65) + 1 ≤ d) : if G.lb r m = true then G.Dv d (G.sy r m - 65) a else a = Tr.leaf := by
  unfold Gr.PP at h
  by_cases q : G.lb r m = true
  · rw [if_pos q] at h ⊢
    exact Gr.Dv_le h.1 (hd q)
  · rw [if_neg q] at h ⊢
    exact h
theorem Gr.TP_mk (hw : G.WF) (hρ : G.Rk ρ) {r i j p q : Nat} (hr : r < G.k) (hu : G.us r = true) (hij : i < j) (hs : G.sp r i j p q) {a b c : Tr}
    (ha : G.PP ρ ((if G.ln r = 1 then j else p) - i) r 0 a) (hb : G.PP ρ ((if G.ln r = 2 then j else q) - p) r 1 b) (hc : G.PP ρ (j - q) r 2 c) : G.TP ρ (j - i) (G.hd r) (mkT (G.wt r) r i j a b c) := by
  obtain ⟨wh, w1, w3, wwt, wsy⟩ := hw.2 r hr
  have za := Gr.PP_sz hρ ha
  have zb := Gr.PP_sz hρ hb
  have zc := Gr.PP_sz hρ hc
  obtain ⟨s0, s1, s2⟩ := Gr.pc_sub hw hr hu hij hs
  have lift : ∀ x w', G.lb r x = true → 5 * w' + ρ (G.sy r x - 65) < 5 * (j - i) + ρ (G.hd r) → 0 < w' → 5 * (w' - 1) + ρ (G.sy r x - 65) + 1 ≤ 5 * (j - i - 1) + ρ (G.hd r) := by
    intro x w' _ h _
    omega
  have d0 := Gr.PP_dv (d := 5 * (j - i - 1) + ρ (G.hd r)) hρ ha fun e => lift 0 _ e (Gr.Sb_mu hρ (s0 e)) (by have := (s0 e).2.2.1; omega)
  have d1 := Gr.PP_dv (d := 5 * (j - i - 1) + ρ (G.hd r)) hρ hb fun e => lift 1 _ e (Gr.Sb_mu hρ (s1 e)) (by have := (s1 e).2.2.1; omega)
  have d2 := Gr.PP_dv (d := 5 * (j - i - 1) + ρ (G.hd r)) hρ hc fun e => lift 2 _ e (Gr.Sb_mu hρ (s2 e)) (by have := (s2 e).2.2.1; omega)
  refine ⟨⟨r, i, j, a, b, c, hr, rfl, rfl, d0, d1, d2⟩, ?_, by rw [mkT_sz]; omega, by rw [mkT_w, mkT_sz]; omega⟩
  rw [mkT_sz]
  rcases hs with e | ⟨e, h1, h2⟩ | ⟨e, h1, h2, h3⟩
  · rw [Gr.PP_f hb (by omega), Gr.PP_f hc (by omega), leaf_sz]
    unfold Gr.PP at ha
    by_cases q0 : G.lb r 0 = true
    · rw [if_pos q0, if_pos e] at ha
      have := hρ.2 r hr (G.sy r 0 - 65) (by have := (Gr.lb_iff.mp q0).2; omega) ⟨hu, e, by have := (Gr.lb_iff.mp q0).2; omega⟩
      have := ha.2.1
      omega
    · rw [if_neg q0] at ha
      rw [ha, leaf_sz]
      omega
  · rw [Gr.PP_f hc (by omega), leaf_sz]
    rw [if_neg (by omega)] at za
    rw [if_pos e] at zb
    omega
  · rw [if_neg (by omega)] at za zb
    omega
/-- what holds for a cell -/
def Gr.CP (G : Gr) (ρ : Nat → Nat) (l w : Nat) (S : Cell) : Prop := S.r.ok ∧ (S.c = 0 → S.r.n = 0) ∧ ∀ q, q < S.r.n → G.TP ρ w l (S.r.f q)
def Gr.QP (G : Gr) (ρ : Nat → Nat) (r m w : Nat) (S : Cell) : Prop := S.r.ok ∧ (S.c = 0 → S.r.n = 0) ∧ ∀ q, q < S.r.n → G.PP ρ w r m (S.r.f q)
theorem row_e_ok : Row.e.ok := ⟨Nat.zero_le _, fun _ q _ h => absurd h (Nat.not_lt_zero q)⟩
theorem row_o_ok : Row.o.ok := ⟨by decide, fun p q h1 h2 => by have : q < 1 := h2; omega⟩
theorem Gr.CP_e {l w : Nat} : G.CP ρ l w Cell.e := ⟨row_e_ok, fun _ => rfl, fun q h => absurd h (Nat.not_lt_zero q)⟩
theorem Gr.QP_pc {r m i j : Nat} (h : G.lb r m = true → G.CP ρ (G.sy r m - 65) (j - i) (Tb (G.sy r m - 65) i j)) : G.QP ρ r m (j - i) (G.pc tk Tb r m i j) := by
  unfold Gr.QP Gr.PP Gr.pc
  by_cases e : G.lb r m = true
  · simp only [if_pos e]
    exact h e
  · simp only [if_neg e]
    by_cases e1 : m < G.ln r ∧ ¬ (j = i + 1 ∧ tk i = G.sy r m)
    · rw [if_pos e1]
      exact ⟨row_e_ok, fun _ => rfl, fun q h => absurd h (Nat.not_lt_zero q)⟩
    · rw [if_neg e1]
      exact ⟨row_o_ok, fun h => absurd h (show ¬ (1 : Nat) = 0 by decide), fun q h => rfl⟩
theorem Gr.QP_pf {r m w : Nat} {S : Cell} (h : G.QP ρ r m w S) {a b : Nat} (ha : a < S.r.n) (hb : b < S.r.n) : pf (S.r.f a).fl (S.r.f b).fl := by
  have h1 := h.2.2 a ha
  have h2 := h.2.2 b hb
  unfold Gr.PP at h1 h2
  by_cases e : G.lb r m = true
  · rw [if_pos e] at h1 h2
    exact Gr.Dv_pf _ _ _ _ _ h1.1 h2.1
  · rw [if_neg e] at h1 h2
    rw [h1, h2]
    exact pf_nil
theorem Row.ok_le {R : Row} (h : R.ok) {a b : Nat} (hab : a ≤ b) (hb : b < R.n) : tle (R.f a) (R.f b) := by
  by_cases e : a = b
  · rw [e]; exact tle_rf _
  · exact h.2 a b (by omega) hb
theorem Gr.jr_mono {wt r i j w0 w1 w2 : Nat} {x y z : Cell} (hx : G.QP ρ r 0 w0 x) (hy : G.QP ρ r 1 w1 y) (hz : G.QP ρ r 2 w2 z) : cmono (fun a b c => mkT wt r i j (x.r.f a) (y.r.f b) (z.r.f c)) x.r.n y.r.n z.r.n := by
  intro a b c a' b' c' h1 h2 h3 h4 h5 h6
  exact mkT_mono (Gr.QP_pf hx h4 (by omega)) (Gr.QP_pf hy h5 (by omega)) (Gr.QP_pf hz h6 (by omega)) (Row.ok_le hx.1 h1 h4) (Row.ok_le hy.1 h2 h5) (Row.ok_le hz.1 h3 h6)
theorem insR_all {P : Tr → Prop} {X : Tr} {R : Row} (h : ∀ q, q < R.n → P (R.f q)) (hX : P X) : ∀ q, q < (insR X R).n → P ((insR X R).f q) := by
  intro q
  have hle := rkn_le X R.f R.n
  unfold insR
  by_cases e : 8 ≤ rkn X R.f R.n
  · rw [if_pos e]; exact h q
  · rw [if_neg e]
    intro hq
    have hq2 : q < min 8 (R.n + 1) := hq
    show P (if q < rkn X R.f R.n then R.f q else if q = rkn X R.f R.n then X else R.f (q - 1))
    by_cases q1 : q < rkn X R.f R.n
    · rw [if_pos q1]; exact h q (by omega)
    · rw [if_neg q1]
      by_cases q2 : q = rkn X R.f R.n
      · rw [if_pos q2]; exact hX
      · rw [if_neg q2]; exact h (q - 1) (by omega)
theorem cA_all {P : Tr → Prop} {mk : Nat → Nat → Nat → Tr} {A B C : Nat} (hm : ∀ a b c, a < A → b < B → c < C → P (mk a b c)) (R : Row) (h : ∀ q, q < R.n → P (R.f q)) : ∀ q, q < (cA mk A B C R).n → P ((cA mk A B C R).f q) :=
  itr_invb (P := fun R : Row => ∀ q, q < R.n → P (R.f q)) A (fun R a ha h => itr_invb (P := fun R : Row => ∀ q, q < R.n → P (R.f q)) B (fun R b hb h => itr_invb (P := fun R : Row => ∀ q, q < R.n → P (R.f q)) C (fun R c hc h => insR_all h (hm a b c ha hb hc)) R h) R h) R h
theorem itr_id {α : Type} {f : α → Nat → α} {s : α} (h : ∀ t, f s t = s) : ∀ n, itr f n s = s
  | 0 => rfl
  | n + 1 => by show f (itr f n s) n = s; rw [itr_id h n, h]
theorem cA_nil {mk : Nat → Nat → Nat → Tr} {A B C : Nat} (h : A = 0 ∨ B = 0 ∨ C = 0) (R : Row) : cA mk A B C R = R := by
  rcases h with e | e | e
  · rw [e]; rfl
  · rw [e]; exact itr_id (fun _ => rfl) A
  · rw [e]; exact itr_id (fun a => itr_id (f := fun R b => cR mk a b 0 R) (fun _ => rfl) B) A
theorem Gr.CP_jn (hw : G.WF) (hρ : G.Rk ρ) {r i j p q : Nat} (hr : r < G.k) (hu : G.us r = true) (hij : i < j) (hs : G.sp r i j p q) {x y z S : Cell}
    (hx : G.QP ρ r 0 ((if G.ln r = 1 then j else p) - i) x) (hy : G.QP ρ r 1 ((if G.ln r = 2 then j else q) - p) y) (hz : G.QP ρ r 2 (j - q) z) (hS : G.CP ρ (G.hd r) (j - i) S) : G.CP ρ (G.hd r) (j - i) (jn (G.wt r) r i j x y z S) := by
  refine ⟨cA_ok hS.1, fun h => ?_, ?_⟩
  · have h' : S.c + x.c * y.c * z.c = 0 := h
    have h0 : x.c * y.c * z.c = 0 := by omega
    have : x.r.n = 0 ∨ y.r.n = 0 ∨ z.r.n = 0 := by
      rcases Nat.mul_eq_zero.mp h0 with e | e
      · rcases Nat.mul_eq_zero.mp e with e | e
        · exact Or.inl (hx.2.1 e)
        · exact Or.inr (Or.inl (hy.2.1 e))
      · exact Or.inr (Or.inr (hz.2.1 e))
    show (cA _ _ _ _ S.r).n = 0
    rw [cA_nil this]
    exact hS.2.1 (by omega)
  · exact cA_all (fun a b c ha hb hc => Gr.TP_mk hw hρ hr hu hij hs (hx.2.2 a ha) (hy.2.2 b hb) (hz.2.2 c hc)) S.r hS.2.2
/-- the parts of a rule are as they must be when the cells are -/
theorem Gr.QP_parts (hw : G.WF) {r i j p q : Nat} (hr : r < G.k) (hu : G.us r = true) (hij : i < j) (hs : G.sp r i j p q) (h : ∀ x i' j', G.Sb (G.hd r) i j x i' j' → G.CP ρ x (j' - i') (Tb x i' j')) :
    G.QP ρ r 0 ((if G.ln r = 1 then j else p) - i) (G.pc tk Tb r 0 i (if G.ln r = 1 then j else p)) ∧ G.QP ρ r 1 ((if G.ln r = 2 then j else q) - p) (G.pc tk Tb r 1 p (if G.ln r = 2 then j else q)) ∧ G.QP ρ r 2 (j - q) (G.pc tk Tb r 2 q j) := by
  obtain ⟨s0, s1, s2⟩ := Gr.pc_sub hw hr hu hij hs
  exact ⟨Gr.QP_pc fun e => h _ _ _ (s0 e), Gr.QP_pc fun e => h _ _ _ (s1 e), Gr.QP_pc fun e => h _ _ _ (s2 e)⟩
theorem Gr.CP_jr (hw : G.WF) (hρ : G.Rk ρ) {r i j p q : Nat} (hr : r < G.k) (hu : G.us r = true) (hij : i < j) (hs : G.sp r i j p q) (h : ∀ x i' j', G.Sb (G.hd r) i j x i' j' → G.CP ρ x (j' - i') (Tb x i' j')) {S : Cell} (hS : G.CP ρ (G.hd r) (j - i) S) : G.CP ρ (G.hd r) (j - i) (G.jr tk Tb r i j p q S) := by
  obtain ⟨a, b, c⟩ := Gr.QP_parts (tk := tk) hw hr hu hij hs h
  exact Gr.CP_jn hw hρ hr hu hij hs a b c hS
theorem Gr.CP_ap (hw : G.WF) (hρ : G.Rk ρ) {r i j : Nat} (hr : r < G.k) (hu : G.us r = true) (hij : i < j) (h : ∀ x i' j', G.Sb (G.hd r) i j x i' j' → G.CP ρ x (j' - i') (Tb x i' j')) {S : Cell} (hS : G.CP ρ (G.hd r) (j - i) S) : G.CP ρ (G.hd r) (j - i) (G.ap tk Tb r i j S) :=
  Gr.ap_inv (hw.2 r hr).2.2.1 (hw.2 r hr).2.1 (fun _ _ _ hs hS => Gr.CP_jr hw hρ hr hu hij hs h hS) S hS
theorem Gr.CP_cf (hw : G.WF) (hρ : G.Rk ρ) {l i j m : Nat} (hm : m ≤ G.k) (hij : i < j) (h : ∀ x i' j', G.Sb l i j x i' j' → G.CP ρ x (j' - i') (Tb x i' j')) : G.CP ρ l (j - i) (G.cf tk Tb l i j m) := by
  refine itr_invb (P := G.CP ρ l (j - i)) m (fun S r hr hS => ?_) _ Gr.CP_e
  show G.CP ρ l (j - i) (if G.us r = true ∧ G.hd r = l then G.ap tk Tb r i j S else S)
  by_cases e : G.us r = true ∧ G.hd r = l
  · rw [if_pos e]
    obtain ⟨e1, rfl⟩ := e
    exact Gr.CP_ap hw hρ (by omega) e1 hij h hS
  · rw [if_neg e]; exact hS
theorem Gr.CP_tb (hw : G.WF) (hρ : G.Rk ρ) : ∀ m l i j, i < j → G.CP ρ l (j - i) (G.tb tk m l i j) := by
  intro m
  induction m with
  | zero => intros; exact Gr.CP_e
  | succ m ih => intro l i j hij; exact Gr.CP_cf hw hρ (Nat.le_refl _) hij fun x i' j' h => ih x i' j' h.2.2.1
theorem Gr.CP_T (hw : G.WF) (hρ : G.Rk ρ) {l i j : Nat} (hij : i < j) : G.CP ρ l (j - i) (G.T tk l i j) := Gr.CP_tb hw hρ 40 l i j hij
end DRV
