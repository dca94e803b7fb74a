/-! Trees by their weight and their rules in order; rows of at most eight of them. -/
def Tr : Type := Nat × List (Nat × Nat × Nat)
def Tr.leaf : Tr := (0, [])
def Tr.w (T : Tr) : Nat := T.1
def Tr.nd (T : Tr) : List (Nat × Nat × Nat) := T.2
def Tr.fl (T : Tr) : List Nat := T.nd.map (fun x => x.1)
def Tr.sz (T : Tr) : Nat := T.nd.length
/-- lists by their first difference -/
def lx : List Nat → List Nat → Bool
  | [], [] => false
  | [], _ :: _ => true
  | _ :: _, [] => false
  | a :: x, b :: y => decide (a < b) || (decide (a = b) && lx x y)
theorem lx_cons (a b : Nat) (x y : List Nat) : lx (a :: x) (b :: y) = true ↔ a < b ∨ (a = b ∧ lx x y = true) := by simp [lx]
theorem lx_irr : ∀ x : List Nat, ¬ lx x x = true
  | [] => by simp [lx]
  | a :: x => by rw [lx_cons]; rintro (h | ⟨-, h⟩); exact Nat.lt_irrefl _ h; exact lx_irr x h
theorem lx_asym : ∀ x y : List Nat, lx x y = true → ¬ lx y x = true
  | [], [] => by simp [lx]
  | [], _ :: _ => by simp [lx]
  | _ :: _, [] => by simp [lx]
  | a :: x, b :: y => by
    rw [lx_cons, lx_cons]
    rintro (h | ⟨e, h⟩) (h' | ⟨e', h'⟩)
    · omega
    · omega
    · omega
    · exact lx_asym x y h h'
/-- if z stands before x, every y stands behind z or before x -/
theorem lx_neg : ∀ z x y : List Nat, lx z x = true → lx z y = true ∨ lx y x = true
  | [], [], _ => by simp [lx]
  | [], _ :: _, [] => by intro _; right; simp [lx]
  | [], _ :: _, _ :: _ => by intro _; left; simp [lx]
  | _ :: _, [], _ => by simp [lx]
  | c :: z, a :: x, [] => by intro _; right; simp [lx]
  | c :: z, a :: x, b :: y => by
    rw [lx_cons, lx_cons, lx_cons]
    rintro (h | ⟨e, h⟩)
    · rcases Nat.lt_trichotomy c b with q | q | q
      · exact Or.inl (Or.inl q)
      · exact Or.inr (Or.inl (by omega))
      · exact Or.inr (Or.inl (by omega))
    · rcases Nat.lt_trichotomy c b with q | q | q
      · exact Or.inl (Or.inl q)
      · rcases lx_neg z x y h with g | g
        · exact Or.inl (Or.inr ⟨q, g⟩)
        · exact Or.inr (Or.inr ⟨by omega, g⟩)
      · exact Or.inr (Or.inl (by omega))
/-- neither begins with the other, unless they are the same -/
def pf (x y : List Nat) : Prop := ∀ u v, x ++ u = y ++ v → x = y
theorem pf.sym {x y : List Nat} (h : pf x y) : pf y x := fun u v e => (h v u e.symm).symm
theorem pf.tl {a : Nat} {x y : List Nat} (h : pf (a :: x) (a :: y)) : pf x y := fun u v e => by
  have := h u v (by rw [List.cons_append, List.cons_append, e])
  exact (List.cons.inj this).2
theorem pf_nil : pf [] [] := fun _ _ _ => rfl
theorem lx_app : ∀ x y : List Nat, pf x y → ∀ u v, (lx (x ++ u) (y ++ v) = true ↔ lx x y = true ∨ (x = y ∧ lx u v = true))
  | [], [], _, u, v => by simp [lx]
  | [], b :: y, h, u, v => by have := h (b :: y) [] (by simp); exact absurd this (by simp)
  | a :: x, [], h, u, v => by have := h [] (a :: x) (by simp); exact absurd this (by simp)
  | a :: x, b :: y, h, u, v => by
    rw [List.cons_append, List.cons_append, lx_cons, lx_cons]
    by_cases e : a = b
    · subst e
      rw [lx_app x y h.tl u v]
      constructor
      · rintro (q | ⟨-, q | ⟨q, q'⟩⟩)
        · exact absurd q (Nat.lt_irrefl _)
        · exact Or.inl (Or.inr ⟨rfl, q⟩)
        · exact Or.inr ⟨by rw [q], q'⟩
      · rintro ((q | ⟨-, q⟩) | ⟨q, q'⟩)
        · exact absurd q (Nat.lt_irrefl _)
        · exact Or.inr ⟨rfl, Or.inl q⟩
        · exact Or.inr ⟨rfl, Or.inr ⟨(List.cons.inj q).2, q'⟩⟩
    · constructor
      · rintro (q | ⟨q, -⟩)
        · exact Or.inl (Or.inl q)
        · exact absurd q e
      · rintro ((q | ⟨q, -⟩) | ⟨q, -⟩)
        · exact Or.inl q
        · exact absurd q e
        · exact absurd (List.cons.inj q).1 e
/-- T stands before T' -/
def bef (T T' : Tr) : Prop := T.w < T'.w ∨ (T.w = T'.w ∧ lx T.fl T'.fl = true)
noncomputable def befB (T T' : Tr) : Bool := @decide (bef T T') (Classical.propDecidable _)
theorem befB_t {T T' : Tr} : befB T T' = true ↔ bef T T' := @decide_eq_true_iff _ (Classical.propDecidable _)
theorem befB_f {T T' : Tr} : befB T T' = false ↔ ¬ bef T T' := @decide_eq_false_iff_not _ (Classical.propDecidable _)
/-- not behind -/
def tle (T T' : Tr) : Prop := ¬ bef T' T
theorem tle_rf (T : Tr) : tle T T := by rintro (h | ⟨-, h⟩); exact Nat.lt_irrefl _ h; exact lx_irr _ h
theorem bef_tle {T T' : Tr} (h : bef T T') : tle T T' := by
  rintro (h' | ⟨e', h'⟩) <;> rcases h with h | ⟨e, h⟩
  · omega
  · omega
  · omega
  · exact lx_asym _ _ h h'
theorem tle_tr {A B C : Tr} (h : tle A B) (h' : tle B C) : tle A C := by
  rintro (q | ⟨e, q⟩)
  · by_cases z : C.w < B.w
    · exact h' (Or.inl z)
    · exact h (Or.inl (by omega))
  · by_cases z : C.w < B.w
    · exact h' (Or.inl z)
    · by_cases z' : B.w < A.w
      · exact h (Or.inl z')
      · rcases lx_neg _ _ B.fl q with g | g
        · exact h' (Or.inr ⟨by omega, g⟩)
        · exact h (Or.inr ⟨by omega, g⟩)
theorem tle_iff {A B : Tr} : tle A B ↔ A.w ≤ B.w ∧ (A.w = B.w → ¬ lx B.fl A.fl = true) := by
  constructor
  · intro h
    exact ⟨Nat.le_of_not_lt fun q => h (Or.inl q), fun e q => h (Or.inr ⟨e.symm, q⟩)⟩
  · rintro ⟨h1, h2⟩ (q | ⟨e, q⟩)
    · omega
    · exact h2 e.symm q
/-- the tree of rule r over i .. j with these parts -/
def mkT (wt r i j : Nat) (a b c : Tr) : Tr := (wt + a.w + b.w + c.w, (r, i, j) :: (a.nd ++ b.nd ++ c.nd))
theorem mkT_fl (wt r i j : Nat) (a b c : Tr) : (mkT wt r i j a b c).fl = r :: (a.fl ++ (b.fl ++ c.fl)) := by simp [mkT, Tr.fl, Tr.nd]
theorem mkT_w (wt r i j : Nat) (a b c : Tr) : (mkT wt r i j a b c).w = wt + a.w + b.w + c.w := rfl
theorem mkT_sz (wt r i j : Nat) (a b c : Tr) : (mkT wt r i j a b c).sz = 1 + a.sz + b.sz + c.sz := by simp [mkT, Tr.sz, Tr.nd]; omega
/-- later parts make a later tree -/
theorem mkT_mono {wt r i j : Nat} {a b c a' b' c' : Tr} (pa : pf a'.fl a.fl) (pb : pf b'.fl b.fl) (pc : pf c'.fl c.fl) (ha : tle a a') (hb : tle b b') (hc : tle c c') : tle (mkT wt r i j a b c) (mkT wt r i j a' b' c') := by
  rw [tle_iff] at *
  rw [mkT_w, mkT_w, mkT_fl, mkT_fl, lx_cons, lx_app _ _ pa, lx_app _ _ pb]
  refine ⟨by omega, fun e => ?_⟩
  rintro (q | ⟨-, q | ⟨-, q | ⟨-, q⟩⟩⟩)
  · exact Nat.lt_irrefl _ q
  · exact ha.2 (by omega) q
  · exact hb.2 (by omega) q
  · exact hc.2 (by omega) q
/-- a row: how many, and which -/
def Row : Type := Nat × (Nat → Tr)
def Row.n (R : Row) : Nat := R.1
def Row.f (R : Row) : Nat → Tr := R.2
/-- the place of T, from behind -/
noncomputable def rkn (T : Tr) (f : Nat → Tr) : Nat → Nat
  | 0 => 0
  | n + 1 => if befB T (f n) then rkn T f n else n + 1
def put (T : Tr) (r : Nat) (R : Row) : Row := (min 8 (R.n + 1), fun q => if q < r then R.f q else if q = r then T else R.f (q - 1))
noncomputable def insR (T : Tr) (R : Row) : Row := if 8 ≤ rkn T R.f R.n then R else put T (rkn T R.f R.n) R
def Row.ok (R : Row) : Prop := R.n ≤ 8 ∧ ∀ p q, p < q → q < R.n → tle (R.f p) (R.f q)
theorem rkn_le (T : Tr) (f : Nat → Tr) : ∀ n, rkn T f n ≤ n
  | 0 => Nat.le_refl _
  | n + 1 => by
    unfold rkn
    by_cases h : befB T (f n) = true
    · rw [if_pos h]; exact Nat.le_succ_of_le (rkn_le T f n)
    · rw [if_neg h]; exact Nat.le_refl _
theorem rkn_hi (T : Tr) (f : Nat → Tr) : ∀ n q, rkn T f n ≤ q → q < n → bef T (f q)
  | 0, q, _, h => absurd h (Nat.not_lt_zero q)
  | n + 1, q, h1, h2 => by
    unfold rkn at h1
    by_cases h : befB T (f n) = true
    · rw [if_pos h] at h1
      by_cases e : q = n
      · rw [e]; exact befB_t.mp h
      · exact rkn_hi T f n q h1 (by omega)
    · rw [if_neg h] at h1; omega
theorem rkn_lo (T : Tr) (f : Nat → Tr) : ∀ n, 0 < rkn T f n → ¬ bef T (f (rkn T f n - 1))
  | 0, h => absurd h (Nat.lt_irrefl 0)
  | n + 1, h => by
    unfold rkn at h ⊢
    by_cases g : befB T (f n) = true
    · rw [if_pos g] at h ⊢; exact rkn_lo T f n h
    · rw [if_neg g]; exact fun z => g (befB_t.mpr z)
theorem rkn_sorted {T : Tr} {R : Row} (hR : R.ok) {q : Nat} (h : q < rkn T R.f R.n) : tle (R.f q) T := by
  have h1 := rkn_lo T R.f R.n (by omega)
  have h2 := rkn_le T R.f R.n
  by_cases e : q = rkn T R.f R.n - 1
  · rw [e]; exact h1
  · exact tle_tr (hR.2 q (rkn T R.f R.n - 1) (by omega) (by omega)) h1
theorem put_ok {T : Tr} {R : Row} (hR : R.ok) (h8 : rkn T R.f R.n < 8) : (put T (rkn T R.f R.n) R).ok := by
  refine ⟨Nat.min_le_left _ _, fun p q hpq hq => ?_⟩
  have hq2 : q < min 8 (R.n + 1) := hq
  have hle := rkn_le T R.f R.n
  show tle (if p < rkn T R.f R.n then R.f p else if p = rkn T R.f R.n then T else R.f (p - 1)) (if q < rkn T R.f R.n then R.f q else if q = rkn T R.f R.n then T else R.f (q - 1))
  by_cases p1 : p < rkn T R.f R.n
  · rw [if_pos p1]
    by_cases q1 : q < rkn T R.f R.n
    · rw [if_pos q1]; exact hR.2 p q hpq (by omega)
    · rw [if_neg q1]
      by_cases q2 : q = rkn T R.f R.n
      · rw [if_pos q2]; exact rkn_sorted hR p1
      · rw [if_neg q2]
        by_cases e : p = q - 1
        · omega
        · exact hR.2 p (q - 1) (by omega) (by omega)
  · rw [if_neg p1, if_neg (show ¬ q < rkn T R.f R.n by omega), if_neg (show ¬ q = rkn T R.f R.n by omega)]
    by_cases p2 : p = rkn T R.f R.n
    · rw [if_pos p2]; exact bef_tle (rkn_hi T R.f R.n (q - 1) (by omega) (by omega))
    · rw [if_neg p2]; exact hR.2 (p - 1) (q - 1) (by omega) (by omega)
theorem insR_ok {T : Tr} {R : Row} (hR : R.ok) : (insR T R).ok := by
  unfold insR
  by_cases h : 8 ≤ rkn T R.f R.n
  · rw [if_pos h]; exact hR
  · rw [if_neg h]; exact put_ok hR (by omega)
/-- the first m of the row are not behind X -/
def atl (X : Tr) (R : Row) (m : Nat) : Prop := m ≤ R.n ∧ ∀ q, q < m → tle (R.f q) X
theorem atl_le {X X' : Tr} {R : Row} {m : Nat} (h : tle X X') (ha : atl X R m) : atl X' R m := ⟨ha.1, fun q hq => tle_tr (ha.2 q hq) h⟩
theorem atl_ins {X T : Tr} {R : Row} {m : Nat} (hR : R.ok) (ha : atl X R m) : atl X (insR T R) m := by
  unfold insR
  by_cases h : 8 ≤ rkn T R.f R.n
  · rw [if_pos h]; exact ha
  · rw [if_neg h]
    obtain ⟨h1, h2⟩ := ha
    have h3 := hR.1
    refine ⟨show m ≤ min 8 (R.n + 1) by omega, fun q hq => ?_⟩
    show tle (if q < rkn T R.f R.n then R.f q else if q = rkn T R.f R.n then T else R.f (q - 1)) X
    by_cases q1 : q < rkn T R.f R.n
    · rw [if_pos q1]; exact h2 q hq
    · rw [if_neg q1]
      by_cases q2 : q = rkn T R.f R.n
      · rw [if_pos q2]; exact tle_tr (bef_tle (rkn_hi T R.f R.n q (by omega) (by omega))) (h2 q hq)
      · rw [if_neg q2]; exact h2 (q - 1) (by omega)
theorem atl_ins1 {X T : Tr} {R : Row} {m : Nat} (hR : R.ok) (hT : tle T X) (ha : atl X R m) : atl X (insR T R) (min 8 (m + 1)) := by
  obtain ⟨h1, h2⟩ := ha
  have h3 := hR.1
  have hle := rkn_le T R.f R.n
  unfold insR
  by_cases h : 8 ≤ rkn T R.f R.n
  · rw [if_pos h]
    exact ⟨by omega, fun q hq => tle_tr (rkn_sorted hR (by omega)) hT⟩
  · rw [if_neg h]
    refine ⟨show min 8 (m + 1) ≤ min 8 (R.n + 1) by omega, fun q hq => ?_⟩
    show tle (if q < rkn T R.f R.n then R.f q else if q = rkn T R.f R.n then T else R.f (q - 1)) X
    by_cases q1 : q < rkn T R.f R.n
    · rw [if_pos q1]; exact tle_tr (rkn_sorted hR q1) hT
    · rw [if_neg q1]
      by_cases q2 : q = rkn T R.f R.n
      · rw [if_pos q2]; exact hT
      · rw [if_neg q2]; exact h2 (q - 1) (by omega)
/-- no room -/
theorem rej_rk {X : Tr} {R : Row} (hR : R.ok) : 8 ≤ rkn X R.f R.n ↔ atl X R 8 := by
  have h3 := hR.1
  have hle := rkn_le X R.f R.n
  constructor
  · exact fun h => ⟨by omega, fun q hq => rkn_sorted hR (by omega)⟩
  · rintro ⟨h1, h2⟩
    refine Classical.byContradiction fun q => ?_
    exact h2 7 (by decide) (rkn_hi X R.f R.n 7 (by omega) (by omega))
theorem rej_ins {X : Tr} {R : Row} (hR : R.ok) (h : atl X R 8) : insR X R = R := by
  unfold insR
  rw [if_pos ((rej_rk hR).mpr h)]
