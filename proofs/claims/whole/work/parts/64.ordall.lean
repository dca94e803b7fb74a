/-! orderUseful: an order, or a letter that comes to itself. -/
/-- the settled letters S, their places ρ, the rules that are ordered -/
def Gr.oI (G : Gr) (S : Nat → Bool) (ρ : Nat → Nat) (D : Nat) (od : Nat → Nat) : Prop :=
  (∀ l, l < 5 → S l = true → ρ l < cd5 S) ∧ (∀ l l', l < 5 → l' < 5 → S l = true → S l' = true → ρ l = ρ l' → l = l') ∧
  (∀ i, i < G.k → S (G.hd i) = true → ∀ x, x < 5 → G.uni i x → S x = true ∧ ρ x < ρ (G.hd i)) ∧
  (∀ t, t < D → od t < G.k ∧ G.us (od t) = true ∧ S (G.hd (od t)) = true) ∧
  (∀ i, i < G.k → G.us i = true → S (G.hd i) = true → ∃ t, t < D ∧ od t = i) ∧
  (∀ t t', t < t' → t' < D → ρ (G.hd (od t)) < ρ (G.hd (od t')) ∨ (G.hd (od t) = G.hd (od t') ∧ od t < od t')) ∧
  D = cnt (fun i => G.us i && S (G.hd i)) G.k
/-- the whole order -/
def Gr.Od (G : Gr) (ρ : Nat → Nat) (D : Nat) (od : Nat → Nat) : Prop :=
  D ≤ 14 ∧ (∀ l, l < 5 → ρ l < 5) ∧ (∀ l l', l < 5 → l' < 5 → ρ l = ρ l' → l = l') ∧
  (∀ i, i < G.k → ∀ x, x < 5 → G.uni i x → ρ x < ρ (G.hd i)) ∧
  (∀ t, t < D → od t < G.k ∧ G.us (od t) = true) ∧
  (∀ i, i < G.k → G.us i = true → ∃ t, t < D ∧ od t = i) ∧
  (∀ t t', t < t' → t' < D → ρ (G.hd (od t)) < ρ (G.hd (od t')) ∨ (G.hd (od t) = G.hd (od t') ∧ od t < od t'))
/-- letters that come to each other without end -/
def Gr.Cy (G : Gr) : Prop := ∃ U : Nat → Bool, (∃ l, l < 5 ∧ U l = true) ∧ ∀ l, l < 5 → U l = true → ∃ i x, i < G.k ∧ x < 5 ∧ G.hd i = l ∧ G.uni i x ∧ U x = true
def Gr.ss (G : Gr) (S : Nat → Bool) (l : Nat) : Nat → Bool := ad5 S (sb5 (G.al l) S) (one5 l)
theorem cd5_one {S : Nat → Bool} {l : Nat} (hl : l < 5) (h : S l = false) : cd5 (fun x => S x || one5 l x) = cd5 S + 1 := by
  have q : ∀ a b c d e : Bool, ∀ l : Nat, l < 5 → (if l = 0 then a else if l = 1 then b else if l = 2 then c else if l = 3 then d else e) = false → ((a || one5 l 0).toNat + (b || one5 l 1).toNat + (c || one5 l 2).toNat + (d || one5 l 3).toNat + (e || one5 l 4).toNat) = (a.toNat + b.toNat + c.toNat + d.toNat + e.toNat) + 1 := by decide
  refine q (S 0) (S 1) (S 2) (S 3) (S 4) l hl ?_
  rcases lt5 hl with rfl | rfl | rfl | rfl | rfl <;> exact h
section OA
variable {G : Gr}
theorem ps_orderUseful (hw : G.WF) {gH gS gL gW gU gO : Nat → Int32} {gD : Int32} (hc : G.c gH gS gL gW) (hu : ∀ i, i < G.k → gU i = b2 (G.us i)) {post : Int32 → Int32 → (Nat → Int32) → Prop}
    (k1 : ∀ (ρ : Nat → Nat) (D : Nat) (od : Nat → Nat) (o' : Nat → Int32), G.Od ρ D od → (∀ t, t < D → o' t = nI (od t)) → post 1 (nI D) o') (k0 : G.Cy → ∀ d o', post 0 d o') : v_Grammar_orderUseful (nI G.k) gD gH gS gL gU gO post := by
  have hk := hw.1
  have hd5 : ∀ {i}, i < G.k → G.hd i < 5 := fun hi => (hw.2 _ hi).1
  let X : Nat → Nat → Bool := fun t => itr (fun X _ => itr G.ss 5 X) t (fun _ => false)
  have D14 : ∀ {S : Nat → Bool}, cnt (fun i => G.us i && S (G.hd i)) G.k ≤ 14 := Nat.le_trans (cnt_m _ _) hk
  unfold v_Grammar_orderUseful
  refine lp4 (W := fun f a b c d => v_Grammar_orderUseful_L9 post (nI G.k) gH gS gL gU f a b c d) (I := fun x1 x2 gD o' => ∃ (t : Nat) (ρ : Nat → Nat) (D : Nat) (od : Nat → Nat), t ≤ 5 ∧ x1 = bms (X t) ∧ x2 = nI t ∧ gD = nI D ∧ G.oI (X t) ρ D od ∧ (∀ t, t < D → o' t = nI (od t))) (μ := fun _ x2 _ _ => 9 - x2.toNatClampNeg) ?_ 0 0 0 gO ⟨0, fun _ => 0, 0, fun _ => 0, by omega, bms_0.symm, nI_0.symm, nI_0.symm, ⟨fun l _ h => absurd h (by simp [X, itr]), fun l l' _ _ h => absurd h (by simp [X, itr]), fun i _ h => absurd h (by simp [X, itr]), fun t ht => absurd ht (Nat.not_lt_zero t), fun i _ _ h => absurd h (by simp [X, itr]), fun t t' _ ht => absurd ht (Nat.not_lt_zero t'), ?_⟩, fun t ht => absurd ht (Nat.not_lt_zero t)⟩
  rotate_left
  · have : ∀ m, cnt (fun i => G.us i && X 0 (G.hd i)) m = 0 := by
      intro m
      induction m with
      | zero => rfl
      | succ m ih => unfold cnt; rw [ih]; simp [X, itr]
    exact (this _).symm
  rintro f x1 x2 gD o' ⟨t, ρ, D, od, ht, rfl, rfl, rfl, hI, hO⟩ ih
  show v_Grammar_orderUseful_L9 post (nI G.k) gH gS gL gU (f + 1) _ _ _ _
  unfold v_Grammar_orderUseful_L9
  refine p_le (a := 5) (by decide) (by omega) (fun h => ?_) (fun h => ?_)
  · have e : t = 5 := by omega
    subst e
    rw [bms_all]
    refine ⟨fun hall => k1 ρ D od o' ?_ hO, fun hno => k0 ?_ _ _⟩
    · obtain ⟨i1, i2, i3, i4, i5, i6, i7⟩ := hI
      refine ⟨by rw [i7]; exact D14, fun l hl => Nat.lt_of_lt_of_le (i1 l hl (hall l hl)) (cd5_le _), fun l l' hl hl' => i2 l l' hl hl' (hall l hl) (hall l' hl'), fun i hi x hx hx' => (i3 i hi (hall _ (hd5 hi)) x hx hx').2, fun t ht => ⟨(i4 t ht).1, (i4 t ht).2.1⟩, fun i hi hus => i5 i hi hus (hall _ (hd5 hi)), i6⟩
    · have cl : ∀ l, l < 5 → G.ss (X 5) l = X 5 := rnd_end (k := 5) (st := G.ss) (fun S l hl q => ad5_grow (fun x hx => by
        have : x = l := by simpa [one5] using hx
        omega) q) _ (by omega)
      refine ⟨fun l => !X 5 l, ?_, fun l hl hU => ?_⟩
      · refine Classical.byContradiction fun q => hno fun l hl => ?_
        cases e : X 5 l with
        | true => rfl
        | false => exact absurd ⟨l, hl, by show (!X 5 l) = true; rw [e]; rfl⟩ q
      · have hU' : X 5 l = false := by
          cases e : X 5 l with
          | false => rfl
          | true => have hU2 : (!X 5 l) = true := hU
                    rw [e] at hU2; exact absurd hU2 (by decide)
        have c := congrFun (cl l hl) l
        have hs : sb5 (G.al l) (X 5) = false := by
          cases e : sb5 (G.al l) (X 5) with
          | false => rfl
          | true =>
            unfold Gr.ss at c
            rw [e, ad5_t] at c
            have : X 5 l = true := by rw [← c]; simp [one5]
            rw [hU'] at this
            exact absurd this (by decide)
        have : ∃ x, x < 5 ∧ G.al l x = true ∧ X 5 x = false := Classical.byContradiction fun q => by
          have : sb5 (G.al l) (X 5) = true := (sb5_iff _ _).mpr fun x hx hal => by
            cases e : X 5 x with
            | true => rfl
            | false => exact absurd ⟨x, hx, hal, e⟩ q
          rw [hs] at this
          exact absurd this (by decide)
        obtain ⟨x, hx, hal, hx0⟩ := this
        obtain ⟨i, hi, e1, e2⟩ := (Gr.alm_iff hx).mp hal
        exact ⟨i, x, hi, hx, e1, e2, by show (!X 5 x) = true; rw [hx0]; rfl⟩
  refine lp4 (W := fun f' a b c d => v_Grammar_orderUseful_L17 (v_Grammar_orderUseful_L9 post (nI G.k) gH gS gL gU f) (nI G.k) gH gS gL gU (nI t) f' a b c d) (I := fun x1 x3 gD o' => ∃ (m : Nat) (ρ : Nat → Nat) (D : Nat) (od : Nat → Nat), m ≤ 5 ∧ x1 = bms (itr G.ss m (X t)) ∧ x3 = nI (65 + m) ∧ gD = nI D ∧ G.oI (itr G.ss m (X t)) ρ D od ∧ (∀ t, t < D → o' t = nI (od t))) (μ := fun _ x3 _ _ => 99 - x3.toNatClampNeg) ?_ _ 65 _ o' ⟨0, ρ, D, od, by omega, rfl, rfl, rfl, hI, hO⟩
  clear hI hO
  rintro f' x1 x3 gD o' ⟨m, ρ, D, od, hm, rfl, rfl, rfl, hI, hO⟩ ih'
  show v_Grammar_orderUseful_L17 _ (nI G.k) gH gS gL gU (nI t) (f' + 1) _ _ _ _
  unfold v_Grammar_orderUseful_L17
  rw [p_1, p_1]
  refine p_le (a := 70) (by decide) (by omega) (fun h' => ?_) (fun h' => ?_)
  · have e : m = 5 := by omega
    subst e
    exact ih _ _ _ _ ⟨t + 1, ρ, D, od, by omega, rfl, rfl, rfl, hI, hO⟩ (p_mu (by omega) (by decide) rfl)
  have hm5 : m < 5 := by omega
  have hmu := p_mu (M := 99) (a := 65 + m) (by omega) (by decide) rfl
  have step : itr G.ss (m + 1) (X t) = ad5 (itr G.ss m (X t)) (sb5 (G.al m) (itr G.ss m (X t))) (one5 m) := rfl
  refine ps_bitOf hm5 ?_
  rw [bms_bit _ hm5]
  refine ⟨fun hno => ps_aloneUnder hw hc hu hm5 ?_, fun hyes => ?_⟩
  rotate_left
  · rw [Bool.not_eq_false] at hyes
    have e : itr G.ss (m + 1) (X t) = itr G.ss m (X t) := by
      rw [step]
      funext x
      unfold ad5 one5
      by_cases ex : x = m
      · rw [ex, hyes, Bool.true_or]
      · rw [beq_eq_false_iff_ne.mpr ex, Bool.and_false, Bool.or_false]
    exact ih' _ _ _ _ ⟨m + 1, ρ, D, od, by omega, by rw [e], rfl, rfl, by rw [e]; exact hI, hO⟩ hmu
  rw [bms_sub]
  refine ⟨fun hs => ps_bitOf hm5 ?_, fun hs => ?_⟩
  rotate_left
  · rw [Bool.not_eq_true] at hs
    have e : itr G.ss (m + 1) (X t) = itr G.ss m (X t) := by rw [step, hs, ad5_f]
    exact ih' _ _ _ _ ⟨m + 1, ρ, D, od, by omega, by rw [e], rfl, rfl, by rw [e]; exact hI, hO⟩ hmu
  have e : itr G.ss (m + 1) (X t) = fun x => itr G.ss m (X t) x || one5 m x := by rw [step, hs, ad5_t]
  rw [bms_or, ← e]
  have eS : ∀ x, itr G.ss (m + 1) (X t) x = (itr G.ss m (X t) x || one5 m x) := fun x => congrFun e x
  have ecd : cd5 (itr G.ss (m + 1) (X t)) = cd5 (itr G.ss m (X t)) + 1 := by rw [e]; exact cd5_one hm5 hno
  clear step e
  generalize hS'e : itr G.ss (m + 1) (X t) = S' at *
  generalize itr G.ss m (X t) = S at *
  have eSm : S' m = true := by rw [eS]; simp [one5]
  have eSx : ∀ x, x ≠ m → S' x = S x := fun x hx => by
    have : one5 m x = false := beq_eq_false_iff_ne.mpr hx
    rw [eS, this, Bool.or_false]
  clear eS
  obtain ⟨i1, i2, i3, i4, i5, i6, i7⟩ := hI
  have hadd := cnt_add (P := fun i => G.us i && S (G.hd i)) (Q := fun i => G.us i && G.hd i == m) (R := fun i => G.us i && S' (G.hd i)) (fun i => by
    show (G.us i && S' (G.hd i)).toNat = (G.us i && S (G.hd i)).toNat + (G.us i && G.hd i == m).toNat
    cases hus : G.us i with
    | false => rfl
    | true =>
      by_cases eh : G.hd i = m
      · rw [eh, hno, eSm]; simp
      · rw [beq_eq_false_iff_ne.mpr eh, eSx _ eh]; simp) G.k
  have hb : cnt (fun i => G.us i && S' (G.hd i)) G.k ≤ 14 := Nat.le_trans (cnt_m _ _) hk
  obtain ⟨ρ', r1, r2⟩ : ∃ ρ' : Nat → Nat, ρ' m = cd5 S ∧ ∀ x, x ≠ m → ρ' x = ρ x := ⟨fun x => if x = m then cd5 S else ρ x, by simp, fun x hx => by simp [hx]⟩
  refine ps_appendUseful hw hc hu hm5 hO (by omega) (fun D' od' o2 eD' a1 a2 a3 a4 a5 => ?_)
  suffices hh : G.oI S' ρ' D' od' from ih' _ _ _ _ ⟨m + 1, ρ', D', od', by omega, by rw [hS'e], rfl, rfl, by rw [hS'e]; exact hh, a1⟩ hmu
  have S1 : ∀ x, S' x = true → x ≠ m → S x = true := fun x h1 h2 => by rw [← eSx x h2]; exact h1
  have Sm : ∀ x, S x = true → x ≠ m := fun x h1 h2 => by rw [h2, hno] at h1; exact absurd h1 (by decide)
  have Sp : ∀ x, S x = true → S' x = true := fun x h1 => by rw [eSx x (Sm x h1)]; exact h1
  have rS : ∀ x, S x = true → ρ' x = ρ x := fun x hx => r2 x (Sm x hx)
  refine ⟨fun l hl hS => ?_, fun l l' hl hl' hS hS' he => ?_, fun i hi hS x hx hux => ?_, fun t' ht' => ?_, fun i hi hus hS => ?_, fun t1 t2 h12 h2D => ?_, by omega⟩
  · by_cases el : l = m
    · rw [el, r1]; omega
    · rw [r2 l el]; have := i1 l hl (S1 l hS el); omega
  · by_cases el : l = m <;> by_cases el' : l' = m
    · omega
    · rw [el, r1, r2 l' el'] at he; have := i1 l' hl' (S1 l' hS' el'); omega
    · rw [el', r1, r2 l el] at he; have := i1 l hl (S1 l hS el); omega
    · rw [r2 l el, r2 l' el'] at he; exact i2 l l' hl hl' (S1 l hS el) (S1 l' hS' el') he
  · by_cases eh : G.hd i = m
    · have : G.al m x = true := (Gr.alm_iff hx).mpr ⟨i, hi, eh, hux⟩
      have hSx := (sb5_iff _ _).mp hs x hx this
      refine ⟨Sp x hSx, ?_⟩
      rw [eh, r1, rS x hSx]
      exact i1 x hx hSx
    · obtain ⟨y1, y2⟩ := i3 i hi (S1 _ hS eh) x hx hux
      exact ⟨Sp x y1, by rw [r2 _ eh, rS x y1]; exact y2⟩
  · by_cases q : t' < D
    · rw [a2 t' q]
      obtain ⟨y1, y2, y3⟩ := i4 t' q
      exact ⟨y1, y2, Sp _ y3⟩
    · obtain ⟨y1, y2, y3⟩ := a3 t' (by omega) ht'
      exact ⟨y1, y2, by rw [y3]; exact eSm⟩
  · by_cases eh : G.hd i = m
    · obtain ⟨t', z1, z2, z3⟩ := a5 i hi hus eh
      exact ⟨t', z2, z3⟩
    · obtain ⟨t', z1, z2⟩ := i5 i hi hus (S1 _ hS eh)
      exact ⟨t', by omega, by rw [a2 t' z1]; exact z2⟩
  · by_cases q2 : t2 < D
    · have q1 : t1 < D := by omega
      rw [a2 t1 q1, a2 t2 q2, rS _ (i4 t1 q1).2.2, rS _ (i4 t2 q2).2.2]
      exact i6 t1 t2 h12 q2
    · obtain ⟨y1, y2, y3⟩ := a3 t2 (by omega) h2D
      by_cases q1 : t1 < D
      · left
        rw [a2 t1 q1, rS _ (i4 t1 q1).2.2, y3, r1]
        exact i1 _ (hd5 (i4 t1 q1).1) (i4 t1 q1).2.2
      · right
        obtain ⟨z1, z2, z3⟩ := a3 t1 (by omega) (by omega)
        exact ⟨by rw [y3, z3], a4 t1 t2 (by omega) h12 h2D⟩
end OA
