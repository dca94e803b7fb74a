/-! The class finds a rule of a tree and its span. -/
theorem tri_t : ∀ j, j < 7 → (nI j * (nI j - (1 : Int32))) / (2 : Int32) = nI (j * (j - 1) / 2) := by decide +kernel
theorem tri_m : ∀ j, j < 7 → ∀ i, i < j → ∀ t, t < 7 → 0 < t → (j * (j - 1) / 2 + i < (t + 1) * t / 2 ↔ j ≤ t) := by
  intro j hj i hi t ht h0
  rcases (show j = 1 ∨ j = 2 ∨ j = 3 ∨ j = 4 ∨ j = 5 ∨ j = 6 by omega) with rfl | rfl | rfl | rfl | rfl | rfl <;> rcases (show t = 1 ∨ t = 2 ∨ t = 3 ∨ t = 4 ∨ t = 5 ∨ t = 6 by omega) with rfl | rfl | rfl | rfl | rfl | rfl <;> omega
theorem cxc_span {x i j q : Nat} (hx : x < 5) (hq : q < 8) : (8 * cxc x i j + q) / 40 = j * (j - 1) / 2 + i := by
  unfold cxc
  omega
theorem ps_toOf {x i j q : Nat} (hx : x < 5) (hij : i < j) (hj : j ≤ 6) (hq : q < 8) {post : Int32 → Prop} (k : post (nI j)) : v_RT_toOf (nI (8 * cxc x i j + q)) post := by
  have hX := cxc_lt hx hij hj
  have hs := cxc_t j (by omega) i hij
  unfold v_RT_toOf
  rw [show (40 : Int32) = nI 40 from rfl, pk_div (by omega) (by decide) (by decide), cxc_span hx hq]
  have lp : ∀ (d t : Nat), t + d = j → 0 < t → v_RT_toOf_L7 post (nI (j * (j - 1) / 2 + i)) (d + 1) (nI t) := by
    intro d
    induction d with
    | zero =>
      intro t ht h0
      have : t = j := by omega
      subst this
      unfold v_RT_toOf_L7
      refine p_le (a := 6) (by decide) (by omega) (fun _ => k) (fun h => ?_)
      unfold v_RT_spansBefore
      rw [p_1, tri_t (t + 1) (by omega)]
      exact br_t ((nI_ltI (by omega) (by have := cxc_t (t + 1) (by omega) 0 (by omega); omega)).mpr (by have := (tri_m t (by omega) i hij t (by omega) h0).mpr (Nat.le_refl _); rw [Nat.add_sub_cancel]; exact this)) k
    | succ d ih =>
      intro t ht h0
      unfold v_RT_toOf_L7
      refine br_f (show ¬ nI 6 ≤ nI t from fun z => by have := (nI_leI (by decide) (by omega)).mp z; omega) ?_
      unfold v_RT_spansBefore
      rw [p_1, tri_t (t + 1) (by omega)]
      refine br_f (fun z => ?_) (ih (t + 1) (by omega) (by omega))
      have z1 := (nI_ltI (by omega) (by have := cxc_t (t + 1) (by omega) 0 (by omega); omega)).mp z
      rw [Nat.add_sub_cancel] at z1
      have := (tri_m j (by omega) i hij t (by omega) h0).mp z1
      omega
  exact ⟨j - 1 + 1, lp (j - 1) 1 (by omega) (by decide)⟩
theorem ps_fromOf {x i j q : Nat} (hx : x < 5) (hij : i < j) (hj : j ≤ 6) (hq : q < 8) {post : Int32 → Prop} (k : post (nI i)) : v_RT_fromOf (nI (8 * cxc x i j + q)) post := by
  have hX := cxc_lt hx hij hj
  unfold v_RT_fromOf
  refine ps_toOf hx hij hj hq ?_
  unfold v_RT_spansBefore
  rw [tri_t j (by omega), show (40 : Int32) = nI 40 from rfl, pk_div (by omega) (by decide) (by decide), cxc_span hx hq]
  show post (nI (j * (j - 1) / 2 + i) - nI (j * (j - 1) / 2))
  rw [pk_sub (by omega), Nat.add_sub_cancel_left]
  exact k
section PAT
variable {G : Gr} {Tb : Tab} {ρ : Nat → Nat} {fO fW fZ fC : Nat → Int32} {D : Nat → Nat → Nat → Prop}
/-- the last c of three lists of nodes -/
def tln (P : Nat → List (Nat × Nat × Nat)) : Nat → List (Nat × Nat × Nat)
  | 0 => []
  | c + 1 => P (2 - c) ++ tln P c
theorem ps_partAt (hC : ∀ x i j, i < j → G.CP ρ x (j - i) (Tb x i j)) (hρ : G.Rk ρ) (hD : G.Dc D) (hR : G.cER Tb fO fW fZ fC D) {post : Int32 → Prop} :
    ∀ (f n l i j q : Nat), D l i j → q < (Tb l i j).r.n → n < ((Tb l i j).r.f q).sz → n < f →
      (∀ x i' j' q' r', x < 5 → i' < j' → j' ≤ 6 → q' < 8 → r' < G.k → fO (8 * cxc x i' j' + q') = nI r' → ((Tb l i j).r.f q).nd[n]? = some (r', i', j') → post (nI (8 * cxc x i' j' + q'))) → v_Forest_partAt_L5 post fZ fC f (nI (8 * cxc l i j + q)) (nI n) := by
  intro f
  induction f with
  | zero => intro n l i j q _ _ _ h; omega
  | succ f ih =>
    intro n l i j q hd hq hn hnf kk
    obtain ⟨hl, hij, hj, hE⟩ := hR l i j hd
    have hX := cxc_lt hl hij hj
    have h8 := (hC l i j hij).1.1
    obtain ⟨⟨r, a, b, c, hr, hru, hrl, eT, eO, -, c0, c1, c2⟩, -⟩ := hE q hq
    have szT := (Gr.TP_w hρ hl (show j - i ≤ 6 by omega) ((hC l i j hij).2.2 q hq)).2
    unfold v_Forest_partAt_L5
    refine p_le (b := 0) (by omega) (by decide) (fun h => ?_) (fun h => ?_)
    · refine kk l i j q r hl hij hj (by omega) hr eO ?_
      rw [eT, show n = 0 by omega]
      rfl
    · refine ⟨4, ?_⟩
      rw [show nI n + (-1 : Int32) = nI (n - 1) by rw [show n = (n - 1) + 1 by omega]; exact pk_m1 (n - 1)]
      generalize hu : 8 * cxc l i j + q = u at *
      have hu8 : u < 840 := by omega
      -- a child
      have child : ∀ m v (x : Tr), m < 3 → fC (3 * u + m) = v → G.CHp Tb cxc l i j r m v x → (v = -1 ∧ x.nd = []) ∨ ∃ i' j' q', D (G.sy r m - 65) i' j' ∧ q' < (Tb (G.sy r m - 65) i' j').r.n ∧ v = nI (8 * cxc (G.sy r m - 65) i' j' + q') ∧ x = (Tb (G.sy r m - 65) i' j').r.f q' ∧ 8 * cxc (G.sy r m - 65) i' j' + q' < 840 ∧ fZ (8 * cxc (G.sy r m - 65) i' j' + q') = nI x.sz ∧ x.sz ≤ 55 := by
        intro m v x hm ev h
        rcases h with ⟨h1, i1, j1, q1, h2, h3, h4, h5⟩ | ⟨h1, h2, h3⟩
        · right
          have hx := hD _ _ _ _ _ _ hd h2
          obtain ⟨g1, g2, g3, g4⟩ := hR _ _ _ hx
          have := cxc_lt g1 g2 g3
          have p1 := (hC (G.sy r m - 65) i1 j1 g2).1.1
          exact ⟨i1, j1, q1, hx, h3, h4, h5, by omega, by rw [h5]; exact (g4 q1 h3).2, by rw [h5]; exact (Gr.TP_w hρ g1 (show j1 - i1 ≤ 6 by omega) ((hC _ _ _ g2).2.2 q1 h3)).2⟩
        · exact Or.inl ⟨h2, by rw [h3]; rfl⟩
      have all : ∀ m, m < 3 → (fC (3 * u + m) = -1 ∧ (if m = 0 then a else if m = 1 then b else c).nd = []) ∨ ∃ i' j' q', D (G.sy r m - 65) i' j' ∧ q' < (Tb (G.sy r m - 65) i' j').r.n ∧ fC (3 * u + m) = nI (8 * cxc (G.sy r m - 65) i' j' + q') ∧ (if m = 0 then a else if m = 1 then b else c) = (Tb (G.sy r m - 65) i' j').r.f q' ∧ 8 * cxc (G.sy r m - 65) i' j' + q' < 840 ∧ fZ (8 * cxc (G.sy r m - 65) i' j' + q') = nI (if m = 0 then a else if m = 1 then b else c).sz ∧ (if m = 0 then a else if m = 1 then b else c).sz ≤ 55 := by
        intro m hm
        rcases (show m = 0 ∨ m = 1 ∨ m = 2 by omega) with e | e | e
        · subst e; exact child 0 _ a hm rfl c0
        · subst e; exact child 1 _ b hm rfl c1
        · subst e; exact child 2 _ c hm rfl c2
      generalize hP : (fun m : Nat => (if m = 0 then a else if m = 1 then b else c)) = P at *
      have eP : ∀ m, (if m = 0 then a else if m = 1 then b else c) = P m := fun m => by rw [← hP]
      have all' : ∀ m, m < 3 → (fC (3 * u + m) = -1 ∧ (P m).nd = []) ∨ ∃ i' j' q', D (G.sy r m - 65) i' j' ∧ q' < (Tb (G.sy r m - 65) i' j').r.n ∧ fC (3 * u + m) = nI (8 * cxc (G.sy r m - 65) i' j' + q') ∧ P m = (Tb (G.sy r m - 65) i' j').r.f q' ∧ 8 * cxc (G.sy r m - 65) i' j' + q' < 840 ∧ fZ (8 * cxc (G.sy r m - 65) i' j' + q') = nI (P m).sz ∧ (P m).sz ≤ 55 := by
        intro m hm
        rw [← eP]
        exact all m hm
      have ndT : ((Tb l i j).r.f q).nd = (r, i, j) :: tln (fun m => (P m).nd) 3 := by
        rw [eT]
        show (r, i, j) :: (a.nd ++ b.nd ++ c.nd) = (r, i, j) :: ((P 0).nd ++ ((P 1).nd ++ ((P 2).nd ++ [])))
        rw [← eP, ← eP, ← eP, List.append_nil, List.append_assoc]
        rfl
      have szl : ((Tb l i j).r.f q).sz = (tln (fun m => (P m).nd) 3).length + 1 := by
        show ((Tb l i j).r.f q).nd.length = _
        rw [ndT, List.length_cons]
      have inner : ∀ (d n2 : Nat), d ≤ 3 → n2 < (tln (fun m => (P m).nd) d).length → n2 < n → n2 < 60 → (tln (fun m => (P m).nd) d)[n2]? = (tln (fun m => (P m).nd) 3)[n - 1]? → v_Forest_partAt_L19 post (v_Forest_partAt_L5 post fZ fC f) fZ fC (nI u) (d + 1) (nI n2) (-1) (nI (3 - d)) := by
        intro d
        induction d with
        | zero => intro n2 _ h; exact absurd h (Nat.not_lt_zero n2)
        | succ d ihd =>
          intro n2 hd3 hn2 hlt h60 hget
          unfold v_Forest_partAt_L19
          refine br_f (show ¬ nI 3 ≤ nI (3 - (d + 1)) from fun z => by have := (nI_leI (by decide) (by omega)).mp z; omega) (br_t rfl ?_)
          have em : 3 - (d + 1) = 2 - d := by omega
          rw [em, p_ix, nI_clamp (show 3 * u + (2 - d) < 2 ^ 31 by omega), p_1, show 2 - d + 1 = 3 - d by omega]
          refine ⟨vp_in_nI (by omega) (by decide), ?_⟩
          intro y7 hy7
          subst hy7
          have e1 : tln (fun m => (P m).nd) (d + 1) = (P (2 - d)).nd ++ tln (fun m => (P m).nd) d := rfl
          rcases all' (2 - d) (by omega) with ⟨g1, g2⟩ | ⟨i1, j1, q1, g1, g2, g3, g4, g5, g6, g7⟩
          · refine br_t g1 ?_
            unfold v_Forest_partAt_B69
            rw [p_1, show 2 - d + 1 = 3 - d by omega]
            refine br_t g1 (ihd n2 (by omega) ?_ hlt h60 ?_)
            · rw [e1, g2] at hn2; exact hn2
            · rw [e1, g2] at hget; exact hget
          · have ne : fC (3 * u + (2 - d)) ≠ -1 := by rw [g3]; exact nI_m1 (by omega)
            refine br_f ne ?_
            rw [g3, nI_clamp (show 8 * cxc (G.sy r (2 - d) - 65) i1 j1 + q1 < 2 ^ 31 by omega), g6]
            have iv : vp_in (nI (8 * cxc (G.sy r (2 - d) - 65) i1 j1 + q1)) 841 := vp_in_nI (by omega) (by decide)
            refine ⟨iv, p_le (by omega) (by omega) (fun z => ?_) (fun z => ?_)⟩
            · unfold v_Forest_partAt_B69
              refine br_f (nI_m1 (by omega)) ⟨iv, ?_⟩
              rw [nI_clamp (show 8 * cxc (G.sy r (2 - d) - 65) i1 j1 + q1 < 2 ^ 31 by omega), g6, pk_sub z]
              intro y4 hy4
              subst hy4
              rw [p_1, show 2 - d + 1 = 3 - d by omega]
              have zl : (P (2 - d)).nd.length ≤ n2 := z
              refine ihd (n2 - (P (2 - d)).sz) (by omega) ?_ (by omega) (by omega) ?_
              · rw [e1, List.length_append] at hn2
                show n2 - (P (2 - d)).nd.length < _
                omega
              · rw [e1, List.getElem?_append_right zl] at hget
                exact hget
            · unfold v_Forest_partAt_L19
              have zl : n2 < (P (2 - d)).nd.length := z
              have fin : v_Forest_partAt_B93 post (v_Forest_partAt_L5 post fZ fC f) (nI u) (nI n2) (nI (8 * cxc (G.sy r (2 - d) - 65) i1 j1 + q1)) := by
                unfold v_Forest_partAt_B93
                refine br_f (nI_m1 (by omega)) (ih n2 _ i1 j1 q1 g1 g2 (by rw [← g4]; exact z) (by omega) fun x i' j' q' r' k1 k2 k3 k4 k5 k6 k7 => kk x i' j' q' r' k1 k2 k3 k4 k5 k6 ?_)
                rw [ndT, show n = (n - 1) + 1 by omega, List.getElem?_cons_succ, ← hget, e1, List.getElem?_append_left zl, g4]
                exact k7
              exact ⟨fun _ => fin, fun _ => br_f (nI_m1 (by omega)) fin⟩
      exact inner 3 (n - 1) (Nat.le_refl _) (by omega) (by omega) (by omega) rfl
end PAT
