/-! The class's order of the rules comes to the same cells. -/
/-- the cell of x after the first t rules of the order -/
noncomputable def Gr.pg (G : Gr) (tk : Nat → Nat) (Tb : Tab) (od : Nat → Nat) (i j x t : Nat) : Cell := itr (fun S t' => if G.hd (od t') = x then G.ap tk Tb (od t') i j S else S) t Cell.e
section PRG
variable {G : Gr} {tk : Nat → Nat} {Tb : Tab} {ρ : Nat → Nat} {D : Nat} {od : Nat → Nat}
theorem Gr.Od.Rk (h : G.Od ρ D od) : G.Rk ρ := ⟨h.2.1, h.2.2.2.1⟩
theorem Gr.cf_skip {l i j : Nat} {m : Nat} : ∀ {n : Nat}, m ≤ n → (∀ r, m ≤ r → r < n → ¬ (G.us r = true ∧ G.hd r = l)) → G.cf tk Tb l i j n = G.cf tk Tb l i j m := by
  intro n
  induction n with
  | zero => intro h _; rw [Nat.le_zero.mp h]
  | succ n ih =>
    intro h hn
    by_cases e : m = n + 1
    · rw [e]
    · have := ih (by omega) fun r h1 h2 => hn r h1 (by omega)
      rw [← this]
      show (if G.us n = true ∧ G.hd n = l then _ else _) = _
      rw [if_neg (hn n (by omega) (by omega))]
      rfl
theorem Gr.cf_s {l i j r : Nat} (h : G.us r = true) (h' : G.hd r = l) : G.cf tk Tb l i j (r + 1) = G.ap tk Tb r i j (G.cf tk Tb l i j r) := by
  show (if G.us r = true ∧ G.hd r = l then _ else _) = _
  rw [if_pos ⟨h, h'⟩]
  rfl
theorem Gr.pg_s {i j x t : Nat} : G.pg tk Tb od i j x (t + 1) = if G.hd (od t) = x then G.ap tk Tb (od t) i j (G.pg tk Tb od i j x t) else G.pg tk Tb od i j x t := rfl
theorem Gr.pg_cf (h : G.Od ρ D od) {i j x : Nat} : ∀ t, t ≤ D → ∃ m, m ≤ G.k ∧ G.pg tk Tb od i j x t = G.cf tk Tb x i j m ∧ ∀ r, r < G.k → G.us r = true → G.hd r = x → (r < m ↔ ∃ t', t' < t ∧ od t' = r) := by
  obtain ⟨hD, h1, h2, h3, h4, h5, h6⟩ := h
  intro t
  induction t with
  | zero => intro _; exact ⟨0, Nat.zero_le _, rfl, fun r _ _ _ => ⟨fun q => absurd q (Nat.not_lt_zero r), fun ⟨t', q, _⟩ => absurd q (Nat.not_lt_zero t')⟩⟩
  | succ t ih =>
    intro ht
    obtain ⟨m, hm, e, hl⟩ := ih (by omega)
    rw [Gr.pg_s]
    by_cases hx : G.hd (od t) = x
    · rw [if_pos hx]
      obtain ⟨o1, o2⟩ := h4 t (by omega)
      have no : ∀ t', t' < t → od t' ≠ od t := fun t' q z => by
        rcases h6 t' t q (by omega) with g | ⟨_, g⟩
        · rw [z] at g; omega
        · omega
      have ge : m ≤ od t := Nat.le_of_not_lt fun q => by
        obtain ⟨t', a, b⟩ := (hl (od t) o1 o2 hx).mp q
        exact no t' a b
      refine ⟨od t + 1, o1, ?_, fun r hr hu hh => ⟨fun q => ?_, ?_⟩⟩
      · rw [Gr.cf_s o2 hx, e]
        congr 1
        refine (Gr.cf_skip ge fun r a b => ?_).symm
        rintro ⟨c, d⟩
        obtain ⟨t', g1, g2⟩ := h5 r (by omega) c
        rcases Nat.lt_trichotomy t' t with z | z | z
        · have := (hl r (by omega) c d).mpr ⟨t', z, g2⟩
          omega
        · rw [z] at g2; omega
        · rcases h6 t t' z g1 with g | ⟨_, g⟩
          · rw [g2, d, hx] at g; omega
          · omega
      · by_cases z : r = od t
        · exact ⟨t, by omega, z.symm⟩
        · obtain ⟨t', g1, g2⟩ := h5 r hr hu
          rcases Nat.lt_trichotomy t' t with y | y | y
          · exact ⟨t', by omega, g2⟩
          · rw [y] at g2; exact absurd g2.symm z
          · rcases h6 t t' y g1 with g | ⟨_, g⟩
            · rw [g2, hh, hx] at g; omega
            · omega
      · rintro ⟨t', a, b⟩
        by_cases z : t' = t
        · rw [z] at b; omega
        · rcases h6 t' t (by omega) (by omega) with g | ⟨_, g⟩
          · rw [b, hh, hx] at g; omega
          · omega
    · rw [if_neg hx]
      refine ⟨m, hm, e, fun r hr hu hh => ?_⟩
      rw [hl r hr hu hh]
      constructor
      · rintro ⟨t', a, b⟩; exact ⟨t', by omega, b⟩
      · rintro ⟨t', a, b⟩
        refine ⟨t', ?_, b⟩
        by_cases z : t' = t
        · rw [z] at b; rw [b, hh] at hx; exact absurd rfl hx
        · omega
theorem Gr.pg_end (h : G.Od ρ D od) {i j x t : Nat} (ht : t ≤ D) (hx : ∀ t', t ≤ t' → t' < D → G.hd (od t') ≠ x) : G.pg tk Tb od i j x t = G.cf tk Tb x i j G.k := by
  obtain ⟨m, hm, e, hl⟩ := Gr.pg_cf (tk := tk) (Tb := Tb) (i := i) (j := j) (x := x) h t ht
  rw [e]
  refine (Gr.cf_skip hm fun r a b => ?_).symm
  rintro ⟨c, d⟩
  obtain ⟨t', g1, g2⟩ := h.2.2.2.2.2.1 r b c
  by_cases z : t' < t
  · have := (hl r b c d).mpr ⟨t', z, g2⟩
    omega
  · exact hx t' (by omega) g1 (by rw [g2, d])
/-- a letter alone under the rule that comes next is done -/
theorem Gr.pg_uni (h : G.Od ρ D od) {i j x t r : Nat} (ht : t < D) (hr : r < G.k) (hh : G.hd r = G.hd (od t)) (hx : x < 5) (hu : G.uni r x) : G.pg tk Tb od i j x t = G.cf tk Tb x i j G.k := by
  refine Gr.pg_end h (by omega) fun t' a b z => ?_
  have q := h.2.2.2.1 r hr x hx hu
  rw [hh] at q
  by_cases y : t' = t
  · rw [y] at z; rw [z] at q; omega
  · rcases h.2.2.2.2.2.2 t t' (by omega) b with g | ⟨g, _⟩
    · rw [z] at g; omega
    · rw [z] at g; rw [g] at q; omega
theorem Gr.pg_no (h : G.Od ρ D od) {i j x t : Nat} (hx : G.hd (od t) ≠ x) : G.pg tk Tb od i j x (t + 1) = G.pg tk Tb od i j x t := by rw [Gr.pg_s, if_neg hx]
end PRG
