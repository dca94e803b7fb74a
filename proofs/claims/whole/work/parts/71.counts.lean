/-! How many trees a cell can have. -/
def sm (f : Nat → Nat) : Nat → Nat
  | 0 => 0
  | n + 1 => sm f n + f n
theorem sm_le {f g : Nat → Nat} : ∀ n, (∀ t, t < n → f t ≤ g t) → sm f n ≤ sm g n
  | 0, _ => Nat.le_refl _
  | n + 1, h => Nat.add_le_add (sm_le n fun t ht => h t (by omega)) (h n (by omega))
theorem sm_eq {f g : Nat → Nat} : ∀ n, (∀ t, t < n → f t = g t) → sm f n = sm g n
  | 0, _ => rfl
  | n + 1, h => by show sm f n + f n = sm g n + g n; rw [sm_eq n fun t ht => h t (by omega), h n (by omega)]
theorem sm_mul (s : Nat) (f : Nat → Nat) : ∀ n, sm (fun t => s * f t) n = s * sm f n
  | 0 => rfl
  | n + 1 => by show sm (fun t => s * f t) n + s * f n = s * (sm f n + f n); rw [sm_mul s f n, Nat.mul_add]
theorem sm_add (f g : Nat → Nat) : ∀ n, sm (fun t => f t + g t) n = sm f n + sm g n
  | 0 => rfl
  | n + 1 => by show sm (fun t => f t + g t) n + (f n + g n) = sm f n + f n + (sm g n + g n); rw [sm_add f g n]; omega
theorem sm_drop (g : Nat → Nat) (v : Nat) : ∀ m, (m ≤ v → sm (fun x => if x = v then 0 else g x) m = sm g m) ∧ (v < m → sm (fun x => if x = v then 0 else g x) m + g v = sm g m)
  | 0 => ⟨fun _ => rfl, fun h => absurd h (Nat.not_lt_zero v)⟩
  | m + 1 => by
    obtain ⟨h1, h2⟩ := sm_drop g v m
    constructor
    · intro h
      show sm _ m + (if m = v then 0 else g m) = sm g m + g m
      rw [h1 (by omega), if_neg (by omega)]
    · intro h
      show sm _ m + (if m = v then 0 else g m) + g v = sm g m + g m
      by_cases e : m = v
      · rw [if_pos e, h1 (by omega), e]; omega
      · rw [if_neg e]
        have := h2 (by omega)
        omega
theorem sm_inj {P : Nat → Bool} {φ : Nat → Nat} {m : Nat} : ∀ n (g : Nat → Nat), (∀ r, r < n → P r = true → φ r < m) → (∀ r r', r < n → r' < n → P r = true → P r' = true → φ r = φ r' → r = r') → sm (fun r => if P r = true then g (φ r) else 0) n ≤ sm g m
  | 0, _, _, _ => Nat.zero_le _
  | n + 1, g, h1, h2 => by
    show sm (fun r => if P r = true then g (φ r) else 0) n + (if P n = true then g (φ n) else 0) ≤ sm g m
    by_cases e : P n = true
    · rw [if_pos e]
      have a := sm_inj n (fun x => if x = φ n then 0 else g x) (fun r hr => h1 r (by omega)) (fun r r' hr hr' => h2 r r' (by omega) (by omega))
      have b := (sm_drop g (φ n) m).2 (h1 n (by omega) e)
      have c : sm (fun r => if P r = true then g (φ r) else 0) n = sm (fun r => if P r = true then (if φ r = φ n then 0 else g (φ r)) else 0) n := by
        refine sm_eq n fun t ht => ?_
        show (if P t = true then g (φ t) else 0) = if P t = true then (if φ t = φ n then 0 else g (φ t)) else 0
        by_cases q : P t = true
        · rw [if_pos q, if_pos q, if_neg]
          intro z
          have := h2 t n (by omega) (by omega) q e z
          omega
        · rw [if_neg q, if_neg q]
      rw [c]
      omega
    · rw [if_neg e]
      exact sm_inj n g (fun r hr => h1 r (by omega)) (fun r r' hr hr' => h2 r r' (by omega) (by omega))
theorem sm_one {P : Nat → Bool} (n : Nat) (h : ∀ r r', r < n → r' < n → P r = true → P r' = true → r = r') : sm (fun r => if P r = true then 1 else 0) n ≤ 1 :=
  sm_inj (φ := fun _ => 0) (m := 1) n (fun _ => 1) (fun _ _ _ => by decide) (fun r r' h1 h2 h3 h4 _ => h r r' h1 h2 h3 h4)
def bM : Nat → Nat
  | 1 => 16
  | 2 => 28672
  | 3 => 102760448
  | 4 => 460366807040
  | 5 => 2309936491003904
  | 6 => 12418218575636987904
  | _ => 0
def bS (w : Nat) : Nat := sm (fun t => bM (1 + t) * bM (w - 1 - t)) (w - 1)
theorem bS_M : ∀ w, w < 7 → 112 * bS w ≤ bM w := by decide +kernel
theorem bM_1 : ∀ w, w < 7 → 0 < w → 1 ≤ bM w := by decide +kernel
theorem bM_lt : ∀ w, w < 7 → bM w < 18446744073709551616 := by decide +kernel
theorem bM_2 : ∀ a, a < 6 → ∀ b, b < 6 → a + b < 7 → bM a * bM b < 18446744073709551616 := by decide +kernel
theorem bM_3 : ∀ a, a < 6 → ∀ b, b < 6 → ∀ c, c < 6 → a + b + c < 7 → bM a * bM b * bM c < 18446744073709551616 := by decide +kernel
/-- paths from above -/
def ps (N : Nat → Nat) : Nat → Nat
  | 0 => 0
  | a + 1 => ps N a + (N a + ps N a)
def vV (N : Nat → Nat) (a : Nat) : Nat := N a + ps N a
theorem ps_sm (N : Nat → Nat) : ∀ a, sm (vV N) a = ps N a
  | 0 => rfl
  | a + 1 => by show sm (vV N) a + vV N a = ps N a + (N a + ps N a); rw [ps_sm N a]; rfl
theorem vV_8 (N : Nat → Nat) (a : Nat) (h : a < 5) : vV N a ≤ 8 * (N 0 + N 1 + N 2 + N 3 + N 4) := by
  rcases lt5 h with rfl | rfl | rfl | rfl | rfl <;> simp only [vV, ps] <;> omega
theorem vV_16 (N : Nat → Nat) (a : Nat) (h : a < 5) (h1 : ∀ b, N b ≤ 1) : vV N a ≤ 16 := by
  have := h1 0; have := h1 1; have := h1 2; have := h1 3; have := h1 4
  rcases lt5 h with rfl | rfl | rfl | rfl | rfl <;> simp only [vV, ps] <;> omega
section CNT
variable {G : Gr} {tk : Nat → Nat} {Tb : Tab} {ρ : Nat → Nat}
def Gr.pr (G : Gr) (tk : Nat → Nat) (Tb : Tab) (r i j p q : Nat) : Nat := (G.pc tk Tb r 0 i (if G.ln r = 1 then j else p)).c * (G.pc tk Tb r 1 p (if G.ln r = 2 then j else q)).c * (G.pc tk Tb r 2 q j).c
def Gr.gc (G : Gr) (tk : Nat → Nat) (Tb : Tab) (r i j : Nat) : Nat :=
  if G.ln r = 1 then G.pr tk Tb r i j 0 0
  else if G.ln r = 2 then sm (fun t => G.pr tk Tb r i j (i + 1 + t) 0) (j - i - 1)
  else sm (fun t => sm (fun u => G.pr tk Tb r i j (i + 1 + t) (i + 2 + t + u)) (j - i - 2 - t)) (j - i - 1)
theorem itr_c {f : Cell → Nat → Cell} {g : Nat → Nat} (h : ∀ S t, (f S t).c = S.c + g t) : ∀ n S, (itr f n S).c = S.c + sm g n
  | 0, _ => rfl
  | n + 1, S => by show (f (itr f n S) n).c = S.c + (sm g n + g n); rw [h, itr_c h n S]; omega
theorem Gr.ap_c {r i j : Nat} (S : Cell) : (G.ap tk Tb r i j S).c = S.c + G.gc tk Tb r i j := by
  unfold Gr.ap Gr.gc
  by_cases e1 : G.ln r = 1
  · rw [if_pos e1, if_pos e1]; rfl
  · rw [if_neg e1, if_neg e1]
    by_cases e2 : G.ln r = 2
    · rw [if_pos e2, if_pos e2]
      exact itr_c (fun S t => rfl) _ S
    · rw [if_neg e2, if_neg e2]
      exact itr_c (f := fun S t => itr (fun S u => G.jr tk Tb r i j (i + 1 + t) (i + 2 + t + u) S) (j - i - 2 - t) S) (g := fun t => sm (fun u => G.pr tk Tb r i j (i + 1 + t) (i + 2 + t + u)) (j - i - 2 - t)) (fun S t => itr_c (f := fun S u => G.jr tk Tb r i j (i + 1 + t) (i + 2 + t + u) S) (g := fun u => G.pr tk Tb r i j (i + 1 + t) (i + 2 + t + u)) (fun S u => rfl) _ S) _ S
theorem Gr.cf_c {l i j m : Nat} : (G.cf tk Tb l i j m).c = sm (fun r => if G.us r = true ∧ G.hd r = l then G.gc tk Tb r i j else 0) m := by
  have := itr_c (f := fun S r => if G.us r = true ∧ G.hd r = l then G.ap tk Tb r i j S else S) (g := fun r => if G.us r = true ∧ G.hd r = l then G.gc tk Tb r i j else 0) (fun S r => by
    show (if G.us r = true ∧ G.hd r = l then G.ap tk Tb r i j S else S).c = S.c + (if G.us r = true ∧ G.hd r = l then G.gc tk Tb r i j else 0)
    by_cases e : G.us r = true ∧ G.hd r = l
    · rw [if_pos e, if_pos e]; exact Gr.ap_c S
    · rw [if_neg e, if_neg e]; rfl) m Cell.e
  unfold Gr.cf
  rw [this]
  exact Nat.zero_add _
theorem Gr.pc_o {r m i j : Nat} (h : ¬ m < G.ln r) : G.pc tk Tb r m i j = Cell.o := by
  unfold Gr.pc
  rw [if_neg (fun q => h (Gr.lb_iff.mp q).1), if_neg (fun q => h q.1)]
theorem cell_o_c : Cell.o.c = 1 := rfl
theorem cell_e_c : Cell.e.c = 0 := rfl
theorem Gr.pc_le {r m i j : Nat} (hij : i < j) (hj : j ≤ i + 6) (h : G.lb r m = true → (Tb (G.sy r m - 65) i j).c ≤ bM (j - i)) : (G.pc tk Tb r m i j).c ≤ bM (j - i) := by
  have := bM_1 (j - i) (by omega) (by omega)
  unfold Gr.pc
  by_cases e : G.lb r m = true
  · rw [if_pos e]; exact h e
  · rw [if_neg e]
    by_cases e1 : m < G.ln r ∧ ¬ (j = i + 1 ∧ tk i = G.sy r m)
    · rw [if_pos e1, cell_e_c]; omega
    · rw [if_neg e1, cell_o_c]; exact this
/-- a rule that is no letter alone, over more than one token -/
theorem Gr.gc_bS (hw : G.WF) {r i j : Nat} (hr : r < G.k) (hu : G.us r = true) (hb : G.uB r = false) (hij : i + 1 < j) (hj : j ≤ i + 6) (h : ∀ x i' j', x < 5 → i' < j' → j' ≤ i' + 6 → (Tb x i' j').c ≤ bM (j' - i')) : G.gc tk Tb r i j ≤ bS (j - i) := by
  obtain ⟨wh, w1, w3, wwt, wsy⟩ := hw.2 r hr
  have lt : ∀ m, G.lb r m = true → G.sy r m - 65 < 5 := fun m e => by have := (Gr.lb_iff.mp e).2; omega
  unfold Gr.gc
  by_cases e1 : G.ln r = 1
  · rw [if_pos e1]
    have : G.lb r 0 ≠ true := fun e => by
      have := (Gr.lb_iff.mp e).2
      have : G.uB r = true := by
        simp only [Gr.uB, Bool.and_eq_true, beq_iff_eq, decide_eq_true_eq]
        exact ⟨⟨hu, e1⟩, this⟩
      rw [hb] at this
      exact absurd this (by decide)
    unfold Gr.pr
    have z : (G.pc tk Tb r 0 i (if G.ln r = 1 then j else 0)).c = 0 := by
      unfold Gr.pc
      rw [if_neg this, if_pos e1, if_pos ⟨by omega, fun q => by omega⟩]
      rfl
    rw [z, Nat.zero_mul, Nat.zero_mul]
    exact Nat.zero_le _
  · rw [if_neg e1]
    by_cases e2 : G.ln r = 2
    · rw [if_pos e2]
      refine sm_le _ fun t ht => ?_
      unfold Gr.pr
      rw [Gr.pc_o (m := 2) (by omega), cell_o_c, Nat.mul_one, if_neg e1, if_pos e2]
      have a := Gr.pc_le (G := G) (tk := tk) (Tb := Tb) (r := r) (m := 0) (i := i) (j := i + 1 + t) (by omega) (by omega) fun e => h _ _ _ (lt 0 e) (by omega) (by omega)
      have b := Gr.pc_le (G := G) (tk := tk) (Tb := Tb) (r := r) (m := 1) (i := i + 1 + t) (j := j) (by omega) (by omega) fun e => h _ _ _ (lt 1 e) (by omega) (by omega)
      rw [show i + 1 + t - i = 1 + t by omega] at a
      rw [show j - (i + 1 + t) = j - i - 1 - t by omega] at b
      exact Nat.mul_le_mul a b
    · rw [if_neg e2]
      refine sm_le _ fun t ht => ?_
      have a := Gr.pc_le (G := G) (tk := tk) (Tb := Tb) (r := r) (m := 0) (i := i) (j := i + 1 + t) (by omega) (by omega) fun e => h _ _ _ (lt 0 e) (by omega) (by omega)
      rw [show i + 1 + t - i = 1 + t by omega] at a
      have inner : sm (fun u => G.pr tk Tb r i j (i + 1 + t) (i + 2 + t + u)) (j - i - 2 - t) ≤ sm (fun u => bM (1 + t) * (bM (1 + u) * bM (j - i - 1 - t - 1 - u))) (j - i - 2 - t) := by
        refine sm_le _ fun u hu => ?_
        unfold Gr.pr
        rw [if_neg e1, if_neg e2, Nat.mul_assoc]
        have b := Gr.pc_le (G := G) (tk := tk) (Tb := Tb) (r := r) (m := 1) (i := i + 1 + t) (j := i + 2 + t + u) (by omega) (by omega) fun e => h _ _ _ (lt 1 e) (by omega) (by omega)
        have c := Gr.pc_le (G := G) (tk := tk) (Tb := Tb) (r := r) (m := 2) (i := i + 2 + t + u) (j := j) (by omega) (by omega) fun e => h _ _ _ (lt 2 e) (by omega) (by omega)
        rw [show i + 2 + t + u - (i + 1 + t) = 1 + u by omega] at b
        rw [show j - (i + 2 + t + u) = j - i - 1 - t - 1 - u by omega] at c
        exact Nat.mul_le_mul a (Nat.mul_le_mul b c)
      refine Nat.le_trans inner ?_
      rw [sm_mul]
      refine Nat.mul_le_mul (Nat.le_refl _) ?_
      have := bS_M (j - i - 1 - t) (by omega)
      unfold bS at this
      rw [show j - i - 2 - t = j - i - 1 - t - 1 by omega]
      omega
/-- the rules that count over this span without another letter's trees there -/
def Gr.qQ (G : Gr) (tk : Nat → Nat) (i j r : Nat) : Bool := G.us r && !G.uB r && (decide (¬ j - i = 1) || (G.ln r == 1 && tk i == G.sy r 0))
def Gr.sS (i j : Nat) : Nat := if j - i = 1 then 1 else bS (j - i)
def Gr.nN (G : Gr) (ρ : Nat → Nat) (tk : Nat → Nat) (i j b : Nat) : Nat := sm (fun r => if (G.qQ tk i j r && ρ (G.hd r) == b) = true then 1 else 0) G.k
theorem Gr.gc_q (hw : G.WF) {r i j : Nat} (hr : r < G.k) (hu : G.us r = true) (hb : G.uB r = false) (hij : i < j) (hj : j ≤ i + 6) (h : ∀ x i' j', x < 5 → i' < j' → j' ≤ i' + 6 → (Tb x i' j').c ≤ bM (j' - i')) : G.gc tk Tb r i j ≤ Gr.sS i j * (if G.qQ tk i j r = true then 1 else 0) := by
  unfold Gr.sS Gr.qQ
  rw [hu, hb]
  by_cases e : j - i = 1
  · rw [if_pos e, e]
    have e' : j = i + 1 := by omega
    subst e'
    unfold Gr.gc
    by_cases e1 : G.ln r = 1
    · rw [if_pos e1]
      unfold Gr.pr
      rw [Gr.pc_o (m := 1) (by omega), Gr.pc_o (m := 2) (by omega), cell_o_c, if_pos e1]
      have n0 : G.lb r 0 ≠ true := fun z => by
        have := (Gr.lb_iff.mp z).2
        have : G.uB r = true := by
          simp only [Gr.uB, Bool.and_eq_true, beq_iff_eq, decide_eq_true_eq]
          exact ⟨⟨hu, e1⟩, this⟩
        rw [hb] at this
        exact absurd this (by decide)
      unfold Gr.pc
      rw [if_neg n0]
      by_cases t : tk i = G.sy r 0
      · rw [if_neg (fun z => z.2 ⟨rfl, t⟩), cell_o_c, e1, t]
        simp
      · rw [if_pos ⟨by omega, fun z => t z.2⟩, cell_e_c]
        simp
    · rw [if_neg e1]
      have z : i + 1 - i - 1 = 0 := by omega
      by_cases e2 : G.ln r = 2
      · rw [if_pos e2, z]; exact Nat.zero_le _
      · rw [if_neg e2, z]; exact Nat.zero_le _
  · rw [if_neg e]
    have := Gr.gc_bS (tk := tk) hw hr hu hb (by omega) hj h
    simp [e]
    exact this
theorem Gr.gc_u (hw : G.WF) {r i j : Nat} (h : G.uB r = true) : G.gc tk Tb r i j = (Tb (G.ux r) i j).c := by
  simp only [Gr.uB, Bool.and_eq_true, beq_iff_eq, decide_eq_true_eq] at h
  obtain ⟨⟨h1, h2⟩, h3⟩ := h
  unfold Gr.gc Gr.pr
  rw [if_pos h2, Gr.pc_o (m := 1) (by omega), Gr.pc_o (m := 2) (by omega), cell_o_c, if_pos h2, Nat.mul_one, Nat.mul_one]
  unfold Gr.pc
  rw [if_pos (Gr.lb_iff.mpr ⟨by omega, h3⟩)]
  rfl
theorem Gr.nN_14 (hw : G.WF) (i j : Nat) : G.nN ρ tk i j 0 + G.nN ρ tk i j 1 + G.nN ρ tk i j 2 + G.nN ρ tk i j 3 + G.nN ρ tk i j 4 ≤ 14 := by
  refine Nat.le_trans ?_ hw.1
  unfold Gr.nN
  rw [← sm_add, ← sm_add, ← sm_add, ← sm_add]
  have one : ∀ n, sm (fun _ => 1) n = n := by
    intro n
    induction n with
    | zero => rfl
    | succ n ih => show sm (fun _ => 1) n + 1 = n + 1; rw [ih]
  refine Nat.le_trans (sm_le (g := fun _ => 1) _ fun r _ => ?_) (Nat.le_of_eq (one G.k))
  show (if (G.qQ tk i j r && ρ (G.hd r) == 0) = true then 1 else 0) + (if (G.qQ tk i j r && ρ (G.hd r) == 1) = true then 1 else 0) + (if (G.qQ tk i j r && ρ (G.hd r) == 2) = true then 1 else 0) + (if (G.qQ tk i j r && ρ (G.hd r) == 3) = true then 1 else 0) + (if (G.qQ tk i j r && ρ (G.hd r) == 4) = true then 1 else 0) ≤ 1
  cases G.qQ tk i j r
  · simp
  · simp only [Bool.true_and, beq_iff_eq]
    by_cases h0 : ρ (G.hd r) = 0
    · simp [h0]
    · by_cases h1 : ρ (G.hd r) = 1
      · simp [h1]
      · by_cases h2 : ρ (G.hd r) = 2
        · simp [h2]
        · by_cases h3 : ρ (G.hd r) = 3
          · simp [h3]
          · simp only [if_neg h0, if_neg h1, if_neg h2, if_neg h3]
            by_cases h4 : ρ (G.hd r) = 4
            · simp [h4]
            · simp [h4]
theorem Gr.nN_1 (hw : G.WF) (hn : G.NT) (hi : ∀ l l', l < 5 → l' < 5 → ρ l = ρ l' → l = l') {i j : Nat} (h1 : j - i = 1) (b : Nat) : G.nN ρ tk i j b ≤ 1 := by
  unfold Gr.nN
  refine sm_one _ fun r r' hr hr' p p' => ?_
  simp only [Gr.qQ, h1, Bool.and_eq_true, Bool.or_eq_true, decide_eq_true_eq, beq_iff_eq, not_true, false_or] at p p'
  obtain ⟨⟨_, a1, a2⟩, a3⟩ := p
  obtain ⟨⟨_, b1, b2⟩, b3⟩ := p'
  have eh : G.hd r = G.hd r' := hi _ _ (hw.2 r hr).1 (hw.2 r' hr').1 (by rw [a3, b3])
  rcases Nat.lt_trichotomy r r' with q | q | q
  · exact (hn r' r hr' q ⟨eh, by rw [a1, b1], fun m hm => by rw [b1] at hm; rw [show m = 0 by omega, ← a2, ← b2]⟩).elim
  · exact q
  · exact (hn r r' hr q ⟨eh.symm, by rw [a1, b1], fun m hm => by rw [a1] at hm; rw [show m = 0 by omega, ← a2, ← b2]⟩).elim
theorem Gr.vb (hw : G.WF) (hn : G.NT) (hρ : G.Rk ρ) (hi : ∀ l l', l < 5 → l' < 5 → ρ l = ρ l' → l = l') {i j l : Nat} (hij : i < j) (hj : j ≤ i + 6) (hl : l < 5) : Gr.sS i j * vV (G.nN ρ tk i j) (ρ l) ≤ bM (j - i) := by
  unfold Gr.sS
  by_cases e : j - i = 1
  · rw [if_pos e, e, Nat.one_mul]
    exact vV_16 _ _ (hρ.1 l hl) (Gr.nN_1 hw hn hi e)
  · rw [if_neg e]
    have a := vV_8 (G.nN ρ tk i j) (ρ l) (hρ.1 l hl)
    have b := Gr.nN_14 (ρ := ρ) (tk := tk) hw i j
    have c := bS_M (j - i) (by omega)
    have d : bS (j - i) * vV (G.nN ρ tk i j) (ρ l) ≤ bS (j - i) * 112 := Nat.mul_le_mul (Nat.le_refl _) (by omega)
    omega
theorem Gr.tb_vV (hw : G.WF) (hn : G.NT) (hρ : G.Rk ρ) (hi : ∀ l l', l < 5 → l' < 5 → ρ l = ρ l' → l = l') : ∀ m l i j, l < 5 → i < j → j ≤ i + 6 → (G.tb tk m l i j).c ≤ Gr.sS i j * vV (G.nN ρ tk i j) (ρ l) := by
  intro m
  induction m with
  | zero => intros; exact Nat.zero_le _
  | succ m ih =>
    intro l i j hl hij hj
    show (G.cf tk (G.tb tk m) l i j G.k).c ≤ _
    rw [Gr.cf_c]
    have hM : ∀ x i' j', x < 5 → i' < j' → j' ≤ i' + 6 → (G.tb tk m x i' j').c ≤ bM (j' - i') := fun x i' j' h1 h2 h3 => Nat.le_trans (ih x i' j' h1 h2 h3) (Gr.vb hw hn hρ hi h2 h3 h1)
    have s1 : sm (fun r => if G.us r = true ∧ G.hd r = l then G.gc tk (G.tb tk m) r i j else 0) G.k ≤ sm (fun r => Gr.sS i j * (if (G.qQ tk i j r && ρ (G.hd r) == ρ l) = true then 1 else 0) + Gr.sS i j * (if (G.uB r && G.hd r == l) = true then vV (G.nN ρ tk i j) (ρ (G.ux r)) else 0)) G.k := by
      refine sm_le _ fun r hr => ?_
      show (if G.us r = true ∧ G.hd r = l then G.gc tk (G.tb tk m) r i j else 0) ≤ Gr.sS i j * (if (G.qQ tk i j r && ρ (G.hd r) == ρ l) = true then 1 else 0) + Gr.sS i j * (if (G.uB r && G.hd r == l) = true then vV (G.nN ρ tk i j) (ρ (G.ux r)) else 0)
      by_cases e : G.us r = true ∧ G.hd r = l
      · rw [if_pos e]
        obtain ⟨e1, e2⟩ := e
        by_cases b : G.uB r = true
        · rw [Gr.gc_u hw b, b, e2]
          simp only [beq_self_eq_true, Bool.and_self, if_true]
          have x5 : G.ux r < 5 := by
            simp only [Gr.uB, Bool.and_eq_true, beq_iff_eq, decide_eq_true_eq] at b
            unfold Gr.ux
            omega
          have := ih (G.ux r) i j x5 hij hj
          omega
        · have b' : G.uB r = false := by simpa using b
          have := Gr.gc_q (tk := tk) hw hr e1 b' hij hj hM
          rw [e2]
          simp only [beq_self_eq_true, Bool.and_true]
          omega
      · rw [if_neg e]; exact Nat.zero_le _
    refine Nat.le_trans s1 ?_
    rw [sm_add, sm_mul, sm_mul, ← Nat.mul_add]
    refine Nat.mul_le_mul (Nat.le_refl _) ?_
    refine Nat.add_le_add (Nat.le_refl _) ?_
    rw [← ps_sm]
    refine sm_inj (P := fun r => G.uB r && G.hd r == l) (φ := fun r => ρ (G.ux r)) G.k (vV (G.nN ρ tk i j)) ?_ ?_
    · intro r hr p
      simp only [Bool.and_eq_true, beq_iff_eq] at p
      obtain ⟨p1, p2⟩ := p
      have p3 := p1
      simp only [Gr.uB, Bool.and_eq_true, beq_iff_eq, decide_eq_true_eq] at p3
      rw [← p2]
      exact hρ.2 r hr (G.ux r) (by unfold Gr.ux; omega) ⟨p3.1.1, p3.1.2, by unfold Gr.ux; omega⟩
    · intro r r' hr hr' p p' e
      simp only [Bool.and_eq_true, beq_iff_eq, Gr.uB, decide_eq_true_eq] at p p'
      obtain ⟨⟨⟨p1, p2⟩, p3⟩, p4⟩ := p
      obtain ⟨⟨⟨q1, q2⟩, q3⟩, q4⟩ := p'
      have ee : G.sy r 0 = G.sy r' 0 := by
        have := hi (G.ux r) (G.ux r') (by unfold Gr.ux; omega) (by unfold Gr.ux; omega) e
        unfold Gr.ux at this
        omega
      rcases Nat.lt_trichotomy r r' with q | q | q
      · exact (hn r' r hr' q ⟨by rw [p4, q4], by rw [p2, q2], fun m hm => by rw [q2] at hm; rw [show m = 0 by omega, ee]⟩).elim
      · exact q
      · exact (hn r r' hr q ⟨by rw [p4, q4], by rw [p2, q2], fun m hm => by rw [p2] at hm; rw [show m = 0 by omega, ee]⟩).elim
theorem Gr.T_bM (hw : G.WF) (hn : G.NT) (hρ : G.Rk ρ) (hi : ∀ l l', l < 5 → l' < 5 → ρ l = ρ l' → l = l') {l i j : Nat} (hl : l < 5) (hij : i < j) (hj : j ≤ i + 6) : (G.T tk l i j).c ≤ bM (j - i) :=
  Nat.le_trans (Gr.tb_vV hw hn hρ hi 40 l i j hl hij hj) (Gr.vb hw hn hρ hi hij hj hl)
/-- the products stay in a long -/
theorem Gr.pr_lt (hw : G.WF) {r i j p q : Nat} (hr : r < G.k) (hij : i < j) (hj : j ≤ i + 6) (hs : G.sp r i j p q) (h : ∀ x i' j', x < 5 → i' < j' → j' ≤ i' + 6 → (Tb x i' j').c ≤ bM (j' - i')) : G.pr tk Tb r i j p q < 18446744073709551616 := by
  have lt : ∀ m, G.lb r m = true → G.sy r m - 65 < 5 := fun m e => by have := (Gr.lb_iff.mp e).2; omega
  unfold Gr.pr
  rcases hs with e | ⟨e, h1, h2⟩ | ⟨e, h1, h2, h3⟩
  · rw [Gr.pc_o (m := 1) (by omega), Gr.pc_o (m := 2) (by omega), cell_o_c, Nat.mul_one, Nat.mul_one, if_pos e]
    exact Nat.lt_of_le_of_lt (Gr.pc_le hij hj fun e => h _ _ _ (lt 0 e) hij hj) (bM_lt _ (by omega))
  · rw [Gr.pc_o (m := 2) (by omega), cell_o_c, Nat.mul_one, if_neg (by omega), if_pos e]
    have a := Gr.pc_le (G := G) (tk := tk) (Tb := Tb) (r := r) (m := 0) (i := i) (j := p) (by omega) (by omega) fun e => h _ _ _ (lt 0 e) (by omega) (by omega)
    have b := Gr.pc_le (G := G) (tk := tk) (Tb := Tb) (r := r) (m := 1) (i := p) (j := j) (by omega) (by omega) fun e => h _ _ _ (lt 1 e) (by omega) (by omega)
    exact Nat.lt_of_le_of_lt (Nat.mul_le_mul a b) (bM_2 _ (by omega) _ (by omega) (by omega))
  · rw [if_neg (by omega), if_neg (by omega)]
    have a := Gr.pc_le (G := G) (tk := tk) (Tb := Tb) (r := r) (m := 0) (i := i) (j := p) (by omega) (by omega) fun e => h _ _ _ (lt 0 e) (by omega) (by omega)
    have b := Gr.pc_le (G := G) (tk := tk) (Tb := Tb) (r := r) (m := 1) (i := p) (j := q) (by omega) (by omega) fun e => h _ _ _ (lt 1 e) (by omega) (by omega)
    have c := Gr.pc_le (G := G) (tk := tk) (Tb := Tb) (r := r) (m := 2) (i := q) (j := j) (by omega) (by omega) fun e => h _ _ _ (lt 2 e) (by omega) (by omega)
    exact Nat.lt_of_le_of_lt (Nat.mul_le_mul (Nat.mul_le_mul a b) c) (bM_3 _ (by omega) _ (by omega) _ (by omega) (by omega))
end CNT
