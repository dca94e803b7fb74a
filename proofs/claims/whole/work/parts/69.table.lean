/-! The table of cells: how many trees, and the first eight. -/
def Cell : Type := Nat × Row
def Cell.c (S : Cell) : Nat := S.1
def Cell.r (S : Cell) : Row := S.2
def Row.e : Row := (0, fun _ => Tr.leaf)
def Row.o : Row := (1, fun _ => Tr.leaf)
def Cell.e : Cell := (0, Row.e)
def Cell.o : Cell := (1, Row.o)
def Tab : Type := Nat → Nat → Nat → Cell
/-- all trees of a rule with these parts -/
noncomputable def jn (wt r i j : Nat) (x y z S : Cell) : Cell := (S.c + x.c * y.c * z.c, cA (fun a b c => mkT wt r i j (x.r.f a) (y.r.f b) (z.r.f c)) x.r.n y.r.n z.r.n S.r)
/-- part m of rule r is a letter -/
def Gr.lb (G : Gr) (r m : Nat) : Bool := decide (m < G.ln r ∧ 65 ≤ G.sy r m ∧ G.sy r m ≤ 69)
theorem Gr.lb_iff {G : Gr} {r m : Nat} : G.lb r m = true ↔ m < G.ln r ∧ 65 ≤ G.sy r m ∧ G.sy r m ≤ 69 := by unfold Gr.lb; exact decide_eq_true_iff
def Gr.pc (G : Gr) (tk : Nat → Nat) (Tb : Tab) (r m i j : Nat) : Cell :=
  if G.lb r m = true then Tb (G.sy r m - 65) i j else if m < G.ln r ∧ ¬ (j = i + 1 ∧ tk i = G.sy r m) then Cell.e else Cell.o
noncomputable def Gr.jr (G : Gr) (tk : Nat → Nat) (Tb : Tab) (r i j p q : Nat) (S : Cell) : Cell :=
  jn (G.wt r) r i j (G.pc tk Tb r 0 i (if G.ln r = 1 then j else p)) (G.pc tk Tb r 1 p (if G.ln r = 2 then j else q)) (G.pc tk Tb r 2 q j) S
noncomputable def Gr.ap (G : Gr) (tk : Nat → Nat) (Tb : Tab) (r i j : Nat) (S : Cell) : Cell :=
  if G.ln r = 1 then G.jr tk Tb r i j 0 0 S
  else if G.ln r = 2 then itr (fun S t => G.jr tk Tb r i j (i + 1 + t) 0 S) (j - i - 1) S
  else itr (fun S t => itr (fun S u => G.jr tk Tb r i j (i + 1 + t) (i + 2 + t + u) S) (j - i - 2 - t) S) (j - i - 1) S
noncomputable def Gr.cf (G : Gr) (tk : Nat → Nat) (Tb : Tab) (l i j m : Nat) : Cell := itr (fun S r => if G.us r = true ∧ G.hd r = l then G.ap tk Tb r i j S else S) m Cell.e
noncomputable def Gr.tb (G : Gr) (tk : Nat → Nat) : Nat → Tab
  | 0 => fun _ _ _ => Cell.e
  | m + 1 => fun l i j => G.cf tk (G.tb tk m) l i j G.k
noncomputable def Gr.T (G : Gr) (tk : Nat → Nat) : Tab := G.tb tk 40
/-- a good way to cut -/
def Gr.sp (G : Gr) (r i j p q : Nat) : Prop := G.ln r = 1 ∨ (G.ln r = 2 ∧ i < p ∧ p < j) ∨ (G.ln r = 3 ∧ i < p ∧ p < q ∧ q < j)
/-- the cells that a cell is made of -/
def Gr.Sb (G : Gr) (l i j x i' j' : Nat) : Prop := x < 5 ∧ i ≤ i' ∧ i' < j' ∧ j' ≤ j ∧ (j' - i' < j - i ∨ (i' = i ∧ j' = j ∧ ∃ r, r < G.k ∧ G.hd r = l ∧ G.uni r x))
theorem itr_congr' {α : Type} {f g : α → Nat → α} (n : Nat) (h : ∀ t s, t < n → f s t = g s t) (s : α) : itr f n s = itr g n s := itr_congr h s
theorem itr_invb {α : Type} {f : α → Nat → α} {P : α → Prop} : ∀ n, (∀ s t, t < n → P s → P (f s t)) → ∀ s, P s → P (itr f n s)
  | 0, _, _, hs => hs
  | n + 1, h, s, hs => h _ _ (Nat.lt_succ_self n) (itr_invb n (fun s t ht => h s t (Nat.lt_succ_of_lt ht)) s hs)
section TAB
variable {G : Gr} {tk tk' : Nat → Nat} {Tb Tb' : Tab}
theorem Gr.ap_congr {r i j : Nat} (h3 : G.ln r ≤ 3) (h1 : 1 ≤ G.ln r) (h : ∀ p q S, G.sp r i j p q → G.jr tk Tb r i j p q S = G.jr tk' Tb' r i j p q S) (S : Cell) : G.ap tk Tb r i j S = G.ap tk' Tb' r i j S := by
  unfold Gr.ap
  by_cases e1 : G.ln r = 1
  · rw [if_pos e1, if_pos e1]; exact h 0 0 S (Or.inl e1)
  · rw [if_neg e1, if_neg e1]
    by_cases e2 : G.ln r = 2
    · rw [if_pos e2, if_pos e2]
      exact itr_congr' _ (fun t s ht => h _ _ s (Or.inr (Or.inl ⟨e2, by omega, by omega⟩))) S
    · rw [if_neg e2, if_neg e2]
      exact itr_congr' _ (fun t s ht => itr_congr' _ (fun u s hu => h _ _ s (Or.inr (Or.inr ⟨by omega, by omega, by omega, by omega⟩))) s) S
theorem Gr.ap_inv {P : Cell → Prop} {r i j : Nat} (h3 : G.ln r ≤ 3) (h1 : 1 ≤ G.ln r) (h : ∀ p q S, G.sp r i j p q → P S → P (G.jr tk Tb r i j p q S)) (S : Cell) (hS : P S) : P (G.ap tk Tb r i j S) := by
  unfold Gr.ap
  by_cases e1 : G.ln r = 1
  · rw [if_pos e1]; exact h 0 0 S (Or.inl e1) hS
  · rw [if_neg e1]
    by_cases e2 : G.ln r = 2
    · rw [if_pos e2]
      exact itr_invb _ (fun s t ht hs => h _ _ s (Or.inr (Or.inl ⟨e2, by omega, by omega⟩)) hs) S hS
    · rw [if_neg e2]
      exact itr_invb _ (fun s t ht hs => itr_invb _ (fun s u hu hs => h _ _ s (Or.inr (Or.inr ⟨by omega, by omega, by omega, by omega⟩)) hs) s hs) S hS
/-- where the parts lie -/
theorem Gr.pc_sub (hw : G.WF) {r i j p q : Nat} (hr : r < G.k) (hu : G.us r = true) (hij : i < j) (hs : G.sp r i j p q) :
    (G.lb r 0 = true → G.Sb (G.hd r) i j (G.sy r 0 - 65) i (if G.ln r = 1 then j else p)) ∧
    (G.lb r 1 = true → G.Sb (G.hd r) i j (G.sy r 1 - 65) p (if G.ln r = 2 then j else q)) ∧
    (G.lb r 2 = true → G.Sb (G.hd r) i j (G.sy r 2 - 65) q j) := by
  refine ⟨fun h => ?_, fun h => ?_, fun h => ?_⟩ <;> obtain ⟨h1, h2, h3⟩ := Gr.lb_iff.mp h
  · rcases hs with e | ⟨e, s1, s2⟩ | ⟨e, s1, s2, s3⟩
    · rw [if_pos e]
      exact ⟨by omega, Nat.le_refl _, hij, Nat.le_refl _, Or.inr ⟨rfl, rfl, r, hr, rfl, hu, e, by omega⟩⟩
    · rw [if_neg (by omega)]
      exact ⟨by omega, Nat.le_refl _, s1, by omega, Or.inl (by omega)⟩
    · rw [if_neg (by omega)]
      exact ⟨by omega, Nat.le_refl _, s1, by omega, Or.inl (by omega)⟩
  · rcases hs with e | ⟨e, s1, s2⟩ | ⟨e, s1, s2, s3⟩
    · omega
    · rw [if_pos e]
      exact ⟨by omega, by omega, s2, Nat.le_refl _, Or.inl (by omega)⟩
    · rw [if_neg (by omega)]
      exact ⟨by omega, by omega, s2, by omega, Or.inl (by omega)⟩
  · rcases hs with e | ⟨e, s1, s2⟩ | ⟨e, s1, s2, s3⟩
    · omega
    · omega
    · exact ⟨by omega, by omega, s3, Nat.le_refl _, Or.inl (by omega)⟩
theorem Gr.pc_congr {r m i j : Nat} (hT : G.lb r m = true → Tb (G.sy r m - 65) i j = Tb' (G.sy r m - 65) i j) (hk : m < G.ln r → j = i + 1 → tk i = tk' i) : G.pc tk Tb r m i j = G.pc tk' Tb' r m i j := by
  unfold Gr.pc
  by_cases e : G.lb r m = true
  · rw [if_pos e, if_pos e]; exact hT e
  · rw [if_neg e, if_neg e]
    by_cases e1 : m < G.ln r
    · by_cases e2 : j = i + 1
      · rw [hk e1 e2]
      · rw [if_pos ⟨e1, fun h => e2 h.1⟩, if_pos ⟨e1, fun h => e2 h.1⟩]
    · rw [if_neg (fun h => e1 h.1), if_neg (fun h => e1 h.1)]
theorem Gr.jr_congr (hw : G.WF) {r i j p q : Nat} (hr : r < G.k) (hu : G.us r = true) (hij : i < j) (hs : G.sp r i j p q)
    (hT : ∀ x i' j', G.Sb (G.hd r) i j x i' j' → Tb x i' j' = Tb' x i' j') (hk : ∀ t, i ≤ t → t < j → tk t = tk' t) (S : Cell) : G.jr tk Tb r i j p q S = G.jr tk' Tb' r i j p q S := by
  obtain ⟨s0, s1, s2⟩ := Gr.pc_sub hw hr hu hij hs
  unfold Gr.jr
  have e0 : G.pc tk Tb r 0 i (if G.ln r = 1 then j else p) = G.pc tk' Tb' r 0 i (if G.ln r = 1 then j else p) :=
    Gr.pc_congr (fun h => hT _ _ _ (s0 h)) fun _ _ => hk i (Nat.le_refl _) hij
  have e1 : G.pc tk Tb r 1 p (if G.ln r = 2 then j else q) = G.pc tk' Tb' r 1 p (if G.ln r = 2 then j else q) :=
    Gr.pc_congr (fun h => hT _ _ _ (s1 h)) fun h _ => by
      rcases hs with e | ⟨e, s1, s2⟩ | ⟨e, s1, s2, s3⟩
      · omega
      · exact hk p (by omega) (by omega)
      · exact hk p (by omega) (by omega)
  have e2 : G.pc tk Tb r 2 q j = G.pc tk' Tb' r 2 q j :=
    Gr.pc_congr (fun h => hT _ _ _ (s2 h)) fun h _ => by
      rcases hs with e | ⟨e, s1, s2⟩ | ⟨e, s1, s2, s3⟩
      · omega
      · omega
      · exact hk q (by omega) (by omega)
  rw [e0, e1, e2]
theorem Gr.ap_cong (hw : G.WF) {r i j : Nat} (hr : r < G.k) (hu : G.us r = true) (hij : i < j)
    (hT : ∀ x i' j', G.Sb (G.hd r) i j x i' j' → Tb x i' j' = Tb' x i' j') (hk : ∀ t, i ≤ t → t < j → tk t = tk' t) (S : Cell) : G.ap tk Tb r i j S = G.ap tk' Tb' r i j S :=
  Gr.ap_congr (hw.2 r hr).2.2.1 (hw.2 r hr).2.1 (fun p q S hs => Gr.jr_congr hw hr hu hij hs hT hk S) S
theorem Gr.cf_cong (hw : G.WF) {l i j m : Nat} (hm : m ≤ G.k) (hij : i < j)
    (hT : ∀ x i' j', G.Sb l i j x i' j' → Tb x i' j' = Tb' x i' j') (hk : ∀ t, i ≤ t → t < j → tk t = tk' t) : G.cf tk Tb l i j m = G.cf tk' Tb' l i j m := by
  unfold Gr.cf
  refine itr_congr' _ (fun r s hr => ?_) _
  show (if G.us r = true ∧ G.hd r = l then G.ap tk Tb r i j s else s) = if G.us r = true ∧ G.hd r = l then G.ap tk' Tb' r i j s else s
  by_cases e : G.us r = true ∧ G.hd r = l
  · rw [if_pos e, if_pos e]
    exact Gr.ap_cong hw (by omega) e.1 hij (fun x i' j' h => hT x i' j' (e.2 ▸ h)) hk s
  · rw [if_neg e, if_neg e]
theorem Gr.tb_tk (hw : G.WF) : ∀ m l i j, i < j → (∀ t, i ≤ t → t < j → tk t = tk' t) → G.tb tk m l i j = G.tb tk' m l i j := by
  intro m
  induction m with
  | zero => intros; rfl
  | succ m ih =>
    intro l i j hij hk
    exact Gr.cf_cong hw (Nat.le_refl _) hij (fun x i' j' h => ih x i' j' h.2.2.1 fun t h1 h2 => hk t (by have := h.2.1; omega) (by have := h.2.2.2.1; omega)) hk
theorem Gr.T_tk (hw : G.WF) {l i j : Nat} (hij : i < j) (hk : ∀ t, i ≤ t → t < j → tk t = tk' t) : G.T tk l i j = G.T tk' l i j := Gr.tb_tk hw 40 l i j hij hk
theorem Gr.Sb_mu {ρ : Nat → Nat} (hρ : G.Rk ρ) {l i j x i' j' : Nat} (h : G.Sb l i j x i' j') : 5 * (j' - i') + ρ x < 5 * (j - i) + ρ l := by
  obtain ⟨h1, h2, h3, h4, h5⟩ := h
  have := hρ.1 x h1
  rcases h5 with h5 | ⟨rfl, rfl, r, hr, rfl, hu⟩
  · omega
  · have := hρ.2 r hr x h1 hu
    omega
theorem Gr.tb_stable (hw : G.WF) {ρ : Nat → Nat} (hρ : G.Rk ρ) : ∀ m l i j, i < j → 5 * (j - i) + ρ l < m → G.tb tk m l i j = G.tb tk (m + 1) l i j := by
  intro m
  induction m with
  | zero => intro l i j _ h; omega
  | succ m ih =>
    intro l i j hij hm
    exact Gr.cf_cong hw (Nat.le_refl _) hij (fun x i' j' h => ih x i' j' h.2.2.1 (by have := Gr.Sb_mu hρ h; omega)) fun _ _ _ => rfl
/-- the table is made of itself -/
theorem Gr.T_fix (hw : G.WF) {ρ : Nat → Nat} (hρ : G.Rk ρ) {l i j : Nat} (hl : l < 5) (hij : i < j) (hj : j ≤ i + 6) : G.T tk l i j = G.cf tk (G.T tk) l i j G.k := by
  have := hρ.1 l hl
  exact Gr.tb_stable hw hρ 40 l i j hij (by omega)
end TAB
