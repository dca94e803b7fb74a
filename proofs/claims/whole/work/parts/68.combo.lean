/-! All choices of three parts, and where it is enough to look at some. -/
theorem itr_inv {α : Type} {f : α → Nat → α} {P : α → Prop} (h : ∀ s t, P s → P (f s t)) : ∀ n s, P s → P (itr f n s)
  | 0, _, hs => hs
  | n + 1, s, hs => h _ _ (itr_inv h n s hs)
theorem itr_stop {α : Type} {f : α → Nat → α} {s : α} {c : Nat} (h : ∀ t, c ≤ t → f (itr f c s) t = itr f c s) : ∀ n, c ≤ n → itr f n s = itr f c s := by
  intro n
  induction n with
  | zero => intro hc; rw [Nat.le_zero.mp hc]
  | succ n ih =>
    intro hc
    by_cases e : c = n + 1
    · rw [e]
    · show f (itr f n s) n = _
      rw [ih (by omega)]
      exact h n (by omega)
theorem itr_stop' {α : Type} {f : α → Nat → α} {s : α} {c N : Nat} (h : ∀ t, c ≤ t → t < N → f (itr f c s) t = itr f c s) : ∀ n, c ≤ n → n ≤ N → itr f n s = itr f c s := by
  intro n
  induction n with
  | zero => intro hc _; rw [Nat.le_zero.mp hc]
  | succ n ih =>
    intro hc hN
    by_cases e : c = n + 1
    · rw [e]
    · show f (itr f n s) n = _
      rw [ih (by omega) (by omega)]
      exact h n (by omega) (by omega)
theorem itr_congr {α : Type} {f g : α → Nat → α} : ∀ {n : Nat}, (∀ t s, t < n → f s t = g s t) → ∀ s, itr f n s = itr g n s := by
  intro n
  induction n with
  | zero => intro _ s; rfl
  | succ n ih =>
    intro h s
    show f (itr f n s) n = g (itr g n s) n
    rw [ih (fun t s ht => h t s (by omega)) s]
    exact h n _ (by omega)
noncomputable def cR (mk : Nat → Nat → Nat → Tr) (a b C : Nat) (R : Row) : Row := itr (fun R c => insR (mk a b c) R) C R
noncomputable def cP (mk : Nat → Nat → Nat → Tr) (a B C : Nat) (R : Row) : Row := itr (fun R b => cR mk a b C R) B R
noncomputable def cA (mk : Nat → Nat → Nat → Tr) (A B C : Nat) (R : Row) : Row := itr (fun R a => cP mk a B C R) A R
theorem cR_ok {mk : Nat → Nat → Nat → Tr} {a b C : Nat} {R : Row} (h : R.ok) : (cR mk a b C R).ok := itr_inv (P := Row.ok) (fun _ _ h => insR_ok h) C R h
theorem cP_ok {mk : Nat → Nat → Nat → Tr} {a B C : Nat} {R : Row} (h : R.ok) : (cP mk a B C R).ok := itr_inv (P := Row.ok) (fun _ _ h => cR_ok h) B R h
theorem cA_ok {mk : Nat → Nat → Nat → Tr} {A B C : Nat} {R : Row} (h : R.ok) : (cA mk A B C R).ok := itr_inv (P := Row.ok) (fun _ _ h => cP_ok h) A R h
theorem gain {f : Row → Nat → Row} {X : Tr} {g s : Nat} (ho : ∀ R t, R.ok → (f R t).ok) (h1 : ∀ t R m, t < s → R.ok → m ≤ 8 → atl X R m → atl X (f R t) (min 8 (m + g))) (h0 : ∀ t R m, R.ok → atl X R m → atl X (f R t) m) :
    ∀ n R m, R.ok → m ≤ 8 → atl X R m → atl X (itr f n R) (min 8 (m + min n s * g)) := by
  intro n
  induction n with
  | zero => intro R m hR hm ha; rw [Nat.zero_min, Nat.zero_mul, Nat.add_zero, Nat.min_eq_right hm]; exact ha
  | succ n ih =>
    intro R m hR hm ha
    have hi := ih R m hR hm ha
    have hok : (itr f n R).ok := itr_inv (P := Row.ok) (fun s t h => ho s t h) n R hR
    show atl X (f (itr f n R) n) _
    by_cases e : n < s
    · have := h1 n _ _ e hok (Nat.min_le_left _ _) hi
      have e2 : min (n + 1) s * g = min n s * g + g := by
        rw [Nat.min_eq_left (show n + 1 ≤ s from e), Nat.min_eq_left (show n ≤ s by omega), Nat.succ_mul]
      rw [e2]
      have e3 : min 8 (min 8 (m + min n s * g) + g) = min 8 (m + (min n s * g + g)) := by omega
      rw [e3] at this
      exact this
    · have e2 : min (n + 1) s = min n s := by omega
      rw [e2]
      exact h0 n _ _ hok hi
section CMB
variable {mk : Nat → Nat → Nat → Tr} {A B C : Nat}
/-- later choices make later trees -/
def cmono (mk : Nat → Nat → Nat → Tr) (A B C : Nat) : Prop := ∀ a b c a' b' c', a ≤ a' → b ≤ b' → c ≤ c' → a' < A → b' < B → c' < C → tle (mk a b c) (mk a' b' c')
theorem cR_keep {X : Tr} {a b n m : Nat} {R : Row} (hR : R.ok) (h : atl X R m) : atl X (cR mk a b n R) m := by
  have := itr_inv (f := fun R c => insR (mk a b c) R) (P := fun R => R.ok ∧ atl X R m) (fun s t h => ⟨insR_ok h.1, atl_ins h.1 h.2⟩) n R ⟨hR, h⟩
  exact this.2
theorem cP_keep {X : Tr} {a n c m : Nat} {R : Row} (hR : R.ok) (h : atl X R m) : atl X (cP mk a n c R) m := by
  have := itr_inv (f := fun R b => cR mk a b c R) (P := fun R => R.ok ∧ atl X R m) (fun s t h => ⟨cR_ok h.1, cR_keep h.1 h.2⟩) n R ⟨hR, h⟩
  exact this.2
theorem cA_keep {X : Tr} {n b c m : Nat} {R : Row} (hR : R.ok) (h : atl X R m) : atl X (cA mk n b c R) m := by
  have := itr_inv (f := fun R a => cP mk a b c R) (P := fun R => R.ok ∧ atl X R m) (fun s t h => ⟨cP_ok h.1, cP_keep h.1 h.2⟩) n R ⟨hR, h⟩
  exact this.2
theorem cR_gain (hm : cmono mk A B C) {a b c a' b' n m : Nat} {R : Row} (ha : a < A) (hb : b < B) (hc : c < C) (ha' : a' ≤ a) (hb' : b' ≤ b) (hR : R.ok) (h8 : m ≤ 8) (h : atl (mk a b c) R m) : atl (mk a b c) (cR mk a' b' n R) (min 8 (m + min n (c + 1) * 1)) :=
  gain (fun _ _ h => insR_ok h) (fun t R m ht hR _ h => atl_ins1 hR (hm a' b' t a b c ha' hb' (by omega) ha hb hc) h) (fun t R m hR h => atl_ins hR h) n R m hR h8 h
theorem cP_gain (hm : cmono mk A B C) {a b c a' n m : Nat} {R : Row} (ha : a < A) (hb : b < B) (hc : c < C) (ha' : a' ≤ a) (hR : R.ok) (h8 : m ≤ 8) (h : atl (mk a b c) R m) : atl (mk a b c) (cP mk a' n C R) (min 8 (m + min n (b + 1) * (c + 1))) := by
  refine gain (fun _ _ h => cR_ok h) (fun t R m ht hR h8 h => ?_) (fun t R m hR h => cR_keep hR h) n R m hR h8 h
  have := cR_gain hm ha hb hc ha' (show t ≤ b by omega) hR h8 h (n := C)
  rw [Nat.min_eq_right (show c + 1 ≤ C from hc), Nat.mul_one] at this
  exact this
theorem cA_gain (hm : cmono mk A B C) {a b c n m : Nat} {R : Row} (ha : a < A) (hb : b < B) (hc : c < C) (hR : R.ok) (h8 : m ≤ 8) (h : atl (mk a b c) R m) : atl (mk a b c) (cA mk n B C R) (min 8 (m + min n (a + 1) * ((b + 1) * (c + 1)))) := by
  refine gain (fun _ _ h => cP_ok h) (fun t R m ht hR h8 h => ?_) (fun t R m hR h => cP_keep hR h) n R m hR h8 h
  have := cP_gain hm ha hb hc (show t ≤ a by omega) hR h8 h (n := B)
  rw [Nat.min_eq_right (show b + 1 ≤ B from hb)] at this
  exact this
/-- with nine choices at or before it there is no room for it -/
theorem cut9 (hm : cmono mk A B C) {a b c : Nat} {R : Row} (ha : a < A) (hb : b < B) (hc : c < C) (hR : R.ok) (h9 : 8 < (a + 1) * (b + 1) * (c + 1)) : atl (mk a b c) (cR mk a b c (cP mk a b C (cA mk a B C R))) 8 := by
  have h0 : atl (mk a b c) R 0 := ⟨Nat.zero_le _, fun q hq => absurd hq (Nat.not_lt_zero q)⟩
  have h1 := cA_gain hm ha hb hc hR (by decide) h0 (n := a)
  have h2 := cP_gain hm ha hb hc (Nat.le_refl a) (cA_ok hR) (Nat.min_le_left _ _) h1 (n := b)
  have h3 := cR_gain hm ha hb hc (Nat.le_refl a) (Nat.le_refl b) (cP_ok (cA_ok hR)) (Nat.min_le_left _ _) h2 (n := c)
  have e : (a + 1) * (b + 1) * (c + 1) = a * ((b + 1) * (c + 1)) + (b * (c + 1) + c) + 1 := by
    rw [Nat.mul_assoc, Nat.succ_mul a, Nat.succ_mul b]
    omega
  rw [Nat.min_eq_left (show a ≤ a + 1 by omega), Nat.min_eq_left (show b ≤ b + 1 by omega), Nat.min_eq_left (show c ≤ c + 1 by omega)] at h3
  have e8 : min 8 (min 8 (min 8 (0 + a * ((b + 1) * (c + 1))) + b * (c + 1)) + c * 1) = 8 := by
    generalize a * ((b + 1) * (c + 1)) = u at *
    generalize b * (c + 1) = v at *
    omega
  rw [e8] at h3
  exact h3
/-- where one of a row finds no room, none behind it does -/
theorem cR_rest (hm : cmono mk A B C) {a b c : Nat} {R : Row} (ha : a < A) (hb : b < B) (hc : c ≤ C) (hR : R.ok) (h : c < C → atl (mk a b c) (cR mk a b c R) 8) : cR mk a b C R = cR mk a b c R := by
  refine itr_stop' (N := C) (fun t h1 h2 => ?_) C hc (Nat.le_refl _)
  exact rej_ins (cR_ok hR) (atl_le (hm a b c a b t (Nat.le_refl _) (Nat.le_refl _) h1 ha hb h2) (h (by omega)))
theorem cR_none {a b C : Nat} {R : Row} (hR : R.ok) (h : ∀ c, c < C → atl (mk a b c) R 8) : cR mk a b C R = R :=
  itr_stop' (f := fun R c => insR (mk a b c) R) (s := R) (c := 0) (N := C) (fun t _ h2 => rej_ins hR (h t h2)) C (Nat.zero_le _) (Nat.le_refl _)
theorem cP_rest (hm : cmono mk A B C) {a b : Nat} {R : Row} (ha : a < A) (hb : b ≤ B) (hR : R.ok) (h : b < B → 0 < C → atl (mk a b 0) (cP mk a b C R) 8) : cP mk a B C R = cP mk a b C R := by
  refine itr_stop' (N := B) (fun t h1 h2 => ?_) B hb (Nat.le_refl _)
  exact cR_none (cP_ok hR) fun c hc => atl_le (hm a b 0 a t c (Nat.le_refl _) h1 (Nat.zero_le _) ha h2 hc) (h (by omega) (by omega))
theorem cP_none {a B C : Nat} {R : Row} (hR : R.ok) (h : ∀ b c, b < B → c < C → atl (mk a b c) R 8) : cP mk a B C R = R :=
  itr_stop' (f := fun R b => cR mk a b C R) (s := R) (c := 0) (N := B) (fun t _ h2 => cR_none hR fun c hc => h t c h2 hc) B (Nat.zero_le _) (Nat.le_refl _)
theorem cA_rest (hm : cmono mk A B C) {a : Nat} {R : Row} (ha : a ≤ A) (hR : R.ok) (h : a < A → 0 < B → 0 < C → atl (mk a 0 0) (cA mk a B C R) 8) : cA mk A B C R = cA mk a B C R := by
  refine itr_stop' (N := A) (fun t h1 h2 => ?_) A ha (Nat.le_refl _)
  exact cP_none (cA_ok hR) fun b c hb hc => atl_le (hm a 0 0 t b c h1 (Nat.zero_le _) (Nat.zero_le _) h2 hb hc) (h (by omega) (by omega) (by omega))
end CMB
