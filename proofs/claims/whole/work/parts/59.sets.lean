/-! Sets of letters: as bits in the class, as rows of booleans in the model. -/
def b2 (b : Bool) : Int32 := if b then 1 else 0
theorem b2_0 {b : Bool} : b2 b = 0 ↔ b = false := by cases b <;> decide
theorem b2_nar (b : Bool) : vp_nar .boolean (b2 b) = b2 b := by cases b <;> rfl
theorem b2_narrow (b : Bool) : narrow .boolean (.int (b2 b)) = .int (b2 b) := by cases b <;> rfl
def bm5 (a b c d e : Bool) : Int32 := nI ((if a then 1 else 0) + (if b then 2 else 0) + (if c then 4 else 0) + (if d then 8 else 0) + (if e then 16 else 0))
def bms (S : Nat → Bool) : Int32 := bm5 (S 0) (S 1) (S 2) (S 3) (S 4)
def sb5 (S T : Nat → Bool) : Bool := (!S 0 || T 0) && (!S 1 || T 1) && (!S 2 || T 2) && (!S 3 || T 3) && (!S 4 || T 4)
def one5 (l : Nat) : Nat → Bool := fun x => x == l
theorem bm5_or : ∀ a b c d e a' b' c' d' e' : Bool, bm5 a b c d e ||| bm5 a' b' c' d' e' = bm5 (a || a') (b || b') (c || c') (d || d') (e || e') := by decide +kernel
theorem bm5_sub : ∀ a b c d e a' b' c' d' e' : Bool, (bm5 a b c d e &&& (bm5 a' b' c' d' e' ^^^ (-1 : Int32)) = 0) ↔ ((!a || a') && (!b || b') && (!c || c') && (!d || d') && (!e || e')) = true := by decide +kernel
theorem bms_or (S T : Nat → Bool) : bms S ||| bms T = bms (fun l => S l || T l) := bm5_or _ _ _ _ _ _ _ _ _ _
theorem bms_sub (S T : Nat → Bool) : (bms S &&& (bms T ^^^ (-1 : Int32)) = 0) ↔ sb5 S T = true := bm5_sub _ _ _ _ _ _ _ _ _ _
theorem bm5_bit : ∀ a b c d e : Bool, (bm5 a b c d e &&& bms (one5 0) = 0 ↔ a = false) ∧ (bm5 a b c d e &&& bms (one5 1) = 0 ↔ b = false) ∧ (bm5 a b c d e &&& bms (one5 2) = 0 ↔ c = false) ∧ (bm5 a b c d e &&& bms (one5 3) = 0 ↔ d = false) ∧ (bm5 a b c d e &&& bms (one5 4) = 0 ↔ e = false) := by decide +kernel
theorem lt5 {l : Nat} (h : l < 5) : l = 0 ∨ l = 1 ∨ l = 2 ∨ l = 3 ∨ l = 4 := by omega
theorem bms_bit (S : Nat → Bool) {l : Nat} (h : l < 5) : (bms S &&& bms (one5 l) = 0) ↔ S l = false := by
  have := bm5_bit (S 0) (S 1) (S 2) (S 3) (S 4)
  rcases lt5 h with rfl | rfl | rfl | rfl | rfl
  · exact this.1
  · exact this.2.1
  · exact this.2.2.1
  · exact this.2.2.2.1
  · exact this.2.2.2.2
theorem bm5_all : ∀ a b c d e : Bool, bm5 a b c d e = 31 ↔ (a && b && c && d && e) = true := by decide +kernel
theorem bms_all (S : Nat → Bool) : bms S = 31 ↔ ∀ l, l < 5 → S l = true := by
  unfold bms
  rw [bm5_all]
  simp only [Bool.and_eq_true]
  constructor
  · rintro ⟨⟨⟨⟨h0, h1⟩, h2⟩, h3⟩, h4⟩ l hl
    rcases lt5 hl with rfl | rfl | rfl | rfl | rfl <;> assumption
  · exact fun h => ⟨⟨⟨⟨h 0 (by decide), h 1 (by decide)⟩, h 2 (by decide)⟩, h 3 (by decide)⟩, h 4 (by decide)⟩
theorem bms_0 : bms (fun _ => false) = 0 := by decide
theorem bitOf_t : ∀ l : Nat, l < 5 → (1 : Int32) <<< ((nI (65 + l) - (65 : Int32)) &&& 31) = bms (one5 l) := by decide +kernel
theorem ps_bitOf {l : Nat} (h : l < 5) {post : Int32 → Prop} (k : post (bms (one5 l))) : v_RT_bitOf (nI (65 + l)) post := by
  unfold v_RT_bitOf
  rw [bitOf_t l h]
  exact k
theorem sb5_iff (S T : Nat → Bool) : sb5 S T = true ↔ ∀ l, l < 5 → S l = true → T l = true := by
  unfold sb5
  simp only [Bool.and_eq_true, Bool.or_eq_true, Bool.not_eq_true']
  have im : ∀ {a b : Bool}, (a = false ∨ b = true) ↔ (a = true → b = true) := by intro a b; cases a <;> cases b <;> decide
  rw [im, im, im, im, im]
  constructor
  · rintro ⟨⟨⟨⟨h0, h1⟩, h2⟩, h3⟩, h4⟩ l hl
    rcases lt5 hl with rfl | rfl | rfl | rfl | rfl <;> assumption
  · exact fun h => ⟨⟨⟨⟨h 0 (by decide), h 1 (by decide)⟩, h 2 (by decide)⟩, h 3 (by decide)⟩, h 4 (by decide)⟩
/-- how many letters -/
def cd5 (S : Nat → Bool) : Nat := (S 0).toNat + (S 1).toNat + (S 2).toNat + (S 3).toNat + (S 4).toNat
theorem cd5_le (S : Nat → Bool) : cd5 S ≤ 5 := by
  have q : ∀ b : Bool, b.toNat ≤ 1 := by decide
  have := q (S 0); have := q (S 1); have := q (S 2); have := q (S 3); have := q (S 4)
  unfold cd5
  omega
theorem tN_mono {a b : Bool} (h : a = true → b = true) : a.toNat ≤ b.toNat := by cases a <;> cases b <;> simp_all
theorem cd5_mono {S T : Nat → Bool} (h : ∀ l, l < 5 → S l = true → T l = true) : cd5 S ≤ cd5 T := by
  have := tN_mono (h 0 (by decide)); have := tN_mono (h 1 (by decide)); have := tN_mono (h 2 (by decide)); have := tN_mono (h 3 (by decide)); have := tN_mono (h 4 (by decide))
  unfold cd5
  omega
theorem cd5_lt {S T : Nat → Bool} (h : ∀ l, l < 5 → S l = true → T l = true) {x : Nat} (hx : x < 5) (h0 : S x = false) (h1 : T x = true) : cd5 S < cd5 T := by
  have := tN_mono (h 0 (by decide)); have := tN_mono (h 1 (by decide)); have := tN_mono (h 2 (by decide)); have := tN_mono (h 3 (by decide)); have := tN_mono (h 4 (by decide))
  have a0 : (S x).toNat = 0 := by rw [h0]; rfl
  have a1 : (T x).toNat = 1 := by rw [h1]; rfl
  unfold cd5
  rcases lt5 hx with rfl | rfl | rfl | rfl | rfl <;> omega
theorem cd5_5 {S : Nat → Bool} (h : 5 ≤ cd5 S) : ∀ l, l < 5 → S l = true := by
  intro l hl
  have q : ∀ b : Bool, b.toNat ≤ 1 := by decide
  have := q (S 0); have := q (S 1); have := q (S 2); have := q (S 3); have := q (S 4)
  unfold cd5 at h
  cases e : S l with
  | true => rfl
  | false =>
    have a0 : (S l).toNat = 0 := by rw [e]; rfl
    rcases lt5 hl with rfl | rfl | rfl | rfl | rfl <;> omega
/-- f over 0 .. n-1, in order -/
def itr {α : Type} (f : α → Nat → α) : Nat → α → α
  | 0, s => s
  | n + 1, s => f (itr f n s) n
/-- S, and T if c -/
def ad5 (S : Nat → Bool) (c : Bool) (T : Nat → Bool) : Nat → Bool := fun l => S l || (c && T l)
theorem ad5_f (S T : Nat → Bool) : ad5 S false T = S := by funext l; simp [ad5]
theorem ad5_t (S T : Nat → Bool) : ad5 S true T = fun l => S l || T l := by funext l; simp [ad5]
theorem ad5_mono {S T : Nat → Bool} {c : Bool} {l : Nat} (h : S l = true) : ad5 S c T l = true := by simp [ad5, h]
/-- where it adds, there are more -/
theorem ad5_grow {S T : Nat → Bool} {c : Bool} (hT : ∀ l, T l = true → l < 5) (h : ad5 S c T ≠ S) : cd5 S < cd5 (ad5 S c T) := by
  have : ∃ l, S l = false ∧ ad5 S c T l = true := Classical.byContradiction fun q => h (funext fun l => by
    cases e : S l with
    | true => exact ad5_mono e
    | false =>
      cases e' : ad5 S c T l with
      | false => rfl
      | true => exact absurd ⟨l, e, e'⟩ q)
  obtain ⟨l, h0, h1⟩ := this
  have hl : l < 5 := by
    unfold ad5 at h1
    rw [h0] at h1
    simp only [Bool.false_or, Bool.and_eq_true] at h1
    exact hT l h1.2
  exact cd5_lt (fun l _ => ad5_mono) hl h0 h1
section RND
variable {k : Nat} {st : (Nat → Bool) → Nat → Nat → Bool}
theorem rnd_one (hg : ∀ S i, i < k → st S i ≠ S → cd5 S < cd5 (st S i)) (S : Nat → Bool) : ∀ m, m ≤ k → ((∀ i, i < m → st S i = S) ∧ itr st m S = S) ∨ cd5 S < cd5 (itr st m S) := by
  intro m
  induction m with
  | zero => exact fun _ => Or.inl ⟨fun i hi => absurd hi (Nat.not_lt_zero i), rfl⟩
  | succ m ih =>
    intro hm
    show (_ ∧ st (itr st m S) m = S) ∨ cd5 S < cd5 (st (itr st m S) m)
    rcases ih (by omega) with ⟨h1, h2⟩ | h
    · rw [h2]
      by_cases e : st S m = S
      · refine Or.inl ⟨fun i hi => ?_, e⟩
        by_cases q : i = m
        · rw [q]; exact e
        · exact h1 i (by omega)
      · exact Or.inr (hg S m (by omega) e)
    · by_cases e : st (itr st m S) m = itr st m S
      · rw [e]; exact Or.inr h
      · exact Or.inr (Nat.lt_trans h (hg _ m (by omega) e))
theorem rnd_cl {S : Nat → Bool} (h : ∀ i, i < k → st S i = S) : ∀ m, m ≤ k → itr st m S = S := by
  intro m
  induction m with
  | zero => exact fun _ => rfl
  | succ m ih => intro hm; show st (itr st m S) m = S; rw [ih (by omega)]; exact h m (by omega)
theorem rnd_all (hg : ∀ S i, i < k → st S i ≠ S → cd5 S < cd5 (st S i)) (S : Nat → Bool) : ∀ t, (∀ i, i < k → st (itr (fun X _ => itr st k X) t S) i = itr (fun X _ => itr st k X) t S) ∨ cd5 S + t ≤ cd5 (itr (fun X _ => itr st k X) t S) := by
  intro t
  induction t with
  | zero => exact Or.inr (Nat.le_refl _)
  | succ t ih =>
    show (∀ i, i < k → st (itr st k (itr (fun X _ => itr st k X) t S)) i = itr st k (itr (fun X _ => itr st k X) t S)) ∨ cd5 S + (t + 1) ≤ cd5 (itr st k (itr (fun X _ => itr st k X) t S))
    rcases ih with h | h
    · rw [rnd_cl h k (Nat.le_refl _)]; exact Or.inl h
    · rcases rnd_one hg (itr (fun X _ => itr st k X) t S) k (Nat.le_refl _) with ⟨h1, h2⟩ | h'
      · rw [h2]; exact Or.inl h1
      · exact Or.inr (by omega)
/-- after as many rounds as letters can come nothing comes -/
theorem rnd_end (hg : ∀ S i, i < k → st S i ≠ S → cd5 S < cd5 (st S i)) (S : Nat → Bool) {t : Nat} (ht : 5 ≤ cd5 S + t) : ∀ i, i < k → st (itr (fun X _ => itr st k X) t S) i = itr (fun X _ => itr st k X) t S := by
  rcases rnd_all hg S t with h | h
  · exact h
  · intro i hi
    refine Classical.byContradiction fun q => ?_
    have := hg _ i hi q
    have := cd5_le (st (itr (fun X _ => itr st k X) t S) i)
    omega
theorem itr_mono (hm : ∀ S i l, S l = true → st S i l = true) {S : Nat → Bool} {l : Nat} : ∀ {m n : Nat}, m ≤ n → itr st m S l = true → itr st n S l = true := by
  intro m n h
  induction n with
  | zero => rw [Nat.le_zero.mp h]; exact id
  | succ n ih =>
    by_cases e : m = n + 1
    · rw [e]; exact id
    · exact fun q => hm _ _ _ (ih (by omega) q)
end RND
