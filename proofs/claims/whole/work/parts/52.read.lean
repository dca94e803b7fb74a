/-! Reading a text: what both sides read, said of the characters' numbers tx (0 behind the end). -/
def rTx (n : Nat) (tx : Nat → Nat) (t : Nat → Int32) : Prop := n ≤ 240 ∧ (∀ j, j < n → t j = nI (tx j) ∧ 32 ≤ tx j ∧ tx j ≤ 126) ∧ ∀ j, n ≤ j → tx j = 0
theorem rTx.lt {n : Nat} {tx : Nat → Nat} {t : Nat → Int32} (h : rTx n tx t) (j : Nat) : tx j < 127 := by
  by_cases e : j < n
  · have := (h.2.1 j e).2.2; omega
  · have := h.2.2 j (by omega); omega
theorem rTx.inside {n : Nat} {tx : Nat → Nat} {t : Nat → Int32} (h : rTx n tx t) {j : Nat} (hj : tx j ≠ 0) : j < n := Nat.lt_of_not_le fun q => hj (h.2.2 j q)
/-- one text for both -/
theorem rText.tx {n : Nat} {tC mT : Nat → Int32} (h : rText n tC mT) : ∃ tx, rTx n tx tC ∧ rTx n tx mT := by
  have h1 : ∀ j, ∃ c, (j < n → 32 ≤ c ∧ c ≤ 126 ∧ tC j = nI c ∧ mT j = nI c) ∧ (n ≤ j → c = 0) := fun j => by
    by_cases e : j < n
    · obtain ⟨c, hc⟩ := h.2 j e
      exact ⟨c, fun _ => hc, fun q => by omega⟩
    · exact ⟨0, fun q => absurd q e, fun _ => rfl⟩
  refine ⟨fun j => (h1 j).choose, ⟨h.1, fun j hj => ?_, fun j hj => (h1 j).choose_spec.2 hj⟩, ⟨h.1, fun j hj => ?_, fun j hj => (h1 j).choose_spec.2 hj⟩⟩
  · have q := (h1 j).choose_spec.1 hj
    exact ⟨q.2.2.1, q.1, q.2.1⟩
  · have q := (h1 j).choose_spec.1 hj
    exact ⟨q.2.2.2, q.1, q.2.1⟩
theorem p_lt {a b : Nat} {A B : Prop} (ha : a < 2 ^ 31) (hb : b < 2 ^ 31) (f : a < b → A) (g : b ≤ a → B) : (nI a < nI b → A) ∧ (¬ nI a < nI b → B) := ⟨fun h => f ((nI_ltI ha hb).mp h), fun h => g (Nat.le_of_not_lt fun q => h ((nI_ltI ha hb).mpr q))⟩
theorem p_le {a b : Nat} {A B : Prop} (ha : a < 2 ^ 31) (hb : b < 2 ^ 31) (f : a ≤ b → A) (g : b < a → B) : (nI a ≤ nI b → A) ∧ (¬ nI a ≤ nI b → B) := ⟨fun h => f ((nI_leI ha hb).mp h), fun h => g (Nat.lt_of_not_le fun q => h ((nI_leI ha hb).mpr q))⟩
theorem p_eq {a b : Nat} {A B : Prop} (ha : a < 2 ^ 31) (hb : b < 2 ^ 31) (f : a = b → A) (g : a ≠ b → B) : (nI a = nI b → A) ∧ (¬ nI a = nI b → B) := ⟨fun h => f ((nI_eq ha hb).mp h), fun h => g fun q => h ((nI_eq ha hb).mpr q)⟩
def isL (c : Nat) : Prop := 65 ≤ c ∧ c ≤ 69
def isT (c : Nat) : Prop := 97 ≤ c ∧ c ≤ 122
def isD (c : Nat) : Prop := 48 ≤ c ∧ c ≤ 57
theorem ps_isLetter {c : Nat} (hc : c < 2 ^ 31) {post : Int32 → Prop} (h1 : isL c → post 1) (h0 : ¬ isL c → post 0) : v_RT_isLetter (nI c) post := by
  unfold v_RT_isLetter
  refine p_lt (b := 65) hc (by decide) (fun h => h0 (fun q => by have := q.1; omega)) (fun h => ?_)
  exact p_le (a := 70) (by decide) hc (fun g => h0 (fun q => by have := q.2; omega)) (fun g => h1 ⟨h, by omega⟩)
theorem ps_isToken {c : Nat} (hc : c < 2 ^ 31) {post : Int32 → Prop} (h1 : isT c → post 1) (h0 : ¬ isT c → post 0) : v_RT_isToken (nI c) post := by
  unfold v_RT_isToken
  refine p_lt (b := 97) hc (by decide) (fun h => h0 (fun q => by have := q.1; omega)) (fun h => ?_)
  first
    | exact p_lt (a := 122) (by decide) hc (fun g => h0 (fun q => by have := q.2; omega)) (fun g => h1 ⟨h, by omega⟩)
    | exact p_le (b := 122) hc (by decide) (fun g => h1 ⟨h, g⟩) (fun g => h0 (fun q => by have := q.2; omega))
theorem ps_isDigit {c : Nat} (hc : c < 2 ^ 31) {post : Int32 → Prop} (h1 : isD c → post 1) (h0 : ¬ isD c → post 0) : v_RT_isDigit (nI c) post := by
  unfold v_RT_isDigit
  refine p_lt (b := 48) hc (by decide) (fun h => h0 (fun q => by have := q.1; omega)) (fun h => ?_)
  first
    | exact p_lt (a := 57) (by decide) hc (fun g => h0 (fun q => by have := q.2; omega)) (fun g => h1 ⟨h, by omega⟩)
    | exact p_le (b := 57) hc (by decide) (fun g => h1 ⟨h, g⟩) (fun g => h0 (fun q => by have := q.2; omega))
theorem ps_misLetter {c : Nat} (hc : c < 2 ^ 31) {post : Int32 → Prop} (h1 : isL c → post 1) (h0 : ¬ isL c → post 0) : v_M_isLetter (nI c) post := by
  unfold v_M_isLetter
  refine p_lt (b := 65) hc (by decide) (fun h => h0 (fun q => by have := q.1; omega)) (fun h => ?_)
  exact p_lt (a := 69) (by decide) hc (fun g => h0 (fun q => by have := q.2; omega)) (fun g => h1 ⟨h, by omega⟩)
theorem ps_misToken {c : Nat} (hc : c < 2 ^ 31) {post : Int32 → Prop} (h1 : isT c → post 1) (h0 : ¬ isT c → post 0) : v_M_isToken (nI c) post := by
  unfold v_M_isToken
  refine p_lt (b := 97) hc (by decide) (fun h => h0 (fun q => by have := q.1; omega)) (fun h => ?_)
  exact p_lt (a := 122) (by decide) hc (fun g => h0 (fun q => by have := q.2; omega)) (fun g => h1 ⟨h, by omega⟩)
section RD
variable {n : Nat} {tx : Nat → Nat} {t : Nat → Int32}
theorem ps_peek (h : rTx n tx t) {p : Nat} (hp : p < 2 ^ 30) {post : Int32 → Prop} (k : post (nI (tx p))) : v_Reader_peek (nI p) (nI n) t post := by
  have hn := h.1
  unfold v_Reader_peek
  refine p_le (by omega) (by omega) (fun g => ?_) (fun g => ⟨vp_in_nI (by omega) (by decide), ?_⟩)
  · rw [h.2.2 p g] at k; exact k
  · rw [nI_clamp (by omega), (h.2.1 p g).1]; exact k
theorem ps_take (h : rTx n tx t) {p : Nat} (hp : p < 2 ^ 30) {post : Int32 → Int32 → Prop} (k1 : p < n → post (nI (tx p)) (nI (p + 1))) (k0 : n ≤ p → post 0 (nI p)) : v_Reader_take (nI p) (nI n) t post := by
  have hn := h.1
  unfold v_Reader_take
  refine ps_peek h hp (p_le (by omega) (by omega) (fun g => ?_) (fun g => ?_))
  · rw [h.2.2 p g]; exact k0 g
  · have := k1 g; rw [← nI_add p 1] at this; exact this
theorem ps_next (h : rTx n tx t) {p : Nat} (hp : p < 2 ^ 30) {post : Int32 → Prop} (k : post (nI (tx p))) : v_M_next (nI n) (nI p) t post := by
  have hn := h.1
  unfold v_M_next
  refine p_le (by omega) (by omega) (fun g => ?_) (fun g => ⟨vp_in_nI (by omega) (by decide), ?_⟩)
  · rw [h.2.2 p g] at k; exact k
  · rw [nI_clamp (by omega), (h.2.1 p g).1]
    have hc := h.lt p
    exact ⟨(pk_charN (by omega)).1, k⟩
end RD
/-- how many of the characters from p on are of a kind, at most m -/
def prun (P : Nat → Bool) (tx : Nat → Nat) : Nat → Nat → Nat
  | 0, _ => 0
  | m + 1, p => if P (tx p) = true then prun P tx m (p + 1) + 1 else 0
theorem prun_le (P : Nat → Bool) (tx : Nat → Nat) : ∀ m p, prun P tx m p ≤ m
  | 0, _ => Nat.le_refl 0
  | m + 1, p => by
    have := prun_le P tx m (p + 1)
    unfold prun
    split <;> omega
theorem prun_eq {P : Nat → Bool} {tx : Nat → Nat} : ∀ {m p k : Nat}, k ≤ m → (∀ j, j < k → P (tx (p + j)) = true) → (k < m → P (tx (p + k)) = false) → prun P tx m p = k
  | 0, p, k, h, _, _ => by have : k = 0 := by omega
                           subst this; rfl
  | m + 1, p, 0, h, _, h2 => by
    have := h2 (by omega)
    unfold prun
    rw [if_neg (by rw [show p = p + 0 from rfl, this]; decide)]
  | m + 1, p, k + 1, h, h1, h2 => by
    have h3 : P (tx p) = true := h1 0 (by omega)
    unfold prun
    rw [if_pos h3, prun_eq (m := m) (p := p + 1) (k := k) (by omega) (fun j hj => by have := h1 (j + 1) (by omega); rw [show p + 1 + j = p + (j + 1) by omega]; exact this) (fun hk => by have := h2 (by omega); rw [show p + 1 + k = p + (k + 1) by omega]; exact this)]
theorem prun_all {P : Nat → Bool} {tx : Nat → Nat} : ∀ {m p j : Nat}, j < prun P tx m p → P (tx (p + j)) = true
  | 0, p, j, h => absurd h (Nat.not_lt_zero _)
  | m + 1, p, j, h => by
    unfold prun at h
    by_cases e : P (tx p) = true
    · rw [if_pos e] at h
      cases j with
      | zero => exact e
      | succ j =>
        have := prun_all (P := P) (tx := tx) (m := m) (p := p + 1) (j := j) (by omega)
        rw [show p + (j + 1) = p + 1 + j by omega]; exact this
    · rw [if_neg e] at h; exact absurd h (Nat.not_lt_zero _)
def psym (c : Nat) : Bool := decide ((65 ≤ c ∧ c ≤ 69) ∨ (97 ≤ c ∧ c ≤ 122))
def pdig (c : Nat) : Bool := decide (48 ≤ c ∧ c ≤ 57)
theorem psym_t {c : Nat} : psym c = true ↔ isL c ∨ isT c := by simp [psym, isL, isT]
theorem pdig_t {c : Nat} : pdig c = true ↔ isD c := by simp [pdig, isD]
