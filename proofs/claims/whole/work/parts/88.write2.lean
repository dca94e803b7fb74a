/-! write, as the law calls it. -/
theorem ps_both2 {x : Int64} {n : Nat} {f0 : Int32} {tC mT : Nat → Int32} {A B : Prop} (hA : A) (hB : B) (hr : rText n tC mT) {K : Int32 → Int32 → (Nat → Int32) → Int32 → Int32 → (Nat → Int32) → Prop}
    (hK : ∀ (r : Int32) (n' : Nat) (t t' : Nat → Int32), narrow .boolean (.int r) = .int r → rText n' t t' → K r (nI n') t 0 (nI n') t') :
    v_RT_write x (nI n) tC (fun r a b => A ∧ B ∧ v_M_write x f0 (nI n) mT (fun r' f a' b' => (r = r' → K r a b f a' b') ∧ (¬ r = r' → False))) := by
  obtain ⟨hn, hc⟩ := hr
  unfold v_RT_write
  refine ps_add hn (fun hg hle t h1 h2 => ⟨rfl, hA, hB, ?_⟩) (fun hb t h1 => ⟨rfl, hA, hB, ?_⟩)
  · refine ps_mwrite hn (fun _ _ t' h1' h2' => p_and (fun _ => hK 1 _ t t' rfl ⟨hle, fun j hj => ?_⟩) (fun h => absurd rfl h)) (fun hb => absurd ⟨hg, hle⟩ hb)
    by_cases e : j < n
    · obtain ⟨c, c1, c2, c3, c4⟩ := hc j e
      exact ⟨c, c1, c2, (h1 j e).trans c3, (h1' j e).trans c4⟩
    · -- the j-th of the new ones
      have key : ∀ k, k ≤ 8 → j < n + pcnt x k → ∃ i, i < k ∧ pzB x i ≠ 0 ∧ j = n + pcnt x i := by
        intro k
        induction k with
        | zero => intro _ h; exact absurd (show j < n from h) e
        | succ k ih =>
          intro hk h
          by_cases hz : pzB x k = 0
          · rw [pcnt_z hz] at h
            obtain ⟨i, a, b⟩ := ih (by omega) h
            exact ⟨i, by omega, b⟩
          · rw [pcnt_nz hz] at h
            by_cases h9 : j < n + pcnt x k
            · obtain ⟨i, a, b⟩ := ih (by omega) h9
              exact ⟨i, by omega, b⟩
            · exact ⟨k, by omega, hz, by omega⟩
      obtain ⟨i, a, b, rfl⟩ := key 8 (by omega) hj
      have hgi := hg i a
      exact ⟨pzB x i, by omega, by omega, h2 i a b, h2' i a b⟩
  · refine ps_mwrite hn (fun hg hle => absurd ⟨hg, hle⟩ hb) (fun _ => p_and (fun _ => hK 0 n t mT rfl ⟨hn, fun j hj => ?_⟩) (fun h => absurd rfl h))
    obtain ⟨c, c1, c2, c3, c4⟩ := hc j hj
    exact ⟨c, c1, c2, (h1 j hj).trans c3, c4⟩
