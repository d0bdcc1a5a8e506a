theorem cho_l {n : Nat} {σ : zS} (hn : n ≤ 60) : ∀ (m j : Nat) (τ : zS), j ≤ 60 → 60 - j < m → τ 2 6 = nI n → ∀ k i : Nat, L_X2_countHandOver_2 σ m τ (nI j) k i = if k = 7 ∧ j ≤ i ∧ i < n ∧ ¬ τ 5 i = 0 then τ 7 i + 1 else τ k i := by
  intro m
  induction m with
  | zero => intro j τ h1 h2; omega
  | succ m ih =>
    intro j τ h1 h2 h0 k i
    unfold L_X2_countHandOver_2
    by_cases e : j = 60
    · rw [if_pos ((n60 (by omega)).mpr (by omega)), if_neg (by omega)]
    · rw [if_neg (show ¬ (60 : Int32) ≤ nI j from fun z => e (by have := (n60 (by omega)).mp z; omega)), isOpen_v hn h0 (by omega), nI_1, ni_cl (by omega)]
      by_cases c : j < n ∧ ¬ τ 5 j = 0
      · rw [if_pos c, if_neg i10, ih (j + 1) _ (by omega) (by omega) (by rw [zs_ne (by decide), h0]), zs_ne (show 5 ≠ 7 by decide)]
        simp only [zs_rd]
        by_cases q : k = 7 ∧ i = j
        · obtain ⟨rfl, rfl⟩ := q
          rw [if_neg (by omega), if_pos ⟨rfl, rfl⟩, if_pos ⟨rfl, Nat.le_refl _, c.1, c.2⟩]
        · by_cases q2 : k = 7 ∧ j + 1 ≤ i ∧ i < n ∧ ¬ τ 5 i = 0
          · rw [if_pos q2, if_neg (by omega), if_pos ⟨q2.1, by omega, q2.2.2⟩]
          · rw [if_neg q2, if_neg q, if_neg (fun z => q2 ⟨z.1, by omega, z.2.2⟩)]
      · rw [if_neg c, if_pos rfl, ih (j + 1) τ (by omega) (by omega) h0]
        by_cases q2 : k = 7 ∧ j + 1 ≤ i ∧ i < n ∧ ¬ τ 5 i = 0
        · rw [if_pos q2, if_pos ⟨q2.1, by omega, q2.2.2⟩]
        · rw [if_neg q2, if_neg]
          intro z
          by_cases w : i = j
          · rw [w] at z
            exact c z.2.2
          · exact q2 ⟨z.1, by omega, z.2.2⟩
theorem cho_v {n : Nat} {σ : zS} (hn : n ≤ 60) (h0 : σ 2 6 = nI n) (k i : Nat) : f_X2_countHandOver σ k i = if k = 7 ∧ i < n ∧ ¬ σ 5 i = 0 then σ 7 i + 1 else σ k i := by
  have h := cho_l (σ := σ) hn 61 0 σ (by omega) (by omega) h0 k i
  rw [nI_0] at h
  unfold f_X2_countHandOver
  rw [h]
  by_cases q : k = 7 ∧ i < n ∧ ¬ σ 5 i = 0
  · rw [if_pos ⟨q.1, Nat.zero_le _, q.2⟩, if_pos q]
  · rw [if_neg (fun z => q ⟨z.1, z.2.2⟩), if_neg q]
