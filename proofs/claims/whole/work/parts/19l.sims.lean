def tak (τ : zS) : zS := zs (zs (zs (zs τ 50 (τ 29 24).toNatClampNeg (τ 29 0)) 29 24 (τ 29 26)) 29 25 (τ 29 0)) 29 26 (-1)
theorem tak_l (σ : zS) {n : Nat} (hn : n ≤ 60) : ∀ (m j : Nat) (τ : zS), τ 29 7 = nI n → j ≤ n → n - j < m → ∃ ρ : zS, L_X6_take_39 σ m τ (nI j) = (f_X6_open (tak ρ), tak ρ) ∧ ∀ k i : Nat, ρ k i = if k = 34 ∧ j ≤ i ∧ i < n ∧ ¬ τ 32 i = 0 then τ 34 i + 1 else τ k i := by
  intro m
  induction m with
  | zero => intro j τ h0 h1 h2; omega
  | succ m ih =>
    intro j τ h0 h1 h2
    unfold L_X6_take_39
    rw [h0]
    by_cases e : j = n
    · rw [if_pos ((ni_le (by omega) (by omega)).mpr (by omega))]
      exact ⟨τ, rfl, fun k i => by rw [if_neg (by omega)]⟩
    · rw [if_neg (show ¬ nI n ≤ nI j from fun z => e (by have := (ni_le (by omega) (by omega)).mp z; omega)), nI_1, ni_cl (by omega), ni_a0]
      by_cases c : τ 32 j = 0
      · rw [if_pos c]
        obtain ⟨ρ, h3, h4⟩ := ih (j + 1) (zs τ 34 j (τ 34 j)) (by rw [zs_ne (by decide), h0]) (by omega) (by omega)
        refine ⟨ρ, h3, fun k i => ?_⟩
        have es : ∀ a b : Nat, zs τ 34 j (τ 34 j) a b = τ a b := fun a b => by
          rw [zs_rd]
          by_cases q : a = 34 ∧ b = j
          · rw [if_pos q, q.1, q.2]
          · rw [if_neg q]
        rw [h4, es, es, es]
        by_cases q : k = 34 ∧ j + 1 ≤ i ∧ i < n ∧ ¬ τ 32 i = 0
        · rw [if_pos q, if_pos ⟨q.1, by omega, q.2.2⟩]
        · rw [if_neg q, if_neg]
          intro z
          by_cases w : i = j
          · rw [w] at z
            exact z.2.2.2 c
          · exact q ⟨z.1, by omega, z.2.2⟩
      · rw [if_neg c]
        obtain ⟨ρ, h3, h4⟩ := ih (j + 1) (zs τ 34 j (τ 34 j + 1)) (by rw [zs_ne (by decide), h0]) (by omega) (by omega)
        refine ⟨ρ, h3, fun k i => ?_⟩
        rw [h4, zs_ne (show 32 ≠ 34 by decide)]
        simp only [zs_rd]
        by_cases q : k = 34 ∧ i = j
        · obtain ⟨rfl, rfl⟩ := q
          rw [if_neg (by omega), if_pos ⟨rfl, rfl⟩, if_pos ⟨rfl, Nat.le_refl _, by omega, c⟩]
        · by_cases q2 : k = 34 ∧ j + 1 ≤ i ∧ i < n ∧ ¬ τ 32 i = 0
          · rw [if_pos q2, if_neg (by omega), if_pos ⟨q2.1, by omega, q2.2.2⟩]
          · rw [if_neg q2, if_neg q, if_neg (fun z => q2 ⟨z.1, by omega, z.2.2⟩)]
