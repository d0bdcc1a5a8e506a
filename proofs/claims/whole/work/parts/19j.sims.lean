theorem pas_c (a : Int32) : (¬ (¬ a < 1 ∧ a ≤ 48) ∧ f_X6_in a.toInt64 1 48 = 0) ∨ (¬ a < 1 ∧ a ≤ 48 ∧ f_X6_in a.toInt64 1 48 = 1 ∧ ∃ j : Nat, 1 ≤ j ∧ j ≤ 48 ∧ a = nI j) := by
  rcases in_c a 1 48 (by decide) (by decide) with ⟨h1, h2⟩ | ⟨h1, j, h2, h3, rfl⟩
  · have e0 : (1 : Int64).toInt = 1 := by decide
    have e7 : (48 : Int64).toInt = 48 := by decide
    rw [e0, e7] at h2
    refine Or.inl ⟨?_, h1⟩
    rw [Int32.lt_iff_toInt_lt, Int32.le_iff_toInt_le]
    have g1 := show (1 : Int32).toInt = 1 by decide
    have g5 := show (48 : Int32).toInt = 48 by decide
    omega
  · have e0 : (1 : Int64).toInt = 1 := by decide
    have e7 : (48 : Int64).toInt = 48 := by decide
    rw [e0] at h2
    rw [e7] at h3
    refine Or.inr ⟨?_, ?_, h1, j, by omega, by omega, rfl⟩
    · rw [show (1 : Int32) = nI 1 from rfl, ni_lt (by omega) (by omega)]; omega
    · rw [show (48 : Int32) = nI 48 from rfl, ni_le (by omega) (by omega)]; omega
theorem cos_v (σ : zS) (w : Int32) : f_X0_countOnShelf σ w = nI (cnt (fun a => f_X0_isOnShelf σ (nI a) w) 32) := by
  have h := cos_l σ w 33 0 (by omega) (by omega)
  rw [nI_0] at h
  exact h
theorem cos_s {σ τ : zS} (h10 : τ 10 = σ 10) (h12 : τ 12 = σ 12) (w : Int32) : f_X0_countOnShelf τ w = f_X0_countOnShelf σ w := by
  rw [cos_v, cos_v]
  have e : (fun a => f_X0_isOnShelf τ (nI a) w) = (fun a => f_X0_isOnShelf σ (nI a) w) := by
    funext a
    unfold f_X0_isOnShelf f_X0_isActive
    rw [h10, h12]
  rw [e]
theorem sim_pass {t : Nat} {σ : zS} (h : zR t σ) (ht : t < 512) (a1 : Int32) : zI (f_X5_pass σ a1).2.2 ∧ f_X6_thrown (f_X6_pass (f_X5_pass σ a1).2.2 a1).2 = f_L_pass (f_X5_pass σ a1).1 ∧ (f_L_pass (f_X5_pass σ a1).1 = 0 → (f_X5_pass σ a1).1 = 0 ∧ (f_X6_pass (f_X5_pass σ a1).2.2 a1).1 = (f_X5_pass σ a1).2.1) ∧ zR (t + 1) (f_X6_pass (f_X5_pass σ a1).2.2 a1).2 := by
  have hI := zR_I h
  have hT := fun c => zR_thr (c := c) h
  obtain ⟨n, hr, hn, hh, hH, hL, hA, hP, hQ, hC⟩ := h
  unfold f_X5_pass f_L_pass
  rcases pas_c a1 with ⟨g1, g2⟩ | ⟨g1, g2, g3, p, g4, g5, rfl⟩
  · have z6 : f_X6_pass σ a1 = ((-1), zs σ 29 28 1) := by unfold f_X6_pass; rw [g2, if_pos rfl]
    by_cases q1 : a1 < 1
    · simp [q1, z6, hI, hT, thr_v]
    · have q2 : ¬ a1 ≤ 48 := fun z => g1 ⟨q1, z⟩
      simp [q1, q2, z6, hI, hT, thr_v]
  · simp only [if_neg g1, if_pos g2]
    have e0 : σ 0 6 + nI p = nI (hr + p) := by rw [hH.1, nI_add]
    have ec := cos_s (σ := σ) (τ := zs σ 0 6 (σ 0 6 + nI p)) (zs_ne (by decide)) (zs_ne (by decide)) (σ 0 6 + nI p)
    rw [ec, cos_v, cos_v, e0, hH.1, pas_s (x := p) hn (by omega) hH hA 32 (by omega), Nat.add_comm (cnt (fun a => f_X0_isOnShelf σ (nI a) (nI (hr + p))) 32), ni_sub]
    generalize hτ : zs σ 0 6 (nI (hr + p)) = τ
    have er : ∀ k : Nat, k ≠ 0 → τ k = σ k := fun k hk => by rw [← hτ, zs_ne hk]
    have e29 := er 29 (by decide)
    have hτI : zI τ := zI_hi (σ := σ) (fun k hk => er k (by omega)) hI
    have e29h : τ 29 0 + nI p = nI (hr + p) := by rw [e29, hH.2.1, nI_add]
    have ep : pen τ (nI (hr + p)) = pen σ (nI (hr + p)) := by
      funext j
      unfold pen f_X6_isShelved
      rw [er 36 (by decide), er 38 (by decide), e29]
    have hp := pas_l τ (nI p) 33 0 (by omega) (by omega)
    rw [nI_0, e29h, ep] at hp
    obtain ⟨ρ, hρ⟩ : ∃ ρ : zS, ρ = zs (zs τ 29 28 0) 29 0 (nI (hr + p)) := ⟨_, rfl⟩
    have z6 : f_X6_pass τ (nI p) = (nI (cnt (pen σ (nI (hr + p))) 32), ρ) := by
      unfold f_X6_pass
      rw [g3, if_neg i10, hρ]
      exact hp
    have es : ∀ k : Nat, k ≠ 29 → k ≠ 0 → ρ k = σ k := fun k h1 h2 => by rw [hρ, zs_ne h1, zs_ne h1, er k h2]
    have eo : ∀ j : Nat, j ≠ 28 → j ≠ 0 → ρ 29 j = σ 29 j := fun j h1 h2 => by rw [hρ, zs_nf h2, zs_nf h1, e29]
    have hz : zR (t + 1) ρ := by
      have em : ∀ L : List Nat, (29 ∉ L ∧ 0 ∉ L) → ∀ k : Nat, k ∈ L → ρ k = σ k := fun L hL k hk => es k (fun z => hL.1 (z ▸ hk)) (fun z => hL.2 (z ▸ hk))
      have e5 := es 5 (by decide) (by decide)
      have e3 := es 3 (by decide) (by decide)
      have e2 := es 2 (by decide) (by decide)
      have e27 := es 27 (by decide) (by decide)
      have hHn : rH (hr + p) ρ := by
        refine ⟨?_, by rw [hρ, zs_eq], fun u hu => ?_⟩
        · rw [hρ, zs_ne (by decide), zs_ne (by decide), ← hτ, zs_eq]
        · rw [es 1 (by decide) (by decide), es 30 (by decide) (by decide)]
          exact hH.2.2 u hu
      exact ⟨n, hr + p, hn, by omega, hHn, rL_f (congrFun e2 6) (eo 7 (by decide) (by decide)) e3 (es 31 (by decide) (by decide)) (es 4 (by decide) (by decide)) (es 33 (by decide) (by decide)) e5 (es 32 (by decide) (by decide)) (es 7 (by decide) (by decide)) (es 34 (by decide) (by decide)) (es 6 (by decide) (by decide)) (es 35 (by decide) (by decide)) (congrFun e2 7) (congrFun e2 8) (es 8 (by decide) (by decide)) hL, rA_g (Nat.le_refl n) (em _ (by decide)) (fun i hi h1 h2 => by rw [e5, e3]; exact ⟨h1, h2⟩) hA, rP_g (Nat.le_refl n) (em _ (by decide)) (eo 20 (by decide) (by decide)) (fun i hi h1 h2 => by rw [e5, e3]; exact ⟨h1, h2⟩) hP, rQ_g (Nat.le_refl n) (em _ (by decide)) (eo 23 (by decide) (by decide)) (fun i hi h2 => by rw [e5, e3]; exact ⟨rfl, h2⟩) hQ, rC_f (congrFun e27 1) (congrFun e27 2) (congrFun e27 3) (es 28 (by decide) (by decide)) (es 50 (by decide) (by decide)) (eo 24 (by decide) (by decide)) (eo 25 (by decide) (by decide)) (eo 26 (by decide) (by decide)) (rC_m (Nat.le_add_right hr p) (by omega) hC)⟩
    have ht : f_X6_thrown ρ = 0 := by rw [hρ]; unfold f_X6_thrown; rw [zs_nf (by decide), zs_eq]
    rw [z6]
    exact ⟨hτI, ht.trans (by first | rfl | exact (if_pos trivial).symm), fun _ => ⟨by first | rfl | trivial, rfl⟩, hz⟩
