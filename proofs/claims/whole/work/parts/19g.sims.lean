theorem rC_m {h h' : Nat} {σ : zS} (hh : h ≤ h') (hb : h' < 1000000) (H : rC h σ) : rC h' σ := by
  obtain ⟨c1, c2, c3, ⟨s, c4, c4'⟩, c5, c6, c7, c8, c9⟩ := H
  have up : ∀ x : Int32, x ≤ nI h → x ≤ nI h' := by
    intro x hx
    rw [Int32.le_iff_toInt_le, ni_ti (by omega)] at hx ⊢
    omega
  refine ⟨c1, c2, c3, ⟨s, by omega, c4'⟩, c5, ?_, fun c hc => ?_, fun c hc h1 => up _ (c8 c hc h1), c9⟩
  · rcases c6 with h | ⟨h1, h2, c, h3, h4, h5⟩
    · exact Or.inl h
    · exact Or.inr ⟨h1, h2, c, h3, h4, up _ h5⟩
  · rcases c7 c hc with h | ⟨e, h1, h2, h3⟩
    · exact Or.inl h
    · exact Or.inr ⟨e, by omega, h2, h3⟩
theorem sim_begin {t : Nat} {σ : zS} (h : zR t σ) (ht : t < 512) (a1 : Int32) : zI (f_X5_begin σ a1).2.2 ∧ f_X6_thrown (f_X6_begin (f_X5_begin σ a1).2.2 a1).2 = f_L_begin (f_X5_begin σ a1).1 ∧ (f_L_begin (f_X5_begin σ a1).1 = 0 → (f_X5_begin σ a1).1 = 0 ∧ (f_X6_begin (f_X5_begin σ a1).2.2 a1).1 = (f_X5_begin σ a1).2.1) ∧ zR (t + 1) (f_X6_begin (f_X5_begin σ a1).2.2 a1).2 := by
  have hI := zR_I h
  have hT := fun c => zR_thr (c := c) h
  obtain ⟨n, hr, hn, hh, hH, hL, hA, hP, hQ, hC⟩ := h
  obtain ⟨c1, c2, c3, c4, c5, c6, c7, c8, c9⟩ := id hC
  unfold f_X5_begin f_X6_begin f_X5_checkCrew f_X1_crewOnDuty f_X1_startShift f_L_begin
  rcases crew_c a1 with ⟨h1, h2⟩ | ⟨u, hu, rfl, h1, h2⟩
  · simp [h1, h2, hI, hT, thr_v]
  · rw [c1]
    by_cases d : σ 29 24 = (-1)
    · simp only [h1, h2, i10, ↓reduceIte, if_pos d]
      generalize hτ : zs (zs σ 27 1 (nI u)) 27 3 (σ 0 6) = τ
      have h29 : τ 29 = σ 29 := by rw [← hτ]; simp [zs_row]
      have hτI : zI τ := by
        refine zI_hi (σ := σ) ?_ hI
        rw [← hτ]
        exact hi_zs (hi_zs (hi_rfl σ) (by decide)) (by decide)
      rw [h29, if_pos d]
      refine ⟨hτI, ?_, fun _ => ⟨by first | rfl | trivial, ?_⟩, n, hr, by omega, by omega, ?_, ?_, ?_, ?_, ?_, ?_⟩
      · simp [f_X6_thrown, zs_rd]
      · show σ 29 0 = τ 0 6
        rw [← hτ]; simp [zs_rd, hH.1, hH.2.1]
      · refine rH_f ?_ ?_ ?_ ?_ hH <;> simp [zs_row, upd_rd, ← hτ]
      · refine rL_f ?_ ?_ ?_ ?_ ?_ ?_ ?_ ?_ ?_ ?_ ?_ ?_ ?_ ?_ ?_ hL <;> simp [zs_row, upd_rd, ← hτ]
      · refine rA_f (Nat.le_refl n) ?_ ?_ ?_ ?_ ?_ ?_ (fun i hi h1 h2 => by constructor <;> simp [zs_row, upd_rd, ← hτ, h1, h2]) hA <;> simp [zs_row, upd_rd, ← hτ]
      · refine rP_f (Nat.le_refl n) ?_ ?_ ?_ ?_ ?_ ?_ ?_ ?_ ?_ ?_ ?_ ?_ ?_ ?_ ?_ ?_ ?_ ?_ ?_ ?_ (fun i hi h1 h2 => by constructor <;> simp [zs_row, upd_rd, ← hτ, h1, h2]) hP <;> simp [zs_row, upd_rd, ← hτ]
      · refine rQ_f (Nat.le_refl n) ?_ ?_ ?_ ?_ ?_ ?_ ?_ (fun i hi h2 => by constructor <;> simp [zs_row, upd_rd, ← hτ, h2]) hQ <;> simp [zs_row, upd_rd, ← hτ]
      · have d26 : σ 29 26 = (-1) := by
          rcases c6 with h | ⟨h, -⟩
          · exact h
          · exact absurd d h
        have z28 : ∀ c : Nat, c < 4 → σ 28 c = 0 := by
          intro c hc
          rcases c7 c hc with ⟨-, h⟩ | ⟨e, h1, h2, -⟩
          · exact h
          · exact absurd ((c9 d c hc).symm.trans h2).symm (ni_ne (by omega))
        show rC hr (zs (zs (zs τ 29 28 0) 29 24 (nI u)) 29 25 (σ 29 0))
        unfold rC
        have e27 : zs (zs (zs τ 29 28 0) 29 24 (nI u)) 29 25 (σ 29 0) 27 = τ 27 := by simp [zs_row]
        have e28 : zs (zs (zs τ 29 28 0) 29 24 (nI u)) 29 25 (σ 29 0) 28 = σ 28 := by simp [zs_row, ← hτ]
        have e50 : zs (zs (zs τ 29 28 0) 29 24 (nI u)) 29 25 (σ 29 0) 50 = σ 50 := by simp [zs_row, ← hτ]
        have e24 : zs (zs (zs τ 29 28 0) 29 24 (nI u)) 29 25 (σ 29 0) 29 24 = nI u := by simp [zs_rd]
        have e25 : zs (zs (zs τ 29 28 0) 29 24 (nI u)) 29 25 (σ 29 0) 29 25 = nI hr := by simp [zs_rd, hH.2.1]
        have e26 : zs (zs (zs τ 29 28 0) 29 24 (nI u)) 29 25 (σ 29 0) 29 26 = (-1) := by simp [zs_rd, ← hτ, d26]
        rw [e27, e28, e50, e24, e25, e26]
        refine ⟨by simp [zs_rd, ← hτ], by simp [zs_rd, ← hτ, c2, d26], by simp [zs_rd, ← hτ, hH.1], ⟨hr, by omega, rfl⟩, Or.inr ⟨u, hu, rfl⟩, Or.inl rfl, c7, fun c hc _ => ?_, fun z => absurd z (ni_ne (by omega))⟩
        rw [z28 c hc]
        exact nI_pos' (by omega)
    · simp [h1, h2, d, hI, hT, thr_v]
theorem rA_g {n n' : Nat} {σ τ : zS} (hn : n ≤ n') (e : ∀ k : Nat, k ∈ [36, 10, 11, 37, 12, 38] → τ k = σ k) (h5 : ∀ i : Nat, i < n → σ 5 i = 1 → σ 3 i = 97 → τ 5 i = 1 ∧ τ 3 i = 97) (H : rA n σ) : rA n' τ :=
  rA_f hn (e _ (by decide)) (e _ (by decide)) (e _ (by decide)) (e _ (by decide)) (e _ (by decide)) (e _ (by decide)) h5 H
theorem rP_g {n n' : Nat} {σ τ : zS} (hn : n ≤ n') (e : ∀ k : Nat, k ∈ [13, 14, 46, 15, 47, 16, 39, 17, 40, 18, 41, 19, 42, 20, 43, 21, 44, 22, 45] → τ k = σ k) (e2 : τ 29 20 = σ 29 20) (h5 : ∀ i : Nat, i < n → σ 5 i = 1 → σ 3 i = 115 → τ 5 i = 1 ∧ τ 3 i = 115) (H : rP n σ) : rP n' τ :=
  rP_f hn (congrFun (e 13 (by decide)) 9) e2 (e 14 (by decide)) (e 46 (by decide)) (e 15 (by decide)) (e 47 (by decide)) (e 16 (by decide)) (e 39 (by decide)) (e 17 (by decide)) (e 40 (by decide)) (e 18 (by decide)) (e 41 (by decide)) (e 19 (by decide)) (e 42 (by decide)) (e 20 (by decide)) (e 43 (by decide)) (e 21 (by decide)) (e 44 (by decide)) (e 22 (by decide)) (e 45 (by decide)) h5 H
theorem rQ_g {n n' : Nat} {σ τ : zS} (hn : n ≤ n') (e : ∀ k : Nat, k ∈ [49, 48, 23, 24, 25, 26] → τ k = σ k) (e4 : τ 29 23 = σ 29 23) (h5 : ∀ i : Nat, i < n → σ 3 i = 112 → τ 5 i = σ 5 i ∧ τ 3 i = 112) (H : rQ n σ) : rQ n' τ :=
  rQ_f hn (e 49 (by decide)) (e 48 (by decide)) (congrFun (e 23 (by decide)) 3) e4 (e 24 (by decide)) (e 25 (by decide)) (e 26 (by decide)) h5 H
/-- the row of what is acknowledged, emptied -/
theorem fga_l (σ : zS) : ∀ (m j : Nat) (τ : zS), j ≤ 60 → 60 - j < m → ∀ k i : Nat, L_X2_forgetAcknowledged_2 σ m τ (nI j) k i = if k = 6 ∧ j ≤ i ∧ i < 60 then 0 else τ k i := by
  intro m
  induction m with
  | zero => intro j τ h1 h2; omega
  | succ m ih =>
    intro j τ h1 h2 k i
    unfold L_X2_forgetAcknowledged_2
    by_cases e : j = 60
    · rw [if_pos ((n60 (by omega)).mpr (by omega)), if_neg (by omega)]
    · rw [if_neg (show ¬ (60 : Int32) ≤ nI j from fun z => e (by have := (n60 (by omega)).mp z; omega)), nI_1, ni_cl (by omega), ih (j + 1) _ (by omega) (by omega), zs_rd]
      by_cases q : k = 6 ∧ i = j
      · rw [if_neg (by omega), if_pos q, if_pos (by omega)]
      · by_cases q2 : k = 6 ∧ j + 1 ≤ i ∧ i < 60
        · rw [if_pos q2, if_pos (by omega)]
        · rw [if_neg q2, if_neg q, if_neg (by omega)]
theorem fga_v (σ : zS) (k i : Nat) : f_X2_forgetAcknowledged σ k i = if k = 6 ∧ i < 60 then 0 else σ k i := by
  have h := fga_l σ 61 0 σ (by omega) (by omega) k i
  rw [nI_0] at h
  unfold f_X2_forgetAcknowledged
  rw [h]
  by_cases q : k = 6 ∧ i < 60
  · rw [if_pos (by omega), if_pos q]
  · rw [if_neg (by omega), if_neg q]
theorem fga_r (σ : zS) {k : Nat} (hk : k ≠ 6) : f_X2_forgetAcknowledged σ k = σ k := by
  funext i
  rw [fga_v, if_neg (by omega)]
theorem oc_v (τ : zS) : f_X2_openCount τ = τ 2 7 := rfl
theorem hov_l (σ : zS) (a : Int32) {n : Nat} (hn : n ≤ 60) : ∀ (m j : Nat) (τ : zS), τ 29 7 = nI n → j ≤ n → n - j < m → ∃ ρ : zS, L_X6_handOver_66 σ a m τ (nI j) = (f_X6_open ρ, ρ) ∧ ∀ k i : Nat, ρ k i = if k = 35 ∧ j ≤ i ∧ i < n then 0 else τ k i := by
  intro m
  induction m with
  | zero => intro j τ h0 h1 h2; omega
  | succ m ih =>
    intro j τ h0 h1 h2
    unfold L_X6_handOver_66
    rw [h0]
    by_cases e : j = n
    · rw [if_pos ((ni_le (by omega) (by omega)).mpr (by omega))]
      exact ⟨τ, rfl, fun k i => by rw [if_neg (by omega)]⟩
    · rw [if_neg (show ¬ nI n ≤ nI j from fun z => e (by have := (ni_le (by omega) (by omega)).mp z; omega)), nI_1, ni_cl (by omega)]
      obtain ⟨ρ, h3, h4⟩ := ih (j + 1) (zs τ 35 j 0) (by rw [zs_ne (by decide), h0]) (by omega) (by omega)
      refine ⟨ρ, h3, fun k i => ?_⟩
      rw [h4, zs_rd]
      by_cases q : k = 35 ∧ i = j
      · rw [if_neg (by omega), if_pos q, if_pos (by omega)]
      · by_cases q2 : k = 35 ∧ j + 1 ≤ i ∧ i < n
        · rw [if_pos q2, if_pos (by omega)]
        · rw [if_neg q2, if_neg q, if_neg (by omega)]
theorem sim_handOver {t : Nat} {σ : zS} (h : zR t σ) (ht : t < 512) (a1 : Int32) : zI (f_X5_handOver σ a1).2.2 ∧ f_X6_thrown (f_X6_handOver (f_X5_handOver σ a1).2.2 a1).2 = f_L_handOver (f_X5_handOver σ a1).1 ∧ (f_L_handOver (f_X5_handOver σ a1).1 = 0 → (f_X5_handOver σ a1).1 = 0 ∧ (f_X6_handOver (f_X5_handOver σ a1).2.2 a1).1 = (f_X5_handOver σ a1).2.1) ∧ zR (t + 1) (f_X6_handOver (f_X5_handOver σ a1).2.2 a1).2 := by
  have hI := zR_I h
  have hT := fun c => zR_thr (c := c) h
  obtain ⟨n, hr, hn, hh, hH, hL, hA, hP, hQ, hC⟩ := h
  obtain ⟨c1, c2, c3, c4, c5, c6, c7, c8, c9⟩ := id hC
  have eA := acts_e hC
  unfold f_X5_handOver f_X5_checkCrew f_X5_checkAtWork f_X1_crewOnDuty f_X1_startHandOver f_L_handOver
  rcases crew_c a1 with ⟨h1, h2⟩ | ⟨u, hu, rfl, h1, h2⟩
  · have z6 : f_X6_handOver σ a1 = ((-1), zs σ 29 28 1) := by unfold f_X6_handOver; rw [h2, if_pos rfl]
    simp [h1, z6, hI, hT, thr_v]
  · have eR := rest_e (by omega) hH hC hu
    rw [c1]
    by_cases k1 : f_X1_isAtWork σ = 0
    · have z6 : f_X6_handOver σ (nI u) = ((-1), zs σ 29 28 2) := by unfold f_X6_handOver; rw [h2, if_neg i10, eA, if_pos k1]
      simp [h1, k1, z6, hI, hT, thr_v]
    · by_cases k2 : σ 29 24 = nI u
      · have z6 : f_X6_handOver σ (nI u) = ((-1), zs σ 29 28 2) := by unfold f_X6_handOver; rw [h2, if_neg i10, eA, if_neg k1, if_pos k2]
        simp [h1, k1, k2, z6, hI, hT, thr_v]
      · by_cases k3 : f_X1_restOf σ (nI u) (σ 0 6) ≤ 0
        · simp only [h1, i10, ↓reduceIte, if_neg k1, if_neg k2, if_pos k3]
          generalize hτ : f_X2_forgetAcknowledged (zs σ 27 2 (nI u)) = τ
          have hr6 : ∀ k : Nat, k ≠ 6 → τ k = zs σ 27 2 (nI u) k := fun k hk => by rw [← hτ]; exact fga_r _ hk
          have h6 : ∀ i : Nat, τ 6 i = if i < 60 then 0 else σ 6 i := by
            intro i
            rw [← hτ, fga_v]
            by_cases q : i < 60
            · rw [if_pos ⟨rfl, q⟩, if_pos q]
            · rw [if_neg (by omega), if_neg q, zs_ne (by decide)]
          have h29 : τ 29 = σ 29 := by rw [hr6 29 (by decide), zs_ne (by decide)]
          have h50 : τ 50 = σ 50 := by rw [hr6 50 (by decide), zs_ne (by decide)]
          have hτI : zI τ := by
            refine zI_hi (σ := σ) (fun k hk => ?_) hI
            rw [hr6 k (by omega), zs_ne (by omega)]
          have ha6 : f_X6_acts τ = f_X6_acts σ := by
            unfold f_X6_acts
            rw [h29]
          have hr6' : f_X6_restOf τ (nI u) = f_X6_restOf σ (nI u) := by
            unfold f_X6_restOf
            rw [h29, h50]
          obtain ⟨ρ, e1, e2⟩ := hov_l τ (nI u) hn 61 0 (zs (zs τ 29 28 0) 29 26 (nI u)) (by rw [zs_nf (by decide), zs_nf (by decide), h29, hL.2.1]) (by omega) (by omega)
          rw [nI_0] at e1
          have z6 : f_X6_handOver τ (nI u) = (f_X6_open ρ, ρ) := by
            unfold f_X6_handOver
            rw [h2, if_neg i10, ha6, eA, if_neg k1, h29, if_neg k2, hr6', eR, if_pos k3]
            exact e1
          rw [z6]
          have er : ∀ k : Nat, k ≠ 35 → ρ k = zs (zs τ 29 28 0) 29 26 (nI u) k := fun k hk => by
            funext i
            rw [e2, if_neg (by omega)]
          have e35 : ∀ i : Nat, i < n → ρ 35 i = 0 := fun i hi => by rw [e2, if_pos ⟨rfl, by omega, hi⟩]
          have es : ∀ k : Nat, k ≠ 35 → k ≠ 29 → k ≠ 6 → k ≠ 27 → ρ k = σ k := fun k h1 h2 h3 h4 => by
            rw [er k h1, zs_ne h2, zs_ne h2, hr6 k h3, zs_ne h4]
          have eo : ∀ j : Nat, j ≠ 28 → j ≠ 26 → ρ 29 j = σ 29 j := fun j h1 h2 => by
            rw [er 29 (by decide), zs_nf h2, zs_nf h1, h29]
          have e6 : ρ 6 = τ 6 := by rw [er 6 (by decide), zs_ne (by decide), zs_ne (by decide)]
          have e27 : ρ 27 = upd (σ 27) 2 (nI u) := by rw [er 27 (by decide), zs_ne (by decide), zs_ne (by decide), hr6 27 (by decide), zs_row, if_pos rfl]
          have hLn : rL n ρ := by
            obtain ⟨l1, l2, l3, l4, l5, l6, l7, l8⟩ := id hL
            unfold rL
            rw [es 2 (by decide) (by decide) (by decide) (by decide), eo 7 (by decide) (by decide), es 3 (by decide) (by decide) (by decide) (by decide), es 31 (by decide) (by decide) (by decide) (by decide), es 4 (by decide) (by decide) (by decide) (by decide), es 33 (by decide) (by decide) (by decide) (by decide), es 5 (by decide) (by decide) (by decide) (by decide), es 32 (by decide) (by decide) (by decide) (by decide), es 7 (by decide) (by decide) (by decide) (by decide), es 34 (by decide) (by decide) (by decide) (by decide), es 8 (by decide) (by decide) (by decide) (by decide)]
            refine ⟨l1, l2, l3, l4, fun j hj => ?_, fun j hj hj2 => ?_, l7, l8⟩
            · obtain ⟨m1, m2, m3, m4, m5, m6, m7⟩ := l5 j hj
              refine ⟨m1, m2, m3, m4, m5, ?_, ?_⟩
              · rw [e35 j hj, e6, h6, if_pos (by omega)]
              · rw [e6, h6, if_pos (by omega)]
                exact Or.inl rfl
            · rw [e6, h6, if_pos hj2]
              exact ⟨rfl, (l6 j hj hj2).2⟩
          have em : ∀ L : List Nat, (35 ∉ L ∧ 29 ∉ L ∧ 6 ∉ L ∧ 27 ∉ L) → ∀ k : Nat, k ∈ L → ρ k = σ k := fun L hL k hk => es k (fun z => hL.1 (z ▸ hk)) (fun z => hL.2.1 (z ▸ hk)) (fun z => hL.2.2.1 (z ▸ hk)) (fun z => hL.2.2.2 (z ▸ hk))
          have e5 := es 5 (by decide) (by decide) (by decide) (by decide)
          have e3 := es 3 (by decide) (by decide) (by decide) (by decide)
          have hHn : rH hr ρ := rH_f (by rw [es 0 (by decide) (by decide) (by decide) (by decide)]) (eo 0 (by decide) (by decide)) (es 1 (by decide) (by decide) (by decide) (by decide)) (es 30 (by decide) (by decide) (by decide) (by decide)) hH
          have hAn : rA n ρ := rA_g (Nat.le_refl n) (em _ (by decide)) (fun i hi h1 h2 => by rw [e5, e3]; exact ⟨h1, h2⟩) hA
          have hPn : rP n ρ := rP_g (Nat.le_refl n) (em _ (by decide)) (eo 20 (by decide) (by decide)) (fun i hi h1 h2 => by rw [e5, e3]; exact ⟨h1, h2⟩) hP
          have hQn : rQ n ρ := rQ_g (Nat.le_refl n) (em _ (by decide)) (eo 23 (by decide) (by decide)) (fun i hi h2 => by rw [e5, e3]; exact ⟨rfl, h2⟩) hQ
          have hCn : rC hr ρ := by
            have e26 : ρ 29 26 = nI u := by rw [er 29 (by decide), zs_eq]
            unfold rC
            rw [e27, es 28 (by decide) (by decide) (by decide) (by decide), es 50 (by decide) (by decide) (by decide) (by decide), eo 24 (by decide) (by decide), eo 25 (by decide) (by decide), e26]
            have a24 : ¬ σ 29 24 = (-1) := by
              intro z
              apply k1
              rw [← eA]
              unfold f_X6_acts
              rw [if_pos z]
            refine ⟨by rw [upd_rd, if_neg (by decide), c1], by rw [upd_rd, if_pos rfl], by rw [upd_rd, if_neg (by decide), c3], c4, c5, Or.inr ⟨a24, fun z => k2 z.symm, u, hu, rfl, ?_⟩, c7, c8, c9⟩
            have hc : f_X5_isCrew (nI u) = 1 := h1
            unfold f_X1_restOf at k3
            rw [hc, if_neg i10, ni_cl (by omega), hH.1] at k3
            by_cases w : σ 28 u ≤ nI hr
            · exact w
            · rw [if_neg w] at k3
              rcases c7 u hu with ⟨-, g2⟩ | ⟨e, ge, g1, g2⟩
              · rw [g2]
                exact nI_pos' (by omega)
              · rw [g2] at k3 w ⊢
                rw [Int32.le_iff_toInt_le, Int32.toInt_sub, ni_ti (by omega), ni_ti (by omega), Int32.toInt_zero] at k3
                have : ((e + 11 : Nat) - (hr : Int)).bmod (2 ^ 32) = (e + 11 : Nat) - (hr : Int) := by
                  apply Int.bmod_eq_of_le <;> omega
                rw [this] at k3
                rw [ni_le (by omega) (by omega)]
                omega
          have hz : zR (t + 1) ρ := ⟨n, hr, hn, by omega, hHn, hLn, hAn, hPn, hQn, hCn⟩
          have e2' : ρ 2 = τ 2 := by rw [er 2 (by decide), zs_ne (by decide), zs_ne (by decide)]
          have q27 := oc_v τ
          have ho : f_X6_open ρ = f_X2_openCount τ := (open_e hn hLn).trans ((congrFun e2' 7).trans q27.symm)
          have hth : f_X6_thrown ρ = 0 := by
            unfold f_X6_thrown
            rw [er 29 (by decide), zs_nf (by decide), zs_eq]
          exact ⟨hτI, hth, fun _ => ⟨by first | rfl | trivial, ho⟩, hz⟩
        · have z6 : f_X6_handOver σ (nI u) = ((-1), zs σ 29 28 3) := by unfold f_X6_handOver; rw [h2, if_neg i10, eA, if_neg k1, if_neg k2, eR, if_neg k3]
          simp [h1, k1, k2, k3, z6, hI, hT, thr_v]
