theorem ni_sub (a b : Nat) : nI (a + b) - nI b = nI a := by
  rw [← nI_add]
  exact Int32.add_sub_cancel _ _
theorem hand_e {h : Nat} {σ : zS} (hC : rC h σ) : f_X5_checkHandOver σ = if σ 29 26 = (-1) then 3 else 0 := by
  unfold f_X5_checkHandOver f_X1_isHandingOver
  rw [hC.2.1]
  by_cases c : σ 29 26 = (-1)
  · rw [if_pos c, if_pos rfl, if_pos c]
  · rw [if_neg c, if_neg i10, if_neg c]
theorem sim_cancel {t : Nat} {σ : zS} (h : zR t σ) (ht : t < 512)  : zI (f_X5_cancel σ ).2.2 ∧ f_X6_thrown (f_X6_cancel (f_X5_cancel σ ).2.2 ).2 = f_L_cancel (f_X5_cancel σ ).1 ∧ (f_L_cancel (f_X5_cancel σ ).1 = 0 → (f_X5_cancel σ ).1 = 0 ∧ (f_X6_cancel (f_X5_cancel σ ).2.2 ).1 = (f_X5_cancel σ ).2.1) ∧ zR (t + 1) (f_X6_cancel (f_X5_cancel σ ).2.2 ).2 := by
  have hI := zR_I h
  have hT := fun c => zR_thr (c := c) h
  obtain ⟨n, hr, hn, hh, hH, hL, hA, hP, hQ, hC⟩ := h
  obtain ⟨c1, c2, c3, c4, c5, c6, c7, c8, c9⟩ := id hC
  unfold f_X5_cancel f_L_cancel f_X1_stopHandOver
  rw [hand_e hC]
  by_cases k1 : σ 29 26 = (-1)
  · have z6 : f_X6_cancel σ = ((-1), zs σ 29 28 1) := by unfold f_X6_cancel; rw [if_pos k1]
    simp [k1, z6, hI, hT, thr_v]
  · simp only [if_neg k1, ↓reduceIte]
    generalize hτ : zs σ 27 2 (-1) = τ
    have er : ∀ k : Nat, k ≠ 27 → τ k = σ k := fun k hk => by rw [← hτ, zs_ne hk]
    have e29 := er 29 (by decide)
    have hτI : zI τ := zI_hi (σ := σ) (fun k hk => er k (by omega)) hI
    have e5 : f_X2_acknowledgedCount τ = nI (cnt (ack τ) n) := ack_v hn (by rw [er 2 (by decide), hL.1])
    obtain ⟨ρ, hρ⟩ : ∃ ρ : zS, ρ = zs (zs τ 29 28 0) 29 26 (-1) := ⟨_, rfl⟩
    have es : ∀ k : Nat, k ≠ 29 → ρ k = τ k := fun k hk => by rw [hρ, zs_ne hk, zs_ne hk]
    have eo : ∀ j : Nat, j ≠ 28 → j ≠ 26 → ρ 29 j = σ 29 j := fun j h1 h2 => by rw [hρ, zs_nf h2, zs_nf h1, e29]
    have h7 : ρ 29 7 = nI n := by rw [eo 7 (by decide) (by decide), hL.2.1]
    have z6 : f_X6_cancel τ = (f_X6_open ρ - f_X6_unknown ρ, ρ) := by unfold f_X6_cancel; rw [e29, if_neg k1, hρ]
    have e6 : f_X6_open ρ - f_X6_unknown ρ = f_X2_acknowledgedCount τ := by
      have hc : cnt (τ 5) n = cnt (ack τ) n + cnt (unk ρ) n := by
        have hu : unk ρ = unk τ := by
          funext j
          unfold unk
          rw [es 32 (by decide), es 35 (by decide)]
        rw [hu]
        refine cnt_split n (fun j hj => ?_)
        obtain ⟨m1, m2, m3, m4, m5, m6, m7⟩ := hL.2.2.2.2.1 j hj
        rw [er 5 (by decide), er 32 (by decide), er 6 (by decide), er 35 (by decide)]
        exact ⟨m3, m6⟩
      have ho : cnt (ρ 32) n = cnt (τ 5) n := by
        rw [es 32 (by decide), er 32 (by decide), er 5 (by decide), cnt5 hL]
      rw [open_v hn h7, unk_v hn h7, ho, hc, ni_sub, e5]
    have hz : zR (t + 1) ρ := by
      have et : ∀ k : Nat, k ≠ 29 → k ≠ 27 → ρ k = σ k := fun k h1 h2 => (es k h1).trans (er k h2)
      have em : ∀ L : List Nat, (29 ∉ L ∧ 27 ∉ L) → ∀ k : Nat, k ∈ L → ρ k = σ k := fun L hL k hk => et k (fun z => hL.1 (z ▸ hk)) (fun z => hL.2 (z ▸ hk))
      have e5 := et 5 (by decide) (by decide)
      have e3 := et 3 (by decide) (by decide)
      have e2 := et 2 (by decide) (by decide)
      refine ⟨n, hr, hn, by omega, rH_f (congrFun (et 0 (by decide) (by decide)) 6) (eo 0 (by decide) (by decide)) (et 1 (by decide) (by decide)) (et 30 (by decide) (by decide)) hH, ?_, rA_g (Nat.le_refl n) (em _ (by decide)) (fun i hi h1 h2 => by rw [e5, e3]; exact ⟨h1, h2⟩) hA, rP_g (Nat.le_refl n) (em _ (by decide)) (eo 20 (by decide) (by decide)) (fun i hi h1 h2 => by rw [e5, e3]; exact ⟨h1, h2⟩) hP, rQ_g (Nat.le_refl n) (em _ (by decide)) (eo 23 (by decide) (by decide)) (fun i hi h2 => by rw [e5, e3]; exact ⟨rfl, h2⟩) hQ, ?_⟩
      · exact rL_f (congrFun e2 6) (eo 7 (by decide) (by decide)) e3 (et 31 (by decide) (by decide)) (et 4 (by decide) (by decide)) (et 33 (by decide) (by decide)) e5 (et 32 (by decide) (by decide)) (et 7 (by decide) (by decide)) (et 34 (by decide) (by decide)) (et 6 (by decide) (by decide)) (et 35 (by decide) (by decide)) (congrFun e2 7) (congrFun e2 8) (et 8 (by decide) (by decide)) hL
      · have e26 : ρ 29 26 = (-1) := by rw [hρ, zs_eq]
        have e27 : ρ 27 = upd (σ 27) 2 (-1) := by rw [es 27 (by decide), ← hτ, zs_row, if_pos rfl]
        unfold rC
        rw [e27, et 28 (by decide) (by decide), et 50 (by decide) (by decide), eo 24 (by decide) (by decide), eo 25 (by decide) (by decide), e26]
        exact ⟨by rw [upd_rd, if_neg (by decide), c1], by rw [upd_rd, if_pos rfl], by rw [upd_rd, if_neg (by decide), c3], c4, c5, Or.inl rfl, c7, c8, c9⟩
    have ht : f_X6_thrown ρ = 0 := by rw [hρ]; unfold f_X6_thrown; rw [zs_nf (by decide), zs_eq]
    rw [z6]
    exact ⟨hτI, ht, fun _ => ⟨by first | rfl | trivial, e6⟩, hz⟩
theorem sim_acknowledge {t : Nat} {σ : zS} (h : zR t σ) (ht : t < 512) (a1 : Int32) : zI (f_X5_acknowledge σ a1).2.2 ∧ f_X6_thrown (f_X6_acknowledge (f_X5_acknowledge σ a1).2.2 a1).2 = f_L_acknowledge (f_X5_acknowledge σ a1).1 ∧ (f_L_acknowledge (f_X5_acknowledge σ a1).1 = 0 → (f_X5_acknowledge σ a1).1 = 0 ∧ (f_X6_acknowledge (f_X5_acknowledge σ a1).2.2 a1).1 = (f_X5_acknowledge σ a1).2.1) ∧ zR (t + 1) (f_X6_acknowledge (f_X5_acknowledge σ a1).2.2 a1).2 := by
  have hI := zR_I h
  have hT := fun c => zR_thr (c := c) h
  obtain ⟨n, hr, hn, hh, hH, hL, hA, hP, hQ, hC⟩ := h
  unfold f_X5_acknowledge f_X5_checkLine f_L_acknowledge f_X2_markAcknowledged f_X2_isAcknowledged
  rw [hand_e hC]
  rcases line_c hn hL.1 hL.2.1 a1 with ⟨h1, h2⟩ | ⟨j, hj, rfl, h1, h2⟩
  · have z6 : f_X6_acknowledge σ a1 = ((-1), zs σ 29 28 1) := by unfold f_X6_acknowledge; rw [h2, if_pos rfl]
    simp [h1, z6, hI, hT, thr_v]
  · have cj := ni_cl (show j < 2000000000 by omega)
    obtain ⟨m1, m2, m3, m4, m5, m6, m7⟩ := hL.2.2.2.2.1 j hj
    rw [h1, isOpen_v hn hL.1 (show j < 1000 by omega), cj]
    by_cases k1 : σ 29 26 = (-1)
    · have z6 : f_X6_acknowledge σ (nI j) = ((-1), zs σ 29 28 2) := by unfold f_X6_acknowledge; rw [h2, if_neg i10, if_pos k1]
      simp [k1, z6, hI, hT, thr_v]
    · by_cases k2 : σ 5 j = 0
      · have z6 : f_X6_acknowledge σ (nI j) = ((-1), zs σ 29 28 2) := by unfold f_X6_acknowledge; rw [h2, if_neg i10, if_neg k1, cj, ← m3, if_pos k2]
        simp [k1, k2, z6, hI, hT, thr_v]
      · by_cases k3 : σ 6 j = 0
        · simp only [if_neg k1, ↓reduceIte, i10, if_pos (show j < n ∧ ¬ σ 5 j = 0 from ⟨hj, k2⟩), if_pos k3]
          generalize hτ : zs σ 6 j 1 = τ
          have er : ∀ k : Nat, k ≠ 6 → τ k = σ k := fun k hk => by rw [← hτ, zs_ne hk]
          have e29 := er 29 (by decide)
          have hτI : zI τ := zI_hi (σ := σ) (fun k hk => er k (by omega)) hI
          have h2' : f_X6_isLine τ (nI j) = 1 := by
            unfold f_X6_isLine at h2 ⊢
            rw [e29]
            exact h2
          have e5 : f_X2_acknowledgedCount τ = nI (cnt (ack τ) n) := ack_v hn (by rw [er 2 (by decide), hL.1])
          obtain ⟨ρ, hρ⟩ : ∃ ρ : zS, ρ = zs (zs τ 29 28 0) 35 j 1 := ⟨_, rfl⟩
          have es : ∀ k : Nat, k ≠ 29 → k ≠ 35 → ρ k = τ k := fun k hk h2 => by rw [hρ, zs_ne h2, zs_ne hk]
          have eo : ∀ i : Nat, i ≠ 28 → ρ 29 i = σ 29 i := fun i h1 => by rw [hρ, zs_ne (show 29 ≠ 35 by decide), zs_nf h1, e29]
          have e35 : ρ 35 = upd (σ 35) j 1 := by rw [hρ, zs_row, if_pos rfl, zs_ne (show 35 ≠ 29 by decide), er 35 (by decide)]
          have e6r : ρ 6 = upd (σ 6) j 1 := by rw [es 6 (by decide) (by decide), ← hτ, zs_row, if_pos rfl]
          have h7 : ρ 29 7 = nI n := by rw [eo 7 (by decide), hL.2.1]
          have et : ∀ k : Nat, k ≠ 29 → k ≠ 35 → k ≠ 6 → ρ k = σ k := fun k h1 h2 h3 => (es k h1 h2).trans (er k h3)
          have z6 : f_X6_acknowledge τ (nI j) = (f_X6_unknown ρ, ρ) := by
            unfold f_X6_acknowledge
            rw [h2', if_neg i10, e29, if_neg k1, cj, er 32 (by decide), ← m3, if_neg k2, er 35 (by decide), ← m6, if_pos k3, hρ]
          have e1 := et 2 (by decide) (by decide) (by decide)
          have e6 : f_X6_unknown ρ = f_X2_openCount τ - f_X2_acknowledgedCount τ := by
            have hc : cnt (ρ 5) n = cnt (ack ρ) n + cnt (unk ρ) n := by
              refine cnt_split n (fun i hi => ?_)
              obtain ⟨m1, m2, m3, m4, m5, m6, m7⟩ := hL.2.2.2.2.1 i hi
              rw [et 5 (by decide) (by decide) (by decide), et 32 (by decide) (by decide) (by decide), e35, e6r]
              refine ⟨m3, ?_⟩
              simp only [upd_rd]
              by_cases q : i = j
              · rw [if_pos q, if_pos q]
              · rw [if_neg q, if_neg q, m6]
            have ha : ack ρ = ack τ := by
              funext i
              unfold ack
              rw [es 5 (by decide) (by decide), es 6 (by decide) (by decide)]
            rw [oc_v, er 2 (by decide), hL.2.2.2.2.2.2.1, e5, unk_v hn h7, ← ha, ← et 5 (by decide) (by decide) (by decide), hc, Nat.add_comm, ni_sub]
          have hLn : rL n ρ := by
            obtain ⟨l1, l2, l3, l4, l5, l6, l7, l8⟩ := id hL
            unfold rL
            rw [e1, h7, et 3 (by decide) (by decide) (by decide), et 31 (by decide) (by decide) (by decide), et 4 (by decide) (by decide) (by decide), et 33 (by decide) (by decide) (by decide), et 5 (by decide) (by decide) (by decide), et 32 (by decide) (by decide) (by decide), et 7 (by decide) (by decide) (by decide), et 34 (by decide) (by decide) (by decide), et 8 (by decide) (by decide) (by decide), e35, e6r]
            refine ⟨l1, rfl, l3, l4, fun i hi => ?_, fun i hi hi2 => ?_, l7, l8⟩
            · obtain ⟨m1, m2, m3, m4, m5, m6, m7⟩ := l5 i hi
              refine ⟨m1, m2, m3, m4, m5, ?_, ?_⟩
              · simp only [upd_rd]
                by_cases q : i = j
                · rw [if_pos q, if_pos q]
                · rw [if_neg q, if_neg q, m6]
              · simp only [upd_rd]
                by_cases q : i = j
                · rw [if_pos q]
                  exact Or.inr rfl
                · rw [if_neg q]
                  exact m7
            · rw [upd_rd, if_neg (by omega)]
              exact l6 i hi hi2
          have hz : zR (t + 1) ρ := by
            have em : ∀ L : List Nat, (29 ∉ L ∧ 35 ∉ L ∧ 6 ∉ L) → ∀ k : Nat, k ∈ L → ρ k = σ k := fun L hL k hk => et k (fun z => hL.1 (z ▸ hk)) (fun z => hL.2.1 (z ▸ hk)) (fun z => hL.2.2 (z ▸ hk))
            have e5 := et 5 (by decide) (by decide) (by decide)
            have e3 := et 3 (by decide) (by decide) (by decide)
            have e27 := et 27 (by decide) (by decide) (by decide)
            exact ⟨n, hr, hn, by omega, rH_f (congrFun (et 0 (by decide) (by decide) (by decide)) 6) (eo 0 (by decide)) (et 1 (by decide) (by decide) (by decide)) (et 30 (by decide) (by decide) (by decide)) hH, hLn, rA_g (Nat.le_refl n) (em _ (by decide)) (fun i hi h1 h2 => by rw [e5, e3]; exact ⟨h1, h2⟩) hA, rP_g (Nat.le_refl n) (em _ (by decide)) (eo 20 (by decide)) (fun i hi h1 h2 => by rw [e5, e3]; exact ⟨h1, h2⟩) hP, rQ_g (Nat.le_refl n) (em _ (by decide)) (eo 23 (by decide)) (fun i hi h2 => by rw [e5, e3]; exact ⟨rfl, h2⟩) hQ, rC_f (congrFun e27 1) (congrFun e27 2) (congrFun e27 3) (et 28 (by decide) (by decide) (by decide)) (et 50 (by decide) (by decide) (by decide)) (eo 24 (by decide)) (eo 25 (by decide)) (eo 26 (by decide)) hC⟩
          have ht : f_X6_thrown ρ = 0 := by rw [hρ]; unfold f_X6_thrown; rw [zs_ne (by decide), zs_eq]
          rw [z6]
          exact ⟨hτI, ht, fun _ => ⟨by first | rfl | trivial, e6⟩, hz⟩
        · have z6 : f_X6_acknowledge σ (nI j) = ((-1), zs σ 29 28 2) := by unfold f_X6_acknowledge; rw [h2, if_neg i10, if_neg k1, cj, ← m3, if_neg k2, ← m6, if_neg k3]
          simp [k1, k2, k3, hj, z6, hI, hT, thr_v]
