theorem sim_take {t : Nat} {σ : zS} (h : zR t σ) (ht : t < 512)  : zI (f_X5_take σ ).2.2 ∧ f_X6_thrown (f_X6_take (f_X5_take σ ).2.2 ).2 = f_L_take (f_X5_take σ ).1 ∧ (f_L_take (f_X5_take σ ).1 = 0 → (f_X5_take σ ).1 = 0 ∧ (f_X6_take (f_X5_take σ ).2.2 ).1 = (f_X5_take σ ).2.1) ∧ zR (t + 1) (f_X6_take (f_X5_take σ ).2.2 ).2 := by
  have hI := zR_I h
  have hT := fun c => zR_thr (c := c) h
  obtain ⟨n, hr, hn, hh, hH, hL, hA, hP, hQ, hC⟩ := h
  obtain ⟨c1, c2, c3, c4, c5, c6, c7, c8, c9⟩ := id hC
  have hb : hr < 100000 := by omega
  unfold f_X5_take f_L_take
  rw [hand_e hC, ack_v hn hL.1, oc_v, hL.2.2.2.2.2.2.1]
  have hu := unk_v hn hL.2.1
  have hs := cnt_split (τ := σ) n (fun j hj => ⟨(hL.2.2.2.2.1 j hj).2.2.1, (hL.2.2.2.2.1 j hj).2.2.2.2.2.1⟩)
  have hcn := cnt_le (σ 5) n
  by_cases k1 : σ 29 26 = (-1)
  · have z6 : f_X6_take σ = ((-1), zs σ 29 28 1) := by unfold f_X6_take; rw [if_pos k1]
    simp [k1, z6, hI, hT, thr_v]
  · by_cases k2 : cnt (unk σ) n = 0
    · obtain ⟨d24, dne, d, hd, d26, d28⟩ := c6.resolve_left k1
      obtain ⟨c, hc, e24⟩ := c5.resolve_left d24
      have le5 : nI (cnt (σ 5) n) ≤ nI (cnt (ack σ) n) := (ni_le (by omega) (by omega)).mpr (by omega)
      simp only [if_neg k1, ↓reduceIte, if_pos le5]
      have ech : f_X1_changeShift σ (σ 0 6) = zs (zs (zs (zs σ 28 c (nI (hr + 11))) 27 1 (nI d)) 27 3 (nI hr)) 27 2 (-1) := by
        unfold f_X1_changeShift f_X1_startShift f_X1_stopHandOver
        have hcr : f_X5_isCrew (σ 27 1) = 1 := by
          rw [c1, e24]
          rcases crew_c (nI c) with ⟨h1, -⟩ | ⟨_, _, _, h1, -⟩
          · unfold f_X5_isCrew at h1
            rw [if_neg (nI_pos (by omega)), if_neg (show ¬ (4 : Int32) ≤ nI c from fun z => by have := (ni_le (a := 4) (by omega) (by omega)).mp z; omega)] at h1
            exact absurd h1 i10
          · exact h1
        rw [hcr, if_neg i10, c1, e24, ni_cl (by omega), c2, d26, hH.1, show (11 : Int32) = nI 11 from rfl, nI_add]
      rw [ech]
      generalize hσ1 : zs (zs (zs (zs σ 28 c (nI (hr + 11))) 27 1 (nI d)) 27 3 (nI hr)) 27 2 (-1) = σ1
      have r1 : ∀ k : Nat, k ≠ 27 → k ≠ 28 → σ1 k = σ k := fun k h1 h2 => by rw [← hσ1, zs_ne h1, zs_ne h1, zs_ne h1, zs_ne h2]
      generalize hτ : f_X2_countHandOver σ1 = τ
      have hv : ∀ k i : Nat, τ k i = if k = 7 ∧ i < n ∧ ¬ σ 5 i = 0 then σ 7 i + 1 else σ1 k i := fun k i => by
        rw [← hτ, cho_v hn (by rw [r1 2 (by decide) (by decide), hL.1]), r1 5 (by decide) (by decide), r1 7 (by decide) (by decide)]
      have r2 : ∀ k : Nat, k ≠ 7 → τ k = σ1 k := fun k h1 => by
        funext i
        rw [hv, if_neg (fun z => h1 z.1)]
      have er : ∀ k : Nat, k ≠ 7 → k ≠ 27 → k ≠ 28 → τ k = σ k := fun k h0 h1 h2 => (r2 k h0).trans (r1 k h1 h2)
      have e29 := er 29 (by decide) (by decide) (by decide)
      have hτI : zI τ := zI_hi (σ := σ) (fun k hk => er k (by omega) (by omega) (by omega)) hI
      obtain ⟨ρ, h3, h4⟩ := tak_l τ hn 61 0 (zs τ 29 28 0) (by rw [zs_nf (by decide), e29, hL.2.1]) (by omega) (by omega)
      rw [nI_0] at h3
      have hu2 : f_X6_unknown τ = 0 := by
        rw [unk_v hn (by rw [e29, hL.2.1]), show unk τ = unk σ by funext j; unfold unk; rw [er 32 (by decide) (by decide) (by decide), er 35 (by decide) (by decide) (by decide)], k2]
        rfl
      have z6 : f_X6_take τ = (f_X6_open (tak ρ), tak ρ) := by
        unfold f_X6_take
        rw [e29, if_neg k1, hu2, if_pos (by decide)]
        exact h3
      have p34 : ∀ i : Nat, ρ 34 i = if i < n ∧ ¬ σ 32 i = 0 then σ 34 i + 1 else σ 34 i := fun i => by
        rw [h4, zs_ne (show 32 ≠ 29 by decide), zs_ne (show 34 ≠ 29 by decide), er 32 (by decide) (by decide) (by decide), er 34 (by decide) (by decide) (by decide)]
        by_cases q : i < n ∧ ¬ σ 32 i = 0
        · rw [if_pos ⟨rfl, Nat.zero_le _, q⟩, if_pos q]
        · rw [if_neg (fun z => q z.2.2), if_neg q]
      have p1 : ∀ k : Nat, k ≠ 34 → ρ k = zs τ 29 28 0 k := fun k hk => by
        funext i
        rw [h4, if_neg (fun z => hk z.1)]
      have p29 : ∀ j : Nat, j ≠ 28 → ρ 29 j = σ 29 j := fun j hj => by rw [p1 29 (by decide), zs_nf hj, e29]
      have w1 : ∀ k : Nat, k ≠ 29 → k ≠ 50 → tak ρ k = ρ k := fun k h1 h2 => by
        unfold tak
        rw [zs_ne h1, zs_ne h1, zs_ne h1, zs_ne h2]
      have w2 : ∀ k : Nat, k ≠ 29 → k ≠ 50 → k ≠ 34 → tak ρ k = τ k := fun k h1 h2 h3 => by rw [w1 k h1 h2, p1 k h3, zs_ne h1]
      have es : ∀ k : Nat, k ≠ 29 → k ≠ 50 → k ≠ 34 → k ≠ 7 → k ≠ 27 → k ≠ 28 → tak ρ k = σ k := fun k h1 h2 h3 h4 h5 h6 => (w2 k h1 h2 h3).trans (er k h4 h5 h6)
      have eo : ∀ j : Nat, j ≠ 28 → j ≠ 24 → j ≠ 25 → j ≠ 26 → tak ρ 29 j = σ 29 j := fun j h0 h1 h2 h3 => by
        unfold tak
        rw [zs_nf h3, zs_nf h2, zs_nf h1, zs_ne (show 29 ≠ 50 by decide), p29 j h0]
      have t26 : tak ρ 29 26 = (-1) := by unfold tak; rw [zs_eq]
      have t25 : tak ρ 29 25 = nI hr := by unfold tak; rw [zs_nf (by decide), zs_eq, p29 0 (by decide), hH.2.1]
      have t24 : tak ρ 29 24 = nI d := by unfold tak; rw [zs_nf (by decide), zs_nf (by decide), zs_eq, p29 26 (by decide), d26]
      have t28 : tak ρ 29 28 = 0 := by
        unfold tak
        rw [zs_nf (by decide), zs_nf (by decide), zs_nf (by decide), zs_ne (show 29 ≠ 50 by decide), p1 29 (by decide), zs_eq]
      have t50 : tak ρ 50 = upd (σ 50) c (nI hr) := by
        unfold tak
        rw [zs_ne (show 50 ≠ 29 by decide), zs_ne (show 50 ≠ 29 by decide), zs_ne (show 50 ≠ 29 by decide), zs_row, if_pos rfl, p29 24 (by decide), p29 0 (by decide), e24, ni_cl (by omega), hH.2.1, p1 50 (by decide), zs_ne (show 50 ≠ 29 by decide), er 50 (by decide) (by decide) (by decide)]
      have t7 : ∀ i : Nat, tak ρ 7 i = if i < n ∧ ¬ σ 5 i = 0 then σ 7 i + 1 else σ 7 i := fun i => by
        rw [w2 7 (by decide) (by decide) (by decide), hv, r1 7 (by decide) (by decide)]
        by_cases q : i < n ∧ ¬ σ 5 i = 0
        · rw [if_pos ⟨rfl, q⟩, if_pos q]
        · rw [if_neg (fun z => q z.2), if_neg q]
      have t34 : ∀ i : Nat, tak ρ 34 i = if i < n ∧ ¬ σ 32 i = 0 then σ 34 i + 1 else σ 34 i := fun i => by rw [w1 34 (by decide) (by decide), p34]
      have t27 : tak ρ 27 = σ1 27 := (w2 27 (by decide) (by decide) (by decide)).trans (r2 27 (by decide))
      have t28r : tak ρ 28 = upd (σ 28) c (nI (hr + 11)) := by
        rw [w2 28 (by decide) (by decide) (by decide), r2 28 (by decide), ← hσ1, zs_ne (show 28 ≠ 27 by decide), zs_ne (show 28 ≠ 27 by decide), zs_ne (show 28 ≠ 27 by decide), zs_row, if_pos rfl]
      have hLn : rL n (tak ρ) := by
        obtain ⟨l1, l2, l3, l4, l5, l6, l7, l8⟩ := id hL
        unfold rL
        rw [es 2 (by decide) (by decide) (by decide) (by decide) (by decide) (by decide), eo 7 (by decide) (by decide) (by decide) (by decide), es 3 (by decide) (by decide) (by decide) (by decide) (by decide) (by decide), es 31 (by decide) (by decide) (by decide) (by decide) (by decide) (by decide), es 4 (by decide) (by decide) (by decide) (by decide) (by decide) (by decide), es 33 (by decide) (by decide) (by decide) (by decide) (by decide) (by decide), es 5 (by decide) (by decide) (by decide) (by decide) (by decide) (by decide), es 32 (by decide) (by decide) (by decide) (by decide) (by decide) (by decide), es 6 (by decide) (by decide) (by decide) (by decide) (by decide) (by decide), es 35 (by decide) (by decide) (by decide) (by decide) (by decide) (by decide), es 8 (by decide) (by decide) (by decide) (by decide) (by decide) (by decide)]
        refine ⟨l1, l2, l3, l4, fun i hi => ?_, fun i hi hi2 => ?_, l7, l8⟩
        · obtain ⟨m1, m2, m3, m4, m5, m6, m7⟩ := l5 i hi
          exact ⟨m1, m2, m3, m4, by rw [t7, t34, m3, m5], m6, m7⟩
        · rw [t7, if_neg (by omega)]
          exact l6 i hi hi2
      have hCn : rC hr (tak ρ) := by
        unfold rC
        rw [t27, t28r, t50, t24, t25, t26]
        refine ⟨by rw [← hσ1]; simp [zs_rd], by rw [← hσ1]; simp [zs_rd], by rw [← hσ1]; simp [zs_rd], ⟨hr, Nat.le_refl _, rfl⟩, Or.inr ⟨d, hd, rfl⟩, Or.inl rfl, fun x hx => ?_, fun x hx hxd => ?_, fun z => absurd z (ni_ne (by omega))⟩
        · simp only [upd_rd]
          by_cases q : x = c
          · rw [if_pos q, if_pos q]
            exact Or.inr ⟨hr, Nat.le_refl _, rfl, rfl⟩
          · rw [if_neg q, if_neg q]
            exact c7 x hx
        · have hxx : d = x := (ni_eq (by omega) (by omega)).mp hxd
          have hdc : ¬ x = c := fun z => dne (by rw [d26, e24, hxx, z])
          rw [upd_rd, if_neg hdc, ← hxx]
          exact d28
      have ho : f_X6_open (tak ρ) = f_X2_openCount τ := by
        rw [open_e hn hLn, oc_v, w2 2 (by decide) (by decide) (by decide)]
      have em : ∀ L : List Nat, (29 ∉ L ∧ 50 ∉ L ∧ 34 ∉ L ∧ 7 ∉ L ∧ 27 ∉ L ∧ 28 ∉ L) → ∀ k : Nat, k ∈ L → tak ρ k = σ k := fun L hL k hk => es k (fun z => hL.1 (z ▸ hk)) (fun z => hL.2.1 (z ▸ hk)) (fun z => hL.2.2.1 (z ▸ hk)) (fun z => hL.2.2.2.1 (z ▸ hk)) (fun z => hL.2.2.2.2.1 (z ▸ hk)) (fun z => hL.2.2.2.2.2 (z ▸ hk))
      have e5 := em [5] (by decide) 5 (by decide)
      have e3 := em [3] (by decide) 3 (by decide)
      have hz : zR (t + 1) (tak ρ) := ⟨n, hr, hn, by omega, rH_f (congrFun (em [0] (by decide) 0 (by decide)) 6) (eo 0 (by decide) (by decide) (by decide) (by decide)) (em [1] (by decide) 1 (by decide)) (em [30] (by decide) 30 (by decide)) hH, hLn, rA_g (Nat.le_refl n) (em _ (by decide)) (fun i hi h1 h2 => by rw [e5, e3]; exact ⟨h1, h2⟩) hA, rP_g (Nat.le_refl n) (em _ (by decide)) (eo 20 (by decide) (by decide) (by decide) (by decide)) (fun i hi h1 h2 => by rw [e5, e3]; exact ⟨h1, h2⟩) hP, rQ_g (Nat.le_refl n) (em _ (by decide)) (eo 23 (by decide) (by decide) (by decide) (by decide)) (fun i hi h2 => by rw [e5, e3]; exact ⟨rfl, h2⟩) hQ, hCn⟩
      rw [z6]
      exact ⟨hτI, (show f_X6_thrown (tak ρ) = 0 from t28).trans (by first | rfl | exact (if_pos trivial).symm), fun _ => ⟨by first | rfl | trivial, ho⟩, hz⟩
    · have gt : ¬ nI (cnt (σ 5) n) ≤ nI (cnt (ack σ) n) := fun z => by have := (ni_le (by omega) (by omega)).mp z; omega
      have z6 : f_X6_take σ = ((-1), zs σ 29 28 2) := by unfold f_X6_take; rw [if_neg k1, hu, if_neg (nI_nle (by omega) (by have := cnt_le (unk σ) n; omega))]
      simp [k1, gt, z6, hI, hT, thr_v]
