theorem sim_addProcedure {t : Nat} {σ : zS} (h : zR t σ) (ht : t < 512)  : zI (f_X5_addProcedure σ ).2.2 ∧ f_X6_thrown (f_X6_addProcedure (f_X5_addProcedure σ ).2.2 ).2 = f_L_addProcedure (f_X5_addProcedure σ ).1 ∧ (f_L_addProcedure (f_X5_addProcedure σ ).1 = 0 → (f_X5_addProcedure σ ).1 = 0 ∧ (f_X6_addProcedure (f_X5_addProcedure σ ).2.2 ).1 = (f_X5_addProcedure σ ).2.1) ∧ zR (t + 1) (f_X6_addProcedure (f_X5_addProcedure σ ).2.2 ).2 := by
  have hI := zR_I h
  have hT := fun c => zR_thr (c := c) h
  obtain ⟨n, hr, hn, hh, hH, hL, hA, hP, hQ, hC⟩ := h
  obtain ⟨⟨p, hp1, hp2, hp3, hp4⟩, hp5, hp6, hp7⟩ := id hP
  unfold f_X5_addProcedure f_X6_addProcedure f_L_addProcedure f_X4_isFull f_X4_append
  by_cases c : p = 6
  · have c5 : ¬ σ 13 9 < 6 := by rw [hp2, c]; decide
    have c6 : σ 29 20 = 6 := by rw [hp3, c]; rfl
    have ez : zs (zs σ 29 28 1) 29 20 6 = zs σ 29 28 1 := by
      funext k j
      simp only [zs_rd]
      by_cases e : k = 29 ∧ j = 20
      · rw [if_pos e, if_neg (by omega), e.1, e.2, c6]
      · rw [if_neg e]
    simp [c5, c6, ez, hI, hT, thr_v]
  · have c5 : σ 13 9 < 6 := by rw [hp2]; exact (ni_lt (b := 6) (by omega) (by omega)).mpr (by omega)
    have c6 : ¬ σ 29 20 = 6 := by rw [hp3]; exact fun z => c ((ni_eq (b := 6) (by omega) (by omega)).mp z)
    simp only [if_pos c5, ↓reduceIte]
    generalize hτ : zs σ 13 9 (σ 13 9 + 1) = τ
    have h29 : τ 29 = σ 29 := by rw [← hτ]; simp [zs_row]
    have hτI : zI τ := by
      refine zI_hi (σ := σ) ?_ hI
      rw [← hτ]
      exact hi_zs (hi_rfl σ) (by decide)
    rw [h29, if_neg c6, hp3, nI_1, nI_pred]
    refine ⟨hτI, ?_, fun _ => ⟨by first | rfl | trivial, hp2.symm⟩, n, hr, by omega, by omega, ?_, ?_, ?_, ?_, ?_, ?_⟩
    · simp [f_X6_thrown, zs_rd]
    · refine rH_f ?_ ?_ ?_ ?_ hH <;> simp [zs_row, upd_rd, ← hτ]
    · refine rL_f ?_ ?_ ?_ ?_ ?_ ?_ ?_ ?_ ?_ ?_ ?_ ?_ ?_ ?_ ?_ hL <;> simp [zs_row, upd_rd, ← hτ]
    · refine rA_f (Nat.le_refl n) ?_ ?_ ?_ ?_ ?_ ?_ (fun i hi h1 h2 => by constructor <;> simp [zs_row, upd_rd, ← hτ, h1, h2]) hA <;> simp [zs_row, upd_rd, ← hτ]
    · have e13 : zs (zs τ 29 28 0) 29 20 (nI (p + 1)) 13 9 = nI (p + 1) := by simp [zs_rd, ← hτ, hp2, nI_1]
      have e29 : zs (zs τ 29 28 0) 29 20 (nI (p + 1)) 29 20 = nI (p + 1) := by simp [zs_rd]
      have er : ∀ k : Nat, k ≠ 13 → k ≠ 29 → zs (zs τ 29 28 0) 29 20 (nI (p + 1)) k = σ k := fun k h1 h2 => by simp [zs_row, ← hτ, h1, h2]
      show rP n (zs (zs τ 29 28 0) 29 20 (nI (p + 1)))
      unfold rP
      rw [e13, e29, er 14 (by decide) (by decide), er 46 (by decide) (by decide), er 15 (by decide) (by decide), er 47 (by decide) (by decide), er 16 (by decide) (by decide), er 39 (by decide) (by decide), er 17 (by decide) (by decide), er 40 (by decide) (by decide), er 18 (by decide) (by decide), er 41 (by decide) (by decide), er 19 (by decide) (by decide), er 42 (by decide) (by decide), er 20 (by decide) (by decide), er 43 (by decide) (by decide), er 21 (by decide) (by decide), er 44 (by decide) (by decide), er 22 (by decide) (by decide), er 45 (by decide) (by decide), er 5 (by decide) (by decide), er 3 (by decide) (by decide)]
      refine ⟨⟨p + 1, by omega, rfl, rfl, fun i hi => ?_⟩, hp5, hp6, hp7⟩
      obtain ⟨a, b, g1, g2, g3, g4, g5, g6, g7⟩ := hp4 i hi
      exact ⟨a, b, g1, g2, g3, g4, g5, g6, fun z => g7 (by omega)⟩
    · refine rQ_f (Nat.le_refl n) ?_ ?_ ?_ ?_ ?_ ?_ ?_ (fun i hi h2 => by constructor <;> simp [zs_row, upd_rd, ← hτ, h2]) hQ <;> simp [zs_row, upd_rd, ← hτ]
    · refine rC_f ?_ ?_ ?_ ?_ ?_ ?_ ?_ ?_ hC <;> simp [zs_row, upd_rd, ← hτ]
theorem sim_close {t : Nat} {σ : zS} (h : zR t σ) (ht : t < 512) (a1 : Int32) : zI (f_X5_close σ a1).2.2 ∧ f_X6_thrown (f_X6_close (f_X5_close σ a1).2.2 a1).2 = f_L_close (f_X5_close σ a1).1 ∧ (f_L_close (f_X5_close σ a1).1 = 0 → (f_X5_close σ a1).1 = 0 ∧ (f_X6_close (f_X5_close σ a1).2.2 a1).1 = (f_X5_close σ a1).2.1) ∧ zR (t + 1) (f_X6_close (f_X5_close σ a1).2.2 a1).2 := by
  have hI := zR_I h
  have hT := fun c => zR_thr (c := c) h
  obtain ⟨n, hr, hn, hh, hH, hL, hA, hP, hQ, hC⟩ := h
  unfold f_X5_close f_X6_close f_X5_checkLine f_X2_kindAt f_L_close f_X2_openCount
  rcases line_c hn hL.1 hL.2.1 a1 with ⟨h1, h2⟩ | ⟨j, hj, rfl, h1, h2⟩
  · simp [h1, h2, hI, hT, thr_v]
  · have cj := ni_cl (show j < 2000000000 by omega)
    obtain ⟨f1, f2, f3, f4, -⟩ := hL.2.2.2.2.1 j hj
    rw [h1, isOpen_v hn hL.1 (show j < 1000 by omega), cj]
    by_cases k8 : σ 3 j = 110
    · by_cases c2 : σ 5 j = 0
      · simp [h2, k8, c2, ← f1, ← f3, cj, hI, hT, thr_v]
      · have k7 : σ 5 j = 1 := f4.resolve_left c2
        obtain ⟨e, he, h8, hes⟩ := rL_x hn hL
        have hcp := cnt_pos c2 hj
        have he' : e < 120 := by omega
        simp only [i10, ↓reduceIte, if_pos k8, if_pos (show j < n ∧ ¬ σ 5 j = 0 from ⟨hj, c2⟩)]
        rw [closeLine_v hn hL.1 hj c2 h8 he']
        generalize hτ : zs (zs (zs (zs σ 5 j 0) 2 7 (σ 2 7 - 1)) 8 e (nI j ^^^ (-1))) 2 8 (nI (e + 1)) = τ
        have h29 : τ 29 = σ 29 := by rw [← hτ]; simp [zs_row]
        have hτI : zI τ := by
          refine zI_hi (σ := σ) ?_ hI
          rw [← hτ]
          exact hi_zs (hi_zs (hi_zs (hi_zs (hi_rfl σ) (by decide)) (by decide)) (by decide)) (by decide)
        have hl6 : f_X6_isLine τ (nI j) = 1 := by
          unfold f_X6_isLine at h2 ⊢
          rw [h29]
          exact h2
        have hLn : rL n (zs (zs τ 29 28 0) 32 j 0) := by
          refine rL_close hn hj k7 h8 (by omega) ?_ ?_ ?_ ?_ ?_ ?_ ?_ ?_ ?_ ?_ ?_ ?_ ?_ ?_ ?_ hL <;> simp [zs_row, upd_rd, ← hτ]
        rw [hl6, if_neg i10, if_pos (show τ 31 j = 110 by rw [← k8, f1, ← hτ]; simp [zs_rd]), if_neg (show ¬ τ 32 j = 0 by rw [← hτ]; simpa [zs_rd, ← f3] using c2), open_e hn hLn]
        refine ⟨hτI, ?_, fun _ => ⟨by first | rfl | trivial, by simp [zs_rd]⟩, n, hr, by omega, by omega, ?_, hLn, ?_, ?_, ?_, ?_⟩
        · simp [f_X6_thrown, zs_rd]
        · refine rH_f ?_ ?_ ?_ ?_ hH <;> simp [zs_row, upd_rd, ← hτ]
        · refine rA_f (Nat.le_refl n) ?_ ?_ ?_ ?_ ?_ ?_ (fun i hi h1 h2 => by have q : ¬ i = j := (fun z => by rw [z, k8] at h2; exact absurd h2 (by decide)); constructor <;> simp [zs_row, upd_rd, ← hτ, q, h1, h2]) hA <;> simp [zs_row, upd_rd, ← hτ]
        · refine rP_f (Nat.le_refl n) ?_ ?_ ?_ ?_ ?_ ?_ ?_ ?_ ?_ ?_ ?_ ?_ ?_ ?_ ?_ ?_ ?_ ?_ ?_ ?_ (fun i hi h1 h2 => by have q : ¬ i = j := (fun z => by rw [z, k8] at h2; exact absurd h2 (by decide)); constructor <;> simp [zs_row, upd_rd, ← hτ, q, h1, h2]) hP <;> simp [zs_row, upd_rd, ← hτ]
        · refine rQ_f (Nat.le_refl n) ?_ ?_ ?_ ?_ ?_ ?_ ?_ (fun i hi h2 => by have q : ¬ i = j := (fun z => by rw [z, k8] at h2; exact absurd h2 (by decide)); constructor <;> simp [zs_row, upd_rd, ← hτ, q, h2]) hQ <;> simp [zs_row, upd_rd, ← hτ]
        · refine rC_f ?_ ?_ ?_ ?_ ?_ ?_ ?_ ?_ hC <;> simp [zs_row, upd_rd, ← hτ]
    · simp [h2, k8, ← f1, cj, hI, hT, thr_v]
theorem rQ_shut {n q i j : Nat} {σ τ : zS} (hn : n ≤ 60) (hi : i < q) (hj : j < n) (h9 : σ 49 i = nI j) (e1 : τ 49 = σ 49) (e2 : τ 48 = σ 48) (e3 : τ 23 3 = σ 23 3) (e4 : τ 29 23 = σ 29 23) (e5 : τ 24 = σ 24) (e6 : τ 25 = σ 25) (e7 : τ 26 = upd (σ 26) i 0) (e8 : τ 5 = upd (σ 5) j 0) (e9 : τ 3 = σ 3) (hq3 : σ 23 3 = nI q) (hq2 : q ≤ 8) (H : rQ n σ) : rQ n τ := by
  unfold rQ at H ⊢
  rw [e1, e2, e3, e4, e5, e6, e7, e8, e9]
  obtain ⟨h1, q', h2, h3, h4, h6, h7, h8⟩ := H
  have hqq : q' = q := (ni_eq (by omega) (by omega)).mp (h3.symm.trans hq3)
  subst hqq
  refine ⟨h1, q', h2, h3, h4, fun k hk => ?_, h7, fun k l hk hl hkl => ?_⟩
  · obtain ⟨g1, g2, j', g3, g4, g5, g6, g7⟩ := h6 k hk
    refine ⟨g1, g2, j', g3, g4, g5, ?_, g7⟩
    simp only [upd_rd]
    by_cases z : k = i
    · have : j' = j := by
        rw [z] at g5
        exact (ni_eq (by omega) (by omega)).mp (g5.symm.trans h9)
      rw [if_pos z, if_pos this]
    · rw [if_neg z, if_neg (fun z2 => z (h7 k i hk hi (by rw [g5, h9, z2]))), g6]
  · simp only [upd_rd]
    intro w1 w2
    by_cases z : k = i
    · rw [if_pos z] at w1
      exact absurd w1 (by decide)
    · by_cases z2 : l = i
      · rw [if_pos z2] at w2
        exact absurd w2 (by decide)
      · rw [if_neg z] at w1
        rw [if_neg z2] at w2
        exact h8 k l hk hl hkl w1 w2
theorem sim_closePermit {t : Nat} {σ : zS} (h : zR t σ) (ht : t < 512) (a1 : Int32) : zI (f_X5_closePermit σ a1).2.2 ∧ f_X6_thrown (f_X6_closePermit (f_X5_closePermit σ a1).2.2 a1).2 = f_L_closePermit (f_X5_closePermit σ a1).1 ∧ (f_L_closePermit (f_X5_closePermit σ a1).1 = 0 → (f_X5_closePermit σ a1).1 = 0 ∧ (f_X6_closePermit (f_X5_closePermit σ a1).2.2 a1).1 = (f_X5_closePermit σ a1).2.1) ∧ zR (t + 1) (f_X6_closePermit (f_X5_closePermit σ a1).2.2 a1).2 := by
  have hI := zR_I h
  have hT := fun c => zR_thr (c := c) h
  obtain ⟨n, hr, hn, hh, hH, hL, hA, hP, hQ, hC⟩ := h
  obtain ⟨hq1, q, hq2, hq3, hq4, hq5, hq6, hq7⟩ := id hQ
  have eA := acts_e hC
  unfold f_X5_closePermit f_X6_closePermit f_X5_checkPermit f_X5_checkAtWork f_L_closePermit
  rcases perm_c hq2 hq3 hq4 a1 with ⟨h1, h2⟩ | ⟨i, hi, rfl, h1, h2⟩
  · simp [h1, h2, hI, hT, thr_v]
  · have ci := ni_cl (show i < 2000000000 by omega)
    obtain ⟨g1, g2, j, hj, g4, g5, g6, k8⟩ := hq5 i hi
    have cj := ni_cl (show j < 2000000000 by omega)
    obtain ⟨f1, f2, f3, f4, -⟩ := hL.2.2.2.2.1 j hj
    rw [h1, pop_v hq2 hq3 hi, g6, ci]
    by_cases c2 : σ 5 j = 0
    · simp [h2, c2, ← f3, cj, hI, hT, thr_v, g5]
    · by_cases c3 : f_X1_isAtWork σ = 0
      · simp [h2, c2, c3, eA, ← f3, cj, hI, hT, thr_v, g5]
      · have k7 : σ 5 j = 1 := f4.resolve_left c2
        obtain ⟨e, he, h8, hes⟩ := rL_x hn hL
        have hcp := cnt_pos c2 hj
        have he' : e < 120 := by omega
        have es : f_X3_shut σ (nI i) = zs σ 26 i 0 := by
          unfold f_X3_shut
          rw [h1, if_neg i10, ci]
        have el : f_X3_lineOf σ (nI i) = nI j := by
          unfold f_X3_lineOf
          rw [h1, if_neg i10, ci, g4]
        simp only [i10, ↓reduceIte, if_neg c2, if_neg c3, es, el]
        rw [closeLine_v (n := n) (e := e) (τ := zs σ 26 i 0) hn (by rw [zs_ne (by decide), hL.1]) hj (by rw [zs_ne (by decide)]; exact c2) (by rw [zs_ne (by decide), h8]) he']
        generalize hτ : zs (zs (zs (zs (zs σ 26 i 0) 5 j 0) 2 7 (zs σ 26 i 0 2 7 - 1)) 8 e (nI j ^^^ (-1))) 2 8 (nI (e + 1)) = τ
        have h29 : τ 29 = σ 29 := by rw [← hτ]; simp [zs_row]
        have h49 : τ 49 i = nI j := by rw [← g5, ← hτ]; simp [zs_rd]
        have hτI : zI τ := by
          refine zI_hi (σ := σ) ?_ hI
          rw [← hτ]
          exact hi_zs (hi_zs (hi_zs (hi_zs (hi_zs (hi_rfl σ) (by decide)) (by decide)) (by decide)) (by decide)) (by decide)
        have hl6 : f_X6_isPermit τ (nI i) = 1 := by
          unfold f_X6_isPermit at h2 ⊢
          rw [h29]
          exact h2
        have ha6 : f_X6_acts τ = f_X6_acts σ := by
          unfold f_X6_acts
          rw [h29]
        rw [hl6, if_neg i10, h49, cj, if_neg (show ¬ τ 32 j = 0 by rw [← hτ]; simpa [zs_rd, ← f3] using c2), ha6, eA, if_neg c3]
        refine ⟨hτI, ?_, fun _ => ⟨by first | rfl | trivial, by first | rfl | trivial⟩, n, hr, by omega, by omega, ?_, ?_, ?_, ?_, ?_, ?_⟩
        · simp [f_X6_thrown, zs_rd]
        · refine rH_f ?_ ?_ ?_ ?_ hH <;> simp [zs_row, upd_rd, ← hτ]
        · refine rL_close hn hj k7 h8 (by omega) ?_ ?_ ?_ ?_ ?_ ?_ ?_ ?_ ?_ ?_ ?_ ?_ ?_ ?_ ?_ hL <;> simp [zs_row, upd_rd, ← hτ]
        · refine rA_f (Nat.le_refl n) ?_ ?_ ?_ ?_ ?_ ?_ (fun i hi h1 h2 => by have q : ¬ i = j := (fun z => by rw [z, k8] at h2; exact absurd h2 (by decide)); constructor <;> simp [zs_row, upd_rd, ← hτ, q, h1, h2]) hA <;> simp [zs_row, upd_rd, ← hτ]
        · refine rP_f (Nat.le_refl n) ?_ ?_ ?_ ?_ ?_ ?_ ?_ ?_ ?_ ?_ ?_ ?_ ?_ ?_ ?_ ?_ ?_ ?_ ?_ ?_ (fun i hi h1 h2 => by have q : ¬ i = j := (fun z => by rw [z, k8] at h2; exact absurd h2 (by decide)); constructor <;> simp [zs_row, upd_rd, ← hτ, q, h1, h2]) hP <;> simp [zs_row, upd_rd, ← hτ]
        · refine rQ_shut hn hi hj g5 ?_ ?_ ?_ ?_ ?_ ?_ ?_ ?_ ?_ hq3 hq2 hQ <;> simp [zs_row, upd_rd, ← hτ]
        · refine rC_f ?_ ?_ ?_ ?_ ?_ ?_ ?_ ?_ hC <;> simp [zs_row, upd_rd, ← hτ]
