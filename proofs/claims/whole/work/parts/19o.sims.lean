theorem sta_c (a : Int32) : (f_X5_checkState a = 2 ∧ f_X6_in a.toInt64 0 3 = 0) ∨ (f_X5_checkState a = 0 ∧ f_X6_in a.toInt64 0 3 = 1) := by
  unfold f_X5_checkState
  rcases in_c a 0 3 (by decide) (by decide) with ⟨h1, h2⟩ | ⟨h1, j, h2, h3, rfl⟩
  · have e0 : (0 : Int64).toInt = 0 := by decide
    have e7 : (3 : Int64).toInt = 3 := by decide
    rw [e0, e7] at h2
    refine Or.inl ⟨?_, h1⟩
    by_cases q : a < 0
    · rw [if_pos q]
    · rw [if_neg q, if_neg]
      rw [Int32.lt_iff_toInt_lt] at q ⊢
      have := show (0 : Int32).toInt = 0 by decide
      have := show (4 : Int32).toInt = 4 by decide
      omega
  · have e7 : (3 : Int64).toInt = 3 := by decide
    rw [e7] at h3
    refine Or.inr ⟨?_, h1⟩
    rw [if_neg (nI_pos (by omega)), if_pos]
    rw [show (4 : Int32) = nI 4 from rfl, ni_lt (by omega) (by omega)]
    omega
/-- a place belongs to one procedure and one number -/
theorem pl_e {i s i' s' : Nat} (hs : s < 8) (hs' : s' < 8) (h : 8 * i + s = 8 * i' + s') : i = i' ∧ s = s' := ⟨by omega, by omega⟩
theorem cl8 {n : Nat} {σ : zS} (H : rP n σ) {i : Nat} (hi : i < 6) : (σ 46 i).toNatClampNeg ≤ 8 := by
  obtain ⟨⟨p, -, -, -, h4⟩, -⟩ := H
  obtain ⟨a, b, -, g2, -, g4, -⟩ := h4 i hi
  rw [g4, ni_cl (by omega)]
  exact g2
theorem rP_adds {n i a u w : Nat} {y z : Int32} {σ τ : zS} (hi : i < 6) (ha : a < 8) (hu : u < 8) (hw : w < 8) (h46 : σ 46 i = nI a) (hi2 : ∀ p : Nat, p ≤ 6 → σ 13 9 = nI p → i < p) (e1 : τ 13 9 = σ 13 9) (e2 : τ 29 20 = σ 29 20) (e3 : τ 14 = upd (σ 14) i (nI (a + 1))) (e4 : τ 46 = upd (σ 46) i (nI (a + 1))) (e5 : τ 15 = σ 15) (e6 : τ 47 = σ 47)
    (e7 : τ 16 = upd (σ 16) (8 * i + a) (nI u)) (e8 : τ 39 = upd (σ 39) (8 * i + a) (nI u)) (e9 : τ 17 = upd (σ 17) (8 * i + a) y) (e10 : τ 40 = upd (σ 40) (8 * i + a) y) (e11 : τ 18 = upd (σ 18) (8 * i + a) (nI w)) (e12 : τ 41 = upd (σ 41) (8 * i + a) (nI w)) (e13 : τ 19 = upd (σ 19) (8 * i + a) z) (e14 : τ 42 = upd (σ 42) (8 * i + a) z) (e15 : τ 20 = σ 20) (e16 : τ 43 = σ 43) (e17 : τ 21 = upd (σ 21) (8 * i + a) (-1)) (e18 : τ 44 = upd (σ 44) (8 * i + a) (-1)) (e19 : τ 22 = upd (σ 22) (8 * i + a) (-1)) (e20 : τ 45 = upd (σ 45) (8 * i + a) (-1))
    (e21 : τ 5 = σ 5) (e22 : τ 3 = σ 3) (H : rP n σ) : rP n τ := by
  have h8 := fun k (hk : k < 6) => cl8 H hk
  unfold rP at H ⊢
  rw [e1, e2, e3, e4, e5, e6, e7, e8, e9, e10, e11, e12, e13, e14, e15, e16, e17, e18, e19, e20, e21, e22]
  obtain ⟨⟨p, h1, h2, h3, h4⟩, h5, h6, h7⟩ := H
  have c46 : ∀ k : Nat, ¬ k = i → upd (σ 46) i (nI (a + 1)) k = σ 46 k := fun k hk => by rw [upd_rd, if_neg hk]
  have c46' : (upd (σ 46) i (nI (a + 1)) i).toNatClampNeg = a + 1 := by rw [upd_rd, if_pos rfl, ni_cl (by omega)]
  have s46 : (σ 46 i).toNatClampNeg = a := by rw [h46, ni_cl (by omega)]
  have bnd : ∀ k s : Nat, k < 6 → s < (upd (σ 46) i (nI (a + 1)) k).toNatClampNeg → s < 8 := by
    intro k s hk hs
    by_cases q : k = i
    · rw [q, c46'] at hs
      omega
    · rw [c46 k q] at hs
      have := h8 k hk
      omega
  have old : ∀ k s : Nat, k < 6 → s < (upd (σ 46) i (nI (a + 1)) k).toNatClampNeg → ¬ 8 * k + s = 8 * i + a → s < (σ 46 k).toNatClampNeg := by
    intro k s hk hs hne
    by_cases q : k = i
    · rw [q, c46'] at hs
      rw [q, s46]
      have : ¬ s = a := fun z => hne (by rw [q, z])
      omega
    · rw [c46 k q] at hs
      exact hs
  refine ⟨⟨p, h1, h2, h3, fun k hk => ?_⟩, fun j hj => ?_, fun k s hk hs => ?_, fun k s k' s' hk hk' hs hs' => ?_⟩
  · obtain ⟨a', b, g1, g2, g3, g4, g5, g6, g7⟩ := h4 k hk
    simp only [upd_rd]
    by_cases q : k = i
    · have q2 : a' = a := by
        rw [q, h46] at g4
        exact (ni_eq (by omega) (by omega)).mp g4.symm
      have q3 := hi2 p h1 h2
      simp only [if_pos q]
      exact ⟨a + 1, b, by omega, by omega, rfl, rfl, g5, g6, fun z => by omega⟩
    · simp only [if_neg q]
      exact ⟨a', b, g1, g2, g3, g4, g5, g6, g7⟩
  · obtain ⟨f1, f2, f3, f4, f5, f6, f7, f8, f9, f10⟩ := h5 j hj
    simp only [upd_rd]
    by_cases q : j = 8 * i + a
    · simp only [if_pos q]
      exact ⟨trivial, trivial, trivial, trivial, f5, trivial, trivial, ⟨u, hu, rfl⟩, ⟨w, hw, rfl⟩, Or.inl trivial⟩
    · simp only [if_neg q]
      exact ⟨f1, f2, f3, f4, f5, f6, f7, f8, f9, f10⟩
  · rw [upd_rd (σ 45)]
    by_cases q : 8 * k + s = 8 * i + a
    · rw [if_pos q]
      exact Or.inl rfl
    · rw [if_neg q]
      exact h6 k s hk (old k s hk hs q)
  · rw [upd_rd (σ 45), upd_rd (σ 45)]
    by_cases q : 8 * k + s = 8 * i + a
    · rw [if_pos q]
      by_cases q2 : 8 * k' + s' = 8 * i + a
      · intro _ _
        exact pl_e (bnd k s hk hs) (bnd k' s' hk' hs') (by omega)
      · intro _ z
        exact absurd rfl z
    · by_cases q2 : 8 * k' + s' = 8 * i + a
      · rw [if_neg q, if_pos q2]
        intro z z2
        exact absurd z z2
      · rw [if_neg q, if_neg q2]
        exact h7 k s k' s' hk hk' (old k s hk hs q) (old k' s' hk' hs' q2)
theorem sim_addStep {t : Nat} {σ : zS} (h : zR t σ) (ht : t < 512) (a1 : Int32) (a2 : Int32) (a3 : Int32) (a4 : Int32) (a5 : Int32) : zI (f_X5_addStep σ a1 a2 a3 a4 a5).2.2 ∧ f_X6_thrown (f_X6_addStep (f_X5_addStep σ a1 a2 a3 a4 a5).2.2 a1 a2 a3 a4 a5).2 = f_L_addStep (f_X5_addStep σ a1 a2 a3 a4 a5).1 ∧ (f_L_addStep (f_X5_addStep σ a1 a2 a3 a4 a5).1 = 0 → (f_X5_addStep σ a1 a2 a3 a4 a5).1 = 0 ∧ (f_X6_addStep (f_X5_addStep σ a1 a2 a3 a4 a5).2.2 a1 a2 a3 a4 a5).1 = (f_X5_addStep σ a1 a2 a3 a4 a5).2.1) ∧ zR (t + 1) (f_X6_addStep (f_X5_addStep σ a1 a2 a3 a4 a5).2.2 a1 a2 a3 a4 a5).2 := by
  have hI := zR_I h
  have hT := fun c => zR_thr (c := c) h
  obtain ⟨n, hr, hn, hh, hH, hL, hA, hP, hQ, hC⟩ := h
  obtain ⟨⟨p, hp1, hp2, hp3, hp4⟩, hp5, hp6, hp7⟩ := id hP
  unfold f_X5_addStep f_X5_checkProcedure f_X5_checkUnit f_L_addStep
  rcases proc_c hp1 hp2 hp3 a1 with ⟨h1, h2⟩ | ⟨i, hi', rfl, h1, h2⟩
  · have z6 : f_X6_addStep σ a1 a2 a3 a4 a5 = ((-1), zs σ 29 28 1) := by unfold f_X6_addStep; rw [h2, if_pos rfl]
    simp [h1, z6, hI, hT, thr_v]
  · rcases unit_c a2 with ⟨b1, b2⟩ | ⟨u, hu, rfl, b1, b2⟩
    · have z6 : f_X6_addStep σ (nI i) a2 a3 a4 a5 = ((-1), zs σ 29 28 2) := by unfold f_X6_addStep; rw [h2, if_neg i10, b2, if_pos rfl]
      simp [h1, b1, z6, hI, hT, thr_v]
    · rcases unit_c a4 with ⟨d1, d2⟩ | ⟨w, hw, rfl, d1, d2⟩
      · have z6 : f_X6_addStep σ (nI i) (nI u) a3 a4 a5 = ((-1), zs σ 29 28 2) := by unfold f_X6_addStep; rw [h2, if_neg i10, b2, if_neg i10, d2, if_pos rfl]
        simp [h1, b1, d1, z6, hI, hT, thr_v]
      · rcases sta_c a3 with ⟨k1, k2⟩ | ⟨k1, k2⟩
        · have z6 : f_X6_addStep σ (nI i) (nI u) a3 (nI w) a5 = ((-1), zs σ 29 28 3) := by unfold f_X6_addStep; rw [h2, if_neg i10, b2, if_neg i10, d2, if_neg i10, k2, if_pos rfl]
          simp [h1, b1, d1, k1, z6, hI, hT, thr_v]
        · rcases sta_c a5 with ⟨m1, m2⟩ | ⟨m1, m2⟩
          · have z6 : f_X6_addStep σ (nI i) (nI u) a3 (nI w) a5 = ((-1), zs σ 29 28 3) := by unfold f_X6_addStep; rw [h2, if_neg i10, b2, if_neg i10, d2, if_neg i10, k2, if_neg i10, m2, if_pos rfl]
            simp [h1, b1, d1, k1, m1, z6, hI, hT, thr_v]
          · obtain ⟨a, b, g1, g2, g3, g4, g5, g6, g7⟩ := hp4 i (by omega)
            have ci := ni_cl (show i < 2000000000 by omega)
            have es : f_X4_stepCount σ (nI i) = nI a := by
              unfold f_X4_stepCount
              rw [h1, if_neg i10, ci, g3]
            by_cases c : a = 8
            · have c8 : ¬ f_X4_stepCount σ (nI i) < 8 := by rw [es, c]; decide
              have z6 : f_X6_addStep σ (nI i) (nI u) a3 (nI w) a5 = ((-1), zs σ 29 28 4) := by
                unfold f_X6_addStep
                rw [h2, if_neg i10, b2, if_neg i10, d2, if_neg i10, k2, if_neg i10, m2, if_neg i10, ci, g4, if_pos (show nI a = 8 by rw [c]; rfl)]
              simp [h1, b1, d1, k1, m1, c8, z6, hI, hT, thr_v]
            · have ha : a < 8 := by omega
              have hx : 8 * i + a < 48 := by omega
              have cx := ni_cl (show 8 * i + a < 2000000000 by omega)
              have c8 : f_X4_stepCount σ (nI i) < 8 := by rw [es]; exact (ni_lt (b := 8) (by omega) (by omega)).mpr ha
              have c8' : σ 14 i < 8 := by rw [g3]; exact (ni_lt (b := 8) (by omega) (by omega)).mpr ha
              have ea : f_X4_appendStep σ (nI i) = (nI (8 * i + a), zs (zs (zs σ 14 i (nI (a + 1))) 21 (8 * i + a) (-1)) 22 (8 * i + a) (-1)) := by
                unfold f_X4_appendStep
                rw [h1, if_neg i10, ci, if_pos c8', g3, sp_v, place_v hx, if_neg i10, cx, nI_1]
              have en : ∀ (τ : zS) (y z : Int32), f_X4_setNeed τ (nI (8 * i + a)) y z = zs (zs τ 16 (8 * i + a) y) 17 (8 * i + a) z := by
                intro τ y z
                unfold f_X4_setNeed
                rw [place_v hx, if_neg i10, cx]
              have ef : ∀ (τ : zS) (y z : Int32), f_X4_setEffect τ (nI (8 * i + a)) y z = zs (zs τ 18 (8 * i + a) y) 19 (8 * i + a) z := by
                intro τ y z
                unfold f_X4_setEffect
                rw [place_v hx, if_neg i10, cx]
              have esn : f_X5_stepNumber (nI (8 * i + a)) = nI a := by
                rw [(d8_v (8 * i + a) hx).2, show (8 * i + a) % 8 = a by omega]
              simp only [h1, b1, d1, k1, m1, i10, ↓reduceIte, if_pos c8, ea, en, ef, esn]
              generalize hτ : zs (zs (zs (zs (zs (zs (zs σ 14 i (nI (a + 1))) 21 (8 * i + a) (-1)) 22 (8 * i + a) (-1)) 16 (8 * i + a) (nI u)) 17 (8 * i + a) a3) 18 (8 * i + a) (nI w)) 19 (8 * i + a) a5 = τ
              have hhi : hi σ τ := by
                rw [← hτ]
                exact hi_zs (hi_zs (hi_zs (hi_zs (hi_zs (hi_zs (hi_zs (hi_rfl σ) (by decide)) (by decide)) (by decide)) (by decide)) (by decide)) (by decide)) (by decide)
              have h29 : τ 29 = σ 29 := hhi 29 (by decide)
              have h46 : τ 46 i = nI a := by rw [hhi 46 (by decide), g4]
              have hτI : zI τ := zI_hi hhi hI
              have h2' : f_X6_isProcedure τ (nI i) = 1 := by
                unfold f_X6_isProcedure at h2 ⊢
                rw [h29]
                exact h2
              obtain ⟨ρ, hρ⟩ : ∃ ρ : zS, ρ = zs (zs (zs (zs (zs (zs (zs (zs τ 29 28 0) 39 (8 * i + a) (nI u)) 40 (8 * i + a) a3) 41 (8 * i + a) (nI w)) 42 (8 * i + a) a5) 44 (8 * i + a) (-1)) 45 (8 * i + a) (-1)) 46 i (nI (a + 1)) := ⟨_, rfl⟩
              have z6 : f_X6_addStep τ (nI i) (nI u) a3 (nI w) a5 = (nI a, ρ) := by
                unfold f_X6_addStep
                rw [h2', if_neg i10, b2, if_neg i10, d2, if_neg i10, k2, if_neg i10, m2, if_neg i10, ci, h46, if_neg (show ¬ nI a = 8 from fun z => c ((ni_eq (b := 8) (by omega) (by omega)).mp z)), m8_v, cx, nI_1, zs_eq, nI_pred, hρ]
              try dsimp only
              rw [z6]
              refine ⟨hτI, ?_, fun _ => ⟨by first | rfl | trivial, by first | rfl | trivial⟩, n, hr, by omega, by omega, ?_, ?_, ?_, ?_, ?_, ?_⟩
              · simp [f_X6_thrown, hρ, zs_rd]
              · refine rH_f ?_ ?_ ?_ ?_ hH <;> simp [zs_row, upd_rd, ← hτ, hρ]
              · refine rL_f ?_ ?_ ?_ ?_ ?_ ?_ ?_ ?_ ?_ ?_ ?_ ?_ ?_ ?_ ?_ hL <;> simp [zs_row, upd_rd, ← hτ, hρ]
              · refine rA_f (Nat.le_refl n) ?_ ?_ ?_ ?_ ?_ ?_ (fun i hi h1 h2 => by constructor <;> simp [zs_row, upd_rd, ← hτ, hρ, h1, h2]) hA <;> simp [zs_row, upd_rd, ← hτ, hρ]
              · have hip : ∀ p' : Nat, p' ≤ 6 → σ 13 9 = nI p' → i < p' := fun p' hp' z => by
                  have := (ni_eq (by omega) (by omega)).mp (hp2.symm.trans z)
                  omega
                refine rP_adds (i := i) (a := a) (u := u) (w := w) (y := a3) (z := a5) (by omega) ha hu hw g4 hip ?_ ?_ ?_ ?_ ?_ ?_ ?_ ?_ ?_ ?_ ?_ ?_ ?_ ?_ ?_ ?_ ?_ ?_ ?_ ?_ ?_ ?_ hP <;> simp [zs_row, upd_rd, ← hτ, hρ]
              · refine rQ_f (Nat.le_refl n) ?_ ?_ ?_ ?_ ?_ ?_ ?_ (fun i hi h2 => by constructor <;> simp [zs_row, upd_rd, ← hτ, hρ, h2]) hQ <;> simp [zs_row, upd_rd, ← hτ, hρ]
              · refine rC_f ?_ ?_ ?_ ?_ ?_ ?_ ?_ ?_ hC <;> simp [zs_row, upd_rd, ← hτ, hρ]
theorem m8p_v (a b : Nat) : ((8 * nI a) + nI (b + 1)) - 1 = nI (8 * a + b) := by
  rw [m8_v, show 8 * a + (b + 1) = (8 * a + b) + 1 by omega, nI_pred]
theorem ss_v {τ : zS} {v : Nat} (hv : v < 8) (y : Int32) : f_X5_setState τ (nI v) y = zs τ 1 v y := by
  unfold f_X5_setState
  rw [unit_v hv, if_neg i10, ni_cl (by omega)]
theorem mku_v {τ : zS} {i b : Nat} (hp : f_X4_hasProcedure τ (nI i) = 1) (hi : i < 6) (hb : b < 8) (h15 : τ 15 i = nI (b + 1)) (y : Int32) : f_X4_markUndone τ (nI i) y = zs (zs τ 15 i (nI b)) 22 (8 * i + b) y := by
  have e : f_X4_lastDonePlace τ (nI i) = nI (8 * i + b) := by
    rw [ld_v (b := b + 1) (by omega) hp hi h15, if_neg (by omega), show 8 * i + (b + 1) - 1 = 8 * i + b by omega]
  unfold f_X4_markUndone
  rw [hp, if_neg i10, e, place_v (by omega), if_neg i10, ni_cl (show i < 2000000000 by omega), ni_cl (show 8 * i + b < 2000000000 by omega), h15, nI_pred]
theorem hp_s {σ τ : zS} (h : τ 13 9 = σ 13 9) (a : Int32) : f_X4_hasProcedure τ a = f_X4_hasProcedure σ a := by
  unfold f_X4_hasProcedure
  rw [h]
theorem ip_h {σ τ : zS} (h : hi σ τ) (a : Int32) : f_X6_isProcedure τ a = f_X6_isProcedure σ a := by
  unfold f_X6_isProcedure
  rw [h 29 (by decide)]
theorem ac_h {σ τ : zS} (h : hi σ τ) : f_X6_acts τ = f_X6_acts σ := by
  unfold f_X6_acts
  rw [h 29 (by decide)]
theorem ti_h {σ τ : zS} (h : hi σ τ) : f_X6_tired τ = f_X6_tired σ := by
  unfold f_X6_tired
  rw [h 29 (by decide)]
theorem ba_h {σ τ : zS} (h : hi σ τ) (a : Int32) : f_X6_barring τ a = f_X6_barring σ a := bar_s (by rw [h 29 (by decide)]) (h 49 (by decide)) (h 48 (by decide)) (h 32 (by decide)) a
theorem rs_h {σ τ : zS} (h : hi σ τ) (a : Int32) : f_X6_reasonOf τ a = f_X6_reasonOf σ a := by
  unfold f_X6_reasonOf
  rw [ac_h h, ti_h h, h 47 (by decide), h 46 (by decide), h 30 (by decide), h 39 (by decide), h 40 (by decide), h 41 (by decide), ba_h h]
theorem rP_und {n i b : Nat} {σ τ : zS} (hn : n < 60) (hi : i < 6) (hb : b < 8) (h47 : σ 47 i = nI (b + 1)) (e1 : τ 13 9 = σ 13 9) (e2 : τ 29 20 = σ 29 20) (e3 : τ 14 = σ 14) (e4 : τ 46 = σ 46) (e5 : τ 15 = upd (σ 15) i (nI b)) (e6 : τ 47 = upd (σ 47) i (nI b)) (e7 : τ 16 = σ 16) (e8 : τ 39 = σ 39) (e9 : τ 17 = σ 17) (e10 : τ 40 = σ 40) (e11 : τ 18 = σ 18) (e12 : τ 41 = σ 41) (e13 : τ 19 = σ 19) (e14 : τ 42 = σ 42) (e15 : τ 20 = σ 20) (e16 : τ 43 = σ 43) (e17 : τ 21 = σ 21) (e18 : τ 44 = σ 44) (e19 : τ 22 = upd (σ 22) (8 * i + b) (nI n)) (e20 : τ 45 = upd (σ 45) (8 * i + b) (nI n))
    (e21 : τ 5 = upd (σ 5) n 1) (e22 : τ 3 = upd (σ 3) n 115) (H : rP n σ) : rP (n + 1) τ := by
  have h8 := fun k (hk : k < 6) => cl8 H hk
  unfold rP at H ⊢
  rw [e1, e2, e3, e4, e5, e6, e7, e8, e9, e10, e11, e12, e13, e14, e15, e16, e17, e18, e19, e20, e21, e22]
  obtain ⟨⟨p, h1, h2, h3, h4⟩, h5, h6, h7⟩ := H
  have nn : ∀ k s : Nat, k < 6 → s < (σ 46 k).toNatClampNeg → ¬ σ 45 (8 * k + s) = nI n := by
    intro k s hk hs z
    rcases h6 k s hk hs with h | ⟨j, g1, g2, -⟩
    · rw [h] at z
      exact ni_ne (show n < 2000000000 by omega) z.symm
    · have := (ni_eq (by omega) (by omega)).mp (g2.symm.trans z)
      omega
  refine ⟨⟨p, h1, h2, h3, fun k hk => ?_⟩, fun j hj => ?_, fun k s hk hs => ?_, fun k s k' s' hk hk' hs hs' => ?_⟩
  · obtain ⟨a', b', g1, g2, g3, g4, g5, g6, g7⟩ := h4 k hk
    simp only [upd_rd]
    by_cases q : k = i
    · have q2 : b' = b + 1 := by
        rw [q, h47] at g6
        exact (ni_eq (by omega) (by omega)).mp g6.symm
      simp only [if_pos q]
      exact ⟨a', b, by omega, g2, g3, g4, rfl, rfl, g7⟩
    · simp only [if_neg q]
      exact ⟨a', b', g1, g2, g3, g4, g5, g6, g7⟩
  · obtain ⟨f1, f2, f3, f4, f5, f6, f7, f8, f9, f10⟩ := h5 j hj
    simp only [upd_rd]
    by_cases q : j = 8 * i + b
    · simp only [if_pos q]
      exact ⟨f1, f2, f3, f4, f5, f6, trivial, f8, f9, Or.inr ⟨n, hn, rfl⟩⟩
    · simp only [if_neg q]
      exact ⟨f1, f2, f3, f4, f5, f6, f7, f8, f9, f10⟩
  · simp only [upd_rd]
    by_cases q : 8 * k + s = 8 * i + b
    · rw [if_pos q]
      exact Or.inr ⟨n, by omega, rfl, if_pos rfl, if_pos rfl⟩
    · rw [if_neg q]
      rcases h6 k s hk hs with h | ⟨j, g1, g2, g3, g4⟩
      · exact Or.inl h
      · exact Or.inr ⟨j, by omega, g2, by rw [if_neg (by omega)]; exact g3, by rw [if_neg (by omega)]; exact g4⟩
  · simp only [upd_rd]
    have b1 := h8 k hk
    have b2 := h8 k' hk'
    by_cases q : 8 * k + s = 8 * i + b
    · rw [if_pos q]
      by_cases q2 : 8 * k' + s' = 8 * i + b
      · intro _ _
        exact pl_e (by omega) (by omega) (by omega)
      · rw [if_neg q2]
        intro z _
        exact absurd z.symm (nn k' s' hk' hs')
    · rw [if_neg q]
      by_cases q2 : 8 * k' + s' = 8 * i + b
      · rw [if_pos q2]
        intro z _
        exact absurd z (nn k s hk hs)
      · rw [if_neg q2]
        exact h7 k s k' s' hk hk' hs hs'
theorem rH_u {h v : Nat} {y : Int32} {σ τ : zS} (e0 : τ 0 6 = σ 0 6) (e1 : τ 29 0 = σ 29 0) (e2 : τ 1 = upd (σ 1) v y) (e3 : τ 30 = upd (σ 30) v y) (H : rH h σ) : rH h τ := by
  unfold rH at H ⊢
  rw [e0, e1, e2, e3]
  refine ⟨H.1, H.2.1, fun u hu => ?_⟩
  simp only [upd_rd]
  by_cases q : u = v
  · rw [if_pos q, if_pos q]
  · rw [if_neg q, if_neg q]
    exact H.2.2 u hu
theorem sim_undo {t : Nat} {σ : zS} (h : zR t σ) (ht : t < 512) (a1 : Int32) : zI (f_X5_undo σ a1).2.2 ∧ f_X6_thrown (f_X6_undo (f_X5_undo σ a1).2.2 a1).2 = f_L_undo (f_X5_undo σ a1).1 ∧ (f_L_undo (f_X5_undo σ a1).1 = 0 → (f_X5_undo σ a1).1 = 0 ∧ (f_X6_undo (f_X5_undo σ a1).2.2 a1).1 = (f_X5_undo σ a1).2.1) ∧ zR (t + 1) (f_X6_undo (f_X5_undo σ a1).2.2 a1).2 := by
  have hI := zR_I h
  have hT := fun c => zR_thr (c := c) h
  obtain ⟨n, hr, hn, hh, hH, hL, hA, hP, hQ, hC⟩ := h
  obtain ⟨⟨p, hp1, hp2, hp3, hp4⟩, hp5, hp6, hp7⟩ := id hP
  have eA := acts_e hC
  unfold f_X5_undo f_X5_checkProcedure f_X5_checkAtWork f_L_undo
  rcases proc_c hp1 hp2 hp3 a1 with ⟨h1, h2⟩ | ⟨i, hi', rfl, h1, h2⟩
  · have z6 : f_X6_undo σ a1 = ((-1), zs σ 29 28 1) := by unfold f_X6_undo; rw [h2, if_pos rfl]
    simp [h1, z6, hI, hT, thr_v]
  · obtain ⟨a, b, g1, g2, g3, g4, g5, g6, g7⟩ := hp4 i (by omega)
    have ci := ni_cl (show i < 2000000000 by omega)
    have el := ld_v (σ := σ) (i := i) (b := b) (by omega) h1 (by omega) g5
    by_cases c : b = 0
    · rw [if_pos c] at el
      have z6 : f_X6_undo σ (nI i) = ((-1), zs σ 29 28 2) := by unfold f_X6_undo; rw [h2, if_neg i10, ci, g6, if_pos (show nI b = 0 by rw [c]; rfl)]
      simp [h1, el, z6, hI, hT, thr_v]
    · obtain ⟨d, rfl⟩ : ∃ d : Nat, b = d + 1 := ⟨b - 1, by omega⟩
      rw [if_neg c, show 8 * i + (d + 1) - 1 = 8 * i + d by omega] at el
      have hx : 8 * i + d < 48 := by omega
      have cx := ni_cl (show 8 * i + d < 2000000000 by omega)
      have xm : ¬ nI (8 * i + d) = (-1) := ni_ne (by omega)
      have c47 : ¬ nI (d + 1) = 0 := fun z => by
        have := (ni_eq (b := 0) (by omega) (by omega)).mp z
        omega
      obtain ⟨f1, f2, f3, f4, f5, f6, f7, f8, ⟨v, hv, f9⟩, f10⟩ := hp5 (8 * i + d) hx
      have cv := ni_cl (show v < 2000000000 by omega)
      have ev := hH.2.2 v hv
      have eb := bar_e hn hL hQ hv
      rw [h1, el, uo_v hx, ns_v hx, f3, f9, st_v hv, full_v hn hL.1]
      simp only [i10, ↓reduceIte, if_neg xm]
      by_cases k1 : f_X1_isAtWork σ = 0
      · have z6 : f_X6_undo σ (nI i) = ((-1), zs σ 29 28 2) := by unfold f_X6_undo; rw [h2, if_neg i10, ci, g6, if_neg c47, eA, if_pos k1]
        simp [k1, z6, hI, hT, thr_v]
      · by_cases k3 : n = 60
        · have c7 : σ 29 7 = 60 := by rw [hL.2.1, k3]; rfl
          have z6 : f_X6_undo σ (nI i) = ((-1), zs σ 29 28 2) := by unfold f_X6_undo; rw [h2, if_neg i10, ci, g6, if_neg c47, eA, if_neg k1, if_pos c7]
          simp [k1, k3, z6, hI, hT, thr_v]
        · have c7 : ¬ σ 29 7 = 60 := by rw [hL.2.1]; exact fun z => k3 ((n60e hn).mp z)
          by_cases k4 : σ 1 v = σ 19 (8 * i + d)
          · have k4' : σ 30 v = σ 42 (8 * i + d) := by rw [← ev, ← f4]; exact k4
            by_cases k5 : f_X3_firstOpenWith σ (f_X5_unitBit (nI v)) = (-1)
            · obtain ⟨e, he, h8, hes⟩ := rL_x hn hL
              have hn' : n < 60 := by omega
              have he' : e < 120 := by omega
              simp only [if_neg k1, if_neg k3, if_pos k4, if_pos k5, ↓reduceIte, openLine_v hn' hL.1 h8 he', no_v hx, ss_v hv]
              rw [mku_v (b := d) (by rw [hp_s (σ := σ) (by simp [zs_rd])]; exact h1) (by omega) (by omega) (by simp [zs_rd, g5])]
              have r20 : zs (zs (zs (zs (zs (zs (zs σ 2 6 (nI (n + 1))) 3 n 115) 4 n (σ 0 6)) 5 n 1) 2 7 (σ 2 7 + 1)) 8 e (nI n)) 2 8 (nI (e + 1)) 20 (8 * i + d) = σ 43 (8 * i + d) := by simp [zs_rd, f5]
              rw [r20]
              generalize hτ : zs (zs (zs (zs (zs (zs (zs (zs (zs (zs σ 2 6 (nI (n + 1))) 3 n 115) 4 n (σ 0 6)) 5 n 1) 2 7 (σ 2 7 + 1)) 8 e (nI n)) 2 8 (nI (e + 1))) 1 v (σ 43 (8 * i + d))) 15 i (nI d)) 22 (8 * i + d) (nI n) = τ
              have hhi : hi σ τ := by
                rw [← hτ]
                exact hi_zs (hi_zs (hi_zs (hi_zs (hi_zs (hi_zs (hi_zs (hi_zs (hi_zs (hi_zs (hi_rfl σ) (by decide)) (by decide)) (by decide)) (by decide)) (by decide)) (by decide)) (by decide)) (by decide)) (by decide)) (by decide)
              have h29 : τ 29 = σ 29 := hhi 29 (by decide)
              have hτI : zI τ := zI_hi hhi hI
              obtain ⟨ρ, hρ⟩ : ∃ ρ : zS, ρ = zs (zs (zs (zs (zs (zs (zs (zs (zs (zs τ 29 28 0) 30 v (σ 43 (8 * i + d))) 47 i (nI d)) 31 n 115) 32 n 1) 33 n (σ 29 0)) 34 n 0) 35 n 0) 29 7 (nI (n + 1))) 45 (8 * i + d) (nI n) := ⟨_, rfl⟩
              have z6 : f_X6_undo τ (nI i) = (nI n, ρ) := by
                unfold f_X6_undo
                rw [ip_h hhi, h2, if_neg i10, ci, hhi 47 (by decide), g6, if_neg c47, ac_h hhi, eA, if_neg k1, h29, if_neg c7, m8p_v, cx, hhi 41 (by decide), f9, cv, hhi 30 (by decide), hhi 42 (by decide), if_pos k4', ba_h hhi, eb, if_pos k5, hhi 43 (by decide), nI_pred, opens_v hn' (show zs (zs (zs τ 29 28 0) 30 v (σ 43 (8 * i + d))) 47 i (nI d) 29 7 = nI n by simp [zs_rd, h29, hL.2.1])]
                have r1 : zs (zs (zs τ 29 28 0) 30 v (σ 43 (8 * i + d))) 47 i (nI d) 29 0 = σ 29 0 := by simp [zs_rd, h29]
                dsimp only
                rw [r1, zs_eq, hρ]
              try dsimp only
              rw [z6]
              refine ⟨hτI, ?_, fun _ => ⟨by first | rfl | trivial, by first | rfl | trivial⟩, n + 1, hr, by omega, by omega, ?_, ?_, ?_, ?_, ?_, ?_⟩
              · simp [f_X6_thrown, hρ, zs_rd]
              · refine rH_u (v := v) (y := σ 43 (8 * i + d)) ?_ ?_ ?_ ?_ hH <;> simp [zs_row, upd_rd, ← hτ, hρ]
              · refine rL_open (c := 115) (w := σ 0 6) hn' (by decide) h8 (by omega) ?_ ?_ ?_ ?_ ?_ ?_ ?_ ?_ ?_ ?_ ?_ ?_ ?_ ?_ ?_ hL <;> simp [zs_row, upd_rd, ← hτ, hρ, hH.1, hH.2.1]
              · refine rA_f (Nat.le_succ n) ?_ ?_ ?_ ?_ ?_ ?_ (fun i hi h1 h2 => by have q : ¬ i = n := (by omega); constructor <;> simp [zs_row, upd_rd, ← hτ, hρ, q, h1, h2]) hA <;> simp [zs_row, upd_rd, ← hτ, hρ]
              · refine rP_und (i := i) (b := d) hn' (by omega) (by omega) g6 ?_ ?_ ?_ ?_ ?_ ?_ ?_ ?_ ?_ ?_ ?_ ?_ ?_ ?_ ?_ ?_ ?_ ?_ ?_ ?_ ?_ ?_ hP <;> simp [zs_row, upd_rd, ← hτ, hρ]
              · refine rQ_f (Nat.le_succ n) ?_ ?_ ?_ ?_ ?_ ?_ ?_ (fun i hi h2 => by have q : ¬ i = n := (by omega); constructor <;> simp [zs_row, upd_rd, ← hτ, hρ, q, h2]) hQ <;> simp [zs_row, upd_rd, ← hτ, hρ]
              · refine rC_f ?_ ?_ ?_ ?_ ?_ ?_ ?_ ?_ hC <;> simp [zs_row, upd_rd, ← hτ, hρ]
            · have z6 : f_X6_undo σ (nI i) = ((-1), zs σ 29 28 3) := by
                unfold f_X6_undo
                rw [h2, if_neg i10, ci, g6, if_neg c47, eA, if_neg k1, if_neg c7, m8p_v, cx, f9, cv, if_pos k4', eb, if_neg k5]
              simp [k1, k3, k4, k5, z6, hI, hT, thr_v]
          · have k4' : ¬ σ 30 v = σ 42 (8 * i + d) := by rw [← ev, ← f4]; exact k4
            have z6 : f_X6_undo σ (nI i) = ((-1), zs σ 29 28 3) := by
              unfold f_X6_undo
              rw [h2, if_neg i10, ci, g6, if_neg c47, eA, if_neg k1, if_neg c7, m8p_v, cx, f9, cv, if_neg k4']
            simp [k1, k3, k4, z6, hI, hT, thr_v]
theorem ist_v {τ : zS} {i s a : Nat} (hp : f_X4_hasProcedure τ (nI i) = 1) (hi : i < 6) (hs : s < 8) (ha : a ≤ 8) (h14 : τ 14 i = nI a) : f_X4_isStep τ (nI (8 * i + s)) = if s < a then 1 else 0 := by
  obtain ⟨d1, d2⟩ := d8_v (8 * i + s) (by omega)
  unfold f_X4_isStep f_X4_stepCount
  rw [place_v (by omega), if_neg i10, d1, d2, show (8 * i + s) / 8 = i by omega, show (8 * i + s) % 8 = s by omega, hp, if_neg i10, ni_cl (by omega), h14]
  by_cases c : s < a
  · rw [if_neg (show ¬ nI a ≤ nI s from fun z => by have := (ni_le (by omega) (by omega)).mp z; omega), if_pos c]
  · rw [if_pos (show nI a ≤ nI s from (ni_le (by omega) (by omega)).mpr (by omega)), if_neg c]
theorem cu5_o {τ : zS} {x : Int32} (h : f_X4_isStep τ x = 0) : f_X5_closeUndoneLine τ x = (0, τ) := by
  unfold f_X5_closeUndoneLine f_X4_isUndone
  rw [h, if_pos rfl, if_pos rfl]
theorem cu5_a {τ : zS} {x : Nat} (hx : x < 48) (h2 : τ 22 x = (-1)) : f_X5_closeUndoneLine τ (nI x) = (0, τ) := by
  have e : f_X4_isUndone τ (nI x) = 0 := by
    unfold f_X4_isUndone
    rw [ni_cl (by omega), if_pos h2, ite_self]
  unfold f_X5_closeUndoneLine
  rw [e, if_pos rfl]
theorem cu5_b {τ : zS} {x l : Nat} (hx : x < 48) (hl : l < 60) (h : f_X4_isStep τ (nI x) = 1) (h2 : τ 22 x = nI l) : f_X5_closeUndoneLine τ (nI x) = (1, zs (f_X2_closeLine τ (nI l)) 22 x (-1)) := by
  have e : f_X4_isUndone τ (nI x) = 1 := by
    unfold f_X4_isUndone
    rw [h, if_neg i10, ni_cl (by omega), h2, if_neg (ni_ne (by omega))]
  have e2 : f_X4_undoneLineOf τ (nI x) = nI l := by
    unfold f_X4_undoneLineOf
    rw [h, if_neg i10, ni_cl (by omega), h2]
  unfold f_X5_closeUndoneLine
  rw [e, if_neg i10, e2]
  unfold f_X4_markNotUndone
  rw [place_v hx, if_neg i10, ni_cl (by omega)]
theorem cu6_r {k : Nat} (τ : zS) (a : Int32) (h1 : k ≠ 45) (h2 : k ≠ 32) : (f_X6_closesUndone τ a).2 k = τ k := by
  unfold f_X6_closesUndone
  split
  · exact zs_ne h1
  · split
    · exact zs_ne h1
    · exact (zs_ne h2).trans (zs_ne h1)
theorem cu6_a {τ : zS} {x : Nat} (hx : x < 48) (h : τ 45 x = (-1)) : f_X6_closesUndone τ (nI x) = (0, zs τ 45 x (-1)) := by
  unfold f_X6_closesUndone
  rw [ni_cl (by omega), if_pos h]
theorem cu6_b {τ : zS} {x l : Nat} (hx : x < 48) (hl : l < 60) (h : τ 45 x = nI l) (h2 : ¬ τ 32 l = 0) : f_X6_closesUndone τ (nI x) = (1, zs (zs τ 45 x (-1)) 32 l 0) := by
  unfold f_X6_closesUndone
  rw [ni_cl (show x < 2000000000 by omega), h, if_neg (ni_ne (by omega)), ni_cl (by omega), if_neg h2]
theorem mkt_v {τ : zS} {i a b : Nat} (hp : f_X4_hasProcedure τ (nI i) = 1) (hi : i < 6) (ha : a ≤ 8) (hb : b < a) (h14 : τ 14 i = nI a) (h15 : τ 15 i = nI b) (y z : Int32) : f_X4_markTaken τ (nI i) y z = zs (zs (zs τ 15 i (nI (b + 1))) 20 (8 * i + b) y) 21 (8 * i + b) z := by
  have e : f_X4_nextPlace τ (nI i) = nI (8 * i + b) := by
    rw [nx_v ha hp hi h14 h15 (by omega), if_neg (by omega)]
  unfold f_X4_markTaken
  rw [hp, if_neg i10, e, place_v (by omega), if_neg i10, ni_cl (show i < 2000000000 by omega), ni_cl (show 8 * i + b < 2000000000 by omega), h15, nI_1]
theorem st6_v {τ : zS} {i b v : Nat} (hi : i < 6) (hb : b < 8) (hv : v < 8) (hp : f_X6_isProcedure τ (nI i) = 1) (hr : f_X6_reasonOf τ (nI i) = 45) (h47 : τ 47 i = nI b) (h41 : τ 41 (8 * i + b) = nI v) :
    f_X6_step τ (nI i) = (nI b, zs (f_X6_closesUndone (zs (zs (zs (zs τ 29 28 0) 43 (8 * i + b) (τ 30 v)) 30 v (τ 42 (8 * i + b))) 44 (8 * i + b) (τ 29 0)) (nI (8 * i + b))).2 47 i (nI (b + 1))) := by
  unfold f_X6_step
  rw [hp, if_neg i10, if_pos hr, ni_cl (show i < 2000000000 by omega), h47, m8_v, ni_cl (show 8 * i + b < 2000000000 by omega), h41, ni_cl (show v < 2000000000 by omega), cu6_r (k := 47) _ _ (by decide) (by decide), zs_ne (show 47 ≠ 44 by decide), zs_ne (show 47 ≠ 30 by decide), zs_ne (show 47 ≠ 43 by decide), zs_ne (show 47 ≠ 29 by decide), h47, nI_1, zs_eq, nI_pred]
theorem upd_id {f : Nat → Int32} {j : Nat} {x : Int32} (h : f j = x) : upd f j x = f := by
  funext k
  rw [upd_rd]
  by_cases q : k = j
  · rw [if_pos q, q, h]
  · rw [if_neg q]
theorem rP_stp {n i a b : Nat} {y z : Int32} {σ τ : zS} (hn : n ≤ 60) (hi : i < 6) (hb : b < a) (ha : a ≤ 8) (h46 : σ 46 i = nI a) (h47 : σ 47 i = nI b) (e1 : τ 13 9 = σ 13 9) (e2 : τ 29 20 = σ 29 20) (e3 : τ 14 = σ 14) (e4 : τ 46 = σ 46) (e5 : τ 15 = upd (σ 15) i (nI (b + 1))) (e6 : τ 47 = upd (σ 47) i (nI (b + 1))) (e7 : τ 16 = σ 16) (e8 : τ 39 = σ 39) (e9 : τ 17 = σ 17) (e10 : τ 40 = σ 40) (e11 : τ 18 = σ 18) (e12 : τ 41 = σ 41) (e13 : τ 19 = σ 19) (e14 : τ 42 = σ 42) (e15 : τ 20 = upd (σ 20) (8 * i + b) y) (e16 : τ 43 = upd (σ 43) (8 * i + b) y) (e17 : τ 21 = upd (σ 21) (8 * i + b) z) (e18 : τ 44 = upd (σ 44) (8 * i + b) z) (e19 : τ 22 = upd (σ 22) (8 * i + b) (-1)) (e20 : τ 45 = upd (σ 45) (8 * i + b) (-1))
    (e22 : τ 3 = σ 3) (hl : ∀ l : Nat, l < n → σ 5 l = 1 → τ 5 l = 1 ∨ σ 45 (8 * i + b) = nI l) (H : rP n σ) : rP n τ := by
  have h8 := fun k (hk : k < 6) => cl8 H hk
  unfold rP at H ⊢
  rw [e1, e2, e3, e4, e5, e6, e7, e8, e9, e10, e11, e12, e13, e14, e15, e16, e17, e18, e19, e20, e22]
  obtain ⟨⟨p, h1, h2, h3, h4⟩, h5, h6, h7⟩ := H
  have s46 : (σ 46 i).toNatClampNeg = a := by rw [h46, ni_cl (by omega)]
  refine ⟨⟨p, h1, h2, h3, fun k hk => ?_⟩, fun j hj => ?_, fun k s hk hs => ?_, fun k s k' s' hk hk' hs hs' => ?_⟩
  · obtain ⟨a', b', g1, g2, g3, g4, g5, g6, g7⟩ := h4 k hk
    simp only [upd_rd]
    by_cases q : k = i
    · have q2 : a' = a := by
        rw [q, h46] at g4
        exact (ni_eq (by omega) (by omega)).mp g4.symm
      simp only [if_pos q]
      exact ⟨a', b + 1, by omega, g2, g3, g4, rfl, rfl, g7⟩
    · simp only [if_neg q]
      exact ⟨a', b', g1, g2, g3, g4, g5, g6, g7⟩
  · obtain ⟨f1, f2, f3, f4, f5, f6, f7, f8, f9, f10⟩ := h5 j hj
    simp only [upd_rd]
    by_cases q : j = 8 * i + b
    · simp only [if_pos q]
      exact ⟨f1, f2, f3, f4, trivial, trivial, trivial, f8, f9, Or.inl trivial⟩
    · simp only [if_neg q]
      exact ⟨f1, f2, f3, f4, f5, f6, f7, f8, f9, f10⟩
  · rw [upd_rd]
    by_cases q : 8 * k + s = 8 * i + b
    · rw [if_pos q]
      exact Or.inl rfl
    · rw [if_neg q]
      rcases h6 k s hk hs with h | ⟨j, g1, g2, g3, g4⟩
      · exact Or.inl h
      · refine Or.inr ⟨j, g1, g2, ?_, g4⟩
        refine (hl j g1 g3).resolve_right (fun w => q ?_)
        obtain ⟨r1, r2⟩ := h7 k s i b hk hi hs (by omega) (by rw [g2, w]) (by rw [g2]; exact ni_ne (by omega))
        rw [r1, r2]
  · rw [upd_rd, upd_rd]
    have b1 := h8 k hk
    have b2 := h8 k' hk'
    by_cases q : 8 * k + s = 8 * i + b
    · rw [if_pos q]
      intro _ w
      exact absurd rfl w
    · rw [if_neg q]
      by_cases q2 : 8 * k' + s' = 8 * i + b
      · rw [if_pos q2]
        intro w w2
        exact absurd w w2
      · rw [if_neg q2]
        exact h7 k s k' s' hk hk' hs hs'
theorem sim_step {t : Nat} {σ : zS} (h : zR t σ) (ht : t < 512) (a1 : Int32) : zI (f_X5_step σ a1).2.2 ∧ f_X6_thrown (f_X6_step (f_X5_step σ a1).2.2 a1).2 = f_L_step (f_X5_step σ a1).1 ∧ (f_L_step (f_X5_step σ a1).1 = 0 → (f_X5_step σ a1).1 = 0 ∧ (f_X6_step (f_X5_step σ a1).2.2 a1).1 = (f_X5_step σ a1).2.1) ∧ zR (t + 1) (f_X6_step (f_X5_step σ a1).2.2 a1).2 := by
  have hI := zR_I h
  have hT := fun c => zR_thr (c := c) h
  obtain ⟨n, hr, hn, hh, hH, hL, hA, hP, hQ, hC⟩ := h
  obtain ⟨⟨p, hp1, hp2, hp3, hp4⟩, hp5, hp6, hp7⟩ := id hP
  unfold f_X5_step f_X5_checkProcedure f_L_step
  rcases proc_c hp1 hp2 hp3 a1 with ⟨h1, h2⟩ | ⟨i, hi', rfl, h1, h2⟩
  · have z6 : f_X6_step σ a1 = ((-1), zs σ 29 28 1) := by unfold f_X6_step; rw [h2, if_pos rfl]
    simp [h1, z6, hI, hT, thr_v]
  · obtain ⟨a, b, g1, g2, g3, g4, g5, g6, g7⟩ := hp4 i (by omega)
    have ci := ni_cl (show i < 2000000000 by omega)
    have eR := rsn_e hn hH hL hP hQ hC (show i < 6 by omega) h1 g1 g2 g3 g4 g5 g6
    by_cases k1 : f_X5_reasonOf σ (nI i) = 45
    · have hi6 : i < 6 := by omega
      have en := nx_v g2 h1 hi6 g3 g5 g1
      have hba : ¬ b = a := by
        intro z
        rw [if_pos z] at en
        unfold f_X5_reasonOf at k1
        rw [if_pos en] at k1
        exact absurd k1 (by decide)
      rw [if_neg hba] at en
      have hb : b < a := by omega
      have hx : 8 * i + b < 48 := by omega
      have cx := ni_cl (show 8 * i + b < 2000000000 by omega)
      obtain ⟨f1, f2, f3, f4, f5, f6, f7, f8, ⟨v, hv, f9⟩, f10⟩ := hp5 (8 * i + b) hx
      have cv := ni_cl (show v < 2000000000 by omega)
      have ev := hH.2.2 v hv
      have k1' : f_X6_reasonOf σ (nI i) = 45 := eR.trans k1
      have es : f_X5_stepNumber (nI (8 * i + b)) = nI b := by rw [(d8_v (8 * i + b) hx).2, show (8 * i + b) % 8 = b by omega]
      rw [h1, en, uo_v hx, f3, f9, st_v hv, mkt_v h1 hi6 g2 hb g3 g5, es, ns_v hx, ss_v hv]
      simp only [i10, ↓reduceIte, if_pos k1]
      have r19 : zs (zs (zs σ 15 i (nI (b + 1))) 20 (8 * i + b) (σ 1 v)) 21 (8 * i + b) (σ 0 6) 19 (8 * i + b) = σ 42 (8 * i + b) := by simp [zs_rd, f4]
      rw [r19, ev]
      generalize hτ1 : zs (zs (zs (zs σ 15 i (nI (b + 1))) 20 (8 * i + b) (σ 30 v)) 21 (8 * i + b) (σ 0 6)) 1 v (σ 42 (8 * i + b)) = τ1
      have hhi1 : hi σ τ1 := by
        rw [← hτ1]
        exact hi_zs (hi_zs (hi_zs (hi_zs (hi_rfl σ) (by decide)) (by decide)) (by decide)) (by decide)
      have e22 : τ1 22 (8 * i + b) = σ 45 (8 * i + b) := by rw [← hτ1, ← f7]; simp [zs_rd]
      have e14 : τ1 14 i = nI a := by rw [← hτ1, ← g3]; simp [zs_rd]
      have ehp : f_X4_hasProcedure τ1 (nI i) = 1 := by rw [hp_s (σ := σ) (by rw [← hτ1]; simp [zs_rd])]; exact h1
      have eis : f_X4_isStep τ1 (nI (8 * i + b)) = 1 := by rw [ist_v ehp hi6 (by omega) g2 e14, if_pos hb]
      rcases hp6 i b hi6 (by rw [g4, ni_cl (by omega)]; exact hb) with w1 | ⟨l, w1, w2, w3, w4⟩
      · have e5 : f_X5_closeUndoneLine τ1 (nI (8 * i + b)) = (0, τ1) := cu5_a hx (e22.trans w1)
        rw [e5]
        obtain ⟨ρ, hρ⟩ : ∃ ρ : zS, ρ = zs (zs (zs (zs (zs (zs τ1 29 28 0) 43 (8 * i + b) (σ 30 v)) 30 v (σ 42 (8 * i + b))) 44 (8 * i + b) (σ 29 0)) 45 (8 * i + b) (-1)) 47 i (nI (b + 1)) := ⟨_, rfl⟩
        have z6 : f_X6_step τ1 (nI i) = (nI b, ρ) := by
          rw [st6_v (b := b) (v := v) hi6 (by omega) hv (by rw [ip_h hhi1]; exact h2) (by rw [rs_h hhi1]; exact k1') (by rw [hhi1 47 (by decide)]; exact g6) (by rw [hhi1 41 (by decide)]; exact f9), hhi1 30 (by decide), hhi1 42 (by decide), hhi1 29 (by decide), cu6_a hx (by simp [zs_rd, hhi1 45 (by decide), w1]), hρ]
        have u22 : upd (σ 22) (8 * i + b) (-1) = σ 22 := upd_id (f7.trans w1)
        dsimp only
        rw [z6]
        refine ⟨zI_hi hhi1 hI, ?_, fun _ => ⟨by first | rfl | trivial, by first | rfl | trivial⟩, n, hr, by omega, by omega, ?_, ?_, ?_, ?_, ?_, ?_⟩
        · simp [f_X6_thrown, hρ, zs_rd]
        · refine rH_u (v := v) (y := σ 42 (8 * i + b)) ?_ ?_ ?_ ?_ hH <;> simp [zs_row, upd_rd, ← hτ1, hρ]
        · refine rL_f ?_ ?_ ?_ ?_ ?_ ?_ ?_ ?_ ?_ ?_ ?_ ?_ ?_ ?_ ?_ hL <;> simp [zs_row, upd_rd, ← hτ1, hρ]
        · refine rA_f (Nat.le_refl n) ?_ ?_ ?_ ?_ ?_ ?_ (fun i hi h1 h2 => by constructor <;> simp [zs_row, upd_rd, ← hτ1, hρ, h1, h2]) hA <;> simp [zs_row, upd_rd, ← hτ1, hρ]
        · have hl : ∀ l : Nat, l < n → σ 5 l = 1 → ρ 5 l = 1 ∨ σ 45 (8 * i + b) = nI l := fun l _ h5 => Or.inl (by rw [← h5, hρ, ← hτ1]; simp [zs_rd])
          refine rP_stp (i := i) (a := a) (b := b) (y := σ 30 v) (z := σ 0 6) hn hi6 hb g2 g4 g6 ?_ ?_ ?_ ?_ ?_ ?_ ?_ ?_ ?_ ?_ ?_ ?_ ?_ ?_ ?_ ?_ ?_ ?_ ?_ ?_ ?_ hl hP <;> simp [zs_row, upd_rd, ← hτ1, hρ, hH.1, hH.2.1, u22]
        · refine rQ_f (Nat.le_refl n) ?_ ?_ ?_ ?_ ?_ ?_ ?_ (fun i hi h2 => by constructor <;> simp [zs_row, upd_rd, ← hτ1, hρ, h2]) hQ <;> simp [zs_row, upd_rd, ← hτ1, hρ]
        · refine rC_f ?_ ?_ ?_ ?_ ?_ ?_ ?_ ?_ hC <;> simp [zs_row, upd_rd, ← hτ1, hρ]
      · obtain ⟨e, he, h8, hes⟩ := rL_x hn hL
        have w3' : ¬ σ 5 l = 0 := by rw [w3]; decide
        have hcp := cnt_pos w3' w1
        have he' : e < 120 := by omega
        have m3 := (hL.2.2.2.2.1 l w1).2.2.1
        have e5 : f_X5_closeUndoneLine τ1 (nI (8 * i + b)) = (1, zs (zs (zs (zs (zs τ1 5 l 0) 2 7 (τ1 2 7 - 1)) 8 e (nI l ^^^ (-1))) 2 8 (nI (e + 1))) 22 (8 * i + b) (-1)) := by
          rw [cu5_b hx (show l < 60 by omega) eis (e22.trans w2), closeLine_v (n := n) (e := e) hn (by rw [← hτ1]; simp [zs_rd, hL.1]) w1 (by rw [← hτ1]; simp [zs_rd, w3]) (by rw [← hτ1]; simp [zs_rd, h8]) he']
        rw [e5]
        generalize hτ : zs (zs (zs (zs (zs τ1 5 l 0) 2 7 (τ1 2 7 - 1)) 8 e (nI l ^^^ (-1))) 2 8 (nI (e + 1))) 22 (8 * i + b) (-1) = τ
        have hhi : hi σ τ := by
          rw [← hτ]
          exact hi_zs (hi_zs (hi_zs (hi_zs (hi_zs hhi1 (by decide)) (by decide)) (by decide)) (by decide)) (by decide)
        obtain ⟨ρ, hρ⟩ : ∃ ρ : zS, ρ = zs (zs (zs (zs (zs (zs (zs τ 29 28 0) 43 (8 * i + b) (σ 30 v)) 30 v (σ 42 (8 * i + b))) 44 (8 * i + b) (σ 29 0)) 45 (8 * i + b) (-1)) 32 l 0) 47 i (nI (b + 1)) := ⟨_, rfl⟩
        have z6 : f_X6_step τ (nI i) = (nI b, ρ) := by
          rw [st6_v (b := b) (v := v) hi6 (by omega) hv (by rw [ip_h hhi]; exact h2) (by rw [rs_h hhi]; exact k1') (by rw [hhi 47 (by decide)]; exact g6) (by rw [hhi 41 (by decide)]; exact f9), hhi 30 (by decide), hhi 42 (by decide), hhi 29 (by decide), cu6_b hx (show l < 60 by omega) (by simp [zs_rd, hhi 45 (by decide), w2]) (by simp [zs_rd, hhi 32 (by decide), ← m3, w3]), hρ]
        dsimp only
        rw [z6]
        refine ⟨zI_hi hhi hI, ?_, fun _ => ⟨by first | rfl | trivial, by first | rfl | trivial⟩, n, hr, by omega, by omega, ?_, ?_, ?_, ?_, ?_, ?_⟩
        · simp [f_X6_thrown, hρ, zs_rd]
        · refine rH_u (v := v) (y := σ 42 (8 * i + b)) ?_ ?_ ?_ ?_ hH <;> simp [zs_row, upd_rd, ← hτ1, ← hτ, hρ]
        · refine rL_close hn w1 w3 h8 (by omega) ?_ ?_ ?_ ?_ ?_ ?_ ?_ ?_ ?_ ?_ ?_ ?_ ?_ ?_ ?_ hL <;> simp [zs_row, upd_rd, ← hτ1, ← hτ, hρ]
        · refine rA_f (Nat.le_refl n) ?_ ?_ ?_ ?_ ?_ ?_ (fun i hi h1 h2 => by have q : ¬ i = l := (fun z => by rw [z, w4] at h2; exact absurd h2 (by decide)); constructor <;> simp [zs_row, upd_rd, ← hτ1, ← hτ, hρ, q, h1, h2]) hA <;> simp [zs_row, upd_rd, ← hτ1, ← hτ, hρ]
        · have hl : ∀ j : Nat, j < n → σ 5 j = 1 → ρ 5 j = 1 ∨ σ 45 (8 * i + b) = nI j := by
            intro j _ h5
            by_cases q : j = l
            · exact Or.inr (by rw [q]; exact w2)
            · exact Or.inl (by rw [← h5, hρ, ← hτ, ← hτ1]; simp [zs_rd, q])
          refine rP_stp (i := i) (a := a) (b := b) (y := σ 30 v) (z := σ 0 6) hn hi6 hb g2 g4 g6 ?_ ?_ ?_ ?_ ?_ ?_ ?_ ?_ ?_ ?_ ?_ ?_ ?_ ?_ ?_ ?_ ?_ ?_ ?_ ?_ ?_ hl hP <;> simp [zs_row, upd_rd, ← hτ1, ← hτ, hρ, hH.1, hH.2.1]
        · refine rQ_f (Nat.le_refl n) ?_ ?_ ?_ ?_ ?_ ?_ ?_ (fun i hi h2 => by have q : ¬ i = l := (fun z => by rw [z, w4] at h2; exact absurd h2 (by decide)); constructor <;> simp [zs_row, upd_rd, ← hτ1, ← hτ, hρ, q, h2]) hQ <;> simp [zs_row, upd_rd, ← hτ1, ← hτ, hρ]
        · refine rC_f ?_ ?_ ?_ ?_ ?_ ?_ ?_ ?_ hC <;> simp [zs_row, upd_rd, ← hτ1, ← hτ, hρ]
    · have z6 : f_X6_step σ (nI i) = ((-1), zs σ 29 28 2) := by
        unfold f_X6_step
        rw [h2, if_neg i10, eR, if_neg k1]
      simp [h1, k1, z6, hI, hT, thr_v]
def mix (τ ρ : zS) : zS := fun k => if k < 29 then τ k else ρ k
theorem mix_l {τ ρ : zS} {k : Nat} (h : k < 29) : mix τ ρ k = τ k := if_pos h
theorem mix_h {τ ρ : zS} {k : Nat} (h : ¬ k < 29) : mix τ ρ k = ρ k := if_neg h
theorem zs_id {σ : zS} {k j : Nat} {x : Int32} (h : σ k j = x) : zs σ k j x = σ := by
  funext k' j'
  rw [zs_rd]
  by_cases q : k' = k ∧ j' = j
  · rw [if_pos q, q.1, q.2, h]
  · rw [if_neg q]
def rJ (n : Nat) (μ : zS) : Prop := rL n μ ∧ rA n μ ∧ rP n μ ∧ rQ n μ
theorem rP_cl {n i a b : Nat} {σ τ : zS} (hn : n ≤ 60) (hi : i < 6) (hb : b < a) (ha : a ≤ 8) (h46 : σ 46 i = nI a) (e : ∀ k : Nat, k ∈ [13, 14, 46, 15, 47, 16, 39, 17, 40, 18, 41, 19, 42, 20, 43, 21, 44, 3] → τ k = σ k) (e2 : τ 29 20 = σ 29 20) (e19 : τ 22 = upd (σ 22) (8 * i + b) (-1)) (e20 : τ 45 = upd (σ 45) (8 * i + b) (-1)) (hl : ∀ l : Nat, l < n → σ 5 l = 1 → τ 5 l = 1 ∨ σ 45 (8 * i + b) = nI l) (H : rP n σ) : rP n τ := by
  have h8 := fun k (hk : k < 6) => cl8 H hk
  unfold rP at H ⊢
  rw [e 13 (by decide), e2, e 14 (by decide), e 46 (by decide), e 15 (by decide), e 47 (by decide), e 16 (by decide), e 39 (by decide), e 17 (by decide), e 40 (by decide), e 18 (by decide), e 41 (by decide), e 19 (by decide), e 42 (by decide), e 20 (by decide), e 43 (by decide), e 21 (by decide), e 44 (by decide), e19, e20, e 3 (by decide)]
  obtain ⟨h1, h5, h6, h7⟩ := H
  have s46 : (σ 46 i).toNatClampNeg = a := by rw [h46, ni_cl (by omega)]
  refine ⟨h1, fun j hj => ?_, fun k s hk hs => ?_, fun k s k' s' hk hk' hs hs' => ?_⟩
  · obtain ⟨f1, f2, f3, f4, f5, f6, f7, f8, f9, f10⟩ := h5 j hj
    simp only [upd_rd]
    by_cases q : j = 8 * i + b
    · simp only [if_pos q]
      exact ⟨f1, f2, f3, f4, f5, f6, trivial, f8, f9, Or.inl trivial⟩
    · simp only [if_neg q]
      exact ⟨f1, f2, f3, f4, f5, f6, f7, f8, f9, f10⟩
  · rw [upd_rd]
    by_cases q : 8 * k + s = 8 * i + b
    · rw [if_pos q]
      exact Or.inl rfl
    · rw [if_neg q]
      rcases h6 k s hk hs with h | ⟨j, g1, g2, g3, g4⟩
      · exact Or.inl h
      · refine Or.inr ⟨j, g1, g2, ?_, g4⟩
        refine (hl j g1 g3).resolve_right (fun w => q ?_)
        obtain ⟨r1, r2⟩ := h7 k s i b hk hi hs (by omega) (by rw [g2, w]) (by rw [g2]; exact ni_ne (by omega))
        rw [r1, r2]
  · rw [upd_rd, upd_rd]
    by_cases q : 8 * k + s = 8 * i + b
    · rw [if_pos q]
      intro _ w
      exact absurd rfl w
    · rw [if_neg q]
      by_cases q2 : 8 * k' + s' = 8 * i + b
      · rw [if_pos q2]
        intro w w2
        exact absurd w w2
      · rw [if_neg q2]
        exact h7 k s k' s' hk hk' hs hs'
theorem rP_z {n i : Nat} {σ τ : zS} (e : ∀ k : Nat, k ∈ [13, 14, 46, 16, 39, 17, 40, 18, 41, 19, 42, 20, 43, 21, 44, 22, 45, 5, 3] → τ k = σ k) (e2 : τ 29 20 = σ 29 20) (e5 : τ 15 = upd (σ 15) i 0) (e6 : τ 47 = upd (σ 47) i 0) (H : rP n σ) : rP n τ := by
  unfold rP at H ⊢
  rw [e 13 (by decide), e2, e 14 (by decide), e 46 (by decide), e5, e6, e 16 (by decide), e 39 (by decide), e 17 (by decide), e 40 (by decide), e 18 (by decide), e 41 (by decide), e 19 (by decide), e 42 (by decide), e 20 (by decide), e 43 (by decide), e 21 (by decide), e 44 (by decide), e 22 (by decide), e 45 (by decide), e 5 (by decide), e 3 (by decide)]
  obtain ⟨⟨p, h1, h2, h3, h4⟩, h5⟩ := H
  refine ⟨⟨p, h1, h2, h3, fun k hk => ?_⟩, h5⟩
  obtain ⟨a', b', g1, g2, g3, g4, g5, g6, g7⟩ := h4 k hk
  simp only [upd_rd]
  by_cases q : k = i
  · simp only [if_pos q]
    exact ⟨a', 0, by omega, g2, g3, g4, rfl, rfl, g7⟩
  · simp only [if_neg q]
    exact ⟨a', b', g1, g2, g3, g4, g5, g6, g7⟩
theorem cu_j {n i a s : Nat} {τ ρ : zS} (hn : n ≤ 60) (hi : i < 6) (hs : s < a) (ha : a ≤ 8) (hp : f_X4_hasProcedure τ (nI i) = 1) (h14 : τ 14 i = nI a) (h46 : ρ 46 i = nI a) (J : rJ n (mix τ (zs ρ 47 i 0))) :
    ∃ (c : Int32) (τ' ρ' : zS), f_X5_closeUndoneLine τ (nI (8 * i + s)) = (c, τ') ∧ f_X6_closesUndone ρ (nI (8 * i + s)) = (c, ρ') ∧ (c = 0 ∨ c = 1) ∧ rJ n (mix τ' (zs ρ' 47 i 0)) ∧ (∀ k : Nat, k ≠ 5 → k ≠ 2 → k ≠ 8 → k ≠ 22 → τ' k = τ k) ∧ ∀ k : Nat, k ≠ 45 → k ≠ 32 → ρ' k = ρ k := by
  obtain ⟨hL, hA, hP, hQ⟩ := J
  have hx : 8 * i + s < 48 := by omega
  generalize hμ : mix τ (zs ρ 47 i 0) = μ at hL hA hP hQ
  have lo : ∀ k : Nat, k < 29 → μ k = τ k := fun k hk => by rw [← hμ, mix_l hk]
  have up : ∀ k : Nat, ¬ k < 29 → k ≠ 47 → μ k = ρ k := fun k hk h2 => by rw [← hμ, mix_h hk, zs_ne h2]
  have m46 : μ 46 i = nI a := by rw [up 46 (by decide) (by decide), h46]
  have f7 := (hP.2.1 (8 * i + s) hx).2.2.2.2.2.2.1
  rw [lo 22 (by decide), up 45 (by decide) (by decide)] at f7
  have eis : f_X4_isStep τ (nI (8 * i + s)) = 1 := by rw [ist_v hp hi (by omega) ha h14, if_pos hs]
  rcases hP.2.2.1 i s hi (by rw [m46, ni_cl (by omega)]; exact hs) with w1 | ⟨l, w1, w2, w3, w4⟩
  · rw [up 45 (by decide) (by decide)] at w1
    refine ⟨0, τ, ρ, cu5_a hx (f7.trans w1), ?_, Or.inl rfl, ?_, fun _ _ _ _ _ => rfl, fun _ _ _ => rfl⟩
    · rw [cu6_a hx w1, zs_id w1]
    · rw [hμ]
      exact ⟨hL, hA, hP, hQ⟩
  · have w2' := w2
    rw [up 45 (by decide) (by decide)] at w2'
    have w3' : ¬ μ 5 l = 0 := by rw [w3]; decide
    obtain ⟨e, he, h8, hes⟩ := rL_x hn hL
    have hcp := cnt_pos w3' w1
    have he' : e < 120 := by omega
    have m3 := (hL.2.2.2.2.1 l w1).2.2.1
    have r32 : ¬ ρ 32 l = 0 := by rw [← up 32 (by decide) (by decide), ← m3]; exact w3'
    have e5 : f_X5_closeUndoneLine τ (nI (8 * i + s)) = (1, zs (zs (zs (zs (zs τ 5 l 0) 2 7 (τ 2 7 - 1)) 8 e (nI l ^^^ (-1))) 2 8 (nI (e + 1))) 22 (8 * i + s) (-1)) := by
      rw [cu5_b hx (show l < 60 by omega) eis (f7.trans w2'), closeLine_v (n := n) (e := e) hn (by rw [← lo 2 (by decide)]; exact hL.1) w1 (by rw [← lo 5 (by decide)]; exact w3') (by rw [← lo 2 (by decide)]; exact h8) he']
    have e6 := cu6_b (τ := ρ) hx (show l < 60 by omega) w2' r32
    obtain ⟨τ', hτ⟩ : ∃ τ' : zS, τ' = zs (zs (zs (zs (zs τ 5 l 0) 2 7 (τ 2 7 - 1)) 8 e (nI l ^^^ (-1))) 2 8 (nI (e + 1))) 22 (8 * i + s) (-1) := ⟨_, rfl⟩
    obtain ⟨ρ', hρ⟩ : ∃ ρ' : zS, ρ' = zs (zs ρ 45 (8 * i + s) (-1)) 32 l 0 := ⟨_, rfl⟩
    rw [← hτ] at e5
    rw [← hρ] at e6
    have t1 : ∀ k : Nat, k ≠ 5 → k ≠ 2 → k ≠ 8 → k ≠ 22 → τ' k = τ k := fun k h1 h2 h3 h4 => by rw [hτ, zs_ne h4, zs_ne h2, zs_ne h3, zs_ne h2, zs_ne h1]
    have t2 : ∀ k : Nat, k ≠ 45 → k ≠ 32 → ρ' k = ρ k := fun k h1 h2 => by rw [hρ, zs_ne h2, zs_ne h1]
    refine ⟨1, τ', ρ', e5, e6, Or.inr rfl, ?_, t1, t2⟩
    obtain ⟨ν, hν⟩ : ∃ ν : zS, ν = mix τ' (zs ρ' 47 i 0) := ⟨_, rfl⟩
    rw [← hν]
    have nlo : ∀ k : Nat, k < 29 → ν k = τ' k := fun k hk => by rw [hν, mix_l hk]
    have nup : ∀ k : Nat, ¬ k < 29 → k ≠ 47 → ν k = ρ' k := fun k hk h2 => by rw [hν, mix_h hk, zs_ne h2]
    have s1 : ∀ k : Nat, k < 29 → k ≠ 5 → k ≠ 2 → k ≠ 8 → k ≠ 22 → ν k = μ k := fun k h h1 h2 h3 h4 => by rw [nlo k h, t1 k h1 h2 h3 h4, lo k h]
    have s2 : ∀ k : Nat, ¬ k < 29 → k ≠ 45 → k ≠ 32 → ν k = μ k := fun k h h1 h2 => by
      by_cases q : k = 47
      · rw [q, hν, ← hμ, mix_h (by decide), mix_h (by decide), zs_row, zs_row, if_pos rfl, if_pos rfl, t2 47 (by decide) (by decide)]
      · rw [nup k h q, t2 k h1 h2, up k h q]
    have n5 : ν 5 = upd (μ 5) l 0 := by rw [nlo 5 (by decide), lo 5 (by decide), hτ]; simp [zs_row]
    have n32 : ν 32 = upd (μ 32) l 0 := by rw [nup 32 (by decide) (by decide), up 32 (by decide) (by decide), hρ]; simp [zs_row]
    have n22 : ν 22 = upd (μ 22) (8 * i + s) (-1) := by rw [nlo 22 (by decide), lo 22 (by decide), hτ]; simp [zs_row]
    have n45 : ν 45 = upd (μ 45) (8 * i + s) (-1) := by rw [nup 45 (by decide) (by decide), up 45 (by decide) (by decide), hρ]; simp [zs_row]
    have n26 : ν 2 6 = μ 2 6 := by rw [nlo 2 (by decide), lo 2 (by decide), hτ]; simp [zs_rd]
    have n27 : ν 2 7 = μ 2 7 - 1 := by rw [nlo 2 (by decide), lo 2 (by decide), hτ]; simp [zs_rd]
    have n28 : ν 2 8 = nI (e + 1) := by rw [nlo 2 (by decide), hτ]; simp [zs_rd]
    have n8 : ν 8 = upd (μ 8) e (nI l ^^^ (-1)) := by rw [nlo 8 (by decide), lo 8 (by decide), hτ]; simp [zs_row]
    have n3 := s1 3 (by decide) (by decide) (by decide) (by decide) (by decide)
    have n29 := s2 29 (by decide) (by decide) (by decide)
    have em : ∀ L : List Nat, (5 ∉ L ∧ 2 ∉ L ∧ 8 ∉ L ∧ 22 ∉ L ∧ 45 ∉ L ∧ 32 ∉ L) → ∀ k : Nat, k ∈ L → ν k = μ k := fun L hL k hk => by
      by_cases q : k < 29
      · exact s1 k q (fun z => hL.1 (z ▸ hk)) (fun z => hL.2.1 (z ▸ hk)) (fun z => hL.2.2.1 (z ▸ hk)) (fun z => hL.2.2.2.1 (z ▸ hk))
      · exact s2 k q (fun z => hL.2.2.2.2.1 (z ▸ hk)) (fun z => hL.2.2.2.2.2 (z ▸ hk))
    have o5 : ∀ j : Nat, ¬ j = l → ν 5 j = μ 5 j := fun j hj => by rw [n5, upd_rd, if_neg hj]
    refine ⟨?_, ?_, ?_, ?_⟩
    · exact rL_close hn w1 w3 h8 (by omega) n26 (congrFun n29 7) n3 (s2 31 (by decide) (by decide) (by decide)) (s1 4 (by decide) (by decide) (by decide) (by decide) (by decide)) (s2 33 (by decide) (by decide) (by decide)) n5 n32 (s1 7 (by decide) (by decide) (by decide) (by decide) (by decide)) (s2 34 (by decide) (by decide) (by decide)) (s1 6 (by decide) (by decide) (by decide) (by decide) (by decide)) (s2 35 (by decide) (by decide) (by decide)) n27 n28 n8 hL
    · refine rA_g (Nat.le_refl n) (em _ (by decide)) (fun j hj h1 h2 => ?_) hA
      have q : ¬ j = l := fun z => by rw [z, w4] at h2; exact absurd h2 (by decide)
      rw [o5 j q, n3]
      exact ⟨h1, h2⟩
    · refine rP_cl hn hi hs ha m46 (em _ (by decide)) (congrFun n29 20) n22 n45 (fun j _ h5 => ?_) hP
      by_cases q : j = l
      · exact Or.inr (by rw [q]; exact w2)
      · exact Or.inl (by rw [o5 j q]; exact h5)
    · refine rQ_g (Nat.le_refl n) (em _ (by decide)) (congrFun n29 23) (fun j hj h2 => ?_) hQ
      have q : ¬ j = l := fun z => by rw [z, w4] at h2; exact absurd h2 (by decide)
      rw [o5 j q, n3]
      exact ⟨rfl, h2⟩
theorem r5_hi {i a : Nat} {σ τ : zS} (hi : i < 6) (ha : a ≤ 8) (hp : f_X4_hasProcedure τ (nI i) = 1) (h14 : τ 14 i = nI a) (c : Int32) : ∀ (m j : Nat), a ≤ j → j ≤ 8 → 8 - j < m → L_X5_reset_21 σ (nI i) m τ c (nI j) = (0, c, τ) := by
  intro m
  induction m with
  | zero => intro j h0 h1 h2; omega
  | succ m ih =>
    intro j h0 h1 h2
    rw [L_X5_reset_21]
    by_cases e : j = 8
    · rw [if_pos ((n8 (by omega)).mpr (by omega))]
    · have es : f_X4_isStep τ (nI (8 * i + j)) = 0 := by rw [ist_v hp hi (by omega) ha h14, if_neg (by omega)]
      rw [if_neg (show ¬ (8 : Int32) ≤ nI j from fun z => e (by have := (n8 (by omega)).mp z; omega)), sp_v, cu5_o es]
      dsimp only
      rw [if_pos rfl, nI_1]
      exact ih (j + 1) (by omega) (by omega) (by omega)
theorem rs_l {n i a : Nat} {σ σ' : zS} (hn : n ≤ 60) (hi : i < 6) (ha : a ≤ 8) : ∀ (m j : Nat) (τ ρ : zS) (c : Int32), j ≤ a → 8 - j < m → ∀ m' : Nat, a - j < m' → f_X4_hasProcedure τ (nI i) = 1 → τ 14 i = nI a → ρ 46 i = nI a → ρ 29 28 = 0 → rJ n (mix τ (zs ρ 47 i 0)) →
    ∃ (c' : Int32) (τ' ρ' : zS), L_X5_reset_21 σ (nI i) m τ c (nI j) = (0, c', τ') ∧ L_X6_reset_43 σ' (nI i) m' ρ c (nI j) = (c', zs ρ' 47 i 0) ∧ rJ n (mix τ' (zs ρ' 47 i 0)) ∧ (∀ k : Nat, k ≠ 5 → k ≠ 2 → k ≠ 8 → k ≠ 22 → τ' k = τ k) ∧ ∀ k : Nat, k ≠ 45 → k ≠ 32 → ρ' k = ρ k := by
  intro m
  induction m with
  | zero => intro j τ ρ c h1 h2; omega
  | succ m ih =>
    intro j τ ρ c h1 h2 m' h3 hp h14 h46 h28 J
    cases m' with
    | zero => omega
    | succ m' =>
      by_cases e : j = a
      · refine ⟨c, τ, ρ, r5_hi hi ha hp h14 c (m + 1) j (by omega) (by omega) h2, ?_, J, fun _ _ _ _ _ => rfl, fun _ _ _ => rfl⟩
        rw [L_X6_reset_43, if_pos h28, ni_cl (by omega), h46, if_pos ((ni_le (by omega) (by omega)).mpr (by omega))]
      · obtain ⟨d, τ1, ρ1, e5, e6, hd, J1, t1, t2⟩ := cu_j hn hi (show j < a by omega) ha hp h14 h46 J
        have hp1 : f_X4_hasProcedure τ1 (nI i) = 1 := by rw [hp_s (σ := τ) (by rw [t1 13 (by decide) (by decide) (by decide) (by decide)])]; exact hp
        have x5 : L_X5_reset_21 σ (nI i) (m + 1) τ c (nI j) = L_X5_reset_21 σ (nI i) m τ1 (c + d) (nI (j + 1)) := by
          rw [L_X5_reset_21, if_neg (show ¬ (8 : Int32) ≤ nI j from fun z => by have := (n8 (by omega)).mp z; omega), sp_v, e5, nI_1]
          dsimp only
          rcases hd with rfl | rfl
          · rw [if_pos rfl, ni_a0]
          · rw [if_neg i10]
        have x6 : L_X6_reset_43 σ' (nI i) (m' + 1) ρ c (nI j) = L_X6_reset_43 σ' (nI i) m' ρ1 (c + d) (nI (j + 1)) := by
          rw [L_X6_reset_43, if_pos h28, ni_cl (by omega), h46, if_neg (show ¬ nI a ≤ nI j from fun z => by have := (ni_le (by omega) (by omega)).mp z; omega), m8_v, e6]
          dsimp only
          rw [nI_1]
        obtain ⟨c', τ', ρ', y1, y2, y3, y4, y5⟩ := ih (j + 1) τ1 ρ1 (c + d) (by omega) (by omega) m' (by omega) hp1 (by rw [t1 14 (by decide) (by decide) (by decide) (by decide)]; exact h14) (by rw [t2 46 (by decide) (by decide)]; exact h46) (by rw [t2 29 (by decide) (by decide)]; exact h28) J1
        exact ⟨c', τ', ρ', x5.trans y1, x6.trans y2, y3, fun k k1 k2 k3 k4 => (y4 k k1 k2 k3 k4).trans (t1 k k1 k2 k3 k4), fun k k1 k2 => (y5 k k1 k2).trans (t2 k k1 k2)⟩
theorem rJ_0 {n i : Nat} {σ τ : zS} (h : hi σ τ) (hL : rL n σ) (hA : rA n σ) (hP : rP n σ) (hQ : rQ n σ) : rJ n (mix (zs σ 15 i 0) (zs (zs τ 29 28 0) 47 i 0)) := by
  obtain ⟨ν, hν⟩ : ∃ ν : zS, ν = mix (zs σ 15 i 0) (zs (zs τ 29 28 0) 47 i 0) := ⟨_, rfl⟩
  rw [← hν]
  have s1 : ∀ k : Nat, k < 29 → k ≠ 15 → ν k = σ k := fun k h1 h2 => by rw [hν, mix_l h1, zs_ne h2]
  have s2 : ∀ k : Nat, ¬ k < 29 → k ≠ 47 → k ≠ 29 → ν k = σ k := fun k h1 h2 h3 => by rw [hν, mix_h h1, zs_ne h2, zs_ne h3, h k (by omega)]
  have s3 : ∀ j : Nat, j ≠ 28 → ν 29 j = σ 29 j := fun j hj => by rw [hν, mix_h (by decide), zs_ne (show 29 ≠ 47 by decide), zs_nf hj, h 29 (by decide)]
  have em : ∀ L : List Nat, (15 ∉ L ∧ 47 ∉ L ∧ 29 ∉ L) → ∀ k : Nat, k ∈ L → ν k = σ k := fun L hL k hk => by
    by_cases q : k < 29
    · exact s1 k q (fun z => hL.1 (z ▸ hk))
    · exact s2 k q (fun z => hL.2.1 (z ▸ hk)) (fun z => hL.2.2 (z ▸ hk))
  have e2 := s1 2 (by decide) (by decide)
  have e5 := s1 5 (by decide) (by decide)
  have e3 := s1 3 (by decide) (by decide)
  refine ⟨?_, ?_, ?_, ?_⟩
  · exact rL_f (congrFun e2 6) (s3 7 (by decide)) e3 (s2 31 (by decide) (by decide) (by decide)) (s1 4 (by decide) (by decide)) (s2 33 (by decide) (by decide) (by decide)) e5 (s2 32 (by decide) (by decide) (by decide)) (s1 7 (by decide) (by decide)) (s2 34 (by decide) (by decide) (by decide)) (s1 6 (by decide) (by decide)) (s2 35 (by decide) (by decide) (by decide)) (congrFun e2 7) (congrFun e2 8) (s1 8 (by decide) (by decide)) hL
  · exact rA_g (Nat.le_refl n) (em _ (by decide)) (fun j hj h1 h2 => by rw [e5, e3]; exact ⟨h1, h2⟩) hA
  · refine rP_z (i := i) (em _ (by decide)) (s3 20 (by decide)) ?_ ?_ hP
    · rw [hν, mix_l (by decide), zs_row, if_pos rfl]
    · rw [hν, mix_h (by decide), zs_row, if_pos rfl, zs_ne (show 47 ≠ 29 by decide), h 47 (by decide)]
  · exact rQ_g (Nat.le_refl n) (em _ (by decide)) (s3 23 (by decide)) (fun j hj h2 => by rw [e5, e3]; exact ⟨rfl, h2⟩) hQ
theorem sim_reset {t : Nat} {σ : zS} (h : zR t σ) (ht : t < 512) (a1 : Int32) : zI (f_X5_reset σ a1).2.2 ∧ f_X6_thrown (f_X6_reset (f_X5_reset σ a1).2.2 a1).2 = f_L_reset (f_X5_reset σ a1).1 ∧ (f_L_reset (f_X5_reset σ a1).1 = 0 → (f_X5_reset σ a1).1 = 0 ∧ (f_X6_reset (f_X5_reset σ a1).2.2 a1).1 = (f_X5_reset σ a1).2.1) ∧ zR (t + 1) (f_X6_reset (f_X5_reset σ a1).2.2 a1).2 := by
  have hI := zR_I h
  have hT := fun c => zR_thr (c := c) h
  obtain ⟨n, hr, hn, hh, hH, hL, hA, hP, hQ, hC⟩ := h
  obtain ⟨⟨p, hp1, hp2, hp3, hp4⟩, hp5, hp6, hp7⟩ := id hP
  have eA := acts_e hC
  unfold f_X5_reset f_X5_checkProcedure f_X5_checkAtWork f_L_reset
  rcases proc_c hp1 hp2 hp3 a1 with ⟨h1, h2⟩ | ⟨i, hi', rfl, h1, h2⟩
  · have z6 : f_X6_reset σ a1 = ((-1), zs σ 29 28 1) := by unfold f_X6_reset; rw [h2, if_pos rfl]
    simp [h1, z6, hI, hT, thr_v]
  · have hi6 : i < 6 := by omega
    by_cases k1 : f_X1_isAtWork σ = 0
    · have z6 : f_X6_reset σ (nI i) = ((-1), zs σ 29 28 2) := by unfold f_X6_reset; rw [h2, if_neg i10, eA, if_pos k1]
      simp [h1, k1, z6, hI, hT, thr_v]
    · obtain ⟨a, b, g1, g2, g3, g4, g5, g6, g7⟩ := hp4 i hi6
      have ci := ni_cl (show i < 2000000000 by omega)
      have em : f_X4_markNoneDone σ (nI i) = zs σ 15 i 0 := by
        unfold f_X4_markNoneDone
        rw [h1, if_neg i10, ci]
      have hpz : f_X4_hasProcedure (zs σ 15 i 0) (nI i) = 1 := by rw [hp_s (σ := σ) (by rw [zs_ne (show 13 ≠ 15 by decide)])]; exact h1
      have h14z : zs σ 15 i 0 14 i = nI a := by rw [zs_ne (show 14 ≠ 15 by decide)]; exact g3
      have run := fun (τ : zS) (hτ : hi σ τ) => rs_l (n := n) (i := i) (a := a) (σ := σ) (σ' := τ) hn hi6 g2 9 0 (zs σ 15 i 0) (zs τ 29 28 0) 0 (by omega) (by omega) 9 (by omega) hpz h14z (by rw [zs_ne (show 46 ≠ 29 by decide), hτ 46 (by decide)]; exact g4) zs_eq (rJ_0 hτ hL hA hP hQ)
      rw [nI_0] at run
      obtain ⟨c1, τ, ρ1, y1, -, -, y4, -⟩ := run σ (hi_rfl σ)
      have hhi : hi σ τ := fun k hk => by rw [y4 k (by omega) (by omega) (by omega) (by omega), zs_ne (by omega)]
      obtain ⟨c2, τ2, ρ', x1, x2, J, x4, x5⟩ := run τ hhi
      have hc : c2 = c1 ∧ τ2 = τ := by
        have hz := x1.symm.trans y1
        simp only [Prod.mk.injEq, true_and] at hz
        exact hz
      obtain ⟨rfl, rfl⟩ := hc
      rw [h1, em, y1]
      simp only [i10, ↓reduceIte, if_neg k1]
      have z6 : f_X6_reset τ2 (nI i) = (c2, zs ρ' 47 i 0) := by
        unfold f_X6_reset
        rw [ip_h hhi, h2, if_neg i10, ac_h hhi, eA, if_neg k1]
        exact x2
      have low : ∀ k : Nat, k < 29 → zs ρ' 47 i 0 k = τ2 k := fun k hk => by rw [zs_ne (by omega), x5 k (by omega) (by omega), zs_ne (by omega)]
      have emx : mix τ2 (zs ρ' 47 i 0) = zs ρ' 47 i 0 := by
        funext k
        by_cases q : k < 29
        · rw [mix_l q, low k q]
        · rw [mix_h q]
      rw [emx] at J
      have l1 : ∀ k : Nat, k < 29 → k ≠ 5 → k ≠ 2 → k ≠ 8 → k ≠ 22 → k ≠ 15 → zs ρ' 47 i 0 k = σ k := fun k h1 h2 h3 h4 h5 h6 => by rw [low k h1, x4 k h2 h3 h4 h5, zs_ne h6]
      have l2 : ∀ k : Nat, 29 < k → k ≠ 45 → k ≠ 32 → k ≠ 47 → zs ρ' 47 i 0 k = σ k := fun k h1 h2 h3 h4 => by rw [zs_ne h4, x5 k h2 h3, zs_ne (by omega), hhi k (by omega)]
      have l3 : ∀ j : Nat, j ≠ 28 → zs ρ' 47 i 0 29 j = σ 29 j := fun j hj => by rw [zs_ne (show 29 ≠ 47 by decide), x5 29 (by decide) (by decide), zs_nf hj, hhi 29 (by decide)]
      have e27 := l1 27 (by decide) (by decide) (by decide) (by decide) (by decide) (by decide)
      try dsimp only
      rw [z6]
      refine ⟨zI_hi hhi hI, ?_, fun _ => ⟨by first | rfl | trivial, by first | rfl | trivial⟩, n, hr, hn, by omega, ?_, J.1, J.2.1, J.2.2.1, J.2.2.2, ?_⟩
      · have ez : zs ρ' 47 i 0 29 28 = 0 := by rw [zs_ne (show 29 ≠ 47 by decide), x5 29 (by decide) (by decide), zs_eq]
        exact (show f_X6_thrown (zs ρ' 47 i 0) = 0 from ez).trans (by first | rfl | exact (if_pos trivial).symm)
      · exact rH_f (congrFun (l1 0 (by decide) (by decide) (by decide) (by decide) (by decide) (by decide)) 6) (l3 0 (by decide)) (l1 1 (by decide) (by decide) (by decide) (by decide) (by decide) (by decide)) (l2 30 (by decide) (by decide) (by decide) (by decide)) hH
      · exact rC_f (congrFun e27 1) (congrFun e27 2) (congrFun e27 3) (l1 28 (by decide) (by decide) (by decide) (by decide) (by decide) (by decide)) (l2 50 (by decide) (by decide) (by decide) (by decide)) (l3 24 (by decide)) (l3 25 (by decide)) (l3 26 (by decide)) hC
