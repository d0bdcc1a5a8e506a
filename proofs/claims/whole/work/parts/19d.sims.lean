theorem place_v {x : Nat} (hx : x < 48) : f_X4_isPlace (nI x) = 1 := by
  unfold f_X4_isPlace
  rw [if_neg (nI_pos (by omega)), if_neg (show ¬ (48 : Int32) ≤ nI x from fun z => by have := (n48 (by omega)).mp z; omega)]
theorem sp_v (a b : Nat) : f_X5_stepPlace (nI a) (nI b) = nI (8 * a + b) := by
  unfold f_X5_stepPlace
  rw [show (8 : Int32) = nI 8 from rfl, pk_mul, nI_add, show a * 8 + b = 8 * a + b by omega]
theorem m8_v (a b : Nat) : (8 * nI a) + nI b = nI (8 * a + b) := by
  rw [show (8 : Int32) = nI 8 from rfl, pk_mul, nI_add]
theorem nx_v {σ : zS} {i a b : Nat} (ha : a ≤ 8) (hp : f_X4_hasProcedure σ (nI i) = 1) (hi : i < 6) (h14 : σ 14 i = nI a) (h15 : σ 15 i = nI b) (hb : b ≤ a) : f_X4_nextPlace σ (nI i) = if b = a then (-1) else nI (8 * i + b) := by
  unfold f_X4_nextPlace f_X4_stepCount f_X4_doneCount
  rw [hp, if_neg (show ¬ (1 : Int32) = 0 by decide), if_neg (show ¬ (1 : Int32) = 0 by decide), ni_cl (by omega), h14, h15]
  by_cases c : b = a
  · rw [if_pos ((ni_le (by omega) (by omega)).mpr (by omega)), if_pos c]
  · rw [if_neg (show ¬ nI a ≤ nI b from fun z => c (by have := (ni_le (by omega) (by omega)).mp z; omega)), if_neg c, sp_v]
theorem ld_v {σ : zS} {i b : Nat} (hb : b ≤ 8) (hp : f_X4_hasProcedure σ (nI i) = 1) (hi : i < 6) (h15 : σ 15 i = nI b) : f_X4_lastDonePlace σ (nI i) = if b = 0 then (-1) else nI (8 * i + b - 1) := by
  unfold f_X4_lastDonePlace f_X4_doneCount
  rw [hp, if_neg (show ¬ (1 : Int32) = 0 by decide), ni_cl (by omega), h15]
  by_cases c : b = 0
  · rw [c, if_pos (by decide), if_pos rfl]
  · rw [if_neg (show ¬ nI b ≤ 0 from nI_nle (by omega) (by omega)), if_neg c]
    obtain ⟨b', rfl⟩ : ∃ b' : Nat, b = b' + 1 := ⟨b - 1, by omega⟩
    rw [nI_pred, sp_v, show 8 * i + (b' + 1) - 1 = 8 * i + b' by omega]
theorem uo_v {σ : zS} {x : Nat} (hx : x < 48) : f_X4_unitOf σ (nI x) = σ 18 x := by
  unfold f_X4_unitOf
  rw [place_v hx, if_neg (show ¬ (1 : Int32) = 0 by decide), ni_cl (by omega)]
theorem ns_v {σ : zS} {x : Nat} (hx : x < 48) : f_X4_newStateOf σ (nI x) = σ 19 x := by
  unfold f_X4_newStateOf
  rw [place_v hx, if_neg (show ¬ (1 : Int32) = 0 by decide), ni_cl (by omega)]
theorem no_v {σ : zS} {x : Nat} (hx : x < 48) : f_X4_notedStateOf σ (nI x) = σ 20 x := by
  unfold f_X4_notedStateOf
  rw [place_v hx, if_neg (show ¬ (1 : Int32) = 0 by decide), ni_cl (by omega)]
theorem ne_v {σ : zS} {x : Nat} (hx : x < 48) : f_X4_neededOf σ (nI x) = σ 16 x := by
  unfold f_X4_neededOf
  rw [place_v hx, if_neg (show ¬ (1 : Int32) = 0 by decide), ni_cl (by omega)]
theorem nd_v {σ : zS} {x : Nat} (hx : x < 48) : f_X4_neededStateOf σ (nI x) = σ 17 x := by
  unfold f_X4_neededStateOf
  rw [place_v hx, if_neg (show ¬ (1 : Int32) = 0 by decide), ni_cl (by omega)]
theorem st_v {σ : zS} {u : Nat} (hu : u < 8) : f_X5_stateOf σ (nI u) = σ 1 u := by
  unfold f_X5_stateOf
  rw [unit_v hu, if_neg (show ¬ (1 : Int32) = 0 by decide), ni_cl (by omega)]
theorem rsn_t (σ : zS) (c a : Int32) : f_X6_reasonOf (zs σ 29 28 c) a = f_X6_reasonOf σ a := by
  unfold f_X6_reasonOf
  rw [acts_t, tired_t, zs_ne (show 47 ≠ 29 by decide), zs_ne (show 46 ≠ 29 by decide), zs_ne (show 30 ≠ 29 by decide), zs_ne (show 39 ≠ 29 by decide), zs_ne (show 40 ≠ 29 by decide), zs_ne (show 41 ≠ 29 by decide), bar_t]
theorem rsn_e {n h : Nat} {σ : zS} (hn : n ≤ 60) (hH : rH h σ) (hL : rL n σ) (hP : rP n σ) (hQ : rQ n σ) (hC : rC h σ) {i a b : Nat} (hi : i < 6) (hp : f_X4_hasProcedure σ (nI i) = 1) (hb : b ≤ a) (ha : a ≤ 8) (g3 : σ 14 i = nI a) (g4 : σ 46 i = nI a) (g5 : σ 15 i = nI b) (g6 : σ 47 i = nI b) :
    f_X6_reasonOf σ (nI i) = f_X5_reasonOf σ (nI i) := by
  have eA := acts_e hC
  have eT := tired_e hH hC
  unfold f_X6_reasonOf f_X5_reasonOf
  rw [nx_v ha hp hi g3 g5 hb, ni_cl (show i < 2000000000 by omega), g4, g6, m8_v, eA, eT]
  by_cases c : b = a
  · rw [if_pos (show nI b = nI a by rw [c]), if_pos c, if_pos rfl]
  · have hx : 8 * i + b < 48 := by omega
    rw [if_neg (show ¬ nI b = nI a from fun z => c ((ni_eq (by omega) (by omega)).mp z)), if_neg c, if_neg (ni_ne (by omega)), ni_cl (show 8 * i + b < 2000000000 by omega), uo_v hx, ne_v hx, nd_v hx]
    obtain ⟨f1, f2, f3, f4, f5, f6, f7, ⟨u, f8, f9⟩, ⟨v, f10, f11⟩, -⟩ := hP.2.1 (8 * i + b) hx
    rw [f1, f2, f3, f9, f11, st_v f8, ni_cl (by omega), ← hH.2.2 u f8, bar_e hn hL hQ f10]
    by_cases c1 : f_X1_isAtWork σ = 0
    · rw [if_pos c1, if_pos c1]
    · rw [if_neg c1, if_neg c1]
      by_cases c2 : f_X1_isWeary σ (σ 0 6) = 0
      · rw [if_pos c2, if_pos c2, if_pos c2]
        by_cases c3 : f_X3_firstOpenWith σ (f_X5_unitBit (nI v)) = (-1)
        · rw [if_pos c3, if_pos c3, if_pos c3]
        · rw [if_neg c3, if_neg c3, if_neg c3, ite_self]
      · rw [if_neg c2, if_neg c2, if_neg c2, ite_self]
theorem sim_reason {t : Nat} {σ : zS} (h : zR t σ) (ht : t < 512) (a1 : Int32) : zI (f_X5_reason σ a1).2.2 ∧ f_X6_thrown (f_X6_reason (f_X5_reason σ a1).2.2 a1).2 = f_L_reason (f_X5_reason σ a1).1 ∧ (f_L_reason (f_X5_reason σ a1).1 = 0 → (f_X5_reason σ a1).1 = 0 ∧ (f_X6_reason (f_X5_reason σ a1).2.2 a1).1 = (f_X5_reason σ a1).2.1) ∧ zR (t + 1) (f_X6_reason (f_X5_reason σ a1).2.2 a1).2 := by
  have hI := zR_I h
  have hT := fun c => zR_thr (c := c) h
  obtain ⟨n, hr, hn, hh, hH, hL, hA, hP, hQ, hC⟩ := h
  obtain ⟨⟨p, hp1, hp2, hp3, hp4⟩, hp5, hp6, hp7⟩ := id hP
  unfold f_X5_reason f_X6_reason f_X5_checkProcedure f_X6_asks f_L_reason
  rcases proc_c hp1 hp2 hp3 a1 with ⟨h1, h2⟩ | ⟨u, hu, rfl, h1, h2⟩
  · simp [h1, h2, hI, hT, thr_v]
  · obtain ⟨a, b, g1, g2, g3, g4, g5, g6, g7⟩ := hp4 u (by omega)
    have e := rsn_e hn hH hL hP hQ hC (show u < 6 by omega) h1 g1 g2 g3 g4 g5 g6
    simp [h1, h2, hI, hT, thr_v, rsn_t, e]
theorem sim_barredBy {t : Nat} {σ : zS} (h : zR t σ) (ht : t < 512) (a1 : Int32) : zI (f_X5_barredBy σ a1).2.2 ∧ f_X6_thrown (f_X6_barredBy (f_X5_barredBy σ a1).2.2 a1).2 = f_L_barredBy (f_X5_barredBy σ a1).1 ∧ (f_L_barredBy (f_X5_barredBy σ a1).1 = 0 → (f_X5_barredBy σ a1).1 = 0 ∧ (f_X6_barredBy (f_X5_barredBy σ a1).2.2 a1).1 = (f_X5_barredBy σ a1).2.1) ∧ zR (t + 1) (f_X6_barredBy (f_X5_barredBy σ a1).2.2 a1).2 := by
  have hI := zR_I h
  have hT := fun c => zR_thr (c := c) h
  have hT2 := fun c d => zR_thr (t := t) (c := c) (σ := zs σ 29 28 d)
  have zz : ∀ c d : Int32, zs (zs σ 29 28 d) 29 28 c = zs σ 29 28 c := by
    intro c d
    funext k j
    simp only [zs_rd]
    by_cases e : k = 29 ∧ j = 28
    · rw [if_pos e, if_pos e]
    · rw [if_neg e, if_neg e, if_neg e]
  obtain ⟨n, hr, hn, hh, hH, hL, hA, hP, hQ, hC⟩ := h
  obtain ⟨⟨p, hp1, hp2, hp3, hp4⟩, hp5, hp6, hp7⟩ := id hP
  unfold f_X5_barredBy f_X6_barredBy f_X5_checkProcedure f_X6_asks f_L_barredBy
  rcases proc_c hp1 hp2 hp3 a1 with ⟨h1, h2⟩ | ⟨i, hi, rfl, h1, h2⟩
  · simp [h1, h2, hI, hT, thr_v]
  · obtain ⟨a, b, g1, g2, g3, g4, g5, g6, g7⟩ := hp4 i (by omega)
    have eN := nx_v g2 h1 (by omega) g3 g5 g1
    have ci := ni_cl (show i < 2000000000 by omega)
    have r46 : ∀ c : Int32, zs σ 29 28 c 46 = σ 46 := fun c => zs_ne (by decide)
    have r47 : ∀ c : Int32, zs σ 29 28 c 47 = σ 47 := fun c => zs_ne (by decide)
    have r41 : ∀ c : Int32, zs σ 29 28 c 41 = σ 41 := fun c => zs_ne (by decide)
    by_cases c : b = a
    · rw [if_pos c] at eN
      simp [h1, h2, hI, hT, thr_v, eN, r46, r47, ci, g4, g6, c, zz]
    · rw [if_neg c] at eN
      have hx : 8 * i + b < 48 := by omega
      obtain ⟨f1, f2, f3, f4, f5, f6, f7, -, ⟨v, f10, f11⟩, -⟩ := hP.2.1 (8 * i + b) hx
      have eb := bar_e hn hL hQ f10
      have c9 : ¬ nI b = nI a := fun z => c ((ni_eq (by omega) (by omega)).mp z)
      have cx := ni_cl (show 8 * i + b < 2000000000 by omega)
      by_cases c3 : f_X3_firstOpenWith σ (f_X5_unitBit (nI v)) = (-1)
      · simp [h1, h2, hI, hT, thr_v, eN, r46, r47, r41, ci, g4, g6, c9, zz, m8_v, cx, f3, f11, bar_t, eb, c3, uo_v hx, ni_ne (show 8 * i + b < 2000000000 by omega)]
      · simp [h1, h2, hI, hT, thr_v, eN, r46, r47, r41, ci, g4, g6, c9, zz, m8_v, cx, f3, f11, bar_t, eb, c3, uo_v hx, ni_ne (show 8 * i + b < 2000000000 by omega)]
theorem and_or0 {a b c : Int32} (h1 : a &&& b = 0) (h2 : a &&& c = 0) : a &&& (b ||| c) = 0 := by
  have e : ∀ x y : Int32, x &&& y = 0 ↔ x.toBitVec &&& y.toBitVec = 0#32 := by
    intro x y
    rw [← Int32.toBitVec_inj, Int32.toBitVec_and]
    rfl
  rw [e] at h1 h2 ⊢
  rw [Int32.toBitVec_or]
  apply BitVec.eq_of_getLsbD_eq
  intro i hi
  have g1 := congrArg (fun z => BitVec.getLsbD z i) h1
  have g2 := congrArg (fun z => BitVec.getLsbD z i) h2
  simp only [BitVec.getLsbD_and, BitVec.getLsbD_or, BitVec.getLsbD_zero] at g1 g2 ⊢
  cases h : a.toBitVec.getLsbD i <;> simp_all
theorem apa_l {q : Nat} {σ : zS} (hq : q ≤ 8) (h3 : σ 23 3 = nI q) (h7 : ∀ i j : Nat, i < q → j < q → ¬ i = j → ¬ σ 26 i = 0 → ¬ σ 26 j = 0 → σ 24 i &&& σ 24 j = 0) : ∀ (m j : Nat) (w : Int32), j ≤ 8 → 8 - j < m → (∀ i : Nat, j ≤ i → i < q → ¬ σ 26 i = 0 → σ 24 i &&& w = 0) → L_X3_areOpenApart_4 σ m w (nI j) = 1 := by
  intro m
  induction m with
  | zero => intro j w h1 h2; omega
  | succ m ih =>
    intro j w h1 h2 hw
    unfold L_X3_areOpenApart_4
    by_cases e : j = 8
    · rw [if_pos ((n8 (by omega)).mpr (by omega))]
    · rw [if_neg (show ¬ (8 : Int32) ≤ nI j from fun z => e (by have := (n8 (by omega)).mp z; omega)), nI_1, ni_cl (by omega)]
      by_cases c : j < q
      · rw [pop_v hq h3 c]
        by_cases c2 : σ 26 j = 0
        · rw [if_pos c2, if_pos rfl]
          exact ih (j + 1) w (by omega) (by omega) (fun i h4 h5 => hw i (by omega) h5)
        · rw [if_neg c2, if_neg (show ¬ (1 : Int32) = 0 by decide), if_pos (hw j (by omega) c c2)]
          exact ih (j + 1) _ (by omega) (by omega) (fun i h4 h5 h6 => and_or0 (hw i (by omega) h5 h6) (h7 i j h5 c (by omega) h6 c2))
      · have e0 : f_X3_isOpen σ (nI j) = 0 := by
          unfold f_X3_isOpen f_X3_hasPermit
          rw [h3, if_neg (nI_pos (by omega)), if_pos ((ni_le (by omega) (by omega)).mpr (by omega)), if_pos rfl]
        rw [e0, if_pos rfl]
        exact ih (j + 1) w (by omega) (by omega) (fun i h4 h5 => absurd h5 (by omega))
theorem apa_e {n : Nat} {σ : zS} (hL : rL n σ) (hQ : rQ n σ) : f_X3_areOpenApart σ = 1 := by
  obtain ⟨hq1, q, hq2, hq3, hq4, hq5, hq6, hq7⟩ := hQ
  have e1 : ∀ i : Nat, i < q → ¬ σ 26 i = 0 → σ 26 i = 1 := by
    intro i hi h
    obtain ⟨-, -, j, g1, -, -, g2, -⟩ := hq5 i hi
    rw [g2] at h ⊢
    exact ((hL.2.2.2.2.1 j g1).2.2.2.1).resolve_left h
  have h := apa_l hq2 hq3 (fun i j hi hj hij h1 h2 => hq7 i j hi hj hij (e1 i hi h1) (e1 j hj h2)) 9 0 0 (by omega) (by omega) (fun i _ _ _ => Int32.and_zero)
  rw [nI_0] at h
  exact h
theorem aal_l {n : Nat} {σ : zS} (hn : n ≤ 60) (hL : rL n σ) (hA : rA n σ) : ∀ (m j : Nat), j ≤ 32 → 32 - j < m → L_X5_activeAlarmsHaveLines_2 σ m (nI j) = 1 := by
  intro m
  induction m with
  | zero => intro j h1 h2; omega
  | succ m ih =>
    intro j h1 h2
    unfold L_X5_activeAlarmsHaveLines_2
    by_cases e : j = 32
    · rw [if_pos ((n32 (by omega)).mpr (by omega))]
    · rw [if_neg (show ¬ (32 : Int32) ≤ nI j from fun z => e (by have := (n32 (by omega)).mp z; omega)), nI_1, act_v (by omega)]
      have ih' := ih (j + 1) (by omega) (by omega)
      rcases hA.1 j (by omega) with ⟨h1, h2⟩ | ⟨i, h1, h2, h3, h4, h5, h6, h7, h8⟩
      · rw [h2, if_neg (show ¬ (0 : Int32) < 0 by decide), if_pos rfl]
        exact ih'
      · have e1 : f_X0_lineOf σ (nI j) = nI i := by
          unfold f_X0_lineOf
          rw [act_v (by omega), h4, if_pos h5, if_neg (show ¬ (1 : Int32) = 0 by decide), ni_cl (by omega), h3]
        rw [e1, isOpen_v hn hL.1 (by omega), if_pos (show i < n ∧ ¬ σ 5 i = 0 from ⟨h1, by rw [h7]; decide⟩), if_neg (show ¬ (1 : Int32) = 0 by decide), h4, if_pos h5, if_neg (show ¬ (1 : Int32) = 0 by decide)]
        exact ih'
theorem d8_v : ∀ x : Nat, x < 48 → nI x / 8 = nI (x / 8) ∧ f_X5_stepNumber (nI x) = nI (x % 8) := by decide +kernel
theorem sc_v {n : Nat} {σ : zS} (hP : rP n σ) {i : Nat} (hi : i < 6) : f_X4_stepCount σ (nI i) = σ 46 i ∧ ∃ a : Nat, a ≤ 8 ∧ σ 46 i = nI a := by
  obtain ⟨⟨p, hp1, hp2, hp3, hp4⟩, -⟩ := hP
  obtain ⟨a, b, g1, g2, g3, g4, g5, g6, g7⟩ := hp4 i hi
  refine ⟨?_, a, g2, g4⟩
  unfold f_X4_stepCount f_X4_hasProcedure
  rw [hp2, if_neg (nI_pos (by omega))]
  by_cases c : i < p
  · rw [if_neg (show ¬ nI p ≤ nI i from fun z => by have := (ni_le (by omega) (by omega)).mp z; omega), if_neg (show ¬ (6 : Int32) ≤ nI i from fun z => by have := (ni_le (a := 6) (by omega) (by omega)).mp z; omega), if_neg (show ¬ (1 : Int32) = 0 by decide), ni_cl (by omega), g3, g4]
  · rw [if_pos (show nI p ≤ nI i from (ni_le (by omega) (by omega)).mpr (by omega)), if_pos rfl, g4, g7 (by omega)]
    rfl
theorem step_v {n : Nat} {σ : zS} (hP : rP n σ) {x : Nat} (hx : x < 48) : f_X4_isStep σ (nI x) = if x % 8 < (σ 46 (x / 8)).toNatClampNeg then 1 else 0 := by
  obtain ⟨e1, a, e2, e3⟩ := sc_v hP (show x / 8 < 6 by omega)
  obtain ⟨d1, d2⟩ := d8_v x hx
  unfold f_X4_isStep
  rw [place_v hx, if_neg (show ¬ (1 : Int32) = 0 by decide), d1, d2, e1, e3, ni_cl (by omega)]
  by_cases c : x % 8 < a
  · rw [if_neg (show ¬ nI a ≤ nI (x % 8) from fun z => by have := (ni_le (by omega) (by omega)).mp z; omega), if_pos c]
  · rw [if_pos (show nI a ≤ nI (x % 8) from (ni_le (by omega) (by omega)).mpr (by omega)), if_neg c]
theorem und_v {n : Nat} {σ : zS} (hP : rP n σ) {x : Nat} (hx : x < 48) : f_X4_isUndone σ (nI x) = if x % 8 < (σ 46 (x / 8)).toNatClampNeg ∧ ¬ σ 45 x = (-1) then 1 else 0 := by
  unfold f_X4_isUndone
  rw [step_v hP hx, ni_cl (by omega), (hP.2.1 x hx).2.2.2.2.2.2.1]
  by_cases c : x % 8 < (σ 46 (x / 8)).toNatClampNeg
  · by_cases c2 : σ 45 x = (-1)
    · simp [c, c2]
    · simp [c, c2]
  · simp [c]
theorem ulo_v {n : Nat} {σ : zS} (hP : rP n σ) {x : Nat} (hx : x < 48) (h : x % 8 < (σ 46 (x / 8)).toNatClampNeg) : f_X4_undoneLineOf σ (nI x) = σ 45 x := by
  unfold f_X4_undoneLineOf
  rw [step_v hP hx, ni_cl (by omega), (hP.2.1 x hx).2.2.2.2.2.2.1, if_pos h, if_neg (show ¬ (1 : Int32) = 0 by decide)]
theorem usl_l {n : Nat} {σ : zS} (hn : n ≤ 60) (hL : rL n σ) (hP : rP n σ) : ∀ (m j : Nat), j ≤ 48 → 48 - j < m → L_X5_undoneStepsHaveLines_2 σ m (nI j) = 1 := by
  intro m
  induction m with
  | zero => intro j h1 h2; omega
  | succ m ih =>
    intro j h1 h2
    unfold L_X5_undoneStepsHaveLines_2
    by_cases e : j = 48
    · rw [if_pos ((n48 (by omega)).mpr (by omega))]
    · rw [if_neg (show ¬ (48 : Int32) ≤ nI j from fun z => e (by have := (n48 (by omega)).mp z; omega)), nI_1, und_v hP (by omega)]
      have ih' := ih (j + 1) (by omega) (by omega)
      by_cases c : j % 8 < (σ 46 (j / 8)).toNatClampNeg ∧ ¬ σ 45 j = (-1)
      · rw [if_pos c, if_neg (show ¬ (1 : Int32) = 0 by decide), ulo_v hP (by omega) c.1]
        have h := hP.2.2.1 (j / 8) (j % 8) (by omega) c.1
        rw [show 8 * (j / 8) + j % 8 = j by omega] at h
        obtain ⟨i, g1, g2, g3, -⟩ := h.resolve_left c.2
        rw [g2, isOpen_v hn hL.1 (by omega), if_pos (show i < n ∧ ¬ σ 5 i = 0 from ⟨g1, by rw [g3]; decide⟩), if_neg (show ¬ (1 : Int32) = 0 by decide)]
        exact ih'
      · rw [if_neg c, if_pos rfl]
        exact ih'
theorem sim_isSound {t : Nat} {σ : zS} (h : zR t σ) (ht : t < 512) : zI σ ∧ (f_X5_isSound σ ) = (f_X6_isSound σ ).1 ∧ zR (t + 1) (f_X6_isSound σ ).2 := by
  have hI := zR_I h
  have hT := fun c => zR_thr (c := c) h
  obtain ⟨n, hr, hn, hh, hH, hL, hA, hP, hQ, hC⟩ := h
  refine ⟨hI, ?_, hT 0⟩
  have e1 := aal_l hn hL hA 33 0 (by omega) (by omega)
  have e2 := usl_l hn hL hP 49 0 (by omega) (by omega)
  rw [nI_0] at e1 e2
  unfold f_X5_isSound f_X6_isSound f_X2_openCount f_X5_activeAlarmsHaveLines f_X5_undoneStepsHaveLines
  rw [ent_e hn hL, apa_e hL hQ, e1, e2, if_pos rfl]
  rfl
/-- the drill -/
def dB (σ : zS) (b : Int32) (x : Nat) : Int32 := if b = (-1) then nI x else if σ 44 b.toNatClampNeg ≤ σ 44 x then b else nI x
def dF (σ : zS) : Nat → Nat → Int32 → Int32
  | 0, _, b => b
  | c + 1, x, b => dF σ c (x + 1) (if x % 8 < (σ 46 (x / 8)).toNatClampNeg then dB σ b x else b)
def dV (b : Int32) : Prop := b = (-1) ∨ ∃ y : Nat, y < 48 ∧ b = nI y
theorem dB_V {σ : zS} {b : Int32} {x : Nat} (hb : dV b) (hx : x < 48) : dV (dB σ b x) := by
  unfold dB
  split
  · exact Or.inr ⟨x, hx, rfl⟩
  · split
    · exact hb
    · exact Or.inr ⟨x, hx, rfl⟩
theorem dF_V {σ : zS} : ∀ (c x : Nat) (b : Int32), dV b → x + c ≤ 48 → dV (dF σ c x b)
  | 0, _, _, hb, _ => hb
  | c + 1, x, b, hb, h => by
    unfold dF
    refine dF_V c (x + 1) _ ?_ (by omega)
    split
    · exact dB_V hb (by omega)
    · exact hb
theorem dF_add (σ : zS) : ∀ (c d x : Nat) (b : Int32), dF σ (c + d) x b = dF σ d (x + c) (dF σ c x b)
  | 0, d, x, b => by rw [Nat.zero_add]; rfl
  | c + 1, d, x, b => by
    rw [show c + 1 + d = (c + d) + 1 by omega, dF, dF_add σ c d, dF, show x + 1 + c = x + (c + 1) by omega]
theorem dF_no {σ : zS} : ∀ (c x : Nat) (b : Int32), (∀ y : Nat, x ≤ y → y < x + c → ¬ y % 8 < (σ 46 (y / 8)).toNatClampNeg) → dF σ c x b = b
  | 0, _, _, _ => rfl
  | c + 1, x, b, h => by
    rw [dF, if_neg (h x (by omega) (by omega))]
    exact dF_no c (x + 1) b (fun y h1 h2 => h y (by omega) (by omega))
theorem d5_l {n : Nat} {σ : zS} (hP : rP n σ) : ∀ (m j : Nat) (b : Int32), j ≤ 48 → 48 - j < m → dV b → L_X4_longestNotTaken_4 σ m b (nI j) = dF σ (48 - j) j b := by
  intro m
  induction m with
  | zero => intro j b h1 h2; omega
  | succ m ih =>
    intro j b h1 h2 hb
    unfold L_X4_longestNotTaken_4
    by_cases e : j = 48
    · rw [if_pos ((n48 (by omega)).mpr (by omega)), e]
      rfl
    · rw [if_neg (show ¬ (48 : Int32) ≤ nI j from fun z => e (by have := (n48 (by omega)).mp z; omega)), nI_1, step_v hP (by omega), ni_cl (by omega), show 48 - j = (48 - (j + 1)) + 1 by omega, dF]
      have ih' := fun b => ih (j + 1) b (by omega) (by omega)
      by_cases c : j % 8 < (σ 46 (j / 8)).toNatClampNeg
      · rw [if_pos c, if_neg (show ¬ (1 : Int32) = 0 by decide), if_pos c]
        unfold dB
        rcases hb with rfl | ⟨y, hy, rfl⟩
        · rw [if_pos rfl, show f_X4_isPlace (-1) = 0 by decide, if_pos rfl]
          exact ih' _ (Or.inr ⟨j, by omega, rfl⟩)
        · rw [if_neg (ni_ne (by omega)), place_v hy, if_neg (show ¬ (1 : Int32) = 0 by decide), ni_cl (by omega), (hP.2.1 y hy).2.2.2.2.2.1, (hP.2.1 j (by omega)).2.2.2.2.2.1]
          by_cases c2 : σ 44 y ≤ σ 44 j
          · rw [if_pos c2, if_pos c2]
            exact ih' _ (Or.inr ⟨y, hy, rfl⟩)
          · rw [if_neg c2, if_neg c2]
            exact ih' _ (Or.inr ⟨j, by omega, rfl⟩)
      · rw [if_neg c, if_pos rfl, if_neg c]
        exact ih' _ hb
theorem d17_l {n : Nat} {σ : zS} (hP : rP n σ) {i s : Nat} (hi : i < 6) (hs : s ≤ 8) (h46 : σ 46 i = nI s) (x1 : Int32) (K : Int32 → Int32 → Int32 × zS) : ∀ (m k : Nat) (b : Int32), k ≤ s → s - k < m → dV b →
    L_X6_drill_17 σ x1 (nI i) K m b (nI (8 * i + k)) = K (dF σ (s - k) (8 * i + k) b) (nI (i + 1)) := by
  intro m
  induction m with
  | zero => intro k b h1 h2; omega
  | succ m ih =>
    intro k b h1 h2 hb
    unfold L_X6_drill_17
    rw [ni_cl (show i < 2000000000 by omega), h46, m8_v, nI_1, nI_1]
    by_cases e : k = s
    · rw [if_pos (show nI (8 * i + s) ≤ nI (8 * i + k) from (ni_le (by omega) (by omega)).mpr (by omega)), e, Nat.sub_self]
      rfl
    · have c : (8 * i + k) % 8 < (σ 46 ((8 * i + k) / 8)).toNatClampNeg := by
        rw [show (8 * i + k) / 8 = i by omega, h46, ni_cl (by omega)]
        omega
      rw [if_neg (show ¬ nI (8 * i + s) ≤ nI (8 * i + k) from fun z => e (by have := (ni_le (by omega) (by omega)).mp z; omega)), show s - k = (s - (k + 1)) + 1 by omega, dF, if_pos c, ni_cl (by omega)]
      have ih' := fun b => ih (k + 1) b (by omega) (by omega)
      unfold dB
      rcases hb with rfl | ⟨y, hy, rfl⟩
      · rw [if_pos rfl, if_pos rfl]
        exact ih' _ (Or.inr ⟨8 * i + k, by omega, rfl⟩)
      · rw [if_neg (ni_ne (by omega)), if_neg (ni_ne (by omega)), ni_cl (show y < 2000000000 by omega)]
        by_cases c2 : σ 44 y ≤ σ 44 (8 * i + k)
        · rw [if_pos c2, if_pos c2]
          exact ih' _ (Or.inr ⟨y, hy, rfl⟩)
        · rw [if_neg c2, if_neg c2]
          exact ih' _ (Or.inr ⟨8 * i + k, by omega, rfl⟩)
theorem d6_l {n : Nat} {σ : zS} (hP : rP n σ) : ∀ (m i : Nat) (b : Int32), i ≤ 6 → (σ 29 20).toNatClampNeg - i < m → i ≤ (σ 29 20).toNatClampNeg → dV b →
    L_X6_drill_4 σ m b (nI i) = if dF σ (48 - 8 * i) (8 * i) b = (-1) then (dF σ (48 - 8 * i) (8 * i) b, zs σ 29 28 1) else (dF σ (48 - 8 * i) (8 * i) b, zs σ 29 28 0) := by
  intro m
  induction m with
  | zero => intro j b h1 h2; omega
  | succ m ih =>
    intro i b h1 h2 h3 hb
    obtain ⟨⟨p, hp1, hp2, hp3, hp4⟩, -⟩ := id hP
    rw [hp3, ni_cl (by omega)] at h2 h3 ih
    unfold L_X6_drill_4
    rw [hp3]
    by_cases e : i = p
    · have e0 : dF σ (48 - 8 * i) (8 * i) b = b := by
        refine dF_no _ _ _ (fun y h4 h5 => ?_)
        obtain ⟨a, b', g1, g2, g3, g4, g5, g6, g7⟩ := hp4 (y / 8) (by omega)
        rw [g4, g7 (by omega), ni_cl (by omega)]
        omega
      rw [if_pos (show nI p ≤ nI i from (ni_le (by omega) (by omega)).mpr (by omega)), e0]
    · obtain ⟨s, b', g1, g2, g3, g4, g5, g6, g7⟩ := hp4 i (by omega)
      have e1 : dF σ (48 - 8 * i) (8 * i) b = dF σ (48 - 8 * (i + 1)) (8 * (i + 1)) (dF σ s (8 * i) b) := by
        rw [show 48 - 8 * i = s + ((8 - s) + (48 - 8 * (i + 1))) by omega, dF_add, dF_add, dF_no (8 - s), show 8 * i + s + (8 - s) = 8 * (i + 1) by omega]
        intro y h4 h5
        rw [show y / 8 = i by omega, g4, ni_cl (by omega)]
        omega
      have e2 := d17_l hP (show i < 6 by omega) g2 g4 b (fun y1 y2 => L_X6_drill_4 σ m y1 y2) 9 0 b (by omega) (by omega) hb
      rw [if_neg (show ¬ nI p ≤ nI i from fun z => e (by have := (ni_le (by omega) (by omega)).mp z; omega)), show (8 : Int32) * nI i = nI (8 * i + 0) by rw [show (8 : Int32) = nI 8 from rfl, pk_mul]; rfl, e2, e1]
      exact ih (i + 1) _ (by omega) (by omega) (by omega) (dF_V _ _ _ hb (by omega))
theorem sim_drill {t : Nat} {σ : zS} (h : zR t σ) (ht : t < 512)  : zI (f_X5_drill σ ).2.2 ∧ f_X6_thrown (f_X6_drill (f_X5_drill σ ).2.2 ).2 = f_L_drill (f_X5_drill σ ).1 ∧ (f_L_drill (f_X5_drill σ ).1 = 0 → (f_X5_drill σ ).1 = 0 ∧ (f_X6_drill (f_X5_drill σ ).2.2 ).1 = (f_X5_drill σ ).2.1) ∧ zR (t + 1) (f_X6_drill (f_X5_drill σ ).2.2 ).2 := by
  have hI := zR_I h
  have hT := fun c => zR_thr (c := c) h
  obtain ⟨n, hr, hn, hh, hH, hL, hA, hP, hQ, hC⟩ := h
  have hp : (σ 29 20).toNatClampNeg ≤ 6 := by
    obtain ⟨⟨p, hp1, hp2, hp3, hp4⟩, -⟩ := id hP
    rw [hp3, ni_cl (by omega)]
    exact hp1
  have e5 := d5_l hP 49 0 (-1) (by omega) (by omega) (Or.inl rfl)
  have e6 := d6_l hP 7 0 (-1) (by omega) (by omega) (by omega) (Or.inl rfl)
  rw [nI_0] at e5 e6
  rw [show 48 - 8 * 0 = 48 by omega, show 8 * 0 = 0 by omega] at e6
  rw [show 48 - 0 = 48 by omega] at e5
  unfold f_X5_drill f_X6_drill f_X4_longestNotTaken f_L_drill
  by_cases c : dF σ 48 0 (-1) = (-1)
  · simp [e5, e6, c, hI, hT, thr_v]
  · simp [e5, e6, c, hI, hT, thr_v]
