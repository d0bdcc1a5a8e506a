theorem n60 {j : Nat} (hj : j < 2000000000) : ((60 : Int32) ≤ nI j) ↔ 60 ≤ j := ni_le (a := 60) (by omega) hj
theorem n32 {j : Nat} (hj : j < 2000000000) : ((32 : Int32) ≤ nI j) ↔ 32 ≤ j := ni_le (a := 32) (by omega) hj
theorem n8 {j : Nat} (hj : j < 2000000000) : ((8 : Int32) ≤ nI j) ↔ 8 ≤ j := ni_le (a := 8) (by omega) hj
theorem n48 {j : Nat} (hj : j < 2000000000) : ((48 : Int32) ≤ nI j) ↔ 48 ≤ j := ni_le (a := 48) (by omega) hj
theorem oat_l {n : Nat} {σ : zS} (hn : n ≤ 60) (hL : rL n σ) (a : Int32) : ∀ (m j : Nat) (c : Int32), j ≤ 60 → 60 - j < m →
    (n ≤ j → L_X2_openLineAt_4 σ a m c (nI j) = (-1)) ∧ (j ≤ n → ∀ m' : Nat, n - j < m' → (L_X2_openLineAt_4 σ a m c (nI j) = (-1) ∧ L_X6_openAt_4 σ a m' c (nI j) = ((-1), zs σ 29 28 1)) ∨ ∃ i : Nat, i < n ∧ L_X2_openLineAt_4 σ a m c (nI j) = nI i ∧ L_X6_openAt_4 σ a m' c (nI j) = (nI i, zs σ 29 28 0)) := by
  intro m
  induction m with
  | zero => intro j c h1 h2; omega
  | succ m ih =>
    intro j c h1 h2
    by_cases e : j = 60
    · have e5 : L_X2_openLineAt_4 σ a (m + 1) c (nI j) = (-1) := by
        unfold L_X2_openLineAt_4
        rw [if_pos ((n60 (by omega)).mpr (by omega))]
      refine ⟨fun _ => e5, fun h3 m' hm' => Or.inl ⟨e5, ?_⟩⟩
      cases m' with
      | zero => omega
      | succ m' =>
        unfold L_X6_openAt_4
        rw [hL.2.1, if_pos ((ni_le (by omega) (by omega)).mpr (by omega))]
    · have e5 : L_X2_openLineAt_4 σ a (m + 1) c (nI j) = if j < n ∧ ¬ σ 5 j = 0 then (if c = a then nI j else L_X2_openLineAt_4 σ a m (c + 1) (nI (j + 1))) else L_X2_openLineAt_4 σ a m c (nI (j + 1)) := by
        rw [L_X2_openLineAt_4, if_neg (fun z => e (by have := (n60 (by omega)).mp z; omega)), isOpen_v hn hL.1 (by omega), nI_1]
        by_cases q : j < n ∧ ¬ σ 5 j = 0
        · rw [if_pos q, if_neg (by decide), if_pos q]
        · rw [if_neg q, if_pos rfl, if_neg q]
      refine ⟨fun h3 => ?_, fun h3 m' hm' => ?_⟩
      · rw [e5, if_neg (by omega)]
        exact (ih (j + 1) c (by omega) (by omega)).1 (by omega)
      · cases m' with
        | zero => omega
        | succ m' =>
          by_cases e2 : j = n
          · refine Or.inl ⟨?_, ?_⟩
            · rw [e5, if_neg (by omega)]
              exact (ih (j + 1) c (by omega) (by omega)).1 (by omega)
            · unfold L_X6_openAt_4
              rw [hL.2.1, if_pos ((ni_le (by omega) (by omega)).mpr (by omega))]
          · have e6 : L_X6_openAt_4 σ a (m' + 1) c (nI j) = if σ 5 j = 0 then L_X6_openAt_4 σ a m' c (nI (j + 1)) else if c = a then (nI j, zs σ 29 28 0) else L_X6_openAt_4 σ a m' (c + 1) (nI (j + 1)) := by
              rw [L_X6_openAt_4, hL.2.1, if_neg (show ¬ nI n ≤ nI j from fun z => e2 (by have := (ni_le (by omega) (by omega)).mp z; omega)), ni_cl (by omega), ← (hL.2.2.2.2.1 j (by omega)).2.2.1, nI_1, ni_a0]
            rw [e5, e6]
            by_cases q : σ 5 j = 0
            · rw [if_neg (show ¬ (j < n ∧ ¬ σ 5 j = 0) from fun z => z.2 q), if_pos q]
              exact (ih (j + 1) c (by omega) (by omega)).2 (by omega) m' (by omega)
            · rw [if_pos (show j < n ∧ ¬ σ 5 j = 0 from ⟨by omega, q⟩), if_neg q]
              by_cases q2 : c = a
              · rw [if_pos q2, if_pos q2]
                exact Or.inr ⟨j, by omega, rfl, rfl⟩
              · rw [if_neg q2, if_neg q2]
                exact (ih (j + 1) (c + 1) (by omega) (by omega)).2 (by omega) m' (by omega)
theorem sim_openAt {t : Nat} {σ : zS} (h : zR t σ) (ht : t < 512) (a1 : Int32) : zI (f_X5_openAt σ a1).2.2 ∧ f_X6_thrown (f_X6_openAt (f_X5_openAt σ a1).2.2 a1).2 = f_L_openAt (f_X5_openAt σ a1).1 ∧ (f_L_openAt (f_X5_openAt σ a1).1 = 0 → (f_X5_openAt σ a1).1 = 0 ∧ (f_X6_openAt (f_X5_openAt σ a1).2.2 a1).1 = (f_X5_openAt σ a1).2.1) ∧ zR (t + 1) (f_X6_openAt (f_X5_openAt σ a1).2.2 a1).2 := by
  have hI := zR_I h
  have hT := fun c => zR_thr (c := c) h
  obtain ⟨n, hr, hn, hh, hH, hL, -⟩ := h
  unfold f_X5_openAt f_X6_openAt f_X2_openLineAt f_L_openAt
  have z := (oat_l hn hL a1 61 0 0 (by omega) (by omega)).2 (by omega) 61 (by omega)
  rw [nI_0] at z
  rcases z with ⟨h1, h2⟩ | ⟨i, hi, h1, h2⟩
  · simp [h1, h2, hI, hT, thr_v]
  · simp [h1, h2, hI, hT, thr_v, ni_ne (show i < 2000000000 by omega)]
theorem age_l {n : Nat} {σ : zS} (hn : n ≤ 60) (hL : rL n σ) (w : Int32) (hw : σ 29 0 = w) : ∀ (m j : Nat) (c : Int32), j ≤ 60 → 60 - j < m →
    (n ≤ j → L_X2_sumOfAges_4 σ w m c (nI j) = c) ∧ (j ≤ n → ∀ m' : Nat, n - j < m' → L_X6_meanAge_4 σ m' c (nI j) = (if f_X6_open σ = 0 then (FP.dconst0, zs σ 29 28 1) else (FP.ddiv (FP.i2d (L_X2_sumOfAges_4 σ w m c (nI j))) (FP.i2d (f_X6_open (zs σ 29 28 0))), zs σ 29 28 0))) := by
  intro m
  induction m with
  | zero => intro j c h1 h2; omega
  | succ m ih =>
    intro j c h1 h2
    by_cases e : j = 60
    · have e5 : L_X2_sumOfAges_4 σ w (m + 1) c (nI j) = c := by
        unfold L_X2_sumOfAges_4
        rw [if_pos ((n60 (by omega)).mpr (by omega))]
      refine ⟨fun _ => e5, fun h3 m' hm' => ?_⟩
      cases m' with
      | zero => omega
      | succ m' =>
        rw [e5, L_X6_meanAge_4, hL.2.1, if_pos ((ni_le (by omega) (by omega)).mpr (by omega))]
    · have e5 : L_X2_sumOfAges_4 σ w (m + 1) c (nI j) = if j < n ∧ ¬ σ 5 j = 0 then L_X2_sumOfAges_4 σ w m (c + (w - σ 4 j)) (nI (j + 1)) else L_X2_sumOfAges_4 σ w m c (nI (j + 1)) := by
        rw [L_X2_sumOfAges_4, if_neg (fun z => e (by have := (n60 (by omega)).mp z; omega)), isOpen_v hn hL.1 (by omega), nI_1, ni_cl (by omega)]
        by_cases q : j < n ∧ ¬ σ 5 j = 0
        · rw [if_pos q, if_neg (by decide), if_pos q]
        · rw [if_neg q, if_pos rfl, if_neg q]
      have e6 : n ≤ j → L_X2_sumOfAges_4 σ w (m + 1) c (nI j) = c := fun h3 => by
        rw [e5, if_neg (by omega)]
        exact (ih (j + 1) c (by omega) (by omega)).1 (by omega)
      refine ⟨e6, fun h3 m' hm' => ?_⟩
      cases m' with
      | zero => omega
      | succ m' =>
        by_cases e2 : j = n
        · rw [e6 (by omega), L_X6_meanAge_4, hL.2.1, if_pos ((ni_le (by omega) (by omega)).mpr (by omega))]
        · obtain ⟨-, g1, g2, -⟩ := hL.2.2.2.2.1 j (by omega)
          have e7 : L_X6_meanAge_4 σ (m' + 1) c (nI j) = if σ 5 j = 0 then L_X6_meanAge_4 σ m' c (nI (j + 1)) else L_X6_meanAge_4 σ m' (c + (w - σ 4 j)) (nI (j + 1)) := by
            rw [L_X6_meanAge_4, hL.2.1, if_neg (show ¬ nI n ≤ nI j from fun z => e2 (by have := (ni_le (by omega) (by omega)).mp z; omega)), ni_cl (by omega), ← g2, ← g1, nI_1, hw, ni_a0]
          rw [e5, e7]
          by_cases q : σ 5 j = 0
          · rw [if_neg (show ¬ (j < n ∧ ¬ σ 5 j = 0) from fun z => z.2 q), if_pos q]
            exact (ih (j + 1) c (by omega) (by omega)).2 (by omega) m' (by omega)
          · rw [if_pos (show j < n ∧ ¬ σ 5 j = 0 from ⟨by omega, q⟩), if_neg q]
            exact (ih (j + 1) _ (by omega) (by omega)).2 (by omega) m' (by omega)
theorem sim_meanAge {t : Nat} {σ : zS} (h : zR t σ) (ht : t < 512)  : zI (f_X5_meanAge σ ).2.2 ∧ f_X6_thrown (f_X6_meanAge (f_X5_meanAge σ ).2.2 ).2 = f_L_meanAge (f_X5_meanAge σ ).1 ∧ (f_L_meanAge (f_X5_meanAge σ ).1 = 0 → (f_X5_meanAge σ ).1 = 0 ∧ (f_X6_meanAge (f_X5_meanAge σ ).2.2 ).1 = (f_X5_meanAge σ ).2.1) ∧ zR (t + 1) (f_X6_meanAge (f_X5_meanAge σ ).2.2 ).2 := by
  have hI := zR_I h
  have hT := fun c => zR_thr (c := c) h
  obtain ⟨n, hr, hn, hh, hH, hL, -⟩ := h
  have e := (age_l hn hL (σ 0 6) (by rw [hH.1, hH.2.1]) 61 0 0 (by omega) (by omega)).2 (by omega) 61 (by omega)
  rw [open_t σ 0 hn hL.2.1, open_e hn hL] at e
  unfold f_X5_meanAge f_X6_meanAge f_X2_openCount f_X2_sumOfAges f_L_meanAge
  rw [show nI 0 = (0 : Int32) from rfl] at e
  by_cases c : σ 2 7 = 0
  · rw [if_pos c] at e
    simp [c, e, hI, hT, thr_v]
  · rw [if_neg c] at e
    simp only [if_neg c, e, thr_v]
    exact ⟨hI, rfl, fun _ => ⟨trivial, trivial⟩, hT 0⟩
/-- an alarm that sounds -/
theorem snd_v {n h : Nat} {σ : zS} (hn : n ≤ 60) (hH : rH h σ) (hA : rA n σ) {a : Nat} (ha : a < 32) :
    (σ 36 a = (-1) ∧ f_X0_isSounding σ (nI a) (σ 0 6) = 0 ∧ f_X0_isActive σ (nI a) = 0) ∨ (∃ i : Nat, i < n ∧ σ 36 a = nI i ∧ σ 11 a = nI i ∧ σ 10 a = σ 37 a ∧ f_X0_isActive σ (nI a) = 1) ∧ f_X0_isSounding σ (nI a) (σ 0 6) = (if f_X6_isShelved σ (nI a) = 0 then 1 else 0) := by
  rcases hA.1 a ha with ⟨h1, h2⟩ | ⟨i, h1, h2, h3, h4, h5, h6, h7, h8⟩
  · have e : f_X0_isActive σ (nI a) = 0 := by rw [act_v ha, h2, if_neg (show ¬ (0 : Int32) < 0 by decide)]
    exact Or.inl ⟨h1, by unfold f_X0_isSounding; rw [e, if_pos rfl], e⟩
  · have e : f_X0_isActive σ (nI a) = 1 := by rw [act_v ha, h4, if_pos h5]
    refine Or.inr ⟨⟨i, h1, h2, h3, h4, e⟩, ?_⟩
    unfold f_X0_isSounding
    rw [e, if_neg (by decide), shel_e hn hH hA ha]
theorem alm_l {n h : Nat} {σ : zS} (hn : n ≤ 60) (hH : rH h σ) (hA : rA n σ) (a : Int32) : ∀ (m j : Nat) (c : Int32), j ≤ 32 → 32 - j < m →
    L_X6_alarms_36 σ a m c (nI j) = (L_X0_countSounding_5 σ a (σ 0 6) m c (nI j), zs σ 29 28 0) := by
  intro m
  induction m with
  | zero => intro j c h1 h2; omega
  | succ m ih =>
    intro j c h1 h2
    unfold L_X6_alarms_36 L_X0_countSounding_5
    by_cases e : j = 32
    · rw [if_pos ((n32 (by omega)).mpr (by omega)), if_pos ((n32 (by omega)).mpr (by omega))]
    · have e32 : ¬ (32 : Int32) ≤ nI j := fun z => e (by have := (n32 (by omega)).mp z; omega)
      rw [if_neg e32, if_neg e32, ni_cl (by omega), nI_1, shel_t, ni_a0]
      have ih' := fun c => ih (j + 1) c (by omega) (by omega)
      rcases snd_v hn hH hA (show j < 32 by omega) with ⟨h1, h2, -⟩ | ⟨⟨i, g1, g2, g3, g4, -⟩, g5⟩
      · rw [if_pos h1, h2, if_pos rfl]
        exact ih' c
      · rw [g2, if_neg (ni_ne (by omega)), g5]
        by_cases q : f_X6_isShelved σ (nI j) = 0
        · rw [if_pos q, if_pos q, if_neg (show ¬ (1 : Int32) = 0 by decide), g4]
          by_cases q2 : σ 37 j < a
          · rw [if_pos q2, if_pos q2]
            exact ih' c
          · rw [if_neg q2, if_neg q2]
            exact ih' (c + 1)
        · rw [if_neg q, if_neg q, if_pos rfl]
          exact ih' c
theorem pri_c (a : Int32) : (f_X5_checkPriority a = 2 ∧ f_X6_in a.toInt64 1 5 = 0) ∨ (f_X5_checkPriority a = 0 ∧ f_X6_in a.toInt64 1 5 = 1 ∧ ∃ j : Nat, 1 ≤ j ∧ j ≤ 5 ∧ a = nI j) := by
  unfold f_X5_checkPriority
  rcases in_c a 1 5 (by decide) (by decide) with ⟨h1, h2⟩ | ⟨h1, j, h2, h3, rfl⟩
  · have e0 : (1 : Int64).toInt = 1 := by decide
    have e7 : (5 : Int64).toInt = 5 := by decide
    rw [e0, e7] at h2
    refine Or.inl ⟨?_, h1⟩
    have g1 := show (1 : Int32).toInt = 1 by decide
    have g5 := show (5 : Int32).toInt = 5 by decide
    by_cases q : a < 1
    · rw [if_pos q]
    · rw [if_neg q, if_neg]
      rw [Int32.lt_iff_toInt_lt] at q
      rw [Int32.le_iff_toInt_le]
      omega
  · have e0 : (1 : Int64).toInt = 1 := by decide
    have e7 : (5 : Int64).toInt = 5 := by decide
    rw [e0] at h2
    rw [e7] at h3
    refine Or.inr ⟨?_, h1, j, by omega, by omega, rfl⟩
    rw [show (1 : Int32) = nI 1 from rfl, show (5 : Int32) = nI 5 from rfl, if_neg (fun z => by have := (ni_lt (by omega) (by omega)).mp z; omega), if_pos ((ni_le (by omega) (by omega)).mpr (by omega))]
theorem sim_alarms {t : Nat} {σ : zS} (h : zR t σ) (ht : t < 512) (a1 : Int32) : zI (f_X5_alarms σ a1).2.2 ∧ f_X6_thrown (f_X6_alarms (f_X5_alarms σ a1).2.2 a1).2 = f_L_alarms (f_X5_alarms σ a1).1 ∧ (f_L_alarms (f_X5_alarms σ a1).1 = 0 → (f_X5_alarms σ a1).1 = 0 ∧ (f_X6_alarms (f_X5_alarms σ a1).2.2 a1).1 = (f_X5_alarms σ a1).2.1) ∧ zR (t + 1) (f_X6_alarms (f_X5_alarms σ a1).2.2 a1).2 := by
  have hI := zR_I h
  have hT := fun c => zR_thr (c := c) h
  obtain ⟨n, hr, hn, hh, hH, hL, hA, -⟩ := h
  unfold f_X5_alarms f_X6_alarms f_X0_countSounding f_L_alarms
  rcases pri_c a1 with ⟨h1, h2⟩ | ⟨h1, h2, -⟩
  · simp [h1, h2, hI, hT, thr_v]
  · have e := alm_l hn hH hA a1 33 0 0 (by omega) (by omega)
    rw [show nI 0 = (0 : Int32) from rfl] at e
    simp [h1, h2, e, hI, hT, thr_v]
theorem top_l {n h : Nat} {σ : zS} (hn : n ≤ 60) (hH : rH h σ) (hA : rA n σ) : ∀ (m j : Nat) (b : Int32), j ≤ 32 → 32 - j < m → (b = (-1) ∨ ∃ k : Nat, k < 32 ∧ b = nI k ∧ ¬ σ 36 k = (-1)) →
    (L_X0_topLine_4 σ (σ 0 6) m b (nI j) = (-1) ∧ L_X6_top_4 σ m b (nI j) = ((-1), zs σ 29 28 1)) ∨ ∃ i : Nat, i < n ∧ L_X0_topLine_4 σ (σ 0 6) m b (nI j) = nI i ∧ L_X6_top_4 σ m b (nI j) = (nI i, zs σ 29 28 0) := by
  intro m
  induction m with
  | zero => intro j b h1 h2; omega
  | succ m ih =>
    intro j b h1 h2 hb
    unfold L_X6_top_4 L_X0_topLine_4
    by_cases e : j = 32
    · rw [if_pos ((n32 (by omega)).mpr (by omega)), if_pos ((n32 (by omega)).mpr (by omega))]
      rcases hb with rfl | ⟨k, hk, rfl, hb⟩
      · rw [if_pos rfl]
        exact Or.inl ⟨by unfold f_X0_lineOf f_X0_isActive; rw [show f_X0_isAlarm (-1) = 0 by decide, if_pos rfl, if_pos rfl], rfl⟩
      · rw [if_neg (ni_ne (by omega)), ni_cl (by omega)]
        rcases snd_v hn hH hA hk with ⟨h1, -⟩ | ⟨⟨i, g1, g2, g3, g4, g6⟩, g5⟩
        · exact absurd h1 hb
        · refine Or.inr ⟨i, g1, ?_, by rw [g2]⟩
          unfold f_X0_lineOf
          rw [g6, if_neg (show ¬ (1 : Int32) = 0 by decide), ni_cl (by omega), g3]
    · have e32 : ¬ (32 : Int32) ≤ nI j := fun z => e (by have := (n32 (by omega)).mp z; omega)
      rw [if_neg e32, if_neg e32, ni_cl (by omega), nI_1]
      have ih' := fun b => ih (j + 1) b (by omega) (by omega)
      rcases snd_v hn hH hA (show j < 32 by omega) with ⟨h1, h2, -⟩ | ⟨⟨i, g1, g2, g3, g4, -⟩, g5⟩
      · rw [if_pos h1, h2, if_pos rfl]
        exact ih' b hb
      · have hj : ¬ σ 36 j = (-1) := by rw [g2]; exact ni_ne (by omega)
        rw [if_neg hj, g5]
        by_cases q : f_X6_isShelved σ (nI j) = 0
        · rw [if_pos q, if_pos q, if_neg (show ¬ (1 : Int32) = 0 by decide)]
          have ihj := ih' (nI j) (Or.inr ⟨j, by omega, rfl, hj⟩)
          rcases hb with rfl | ⟨k, hk, rfl, hb⟩
          · rw [if_pos rfl]
            have e1 : f_X0_isAhead σ (nI j) (-1) = 1 := by
              unfold f_X0_isAhead
              rw [if_pos (by decide)]
            rw [e1, if_neg (show ¬ (1 : Int32) = 0 by decide)]
            exact ihj
          · have ihk := ih' (nI k) (Or.inr ⟨k, hk, rfl, hb⟩)
            rw [if_neg (ni_ne (show k < 2000000000 by omega)), ni_cl (show k < 2000000000 by omega)]
            rcases snd_v hn hH hA hk with ⟨h1, -⟩ | ⟨⟨i', f1, f2, f3, f4, -⟩, -⟩
            · exact absurd h1 hb
            · have e1 : f_X0_isAhead σ (nI j) (nI k) = if σ 37 j = σ 37 k then (if σ 36 k ≤ σ 36 j then 0 else 1) else (if σ 37 j ≤ σ 37 k then 0 else 1) := by
                unfold f_X0_isAhead
                rw [al_v hk, al_v (show j < 32 by omega), if_neg (show ¬ (1 : Int32) = 0 by decide), if_neg (show ¬ (1 : Int32) = 0 by decide), ni_cl (by omega), ni_cl (by omega), g4, f4, g3, f3, g2, f2]
              rw [e1]
              by_cases q1 : σ 37 j = σ 37 k
              · have q2 : σ 37 j ≤ σ 37 k := by rw [q1]; exact Int32.le_refl _
                rw [if_pos q1, if_pos q2, if_pos q1]
                by_cases q3 : σ 36 k ≤ σ 36 j
                · rw [if_pos q3, if_pos q3, if_pos rfl]
                  exact ihk
                · rw [if_neg q3, if_neg q3, if_neg (show ¬ (1 : Int32) = 0 by decide)]
                  exact ihj
              · rw [if_neg q1]
                by_cases q2 : σ 37 j ≤ σ 37 k
                · rw [if_pos q2, if_pos q2, if_neg q1, if_pos rfl]
                  exact ihk
                · rw [if_neg q2, if_neg q2, if_neg (show ¬ (1 : Int32) = 0 by decide)]
                  exact ihj
        · rw [if_neg q, if_neg q, if_pos rfl]
          exact ih' b hb
theorem sim_top {t : Nat} {σ : zS} (h : zR t σ) (ht : t < 512)  : zI (f_X5_top σ ).2.2 ∧ f_X6_thrown (f_X6_top (f_X5_top σ ).2.2 ).2 = f_L_top (f_X5_top σ ).1 ∧ (f_L_top (f_X5_top σ ).1 = 0 → (f_X5_top σ ).1 = 0 ∧ (f_X6_top (f_X5_top σ ).2.2 ).1 = (f_X5_top σ ).2.1) ∧ zR (t + 1) (f_X6_top (f_X5_top σ ).2.2 ).2 := by
  have hI := zR_I h
  have hT := fun c => zR_thr (c := c) h
  obtain ⟨n, hr, hn, hh, hH, hL, hA, -⟩ := h
  have z := top_l hn hH hA 33 0 (-1) (by omega) (by omega) (Or.inl rfl)
  rw [nI_0] at z
  unfold f_X5_top f_X6_top f_X0_topLine f_L_top
  rcases z with ⟨h1, h2⟩ | ⟨i, hi, h1, h2⟩
  · simp [h1, h2, hI, hT, thr_v]
  · simp [h1, h2, hI, hT, thr_v, ni_ne (show i < 2000000000 by omega)]
theorem unit_v {u : Nat} (hu : u < 8) : f_X5_isUnit (nI u) = 1 := by
  unfold f_X5_isUnit
  rw [if_neg (nI_pos (by omega)), if_neg (show ¬ (8 : Int32) ≤ nI u from fun z => by have := (n8 (by omega)).mp z; omega)]
theorem bit_v : ∀ v : Nat, v < 256 → ∀ u : Nat, u < 8 → ((nI v &&& (1 <<< (nI u &&& 31)) = 0) ↔ ¬ ((nI v >>> (nI u &&& 31)) &&& 1 = 1)) := by decide +kernel
/-- permits: the first open one with a unit -/
theorem fow_hi {q : Nat} {σ : zS} (hq : q ≤ 8) (h3 : σ 23 3 = nI q) (w : Int32) : ∀ (m j : Nat), q ≤ j → j ≤ 8 → 8 - j < m → L_X3_firstOpenWith_2 σ w m (nI j) = (-1) := by
  intro m
  induction m with
  | zero => intro j h0 h1 h2; omega
  | succ m ih =>
    intro j h0 h1 h2
    unfold L_X3_firstOpenWith_2
    by_cases e : j = 8
    · rw [if_pos ((n8 (by omega)).mpr (by omega))]
    · have e0 : f_X3_isOpen σ (nI j) = 0 := by
        unfold f_X3_isOpen f_X3_hasPermit
        rw [h3, if_neg (nI_pos (by omega)), if_pos ((ni_le (by omega) (by omega)).mpr h0), if_pos rfl]
      rw [if_neg (fun z => e (by have := (n8 (by omega)).mp z; omega)), e0, if_pos rfl, nI_1]
      exact ih (j + 1) (by omega) (by omega) (by omega)
theorem pop_v {q : Nat} {σ : zS} (hq : q ≤ 8) (h3 : σ 23 3 = nI q) {j : Nat} (hj : j < q) : f_X3_isOpen σ (nI j) = if σ 26 j = 0 then 0 else 1 := by
  have e : f_X3_hasPermit σ (nI j) = 1 := by
    unfold f_X3_hasPermit
    rw [h3, if_neg (nI_pos (by omega)), if_neg (show ¬ nI q ≤ nI j from fun z => by have := (ni_le (by omega) (by omega)).mp z; omega), if_neg (show ¬ (8 : Int32) ≤ nI j from fun z => by have := (n8 (by omega)).mp z; omega)]
  unfold f_X3_isOpen
  rw [e, if_neg (show ¬ (1 : Int32) = 0 by decide), ni_cl (by omega)]
theorem bar_l {n : Nat} {σ : zS} (hn : n ≤ 60) (hL : rL n σ) {q : Nat} (hq : q ≤ 8) (h3 : σ 23 3 = nI q) (h4 : σ 29 23 = nI q) (hq5 : ∀ i : Nat, i < q → σ 24 i = σ 48 i ∧ (∃ u : Nat, 1 ≤ u ∧ u ≤ 255 ∧ σ 48 i = nI u) ∧ ∃ j : Nat, j < n ∧ σ 25 i = nI j ∧ σ 49 i = nI j ∧ σ 26 i = σ 5 j ∧ σ 3 j = 112) {u : Nat} (hu : u < 8) :
    ∀ (m j : Nat), j ≤ q → 8 - j < m → ∀ m' : Nat, q - j < m' → L_X6_barring_2 σ (nI u) m' (nI j) = L_X3_firstOpenWith_2 σ (1 <<< (nI u &&& 31)) m (nI j) := by
  intro m
  induction m with
  | zero => intro j h1 h2; omega
  | succ m ih =>
    intro j h1 h2 m' h5
    cases m' with
    | zero => omega
    | succ m' =>
      by_cases e : j = q
      · rw [fow_hi hq h3 _ (m + 1) j (by omega) (by omega) h2, L_X6_barring_2, h4, if_pos ((ni_le (by omega) (by omega)).mpr (by omega))]
      · obtain ⟨g1, ⟨v, g2, g3, g4⟩, i, g5, g6, g7, g8, g9⟩ := hq5 j (by omega)
        have ih' := ih (j + 1) (by omega) (by omega) m' (by omega)
        have e7 := (hL.2.2.2.2.1 i g5).2.2.1
        rw [L_X6_barring_2, L_X3_firstOpenWith_2, h4, if_neg (show ¬ nI q ≤ nI j from fun z => e (by have := (ni_le (by omega) (by omega)).mp z; omega)), if_neg (show ¬ (8 : Int32) ≤ nI j from fun z => by have := (n8 (by omega)).mp z; omega), pop_v hq h3 (by omega), nI_1, ni_cl (show j < 2000000000 by omega), g7, ni_cl (by omega), ← e7, g8, g1, g4]
        by_cases c : σ 5 i = 0
        · rw [if_pos c, if_pos c, if_pos rfl]
          exact ih'
        · rw [if_neg c, if_neg c, if_neg (show ¬ (1 : Int32) = 0 by decide)]
          have bv := bit_v v (by omega) u hu
          by_cases c2 : (nI v >>> (nI u &&& 31)) &&& 1 = 1
          · rw [if_pos c2, if_neg (fun z => (bv.mp z) c2)]
          · rw [if_neg c2, if_pos (bv.mpr c2)]
            exact ih'
theorem bar_e {n : Nat} {σ : zS} (hn : n ≤ 60) (hL : rL n σ) (hQ : rQ n σ) {u : Nat} (hu : u < 8) : f_X6_barring σ (nI u) = f_X3_firstOpenWith σ (f_X5_unitBit (nI u)) := by
  obtain ⟨hq1, q, hq2, hq3, hq4, hq5, hq6, hq7⟩ := hQ
  have hb : f_X5_unitBit (nI u) = 1 <<< (nI u &&& 31) := by
    unfold f_X5_unitBit
    rw [unit_v hu, if_neg (show ¬ (1 : Int32) = 0 by decide)]
  have h := bar_l hn hL hq2 hq3 hq4 hq5 hu 9 0 (by omega) (by omega) 9 (by omega)
  rw [nI_0] at h
  rw [hb]
  exact h
theorem bar_s {σ τ : zS} (h1 : τ 29 23 = σ 29 23) (h2 : τ 49 = σ 49) (h3 : τ 48 = σ 48) (h4 : τ 32 = σ 32) (a : Int32) : f_X6_barring τ a = f_X6_barring σ a := by
  unfold f_X6_barring
  have e : ∀ (m : Nat) (x : Int32), L_X6_barring_2 τ a m x = L_X6_barring_2 σ a m x := by
    intro m
    induction m with
    | zero => intro x; rfl
    | succ m ih =>
      intro x
      simp only [L_X6_barring_2, h1, h2, h3, h4, ih]
  exact e 9 0
theorem bar_t (σ : zS) (c a : Int32) : f_X6_barring (zs σ 29 28 c) a = f_X6_barring σ a := bar_s (zs_nf (by decide)) (zs_ne (by decide)) (zs_ne (by decide)) (zs_ne (by decide)) a
