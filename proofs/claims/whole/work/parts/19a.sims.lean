theorem zs_rd (σ : zS) (k j : Nat) (x : Int32) (k' j' : Nat) : zs σ k j x k' j' = if k' = k ∧ j' = j then x else σ k' j' := by
  by_cases h1 : k' = k
  · subst h1
    by_cases h2 : j' = j
    · subst h2
      simp [zs_eq]
    · simp [zs_nf h2, h2]
  · rw [zs_ne h1]
    simp [h1]
theorem ni_cl {n : Nat} (h : n < 2000000000) : (nI n).toNatClampNeg = n := nI_clamp (by omega)
theorem ni_ti {n : Nat} (h : n < 2000000000) : (nI n).toInt = (n : Int) := nI_toInt (by omega)
theorem ni_eq {a b : Nat} (ha : a < 2000000000) (hb : b < 2000000000) : nI a = nI b ↔ a = b := nI_eq (by omega) (by omega)
theorem ni_le {a b : Nat} (ha : a < 2000000000) (hb : b < 2000000000) : nI a ≤ nI b ↔ a ≤ b := nI_leI (by omega) (by omega)
theorem ni_lt {a b : Nat} (ha : a < 2000000000) (hb : b < 2000000000) : nI a < nI b ↔ a < b := nI_ltI (by omega) (by omega)
theorem ni_ne {n : Nat} (h : n < 2000000000) : ¬ nI n = (-1) := by
  intro e
  have h1 : (nI n).toInt = (-1 : Int32).toInt := congrArg _ e
  rw [ni_ti h] at h1
  have h2 : (-1 : Int32).toInt = -1 := by decide
  omega
theorem ni_ex {a : Int32} {lo hi : Int} (h0 : 0 ≤ lo) (h1 : lo ≤ a.toInt) (h2 : a.toInt ≤ hi) (h3 : hi < 2000000000) : ∃ j : Nat, lo ≤ j ∧ j ≤ hi ∧ a = nI j := by
  refine ⟨a.toInt.toNat, by omega, by omega, ?_⟩
  rw [← Int32.toInt_inj, ni_ti (by omega)]
  omega
theorem in_v (a b c : Int64) : f_X6_in a b c = if b.toInt ≤ a.toInt ∧ a.toInt ≤ c.toInt then 1 else 0 := by
  unfold f_X6_in
  obtain ⟨h1, -, -, -⟩ := zlc a b
  obtain ⟨-, -, h3, -⟩ := zlc a c
  simp only [h1, h3]
  by_cases h4 : a.toInt < b.toInt
  · rw [if_pos h4, if_neg (by omega)]
  · rw [if_neg h4]
    by_cases h5 : c.toInt < a.toInt
    · rw [if_pos h5, if_neg (by omega)]
    · rw [if_neg h5, if_pos (by omega)]
/-- an int between two numbers, or not -/
theorem in_c (a : Int32) (lo hi : Int64) (h0 : 0 ≤ lo.toInt) (h3 : hi.toInt < 2000000000) : (f_X6_in a.toInt64 lo hi = 0 ∧ ¬ (lo.toInt ≤ a.toInt ∧ a.toInt ≤ hi.toInt)) ∨ (f_X6_in a.toInt64 lo hi = 1 ∧ ∃ j : Nat, lo.toInt ≤ j ∧ j ≤ hi.toInt ∧ a = nI j) := by
  rw [in_v, zi64]
  by_cases h : lo.toInt ≤ a.toInt ∧ a.toInt ≤ hi.toInt
  · rw [if_pos h]
    exact Or.inr ⟨rfl, ni_ex h0 h.1 h.2 h3⟩
  · rw [if_neg h]
    exact Or.inl ⟨rfl, h⟩
theorem unit_c (a : Int32) : (f_X5_isUnit a = 0 ∧ f_X6_isUnit a = 0) ∨ ∃ u : Nat, u < 8 ∧ a = nI u ∧ f_X5_isUnit a = 1 ∧ f_X6_isUnit a = 1 := by
  unfold f_X5_isUnit f_X6_isUnit
  rcases in_c a 0 7 (by decide) (by decide) with ⟨h1, h2⟩ | ⟨h1, j, h2, h3, rfl⟩
  · have e0 : (0 : Int64).toInt = 0 := by decide
    have e7 : (7 : Int64).toInt = 7 := by decide
    rw [e0, e7] at h2
    refine Or.inl ⟨?_, h1⟩
    by_cases q : a < 0
    · rw [if_pos q]
    · rw [if_neg q, if_pos]
      rw [Int32.lt_iff_toInt_lt] at q
      rw [Int32.le_iff_toInt_le]
      have := show (8 : Int32).toInt = 8 by decide
      have := show (0 : Int32).toInt = 0 by decide
      omega
  · have e7 : (7 : Int64).toInt = 7 := by decide
    rw [e7] at h3
    refine Or.inr ⟨j, by omega, rfl, ?_, h1⟩
    rw [if_neg (nI_pos (by omega)), if_neg]
    rw [show (8 : Int32) = nI 8 from rfl, ni_le (by omega) (by omega)]
    omega
theorem crew_c (a : Int32) : (f_X5_isCrew a = 0 ∧ f_X6_isCrew a = 0) ∨ ∃ u : Nat, u < 4 ∧ a = nI u ∧ f_X5_isCrew a = 1 ∧ f_X6_isCrew a = 1 := by
  unfold f_X5_isCrew f_X6_isCrew
  rcases in_c a 0 3 (by decide) (by decide) with ⟨h1, h2⟩ | ⟨h1, j, h2, h3, rfl⟩
  · have e0 : (0 : Int64).toInt = 0 := by decide
    have e7 : (3 : Int64).toInt = 3 := by decide
    rw [e0, e7] at h2
    refine Or.inl ⟨?_, h1⟩
    by_cases q : a < 0
    · rw [if_pos q]
    · rw [if_neg q, if_pos]
      rw [Int32.lt_iff_toInt_lt] at q
      rw [Int32.le_iff_toInt_le]
      have := show (4 : Int32).toInt = 4 by decide
      have := show (0 : Int32).toInt = 0 by decide
      omega
  · have e7 : (3 : Int64).toInt = 3 := by decide
    rw [e7] at h3
    refine Or.inr ⟨j, by omega, rfl, ?_, h1⟩
    rw [if_neg (nI_pos (by omega)), if_neg]
    rw [show (4 : Int32) = nI 4 from rfl, ni_le (by omega) (by omega)]
    omega
/-- below a count that both systems hold -/
theorem below_c (a : Int32) {m N : Nat} (hm : m ≤ N) (hN : N < 100) : ((if a < 0 then (0 : Int32) else (if nI m ≤ a then 0 else (if nI N ≤ a then 0 else 1))) = 0 ∧ f_X6_in a.toInt64 0 (nI m - 1).toInt64 = 0) ∨
    ∃ j : Nat, j < m ∧ a = nI j ∧ (if a < 0 then (0 : Int32) else (if nI m ≤ a then 0 else (if nI N ≤ a then 0 else 1))) = 1 ∧ f_X6_in a.toInt64 0 (nI m - 1).toInt64 = 1 := by
  have e0 : (0 : Int64).toInt = 0 := by decide
  have e1 : (nI m - 1).toInt64.toInt = (m : Int) - 1 := by
    rw [zi64]
    cases m with
    | zero => decide
    | succ k => rw [nI_pred, ni_ti (by omega)]; omega
  rcases in_c a 0 (nI m - 1).toInt64 (by decide) (by omega) with ⟨h1, h2⟩ | ⟨h1, j, h2, h3, rfl⟩
  · rw [e0, e1] at h2
    refine Or.inl ⟨?_, h1⟩
    by_cases q : a < 0
    · rw [if_pos q]
    · rw [if_neg q, if_pos]
      rw [Int32.lt_iff_toInt_lt] at q
      rw [Int32.le_iff_toInt_le, ni_ti (by omega)]
      have := show (0 : Int32).toInt = 0 by decide
      omega
  · rw [e1] at h3
    refine Or.inr ⟨j, by omega, rfl, ?_, h1⟩
    rw [if_neg (nI_pos (by omega)), if_neg, if_neg]
    · rw [ni_le (by omega) (by omega)]
      omega
    · rw [ni_le (by omega) (by omega)]
      omega
theorem line_c {n : Nat} {σ : zS} (hn : n ≤ 60) (h1 : σ 2 6 = nI n) (h2 : σ 29 7 = nI n) (a : Int32) : (f_X2_hasLine σ a = 0 ∧ f_X6_isLine σ a = 0) ∨ ∃ j : Nat, j < n ∧ a = nI j ∧ f_X2_hasLine σ a = 1 ∧ f_X6_isLine σ a = 1 := by
  unfold f_X2_hasLine f_X6_isLine
  rw [h1, h2]
  exact below_c (N := 60) a hn (by omega)
theorem proc_c {p : Nat} {σ : zS} (hn : p ≤ 6) (h1 : σ 13 9 = nI p) (h2 : σ 29 20 = nI p) (a : Int32) : (f_X4_hasProcedure σ a = 0 ∧ f_X6_isProcedure σ a = 0) ∨ ∃ j : Nat, j < p ∧ a = nI j ∧ f_X4_hasProcedure σ a = 1 ∧ f_X6_isProcedure σ a = 1 := by
  unfold f_X4_hasProcedure f_X6_isProcedure
  rw [h1, h2]
  exact below_c (N := 6) a hn (by omega)
theorem perm_c {q : Nat} {σ : zS} (hn : q ≤ 8) (h1 : σ 23 3 = nI q) (h2 : σ 29 23 = nI q) (a : Int32) : (f_X3_hasPermit σ a = 0 ∧ f_X6_isPermit σ a = 0) ∨ ∃ j : Nat, j < q ∧ a = nI j ∧ f_X3_hasPermit σ a = 1 ∧ f_X6_isPermit σ a = 1 := by
  unfold f_X3_hasPermit f_X6_isPermit
  rw [h1, h2]
  exact below_c (N := 8) a hn (by omega)
/-- the X5 side alone -/
theorem hasLine_v {n : Nat} {σ : zS} (hn : n ≤ 60) (h1 : σ 2 6 = nI n) {j : Nat} (hj : j < 1000) : f_X2_hasLine σ (nI j) = if j < n then 1 else 0 := by
  unfold f_X2_hasLine
  rw [h1, if_neg (nI_pos (by omega))]
  by_cases q : j < n
  · rw [if_pos q, if_neg, if_neg]
    · rw [show (60 : Int32) = nI 60 from rfl, ni_le (by omega) (by omega)]
      omega
    · rw [ni_le (by omega) (by omega)]
      omega
  · rw [if_neg q, if_pos]
    rw [ni_le (by omega) (by omega)]
    omega
theorem isOpen_v {n : Nat} {σ : zS} (hn : n ≤ 60) (h1 : σ 2 6 = nI n) {j : Nat} (hj : j < 1000) : f_X2_isOpen σ (nI j) = if j < n ∧ ¬ σ 5 j = 0 then 1 else 0 := by
  unfold f_X2_isOpen
  rw [hasLine_v hn h1 hj, ni_cl (by omega)]
  by_cases q : j < n
  · by_cases q2 : σ 5 j = 0
    · simp [q, q2]
    · simp [q, q2]
  · simp [q]
theorem al_c (a b : Int32) : (f_X5_checkAlarm a b = 1 ∧ ∀ σ : zS, f_X6_isAlarm σ a b = 0) ∨ ∃ j : Nat, j < 32 ∧ (4 * a) + b = nI j ∧ f_X5_alarmOf a b = nI j ∧ f_X5_checkAlarm a b = 0 ∧ (∀ σ : zS, f_X6_isAlarm σ a b = 1) ∧ f_X0_isAlarm (nI j) = 1 := by
  unfold f_X5_checkAlarm f_X5_checkUnit f_X5_alarmOf f_X6_isAlarm
  rcases unit_c a with ⟨h1, h2⟩ | ⟨u, hu, rfl, h1, h2⟩
  · exact Or.inl ⟨by simp [h1], fun σ => by simp [h2]⟩
  · rcases in_c b 0 3 (by decide) (by decide) with ⟨h3, h4⟩ | ⟨h3, j, h4, h5, rfl⟩
    · have e0 : (0 : Int64).toInt = 0 := by decide
      have e7 : (3 : Int64).toInt = 3 := by decide
      rw [e0, e7] at h4
      refine Or.inl ⟨?_, fun σ => by simp [h2, h3]⟩
      by_cases q : b < 0
      · simp [h1, q]
      · have q4 : ¬ b < 4 := by
          rw [Int32.lt_iff_toInt_lt] at q ⊢
          have := show (0 : Int32).toInt = 0 by decide
          have := show (4 : Int32).toInt = 4 by decide
          omega
        simp [h1, q, q4]
    · have e7 : (3 : Int64).toInt = 3 := by decide
      rw [e7] at h5
      have q : ¬ nI j < 0 := nI_pos (by omega)
      have q4 : nI j < 4 := by
        rw [show (4 : Int32) = nI 4 from rfl, ni_lt (by omega) (by omega)]
        omega
      refine Or.inr ⟨4 * u + j, by omega, ?_, ?_, by simp [h1, q, q4], fun σ => by simp [h2, h3], ?_⟩
      · rw [show (4 : Int32) = nI 4 from rfl, pk_mul, nI_add]
      · rw [show (4 : Int32) = nI 4 from rfl, pk_mul, nI_add, show u * 4 + j = 4 * u + j by omega]
      · unfold f_X0_isAlarm
        rw [if_neg (nI_pos (by omega)), if_neg]
        rw [show (32 : Int32) = nI 32 from rfl, ni_le (by omega) (by omega)]
        omega
theorem al_v {j : Nat} (hj : j < 32) : f_X0_isAlarm (nI j) = 1 := by
  unfold f_X0_isAlarm
  rw [if_neg (nI_pos (by omega)), if_neg]
  rw [show (32 : Int32) = nI 32 from rfl, ni_le (by omega) (by omega)]
  omega
theorem act_v {σ : zS} {j : Nat} (hj : j < 32) : f_X0_isActive σ (nI j) = if 0 < σ 10 j then 1 else 0 := by
  unfold f_X0_isActive
  rw [al_v hj, ni_cl (by omega)]
  simp only [Int32.lt_iff_toInt_lt, Int32.le_iff_toInt_le]
  by_cases q : (0 : Int32).toInt < (σ 10 j).toInt
  · rw [if_neg (by decide), if_pos q, if_neg (by omega)]
  · rw [if_neg (by decide), if_neg q, if_pos (by omega)]
/-- rows 29.. as before -/
def hi (σ τ : zS) : Prop := ∀ k : Nat, 29 ≤ k → τ k = σ k
theorem hi_rfl (σ : zS) : hi σ σ := fun _ _ => rfl
theorem hi_zs {σ τ : zS} {k j : Nat} {x : Int32} (h : hi σ τ) (hk : k < 29) : hi σ (zs τ k j x) := fun a ha => by
  rw [zs_ne (by omega)]
  exact h a ha
theorem hi_tr {σ τ ρ : zS} (h : hi σ τ) (h2 : hi τ ρ) : hi σ ρ := fun a ha => (h2 a ha).trans (h a ha)
theorem zI_hi {σ τ : zS} (h : hi σ τ) (hI : zI σ) : zI τ := by
  unfold zI at hI ⊢
  rw [h 29 (by decide), h 46 (by decide), h 47 (by decide), h 39 (by decide), h 41 (by decide), h 36 (by decide), h 45 (by decide), h 49 (by decide), h 31 (by decide)]
  exact hI
theorem zR_I {t : Nat} {σ : zS} (hR : zR t σ) : zI σ := by
  obtain ⟨n, h, hn, hh, hH, hL, hA, hP, hQ, hC⟩ := hR
  obtain ⟨⟨p, hp1, hp2, hp3, hp4⟩, hp5, hp6, hp7⟩ := hP
  obtain ⟨hq1, q, hq2, hq3, hq4, hq5, hq6, hq7⟩ := hQ
  obtain ⟨hc1, hc2, hc3, hc4, hc5, hc6, hc7, hc8, hc9⟩ := hC
  refine ⟨⟨n, hn, hL.2.1⟩, ⟨p, hp1, hp3⟩, ⟨q, hq2, hq4⟩, fun j hj => ?_, fun j hj => (hp5 j hj).2.2.2.2.2.2.2.1, fun j hj => (hp5 j hj).2.2.2.2.2.2.2.2.1, fun j hj => ?_, fun j hj => (hp5 j hj).2.2.2.2.2.2.2.2.2, hq1, hL.2.2.2.1, fun h6 => ?_⟩
  · obtain ⟨a, b, h1, h2, h3, h4, h5, h6, h7⟩ := hp4 j hj
    exact ⟨a, b, h1, h2, h4, h6⟩
  · rcases hA.1 j hj with ⟨h1, h2⟩ | ⟨i, h1, h2, h3⟩
    · exact Or.inl h1
    · exact Or.inr ⟨i, by omega, h2⟩
  · exact hc5.resolve_left (hc6.resolve_left h6).1
theorem zR_later {t t' : Nat} {σ : zS} (hR : zR t σ) (h : t ≤ t') : zR t' σ := by
  obtain ⟨n, k, hn, hh, hr⟩ := hR
  exact ⟨n, k, hn, by omega, hr⟩
/-- thrown set -/
theorem zR_thr {t : Nat} {σ : zS} {c : Int32} (hR : zR t σ) : zR (t + 1) (zs σ 29 28 c) := by
  obtain ⟨n, h, hn, hh, hH, hL, hA, hP, hQ, hC⟩ := zR_later hR (Nat.le_succ t)
  have e : ∀ k : Nat, k ≠ 29 → zs σ 29 28 c k = σ k := fun k hk => zs_ne hk
  have f : ∀ j : Nat, j ≠ 28 → zs σ 29 28 c 29 j = σ 29 j := fun k hk => zs_nf hk
  refine ⟨n, h, hn, hh, ?_, ?_, ?_, ?_, ?_, ?_⟩
  · unfold rH at hH ⊢
    rw [e 0 (by decide), e 1 (by decide), e 30 (by decide), f 0 (by decide)]
    exact hH
  · unfold rL at hL ⊢
    rw [e 2 (by decide), e 3 (by decide), e 4 (by decide), e 5 (by decide), e 6 (by decide), e 7 (by decide), e 8 (by decide), e 31 (by decide), e 32 (by decide), e 33 (by decide), e 34 (by decide), e 35 (by decide), f 7 (by decide)]
    exact hL
  · unfold rA at hA ⊢
    rw [e 36 (by decide), e 10 (by decide), e 11 (by decide), e 37 (by decide), e 12 (by decide), e 38 (by decide), e 5 (by decide), e 3 (by decide)]
    exact hA
  · unfold rP at hP ⊢
    rw [e 13 (by decide), e 14 (by decide), e 15 (by decide), e 16 (by decide), e 17 (by decide), e 18 (by decide), e 19 (by decide), e 20 (by decide), e 21 (by decide), e 22 (by decide), e 39 (by decide), e 40 (by decide), e 41 (by decide), e 42 (by decide), e 43 (by decide), e 44 (by decide), e 45 (by decide), e 46 (by decide), e 47 (by decide), e 5 (by decide), e 3 (by decide), f 20 (by decide)]
    exact hP
  · unfold rQ at hQ ⊢
    rw [e 49 (by decide), e 48 (by decide), e 23 (by decide), e 24 (by decide), e 25 (by decide), e 26 (by decide), e 5 (by decide), e 3 (by decide), f 23 (by decide)]
    exact hQ
  · unfold rC at hC ⊢
    rw [e 27 (by decide), e 28 (by decide), e 50 (by decide), f 24 (by decide), f 26 (by decide), f 25 (by decide)]
    exact hC
theorem thr_v (σ : zS) (c : Int32) : f_X6_thrown (zs σ 29 28 c) = c := zs_eq
/-- readers of the states -/
theorem sim_state {t : Nat} {σ : zS} (h : zR t σ) (ht : t < 512) (a1 : Int32) : zI (f_X5_state σ a1).2.2 ∧ f_X6_thrown (f_X6_state (f_X5_state σ a1).2.2 a1).2 = f_L_state (f_X5_state σ a1).1 ∧ (f_L_state (f_X5_state σ a1).1 = 0 → (f_X5_state σ a1).1 = 0 ∧ (f_X6_state (f_X5_state σ a1).2.2 a1).1 = (f_X5_state σ a1).2.1) ∧ zR (t + 1) (f_X6_state (f_X5_state σ a1).2.2 a1).2 := by
  have hI := zR_I h
  have hT := fun c => zR_thr (c := c) h
  obtain ⟨n, hr, hn, hh, hH, -⟩ := h
  unfold f_X5_state f_X6_state f_X5_checkUnit f_X5_stateOf f_L_state
  rcases unit_c a1 with ⟨h1, h2⟩ | ⟨u, hu, rfl, h1, h2⟩
  · simp [h1, h2, hI, hT, thr_v]
  · simp [h1, h2, hI, hT, thr_v, ni_cl (show u < 2000000000 by omega), hH.2.2 u hu]
theorem sim_hour {t : Nat} {σ : zS} (h : zR t σ) (ht : t < 512) : zI σ ∧ (f_X5_hour σ ) = (f_X6_hour σ ).1 ∧ zR (t + 1) (f_X6_hour σ ).2 := by
  obtain ⟨n, hr, hn, hh, hH, -⟩ := id h
  refine ⟨zR_I h, ?_, zR_thr h⟩
  unfold f_X5_hour f_X6_hour
  rw [hH.1, hH.2.1]
theorem sim_onDuty {t : Nat} {σ : zS} (h : zR t σ) (ht : t < 512)  : zI (f_X5_onDuty σ ).2.2 ∧ f_X6_thrown (f_X6_onDuty (f_X5_onDuty σ ).2.2 ).2 = f_L_onDuty (f_X5_onDuty σ ).1 ∧ (f_L_onDuty (f_X5_onDuty σ ).1 = 0 → (f_X5_onDuty σ ).1 = 0 ∧ (f_X6_onDuty (f_X5_onDuty σ ).2.2 ).1 = (f_X5_onDuty σ ).2.1) ∧ zR (t + 1) (f_X6_onDuty (f_X5_onDuty σ ).2.2 ).2 := by
  have hI := zR_I h
  have hT := fun c => zR_thr (c := c) h
  obtain ⟨n, hr, hn, hh, hH, hL, hA, hP, hQ, hC⟩ := h
  unfold f_X5_onDuty f_X6_onDuty f_X1_crewOnDuty f_L_onDuty
  rw [hC.1]
  by_cases c : σ 29 24 = (-1)
  · simp [c, hI, hT, thr_v]
  · simp [c, hI, hT, thr_v]
theorem tired_t (σ : zS) (c : Int32) : f_X6_tired (zs σ 29 28 c) = f_X6_tired σ := by simp [f_X6_tired, zs_rd]
theorem acts_t (σ : zS) (c : Int32) : f_X6_acts (zs σ 29 28 c) = f_X6_acts σ := by simp [f_X6_acts, zs_rd]
theorem rest_t (σ : zS) (c : Int32) (a : Int32) : f_X6_restOf (zs σ 29 28 c) a = f_X6_restOf σ a := by simp [f_X6_restOf, zs_rd]
theorem shel_t (σ : zS) (c : Int32) (a : Int32) : f_X6_isShelved (zs σ 29 28 c) a = f_X6_isShelved σ a := by simp [f_X6_isShelved, zs_rd]
theorem tired_e {h : Nat} {σ : zS} (hH : rH h σ) (hC : rC h σ) : f_X6_tired σ = f_X1_isWeary σ (σ 0 6) := by
  unfold f_X6_tired f_X1_isWeary
  rw [hC.1, hH.1, hH.2.1, hC.2.2.1]
theorem acts_e {h : Nat} {σ : zS} (hC : rC h σ) : f_X6_acts σ = f_X1_isAtWork σ := by
  unfold f_X6_acts f_X1_isAtWork
  rw [hC.1, hC.2.1]
theorem sim_isTired {t : Nat} {σ : zS} (h : zR t σ) (ht : t < 512) : zI σ ∧ (f_X5_isTired σ ) = (f_X6_isTired σ ).1 ∧ zR (t + 1) (f_X6_isTired σ ).2 := by
  have hI := zR_I h
  have hT := fun c => zR_thr (c := c) h
  obtain ⟨n, hr, hn, hh, hH, hL, hA, hP, hQ, hC⟩ := h
  refine ⟨hI, ?_, hT 0⟩
  unfold f_X5_isTired f_X6_isTired
  rw [tired_t, tired_e hH hC]
theorem rest_e {h : Nat} {σ : zS} (hh : h < 100000) (hH : rH h σ) (hC : rC h σ) {u : Nat} (hu : u < 4) : f_X6_restOf σ (nI u) = f_X1_restOf σ (nI u) (σ 0 6) := by
  have hc : f_X5_isCrew (nI u) = 1 := by
    rcases crew_c (nI u) with ⟨h1, h2⟩ | ⟨_, _, _, h1, h2⟩
    · unfold f_X5_isCrew at h1
      rw [if_neg (nI_pos (by omega)), if_neg] at h1
      · exact absurd h1 (by decide)
      · rw [show (4 : Int32) = nI 4 from rfl, ni_le (by omega) (by omega)]
        omega
    · exact h1
  unfold f_X6_restOf f_X1_restOf
  rw [hc, ni_cl (by omega), hH.1, hH.2.1]
  obtain ⟨c1, c2, c3, c4, c5, c6, c7, c8, c9⟩ := hC
  rcases c7 u hu with ⟨h1, h2⟩ | ⟨e, he, h1, h2⟩
  · rw [h1, h2, if_pos rfl, if_neg (by decide), if_pos]
    exact nI_pos' (by omega)
  · rw [h1, if_neg (ni_ne (by omega)), if_neg (show ¬ (1 : Int32) = 0 by decide)]
    by_cases q : σ 29 24 = nI u
    · rw [if_pos q, if_pos (c8 u hu q)]
    · rw [if_neg q, h2, show (11 : Int32) = nI 11 from rfl, nI_add]
      have e1 : (nI (e + 11) - nI h ≤ 0) ↔ nI (e + 11) ≤ nI h := by
        rw [Int32.le_iff_toInt_le, Int32.le_iff_toInt_le, Int32.toInt_sub, ni_ti (by omega), ni_ti (by omega), Int32.toInt_zero]
        have : ((e + 11 : Nat) - (h : Int)).bmod (2 ^ 32) = (e + 11 : Nat) - (h : Int) := by
          apply Int.bmod_eq_of_le <;> omega
        rw [this]
        omega
      by_cases q2 : nI (e + 11) ≤ nI h
      · rw [if_pos (e1.mpr q2), if_pos q2]
      · rw [if_neg (fun z => q2 (e1.mp z)), if_neg q2]
theorem sim_restLeft {t : Nat} {σ : zS} (h : zR t σ) (ht : t < 512) (a1 : Int32) : zI (f_X5_restLeft σ a1).2.2 ∧ f_X6_thrown (f_X6_restLeft (f_X5_restLeft σ a1).2.2 a1).2 = f_L_restLeft (f_X5_restLeft σ a1).1 ∧ (f_L_restLeft (f_X5_restLeft σ a1).1 = 0 → (f_X5_restLeft σ a1).1 = 0 ∧ (f_X6_restLeft (f_X5_restLeft σ a1).2.2 a1).1 = (f_X5_restLeft σ a1).2.1) ∧ zR (t + 1) (f_X6_restLeft (f_X5_restLeft σ a1).2.2 a1).2 := by
  have hI := zR_I h
  have hT := fun c => zR_thr (c := c) h
  obtain ⟨n, hr, hn, hh, hH, hL, hA, hP, hQ, hC⟩ := h
  unfold f_X5_restLeft f_X6_restLeft f_X5_checkCrew f_L_restLeft
  rcases crew_c a1 with ⟨h1, h2⟩ | ⟨u, hu, rfl, h1, h2⟩
  · simp [h1, h2, hI, hT, thr_v]
  · simp [h1, h2, hI, hT, thr_v, rest_t, rest_e (by omega) hH hC hu]
theorem sim_kindOf {t : Nat} {σ : zS} (h : zR t σ) (ht : t < 512) (a1 : Int32) : zI (f_X5_kindOf σ a1).2.2 ∧ f_X6_thrown (f_X6_kindOf (f_X5_kindOf σ a1).2.2 a1).2 = f_L_kindOf (f_X5_kindOf σ a1).1 ∧ (f_L_kindOf (f_X5_kindOf σ a1).1 = 0 → (f_X5_kindOf σ a1).1 = 0 ∧ (f_X6_kindOf (f_X5_kindOf σ a1).2.2 a1).1 = (f_X5_kindOf σ a1).2.1) ∧ zR (t + 1) (f_X6_kindOf (f_X5_kindOf σ a1).2.2 a1).2 := by
  have hI := zR_I h
  have hT := fun c => zR_thr (c := c) h
  obtain ⟨n, hr, hn, hh, hH, hL, hA, hP, hQ, hC⟩ := h
  unfold f_X5_kindOf f_X6_kindOf f_X5_checkLine f_X2_kindAt f_L_kindOf
  rcases line_c hn hL.1 hL.2.1 a1 with ⟨h1, h2⟩ | ⟨u, hu, rfl, h1, h2⟩
  · simp [h1, h2, hI, hT, thr_v]
  · simp [h1, h2, hI, hT, thr_v, ni_cl (show u < 2000000000 by omega), (hL.2.2.2.2.1 u hu).1]
theorem sim_passed {t : Nat} {σ : zS} (h : zR t σ) (ht : t < 512) (a1 : Int32) : zI (f_X5_passed σ a1).2.2 ∧ f_X6_thrown (f_X6_passed (f_X5_passed σ a1).2.2 a1).2 = f_L_passed (f_X5_passed σ a1).1 ∧ (f_L_passed (f_X5_passed σ a1).1 = 0 → (f_X5_passed σ a1).1 = 0 ∧ (f_X6_passed (f_X5_passed σ a1).2.2 a1).1 = (f_X5_passed σ a1).2.1) ∧ zR (t + 1) (f_X6_passed (f_X5_passed σ a1).2.2 a1).2 := by
  have hI := zR_I h
  have hT := fun c => zR_thr (c := c) h
  obtain ⟨n, hr, hn, hh, hH, hL, hA, hP, hQ, hC⟩ := h
  unfold f_X5_passed f_X6_passed f_X5_checkLine f_X2_handOversOf f_L_passed
  rcases line_c hn hL.1 hL.2.1 a1 with ⟨h1, h2⟩ | ⟨u, hu, rfl, h1, h2⟩
  · simp [h1, h2, hI, hT, thr_v]
  · simp [h1, h2, hI, hT, thr_v, ni_cl (show u < 2000000000 by omega), (hL.2.2.2.2.1 u hu).2.2.2.2.1]
theorem sim_done {t : Nat} {σ : zS} (h : zR t σ) (ht : t < 512) (a1 : Int32) : zI (f_X5_done σ a1).2.2 ∧ f_X6_thrown (f_X6_done (f_X5_done σ a1).2.2 a1).2 = f_L_done (f_X5_done σ a1).1 ∧ (f_L_done (f_X5_done σ a1).1 = 0 → (f_X5_done σ a1).1 = 0 ∧ (f_X6_done (f_X5_done σ a1).2.2 a1).1 = (f_X5_done σ a1).2.1) ∧ zR (t + 1) (f_X6_done (f_X5_done σ a1).2.2 a1).2 := by
  have hI := zR_I h
  have hT := fun c => zR_thr (c := c) h
  obtain ⟨n, hr, hn, hh, hH, hL, hA, ⟨⟨p, hp1, hp2, hp3, hp4⟩, hp5, hp6, hp7⟩, hQ, hC⟩ := h
  unfold f_X5_done f_X6_done f_X5_checkProcedure f_X4_doneCount f_X6_asks f_L_done
  rcases proc_c hp1 hp2 hp3 a1 with ⟨h1, h2⟩ | ⟨u, hu, rfl, h1, h2⟩
  · simp [h1, h2, hI, hT, thr_v]
  · obtain ⟨a, b, g1, g2, g3, g4, g5, g6, g7⟩ := hp4 u (by omega)
    simp [h1, h2, hI, hT, thr_v, ni_cl (show u < 2000000000 by omega), g5, g6, zs_rd]
theorem sim_isPermitOpen {t : Nat} {σ : zS} (h : zR t σ) (ht : t < 512) (a1 : Int32) : zI (f_X5_isPermitOpen σ a1).2.2 ∧ f_X6_thrown (f_X6_isPermitOpen (f_X5_isPermitOpen σ a1).2.2 a1).2 = f_L_isPermitOpen (f_X5_isPermitOpen σ a1).1 ∧ (f_L_isPermitOpen (f_X5_isPermitOpen σ a1).1 = 0 → (f_X5_isPermitOpen σ a1).1 = 0 ∧ (f_X6_isPermitOpen (f_X5_isPermitOpen σ a1).2.2 a1).1 = (f_X5_isPermitOpen σ a1).2.1) ∧ zR (t + 1) (f_X6_isPermitOpen (f_X5_isPermitOpen σ a1).2.2 a1).2 := by
  have hI := zR_I h
  have hT := fun c => zR_thr (c := c) h
  obtain ⟨n, hr, hn, hh, hH, hL, hA, hP, ⟨hq1, q, hq2, hq3, hq4, hq5, hq6, hq7⟩, hC⟩ := h
  unfold f_X5_isPermitOpen f_X6_isPermitOpen f_X5_checkPermit f_X3_isOpen f_L_isPermitOpen
  rcases perm_c hq2 hq3 hq4 a1 with ⟨h1, h2⟩ | ⟨u, hu, rfl, h1, h2⟩
  · simp [h1, h2, hI, hT, thr_v]
  · obtain ⟨g1, g2, j, g3, g4, g5, g6, g7⟩ := hq5 u hu
    have e := (hL.2.2.2.2.1 j g3).2.2.1
    by_cases c : σ 5 j = 0
    · simp [h1, h2, hI, hT, thr_v, c, ni_cl (show u < 2000000000 by omega), g5, ni_cl (show j < 2000000000 by omega), g6, ← e]
    · simp [h1, h2, hI, hT, thr_v, c, ni_cl (show u < 2000000000 by omega), g5, ni_cl (show j < 2000000000 by omega), g6, ← e]
theorem shel_e {n h : Nat} {σ : zS} (hn : n ≤ 60) (hH : rH h σ) (hA : rA n σ) {a : Nat} (ha : a < 32) : f_X6_isShelved σ (nI a) = f_X0_isOnShelf σ (nI a) (σ 0 6) := by
  unfold f_X6_isShelved f_X0_isOnShelf
  rw [act_v ha, ni_cl (by omega), hH.1, hH.2.1]
  rcases hA.1 a ha with ⟨h1, h2⟩ | ⟨i, h1, h2, h3, h4, h5, h6, h7, h8⟩
  · rw [h1, h2, if_pos rfl, if_neg (show ¬ (0 : Int32) < 0 by decide), if_pos rfl]
  · rw [h2, if_neg (ni_ne (by omega)), h4, if_pos h5, h6, if_neg (show ¬ (1 : Int32) = 0 by decide)]
theorem sim_isShelved {t : Nat} {σ : zS} (h : zR t σ) (ht : t < 512) (a1 : Int32) (a2 : Int32) : zI (f_X5_isShelved σ a1 a2).2.2 ∧ f_X6_thrown (f_X6_isShelved_ (f_X5_isShelved σ a1 a2).2.2 a1 a2).2 = f_L_isShelved (f_X5_isShelved σ a1 a2).1 ∧ (f_L_isShelved (f_X5_isShelved σ a1 a2).1 = 0 → (f_X5_isShelved σ a1 a2).1 = 0 ∧ (f_X6_isShelved_ (f_X5_isShelved σ a1 a2).2.2 a1 a2).1 = (f_X5_isShelved σ a1 a2).2.1) ∧ zR (t + 1) (f_X6_isShelved_ (f_X5_isShelved σ a1 a2).2.2 a1 a2).2 := by
  have hI := zR_I h
  have hT := fun c => zR_thr (c := c) h
  obtain ⟨n, hr, hn, hh, hH, hL, hA, hP, hQ, hC⟩ := h
  unfold f_X5_isShelved f_X6_isShelved_ f_L_isShelved
  rcases al_c a1 a2 with ⟨h1, h2⟩ | ⟨a, ha, h1, h2, h3, h4, h5⟩
  · simp [h1, h2, hI, hT, thr_v]
  · have g := shel_e hn hH hA ha
    by_cases c : f_X0_isOnShelf σ (nI a) (σ 0 6) = 0
    · rw [c] at g
      simp [h1, h2, h3, h4, shel_t, g, hI, hT, thr_v, c]
    · have e : f_X0_isOnShelf σ (nI a) (σ 0 6) = 1 := by
        unfold f_X0_isOnShelf at c ⊢
        split at c
        · exact absurd rfl c
        · split at c
          · exact absurd rfl c
          · simp [*]
      rw [e] at g
      simp [h1, h2, h3, h4, shel_t, g, hI, hT, thr_v, e]
