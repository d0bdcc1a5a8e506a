theorem fow_i {q : Nat} {σ : zS} (hq : q ≤ 8) (h3 : σ 23 3 = nI q) (w : Int32) : ∀ (m j : Nat), j ≤ q → 8 - j < m → (L_X3_firstOpenWith_2 σ w m (nI j) = (-1) ↔ ∀ p : Nat, j ≤ p → p < q → σ 26 p = 0 ∨ σ 24 p &&& w = 0) := by
  intro m
  induction m with
  | zero => intro j h1 h2; omega
  | succ m ih =>
    intro j h1 h2
    by_cases e : j = q
    · rw [fow_hi hq h3 w (m + 1) j (by omega) (by omega) h2]
      exact ⟨fun _ p h4 h5 => absurd h5 (by omega), fun _ => rfl⟩
    · have ih' := ih (j + 1) (by omega) (by omega)
      rw [L_X3_firstOpenWith_2, if_neg (show ¬ (8 : Int32) ≤ nI j from fun z => by have := (n8 (by omega)).mp z; omega), pop_v hq h3 (by omega), nI_1, ni_cl (show j < 2000000000 by omega)]
      have key : (σ 26 j = 0 ∨ σ 24 j &&& w = 0) → ((∀ p : Nat, j + 1 ≤ p → p < q → σ 26 p = 0 ∨ σ 24 p &&& w = 0) ↔ ∀ p : Nat, j ≤ p → p < q → σ 26 p = 0 ∨ σ 24 p &&& w = 0) := by
        intro k
        refine ⟨fun z p h4 h5 => ?_, fun z p h4 h5 => z p (by omega) h5⟩
        by_cases e2 : p = j
        · rw [e2]
          exact k
        · exact z p (by omega) h5
      by_cases c : σ 26 j = 0
      · rw [if_pos c, if_pos rfl, ih']
        exact key (Or.inl c)
      · rw [if_neg c, if_neg i10]
        by_cases c2 : σ 24 j &&& w = 0
        · rw [if_pos c2, ih']
          exact key (Or.inr c2)
        · rw [if_neg c2]
          exact ⟨fun z => absurd z (ni_ne (by omega)), fun z => absurd (z j (Nat.le_refl _) (by omega)) (fun w => w.elim c c2)⟩
theorem fow_v {q : Nat} {σ : zS} (hq : q ≤ 8) (h3 : σ 23 3 = nI q) (w : Int32) : f_X3_firstOpenWith σ w = (-1) ↔ ∀ p : Nat, p < q → σ 26 p = 0 ∨ σ 24 p &&& w = 0 := by
  have h := fow_i hq h3 w 9 0 (by omega) (by omega)
  rw [nI_0] at h
  unfold f_X3_firstOpenWith
  rw [h]
  exact ⟨fun z p hp => z p (Nat.zero_le _) hp, fun z p _ hp => z p hp⟩
theorem tb_v : ∀ v : Nat, v < 256 → ∀ u : Nat, u < 8 → (((nI v >>> (nI u &&& 31)) &&& 1 = 1) ↔ v.testBit u = true) := by decide +kernel
theorem an_v (v w : Nat) : nI v &&& nI w = nI (v &&& w) := by
  show Int32.ofBitVec (BitVec.ofNat 32 v) &&& Int32.ofBitVec (BitVec.ofNat 32 w) = Int32.ofBitVec (BitVec.ofNat 32 (v &&& w))
  rw [BitVec.ofNat_and, Int32.ofBitVec_and]
theorem and8 {v w : Nat} (hv : v < 256) (hw : w < 256) : (nI v &&& nI w = 0) ↔ ∀ u : Nat, u < 8 → ¬ (v.testBit u = true ∧ w.testBit u = true) := by
  have hb : v &&& w < 256 := Nat.lt_of_le_of_lt Nat.and_le_left hv
  rw [an_v, show (0 : Int32) = nI 0 from rfl, ni_eq (by omega) (by omega)]
  constructor
  · intro z u hu h
    have h2 := congrArg (fun x => Nat.testBit x u) z
    simp [Nat.testBit_and, h.1, h.2] at h2
  · intro h
    apply Nat.eq_of_testBit_eq
    intro i
    rw [Nat.testBit_and, Nat.zero_testBit]
    by_cases c : i < 8
    · have := h i c
      cases hv1 : v.testBit i <;> cases hw1 : w.testBit i <;> simp_all
    · have h28 : (2 : Nat) ^ 8 ≤ 2 ^ i := Nat.pow_le_pow_right (by decide) (by omega)
      have h9 : v.testBit i = false := Nat.testBit_lt_two_pow (by omega)
      rw [h9, Bool.false_and]
theorem ub_v {u : Nat} (hu : u < 8) : f_X5_unitBit (nI u) = 1 <<< (nI u &&& 31) := by
  unfold f_X5_unitBit
  rw [unit_v hu, if_neg i10]
theorem has_i {n : Nat} {σ : zS} (hn : n ≤ 60) (hL : rL n σ) (hQ : rQ n σ) {v : Nat} (hv : v < 256) : f_X3_firstOpenWith σ (nI v) = (-1) ↔ ∀ u : Nat, u < 8 → ((nI v >>> (nI u &&& 31)) &&& 1 = 1) → f_X6_barring σ (nI u) = (-1) := by
  obtain ⟨hq1, q, hq2, hq3, hq4, hq5, hq6, hq7⟩ := id hQ
  constructor
  · intro z u hu hb
    rw [bar_e hn hL hQ hu, ub_v hu]
    refine (fow_v hq2 hq3 _).mpr (fun p hp => ?_)
    rcases (fow_v hq2 hq3 _).mp z p hp with h | h
    · exact Or.inl h
    · obtain ⟨g1, ⟨w, g2, g3, g4⟩, -⟩ := hq5 p hp
      rw [g1, g4] at h ⊢
      refine Or.inr ((bit_v w (by omega) u hu).mpr (fun z2 => ?_))
      exact (and8 (show w < 256 by omega) hv).mp h u hu ⟨(tb_v w (by omega) u hu).mp z2, (tb_v v hv u hu).mp hb⟩
  · intro z
    refine (fow_v hq2 hq3 _).mpr (fun p hp => ?_)
    by_cases c : σ 26 p = 0
    · exact Or.inl c
    · obtain ⟨g1, ⟨w, g2, g3, g4⟩, -⟩ := hq5 p hp
      refine Or.inr ?_
      rw [g1, g4]
      refine (and8 (show w < 256 by omega) hv).mpr (fun u hu h => ?_)
      have z2 := z u hu ((tb_v v hv u hu).mpr h.2)
      rw [bar_e hn hL hQ hu, ub_v hu] at z2
      have z3 := ((fow_v hq2 hq3 _).mp z2 p hp).resolve_left c
      rw [g1, g4] at z3
      exact (bit_v w (by omega) u hu).mp z3 ((tb_v w (by omega) u hu).mpr h.1)
theorem op0_l (σ : zS) (a : Int32) : ∀ (m j : Nat) (x : Int32), j ≤ 8 → 8 - j < m → L_X6_openPermit_55 σ a m x (nI j) = ((-1), zs σ 29 28 2) := by
  intro m
  induction m with
  | zero => intro j x h1 h2; omega
  | succ m ih =>
    intro j x h1 h2
    rw [L_X6_openPermit_55]
    by_cases e : j = 8
    · rw [if_pos ((n8 (by omega)).mpr (by omega))]
    · have ih' := fun x => ih (j + 1) x (by omega) (by omega)
      rw [if_neg (show ¬ (8 : Int32) ≤ nI j from fun z => e (by have := (n8 (by omega)).mp z; omega)), nI_1, ih' 0, ih' 1]
      simp only [ite_self]
theorem op1_l (σ : zS) (a : Int32) : ∀ (m j : Nat) (x : Int32), j ≤ 8 → 8 - j < m → L_X6_openPermit_55_1 σ a m x (nI j) = ((-1), zs σ 29 28 2) := by
  intro m
  induction m with
  | zero => intro j x h1 h2; omega
  | succ m ih =>
    intro j x h1 h2
    rw [L_X6_openPermit_55_1]
    by_cases e : j = 8
    · rw [if_pos ((n8 (by omega)).mpr (by omega))]
    · have ih' := fun x => ih (j + 1) x (by omega) (by omega)
      rw [if_neg (show ¬ (8 : Int32) ≤ nI j from fun z => e (by have := (n8 (by omega)).mp z; omega)), nI_1, ih' 0, ih' 1]
      simp only [ite_self]
theorem op3_l (σ : zS) (a : Int32) : ∀ (m j : Nat) (x : Int32), j ≤ 8 → 8 - j < m → L_X6_openPermit_55_3 σ a m x (nI j) = ((-1), zs σ 29 28 2) := by
  intro m
  induction m with
  | zero => intro j x h1 h2; omega
  | succ m ih =>
    intro j x h1 h2
    rw [L_X6_openPermit_55_3]
    by_cases e : j = 8
    · rw [if_pos ((n8 (by omega)).mpr (by omega))]
    · have ih' := fun x => ih (j + 1) x (by omega) (by omega)
      rw [if_neg (show ¬ (8 : Int32) ≤ nI j from fun z => e (by have := (n8 (by omega)).mp z; omega)), nI_1, ih' 0, ih' 1]
      simp only [ite_self]
def opF (σ : zS) (a1 : Int32) : Int32 × zS := (if (f_X6_tired σ ) = 0 then (((((f_X6_opens (zs (zs σ 29 28 0) 48 (σ 29 23).toNatClampNeg a1) 112).2 29 23) + 1) - 1), (zs (zs (f_X6_opens (zs (zs σ 29 28 0) 48 (σ 29 23).toNatClampNeg a1) 112).2 49 (σ 29 23).toNatClampNeg (f_X6_opens (zs (zs σ 29 28 0) 48 (σ 29 23).toNatClampNeg a1) 112).1) 29 23 (((f_X6_opens (zs (zs σ 29 28 0) 48 (σ 29 23).toNatClampNeg a1) 112).2 29 23) + 1))) else ((-1), (zs σ 29 28 3)))
theorem op2_l (σ : zS) (a : Int32) : ∀ (m j : Nat), j ≤ 8 → 8 - j < m → L_X6_openPermit_55_2 σ a m 1 (nI j) = ((-1), zs σ 29 28 3) ∧
    ((∃ u : Nat, j ≤ u ∧ u < 8 ∧ ((a >>> (nI u &&& 31)) &&& 1) = 1 ∧ ¬ f_X6_barring σ (nI u) = (-1)) → L_X6_openPermit_55_2 σ a m 0 (nI j) = ((-1), zs σ 29 28 3)) ∧
    ((∀ u : Nat, j ≤ u → u < 8 → ((a >>> (nI u &&& 31)) &&& 1) = 1 → f_X6_barring σ (nI u) = (-1)) → L_X6_openPermit_55_2 σ a m 0 (nI j) = opF σ a) := by
  intro m
  induction m with
  | zero => intro j h1 h2; omega
  | succ m ih =>
    intro j h1 h2
    by_cases e : j = 8
    · have e8 : (8 : Int32) ≤ nI j := (n8 (by omega)).mpr (by omega)
      refine ⟨?_, ?_, ?_⟩
      · rw [L_X6_openPermit_55_2, if_pos e8, if_neg i10]
      · rintro ⟨u, h3, h4, -⟩
        omega
      · intro _
        rw [L_X6_openPermit_55_2, if_pos e8, if_pos rfl, opF]
    · have e8 : ¬ (8 : Int32) ≤ nI j := fun z => e (by have := (n8 (by omega)).mp z; omega)
      obtain ⟨i1, i2, i3⟩ := ih (j + 1) (by omega) (by omega)
      have e1 : L_X6_openPermit_55_2 σ a (m + 1) 0 (nI j) = if ((a >>> (nI j &&& 31)) &&& 1) = 1 then (if f_X6_barring σ (nI j) = (-1) then L_X6_openPermit_55_2 σ a m 0 (nI (j + 1)) else L_X6_openPermit_55_2 σ a m 1 (nI (j + 1))) else L_X6_openPermit_55_2 σ a m 0 (nI (j + 1)) := by
        rw [L_X6_openPermit_55_2, if_neg e8, if_pos rfl, nI_1]
      refine ⟨?_, ?_, ?_⟩
      · rw [L_X6_openPermit_55_2, if_neg e8, if_neg i10, nI_1]
        exact i1
      · rintro ⟨u, h3, h4, h5, h6⟩
        rw [e1]
        by_cases q : u = j
        · rw [← q, if_pos h5, if_neg h6, q]
          exact i1
        · have i2' := i2 ⟨u, by omega, h4, h5, h6⟩
          rw [i1, i2']
          simp only [ite_self]
      · intro h3
        have i3' := i3 (fun u h4 h5 h6 => h3 u (by omega) h5 h6)
        rw [e1]
        by_cases c : ((a >>> (nI j &&& 31)) &&& 1) = 1
        · rw [if_pos c, if_pos (h3 j (Nat.le_refl _) (by omega) c)]
          exact i3'
        · rw [if_neg c]
          exact i3'
theorem pm_c (a : Int32) : (¬ (¬ a < 1 ∧ a ≤ 255) ∧ f_X6_in a.toInt64 1 255 = 0) ∨ (¬ a < 1 ∧ a ≤ 255 ∧ f_X6_in a.toInt64 1 255 = 1 ∧ ∃ j : Nat, 1 ≤ j ∧ j ≤ 255 ∧ a = nI j) := by
  rcases in_c a 1 255 (by decide) (by decide) with ⟨h1, h2⟩ | ⟨h1, j, h2, h3, rfl⟩
  · have e0 : (1 : Int64).toInt = 1 := by decide
    have e7 : (255 : Int64).toInt = 255 := by decide
    rw [e0, e7] at h2
    refine Or.inl ⟨?_, h1⟩
    rw [Int32.lt_iff_toInt_lt, Int32.le_iff_toInt_le]
    have g1 := show (1 : Int32).toInt = 1 by decide
    have g5 := show (255 : Int32).toInt = 255 by decide
    omega
  · have e0 : (1 : Int64).toInt = 1 := by decide
    have e7 : (255 : Int64).toInt = 255 := by decide
    rw [e0] at h2
    rw [e7] at h3
    refine Or.inr ⟨?_, ?_, h1, j, by omega, by omega, rfl⟩
    · rw [show (1 : Int32) = nI 1 from rfl, ni_lt (by omega) (by omega)]; omega
    · rw [show (255 : Int32) = nI 255 from rfl, ni_le (by omega) (by omega)]; omega
theorem papp_v {q : Nat} {τ : zS} (hq : q < 8) (h3 : τ 23 3 = nI q) (a b : Int32) : f_X3_append τ a b = (nI q, zs (zs (zs (zs τ 23 3 (nI (q + 1))) 24 q a) 25 q b) 26 q 1) := by
  have e : f_X3_hasPermit (zs τ 23 3 (nI (q + 1))) (nI q) = 1 := by
    unfold f_X3_hasPermit
    rw [zs_eq, if_neg (nI_pos (by omega)), if_neg (show ¬ nI (q + 1) ≤ nI q from fun z => by have := (ni_le (by omega) (by omega)).mp z; omega), if_neg (show ¬ (8 : Int32) ≤ nI q from fun z => by have := (n8 (by omega)).mp z; omega)]
  unfold f_X3_append
  rw [h3, nI_1, e, if_neg i10, ni_cl (by omega)]
theorem rQ_add {n q v : Nat} {σ τ : zS} (hn : n < 60) (hq : q < 8) (hv1 : 1 ≤ v) (hv2 : v ≤ 255) (hq3 : σ 23 3 = nI q) (e1 : τ 49 = upd (σ 49) q (nI n)) (e2 : τ 48 = upd (σ 48) q (nI v)) (e3 : τ 23 3 = nI (q + 1)) (e4 : τ 29 23 = nI (q + 1)) (e5 : τ 24 = upd (σ 24) q (nI v)) (e6 : τ 25 = upd (σ 25) q (nI n)) (e7 : τ 26 = upd (σ 26) q 1) (e8 : τ 5 = upd (σ 5) n 1) (e9 : τ 3 = upd (σ 3) n 112) (hf : ∀ p : Nat, p < q → σ 26 p = 0 ∨ σ 24 p &&& nI v = 0) (H : rQ n σ) : rQ (n + 1) τ := by
  unfold rQ at H ⊢
  rw [e1, e2, e3, e4, e5, e6, e7, e8, e9]
  obtain ⟨h1, q', h2, h3, h4, h6, h7, h8⟩ := H
  have hqq : q' = q := (ni_eq (by omega) (by omega)).mp (h3.symm.trans hq3)
  subst hqq
  refine ⟨fun i hi => ?_, q' + 1, by omega, rfl, rfl, fun i hi => ?_, fun i j hi hj => ?_, fun i j hi hj hij => ?_⟩
  · simp only [upd_rd]
    by_cases z : i = q'
    · rw [if_pos z]
      exact ⟨n, by omega, rfl⟩
    · rw [if_neg z]
      exact h1 i hi
  · simp only [upd_rd]
    by_cases z : i = q'
    · simp only [if_pos z]
      exact ⟨trivial, ⟨v, hv1, hv2, rfl⟩, n, by omega, rfl, rfl, (if_pos rfl).symm, if_pos rfl⟩
    · simp only [if_neg z]
      obtain ⟨g1, g2, j, g3, g4, g5, g6, g7⟩ := h6 i (by omega)
      exact ⟨g1, g2, j, by omega, g4, g5, by rw [if_neg (by omega)]; exact g6, by rw [if_neg (by omega)]; exact g7⟩
  · have lt : ∀ d : Nat, d < q' → ¬ σ 49 d = nI n := by
      intro d hd z
      obtain ⟨-, -, j, g3, -, g5, -⟩ := h6 d hd
      have := (ni_eq (by omega) (by omega)).mp (g5.symm.trans z)
      omega
    simp only [upd_rd]
    by_cases z : i = q'
    · by_cases z2 : j = q'
      · intro _
        omega
      · rw [if_pos z, if_neg z2]
        intro w
        exact absurd w.symm (lt j (by omega))
    · by_cases z2 : j = q'
      · rw [if_neg z, if_pos z2]
        intro w
        exact absurd w (lt i (by omega))
      · rw [if_neg z, if_neg z2]
        exact h7 i j (by omega) (by omega)
  · simp only [upd_rd]
    by_cases z : i = q'
    · have z2 : ¬ j = q' := by omega
      simp only [if_pos z, if_neg z2]
      intro _ w
      rcases hf j (by omega) with h | h
      · rw [h] at w
        exact absurd w (by decide)
      · rw [Int32.and_comm]
        exact h
    · by_cases z2 : j = q'
      · simp only [if_neg z, if_pos z2]
        intro w _
        rcases hf i (by omega) with h | h
        · rw [h] at w
          exact absurd w (by decide)
        · exact h
      · simp only [if_neg z, if_neg z2]
        exact h8 i j (by omega) (by omega) hij
theorem sim_openPermit {t : Nat} {σ : zS} (h : zR t σ) (ht : t < 512) (a1 : Int32) : zI (f_X5_openPermit σ a1).2.2 ∧ f_X6_thrown (f_X6_openPermit (f_X5_openPermit σ a1).2.2 a1).2 = f_L_openPermit (f_X5_openPermit σ a1).1 ∧ (f_L_openPermit (f_X5_openPermit σ a1).1 = 0 → (f_X5_openPermit σ a1).1 = 0 ∧ (f_X6_openPermit (f_X5_openPermit σ a1).2.2 a1).1 = (f_X5_openPermit σ a1).2.1) ∧ zR (t + 1) (f_X6_openPermit (f_X5_openPermit σ a1).2.2 a1).2 := by
  have hI := zR_I h
  have hT := fun c => zR_thr (c := c) h
  obtain ⟨n, hr, hn, hh, hH, hL, hA, hP, hQ, hC⟩ := h
  obtain ⟨hq1, q, hq2, hq3, hq4, hq5, hq6, hq7⟩ := id hQ
  have eA := acts_e hC
  have eT := tired_e hH hC
  unfold f_X5_openPermit f_X5_checkAtWork f_L_openPermit f_X3_isFull
  rcases pm_c a1 with ⟨g1, g2⟩ | ⟨g1, g2, g3, v, g4, g5, rfl⟩
  · have z6 : f_X6_openPermit σ a1 = ((-1), zs σ 29 28 1) := by unfold f_X6_openPermit; rw [g2, if_pos rfl]
    by_cases q1 : a1 < 1
    · simp [q1, z6, hI, hT, thr_v]
    · have q2 : ¬ a1 ≤ 255 := fun z => g1 ⟨q1, z⟩
      simp [q1, q2, z6, hI, hT, thr_v]
  · simp only [if_neg g1, if_pos g2]
    rw [full_v hn hL.1]
    by_cases k1 : f_X1_isAtWork σ = 0
    · have e := op0_l σ (nI v) 9 0 0 (by omega) (by omega)
      rw [nI_0] at e
      have z6 : f_X6_openPermit σ (nI v) = ((-1), zs σ 29 28 2) := by unfold f_X6_openPermit; rw [g3, if_neg i10, eA, if_pos k1, e]
      simp [k1, z6, hI, hT, thr_v]
    · by_cases k2 : q = 8
      · have e := op1_l σ (nI v) 9 0 0 (by omega) (by omega)
        rw [nI_0] at e
        have c5 : ¬ σ 23 3 < 8 := by rw [hq3, k2]; decide
        have c6 : σ 29 23 = 8 := by rw [hq4, k2]; rfl
        have z6 : f_X6_openPermit σ (nI v) = ((-1), zs σ 29 28 2) := by unfold f_X6_openPermit; rw [g3, if_neg i10, eA, if_neg k1, if_pos c6, e]
        simp [k1, c5, z6, hI, hT, thr_v]
      · have c5 : σ 23 3 < 8 := by rw [hq3]; exact (ni_lt (b := 8) (by omega) (by omega)).mpr (by omega)
        have c6 : ¬ σ 29 23 = 8 := by rw [hq4]; exact fun z => k2 ((ni_eq (b := 8) (by omega) (by omega)).mp z)
        by_cases k3 : n = 60
        · have e := op3_l σ (nI v) 9 0 0 (by omega) (by omega)
          rw [nI_0] at e
          have c7 : σ 29 7 = 60 := by rw [hL.2.1, k3]; rfl
          have z6 : f_X6_openPermit σ (nI v) = ((-1), zs σ 29 28 2) := by unfold f_X6_openPermit; rw [g3, if_neg i10, eA, if_neg k1, if_neg c6, if_pos c7, e]
          simp [k1, c5, k3, z6, hI, hT, thr_v]
        · have c7 : ¬ σ 29 7 = 60 := by rw [hL.2.1]; exact fun z => k3 ((n60e hn).mp z)
          have hhas := has_i hn hL hQ (show v < 256 by omega)
          have e2 := op2_l σ (nI v) 9 0 (by omega) (by omega)
          rw [nI_0] at e2
          by_cases k4 : f_X3_firstOpenWith σ (nI v) = (-1)
          · by_cases k5 : f_X1_isWeary σ (σ 0 6) = 0
            · obtain ⟨e, he, h8, hes⟩ := rL_x hn hL
              have hn' : n < 60 := by omega
              have he' : e < 120 := by omega
              have hq' : q < 8 := by omega
              simp only [if_neg k1, if_pos c5, if_neg k3, if_pos k4, if_pos k5, ↓reduceIte, openLine_v hn' hL.1 h8 he']
              rw [papp_v (q := q) hq' (by simp [zs_rd, hq3])]
              generalize hτ : zs (zs (zs (zs (zs (zs (zs (zs (zs (zs (zs σ 2 6 (nI (n + 1))) 3 n 112) 4 n (σ 0 6)) 5 n 1) 2 7 (σ 2 7 + 1)) 8 e (nI n)) 2 8 (nI (e + 1))) 23 3 (nI (q + 1))) 24 q (nI v)) 25 q (nI n)) 26 q 1 = τ
              have hhi : hi σ τ := by
                rw [← hτ]
                exact hi_zs (hi_zs (hi_zs (hi_zs (hi_zs (hi_zs (hi_zs (hi_zs (hi_zs (hi_zs (hi_zs (hi_rfl σ) (by decide)) (by decide)) (by decide)) (by decide)) (by decide)) (by decide)) (by decide)) (by decide)) (by decide)) (by decide)) (by decide)
              have h29 : τ 29 = σ 29 := hhi 29 (by decide)
              have hτI : zI τ := zI_hi hhi hI
              have ha6 : f_X6_acts τ = f_X6_acts σ := by
                unfold f_X6_acts
                rw [h29]
              have ht6 : f_X6_tired τ = f_X6_tired σ := by
                unfold f_X6_tired
                rw [h29]
              have e2' := (op2_l τ (nI v) 9 0 (by omega) (by omega)).2.2 (fun u _ hu hb => by rw [bar_s (σ := σ) (by rw [h29]) (hhi 49 (by decide)) (hhi 48 (by decide)) (hhi 32 (by decide))]; exact hhas.mp k4 u hu hb)
              rw [nI_0] at e2'
              obtain ⟨ρ, hρ⟩ : ∃ ρ : zS, ρ = zs (zs (zs (zs (zs (zs (zs (zs (zs (zs τ 29 28 0) 48 q (nI v)) 31 n 112) 32 n 1) 33 n (σ 29 0)) 34 n 0) 35 n 0) 29 7 (nI (n + 1))) 49 q (nI n)) 29 23 (nI (q + 1)) := ⟨_, rfl⟩
              have z6 : f_X6_openPermit τ (nI v) = (nI q, ρ) := by
                unfold f_X6_openPermit
                rw [g3, if_neg i10, ha6, eA, if_neg k1, h29, if_neg c6, if_neg c7, e2']
                unfold opF
                rw [ht6, eT, if_pos k5, h29, hq4, ni_cl (show q < 2000000000 by omega), opens_v hn' (show zs (zs τ 29 28 0) 48 q (nI v) 29 7 = nI n by simp [zs_rd, h29, hL.2.1])]
                have r1 : zs (zs τ 29 28 0) 48 q (nI v) 29 0 = σ 29 0 := by simp [zs_rd, h29]
                have r2 : zs (zs (zs (zs (zs (zs (zs (zs τ 29 28 0) 48 q (nI v)) 31 n 112) 32 n 1) 33 n (σ 29 0)) 34 n 0) 35 n 0) 29 7 (nI (n + 1)) 29 23 = nI q := by simp [zs_rd, h29, hq4]
                dsimp only
                rw [r1, r2, nI_1, nI_pred, hρ]
              try dsimp only
              rw [z6]
              refine ⟨hτI, ?_, fun _ => ⟨by first | rfl | trivial, by first | rfl | trivial⟩, n + 1, hr, by omega, by omega, ?_, ?_, ?_, ?_, ?_, ?_⟩
              · simp [f_X6_thrown, hρ, zs_rd]
              · refine rH_f ?_ ?_ ?_ ?_ hH <;> simp [zs_row, upd_rd, ← hτ, hρ]
              · refine rL_open (c := 112) (w := σ 0 6) hn' (by decide) h8 (by omega) ?_ ?_ ?_ ?_ ?_ ?_ ?_ ?_ ?_ ?_ ?_ ?_ ?_ ?_ ?_ hL <;> simp [zs_row, upd_rd, ← hτ, hρ, hH.1, hH.2.1]
              · refine rA_f (Nat.le_succ n) ?_ ?_ ?_ ?_ ?_ ?_ (fun i hi h1 h2 => by have q : ¬ i = n := (by omega); constructor <;> simp [zs_row, upd_rd, ← hτ, hρ, q, h1, h2]) hA <;> simp [zs_row, upd_rd, ← hτ, hρ]
              · refine rP_f (Nat.le_succ n) ?_ ?_ ?_ ?_ ?_ ?_ ?_ ?_ ?_ ?_ ?_ ?_ ?_ ?_ ?_ ?_ ?_ ?_ ?_ ?_ (fun i hi h1 h2 => by have q : ¬ i = n := (by omega); constructor <;> simp [zs_row, upd_rd, ← hτ, hρ, q, h1, h2]) hP <;> simp [zs_row, upd_rd, ← hτ, hρ]
              · refine rQ_add (q := q) (v := v) hn' hq' g4 g5 hq3 ?_ ?_ ?_ ?_ ?_ ?_ ?_ ?_ ?_ ((fow_v hq2 hq3 _).mp k4) hQ <;> simp [zs_row, upd_rd, ← hτ, hρ]
              · refine rC_f ?_ ?_ ?_ ?_ ?_ ?_ ?_ ?_ hC <;> simp [zs_row, upd_rd, ← hτ, hρ]
            · have z6 : f_X6_openPermit σ (nI v) = ((-1), zs σ 29 28 3) := by
                unfold f_X6_openPermit
                rw [g3, if_neg i10, eA, if_neg k1, if_neg c6, if_neg c7, e2.2.2 (fun u _ hu hb => hhas.mp k4 u hu hb)]
                unfold opF
                rw [eT, if_neg k5]
              simp [k1, c5, k3, k4, k5, z6, hI, hT, thr_v]
          · have hx : ∃ u : Nat, 0 ≤ u ∧ u < 8 ∧ ((nI v >>> (nI u &&& 31)) &&& 1) = 1 ∧ ¬ f_X6_barring σ (nI u) = (-1) := by
              refine Classical.byContradiction (fun z => k4 (hhas.mpr (fun u hu hb => ?_)))
              exact Classical.byContradiction (fun z2 => z ⟨u, Nat.zero_le _, hu, hb, z2⟩)
            have z6 : f_X6_openPermit σ (nI v) = ((-1), zs σ 29 28 3) := by
              unfold f_X6_openPermit
              rw [g3, if_neg i10, eA, if_neg k1, if_neg c6, if_neg c7, e2.2.1 hx]
            simp [k1, c5, k3, k4, z6, hI, hT, thr_v]
