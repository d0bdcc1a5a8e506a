theorem cos_l (σ : zS) (w : Int32) : ∀ (m j : Nat), j ≤ 32 → 32 - j < m → L_X0_countOnShelf_4 σ w m (nI (cnt (fun a => f_X0_isOnShelf σ (nI a) w) j)) (nI j) = nI (cnt (fun a => f_X0_isOnShelf σ (nI a) w) 32) := by
  intro m
  induction m with
  | zero => intro j h1 h2; omega
  | succ m ih =>
    intro j h1 h2
    unfold L_X0_countOnShelf_4
    by_cases e : j = 32
    · rw [if_pos ((n32 (by omega)).mpr (by omega)), e]
    · rw [if_neg (show ¬ (32 : Int32) ≤ nI j from fun z => e (by have := (n32 (by omega)).mp z; omega)), nI_1]
      by_cases c : f_X0_isOnShelf σ (nI j) w = 0
      · rw [if_pos c, ← cnt_s0 (f := fun a => f_X0_isOnShelf σ (nI a) w) c]
        exact ih (j + 1) (by omega) (by omega)
      · rw [if_neg c, nI_1, ← cnt_s1 (f := fun a => f_X0_isOnShelf σ (nI a) w) c]
        exact ih (j + 1) (by omega) (by omega)
def pen (σ : zS) (w : Int32) : Nat → Int32 := fun j => if f_X6_isShelved σ (nI j) = 0 then 0 else if w < σ 38 j then 0 else 1
theorem pas_l (σ : zS) (a : Int32) : ∀ (m j : Nat), j ≤ 32 → 32 - j < m → L_X6_pass_34 σ a m (nI (cnt (pen σ (σ 29 0 + a)) j)) (nI j) = (nI (cnt (pen σ (σ 29 0 + a)) 32), zs (zs σ 29 28 0) 29 0 (σ 29 0 + a)) := by
  intro m
  induction m with
  | zero => intro j h1 h2; omega
  | succ m ih =>
    intro j h1 h2
    unfold L_X6_pass_34
    by_cases e : j = 32
    · rw [if_pos ((n32 (by omega)).mpr (by omega)), e]
    · rw [if_neg (show ¬ (32 : Int32) ≤ nI j from fun z => e (by have := (n32 (by omega)).mp z; omega)), nI_1, shel_t, ni_cl (by omega), ni_a0]
      have ih' := ih (j + 1) (by omega) (by omega)
      by_cases c : f_X6_isShelved σ (nI j) = 0
      · have e0 : pen σ (σ 29 0 + a) j = 0 := by unfold pen; rw [if_pos c]
        rw [cnt_s0 e0] at ih'
        rw [if_pos c]
        exact ih'
      · by_cases c2 : σ 29 0 + a < σ 38 j
        · have e0 : pen σ (σ 29 0 + a) j = 0 := by unfold pen; rw [if_neg c, if_pos c2]
          rw [cnt_s0 e0] at ih'
          rw [if_neg c, if_pos c2]
          exact ih'
        · have e0 : ¬ pen σ (σ 29 0 + a) j = 0 := by unfold pen; rw [if_neg c, if_neg c2]; decide
          rw [cnt_s1 e0] at ih'
          rw [if_neg c, if_neg c2, nI_1]
          exact ih'
theorem pas_s {n h x : Nat} {σ : zS} (hn : n ≤ 60) (hb : h + x < 1000000) (hH : rH h σ) (hA : rA n σ) : ∀ k : Nat, k ≤ 32 → cnt (fun a => f_X0_isOnShelf σ (nI a) (nI h)) k = cnt (fun a => f_X0_isOnShelf σ (nI a) (nI (h + x))) k + cnt (pen σ (nI (h + x))) k
  | 0, _ => rfl
  | k + 1, hk => by
    have ih := pas_s hn hb hH hA k (by omega)
    have es := shel_e hn hH hA (show k < 32 by omega)
    rw [hH.1] at es
    have mono : nI (h + x) < σ 38 k → nI h < σ 38 k := by
      intro z
      rw [Int32.lt_iff_toInt_lt, ni_ti (by omega)] at z ⊢
      omega
    have key : (f_X0_isOnShelf σ (nI k) (nI h) = 0 ∧ f_X0_isOnShelf σ (nI k) (nI (h + x)) = 0 ∧ pen σ (nI (h + x)) k = 0) ∨ (¬ f_X0_isOnShelf σ (nI k) (nI h) = 0 ∧ ((¬ f_X0_isOnShelf σ (nI k) (nI (h + x)) = 0 ∧ pen σ (nI (h + x)) k = 0) ∨ (f_X0_isOnShelf σ (nI k) (nI (h + x)) = 0 ∧ ¬ pen σ (nI (h + x)) k = 0))) := by
      unfold pen
      rw [es]
      rcases hA.1 k (by omega) with ⟨h1, h2⟩ | ⟨i, h1, h2, h3, h4, h5, h6, h7, h8⟩
      · have e : ∀ w : Int32, f_X0_isOnShelf σ (nI k) w = 0 := fun w => by
          unfold f_X0_isOnShelf
          rw [act_v (by omega), h2, if_neg (show ¬ (0 : Int32) < 0 by decide), if_pos rfl]
        exact Or.inl ⟨e _, e _, by rw [e, if_pos rfl]⟩
      · have e : ∀ w : Int32, f_X0_isOnShelf σ (nI k) w = if σ 38 k ≤ w then 0 else 1 := fun w => by
          unfold f_X0_isOnShelf
          rw [act_v (by omega), h4, if_pos h5, if_neg i10, ni_cl (by omega), h6]
        have nl : ∀ w : Int32, ¬ σ 38 k ≤ w ↔ w < σ 38 k := fun w => by
          rw [Int32.lt_iff_toInt_lt, Int32.le_iff_toInt_le]
          omega
        rw [e, e]
        by_cases q : σ 38 k ≤ nI h
        · have q2 : σ 38 k ≤ nI (h + x) := Classical.byContradiction fun z => (nl _).mpr (mono ((nl _).mp z)) q
          rw [if_pos q, if_pos q2, if_pos rfl]
          exact Or.inl ⟨rfl, rfl, rfl⟩
        · by_cases q2 : σ 38 k ≤ nI (h + x)
          · rw [if_neg q, if_pos q2, if_neg i10, if_neg (fun z => (nl _).mpr z q2)]
            exact Or.inr ⟨i10, Or.inr ⟨rfl, i10⟩⟩
          · rw [if_neg q, if_neg q2, if_neg i10, if_pos ((nl _).mp q2)]
            exact Or.inr ⟨i10, Or.inl ⟨i10, rfl⟩⟩
    rcases key with ⟨k1, k2, k3⟩ | ⟨k1, ⟨k2, k3⟩ | ⟨k2, k3⟩⟩
    · rw [cnt_s0 (f := fun a => f_X0_isOnShelf σ (nI a) (nI h)) k1, cnt_s0 (f := fun a => f_X0_isOnShelf σ (nI a) (nI (h + x))) k2, cnt_s0 k3, ih]
    · rw [cnt_s1 (f := fun a => f_X0_isOnShelf σ (nI a) (nI h)) k1, cnt_s1 (f := fun a => f_X0_isOnShelf σ (nI a) (nI (h + x))) k2, cnt_s0 k3, ih]
      omega
    · rw [cnt_s1 (f := fun a => f_X0_isOnShelf σ (nI a) (nI h)) k1, cnt_s0 (f := fun a => f_X0_isOnShelf σ (nI a) (nI (h + x))) k2, cnt_s1 k3, ih]
      omega
