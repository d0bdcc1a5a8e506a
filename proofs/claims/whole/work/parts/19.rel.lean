def cnt (f : Nat → Int32) : Nat → Nat
  | 0 => 0
  | n + 1 => cnt f n + (if f n = 0 then 0 else 1)
def esum (f : Nat → Int32) : Nat → Int
  | 0 => 0
  | n + 1 => esum f n + (if 0 ≤ f n then 1 else -1)
/-- hour and states -/
def rH (h : Nat) (σ : zS) : Prop := σ 0 6 = nI h ∧ σ 29 0 = nI h ∧ ∀ u : Nat, u < 8 → σ 1 u = σ 30 u
/-- lines -/
def rL (n : Nat) (σ : zS) : Prop := σ 2 6 = nI n ∧ σ 29 7 = nI n ∧ (∀ j : Nat, narrow .char (.int (σ 3 j)) = .int (σ 3 j)) ∧ (∀ j : Nat, narrow .char (.int (σ 31 j)) = .int (σ 31 j)) ∧
  (∀ j : Nat, j < n → σ 3 j = σ 31 j ∧ σ 4 j = σ 33 j ∧ σ 5 j = σ 32 j ∧ (σ 5 j = 0 ∨ σ 5 j = 1) ∧ σ 7 j = σ 34 j ∧ σ 6 j = σ 35 j ∧ (σ 6 j = 0 ∨ σ 6 j = 1)) ∧
  (∀ j : Nat, n ≤ j → j < 60 → σ 6 j = 0 ∧ σ 7 j = 0) ∧
  σ 2 7 = nI (cnt (σ 5) n) ∧ ∃ e : Nat, e + cnt (σ 5) n = 2 * n ∧ σ 2 8 = nI e ∧ esum (σ 8) e = cnt (σ 5) n
/-- alarms -/
def rA (n : Nat) (σ : zS) : Prop := (∀ a : Nat, a < 32 → (σ 36 a = (-1) ∧ σ 10 a = 0) ∨ ∃ i : Nat, i < n ∧ σ 36 a = nI i ∧ σ 11 a = nI i ∧ σ 10 a = σ 37 a ∧ 0 < σ 37 a ∧ σ 12 a = σ 38 a ∧ σ 5 i = 1 ∧ σ 3 i = 97) ∧
  ∀ a b : Nat, a < 32 → b < 32 → σ 36 a = σ 36 b → ¬ σ 36 a = (-1) → a = b
/-- procedures and steps -/
def rP (n : Nat) (σ : zS) : Prop := (∃ p : Nat, p ≤ 6 ∧ σ 13 9 = nI p ∧ σ 29 20 = nI p ∧ ∀ i : Nat, i < 6 → ∃ a b : Nat, b ≤ a ∧ a ≤ 8 ∧ σ 14 i = nI a ∧ σ 46 i = nI a ∧ σ 15 i = nI b ∧ σ 47 i = nI b ∧ (p ≤ i → a = 0)) ∧
  (∀ j : Nat, j < 48 → σ 16 j = σ 39 j ∧ σ 17 j = σ 40 j ∧ σ 18 j = σ 41 j ∧ σ 19 j = σ 42 j ∧ σ 20 j = σ 43 j ∧ σ 21 j = σ 44 j ∧ σ 22 j = σ 45 j ∧ (∃ u : Nat, u < 8 ∧ σ 39 j = nI u) ∧ (∃ u : Nat, u < 8 ∧ σ 41 j = nI u) ∧ (σ 45 j = (-1) ∨ ∃ i : Nat, i < 60 ∧ σ 45 j = nI i)) ∧
  (∀ i s : Nat, i < 6 → s < (σ 46 i).toNatClampNeg → σ 45 (8 * i + s) = (-1) ∨ ∃ j : Nat, j < n ∧ σ 45 (8 * i + s) = nI j ∧ σ 5 j = 1 ∧ σ 3 j = 115) ∧
  ∀ i s i' s' : Nat, i < 6 → i' < 6 → s < (σ 46 i).toNatClampNeg → s' < (σ 46 i').toNatClampNeg → σ 45 (8 * i + s) = σ 45 (8 * i' + s') → ¬ σ 45 (8 * i + s) = (-1) → i = i' ∧ s = s'
/-- permits -/
def rQ (n : Nat) (σ : zS) : Prop := (∀ i : Nat, i < 8 → ∃ j : Nat, j < 60 ∧ σ 49 i = nI j) ∧ ∃ q : Nat, q ≤ 8 ∧ σ 23 3 = nI q ∧ σ 29 23 = nI q ∧
  (∀ i : Nat, i < q → σ 24 i = σ 48 i ∧ (∃ u : Nat, 1 ≤ u ∧ u ≤ 255 ∧ σ 48 i = nI u) ∧ ∃ j : Nat, j < n ∧ σ 25 i = nI j ∧ σ 49 i = nI j ∧ σ 26 i = σ 5 j ∧ σ 3 j = 112) ∧
  (∀ i j : Nat, i < q → j < q → σ 49 i = σ 49 j → i = j) ∧ ∀ i j : Nat, i < q → j < q → ¬ i = j → σ 26 i = 1 → σ 26 j = 1 → σ 24 i &&& σ 24 j = 0
/-- crews -/
def rC (h : Nat) (σ : zS) : Prop := σ 27 1 = σ 29 24 ∧ σ 27 2 = σ 29 26 ∧ σ 27 3 = σ 29 25 ∧ (∃ s : Nat, s ≤ h ∧ σ 29 25 = nI s) ∧ (σ 29 24 = (-1) ∨ ∃ c : Nat, c < 4 ∧ σ 29 24 = nI c) ∧
  (σ 29 26 = (-1) ∨ (¬ σ 29 24 = (-1) ∧ ¬ σ 29 26 = σ 29 24 ∧ ∃ c : Nat, c < 4 ∧ σ 29 26 = nI c ∧ σ 28 c ≤ nI h)) ∧
  (∀ c : Nat, c < 4 → (σ 50 c = (-1) ∧ σ 28 c = 0) ∨ ∃ e : Nat, e ≤ h ∧ σ 50 c = nI e ∧ σ 28 c = nI (e + 11)) ∧
  (∀ c : Nat, c < 4 → σ 29 24 = nI c → σ 28 c ≤ nI h) ∧ (σ 29 24 = (-1) → ∀ c : Nat, c < 4 → σ 50 c = (-1))
/-- both systems, behind t calls -/
def zR (t : Nat) (σ : zS) : Prop := ∃ n h : Nat, n ≤ 60 ∧ h ≤ 48 * t ∧ rH h σ ∧ rL n σ ∧ rA n σ ∧ rP n σ ∧ rQ n σ ∧ rC h σ
theorem zR_ch {t : Nat} {σ : zS} (h : zR t σ) : ∀ j : Nat, narrow .char (.int (σ 3 j)) = .int (σ 3 j) := by
  obtain ⟨n, h, -, -, -, hL, -⟩ := h
  exact hL.2.2.1
theorem closedShare_nn {σ : zS} (h : (f_X5_closedShare σ ).1 = 0) : Jvm.FP.Core.fIsNaN (f_X5_closedShare σ ).2.1 = false := by
  unfold f_X5_closedShare at h ⊢
  by_cases c : (f_X2_lineCount σ ) = 0
  · rw [if_pos c] at h
    exact absurd h (show ¬ (6 : Nat) = 0 by decide)
  · rw [if_neg c]
    exact fl_f0 _ _ c
theorem meanAge_nn {σ : zS} (h : (f_X5_meanAge σ ).1 = 0) : Jvm.FP.Core.dIsNaN (f_X5_meanAge σ ).2.1 = false := by
  unfold f_X5_meanAge at h ⊢
  by_cases c : (f_X2_openCount σ ) = 0
  · rw [if_pos c] at h
    exact absurd h (show ¬ (6 : Nat) = 0 by decide)
  · rw [if_neg c]
    exact fl_d0 _ _ c
