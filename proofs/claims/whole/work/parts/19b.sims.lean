theorem cnt_le (f : Nat → Int32) : ∀ n : Nat, cnt f n ≤ n
  | 0 => Nat.le_refl 0
  | n + 1 => by
    have := cnt_le f n
    unfold cnt
    by_cases c : f n = 0
    · rw [if_pos c]; omega
    · rw [if_neg c]; omega
theorem cnt_congr {f g : Nat → Int32} : ∀ n : Nat, (∀ j : Nat, j < n → (f j = 0 ↔ g j = 0)) → cnt f n = cnt g n
  | 0, _ => rfl
  | n + 1, h => by
    unfold cnt
    rw [cnt_congr n (fun j hj => h j (by omega))]
    by_cases c : f n = 0
    · rw [if_pos c, if_pos ((h n (by omega)).mp c)]
    · rw [if_neg c, if_neg (fun z => c ((h n (by omega)).mpr z))]
theorem cnt_tail {f : Nat → Int32} {n N : Nat} (hn : n ≤ N) (h : ∀ j : Nat, n ≤ j → f j = 0) : cnt f N = cnt f n := by
  induction N with
  | zero =>
    rw [show n = 0 by omega]
  | succ N ih =>
    by_cases c : n = N + 1
    · rw [c]
    · unfold cnt
      rw [if_pos (h N (by omega)), ih (by omega)]
      cases n <;> rfl
theorem cnt_s0 {f : Nat → Int32} {n : Nat} (h : f n = 0) : cnt f (n + 1) = cnt f n := by
  rw [cnt, if_pos h, Nat.add_zero]
theorem cnt_s1 {f : Nat → Int32} {n : Nat} (h : ¬ f n = 0) : cnt f (n + 1) = cnt f n + 1 := by
  rw [cnt, if_neg h]
theorem ni_a0 (x : Int32) : x + 0 = x := Int32.add_zero x
theorem open_l {τ : zS} {n : Nat} (hn : n ≤ 60) (h7 : τ 29 7 = nI n) : ∀ (m j : Nat), j ≤ n → n - j < m → L_X6_open_4 τ m (nI (cnt (τ 32) j)) (nI j) = nI (cnt (τ 32) n) := by
  intro m
  induction m with
  | zero => intro j h1 h2; omega
  | succ m ih =>
    intro j h1 h2
    unfold L_X6_open_4
    rw [h7, ni_cl (by omega)]
    by_cases c : j = n
    · rw [if_pos ((ni_le (by omega) (by omega)).mpr (by omega)), c]
    · rw [if_neg (fun z => c (by have := (ni_le (by omega) (by omega)).mp z; omega)), nI_1]
      by_cases q : τ 32 j = 0
      · rw [if_pos q, ni_a0, ← cnt_s0 q]
        exact ih (j + 1) (by omega) (by omega)
      · rw [if_neg q, nI_1, ← cnt_s1 q]
        exact ih (j + 1) (by omega) (by omega)
theorem open_v {τ : zS} {n : Nat} (hn : n ≤ 60) (h7 : τ 29 7 = nI n) : f_X6_open τ = nI (cnt (τ 32) n) := open_l hn h7 61 0 (by omega) (by omega)
/-- the unknown lines, as a row -/
def unk (τ : zS) : Nat → Int32 := fun j => if τ 32 j = 0 then 0 else if τ 35 j = 0 then 1 else 0
theorem unk_l {τ : zS} {n : Nat} (hn : n ≤ 60) (h7 : τ 29 7 = nI n) : ∀ (m j : Nat), j ≤ n → n - j < m → L_X6_unknown_4 τ m (nI (cnt (unk τ) j)) (nI j) = nI (cnt (unk τ) n) := by
  intro m
  induction m with
  | zero => intro j h1 h2; omega
  | succ m ih =>
    intro j h1 h2
    unfold L_X6_unknown_4
    rw [h7, ni_cl (by omega)]
    by_cases c : j = n
    · rw [if_pos ((ni_le (by omega) (by omega)).mpr (by omega)), c]
    · rw [if_neg (fun z => c (by have := (ni_le (by omega) (by omega)).mp z; omega)), nI_1]
      by_cases q : τ 32 j = 0
      · have e : unk τ j = 0 := by unfold unk; rw [if_pos q]
        rw [if_pos q, ni_a0, ← cnt_s0 e]
        exact ih (j + 1) (by omega) (by omega)
      · rw [if_neg q]
        by_cases q2 : τ 35 j = 0
        · have e : ¬ unk τ j = 0 := by unfold unk; rw [if_neg q, if_pos q2]; decide
          rw [if_pos q2, nI_1, ← cnt_s1 e]
          exact ih (j + 1) (by omega) (by omega)
        · have e : unk τ j = 0 := by unfold unk; rw [if_neg q, if_neg q2]
          rw [if_neg q2, ni_a0, ← cnt_s0 e]
          exact ih (j + 1) (by omega) (by omega)
theorem unk_v {τ : zS} {n : Nat} (hn : n ≤ 60) (h7 : τ 29 7 = nI n) : f_X6_unknown τ = nI (cnt (unk τ) n) := unk_l hn h7 61 0 (by omega) (by omega)
/-- the open and acknowledged lines, as a row -/
def ack (τ : zS) : Nat → Int32 := fun j => if τ 5 j = 0 then 0 else if τ 6 j = 0 then 0 else 1
theorem ack_l {τ : zS} {n : Nat} (hn : n ≤ 60) (h6 : τ 2 6 = nI n) : ∀ (m j : Nat), j ≤ 60 → 60 - j < m → L_X2_acknowledgedCount_4 τ m (nI (cnt (ack τ) (min j n))) (nI j) = nI (cnt (ack τ) n) := by
  intro m
  induction m with
  | zero => intro j h1 h2; omega
  | succ m ih =>
    intro j h1 h2
    unfold L_X2_acknowledgedCount_4
    rw [isOpen_v hn h6 (by omega), ni_cl (by omega)]
    by_cases c : j = 60
    · rw [if_pos (by rw [show (60 : Int32) = nI 60 from rfl]; exact (ni_le (by omega) (by omega)).mpr (by omega)), show min j n = n by omega]
    · rw [if_neg (fun z => c (by rw [show (60 : Int32) = nI 60 from rfl] at z; have := (ni_le (by omega) (by omega)).mp z; omega)), nI_1]
      have ih' := ih (j + 1) (by omega) (by omega)
      by_cases q : j < n ∧ ¬ τ 5 j = 0
      · rw [if_pos q, if_neg (by decide)]
        rw [show min (j + 1) n = j + 1 by omega] at ih'
        rw [show min j n = j by omega]
        by_cases q2 : τ 6 j = 0
        · have e : ack τ j = 0 := by unfold ack; rw [if_neg q.2, if_pos q2]
          rw [if_pos q2]
          rw [cnt_s0 e] at ih'
          exact ih'
        · have e : ¬ ack τ j = 0 := by unfold ack; rw [if_neg q.2, if_neg q2]; decide
          rw [if_neg q2, nI_1]
          rw [cnt_s1 e] at ih'
          exact ih'
      · rw [if_neg q, if_pos rfl]
        by_cases q3 : j < n
        · have e : ack τ j = 0 := by
            unfold ack
            rw [if_pos (Classical.not_not.mp fun z => q ⟨q3, z⟩)]
          rw [show min (j + 1) n = j + 1 by omega, cnt_s0 e] at ih'
          rw [show min j n = j by omega]
          exact ih'
        · rw [show min (j + 1) n = n by omega] at ih'
          rw [show min j n = n by omega]
          exact ih'
theorem ack_v {τ : zS} {n : Nat} (hn : n ≤ 60) (h6 : τ 2 6 = nI n) : f_X2_acknowledgedCount τ = nI (cnt (ack τ) n) := by
  have h := ack_l hn h6 61 0 (by omega) (by omega)
  rw [show min 0 n = 0 by omega] at h
  exact h
theorem cnt_split {τ : zS} : ∀ (n : Nat), (∀ j : Nat, j < n → τ 5 j = τ 32 j ∧ τ 6 j = τ 35 j) → cnt (τ 5) n = cnt (ack τ) n + cnt (unk τ) n
  | 0, _ => rfl
  | n + 1, h => by
    have e := cnt_split n (fun j hj => h j (by omega))
    obtain ⟨h1, h2⟩ := h n (by omega)
    by_cases q : τ 5 n = 0
    · have a : ack τ n = 0 := by unfold ack; rw [if_pos q]
      have u : unk τ n = 0 := by unfold unk; rw [← h1, if_pos q]
      rw [cnt_s0 q, cnt_s0 a, cnt_s0 u, e]
    · by_cases q2 : τ 6 n = 0
      · have a : ack τ n = 0 := by unfold ack; rw [if_neg q, if_pos q2]
        have u : ¬ unk τ n = 0 := by unfold unk; rw [← h1, ← h2, if_neg q, if_pos q2]; decide
        rw [cnt_s1 q, cnt_s0 a, cnt_s1 u, e]; omega
      · have a : ¬ ack τ n = 0 := by unfold ack; rw [if_neg q, if_neg q2]; decide
        have u : unk τ n = 0 := by unfold unk; rw [← h1, ← h2, if_neg q, if_neg q2]
        rw [cnt_s1 q, cnt_s1 a, cnt_s0 u, e]; omega
theorem cnt5 {n : Nat} {σ : zS} (hL : rL n σ) : cnt (σ 32) n = cnt (σ 5) n := cnt_congr n (fun j hj => by rw [(hL.2.2.2.2.1 j hj).2.2.1])
theorem open_t (σ : zS) (c : Int32) {n : Nat} (hn : n ≤ 60) (h7 : σ 29 7 = nI n) : f_X6_open (zs σ 29 28 c) = f_X6_open σ := by
  rw [open_v hn h7, open_v hn (show zs σ 29 28 c 29 7 = nI n by rw [zs_nf (by decide), h7]), zs_ne (by decide)]
theorem open_e {n : Nat} {σ : zS} (hn : n ≤ 60) (hL : rL n σ) : f_X6_open σ = σ 2 7 := by
  rw [open_v hn hL.2.1, cnt5 hL, hL.2.2.2.2.2.2.1]
theorem sim_openLines {t : Nat} {σ : zS} (h : zR t σ) (ht : t < 512) : zI σ ∧ (f_X5_openLines σ ) = (f_X6_openLines σ ).1 ∧ zR (t + 1) (f_X6_openLines σ ).2 := by
  obtain ⟨n, hr, hn, hh, hH, hL, -⟩ := id h
  refine ⟨zR_I h, ?_, zR_thr h⟩
  unfold f_X5_openLines f_X6_openLines f_X2_openCount
  rw [open_t σ 0 hn hL.2.1, open_e hn hL]
theorem ii_1 (a : Int) : Int32.ofInt a + 1 = Int32.ofInt (a + 1) := by
  rw [Int32.ofInt_add]; rfl
theorem ii_m (a : Int) : Int32.ofInt a + (-1) = Int32.ofInt (a + (-1)) := by
  rw [Int32.ofInt_add]; rfl
theorem ii_n (n : Nat) : Int32.ofInt (n : Int) = nI n := by
  show Int32.ofBitVec (BitVec.ofInt 32 (n : Int)) = Int32.ofBitVec (BitVec.ofNat 32 n)
  rw [BitVec.ofInt_natCast]
theorem ent_l {τ : zS} {e : Nat} (he : e ≤ 120) (h8 : τ 2 8 = nI e) : ∀ (m j : Nat), j ≤ e → e - j < m → L_X2_openCountByEntries_4 τ m (Int32.ofInt (esum (τ 8) j)) (nI j) = Int32.ofInt (esum (τ 8) e) := by
  intro m
  induction m with
  | zero => intro j h1 h2; omega
  | succ m ih =>
    intro j h1 h2
    unfold L_X2_openCountByEntries_4
    rw [h8, ni_cl (by omega)]
    by_cases c : j = e
    · rw [if_pos (show nI e ≤ nI j from (ni_le (by omega) (by omega)).mpr (by omega)), c]
      split <;> rfl
    · rw [if_neg (fun z => c (by rw [show (120 : Int32) = nI 120 from rfl] at z; have := (ni_le (by omega) (by omega)).mp z; omega)), if_neg (fun z => c (by have := (ni_le (by omega) (by omega)).mp z; omega)), nI_1]
      by_cases q : τ 8 j < 0
      · have q2 : ¬ 0 ≤ τ 8 j := by
          rw [Int32.lt_iff_toInt_lt] at q
          rw [Int32.le_iff_toInt_le]
          omega
        rw [if_pos q, ii_m, ← show esum (τ 8) (j + 1) = esum (τ 8) j + (-1) by rw [esum, if_neg q2]]
        exact ih (j + 1) (by omega) (by omega)
      · have q2 : 0 ≤ τ 8 j := by
          rw [Int32.lt_iff_toInt_lt] at q
          rw [Int32.le_iff_toInt_le]
          omega
        rw [if_neg q, ii_1, ← show esum (τ 8) (j + 1) = esum (τ 8) j + 1 by rw [esum, if_pos q2]]
        exact ih (j + 1) (by omega) (by omega)
theorem ent_e {n : Nat} {σ : zS} (hn : n ≤ 60) (hL : rL n σ) : f_X2_openCountByEntries σ = σ 2 7 := by
  obtain ⟨e, h1, h2, h3⟩ := hL.2.2.2.2.2.2.2
  have h := ent_l (e := e) (by omega) h2 121 0 (by omega) (by omega)
  rw [h3, ii_n] at h
  rw [hL.2.2.2.2.2.2.1]
  exact h
theorem sim_openByLog {t : Nat} {σ : zS} (h : zR t σ) (ht : t < 512) : zI σ ∧ (f_X5_openByLog σ ) = (f_X6_openByLog σ ).1 ∧ zR (t + 1) (f_X6_openByLog σ ).2 := by
  obtain ⟨n, hr, hn, hh, hH, hL, -⟩ := id h
  refine ⟨zR_I h, ?_, zR_thr h⟩
  unfold f_X5_openByLog f_X6_openByLog f_X6_openLines
  rw [ent_e hn hL, open_t σ 0 hn hL.2.1, open_e hn hL]
theorem sim_closedShare {t : Nat} {σ : zS} (h : zR t σ) (ht : t < 512)  : zI (f_X5_closedShare σ ).2.2 ∧ f_X6_thrown (f_X6_closedShare (f_X5_closedShare σ ).2.2 ).2 = f_L_closedShare (f_X5_closedShare σ ).1 ∧ (f_L_closedShare (f_X5_closedShare σ ).1 = 0 → (f_X5_closedShare σ ).1 = 0 ∧ (f_X6_closedShare (f_X5_closedShare σ ).2.2 ).1 = (f_X5_closedShare σ ).2.1) ∧ zR (t + 1) (f_X6_closedShare (f_X5_closedShare σ ).2.2 ).2 := by
  have hI := zR_I h
  have hT := fun c => zR_thr (c := c) h
  obtain ⟨n, hr, hn, hh, hH, hL, -⟩ := h
  have e0 : (σ 2 6 = 0) ↔ (σ 29 7 = 0) := by rw [hL.1, hL.2.1]
  unfold f_X5_closedShare f_X6_closedShare f_X2_lineCount f_X2_openCount f_L_closedShare
  by_cases c : σ 2 6 = 0
  · simp [c, e0.mp c, hI, hT, thr_v]
  · have c' := fun z => c (e0.mpr z)
    simp only [if_neg c, if_neg c', open_t σ 0 hn hL.2.1, open_e hn hL, thr_v]
    rw [hL.1, hL.2.1]
    exact ⟨hI, rfl, fun _ => ⟨trivial, rfl⟩, hT 0⟩
