theorem zs_row (σ : zS) (k j : Nat) (x : Int32) (k' : Nat) : zs σ k j x k' = if k' = k then upd (σ k) j x else σ k' := rfl
theorem upd_rd (f : Nat → Int32) (k : Nat) (x : Int32) (j : Nat) : upd f k x j = if j = k then x else f j := rfl
theorem rH_f {h : Nat} {σ τ : zS} (e0 : τ 0 6 = σ 0 6) (e1 : τ 29 0 = σ 29 0) (e2 : τ 1 = σ 1) (e3 : τ 30 = σ 30) (H : rH h σ) : rH h τ := by
  unfold rH at H ⊢
  rw [e0, e1, e2, e3]
  exact H
theorem rL_f {n : Nat} {σ τ : zS} (e1 : τ 2 6 = σ 2 6) (e2 : τ 29 7 = σ 29 7) (e3 : τ 3 = σ 3) (e4 : τ 31 = σ 31) (e5 : τ 4 = σ 4) (e6 : τ 33 = σ 33) (e7 : τ 5 = σ 5) (e8 : τ 32 = σ 32) (e9 : τ 7 = σ 7) (e10 : τ 34 = σ 34) (e11 : τ 6 = σ 6) (e12 : τ 35 = σ 35) (e13 : τ 2 7 = σ 2 7) (e14 : τ 2 8 = σ 2 8) (e15 : τ 8 = σ 8) (H : rL n σ) : rL n τ := by
  unfold rL at H ⊢
  rw [e1, e2, e3, e4, e5, e6, e7, e8, e9, e10, e11, e12, e13, e14, e15]
  exact H
theorem rA_f {n n' : Nat} {σ τ : zS} (hn : n ≤ n') (e1 : τ 36 = σ 36) (e2 : τ 10 = σ 10) (e3 : τ 11 = σ 11) (e4 : τ 37 = σ 37) (e5 : τ 12 = σ 12) (e6 : τ 38 = σ 38) (h5 : ∀ i : Nat, i < n → σ 5 i = 1 → σ 3 i = 97 → τ 5 i = 1 ∧ τ 3 i = 97) (H : rA n σ) : rA n' τ := by
  unfold rA at H ⊢
  rw [e1, e2, e3, e4, e5, e6]
  refine ⟨fun a ha => ?_, H.2⟩
  rcases H.1 a ha with h | ⟨i, h1, h2, h3, h4, h6, h7, h8, h9⟩
  · exact Or.inl h
  · obtain ⟨g1, g2⟩ := h5 i h1 h8 h9
    exact Or.inr ⟨i, by omega, h2, h3, h4, h6, h7, g1, g2⟩
theorem rP_f {n n' : Nat} {σ τ : zS} (hn : n ≤ n') (e1 : τ 13 9 = σ 13 9) (e2 : τ 29 20 = σ 29 20) (e3 : τ 14 = σ 14) (e4 : τ 46 = σ 46) (e5 : τ 15 = σ 15) (e6 : τ 47 = σ 47) (e7 : τ 16 = σ 16) (e8 : τ 39 = σ 39) (e9 : τ 17 = σ 17) (e10 : τ 40 = σ 40) (e11 : τ 18 = σ 18) (e12 : τ 41 = σ 41) (e13 : τ 19 = σ 19) (e14 : τ 42 = σ 42) (e15 : τ 20 = σ 20) (e16 : τ 43 = σ 43) (e17 : τ 21 = σ 21) (e18 : τ 44 = σ 44) (e19 : τ 22 = σ 22) (e20 : τ 45 = σ 45)
    (h5 : ∀ i : Nat, i < n → σ 5 i = 1 → σ 3 i = 115 → τ 5 i = 1 ∧ τ 3 i = 115) (H : rP n σ) : rP n' τ := by
  unfold rP at H ⊢
  rw [e1, e2, e3, e4, e5, e6, e7, e8, e9, e10, e11, e12, e13, e14, e15, e16, e17, e18, e19, e20]
  refine ⟨H.1, H.2.1, fun i s hi hs => ?_, H.2.2.2⟩
  rcases H.2.2.1 i s hi hs with h | ⟨j, h1, h2, h3, h4⟩
  · exact Or.inl h
  · obtain ⟨g1, g2⟩ := h5 j h1 h3 h4
    exact Or.inr ⟨j, by omega, h2, g1, g2⟩
theorem rQ_f {n n' : Nat} {σ τ : zS} (hn : n ≤ n') (e1 : τ 49 = σ 49) (e2 : τ 48 = σ 48) (e3 : τ 23 3 = σ 23 3) (e4 : τ 29 23 = σ 29 23) (e5 : τ 24 = σ 24) (e6 : τ 25 = σ 25) (e7 : τ 26 = σ 26) (h5 : ∀ i : Nat, i < n → σ 3 i = 112 → τ 5 i = σ 5 i ∧ τ 3 i = 112) (H : rQ n σ) : rQ n' τ := by
  unfold rQ at H ⊢
  rw [e1, e2, e3, e4, e5, e6, e7]
  obtain ⟨h1, q, h2, h3, h4, h6, h7⟩ := H
  refine ⟨h1, q, h2, h3, h4, fun i hi => ?_, h7⟩
  obtain ⟨g1, g2, j, g3, g4, g5, g6, g7⟩ := h6 i hi
  obtain ⟨f1, f2⟩ := h5 j g3 g7
  exact ⟨g1, g2, j, by omega, g4, g5, by rw [f1, g6], f2⟩
theorem rC_f {h : Nat} {σ τ : zS} (e1 : τ 27 1 = σ 27 1) (e2 : τ 27 2 = σ 27 2) (e3 : τ 27 3 = σ 27 3) (e4 : τ 28 = σ 28) (e5 : τ 50 = σ 50) (e6 : τ 29 24 = σ 29 24) (e7 : τ 29 25 = σ 29 25) (e8 : τ 29 26 = σ 29 26) (H : rC h σ) : rC h τ := by
  unfold rC at H ⊢
  rw [e1, e2, e3, e4, e5, e6, e7, e8]
  exact H
theorem cnt_upd_n {f : Nat → Int32} {n : Nat} {x : Int32} : cnt (upd f n x) n = cnt f n := cnt_congr n (fun j hj => by rw [upd_rd, if_neg (by omega)])
theorem cnt_upd_0 {f : Nat → Int32} {j : Nat} (h : ¬ f j = 0) : ∀ n : Nat, j < n → cnt (upd f j 0) n + 1 = cnt f n
  | 0, hj => by omega
  | n + 1, hj => by
    by_cases c : j = n
    · rw [cnt_s1 (show ¬ f n = 0 by rw [← c]; exact h), cnt_s0 (show upd f j 0 n = 0 by rw [c, upd_rd, if_pos rfl]), c, cnt_upd_n]
    · have ih := cnt_upd_0 h n (by omega)
      have e : upd f j 0 n = f n := by rw [upd_rd, if_neg (by omega)]
      by_cases q : f n = 0
      · rw [cnt_s0 (e.trans q), cnt_s0 q]
        exact ih
      · rw [cnt_s1 (show ¬ upd f j 0 n = 0 by rw [e]; exact q), cnt_s1 q, ← ih]
theorem cnt_pos {f : Nat → Int32} {j : Nat} (h : ¬ f j = 0) {n : Nat} (hj : j < n) : 1 ≤ cnt f n := by
  have := cnt_upd_0 h n hj
  omega
theorem esum_upd {f : Nat → Int32} {e : Nat} {x : Int32} : ∀ k : Nat, k ≤ e → esum (upd f e x) k = esum f k
  | 0, _ => rfl
  | k + 1, h => by
    have e1 : upd f e x k = f k := by rw [upd_rd, if_neg (by omega)]
    unfold esum
    rw [esum_upd k (by omega), e1]
theorem neg_v : ∀ j : Nat, j < 60 → ¬ 0 ≤ (nI j ^^^ (-1)) := by decide +kernel
theorem rL_e {n e : Nat} {σ : zS} (hn : n ≤ 60) (he : e ≤ 200) (h8 : σ 2 8 = nI e) (H : rL n σ) : e + cnt (σ 5) n = 2 * n ∧ esum (σ 8) e = cnt (σ 5) n := by
  obtain ⟨-, -, -, -, -, -, -, e', g1, g2, g3⟩ := H
  have q : e = e' := (ni_eq (by omega) (by omega)).mp (h8.symm.trans g2)
  subst q
  exact ⟨g1, g3⟩
theorem rL_x {n : Nat} {σ : zS} (hn : n ≤ 60) (H : rL n σ) : ∃ e : Nat, e ≤ 120 ∧ σ 2 8 = nI e ∧ e + cnt (σ 5) n = 2 * n := by
  obtain ⟨-, -, -, -, -, -, -, e', g1, g2, g3⟩ := H
  exact ⟨e', by omega, g2, g1⟩
theorem rL_open {n e : Nat} {σ τ : zS} {c w : Int32} (hn : n < 60) (hc : narrow .char (.int c) = .int c) (h8 : σ 2 8 = nI e) (he : e ≤ 200)
    (e1 : τ 2 6 = nI (n + 1)) (e2 : τ 29 7 = nI (n + 1)) (e3 : τ 3 = upd (σ 3) n c) (e4 : τ 31 = upd (σ 31) n c) (e5 : τ 4 = upd (σ 4) n w) (e6 : τ 33 = upd (σ 33) n w) (e7 : τ 5 = upd (σ 5) n 1) (e8 : τ 32 = upd (σ 32) n 1) (e9 : τ 7 = σ 7) (e10 : τ 34 = upd (σ 34) n 0) (e11 : τ 6 = σ 6) (e12 : τ 35 = upd (σ 35) n 0) (e13 : τ 2 7 = σ 2 7 + 1) (e14 : τ 2 8 = nI (e + 1)) (e15 : τ 8 = upd (σ 8) e (nI n)) (H : rL n σ) : rL (n + 1) τ := by
  obtain ⟨g1, g3⟩ := rL_e (by omega) he h8 H
  obtain ⟨h1, h2, h3, h4, h5, h6, h7, -⟩ := H
  have c1 : cnt (τ 5) (n + 1) = cnt (σ 5) n + 1 := by
    rw [cnt_s1 (show ¬ τ 5 n = 0 by rw [e7, upd_rd, if_pos rfl]; decide), e7, cnt_upd_n]
  refine ⟨e1, e2, fun j => ?_, fun j => ?_, fun j hj => ?_, fun j hj hj2 => ?_, ?_, e + 1, by rw [c1]; omega, e14, ?_⟩
  · rw [e3, upd_rd]
    split
    · exact hc
    · exact h3 j
  · rw [e4, upd_rd]
    split
    · exact hc
    · exact h4 j
  · rw [e3, e4, e5, e6, e7, e8, e9, e10, e11, e12]
    simp only [upd_rd]
    by_cases q : j = n
    · simp only [if_pos q]
      obtain ⟨f1, f2⟩ := h6 n (by omega) (by omega)
      rw [q]
      exact ⟨trivial, trivial, trivial, Or.inr trivial, f2, f1, Or.inl f1⟩
    · simp only [if_neg q]
      exact h5 j (by omega)
  · rw [e9, e11]
    exact h6 j (by omega) hj2
  · rw [c1, e13, h7, nI_1]
  · rw [c1, e15]
    unfold esum
    rw [esum_upd e (by omega), g3, upd_rd, if_pos rfl, if_pos (nI_pos' (by omega))]
    omega
theorem rL_close {n e j : Nat} {σ τ : zS} (hn : n ≤ 60) (hj : j < n) (h5j : σ 5 j = 1) (h8 : σ 2 8 = nI e) (he : e ≤ 200)
    (e1 : τ 2 6 = σ 2 6) (e2 : τ 29 7 = σ 29 7) (e3 : τ 3 = σ 3) (e4 : τ 31 = σ 31) (e5 : τ 4 = σ 4) (e6 : τ 33 = σ 33) (e7 : τ 5 = upd (σ 5) j 0) (e8 : τ 32 = upd (σ 32) j 0) (e9 : τ 7 = σ 7) (e10 : τ 34 = σ 34) (e11 : τ 6 = σ 6) (e12 : τ 35 = σ 35) (e13 : τ 2 7 = σ 2 7 - 1) (e14 : τ 2 8 = nI (e + 1)) (e15 : τ 8 = upd (σ 8) e (nI j ^^^ (-1))) (H : rL n σ) : rL n τ := by
  obtain ⟨g1, g3⟩ := rL_e hn he h8 H
  obtain ⟨h1, h2, h3, h4, h5, h6, h7, -⟩ := H
  have c1 := cnt_upd_0 (f := σ 5) (j := j) (by rw [h5j]; decide) n hj
  rw [← e7] at c1
  refine ⟨e1.trans h1, e2.trans h2, by rw [e3]; exact h3, by rw [e4]; exact h4, fun i hi => ?_, by rw [e11, e9]; exact h6, ?_, e + 1, by omega, e14, ?_⟩
  · rw [e3, e4, e5, e6, e7, e8, e9, e10, e11, e12]
    simp only [upd_rd]
    by_cases q : i = j
    · simp only [if_pos q]
      obtain ⟨f1, f2, f3, f4, f5⟩ := h5 i hi
      exact ⟨f1, f2, trivial, Or.inl trivial, f5⟩
    · simp only [if_neg q]
      exact h5 i hi
  · rw [e13, h7, ← c1, nI_pred]
  · rw [e15]
    unfold esum
    rw [esum_upd e (by omega), g3, upd_rd, if_pos rfl, if_neg (neg_v j (by omega))]
    omega
theorem openLine_v {n e : Nat} {τ : zS} (hn : n < 60) (h6 : τ 2 6 = nI n) (h8 : τ 2 8 = nI e) (he : e < 120) (c w : Int32) :
    f_X2_openLine τ c w = (nI n, zs (zs (zs (zs (zs (zs (zs τ 2 6 (nI (n + 1))) 3 n c) 4 n w) 5 n 1) 2 7 (τ 2 7 + 1)) 8 e (nI n)) 2 8 (nI (e + 1))) := by
  have hf : f_X2_isFull τ = 0 := by
    unfold f_X2_isFull
    rw [h6, if_pos (show nI n < 60 from (ni_lt (b := 60) (by omega) (by omega)).mpr hn)]
  have hl : f_X2_hasLine (zs τ 2 6 (nI (n + 1))) (nI n) = 1 := by
    rw [hasLine_v (n := n + 1) (by omega) zs_eq (by omega), if_pos (by omega)]
  unfold f_X2_openLine
  rw [hf, if_pos rfl, h6, nI_1, hl, if_neg (show ¬ (1 : Int32) = 0 by decide), ni_cl (by omega)]
  unfold f_X2_writeEntry
  have e8 : zs (zs (zs (zs (zs τ 2 6 (nI (n + 1))) 3 n c) 4 n w) 5 n 1) 2 7 (τ 2 7 + 1) 2 8 = nI e := by
    simp [zs_rd, h8]
  rw [e8, if_neg (nI_pos (by omega)), if_neg (show ¬ (120 : Int32) ≤ nI e from fun z => by have := (ni_le (a := 120) (by omega) (by omega)).mp z; omega), ni_cl (by omega), nI_1]
theorem closeLine_v {n e j : Nat} {τ : zS} (hn : n ≤ 60) (h6 : τ 2 6 = nI n) (hj : j < n) (h5 : ¬ τ 5 j = 0) (h8 : τ 2 8 = nI e) (he : e < 120) :
    f_X2_closeLine τ (nI j) = zs (zs (zs (zs τ 5 j 0) 2 7 (τ 2 7 - 1)) 8 e (nI j ^^^ (-1))) 2 8 (nI (e + 1)) := by
  unfold f_X2_closeLine
  rw [isOpen_v hn h6 (by omega), if_pos (show j < n ∧ ¬ τ 5 j = 0 from ⟨hj, h5⟩), if_neg (show ¬ (1 : Int32) = 0 by decide), ni_cl (by omega)]
  unfold f_X2_writeEntry
  have e8 : zs (zs τ 5 j 0) 2 7 (τ 2 7 - 1) 2 8 = nI e := by
    simp [zs_rd, h8]
  rw [e8, if_neg (nI_pos (by omega)), if_neg (show ¬ (120 : Int32) ≤ nI e from fun z => by have := (ni_le (a := 120) (by omega) (by omega)).mp z; omega), ni_cl (by omega), nI_1]
theorem opens_v {n : Nat} {τ : zS} (hn : n < 60) (h7 : τ 29 7 = nI n) (c : Int32) :
    f_X6_opens τ c = (nI n, zs (zs (zs (zs (zs (zs τ 31 n c) 32 n 1) 33 n (τ 29 0)) 34 n 0) 35 n 0) 29 7 (nI (n + 1))) := by
  unfold f_X6_opens
  rw [h7, ni_cl (by omega), nI_1, nI_pred]
theorem full_v {n : Nat} {σ : zS} (hn : n ≤ 60) (h6 : σ 2 6 = nI n) : f_X5_checkRoomForLine σ = if n = 60 then 3 else 0 := by
  unfold f_X5_checkRoomForLine f_X2_isFull
  rw [h6]
  by_cases c : n = 60
  · rw [if_neg (show ¬ nI n < 60 from fun z => by have := (ni_lt (b := 60) (by omega) (by omega)).mp z; omega), if_neg (by decide), if_pos c]
  · rw [if_pos (show nI n < 60 from (ni_lt (b := 60) (by omega) (by omega)).mpr (by omega)), if_pos rfl, if_neg c]
theorem n60e {n : Nat} (hn : n ≤ 60) : (nI n = 60) ↔ n = 60 := ni_eq (b := 60) (by omega) (by omega)
theorem sim_note {t : Nat} {σ : zS} (h : zR t σ) (ht : t < 512)  : zI (f_X5_note σ ).2.2 ∧ f_X6_thrown (f_X6_note (f_X5_note σ ).2.2 ).2 = f_L_note (f_X5_note σ ).1 ∧ (f_L_note (f_X5_note σ ).1 = 0 → (f_X5_note σ ).1 = 0 ∧ (f_X6_note (f_X5_note σ ).2.2 ).1 = (f_X5_note σ ).2.1) ∧ zR (t + 1) (f_X6_note (f_X5_note σ ).2.2 ).2 := by
  have hI := zR_I h
  have hT := fun c => zR_thr (c := c) h
  obtain ⟨n, hr, hn, hh, hH, hL, hA, hP, hQ, hC⟩ := h
  unfold f_X5_note f_X6_note f_L_note
  rw [full_v hn hL.1]
  by_cases c : n = 60
  · have c7 : σ 29 7 = 60 := by rw [hL.2.1, c]; rfl
    simp [c, c7, hI, hT, thr_v]
  · obtain ⟨e, he, h8, hes⟩ := rL_x hn hL
    have hn' : n < 60 := by omega
    have he' : e < 120 := by omega
    rw [if_neg c, if_pos rfl, openLine_v hn' hL.1 h8 he']
    generalize hτ : zs (zs (zs (zs (zs (zs (zs σ 2 6 (nI (n + 1))) 3 n 110) 4 n (σ 0 6)) 5 n 1) 2 7 (σ 2 7 + 1)) 8 e (nI n)) 2 8 (nI (e + 1)) = τ
    have h29 : τ 29 = σ 29 := by rw [← hτ]; simp [zs_row]
    have c7 : ¬ τ 29 7 = 60 := by rw [h29, hL.2.1]; exact fun z => c ((n60e hn).mp z)
    have hτI : zI τ := zI_hi (fun k hk => by rw [← hτ]; simp only [zs_row]; rw [if_neg (by omega), if_neg (by omega), if_neg (by omega), if_neg (by omega), if_neg (by omega), if_neg (by omega), if_neg (by omega)]) hI
    rw [if_neg c7, opens_v hn' (show zs τ 29 28 0 29 7 = nI n by rw [zs_nf (by decide), h29, hL.2.1])]
    refine ⟨hτI, ?_, fun _ => ⟨rfl, rfl⟩, n + 1, hr, by omega, by omega, ?_, ?_, ?_, ?_, ?_, ?_⟩
    · simp [f_X6_thrown, zs_rd]
    · refine rH_f ?_ ?_ ?_ ?_ hH <;> simp [zs_row, upd_rd, ← hτ]
    · refine rL_open (c := 110) (w := σ 0 6) hn' (by decide) h8 (by omega) ?_ ?_ ?_ ?_ ?_ ?_ ?_ ?_ ?_ ?_ ?_ ?_ ?_ ?_ ?_ hL <;> simp [zs_row, upd_rd, ← hτ, hH.1, hH.2.1]
    · refine rA_f (Nat.le_succ n) ?_ ?_ ?_ ?_ ?_ ?_ (fun i hi h1 h2 => by have q : ¬ i = n := (by omega); constructor <;> simp [zs_row, upd_rd, ← hτ, q, h1, h2]) hA <;> simp [zs_row, upd_rd, ← hτ]
    · refine rP_f (Nat.le_succ n) ?_ ?_ ?_ ?_ ?_ ?_ ?_ ?_ ?_ ?_ ?_ ?_ ?_ ?_ ?_ ?_ ?_ ?_ ?_ ?_ (fun i hi h1 h2 => by have q : ¬ i = n := (by omega); constructor <;> simp [zs_row, upd_rd, ← hτ, q, h1, h2]) hP <;> simp [zs_row, upd_rd, ← hτ]
    · refine rQ_f (Nat.le_succ n) ?_ ?_ ?_ ?_ ?_ ?_ ?_ (fun i hi h2 => by have q : ¬ i = n := (by omega); constructor <;> simp [zs_row, upd_rd, ← hτ, q, h2]) hQ <;> simp [zs_row, upd_rd, ← hτ]
    · refine rC_f ?_ ?_ ?_ ?_ ?_ ?_ ?_ ?_ hC <;> simp [zs_row, upd_rd, ← hτ]
theorem rA_add {n a : Nat} {σ τ : zS} {p : Int32} (hn : n ≤ 60) (ha : a < 32) (hp : 0 < p) (h0 : σ 36 a = (-1)) (e1 : τ 36 = upd (σ 36) a (nI n)) (e2 : τ 10 = upd (σ 10) a p) (e3 : τ 11 = upd (σ 11) a (nI n)) (e4 : τ 37 = upd (σ 37) a p) (e5 : τ 12 = upd (σ 12) a 0) (e6 : τ 38 = upd (σ 38) a 0) (h5 : ∀ i : Nat, i < n → σ 5 i = 1 → σ 3 i = 97 → τ 5 i = 1 ∧ τ 3 i = 97) (h7 : τ 5 n = 1) (h8 : τ 3 n = 97) (H : rA n σ) : rA (n + 1) τ := by
  unfold rA at H ⊢
  rw [e1, e2, e3, e4, e5, e6]
  refine ⟨fun b hb => ?_, fun b c hb hc => ?_⟩
  · simp only [upd_rd]
    by_cases q : b = a
    · simp only [if_pos q]
      exact Or.inr ⟨n, by omega, rfl, rfl, trivial, hp, trivial, h7, h8⟩
    · simp only [if_neg q]
      rcases H.1 b hb with h | ⟨i, h1, h2, h3, h4, h6, h7, h8, h9⟩
      · exact Or.inl h
      · obtain ⟨g1, g2⟩ := h5 i h1 h8 h9
        exact Or.inr ⟨i, by omega, h2, h3, h4, h6, h7, g1, g2⟩
  · have lt : ∀ d : Nat, d < 32 → ¬ σ 36 d = nI n := by
      intro d hd z
      rcases H.1 d hd with ⟨h1, -⟩ | ⟨i, h1, h2, -⟩
      · rw [h1] at z
        exact ni_ne (show n < 2000000000 by omega) z.symm
      · rw [h2] at z
        have := (ni_eq (by omega) (by omega)).mp z
        omega
    simp only [upd_rd]
    by_cases q : b = a
    · by_cases q2 : c = a
      · intro _ _; omega
      · rw [if_pos q, if_neg q2]
        intro z
        exact absurd z.symm (lt c hc)
    · by_cases q2 : c = a
      · rw [if_neg q, if_pos q2]
        intro z
        exact absurd z (lt b hb)
      · rw [if_neg q, if_neg q2]
        exact H.2 b c hb hc
theorem rA_del {n a j : Nat} {σ τ : zS} (hn : n ≤ 60) (ha : a < 32) (hj : j < n) (h0 : σ 36 a = nI j) (e1 : τ 36 = upd (σ 36) a (-1)) (e2 : τ 10 = upd (σ 10) a 0) (e3 : τ 11 = σ 11) (e4 : τ 37 = σ 37) (e5 : τ 12 = σ 12) (e6 : τ 38 = σ 38) (h5 : τ 5 = upd (σ 5) j 0) (h3 : τ 3 = σ 3) (H : rA n σ) : rA n τ := by
  unfold rA at H ⊢
  rw [e1, e2, e3, e4, e5, e6, h5, h3]
  refine ⟨fun b hb => ?_, fun b c hb hc => ?_⟩
  · simp only [upd_rd]
    by_cases q : b = a
    · simp only [if_pos q]
      exact Or.inl ⟨trivial, trivial⟩
    · simp only [if_neg q]
      rcases H.1 b hb with h | ⟨i, h1, h2, h3, h4, h6, h7, h8, h9⟩
      · exact Or.inl h
      · refine Or.inr ⟨i, by omega, h2, h3, h4, h6, h7, ?_, h9⟩
        rw [if_neg (fun z => q (H.2 b a hb ha (by rw [h2, h0, z]) (by rw [h2]; exact ni_ne (by omega)))), h8]
  · simp only [upd_rd]
    by_cases q : b = a
    · by_cases q2 : c = a
      · intro _ _; omega
      · rw [if_pos q, if_neg q2]
        intro _ z
        exact absurd rfl z
    · by_cases q2 : c = a
      · rw [if_neg q, if_pos q2]
        intro z z2
        exact absurd z z2
      · rw [if_neg q, if_neg q2]
        exact H.2 b c hb hc
theorem rA_she {n a : Nat} {σ τ : zS} {x : Int32} (e1 : τ 36 = σ 36) (e2 : τ 10 = σ 10) (e3 : τ 11 = σ 11) (e4 : τ 37 = σ 37) (e5 : τ 12 = upd (σ 12) a x) (e6 : τ 38 = upd (σ 38) a x) (h5 : τ 5 = σ 5) (h3 : τ 3 = σ 3) (H : rA n σ) : rA n τ := by
  unfold rA at H ⊢
  rw [e1, e2, e3, e4, e5, e6, h5, h3]
  refine ⟨fun b hb => ?_, H.2⟩
  rcases H.1 b hb with h | ⟨i, h1, h2, h3, h4, h6, h7, h8, h9⟩
  · exact Or.inl h
  · refine Or.inr ⟨i, h1, h2, h3, h4, h6, ?_, h8, h9⟩
    simp only [upd_rd]
    by_cases q : b = a
    · rw [if_pos q, if_pos q]
    · rw [if_neg q, if_neg q, h7]
theorem act_z {n : Nat} {σ : zS} (hn : n ≤ 60) (hA : rA n σ) {a : Nat} (ha : a < 32) : f_X0_isActive σ (nI a) = if σ 36 a = (-1) then 0 else 1 := by
  rw [act_v ha]
  rcases hA.1 a ha with ⟨h1, h2⟩ | ⟨i, h1, h2, h3, h4, h5, h6⟩
  · rw [h2, if_neg (show ¬ (0 : Int32) < 0 by decide), if_pos h1]
  · rw [h2, if_neg (ni_ne (show i < 2000000000 by omega)), h4, if_pos h5]
theorem i10 : ¬ (1 : Int32) = 0 := by decide
theorem pos_v {j : Nat} (h1 : 1 ≤ j) (h2 : j < 2000000000) : (0 : Int32) < nI j := by
  rw [show (0 : Int32) = nI 0 from rfl, ni_lt (by omega) h2]
  omega
theorem sim_raise {t : Nat} {σ : zS} (h : zR t σ) (ht : t < 512) (a1 : Int32) (a2 : Int32) (a3 : Int32) : zI (f_X5_raise σ a1 a2 a3).2.2 ∧ f_X6_thrown (f_X6_raise (f_X5_raise σ a1 a2 a3).2.2 a1 a2 a3).2 = f_L_raise (f_X5_raise σ a1 a2 a3).1 ∧ (f_L_raise (f_X5_raise σ a1 a2 a3).1 = 0 → (f_X5_raise σ a1 a2 a3).1 = 0 ∧ (f_X6_raise (f_X5_raise σ a1 a2 a3).2.2 a1 a2 a3).1 = (f_X5_raise σ a1 a2 a3).2.1) ∧ zR (t + 1) (f_X6_raise (f_X5_raise σ a1 a2 a3).2.2 a1 a2 a3).2 := by
  have hI := zR_I h
  have hT := fun c => zR_thr (c := c) h
  obtain ⟨n, hr, hn, hh, hH, hL, hA, hP, hQ, hC⟩ := h
  unfold f_X5_raise f_X6_raise f_L_raise
  rcases al_c a1 a2 with ⟨h1, h2⟩ | ⟨a, ha, h1, h2, h3, h4, h5⟩
  · simp [h1, h2, hI, hT, thr_v]
  · rw [h1, h2, h3]
    simp only [h4]
    have ca := ni_cl (show a < 2000000000 by omega)
    rcases pri_c a3 with ⟨g1, g2⟩ | ⟨g1, g2, p, g3, g4, rfl⟩
    · simp [g1, g2, hI, hT, thr_v]
    · rw [g1, g2, act_z hn hA ha, full_v hn hL.1, ca]
      by_cases c1 : σ 36 a = (-1)
      · rw [if_pos c1]
        by_cases c : n = 60
        · have c7 : σ 29 7 = 60 := by rw [hL.2.1, c]; rfl
          simp [c, c1, c7, hI, hT, thr_v]
        · obtain ⟨e, he, h8, hes⟩ := rL_x hn hL
          have hn' : n < 60 := by omega
          have he' : e < 120 := by omega
          simp only [if_neg c, ↓reduceIte, i10, openLine_v hn' hL.1 h8 he']
          unfold f_X0_activate
          rw [h5, if_neg (show ¬ (1 : Int32) = 0 by decide), ca]
          generalize hτ : zs (zs (zs (zs (zs (zs (zs (zs (zs (zs σ 2 6 (nI (n + 1))) 3 n 97) 4 n (σ 0 6)) 5 n 1) 2 7 (σ 2 7 + 1)) 8 e (nI n)) 2 8 (nI (e + 1))) 10 a (nI p)) 11 a (nI n)) 12 a 0 = τ
          have h29 : τ 29 = σ 29 := by rw [← hτ]; simp [zs_row]
          have h36 : τ 36 = σ 36 := by rw [← hτ]; simp [zs_row]
          have c7 : ¬ τ 29 7 = 60 := by rw [h29, hL.2.1]; exact fun z => c ((n60e hn).mp z)
          have hτI : zI τ := by
            refine zI_hi (σ := σ) ?_ hI
            rw [← hτ]
            exact hi_zs (hi_zs (hi_zs (hi_zs (hi_zs (hi_zs (hi_zs (hi_zs (hi_zs (hi_zs (hi_rfl σ) (by decide)) (by decide)) (by decide)) (by decide)) (by decide)) (by decide)) (by decide)) (by decide)) (by decide)) (by decide)
          rw [if_pos (show τ 36 a = (-1) by rw [h36]; exact c1), if_neg c7, opens_v hn' (show zs τ 29 28 0 29 7 = nI n by rw [zs_nf (by decide), h29, hL.2.1])]
          refine ⟨hτI, ?_, fun _ => ⟨by first | rfl | trivial, by simp [zs_rd]⟩, n + 1, hr, by omega, by omega, ?_, ?_, ?_, ?_, ?_, ?_⟩
          · simp [f_X6_thrown, zs_rd]
          · refine rH_f ?_ ?_ ?_ ?_ hH <;> simp [zs_row, upd_rd, ← hτ]
          · refine rL_open (c := 97) (w := σ 0 6) hn' (by decide) h8 (by omega) ?_ ?_ ?_ ?_ ?_ ?_ ?_ ?_ ?_ ?_ ?_ ?_ ?_ ?_ ?_ hL <;> simp [zs_row, upd_rd, ← hτ, hH.1, hH.2.1]
          · refine rA_add (p := nI p) hn ha (pos_v g3 (by omega)) c1 ?_ ?_ ?_ ?_ ?_ ?_ (fun i hi h1 h2 => by have q : ¬ i = n := (by omega); constructor <;> simp [zs_row, upd_rd, ← hτ, q, h1, h2]) ?_ ?_ hA <;> simp [zs_row, upd_rd, ← hτ]
          · refine rP_f (Nat.le_succ n) ?_ ?_ ?_ ?_ ?_ ?_ ?_ ?_ ?_ ?_ ?_ ?_ ?_ ?_ ?_ ?_ ?_ ?_ ?_ ?_ (fun i hi h1 h2 => by have q : ¬ i = n := (by omega); constructor <;> simp [zs_row, upd_rd, ← hτ, q, h1, h2]) hP <;> simp [zs_row, upd_rd, ← hτ]
          · refine rQ_f (Nat.le_succ n) ?_ ?_ ?_ ?_ ?_ ?_ ?_ (fun i hi h2 => by have q : ¬ i = n := (by omega); constructor <;> simp [zs_row, upd_rd, ← hτ, q, h2]) hQ <;> simp [zs_row, upd_rd, ← hτ]
          · refine rC_f ?_ ?_ ?_ ?_ ?_ ?_ ?_ ?_ hC <;> simp [zs_row, upd_rd, ← hτ]
      · simp [c1, hI, hT, thr_v]
theorem sim_clear {t : Nat} {σ : zS} (h : zR t σ) (ht : t < 512) (a1 : Int32) (a2 : Int32) : zI (f_X5_clear σ a1 a2).2.2 ∧ f_X6_thrown (f_X6_clear (f_X5_clear σ a1 a2).2.2 a1 a2).2 = f_L_clear (f_X5_clear σ a1 a2).1 ∧ (f_L_clear (f_X5_clear σ a1 a2).1 = 0 → (f_X5_clear σ a1 a2).1 = 0 ∧ (f_X6_clear (f_X5_clear σ a1 a2).2.2 a1 a2).1 = (f_X5_clear σ a1 a2).2.1) ∧ zR (t + 1) (f_X6_clear (f_X5_clear σ a1 a2).2.2 a1 a2).2 := by
  have hI := zR_I h
  have hT := fun c => zR_thr (c := c) h
  obtain ⟨n, hr, hn, hh, hH, hL, hA, hP, hQ, hC⟩ := h
  unfold f_X5_clear f_X6_clear f_L_clear f_X5_checkActive
  rcases al_c a1 a2 with ⟨h1, h2⟩ | ⟨a, ha, h1, h2, h3, h4, h5⟩
  · simp [h1, h2, hI, hT, thr_v]
  · rw [h1, h2, h3]
    simp only [h4]
    have ca := ni_cl (show a < 2000000000 by omega)
    rw [act_z hn hA ha, ca]
    rcases hA.1 a ha with ⟨c1, -⟩ | ⟨j, k1, k2, k3, k4, k5, k6, k7, k8⟩
    · simp [c1, hI, hT, thr_v]
    · have c1 : ¬ σ 36 a = (-1) := by rw [k2]; exact ni_ne (by omega)
      have el : f_X0_lineOf σ (nI a) = nI j := by
        unfold f_X0_lineOf
        rw [act_z hn hA ha, if_neg c1, if_neg (show ¬ (1 : Int32) = 0 by decide), ca, k3]
      obtain ⟨e, he, h8, hes⟩ := rL_x hn hL
      have hcp := cnt_pos (f := σ 5) (j := j) (by rw [k7]; decide) k1
      have he' : e < 120 := by omega
      have ed : f_X0_deactivate σ (nI a) = zs σ 10 a 0 := by
        unfold f_X0_deactivate
        rw [h5, if_neg (show ¬ (1 : Int32) = 0 by decide), ca]
      simp only [if_neg c1, i10, ↓reduceIte, el, ed]
      rw [closeLine_v (n := n) (e := e) hn (show zs σ 10 a 0 2 6 = nI n by rw [zs_ne (by decide), hL.1]) k1 (show ¬ zs σ 10 a 0 5 j = 0 by rw [zs_ne (by decide), k7]; decide) (show zs σ 10 a 0 2 8 = nI e by rw [zs_ne (by decide), h8]) he']
      generalize hτ : zs (zs (zs (zs (zs σ 10 a 0) 5 j 0) 2 7 (zs σ 10 a 0 2 7 - 1)) 8 e (nI j ^^^ (-1))) 2 8 (nI (e + 1)) = τ
      have h36 : τ 36 = σ 36 := by rw [← hτ]; simp [zs_row]
      have hτI : zI τ := by
        refine zI_hi (σ := σ) ?_ hI
        rw [← hτ]
        exact hi_zs (hi_zs (hi_zs (hi_zs (hi_zs (hi_rfl σ) (by decide)) (by decide)) (by decide)) (by decide)) (by decide)
      have k2' : τ 36 a = nI j := by rw [h36, k2]
      rw [k2', if_neg (ni_ne (show j < 2000000000 by omega)), ni_cl (show j < 2000000000 by omega)]
      refine ⟨hτI, ?_, fun _ => ⟨by first | rfl | trivial, by first | rfl | trivial⟩, n, hr, by omega, by omega, ?_, ?_, ?_, ?_, ?_, ?_⟩
      · simp [f_X6_thrown, zs_rd]
      · refine rH_f ?_ ?_ ?_ ?_ hH <;> simp [zs_row, upd_rd, ← hτ]
      · refine rL_close hn k1 k7 h8 (by omega) ?_ ?_ ?_ ?_ ?_ ?_ ?_ ?_ ?_ ?_ ?_ ?_ ?_ ?_ ?_ hL <;> simp [zs_row, upd_rd, ← hτ]
      · refine rA_del hn ha k1 k2 ?_ ?_ ?_ ?_ ?_ ?_ ?_ ?_ hA <;> simp [zs_row, upd_rd, ← hτ]
      · refine rP_f (Nat.le_refl n) ?_ ?_ ?_ ?_ ?_ ?_ ?_ ?_ ?_ ?_ ?_ ?_ ?_ ?_ ?_ ?_ ?_ ?_ ?_ ?_ (fun i hi h1 h2 => by have q : ¬ i = j := (fun z => by rw [z, k8] at h2; exact absurd h2 (by decide)); constructor <;> simp [zs_row, upd_rd, ← hτ, q, h1, h2]) hP <;> simp [zs_row, upd_rd, ← hτ]
      · refine rQ_f (Nat.le_refl n) ?_ ?_ ?_ ?_ ?_ ?_ ?_ (fun i hi h2 => by have q : ¬ i = j := (fun z => by rw [z, k8] at h2; exact absurd h2 (by decide)); constructor <;> simp [zs_row, upd_rd, ← hτ, q, h2]) hQ <;> simp [zs_row, upd_rd, ← hτ]
      · refine rC_f ?_ ?_ ?_ ?_ ?_ ?_ ?_ ?_ hC <;> simp [zs_row, upd_rd, ← hτ]
theorem hrs_c (a : Int32) : (¬ (¬ a < 1 ∧ a ≤ 24) ∧ f_X6_in a.toInt64 1 24 = 0) ∨ (¬ a < 1 ∧ a ≤ 24 ∧ f_X6_in a.toInt64 1 24 = 1 ∧ ∃ j : Nat, 1 ≤ j ∧ j ≤ 24 ∧ a = nI j) := by
  rcases in_c a 1 24 (by decide) (by decide) with ⟨h1, h2⟩ | ⟨h1, j, h2, h3, rfl⟩
  · have e0 : (1 : Int64).toInt = 1 := by decide
    have e7 : (24 : Int64).toInt = 24 := by decide
    rw [e0, e7] at h2
    refine Or.inl ⟨?_, h1⟩
    rw [Int32.lt_iff_toInt_lt, Int32.le_iff_toInt_le]
    have g1 := show (1 : Int32).toInt = 1 by decide
    have g5 := show (24 : Int32).toInt = 24 by decide
    omega
  · have e0 : (1 : Int64).toInt = 1 := by decide
    have e7 : (24 : Int64).toInt = 24 := by decide
    rw [e0] at h2
    rw [e7] at h3
    refine Or.inr ⟨?_, ?_, h1, j, by omega, by omega, rfl⟩
    · rw [show (1 : Int32) = nI 1 from rfl, ni_lt (by omega) (by omega)]; omega
    · rw [show (24 : Int32) = nI 24 from rfl, ni_le (by omega) (by omega)]; omega
theorem sim_shelve {t : Nat} {σ : zS} (h : zR t σ) (ht : t < 512) (a1 : Int32) (a2 : Int32) (a3 : Int32) : zI (f_X5_shelve σ a1 a2 a3).2.2 ∧ f_X6_thrown (f_X6_shelve (f_X5_shelve σ a1 a2 a3).2.2 a1 a2 a3).2 = f_L_shelve (f_X5_shelve σ a1 a2 a3).1 ∧ (f_L_shelve (f_X5_shelve σ a1 a2 a3).1 = 0 → (f_X5_shelve σ a1 a2 a3).1 = 0 ∧ (f_X6_shelve (f_X5_shelve σ a1 a2 a3).2.2 a1 a2 a3).1 = (f_X5_shelve σ a1 a2 a3).2.1) ∧ zR (t + 1) (f_X6_shelve (f_X5_shelve σ a1 a2 a3).2.2 a1 a2 a3).2 := by
  have hI := zR_I h
  have hT := fun c => zR_thr (c := c) h
  obtain ⟨n, hr, hn, hh, hH, hL, hA, hP, hQ, hC⟩ := h
  unfold f_X5_shelve f_X6_shelve f_L_shelve f_X5_checkActive
  rcases al_c a1 a2 with ⟨h1, h2⟩ | ⟨a, ha, h1, h2, h3, h4, h5⟩
  · simp [h1, h2, hI, hT, thr_v]
  · rw [h1, h2, h3]
    simp only [h4]
    have ca := ni_cl (show a < 2000000000 by omega)
    rw [act_z hn hA ha, ca]
    by_cases c1 : σ 36 a = (-1)
    · simp [c1, hI, hT, thr_v]
    · rcases hrs_c a3 with ⟨g1, g2⟩ | ⟨g1, g2, g3, p, g4, g5, rfl⟩
      · by_cases q1 : a3 < 1
        · simp [c1, q1, g2, hI, hT, thr_v]
        · have q2 : ¬ a3 ≤ 24 := fun z => g1 ⟨q1, z⟩
          simp [c1, q1, q2, g2, hI, hT, thr_v]
      · have es := shel_e hn hH hA ha
        simp only [if_neg c1, i10, ↓reduceIte, if_neg g1, if_pos g2]
        by_cases c2 : f_X0_isOnShelf σ (nI a) (σ 0 6) = 0
        · rw [if_pos c2]
          have ep : f_X0_putOnShelf σ (nI a) (σ 0 6 + nI p) = zs σ 12 a (σ 0 6 + nI p) := by
            unfold f_X0_putOnShelf
            rw [h5, if_neg (show ¬ (1 : Int32) = 0 by decide), ca]
          rw [ep]
          generalize hτ : zs σ 12 a (σ 0 6 + nI p) = τ
          have h36 : τ 36 = σ 36 := by rw [← hτ]; simp [zs_row]
          have h38 : τ 38 = σ 38 := by rw [← hτ]; simp [zs_row]
          have h29 : τ 29 = σ 29 := by rw [← hτ]; simp [zs_row]
          have c3 : f_X6_isShelved τ (nI a) = 0 := by
            rw [c2] at es
            rw [← es]
            unfold f_X6_isShelved
            rw [h36, h38, h29]
          have hτI : zI τ := by
            refine zI_hi (σ := σ) ?_ hI
            rw [← hτ]
            exact hi_zs (hi_rfl σ) (by decide)
          dsimp only
          rw [if_neg (show ¬ τ 36 a = (-1) by rw [h36]; exact c1), g3, if_neg i10, if_pos c3, h29]
          refine ⟨hτI, ?_, fun _ => ⟨by first | rfl | trivial, ?_⟩, n, hr, by omega, by omega, ?_, ?_, ?_, ?_, ?_, ?_⟩
          · simp [f_X6_thrown, zs_rd]
          · show zs (zs τ 29 28 0) 38 a (σ 29 0 + nI p) 38 a = σ 0 6 + nI p
            rw [zs_eq, hH.1, hH.2.1]
          · refine rH_f ?_ ?_ ?_ ?_ hH <;> simp [zs_row, upd_rd, ← hτ]
          · refine rL_f ?_ ?_ ?_ ?_ ?_ ?_ ?_ ?_ ?_ ?_ ?_ ?_ ?_ ?_ ?_ hL <;> simp [zs_row, upd_rd, ← hτ]
          · refine rA_she (a := a) (x := σ 0 6 + nI p) ?_ ?_ ?_ ?_ ?_ ?_ ?_ ?_ hA <;> simp [zs_row, upd_rd, ← hτ, hH.1, hH.2.1]
          · refine rP_f (Nat.le_refl n) ?_ ?_ ?_ ?_ ?_ ?_ ?_ ?_ ?_ ?_ ?_ ?_ ?_ ?_ ?_ ?_ ?_ ?_ ?_ ?_ (fun i hi h1 h2 => ?_) hP <;> simp [zs_row, upd_rd, ← hτ]
            exact ⟨h1, h2⟩
          · refine rQ_f (Nat.le_refl n) ?_ ?_ ?_ ?_ ?_ ?_ ?_ (fun i hi h2 => ?_) hQ <;> simp [zs_row, upd_rd, ← hτ]
            exact h2
          · refine rC_f ?_ ?_ ?_ ?_ ?_ ?_ ?_ ?_ hC <;> simp [zs_row, upd_rd, ← hτ]
        · have c3 : ¬ f_X6_isShelved σ (nI a) = 0 := by rw [es]; exact c2
          simp [c1, c2, c3, g3, hI, hT, thr_v]
