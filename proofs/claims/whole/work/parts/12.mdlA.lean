theorem zs_nf {σ : zS} {k j j' : Nat} {x : Int32} (h : j' ≠ j) : zs σ k j x k j' = σ k j' := by
  show (if k = k then upd (σ k) j x else σ k) j' = σ k j'
  rw [if_pos rfl]
  exact if_neg h
theorem zs_eq {σ : zS} {k j : Nat} {x : Int32} : zs σ k j x k j = x := by
  show (if k = k then upd (σ k) j x else σ k) j = x
  rw [if_pos rfl]
  exact if_pos rfl
def zI (σ : zS) : Prop := (∃ n : Nat, n ≤ 60 ∧ σ 29 7 = nI n) ∧ (∃ n : Nat, n ≤ 6 ∧ σ 29 20 = nI n) ∧ (∃ n : Nat, n ≤ 8 ∧ σ 29 23 = nI n) ∧
  (∀ j : Nat, j < 6 → ∃ a b : Nat, b ≤ a ∧ a ≤ 8 ∧ σ 46 j = nI a ∧ σ 47 j = nI b) ∧ (∀ j : Nat, j < 48 → ∃ a : Nat, a < 8 ∧ σ 39 j = nI a) ∧ (∀ j : Nat, j < 48 → ∃ a : Nat, a < 8 ∧ σ 41 j = nI a) ∧
  (∀ j : Nat, j < 32 → σ 36 j = (-1) ∨ ∃ a : Nat, a < 60 ∧ σ 36 j = nI a) ∧ (∀ j : Nat, j < 48 → σ 45 j = (-1) ∨ ∃ a : Nat, a < 60 ∧ σ 45 j = nI a) ∧ (∀ j : Nat, j < 8 → ∃ a : Nat, a < 60 ∧ σ 49 j = nI a) ∧
  (∀ j : Nat, narrow .char (.int (σ 31 j)) = .int (σ 31 j)) ∧ (¬ σ 29 26 = (-1) → ∃ a : Nat, a < 4 ∧ σ 29 24 = nI a)
theorem zI_ch {σ : zS} (h : zI σ) : ∀ j : Nat, narrow .char (.int (σ 31 j)) = .int (σ 31 j) := h.2.2.2.2.2.2.2.2.2.1
theorem vp_lt {x : Int32} {n : Nat} (h : vp_in x n) : x.toNatClampNeg < n := Nat.not_le.mp fun q => h (Or.inr q)
theorem vp_of {x : Int32} {n : Nat} (h : vp_in x n) (hn : n ≤ 60) : ∃ j : Nat, j < n ∧ x = nI j ∧ x.toNatClampNeg = j := by
  obtain ⟨j, h1, rfl⟩ := vp_in_of h (by omega)
  exact ⟨j, h1, rfl, nI_clamp (by omega)⟩
theorem vp_nI {x : Int32} {n : Nat} (hn : n ≤ 60) (h : ∃ a : Nat, a < n ∧ x = nI a) : vp_in x n := by
  obtain ⟨a, h1, rfl⟩ := h
  exact vp_in_nI h1 (by omega)
theorem z8 (a b : Nat) : (8 * nI a) + nI b = nI (8 * a + b) := by rw [show (8 : Int32) = nI 8 from rfl, pk_mul, nI_add]
theorem vi_lines {σ : zS} (hI : zI σ) (h : ¬ σ 29 7 = 60) : vp_in (σ 29 7) 60 := by
  obtain ⟨n, h1, h2⟩ := hI.1
  rw [h2] at h ⊢
  refine vp_in_nI ?_ (by omega)
  rcases Nat.lt_or_ge n 60 with q | q
  · exact q
  · exact absurd (by rw [show n = 60 by omega]; rfl) h
theorem vi_prm {σ : zS} (hI : zI σ) (h : ¬ σ 29 23 = 8) : vp_in (σ 29 23) 8 := by
  obtain ⟨n, h1, h2⟩ := hI.2.2.1
  rw [h2] at h ⊢
  refine vp_in_nI ?_ (by omega)
  rcases Nat.lt_or_ge n 8 with q | q
  · exact q
  · exact absurd (by rw [show n = 8 by omega]; rfl) h
theorem vi_doneidx {σ : zS} {p : Int32} (hI : zI σ) (hp : vp_in p 6) (h : ¬ σ 47 p.toNatClampNeg = σ 46 p.toNatClampNeg) : vp_in ((8 * p) + (σ 47 p.toNatClampNeg)) 48 := by
  obtain ⟨j, h1, h2, h3⟩ := vp_of hp (by omega)
  rw [h3] at h ⊢
  obtain ⟨a, b, e1, e2, e3, e4⟩ := hI.2.2.2.1 j h1
  rw [h2, e4, z8]
  refine vp_in_nI ?_ (by omega)
  rcases Nat.lt_or_ge b a with q | q
  · omega
  · exact absurd (by rw [e3, e4, show a = b by omega]) h
theorem vi_stepidx {σ : zS} {p : Int32} (hI : zI σ) (hp : vp_in p 6) (h : ¬ σ 46 p.toNatClampNeg = 8) : vp_in ((8 * p) + (σ 46 p.toNatClampNeg)) 48 := by
  obtain ⟨j, h1, h2, h3⟩ := vp_of hp (by omega)
  rw [h3] at h ⊢
  obtain ⟨a, b, e1, e2, e3, e4⟩ := hI.2.2.2.1 j h1
  rw [h2, e3, z8]
  refine vp_in_nI ?_ (by omega)
  rcases Nat.lt_or_ge a 8 with q | q
  · omega
  · exact absurd (by rw [e3, show a = 8 by omega]; rfl) h
theorem vi_undoidx {σ : zS} {p : Int32} (hI : zI σ) (hp : vp_in p 6) (h : ¬ σ 47 p.toNatClampNeg = 0) : vp_in (((8 * p) + (σ 47 p.toNatClampNeg)) - 1) 48 := by
  obtain ⟨j, h1, h2, h3⟩ := vp_of hp (by omega)
  rw [h3] at h ⊢
  obtain ⟨a, b, e1, e2, e3, e4⟩ := hI.2.2.2.1 j h1
  rw [h2, e4, z8]
  rcases Nat.eq_zero_or_pos b with q | q
  · exact absurd (by rw [e4, q]; rfl) h
  · rw [show 8 * j + b = (8 * j + b - 1) + 1 by omega, nI_pred]
    exact vp_in_nI (by omega) (by omega)
theorem vi_ps {p x : Int32} {k : Nat} (hp : vp_in p 6) (ex : x = nI k) (hk : k < 8) : vp_in ((8 * p) + x) 48 := by
  obtain ⟨j, h1, h2, h3⟩ := vp_of hp (by omega)
  rw [h2, ex, z8]
  exact vp_in_nI (by omega) (by omega)
theorem vi_steps {σ : zS} {p : Int32} (hI : zI σ) (hp : vp_in p 6) : ∃ n : Nat, n ≤ 8 ∧ σ 46 p.toNatClampNeg = nI n := by
  obtain ⟨j, h1, h2, h3⟩ := vp_of hp (by omega)
  obtain ⟨a, b, e1, e2, e3, e4⟩ := hI.2.2.2.1 j h1
  rw [h3]
  exact ⟨a, e2, e3⟩
theorem vi_need {σ : zS} {x : Int32} (hI : zI σ) (h : vp_in x 48) : vp_in (σ 39 x.toNatClampNeg) 8 := vp_nI (by omega) (hI.2.2.2.2.1 _ (vp_lt h))
theorem vi_set {σ : zS} {x : Int32} (hI : zI σ) (h : vp_in x 48) : vp_in (σ 41 x.toNatClampNeg) 8 := vp_nI (by omega) (hI.2.2.2.2.2.1 _ (vp_lt h))
theorem vi_al {σ : zS} {x : Int32} (hI : zI σ) (h : vp_in x 32) (hn : ¬ σ 36 x.toNatClampNeg = (-1)) : vp_in (σ 36 x.toNatClampNeg) 60 := vp_nI (by omega) ((hI.2.2.2.2.2.2.1 _ (vp_lt h)).resolve_left hn)
theorem vi_unA {σ : zS} (hI : zI σ) : ∀ j : Nat, j < 48 → σ 45 j = (-1) ∨ vp_in (σ 45 j) 60 := fun j h => (hI.2.2.2.2.2.2.2.1 j h).elim Or.inl (fun q => Or.inr (vp_nI (by omega) q))
theorem vi_un {σ : zS} {x : Int32} (hI : zI σ) (h : vp_in x 48) : σ 45 x.toNatClampNeg = (-1) ∨ vp_in (σ 45 x.toNatClampNeg) 60 := vi_unA hI _ (vp_lt h)
theorem vi_pl {σ : zS} {x : Int32} (hI : zI σ) (h : vp_in x 8) : vp_in (σ 49 x.toNatClampNeg) 60 := vp_nI (by omega) (hI.2.2.2.2.2.2.2.2.1 _ (vp_lt h))
theorem vi_crew {σ : zS} (hI : zI σ) (h : ¬ σ 29 26 = (-1)) : vp_in (σ 29 24) 4 := vp_nI (by omega) (hI.2.2.2.2.2.2.2.2.2.2 h)
/-- lcmp, by the numbers -/
theorem zlc (x y : Int64) : (lg_cmp x y < 0 ↔ x.toInt < y.toInt) ∧ (lg_cmp x y ≤ 0 ↔ x.toInt ≤ y.toInt) ∧ (0 < lg_cmp x y ↔ y.toInt < x.toInt) ∧ (0 ≤ lg_cmp x y ↔ y.toInt ≤ x.toInt) := by
  have e := lg_cmp_ge x y
  unfold lg_cmp at *
  simp only [gt_iff_lt, Int64.lt_iff_toInt_lt, Int64.le_iff_toInt_le, ← Int64.toInt_inj] at *
  by_cases h1 : y.toInt < x.toInt
  · rw [if_pos h1]
    refine ⟨⟨fun h => absurd h (by decide), fun h => by omega⟩, ⟨fun h => absurd h (by decide), fun h => by omega⟩, ⟨fun _ => h1, fun _ => by decide⟩, ⟨fun _ => by omega, fun _ => by decide⟩⟩
  · rw [if_neg h1]
    by_cases h2 : x.toInt = y.toInt
    · rw [if_pos h2]
      refine ⟨⟨fun h => absurd h (by decide), fun h => by omega⟩, ⟨fun h => by omega, fun h => by decide⟩, ⟨fun h => absurd h (by decide), fun h => by omega⟩, ⟨fun _ => by omega, fun _ => by decide⟩⟩
    · rw [if_neg h2]
      refine ⟨⟨fun h => by omega, fun h => by decide⟩, ⟨fun h => by omega, fun h => by decide⟩, ⟨fun h => absurd h (by decide), fun h => by omega⟩, ⟨fun h => absurd h (by decide), fun h => by omega⟩⟩
theorem zi64 (x : Int32) : x.toInt64.toInt = x.toInt := by simp
def f_X6_thrown (σ : zS)  : Int32 := (σ 29 28)
theorem iX6_thrown : ∀ w ∈ u_ws RX6 TX6 29, w ∈ wsX6_thrown := by decide +kernel
set_option maxRecDepth 100000 in
theorem c_X6_thrown (l : Launch) (G : va_G) (cs : Nat → ClassId) (ad : Nat → Nat) (tl : va_W) (σ : zS)   : zMi l yX6_thrown wsX6_thrown { frames := 0, cells := 0, slots := 0, locals := 0 } G cs [.ref (ad 29)] (zw cs ad σ tl) (f_X6_thrown σ ) (zw cs ad σ tl) 0 0 := by
  intro sz
  refine Met.ofW (cc := cX6_thrown) (maxL := 1) (ret := (some .int)) (by decide) rfl ?_
  intro p e s m args below meth c s₁ B hml hv
  obtain ⟨rfl, hsz, hP, hD0, hE⟩ := hv
  have hx := B.exec
  have hb := B.bytes
  have hr := B.returns
  have hts := atoms_spec (ws := wsX6_thrown) B.pre
  have hown : s.vm.findClass RX6 = some m.cls := findClass_of_methodNamed B.named
  have hlocks := B.notSynchronized
  subst hsz
  have hD := hD0.self (sz := s.heap.size)
  have hA : ∀ q : Nat, s.heap.size ≤ q → (va_A (zw cs ad σ tl) s.heap.size) q := fun q h => Or.inr h
  generalize va_A (zw cs ad σ tl) s.heap.size = A at hD hE hA ⊢
  have hS : va_S A s.heap s.heap [] := va_S.rf
  have hl := lv_entry ([.ref (ad 29)]) (n := 1) (Nat.le_of_ble_eq_true rfl)
  rw [lg_entry_eq]
  generalize (lg_sl ([.ref (ad 29)]) ++ List.replicate (1 - (lg_sl ([.ref (ad 29)])).length) Slot.unset).toArray = ls at hl ⊢
  have hl : lv_has ls 1 [(0, .ref (ad 29))] := hl
  generalize hR : (f_X6_thrown σ ) = RV
  have hR := hR.symm
  unfold f_X6_thrown at hR
  obtain ⟨H, hH⟩ : ∃ z, z = s.heap := ⟨_, rfl⟩
  obtain ⟨locs, hlocs⟩ : ∃ z : List Loc, z = [] := ⟨_, rfl⟩
  rw [← hH] at hP
  have hS : va_S A s.heap H locs := by rw [hH, hlocs]; exact hS
  show W _ _ _ _ _ _ _ _ _ _ s.heap [] _ _ _ _
  rw [← hH, ← hlocs]
  clear hlocs
  refine lv_aload_n hx hb dX6_thrown_0 rfl (lv_at hl 0 rfl) ?_
  refine va_get (D := G) (ci := 8) (v := .int (σ 29 28)) (C := RX6) (T := TX6) (N := 29) hx hb hts iX6_thrown hown hE.1 hP 29 (zg_29 cs ad σ tl) rfl 28 (by decide) (hts (.fieldLink RX6 82 "HandoverDeckModel" "thrown" "I") (by decide +kernel)) (fun _ h9 => h9) rfl dX6_thrown_1 ?_
  have hR := hR.symm
  subst hR
  exact W.iret (v := (σ 29 28)) hx hb hr (fun t ht hW => ⟨⟨_, (), rfl, rfl, by rw [ht]; exact hP, hD⟩, hS.F ht⟩) hS.2.2 dX6_thrown_4
def f_X6_in (a1 : Int64) (a2 : Int64) (a3 : Int64) : Int32 := (if (lg_cmp a1 a2) < 0 then 0 else (if 0 < (lg_cmp a1 a3) then 0 else 1))
set_option maxRecDepth 100000 in
theorem c_X6_in (l : Launch) (G : va_G) (cs : Nat → ClassId) (ad : Nat → Nat) (tl : va_W) (σ : zS) (a1 : Int64) (a2 : Int64) (a3 : Int64)  : zMi l yX6_in wsX6_in { frames := 0, cells := 0, slots := 0, locals := 0 } G cs [.long a1, .long a2, .long a3] (zw cs ad σ tl) (f_X6_in a1 a2 a3) (zw cs ad σ tl) 0 0 := by
  intro sz
  refine Met.ofW (cc := cX6_in) (maxL := 6) (ret := (some .boolean)) (by decide) rfl ?_
  intro p e s m args below meth c s₁ B hml hv
  obtain ⟨rfl, hsz, hP, hD0, hE⟩ := hv
  have hx := B.exec
  have hb := B.bytes
  have hr := B.returns
  have hts := atoms_spec (ws := wsX6_in) B.pre
  have hown : s.vm.findClass RX6 = some m.cls := findClass_of_methodNamed B.named
  have hlocks := B.notSynchronized
  subst hsz
  have hD := hD0.self (sz := s.heap.size)
  have hA : ∀ q : Nat, s.heap.size ≤ q → (va_A (zw cs ad σ tl) s.heap.size) q := fun q h => Or.inr h
  generalize va_A (zw cs ad σ tl) s.heap.size = A at hD hE hA ⊢
  have hS : va_S A s.heap s.heap [] := va_S.rf
  have hl := lv_entry ([.long a1, .long a2, .long a3]) (n := 6) (Nat.le_of_ble_eq_true rfl)
  rw [lg_entry_eq]
  generalize (lg_sl ([.long a1, .long a2, .long a3]) ++ List.replicate (6 - (lg_sl ([.long a1, .long a2, .long a3])).length) Slot.unset).toArray = ls at hl ⊢
  have hl : lv_has ls 6 [(0, .long a1), (2, .long a2), (4, .long a3)] := hl
  generalize hR : (f_X6_in a1 a2 a3) = RV
  have hR := hR.symm
  unfold f_X6_in at hR
  obtain ⟨H, hH⟩ : ∃ z, z = s.heap := ⟨_, rfl⟩
  obtain ⟨locs, hlocs⟩ : ∃ z : List Loc, z = [] := ⟨_, rfl⟩
  rw [← hH] at hP
  have hS : va_S A s.heap H locs := by rw [hH, hlocs]; exact hS
  show W _ _ _ _ _ _ _ _ _ _ s.heap [] _ _ _ _
  rw [← hH, ← hlocs]
  clear hlocs
  refine lv_lload_n hx hb dX6_in_0 rfl (lv_at hl 0 rfl) ?_
  refine lv_lload_n hx hb dX6_in_1 rfl (lv_at hl 1 rfl) ?_
  refine W.lcmp hx hb dX6_in_2 ?_
  refine lv_if_lt (tgt := 17) hx hb dX6_in_3 (by decide) (fun c_1 => ?_) (fun c_1 => ?_)
  · have hR := hR.trans (if_pos c_1)
    refine lv_iconst (v := 0) hx hb dX6_in_17 (by decide) ?_
    have hR := hR.symm
    subst hR
    exact W.zret (v := 0) hx hb hr rfl (fun t ht hW => ⟨⟨_, (), rfl, rfl, by rw [ht]; exact hP, hD⟩, hS.F ht⟩) hS.2.2 dX6_in_18
  · have hR := hR.trans (if_neg c_1)
    refine lv_lload_n hx hb dX6_in_6 rfl (lv_at hl 0 rfl) ?_
    refine lv_lload hx hb dX6_in_7 (lv_at hl 2 rfl) ?_
    refine W.lcmp hx hb dX6_in_9 ?_
    refine lv_if_gt (tgt := 17) hx hb dX6_in_10 (by decide) (fun c_2 => ?_) (fun c_2 => ?_)
    · have hR := hR.trans (if_pos c_2)
      refine lv_iconst (v := 0) hx hb dX6_in_17 (by decide) ?_
      have hR := hR.symm
      subst hR
      exact W.zret (v := 0) hx hb hr rfl (fun t ht hW => ⟨⟨_, (), rfl, rfl, by rw [ht]; exact hP, hD⟩, hS.F ht⟩) hS.2.2 dX6_in_18
    · have hR := hR.trans (if_neg c_2)
      refine lv_iconst (v := 1) hx hb dX6_in_13 (by decide) ?_
      refine lv_goto (tgt := 18) hx hb dX6_in_14 (by decide) ?_
      have hR := hR.symm
      subst hR
      exact W.zret (v := 1) hx hb hr rfl (fun t ht hW => ⟨⟨_, (), rfl, rfl, by rw [ht]; exact hP, hD⟩, hS.F ht⟩) hS.2.2 dX6_in_18
theorem nar_X6_in (a1 : Int64) (a2 : Int64) (a3 : Int64) : narrow .boolean (.int (f_X6_in a1 a2 a3)) = .int (f_X6_in a1 a2 a3) := by unfold f_X6_in; (repeat' split) <;> rfl
theorem vin_in {a b c : Int64} (h : ¬ (f_X6_in a b c) = 0) : b.toInt ≤ a.toInt ∧ a.toInt ≤ c.toInt := by
  unfold f_X6_in at h
  (repeat' split at h) <;> first | exact absurd rfl h | skip
  all_goals (simp only [zlc] at *; omega)
def f_X6_isUnit (a1 : Int32) : Int32 := (f_X6_in a1.toInt64 0 7)
set_option maxRecDepth 100000 in
theorem c_X6_isUnit (l : Launch) (G : va_G) (cs : Nat → ClassId) (ad : Nat → Nat) (tl : va_W) (σ : zS) (a1 : Int32)  : zMi l yX6_isUnit wsX6_isUnit { frames := 1, cells := 0, slots := 0, locals := 25 } G cs [.int a1] (zw cs ad σ tl) (f_X6_isUnit a1) (zw cs ad σ tl) 0 0 := by
  intro sz
  refine Met.ofW (cc := cX6_isUnit) (maxL := 1) (ret := (some .boolean)) (by decide) rfl ?_
  intro p e s m args below meth c s₁ B hml hv
  obtain ⟨rfl, hsz, hP, hD0, hE⟩ := hv
  have hx := B.exec
  have hb := B.bytes
  have hr := B.returns
  have hts := atoms_spec (ws := wsX6_isUnit) B.pre
  have hown : s.vm.findClass RX6 = some m.cls := findClass_of_methodNamed B.named
  have hlocks := B.notSynchronized
  subst hsz
  have hD := hD0.self (sz := s.heap.size)
  have hA : ∀ q : Nat, s.heap.size ≤ q → (va_A (zw cs ad σ tl) s.heap.size) q := fun q h => Or.inr h
  generalize va_A (zw cs ad σ tl) s.heap.size = A at hD hE hA ⊢
  have hS : va_S A s.heap s.heap [] := va_S.rf
  have hl := lv_entry ([.int a1]) (n := 1) (Nat.le_of_ble_eq_true rfl)
  rw [lg_entry_eq]
  generalize (lg_sl ([.int a1]) ++ List.replicate (1 - (lg_sl ([.int a1])).length) Slot.unset).toArray = ls at hl ⊢
  have hl : lv_has ls 1 [(0, .int a1)] := hl
  generalize hR : (f_X6_isUnit a1) = RV
  have hR := hR.symm
  unfold f_X6_isUnit at hR
  obtain ⟨H, hH⟩ : ∃ z, z = s.heap := ⟨_, rfl⟩
  obtain ⟨locs, hlocs⟩ : ∃ z : List Loc, z = [] := ⟨_, rfl⟩
  rw [← hH] at hP
  have hS : va_S A s.heap H locs := by rw [hH, hlocs]; exact hS
  show W _ _ _ _ _ _ _ _ _ _ s.heap [] _ _ _ _
  rw [← hH, ← hlocs]
  clear hlocs
  refine lv_iload_n hx hb dX6_isUnit_0 rfl (lv_at hl 0 rfl) ?_
  refine lv_i2l (v := a1.toInt64) hx hb dX6_isUnit_1 rfl ?_
  refine lv_lconst (v := 0) hx hb dX6_isUnit_2 (by decide) ?_
  refine lv_ldc2 (v := 7) hx hb hown (hts (.constantLong RX6 85 7) (by decide +kernel)) dX6_isUnit_3 ?_
  refine zai (va_runS (As := [.long a1.toInt64, .long 0, .long 7]) (rest := []) ⟨hx, hb, hml, hown, hts⟩ (c_X6_in l G cs ad tl σ a1.toInt64 0 7  H.size) (va_cwS 3 hts gX6_isUnit_X6_in rfl rfl rfl (by decide +kernel) ⟨Nat.le_of_ble_eq_true rfl, Nat.le_of_ble_eq_true rfl⟩) (zps hE hP hD hS hA) rfl rfl hl.1 rfl (lv_room (Nat.le_of_ble_eq_true rfl)) dX6_isUnit_6 ⟨Nat.le_of_ble_eq_true rfl, Nat.le_of_ble_eq_true rfl⟩) hD hS hA (fun H locs hP hD hS => ?_)
  have hR := hR.symm
  subst hR
  exact W.zret (v := (f_X6_in a1.toInt64 0 7)) hx hb hr (nar_X6_in a1.toInt64 0 7) (fun t ht hW => ⟨⟨_, (), rfl, rfl, by rw [ht]; exact hP, hD⟩, hS.F ht⟩) hS.2.2 dX6_isUnit_9
theorem vin_X6_isUnit {a1 : Int32} (h : ¬ (f_X6_isUnit a1) = 0) : vp_in a1 8 := by
  unfold f_X6_isUnit at h
  have h1 := vin_in h
  rw [zi64] at h1
  have h2 : (0 : Int64).toInt = 0 := by decide
  have h3 : (7 : Int64).toInt = 7 := by decide
  exact vp_in_iff.mpr ⟨by omega, by omega⟩
def f_X6_opens (σ : zS) (a1 : Int32) : Int32 × zS := ((((σ 29 7) + 1) - 1), (zs (zs (zs (zs (zs (zs σ 31 (σ 29 7).toNatClampNeg a1) 32 (σ 29 7).toNatClampNeg 1) 33 (σ 29 7).toNatClampNeg (σ 29 0)) 34 (σ 29 7).toNatClampNeg 0) 35 (σ 29 7).toNatClampNeg 0) 29 7 ((σ 29 7) + 1)))
theorem iX6_opens : ∀ w ∈ u_ws RX6 TX6 29, w ∈ wsX6_opens := by decide +kernel
set_option maxRecDepth 100000 in
theorem c_X6_opens (l : Launch) (G : va_G) (cs : Nat → ClassId) (ad : Nat → Nat) (tl : va_W) (σ : zS) (a1 : Int32) (hL : vp_in (σ 29 7) 60) (hkc : vp_nar .char a1 = a1) : zMi l yX6_opens wsX6_opens { frames := 0, cells := 0, slots := 0, locals := 0 } G cs [.ref (ad 29), .int a1] (zw cs ad σ tl) (f_X6_opens σ a1).1 (zw cs ad (f_X6_opens σ a1).2 tl) 0 0 := by
  intro sz
  refine Met.ofW (cc := cX6_opens) (maxL := 2) (ret := (some .int)) (by decide) rfl ?_
  intro p e s m args below meth c s₁ B hml hv
  obtain ⟨rfl, hsz, hP, hD0, hE⟩ := hv
  have hx := B.exec
  have hb := B.bytes
  have hr := B.returns
  have hts := atoms_spec (ws := wsX6_opens) B.pre
  have hown : s.vm.findClass RX6 = some m.cls := findClass_of_methodNamed B.named
  have hlocks := B.notSynchronized
  subst hsz
  have hD := hD0.self (sz := s.heap.size)
  have hA : ∀ q : Nat, s.heap.size ≤ q → (va_A (zw cs ad σ tl) s.heap.size) q := fun q h => Or.inr h
  generalize va_A (zw cs ad σ tl) s.heap.size = A at hD hE hA ⊢
  have hS : va_S A s.heap s.heap [] := va_S.rf
  have hl := lv_entry ([.ref (ad 29), .int a1]) (n := 2) (Nat.le_of_ble_eq_true rfl)
  rw [lg_entry_eq]
  generalize (lg_sl ([.ref (ad 29), .int a1]) ++ List.replicate (2 - (lg_sl ([.ref (ad 29), .int a1])).length) Slot.unset).toArray = ls at hl ⊢
  have hl : lv_has ls 2 [(0, .ref (ad 29)), (1, .int a1)] := hl
  generalize hR : (f_X6_opens σ a1) = RV
  have hR := hR.symm
  unfold f_X6_opens at hR
  obtain ⟨RVv, RVs⟩ := RV
  dsimp only
  obtain ⟨H, hH⟩ : ∃ z, z = s.heap := ⟨_, rfl⟩
  obtain ⟨locs, hlocs⟩ : ∃ z : List Loc, z = [] := ⟨_, rfl⟩
  rw [← hH] at hP
  have hS : va_S A s.heap H locs := by rw [hH, hlocs]; exact hS
  show W _ _ _ _ _ _ _ _ _ _ s.heap [] _ _ _ _
  rw [← hH, ← hlocs]
  clear hlocs
  refine lv_aload_n hx hb dX6_opens_0 rfl (lv_at hl 0 rfl) ?_
  refine va_get (D := G) (ci := 8) (v := .ref (ad 31)) (C := RX6) (T := TX6) (N := 29) hx hb hts iX6_opens hown hE.1 hP 29 (zg_29 cs ad σ tl) rfl 2 (by decide) (hts (.fieldLink RX6 13 "HandoverDeckModel" "kinds" "[C") (by decide +kernel)) (fun _ h9 => h9) rfl dX6_opens_1 ?_
  refine lv_aload_n hx hb dX6_opens_4 rfl (lv_at hl 0 rfl) ?_
  refine va_get (D := G) (ci := 8) (v := .int (σ 29 7)) (C := RX6) (T := TX6) (N := 29) hx hb hts iX6_opens hown hE.1 hP 29 (zg_29 cs ad σ tl) rfl 7 (by decide) (hts (.fieldLink RX6 95 "HandoverDeckModel" "lines" "I") (by decide +kernel)) (fun _ h9 => h9) rfl dX6_opens_5 ?_
  refine lv_iload_n hx hb dX6_opens_8 rfl (lv_at hl 1 rfl) ?_
  refine z_cast hx hb hE hP hD hS (zg_31 cs ad σ tl) (zb_31 cs ad σ tl) hL hkc dX6_opens_9 (fun H locs hP hD hS => ?_)
  refine lv_aload_n hx hb dX6_opens_10 rfl (lv_at hl 0 rfl) ?_
  refine va_get (D := G) (ci := 8) (v := .ref (ad 32)) (C := RX6) (T := TX6) (N := 29) hx hb hts iX6_opens hown hE.1 hP 29 (zg_29 cs ad (zs σ 31 (σ 29 7).toNatClampNeg a1) tl) rfl 3 (by decide) (hts (.fieldLink RX6 17 "HandoverDeckModel" "isOpen" "[Z") (by decide +kernel)) (fun _ h9 => h9) rfl dX6_opens_11 ?_
  refine lv_aload_n hx hb dX6_opens_14 rfl (lv_at hl 0 rfl) ?_
  refine va_get (D := G) (ci := 8) (v := .int (σ 29 7)) (C := RX6) (T := TX6) (N := 29) hx hb hts iX6_opens hown hE.1 hP 29 (zg_29 cs ad (zs σ 31 (σ 29 7).toNatClampNeg a1) tl) rfl 7 (by decide) (hts (.fieldLink RX6 95 "HandoverDeckModel" "lines" "I") (by decide +kernel)) (fun _ h9 => h9) rfl dX6_opens_15 ?_
  refine lv_iconst (v := 1) hx hb dX6_opens_18 (by decide) ?_
  refine z_zast hx hb hE hP hD hS (zg_32 cs ad (zs σ 31 (σ 29 7).toNatClampNeg a1) tl) (zb_32 cs ad (zs σ 31 (σ 29 7).toNatClampNeg a1) tl) hL rfl dX6_opens_19 (fun H locs hP hD hS => ?_)
  refine lv_aload_n hx hb dX6_opens_20 rfl (lv_at hl 0 rfl) ?_
  refine va_get (D := G) (ci := 8) (v := .ref (ad 33)) (C := RX6) (T := TX6) (N := 29) hx hb hts iX6_opens hown hE.1 hP 29 (zg_29 cs ad (zs (zs σ 31 (σ 29 7).toNatClampNeg a1) 32 (σ 29 7).toNatClampNeg 1) tl) rfl 4 (by decide) (hts (.fieldLink RX6 21 "HandoverDeckModel" "openedAt" "[I") (by decide +kernel)) (fun _ h9 => h9) rfl dX6_opens_21 ?_
  refine lv_aload_n hx hb dX6_opens_24 rfl (lv_at hl 0 rfl) ?_
  refine va_get (D := G) (ci := 8) (v := .int (σ 29 7)) (C := RX6) (T := TX6) (N := 29) hx hb hts iX6_opens hown hE.1 hP 29 (zg_29 cs ad (zs (zs σ 31 (σ 29 7).toNatClampNeg a1) 32 (σ 29 7).toNatClampNeg 1) tl) rfl 7 (by decide) (hts (.fieldLink RX6 95 "HandoverDeckModel" "lines" "I") (by decide +kernel)) (fun _ h9 => h9) rfl dX6_opens_25 ?_
  refine lv_aload_n hx hb dX6_opens_28 rfl (lv_at hl 0 rfl) ?_
  refine va_get (D := G) (ci := 8) (v := .int (σ 29 0)) (C := RX6) (T := TX6) (N := 29) hx hb hts iX6_opens hown hE.1 hP 29 (zg_29 cs ad (zs (zs σ 31 (σ 29 7).toNatClampNeg a1) 32 (σ 29 7).toNatClampNeg 1) tl) rfl 0 (by decide) (hts (.fieldLink RX6 98 "HandoverDeckModel" "hour" "I") (by decide +kernel)) (fun _ h9 => h9) rfl dX6_opens_29 ?_
  refine z_iast hx hb hE hP hD hS (zg_33 cs ad (zs (zs σ 31 (σ 29 7).toNatClampNeg a1) 32 (σ 29 7).toNatClampNeg 1) tl) (zb_33 cs ad (zs (zs σ 31 (σ 29 7).toNatClampNeg a1) 32 (σ 29 7).toNatClampNeg 1) tl) hL dX6_opens_32 (fun H locs hP hD hS => ?_)
  refine lv_aload_n hx hb dX6_opens_33 rfl (lv_at hl 0 rfl) ?_
  refine va_get (D := G) (ci := 8) (v := .ref (ad 34)) (C := RX6) (T := TX6) (N := 29) hx hb hts iX6_opens hown hE.1 hP 29 (zg_29 cs ad (zs (zs (zs σ 31 (σ 29 7).toNatClampNeg a1) 32 (σ 29 7).toNatClampNeg 1) 33 (σ 29 7).toNatClampNeg (σ 29 0)) tl) rfl 5 (by decide) (hts (.fieldLink RX6 24 "HandoverDeckModel" "passed" "[I") (by decide +kernel)) (fun _ h9 => h9) rfl dX6_opens_34 ?_
  refine lv_aload_n hx hb dX6_opens_37 rfl (lv_at hl 0 rfl) ?_
  refine va_get (D := G) (ci := 8) (v := .int (σ 29 7)) (C := RX6) (T := TX6) (N := 29) hx hb hts iX6_opens hown hE.1 hP 29 (zg_29 cs ad (zs (zs (zs σ 31 (σ 29 7).toNatClampNeg a1) 32 (σ 29 7).toNatClampNeg 1) 33 (σ 29 7).toNatClampNeg (σ 29 0)) tl) rfl 7 (by decide) (hts (.fieldLink RX6 95 "HandoverDeckModel" "lines" "I") (by decide +kernel)) (fun _ h9 => h9) rfl dX6_opens_38 ?_
  refine lv_iconst (v := 0) hx hb dX6_opens_41 (by decide) ?_
  refine z_iast hx hb hE hP hD hS (zg_34 cs ad (zs (zs (zs σ 31 (σ 29 7).toNatClampNeg a1) 32 (σ 29 7).toNatClampNeg 1) 33 (σ 29 7).toNatClampNeg (σ 29 0)) tl) (zb_34 cs ad (zs (zs (zs σ 31 (σ 29 7).toNatClampNeg a1) 32 (σ 29 7).toNatClampNeg 1) 33 (σ 29 7).toNatClampNeg (σ 29 0)) tl) hL dX6_opens_42 (fun H locs hP hD hS => ?_)
  refine lv_aload_n hx hb dX6_opens_43 rfl (lv_at hl 0 rfl) ?_
  refine va_get (D := G) (ci := 8) (v := .ref (ad 35)) (C := RX6) (T := TX6) (N := 29) hx hb hts iX6_opens hown hE.1 hP 29 (zg_29 cs ad (zs (zs (zs (zs σ 31 (σ 29 7).toNatClampNeg a1) 32 (σ 29 7).toNatClampNeg 1) 33 (σ 29 7).toNatClampNeg (σ 29 0)) 34 (σ 29 7).toNatClampNeg 0) tl) rfl 6 (by decide) (hts (.fieldLink RX6 27 "HandoverDeckModel" "isKnown" "[Z") (by decide +kernel)) (fun _ h9 => h9) rfl dX6_opens_44 ?_
  refine lv_aload_n hx hb dX6_opens_47 rfl (lv_at hl 0 rfl) ?_
  refine va_get (D := G) (ci := 8) (v := .int (σ 29 7)) (C := RX6) (T := TX6) (N := 29) hx hb hts iX6_opens hown hE.1 hP 29 (zg_29 cs ad (zs (zs (zs (zs σ 31 (σ 29 7).toNatClampNeg a1) 32 (σ 29 7).toNatClampNeg 1) 33 (σ 29 7).toNatClampNeg (σ 29 0)) 34 (σ 29 7).toNatClampNeg 0) tl) rfl 7 (by decide) (hts (.fieldLink RX6 95 "HandoverDeckModel" "lines" "I") (by decide +kernel)) (fun _ h9 => h9) rfl dX6_opens_48 ?_
  refine lv_iconst (v := 0) hx hb dX6_opens_51 (by decide) ?_
  refine z_zast hx hb hE hP hD hS (zg_35 cs ad (zs (zs (zs (zs σ 31 (σ 29 7).toNatClampNeg a1) 32 (σ 29 7).toNatClampNeg 1) 33 (σ 29 7).toNatClampNeg (σ 29 0)) 34 (σ 29 7).toNatClampNeg 0) tl) (zb_35 cs ad (zs (zs (zs (zs σ 31 (σ 29 7).toNatClampNeg a1) 32 (σ 29 7).toNatClampNeg 1) 33 (σ 29 7).toNatClampNeg (σ 29 0)) 34 (σ 29 7).toNatClampNeg 0) tl) hL rfl dX6_opens_52 (fun H locs hP hD hS => ?_)
  refine lv_aload_n hx hb dX6_opens_53 rfl (lv_at hl 0 rfl) ?_
  refine lv_dup hx hb dX6_opens_54 rfl ?_
  refine va_get (D := G) (ci := 8) (v := .int (σ 29 7)) (C := RX6) (T := TX6) (N := 29) hx hb hts iX6_opens hown hE.1 hP 29 (zg_29 cs ad (zs (zs (zs (zs (zs σ 31 (σ 29 7).toNatClampNeg a1) 32 (σ 29 7).toNatClampNeg 1) 33 (σ 29 7).toNatClampNeg (σ 29 0)) 34 (σ 29 7).toNatClampNeg 0) 35 (σ 29 7).toNatClampNeg 0) tl) rfl 7 (by decide) (hts (.fieldLink RX6 95 "HandoverDeckModel" "lines" "I") (by decide +kernel)) (fun _ h9 => h9) rfl dX6_opens_55 ?_
  refine lv_iconst (v := 1) hx hb dX6_opens_58 (by decide) ?_
  refine lv_iadd hx hb dX6_opens_59 ?_
  refine va_put (D := G) (ci := 8) (v := .int ((σ 29 7) + 1)) (ty := .int) (C := RX6) (T := TX6) (N := 29) hx hb hts iX6_opens tyX6 tyX6_ok nmX6 hown hE.1 hP hD hS 29 (zg_29 cs ad (zs (zs (zs (zs (zs σ 31 (σ 29 7).toNatClampNeg a1) 32 (σ 29 7).toNatClampNeg 1) 33 (σ 29 7).toNatClampNeg (σ 29 0)) 34 (σ 29 7).toNatClampNeg 0) 35 (σ 29 7).toNatClampNeg 0) tl) rfl 7 (by decide) (hts (.fieldLink RX6 95 "HandoverDeckModel" "lines" "I") (by decide +kernel)) (fun _ h9 => h9) rfl (by decide +kernel) rfl rfl (Nat.le_of_ble_eq_true rfl) dX6_opens_60 (fun H locs hP hD hS => ?_)
  rw [zb_29_7 cs ad (zs (zs (zs (zs (zs σ 31 (σ 29 7).toNatClampNeg a1) 32 (σ 29 7).toNatClampNeg 1) 33 (σ 29 7).toNatClampNeg (σ 29 0)) 34 (σ 29 7).toNatClampNeg 0) 35 (σ 29 7).toNatClampNeg 0) tl] at hP hD
  refine lv_aload_n hx hb dX6_opens_63 rfl (lv_at hl 0 rfl) ?_
  refine va_get (D := G) (ci := 8) (v := .int ((σ 29 7) + 1)) (C := RX6) (T := TX6) (N := 29) hx hb hts iX6_opens hown hE.1 hP 29 (zg_29 cs ad (zs (zs (zs (zs (zs (zs σ 31 (σ 29 7).toNatClampNeg a1) 32 (σ 29 7).toNatClampNeg 1) 33 (σ 29 7).toNatClampNeg (σ 29 0)) 34 (σ 29 7).toNatClampNeg 0) 35 (σ 29 7).toNatClampNeg 0) 29 7 ((σ 29 7) + 1)) tl) rfl 7 (by decide) (hts (.fieldLink RX6 95 "HandoverDeckModel" "lines" "I") (by decide +kernel)) (fun _ h9 => h9) rfl dX6_opens_64 ?_
  refine lv_iconst (v := 1) hx hb dX6_opens_67 (by decide) ?_
  refine lv_isub hx hb dX6_opens_68 ?_
  obtain ⟨e1, e2⟩ := z2 hR.symm
  subst e1; subst e2
  exact W.iret (v := (((σ 29 7) + 1) - 1)) hx hb hr (fun t ht hW => ⟨⟨_, (), rfl, rfl, by rw [ht]; exact hP, hD⟩, hS.F ht⟩) hS.2.2 dX6_opens_69
def f_X6_isAlarm (σ : zS) (a1 : Int32) (a2 : Int32) : Int32 := (if (f_X6_isUnit a1) = 0 then 0 else (if (f_X6_in a2.toInt64 0 3) = 0 then 0 else 1))
set_option maxRecDepth 100000 in
theorem c_X6_isAlarm (l : Launch) (G : va_G) (cs : Nat → ClassId) (ad : Nat → Nat) (tl : va_W) (σ : zS) (a1 : Int32) (a2 : Int32)  : zMi l yX6_isAlarm wsX6_isAlarm { frames := 2, cells := 0, slots := 0, locals := 45 } G cs [.ref (ad 29), .int a1, .int a2] (zw cs ad σ tl) (f_X6_isAlarm σ a1 a2) (zw cs ad σ tl) 0 0 := by
  intro sz
  refine Met.ofW (cc := cX6_isAlarm) (maxL := 3) (ret := (some .boolean)) (by decide) rfl ?_
  intro p e s m args below meth c s₁ B hml hv
  obtain ⟨rfl, hsz, hP, hD0, hE⟩ := hv
  have hx := B.exec
  have hb := B.bytes
  have hr := B.returns
  have hts := atoms_spec (ws := wsX6_isAlarm) B.pre
  have hown : s.vm.findClass RX6 = some m.cls := findClass_of_methodNamed B.named
  have hlocks := B.notSynchronized
  subst hsz
  have hD := hD0.self (sz := s.heap.size)
  have hA : ∀ q : Nat, s.heap.size ≤ q → (va_A (zw cs ad σ tl) s.heap.size) q := fun q h => Or.inr h
  generalize va_A (zw cs ad σ tl) s.heap.size = A at hD hE hA ⊢
  have hS : va_S A s.heap s.heap [] := va_S.rf
  have hl := lv_entry ([.ref (ad 29), .int a1, .int a2]) (n := 3) (Nat.le_of_ble_eq_true rfl)
  rw [lg_entry_eq]
  generalize (lg_sl ([.ref (ad 29), .int a1, .int a2]) ++ List.replicate (3 - (lg_sl ([.ref (ad 29), .int a1, .int a2])).length) Slot.unset).toArray = ls at hl ⊢
  have hl : lv_has ls 3 [(0, .ref (ad 29)), (1, .int a1), (2, .int a2)] := hl
  generalize hR : (f_X6_isAlarm σ a1 a2) = RV
  have hR := hR.symm
  unfold f_X6_isAlarm at hR
  obtain ⟨H, hH⟩ : ∃ z, z = s.heap := ⟨_, rfl⟩
  obtain ⟨locs, hlocs⟩ : ∃ z : List Loc, z = [] := ⟨_, rfl⟩
  rw [← hH] at hP
  have hS : va_S A s.heap H locs := by rw [hH, hlocs]; exact hS
  show W _ _ _ _ _ _ _ _ _ _ s.heap [] _ _ _ _
  rw [← hH, ← hlocs]
  clear hlocs
  refine lv_iload_n hx hb dX6_isAlarm_0 rfl (lv_at hl 1 rfl) ?_
  refine zai (va_runS (As := [.int a1]) (rest := []) ⟨hx, hb, hml, hown, hts⟩ (c_X6_isUnit l G cs ad tl σ a1  H.size) (va_cwS 1 hts gX6_isAlarm_X6_isUnit rfl rfl rfl (by decide +kernel) ⟨Nat.le_of_ble_eq_true rfl, Nat.le_of_ble_eq_true rfl⟩) (zps hE hP hD hS hA) rfl rfl hl.1 rfl (lv_room (Nat.le_of_ble_eq_true rfl)) dX6_isAlarm_1 ⟨Nat.le_of_ble_eq_true rfl, Nat.le_of_ble_eq_true rfl⟩) hD hS hA (fun H locs hP hD hS => ?_)
  refine lv_if_eq (tgt := 23) hx hb dX6_isAlarm_4 (by decide) (fun c_1 => ?_) (fun c_1 => ?_)
  · have hR := hR.trans (if_pos c_1)
    refine lv_iconst (v := 0) hx hb dX6_isAlarm_23 (by decide) ?_
    have hR := hR.symm
    subst hR
    exact W.zret (v := 0) hx hb hr rfl (fun t ht hW => ⟨⟨_, (), rfl, rfl, by rw [ht]; exact hP, hD⟩, hS.F ht⟩) hS.2.2 dX6_isAlarm_24
  · have hR := hR.trans (if_neg c_1)
    refine lv_iload_n hx hb dX6_isAlarm_7 rfl (lv_at hl 2 rfl) ?_
    refine lv_i2l (v := a2.toInt64) hx hb dX6_isAlarm_8 rfl ?_
    refine lv_lconst (v := 0) hx hb dX6_isAlarm_9 (by decide) ?_
    refine lv_ldc2 (v := 3) hx hb hown (hts (.constantLong RX6 101 3) (by decide +kernel)) dX6_isAlarm_10 ?_
    refine zai (va_runS (As := [.long a2.toInt64, .long 0, .long 3]) (rest := []) ⟨hx, hb, hml, hown, hts⟩ (c_X6_in l G cs ad tl σ a2.toInt64 0 3  H.size) (va_cwS 3 hts gX6_isAlarm_X6_in rfl rfl rfl (by decide +kernel) ⟨Nat.le_of_ble_eq_true rfl, Nat.le_of_ble_eq_true rfl⟩) (zps hE hP hD hS hA) rfl rfl hl.1 rfl (lv_room (Nat.le_of_ble_eq_true rfl)) dX6_isAlarm_13 ⟨Nat.le_of_ble_eq_true rfl, Nat.le_of_ble_eq_true rfl⟩) hD hS hA (fun H locs hP hD hS => ?_)
    refine lv_if_eq (tgt := 23) hx hb dX6_isAlarm_16 (by decide) (fun c_2 => ?_) (fun c_2 => ?_)
    · have hR := hR.trans (if_pos c_2)
      refine lv_iconst (v := 0) hx hb dX6_isAlarm_23 (by decide) ?_
      have hR := hR.symm
      subst hR
      exact W.zret (v := 0) hx hb hr rfl (fun t ht hW => ⟨⟨_, (), rfl, rfl, by rw [ht]; exact hP, hD⟩, hS.F ht⟩) hS.2.2 dX6_isAlarm_24
    · have hR := hR.trans (if_neg c_2)
      refine lv_iconst (v := 1) hx hb dX6_isAlarm_19 (by decide) ?_
      refine lv_goto (tgt := 24) hx hb dX6_isAlarm_20 (by decide) ?_
      have hR := hR.symm
      subst hR
      exact W.zret (v := 1) hx hb hr rfl (fun t ht hW => ⟨⟨_, (), rfl, rfl, by rw [ht]; exact hP, hD⟩, hS.F ht⟩) hS.2.2 dX6_isAlarm_24
theorem nar_X6_isAlarm (σ : zS) (a1 : Int32) (a2 : Int32) : narrow .boolean (.int (f_X6_isAlarm σ a1 a2)) = .int (f_X6_isAlarm σ a1 a2) := by unfold f_X6_isAlarm; (repeat' split) <;> rfl
theorem vin_X6_isAlarm {σ : zS} {a1 a2 : Int32} (h : ¬ (f_X6_isAlarm σ a1 a2) = 0) : vp_in ((4 * a1) + a2) 32 := by
  unfold f_X6_isAlarm at h
  (repeat' split at h) <;> first | exact absurd rfl h | skip
  rename_i c1 c2
  have h1 := vin_in c2
  rw [zi64] at h1
  have h2 : (0 : Int64).toInt = 0 := by decide
  have h3 : (3 : Int64).toInt = 3 := by decide
  obtain ⟨j, e1, e2, -⟩ := vp_of (vin_X6_isUnit c1) (by omega)
  obtain ⟨i, f1, f2, -⟩ := vp_of (vp_in_iff.mpr ⟨by omega, by omega⟩ : vp_in a2 4) (by omega)
  rw [e2, f2, show (4 : Int32) = nI 4 from rfl, pk_mul, nI_add]
  exact vp_in_nI (by omega) (by omega)
def f_X6_isShelved (σ : zS) (a1 : Int32) : Int32 := (if (σ 36 a1.toNatClampNeg) = (-1) then 0 else (if (σ 38 a1.toNatClampNeg) ≤ (σ 29 0) then 0 else 1))
theorem iX6_isShelved : ∀ w ∈ u_ws RX6 TX6 29, w ∈ wsX6_isShelved := by decide +kernel
set_option maxRecDepth 100000 in
theorem c_X6_isShelved (l : Launch) (G : va_G) (cs : Nat → ClassId) (ad : Nat → Nat) (tl : va_W) (σ : zS) (a1 : Int32) (ha : vp_in a1 32) : zMi l yX6_isShelved wsX6_isShelved { frames := 0, cells := 0, slots := 0, locals := 0 } G cs [.ref (ad 29), .int a1] (zw cs ad σ tl) (f_X6_isShelved σ a1) (zw cs ad σ tl) 0 0 := by
  intro sz
  refine Met.ofW (cc := cX6_isShelved) (maxL := 2) (ret := (some .boolean)) (by decide) rfl ?_
  intro p e s m args below meth c s₁ B hml hv
  obtain ⟨rfl, hsz, hP, hD0, hE⟩ := hv
  have hx := B.exec
  have hb := B.bytes
  have hr := B.returns
  have hts := atoms_spec (ws := wsX6_isShelved) B.pre
  have hown : s.vm.findClass RX6 = some m.cls := findClass_of_methodNamed B.named
  have hlocks := B.notSynchronized
  subst hsz
  have hD := hD0.self (sz := s.heap.size)
  have hA : ∀ q : Nat, s.heap.size ≤ q → (va_A (zw cs ad σ tl) s.heap.size) q := fun q h => Or.inr h
  generalize va_A (zw cs ad σ tl) s.heap.size = A at hD hE hA ⊢
  have hS : va_S A s.heap s.heap [] := va_S.rf
  have hl := lv_entry ([.ref (ad 29), .int a1]) (n := 2) (Nat.le_of_ble_eq_true rfl)
  rw [lg_entry_eq]
  generalize (lg_sl ([.ref (ad 29), .int a1]) ++ List.replicate (2 - (lg_sl ([.ref (ad 29), .int a1])).length) Slot.unset).toArray = ls at hl ⊢
  have hl : lv_has ls 2 [(0, .ref (ad 29)), (1, .int a1)] := hl
  generalize hR : (f_X6_isShelved σ a1) = RV
  have hR := hR.symm
  unfold f_X6_isShelved at hR
  obtain ⟨H, hH⟩ : ∃ z, z = s.heap := ⟨_, rfl⟩
  obtain ⟨locs, hlocs⟩ : ∃ z : List Loc, z = [] := ⟨_, rfl⟩
  rw [← hH] at hP
  have hS : va_S A s.heap H locs := by rw [hH, hlocs]; exact hS
  show W _ _ _ _ _ _ _ _ _ _ s.heap [] _ _ _ _
  rw [← hH, ← hlocs]
  clear hlocs
  refine lv_aload_n hx hb dX6_isShelved_0 rfl (lv_at hl 0 rfl) ?_
  refine va_get (D := G) (ci := 8) (v := .ref (ad 36)) (C := RX6) (T := TX6) (N := 29) hx hb hts iX6_isShelved hown hE.1 hP 29 (zg_29 cs ad σ tl) rfl 8 (by decide) (hts (.fieldLink RX6 30 "HandoverDeckModel" "alarmLine" "[I") (by decide +kernel)) (fun _ h9 => h9) rfl dX6_isShelved_1 ?_
  refine lv_iload_n hx hb dX6_isShelved_4 rfl (lv_at hl 1 rfl) ?_
  refine z_iald (v := (σ 36 a1.toNatClampNeg)) hx hb hE hP (zg_36 cs ad σ tl) ha rfl dX6_isShelved_5 ?_
  refine lv_iconst (v := (-1)) hx hb dX6_isShelved_6 (by decide) ?_
  refine lv_icmp_eq (tgt := 27) hx hb dX6_isShelved_7 (by decide) (fun c_1 => ?_) (fun c_1 => ?_)
  · have hR := hR.trans (if_pos c_1)
    refine lv_iconst (v := 0) hx hb dX6_isShelved_27 (by decide) ?_
    have hR := hR.symm
    subst hR
    exact W.zret (v := 0) hx hb hr rfl (fun t ht hW => ⟨⟨_, (), rfl, rfl, by rw [ht]; exact hP, hD⟩, hS.F ht⟩) hS.2.2 dX6_isShelved_28
  · have hR := hR.trans (if_neg c_1)
    refine lv_aload_n hx hb dX6_isShelved_10 rfl (lv_at hl 0 rfl) ?_
    refine va_get (D := G) (ci := 8) (v := .int (σ 29 0)) (C := RX6) (T := TX6) (N := 29) hx hb hts iX6_isShelved hown hE.1 hP 29 (zg_29 cs ad σ tl) rfl 0 (by decide) (hts (.fieldLink RX6 98 "HandoverDeckModel" "hour" "I") (by decide +kernel)) (fun _ h9 => h9) rfl dX6_isShelved_11 ?_
    refine lv_aload_n hx hb dX6_isShelved_14 rfl (lv_at hl 0 rfl) ?_
    refine va_get (D := G) (ci := 8) (v := .ref (ad 38)) (C := RX6) (T := TX6) (N := 29) hx hb hts iX6_isShelved hown hE.1 hP 29 (zg_29 cs ad σ tl) rfl 10 (by decide) (hts (.fieldLink RX6 36 "HandoverDeckModel" "shelvedTo" "[I") (by decide +kernel)) (fun _ h9 => h9) rfl dX6_isShelved_15 ?_
    refine lv_iload_n hx hb dX6_isShelved_18 rfl (lv_at hl 1 rfl) ?_
    refine z_iald (v := (σ 38 a1.toNatClampNeg)) hx hb hE hP (zg_38 cs ad σ tl) ha rfl dX6_isShelved_19 ?_
    refine lv_icmp_ge (tgt := 27) hx hb dX6_isShelved_20 (by decide) (fun c_2 => ?_) (fun c_2 => ?_)
    · have hR := hR.trans (if_pos c_2)
      refine lv_iconst (v := 0) hx hb dX6_isShelved_27 (by decide) ?_
      have hR := hR.symm
      subst hR
      exact W.zret (v := 0) hx hb hr rfl (fun t ht hW => ⟨⟨_, (), rfl, rfl, by rw [ht]; exact hP, hD⟩, hS.F ht⟩) hS.2.2 dX6_isShelved_28
    · have hR := hR.trans (if_neg c_2)
      refine lv_iconst (v := 1) hx hb dX6_isShelved_23 (by decide) ?_
      refine lv_goto (tgt := 28) hx hb dX6_isShelved_24 (by decide) ?_
      have hR := hR.symm
      subst hR
      exact W.zret (v := 1) hx hb hr rfl (fun t ht hW => ⟨⟨_, (), rfl, rfl, by rw [ht]; exact hP, hD⟩, hS.F ht⟩) hS.2.2 dX6_isShelved_28
theorem nar_X6_isShelved (σ : zS) (a1 : Int32) : narrow .boolean (.int (f_X6_isShelved σ a1)) = .int (f_X6_isShelved σ a1) := by unfold f_X6_isShelved; (repeat' split) <;> rfl
def f_X6_isProcedure (σ : zS) (a1 : Int32) : Int32 := (f_X6_in a1.toInt64 0 ((σ 29 20) - 1).toInt64)
theorem iX6_isProcedure : ∀ w ∈ u_ws RX6 TX6 29, w ∈ wsX6_isProcedure := by decide +kernel
set_option maxRecDepth 100000 in
theorem c_X6_isProcedure (l : Launch) (G : va_G) (cs : Nat → ClassId) (ad : Nat → Nat) (tl : va_W) (σ : zS) (a1 : Int32)  : zMi l yX6_isProcedure wsX6_isProcedure { frames := 1, cells := 0, slots := 0, locals := 25 } G cs [.ref (ad 29), .int a1] (zw cs ad σ tl) (f_X6_isProcedure σ a1) (zw cs ad σ tl) 0 0 := by
  intro sz
  refine Met.ofW (cc := cX6_isProcedure) (maxL := 2) (ret := (some .boolean)) (by decide) rfl ?_
  intro p e s m args below meth c s₁ B hml hv
  obtain ⟨rfl, hsz, hP, hD0, hE⟩ := hv
  have hx := B.exec
  have hb := B.bytes
  have hr := B.returns
  have hts := atoms_spec (ws := wsX6_isProcedure) B.pre
  have hown : s.vm.findClass RX6 = some m.cls := findClass_of_methodNamed B.named
  have hlocks := B.notSynchronized
  subst hsz
  have hD := hD0.self (sz := s.heap.size)
  have hA : ∀ q : Nat, s.heap.size ≤ q → (va_A (zw cs ad σ tl) s.heap.size) q := fun q h => Or.inr h
  generalize va_A (zw cs ad σ tl) s.heap.size = A at hD hE hA ⊢
  have hS : va_S A s.heap s.heap [] := va_S.rf
  have hl := lv_entry ([.ref (ad 29), .int a1]) (n := 2) (Nat.le_of_ble_eq_true rfl)
  rw [lg_entry_eq]
  generalize (lg_sl ([.ref (ad 29), .int a1]) ++ List.replicate (2 - (lg_sl ([.ref (ad 29), .int a1])).length) Slot.unset).toArray = ls at hl ⊢
  have hl : lv_has ls 2 [(0, .ref (ad 29)), (1, .int a1)] := hl
  generalize hR : (f_X6_isProcedure σ a1) = RV
  have hR := hR.symm
  unfold f_X6_isProcedure at hR
  obtain ⟨H, hH⟩ : ∃ z, z = s.heap := ⟨_, rfl⟩
  obtain ⟨locs, hlocs⟩ : ∃ z : List Loc, z = [] := ⟨_, rfl⟩
  rw [← hH] at hP
  have hS : va_S A s.heap H locs := by rw [hH, hlocs]; exact hS
  show W _ _ _ _ _ _ _ _ _ _ s.heap [] _ _ _ _
  rw [← hH, ← hlocs]
  clear hlocs
  refine lv_iload_n hx hb dX6_isProcedure_0 rfl (lv_at hl 1 rfl) ?_
  refine lv_i2l (v := a1.toInt64) hx hb dX6_isProcedure_1 rfl ?_
  refine lv_lconst (v := 0) hx hb dX6_isProcedure_2 (by decide) ?_
  refine lv_aload_n hx hb dX6_isProcedure_3 rfl (lv_at hl 0 rfl) ?_
  refine va_get (D := G) (ci := 8) (v := .int (σ 29 20)) (C := RX6) (T := TX6) (N := 29) hx hb hts iX6_isProcedure hown hE.1 hP 29 (zg_29 cs ad σ tl) rfl 20 (by decide) (hts (.fieldLink RX6 118 "HandoverDeckModel" "procedures" "I") (by decide +kernel)) (fun _ h9 => h9) rfl dX6_isProcedure_4 ?_
  refine lv_iconst (v := 1) hx hb dX6_isProcedure_7 (by decide) ?_
  refine lv_isub hx hb dX6_isProcedure_8 ?_
  refine lv_i2l (v := ((σ 29 20) - 1).toInt64) hx hb dX6_isProcedure_9 rfl ?_
  refine zai (va_runS (As := [.long a1.toInt64, .long 0, .long ((σ 29 20) - 1).toInt64]) (rest := []) ⟨hx, hb, hml, hown, hts⟩ (c_X6_in l G cs ad tl σ a1.toInt64 0 ((σ 29 20) - 1).toInt64  H.size) (va_cwS 3 hts gX6_isProcedure_X6_in rfl rfl rfl (by decide +kernel) ⟨Nat.le_of_ble_eq_true rfl, Nat.le_of_ble_eq_true rfl⟩) (zps hE hP hD hS hA) rfl rfl hl.1 rfl (lv_room (Nat.le_of_ble_eq_true rfl)) dX6_isProcedure_10 ⟨Nat.le_of_ble_eq_true rfl, Nat.le_of_ble_eq_true rfl⟩) hD hS hA (fun H locs hP hD hS => ?_)
  have hR := hR.symm
  subst hR
  exact W.zret (v := (f_X6_in a1.toInt64 0 ((σ 29 20) - 1).toInt64)) hx hb hr (nar_X6_in a1.toInt64 0 ((σ 29 20) - 1).toInt64) (fun t ht hW => ⟨⟨_, (), rfl, rfl, by rw [ht]; exact hP, hD⟩, hS.F ht⟩) hS.2.2 dX6_isProcedure_13
theorem vin_X6_isProcedure {σ : zS} {a1 : Int32} (hI : zI σ) (h : ¬ (f_X6_isProcedure σ a1) = 0) : vp_in a1 6 := by
  unfold f_X6_isProcedure at h
  have h1 := vin_in h
  obtain ⟨n, e1, e2⟩ := hI.2.1
  rw [zi64, zi64, e2] at h1
  have h2 : (0 : Int64).toInt = 0 := by decide
  have h3 : (nI n - 1).toInt = (n : Int) - 1 := pk_sub_toInt (b := 1) (by omega) (by omega)
  exact vp_in_iff.mpr ⟨by omega, by omega⟩
def f_X6_asks (σ : zS) (a1 : Int32) : Int32 × zS := (if (f_X6_isProcedure σ a1) = 0 then (0, (zs σ 29 28 1)) else (1, (zs σ 29 28 0)))
theorem iX6_asks : ∀ w ∈ u_ws RX6 TX6 29, w ∈ wsX6_asks := by decide +kernel
set_option maxRecDepth 100000 in
theorem c_X6_asks (l : Launch) (G : va_G) (cs : Nat → ClassId) (ad : Nat → Nat) (tl : va_W) (σ : zS) (a1 : Int32)  : zMi l yX6_asks wsX6_asks { frames := 2, cells := 0, slots := 0, locals := 46 } G cs [.ref (ad 29), .int a1] (zw cs ad σ tl) (f_X6_asks σ a1).1 (zw cs ad (f_X6_asks σ a1).2 tl) 0 0 := by
  intro sz
  refine Met.ofW (cc := cX6_asks) (maxL := 2) (ret := (some .boolean)) (by decide) rfl ?_
  intro p e s m args below meth c s₁ B hml hv
  obtain ⟨rfl, hsz, hP, hD0, hE⟩ := hv
  have hx := B.exec
  have hb := B.bytes
  have hr := B.returns
  have hts := atoms_spec (ws := wsX6_asks) B.pre
  have hown : s.vm.findClass RX6 = some m.cls := findClass_of_methodNamed B.named
  have hlocks := B.notSynchronized
  subst hsz
  have hD := hD0.self (sz := s.heap.size)
  have hA : ∀ q : Nat, s.heap.size ≤ q → (va_A (zw cs ad σ tl) s.heap.size) q := fun q h => Or.inr h
  generalize va_A (zw cs ad σ tl) s.heap.size = A at hD hE hA ⊢
  have hS : va_S A s.heap s.heap [] := va_S.rf
  have hl := lv_entry ([.ref (ad 29), .int a1]) (n := 2) (Nat.le_of_ble_eq_true rfl)
  rw [lg_entry_eq]
  generalize (lg_sl ([.ref (ad 29), .int a1]) ++ List.replicate (2 - (lg_sl ([.ref (ad 29), .int a1])).length) Slot.unset).toArray = ls at hl ⊢
  have hl : lv_has ls 2 [(0, .ref (ad 29)), (1, .int a1)] := hl
  generalize hR : (f_X6_asks σ a1) = RV
  have hR := hR.symm
  unfold f_X6_asks at hR
  obtain ⟨RVv, RVs⟩ := RV
  dsimp only
  obtain ⟨H, hH⟩ : ∃ z, z = s.heap := ⟨_, rfl⟩
  obtain ⟨locs, hlocs⟩ : ∃ z : List Loc, z = [] := ⟨_, rfl⟩
  rw [← hH] at hP
  have hS : va_S A s.heap H locs := by rw [hH, hlocs]; exact hS
  show W _ _ _ _ _ _ _ _ _ _ s.heap [] _ _ _ _
  rw [← hH, ← hlocs]
  clear hlocs
  refine lv_aload_n hx hb dX6_asks_0 rfl (lv_at hl 0 rfl) ?_
  refine lv_aload_n hx hb dX6_asks_1 rfl (lv_at hl 0 rfl) ?_
  refine lv_iload_n hx hb dX6_asks_2 rfl (lv_at hl 1 rfl) ?_
  refine zai (va_runV (As := [.int a1]) (rest := [.ref (ad 29)]) ⟨hx, hb, hml, hown, hts⟩ (c_X6_isProcedure l G cs ad tl σ a1  H.size) (cwV 1 hts gX6_asks_X6_isProcedure rfl rfl rfl (by decide +kernel) ⟨Nat.le_of_ble_eq_true rfl, Nat.le_of_ble_eq_true rfl⟩) (zpv hE hP hD hS hA (zg_29 cs ad σ tl) rfl) rfl rfl hl.1 rfl (lv_room (Nat.le_of_ble_eq_true rfl)) dX6_asks_3 ⟨Nat.le_of_ble_eq_true rfl, Nat.le_of_ble_eq_true rfl⟩) hD hS hA (fun H locs hP hD hS => ?_)
  refine lv_if_eq (tgt := 13) hx hb dX6_asks_6 (by decide) (fun c_1 => ?_) (fun c_1 => ?_)
  · have hR := hR.trans (if_pos c_1)
    refine lv_iconst (v := 1) hx hb dX6_asks_13 (by decide) ?_
    refine va_put (D := G) (ci := 8) (v := .int 1) (ty := .int) (C := RX6) (T := TX6) (N := 29) hx hb hts iX6_asks tyX6 tyX6_ok nmX6 hown hE.1 hP hD hS 29 (zg_29 cs ad σ tl) rfl 28 (by decide) (hts (.fieldLink RX6 82 "HandoverDeckModel" "thrown" "I") (by decide +kernel)) (fun _ h9 => h9) rfl (by decide +kernel) rfl rfl (Nat.le_of_ble_eq_true rfl) dX6_asks_14 (fun H locs hP hD hS => ?_)
    rw [zb_29_28 cs ad σ tl] at hP hD
    refine lv_aload_n hx hb dX6_asks_17 rfl (lv_at hl 0 rfl) ?_
    refine va_get (D := G) (ci := 8) (v := .int 1) (C := RX6) (T := TX6) (N := 29) hx hb hts iX6_asks hown hE.1 hP 29 (zg_29 cs ad (zs σ 29 28 1) tl) rfl 28 (by decide) (hts (.fieldLink RX6 82 "HandoverDeckModel" "thrown" "I") (by decide +kernel)) (fun _ h9 => h9) rfl dX6_asks_18 ?_
    refine lv_if_ne (tgt := 28) hx hb dX6_asks_21 (by decide) (fun _ => ?_) (fun c => absurd c (by decide))
    refine lv_iconst (v := 0) hx hb dX6_asks_28 (by decide) ?_
    obtain ⟨e1, e2⟩ := z2 hR.symm
    subst e1; subst e2
    exact W.zret (v := 0) hx hb hr rfl (fun t ht hW => ⟨⟨_, (), rfl, rfl, by rw [ht]; exact hP, hD⟩, hS.F ht⟩) hS.2.2 dX6_asks_29
  · have hR := hR.trans (if_neg c_1)
    refine lv_iconst (v := 0) hx hb dX6_asks_9 (by decide) ?_
    refine lv_goto (tgt := 14) hx hb dX6_asks_10 (by decide) ?_
    refine va_put (D := G) (ci := 8) (v := .int 0) (ty := .int) (C := RX6) (T := TX6) (N := 29) hx hb hts iX6_asks tyX6 tyX6_ok nmX6 hown hE.1 hP hD hS 29 (zg_29 cs ad σ tl) rfl 28 (by decide) (hts (.fieldLink RX6 82 "HandoverDeckModel" "thrown" "I") (by decide +kernel)) (fun _ h9 => h9) rfl (by decide +kernel) rfl rfl (Nat.le_of_ble_eq_true rfl) dX6_asks_14 (fun H locs hP hD hS => ?_)
    rw [zb_29_28 cs ad σ tl] at hP hD
    refine lv_aload_n hx hb dX6_asks_17 rfl (lv_at hl 0 rfl) ?_
    refine va_get (D := G) (ci := 8) (v := .int 0) (C := RX6) (T := TX6) (N := 29) hx hb hts iX6_asks hown hE.1 hP 29 (zg_29 cs ad (zs σ 29 28 0) tl) rfl 28 (by decide) (hts (.fieldLink RX6 82 "HandoverDeckModel" "thrown" "I") (by decide +kernel)) (fun _ h9 => h9) rfl dX6_asks_18 ?_
    refine lv_if_ne (tgt := 28) hx hb dX6_asks_21 (by decide) (fun c => absurd c (by decide)) (fun _ => ?_)
    refine lv_iconst (v := 1) hx hb dX6_asks_24 (by decide) ?_
    refine lv_goto (tgt := 29) hx hb dX6_asks_25 (by decide) ?_
    obtain ⟨e1, e2⟩ := z2 hR.symm
    subst e1; subst e2
    exact W.zret (v := 1) hx hb hr rfl (fun t ht hW => ⟨⟨_, (), rfl, rfl, by rw [ht]; exact hP, hD⟩, hS.F ht⟩) hS.2.2 dX6_asks_29
theorem vin_X6_asks {σ : zS} {a1 : Int32} (hI : zI σ) (h : ¬ (f_X6_asks σ a1).1 = 0) : vp_in a1 6 := by
  unfold f_X6_asks at h
  split at h
  · exact absurd rfl h
  · rename_i c1
    exact vin_X6_isProcedure hI c1
theorem zI_asks {σ : zS} {a1 : Int32} (hI : zI σ) : zI (f_X6_asks σ a1).2 := by
  unfold f_X6_asks
  split <;> exact hI
def f_X6_tired (σ : zS)  : Int32 := (if (σ 29 24) = (-1) then 0 else (if ((σ 29 0) - (σ 29 25)) < 12 then 0 else 1))
theorem iX6_tired : ∀ w ∈ u_ws RX6 TX6 29, w ∈ wsX6_tired := by decide +kernel
set_option maxRecDepth 100000 in
theorem c_X6_tired (l : Launch) (G : va_G) (cs : Nat → ClassId) (ad : Nat → Nat) (tl : va_W) (σ : zS)   : zMi l yX6_tired wsX6_tired { frames := 0, cells := 0, slots := 0, locals := 0 } G cs [.ref (ad 29)] (zw cs ad σ tl) (f_X6_tired σ ) (zw cs ad σ tl) 0 0 := by
  intro sz
  refine Met.ofW (cc := cX6_tired) (maxL := 1) (ret := (some .boolean)) (by decide) rfl ?_
  intro p e s m args below meth c s₁ B hml hv
  obtain ⟨rfl, hsz, hP, hD0, hE⟩ := hv
  have hx := B.exec
  have hb := B.bytes
  have hr := B.returns
  have hts := atoms_spec (ws := wsX6_tired) B.pre
  have hown : s.vm.findClass RX6 = some m.cls := findClass_of_methodNamed B.named
  have hlocks := B.notSynchronized
  subst hsz
  have hD := hD0.self (sz := s.heap.size)
  have hA : ∀ q : Nat, s.heap.size ≤ q → (va_A (zw cs ad σ tl) s.heap.size) q := fun q h => Or.inr h
  generalize va_A (zw cs ad σ tl) s.heap.size = A at hD hE hA ⊢
  have hS : va_S A s.heap s.heap [] := va_S.rf
  have hl := lv_entry ([.ref (ad 29)]) (n := 1) (Nat.le_of_ble_eq_true rfl)
  rw [lg_entry_eq]
  generalize (lg_sl ([.ref (ad 29)]) ++ List.replicate (1 - (lg_sl ([.ref (ad 29)])).length) Slot.unset).toArray = ls at hl ⊢
  have hl : lv_has ls 1 [(0, .ref (ad 29))] := hl
  generalize hR : (f_X6_tired σ ) = RV
  have hR := hR.symm
  unfold f_X6_tired at hR
  obtain ⟨H, hH⟩ : ∃ z, z = s.heap := ⟨_, rfl⟩
  obtain ⟨locs, hlocs⟩ : ∃ z : List Loc, z = [] := ⟨_, rfl⟩
  rw [← hH] at hP
  have hS : va_S A s.heap H locs := by rw [hH, hlocs]; exact hS
  show W _ _ _ _ _ _ _ _ _ _ s.heap [] _ _ _ _
  rw [← hH, ← hlocs]
  clear hlocs
  refine lv_aload_n hx hb dX6_tired_0 rfl (lv_at hl 0 rfl) ?_
  refine va_get (D := G) (ci := 8) (v := .int (σ 29 24)) (C := RX6) (T := TX6) (N := 29) hx hb hts iX6_tired hown hE.1 hP 29 (zg_29 cs ad σ tl) rfl 24 (by decide) (hts (.fieldLink RX6 72 "HandoverDeckModel" "crew" "I") (by decide +kernel)) (fun _ h9 => h9) rfl dX6_tired_1 ?_
  refine lv_iconst (v := (-1)) hx hb dX6_tired_4 (by decide) ?_
  refine lv_icmp_eq (tgt := 26) hx hb dX6_tired_5 (by decide) (fun c_1 => ?_) (fun c_1 => ?_)
  · have hR := hR.trans (if_pos c_1)
    refine lv_iconst (v := 0) hx hb dX6_tired_26 (by decide) ?_
    have hR := hR.symm
    subst hR
    exact W.zret (v := 0) hx hb hr rfl (fun t ht hW => ⟨⟨_, (), rfl, rfl, by rw [ht]; exact hP, hD⟩, hS.F ht⟩) hS.2.2 dX6_tired_27
  · have hR := hR.trans (if_neg c_1)
    refine lv_aload_n hx hb dX6_tired_8 rfl (lv_at hl 0 rfl) ?_
    refine va_get (D := G) (ci := 8) (v := .int (σ 29 0)) (C := RX6) (T := TX6) (N := 29) hx hb hts iX6_tired hown hE.1 hP 29 (zg_29 cs ad σ tl) rfl 0 (by decide) (hts (.fieldLink RX6 98 "HandoverDeckModel" "hour" "I") (by decide +kernel)) (fun _ h9 => h9) rfl dX6_tired_9 ?_
    refine lv_aload_n hx hb dX6_tired_12 rfl (lv_at hl 0 rfl) ?_
    refine va_get (D := G) (ci := 8) (v := .int (σ 29 25)) (C := RX6) (T := TX6) (N := 29) hx hb hts iX6_tired hown hE.1 hP 29 (zg_29 cs ad σ tl) rfl 25 (by decide) (hts (.fieldLink RX6 127 "HandoverDeckModel" "since" "I") (by decide +kernel)) (fun _ h9 => h9) rfl dX6_tired_13 ?_
    refine lv_isub hx hb dX6_tired_16 ?_
    refine lv_bipush (v := 12) hx hb dX6_tired_17 (by decide) ?_
    refine lv_icmp_lt (tgt := 26) hx hb dX6_tired_19 (by decide) (fun c_2 => ?_) (fun c_2 => ?_)
    · have hR := hR.trans (if_pos c_2)
      refine lv_iconst (v := 0) hx hb dX6_tired_26 (by decide) ?_
      have hR := hR.symm
      subst hR
      exact W.zret (v := 0) hx hb hr rfl (fun t ht hW => ⟨⟨_, (), rfl, rfl, by rw [ht]; exact hP, hD⟩, hS.F ht⟩) hS.2.2 dX6_tired_27
    · have hR := hR.trans (if_neg c_2)
      refine lv_iconst (v := 1) hx hb dX6_tired_22 (by decide) ?_
      refine lv_goto (tgt := 27) hx hb dX6_tired_23 (by decide) ?_
      have hR := hR.symm
      subst hR
      exact W.zret (v := 1) hx hb hr rfl (fun t ht hW => ⟨⟨_, (), rfl, rfl, by rw [ht]; exact hP, hD⟩, hS.F ht⟩) hS.2.2 dX6_tired_27
theorem nar_X6_tired (σ : zS)  : narrow .boolean (.int (f_X6_tired σ )) = .int (f_X6_tired σ ) := by unfold f_X6_tired; (repeat' split) <;> rfl
def f_X6_acts (σ : zS)  : Int32 := (if (σ 29 24) = (-1) then 0 else (if (σ 29 26) = (-1) then 1 else 0))
theorem iX6_acts : ∀ w ∈ u_ws RX6 TX6 29, w ∈ wsX6_acts := by decide +kernel
set_option maxRecDepth 100000 in
theorem c_X6_acts (l : Launch) (G : va_G) (cs : Nat → ClassId) (ad : Nat → Nat) (tl : va_W) (σ : zS)   : zMi l yX6_acts wsX6_acts { frames := 0, cells := 0, slots := 0, locals := 0 } G cs [.ref (ad 29)] (zw cs ad σ tl) (f_X6_acts σ ) (zw cs ad σ tl) 0 0 := by
  intro sz
  refine Met.ofW (cc := cX6_acts) (maxL := 1) (ret := (some .boolean)) (by decide) rfl ?_
  intro p e s m args below meth c s₁ B hml hv
  obtain ⟨rfl, hsz, hP, hD0, hE⟩ := hv
  have hx := B.exec
  have hb := B.bytes
  have hr := B.returns
  have hts := atoms_spec (ws := wsX6_acts) B.pre
  have hown : s.vm.findClass RX6 = some m.cls := findClass_of_methodNamed B.named
  have hlocks := B.notSynchronized
  subst hsz
  have hD := hD0.self (sz := s.heap.size)
  have hA : ∀ q : Nat, s.heap.size ≤ q → (va_A (zw cs ad σ tl) s.heap.size) q := fun q h => Or.inr h
  generalize va_A (zw cs ad σ tl) s.heap.size = A at hD hE hA ⊢
  have hS : va_S A s.heap s.heap [] := va_S.rf
  have hl := lv_entry ([.ref (ad 29)]) (n := 1) (Nat.le_of_ble_eq_true rfl)
  rw [lg_entry_eq]
  generalize (lg_sl ([.ref (ad 29)]) ++ List.replicate (1 - (lg_sl ([.ref (ad 29)])).length) Slot.unset).toArray = ls at hl ⊢
  have hl : lv_has ls 1 [(0, .ref (ad 29))] := hl
  generalize hR : (f_X6_acts σ ) = RV
  have hR := hR.symm
  unfold f_X6_acts at hR
  obtain ⟨H, hH⟩ : ∃ z, z = s.heap := ⟨_, rfl⟩
  obtain ⟨locs, hlocs⟩ : ∃ z : List Loc, z = [] := ⟨_, rfl⟩
  rw [← hH] at hP
  have hS : va_S A s.heap H locs := by rw [hH, hlocs]; exact hS
  show W _ _ _ _ _ _ _ _ _ _ s.heap [] _ _ _ _
  rw [← hH, ← hlocs]
  clear hlocs
  refine lv_aload_n hx hb dX6_acts_0 rfl (lv_at hl 0 rfl) ?_
  refine va_get (D := G) (ci := 8) (v := .int (σ 29 24)) (C := RX6) (T := TX6) (N := 29) hx hb hts iX6_acts hown hE.1 hP 29 (zg_29 cs ad σ tl) rfl 24 (by decide) (hts (.fieldLink RX6 72 "HandoverDeckModel" "crew" "I") (by decide +kernel)) (fun _ h9 => h9) rfl dX6_acts_1 ?_
  refine lv_iconst (v := (-1)) hx hb dX6_acts_4 (by decide) ?_
  refine lv_icmp_eq (tgt := 20) hx hb dX6_acts_5 (by decide) (fun c_1 => ?_) (fun c_1 => ?_)
  · have hR := hR.trans (if_pos c_1)
    refine lv_iconst (v := 0) hx hb dX6_acts_20 (by decide) ?_
    have hR := hR.symm
    subst hR
    exact W.zret (v := 0) hx hb hr rfl (fun t ht hW => ⟨⟨_, (), rfl, rfl, by rw [ht]; exact hP, hD⟩, hS.F ht⟩) hS.2.2 dX6_acts_21
  · have hR := hR.trans (if_neg c_1)
    refine lv_aload_n hx hb dX6_acts_8 rfl (lv_at hl 0 rfl) ?_
    refine va_get (D := G) (ci := 8) (v := .int (σ 29 26)) (C := RX6) (T := TX6) (N := 29) hx hb hts iX6_acts hown hE.1 hP 29 (zg_29 cs ad σ tl) rfl 26 (by decide) (hts (.fieldLink RX6 76 "HandoverDeckModel" "next" "I") (by decide +kernel)) (fun _ h9 => h9) rfl dX6_acts_9 ?_
    refine lv_iconst (v := (-1)) hx hb dX6_acts_12 (by decide) ?_
    refine lv_icmp_ne (tgt := 20) hx hb dX6_acts_13 (by decide) (fun c_2 => ?_) (fun c_2 => ?_)
    · have hR := hR.trans (if_neg c_2)
      refine lv_iconst (v := 0) hx hb dX6_acts_20 (by decide) ?_
      have hR := hR.symm
      subst hR
      exact W.zret (v := 0) hx hb hr rfl (fun t ht hW => ⟨⟨_, (), rfl, rfl, by rw [ht]; exact hP, hD⟩, hS.F ht⟩) hS.2.2 dX6_acts_21
    · have hR := hR.trans (if_pos c_2)
      refine lv_iconst (v := 1) hx hb dX6_acts_16 (by decide) ?_
      refine lv_goto (tgt := 21) hx hb dX6_acts_17 (by decide) ?_
      have hR := hR.symm
      subst hR
      exact W.zret (v := 1) hx hb hr rfl (fun t ht hW => ⟨⟨_, (), rfl, rfl, by rw [ht]; exact hP, hD⟩, hS.F ht⟩) hS.2.2 dX6_acts_21
theorem nar_X6_acts (σ : zS)  : narrow .boolean (.int (f_X6_acts σ )) = .int (f_X6_acts σ ) := by unfold f_X6_acts; (repeat' split) <;> rfl
def L_X6_barring_2 (σ : zS) (a1 : Int32) : Nat → Int32 → Int32
  | 0, _ => 0
  | n + 1, x2 => (if (σ 29 23) ≤ x2 then (-1) else (if (σ 32 (σ 49 x2.toNatClampNeg).toNatClampNeg) = 0 then (L_X6_barring_2 σ a1 n (x2 + 1)) else (if (((σ 48 x2.toNatClampNeg) >>> (a1 &&& 31)) &&& 1) = 1 then x2 else (L_X6_barring_2 σ a1 n (x2 + 1)))))
def f_X6_barring (σ : zS) (a1 : Int32) : Int32 := (L_X6_barring_2 σ a1 9 0)
theorem iX6_barring : ∀ w ∈ u_ws RX6 TX6 29, w ∈ wsX6_barring := by decide +kernel
set_option maxRecDepth 100000 in
theorem c_X6_barring (l : Launch) (G : va_G) (cs : Nat → ClassId) (ad : Nat → Nat) (tl : va_W) (σ : zS) (a1 : Int32) (hI : zI σ) : zMi l yX6_barring wsX6_barring { frames := 0, cells := 0, slots := 0, locals := 0 } G cs [.ref (ad 29), .int a1] (zw cs ad σ tl) (f_X6_barring σ a1) (zw cs ad σ tl) 0 0 := by
  intro sz
  refine Met.ofW (cc := cX6_barring) (maxL := 3) (ret := (some .int)) (by decide) rfl ?_
  intro p e s m args below meth c s₁ B hml hv
  obtain ⟨rfl, hsz, hP, hD0, hE⟩ := hv
  have hx := B.exec
  have hb := B.bytes
  have hr := B.returns
  have hts := atoms_spec (ws := wsX6_barring) B.pre
  have hown : s.vm.findClass RX6 = some m.cls := findClass_of_methodNamed B.named
  have hlocks := B.notSynchronized
  subst hsz
  have hD := hD0.self (sz := s.heap.size)
  have hA : ∀ q : Nat, s.heap.size ≤ q → (va_A (zw cs ad σ tl) s.heap.size) q := fun q h => Or.inr h
  generalize va_A (zw cs ad σ tl) s.heap.size = A at hD hE hA ⊢
  have hS : va_S A s.heap s.heap [] := va_S.rf
  have hl := lv_entry ([.ref (ad 29), .int a1]) (n := 3) (Nat.le_of_ble_eq_true rfl)
  rw [lg_entry_eq]
  generalize (lg_sl ([.ref (ad 29), .int a1]) ++ List.replicate (3 - (lg_sl ([.ref (ad 29), .int a1])).length) Slot.unset).toArray = ls at hl ⊢
  have hl : lv_has ls 3 [(0, .ref (ad 29)), (1, .int a1)] := hl
  generalize hR : (f_X6_barring σ a1) = RV
  have hR := hR.symm
  unfold f_X6_barring at hR
  obtain ⟨H, hH⟩ : ∃ z, z = s.heap := ⟨_, rfl⟩
  obtain ⟨locs, hlocs⟩ : ∃ z : List Loc, z = [] := ⟨_, rfl⟩
  rw [← hH] at hP
  have hS : va_S A s.heap H locs := by rw [hH, hlocs]; exact hS
  show W _ _ _ _ _ _ _ _ _ _ s.heap [] _ _ _ _
  rw [← hH, ← hlocs]
  clear hlocs
  obtain ⟨Qn, hQn8, hQn⟩ := hI.2.2.1
  refine lv_iconst (v := 0) hx hb dX6_barring_0 (by decide) ?_
  refine lv_istore_n (lv' := [(2, .int 0), (0, .ref (ad 29)), (1, .int a1)]) hx hb dX6_barring_1 rfl hl (by decide) rfl (fun ls hl => ?_)
  have loop_4 : ∀ (n k : Nat) (x2 : Int32), x2 = nI (k) → k ≤ Qn → k + n = 9 → RV = L_X6_barring_2 σ a1 n x2 → ∀ (H : Heap) (locs : List Loc), va_P G vwCl (zw cs ad σ tl) H → va_D A (zw cs ad σ tl) → va_S A s.heap H locs → ∀ ls : Array Slot, lv_has ls 3 [(0, .ref (ad 29)), (1, .int a1), (2, .int x2)] → W p l e (headSpec wsX6_barring { frames := 0, cells := 0, slots := 0, locals := 0 }).room s m (List.toArray [.ref (ad 29), .int a1]) below meth c H locs 0 0 (MQ below (va_Qi (fun (r : Int32) (_ : Unit) => r = RV) (fun _ t => zPo G A (zw cs ad σ tl) t) A) (List.toArray [.ref (ad 29), .int a1]) s 0 0 A) (F0 m 2 ls []) := by
    intro n
    induction n with
    | zero => intro k  x2 ex hk hn; omega
    | succ n ih =>
      intro k  x2 ex hk hn hR H locs hP hD hS ls hl
      rw [L_X6_barring_2] at hR
      refine lv_iload_n hx hb dX6_barring_2 rfl (lv_at hl 2 rfl) ?_
      refine lv_aload_n hx hb dX6_barring_3 rfl (lv_at hl 0 rfl) ?_
      refine va_get (D := G) (ci := 8) (v := .int (σ 29 23)) (C := RX6) (T := TX6) (N := 29) hx hb hts iX6_barring hown hE.1 hP 29 (zg_29 cs ad σ tl) rfl 23 (by decide) (hts (.fieldLink RX6 130 "HandoverDeckModel" "permits" "I") (by decide +kernel)) (fun _ h9 => h9) rfl dX6_barring_4 ?_
      refine lv_icmp_ge (tgt := 46) hx hb dX6_barring_7 (by decide) (fun c_1 => ?_) (fun c_1 => ?_)
      · have hR := hR.trans (if_pos c_1)
        refine lv_iconst (v := (-1)) hx hb dX6_barring_46 (by decide) ?_
        have hR := hR.symm
        subst hR
        exact W.iret (v := (-1)) hx hb hr (fun t ht hW => ⟨⟨_, (), rfl, rfl, by rw [ht]; exact hP, hD⟩, hS.F ht⟩) hS.2.2 dX6_barring_47
      · have hR := hR.trans (if_neg c_1)
        have hkB : k < Qn := zlt ex (by omega) ⟨hQn, by omega⟩ c_1
        refine lv_aload_n hx hb dX6_barring_10 rfl (lv_at hl 0 rfl) ?_
        refine va_get (D := G) (ci := 8) (v := .ref (ad 32)) (C := RX6) (T := TX6) (N := 29) hx hb hts iX6_barring hown hE.1 hP 29 (zg_29 cs ad σ tl) rfl 3 (by decide) (hts (.fieldLink RX6 17 "HandoverDeckModel" "isOpen" "[Z") (by decide +kernel)) (fun _ h9 => h9) rfl dX6_barring_11 ?_
        refine lv_aload_n hx hb dX6_barring_14 rfl (lv_at hl 0 rfl) ?_
        refine va_get (D := G) (ci := 8) (v := .ref (ad 49)) (C := RX6) (T := TX6) (N := 29) hx hb hts iX6_barring hown hE.1 hP 29 (zg_29 cs ad σ tl) rfl 22 (by decide) (hts (.fieldLink RX6 69 "HandoverDeckModel" "permitLine" "[I") (by decide +kernel)) (fun _ h9 => h9) rfl dX6_barring_15 ?_
        refine lv_iload_n hx hb dX6_barring_18 rfl (lv_at hl 2 rfl) ?_
        refine z_iald (v := (σ 49 x2.toNatClampNeg)) hx hb hE hP (zg_49 cs ad σ tl) (by rw [ex]; exact vp_in_nI (by omega) (by decide)) rfl dX6_barring_19 ?_
        refine z_zald (v := (σ 32 (σ 49 x2.toNatClampNeg).toNatClampNeg)) hx hb hE hP (zg_32 cs ad σ tl) (vi_pl hI (by rw [ex]; exact vp_in_nI (by omega) (by decide))) rfl dX6_barring_20 ?_
        refine lv_if_eq (tgt := 40) hx hb dX6_barring_21 (by decide) (fun c_2 => ?_) (fun c_2 => ?_)
        · have hR := hR.trans (if_pos c_2)
          refine lv_iinc (v := (x2 + 1)) (lv' := [(2, .int (x2 + 1)), (0, .ref (ad 29)), (1, .int a1)]) hx hb dX6_barring_40 hl (k := 2) rfl rfl (by decide) rfl (fun ls hl => ?_)
          refine lv_goto (tgt := 2) hx hb dX6_barring_43 (by decide) ?_
          exact ih (k + 1)  (x2 + 1) (by rw [ex]; exact nI_1 _) (by omega) (by omega)  hR H locs hP hD hS ls (lv_sub hl [1, 2, 0] rfl)
        · have hR := hR.trans (if_neg c_2)
          refine lv_aload_n hx hb dX6_barring_24 rfl (lv_at hl 0 rfl) ?_
          refine va_get (D := G) (ci := 8) (v := .ref (ad 48)) (C := RX6) (T := TX6) (N := 29) hx hb hts iX6_barring hown hE.1 hP 29 (zg_29 cs ad σ tl) rfl 21 (by decide) (hts (.fieldLink RX6 66 "HandoverDeckModel" "permitUnits" "[I") (by decide +kernel)) (fun _ h9 => h9) rfl dX6_barring_25 ?_
          refine lv_iload_n hx hb dX6_barring_28 rfl (lv_at hl 2 rfl) ?_
          refine z_iald (v := (σ 48 x2.toNatClampNeg)) hx hb hE hP (zg_48 cs ad σ tl) (by rw [ex]; exact vp_in_nI (by omega) (by decide)) rfl dX6_barring_29 ?_
          refine lv_iload_n hx hb dX6_barring_30 rfl (lv_at hl 1 rfl) ?_
          refine lv_ishr hx hb dX6_barring_31 ?_
          refine lv_iconst (v := 1) hx hb dX6_barring_32 (by decide) ?_
          refine lv_iand hx hb dX6_barring_33 ?_
          refine lv_iconst (v := 1) hx hb dX6_barring_34 (by decide) ?_
          refine lv_icmp_ne (tgt := 40) hx hb dX6_barring_35 (by decide) (fun c_3 => ?_) (fun c_3 => ?_)
          · have hR := hR.trans (if_neg c_3)
            refine lv_iinc (v := (x2 + 1)) (lv' := [(2, .int (x2 + 1)), (0, .ref (ad 29)), (1, .int a1)]) hx hb dX6_barring_40 hl (k := 2) rfl rfl (by decide) rfl (fun ls hl => ?_)
            refine lv_goto (tgt := 2) hx hb dX6_barring_43 (by decide) ?_
            exact ih (k + 1)  (x2 + 1) (by rw [ex]; exact nI_1 _) (by omega) (by omega)  hR H locs hP hD hS ls (lv_sub hl [1, 2, 0] rfl)
          · have hR := hR.trans (if_pos c_3)
            refine lv_iload_n hx hb dX6_barring_38 rfl (lv_at hl 2 rfl) ?_
            have hR := hR.symm
            subst hR
            exact W.iret (v := x2) hx hb hr (fun t ht hW => ⟨⟨_, (), rfl, rfl, by rw [ht]; exact hP, hD⟩, hS.F ht⟩) hS.2.2 dX6_barring_39
  exact loop_4 9 0  0 nI_0.symm (by omega) (by omega)  hR H locs hP hD hS ls (lv_sub hl [1, 2, 0] rfl)
def f_X6_reasonOf (σ : zS) (a1 : Int32) : Int32 := (if (σ 47 a1.toNatClampNeg) = (σ 46 a1.toNatClampNeg) then 101 else (if (f_X6_acts σ ) = 0 then 100 else (if (σ 30 (σ 39 ((8 * a1) + (σ 47 a1.toNatClampNeg)).toNatClampNeg).toNatClampNeg) = (σ 40 ((8 * a1) + (σ 47 a1.toNatClampNeg)).toNatClampNeg) then (if (f_X6_tired σ ) = 0 then (if (f_X6_barring σ (σ 41 ((8 * a1) + (σ 47 a1.toNatClampNeg)).toNatClampNeg)) = (-1) then 45 else 98) else 116) else (if (f_X6_tired σ ) = 0 then (if (f_X6_barring σ (σ 41 ((8 * a1) + (σ 47 a1.toNatClampNeg)).toNatClampNeg)) = (-1) then 110 else 98) else 116))))
theorem iX6_reasonOf : ∀ w ∈ u_ws RX6 TX6 29, w ∈ wsX6_reasonOf := by decide +kernel
set_option maxRecDepth 100000 in
theorem c_X6_reasonOf (l : Launch) (G : va_G) (cs : Nat → ClassId) (ad : Nat → Nat) (tl : va_W) (σ : zS) (a1 : Int32) (hI : zI σ) (hp : vp_in a1 6) : zMi l yX6_reasonOf wsX6_reasonOf { frames := 1, cells := 0, slots := 0, locals := 22 } G cs [.ref (ad 29), .int a1] (zw cs ad σ tl) (f_X6_reasonOf σ a1) (zw cs ad σ tl) 0 0 := by
  intro sz
  refine Met.ofW (cc := cX6_reasonOf) (maxL := 4) (ret := (some .char)) (by decide) rfl ?_
  intro p e s m args below meth c s₁ B hml hv
  obtain ⟨rfl, hsz, hP, hD0, hE⟩ := hv
  have hx := B.exec
  have hb := B.bytes
  have hr := B.returns
  have hts := atoms_spec (ws := wsX6_reasonOf) B.pre
  have hown : s.vm.findClass RX6 = some m.cls := findClass_of_methodNamed B.named
  have hlocks := B.notSynchronized
  subst hsz
  have hD := hD0.self (sz := s.heap.size)
  have hA : ∀ q : Nat, s.heap.size ≤ q → (va_A (zw cs ad σ tl) s.heap.size) q := fun q h => Or.inr h
  generalize va_A (zw cs ad σ tl) s.heap.size = A at hD hE hA ⊢
  have hS : va_S A s.heap s.heap [] := va_S.rf
  have hl := lv_entry ([.ref (ad 29), .int a1]) (n := 4) (Nat.le_of_ble_eq_true rfl)
  rw [lg_entry_eq]
  generalize (lg_sl ([.ref (ad 29), .int a1]) ++ List.replicate (4 - (lg_sl ([.ref (ad 29), .int a1])).length) Slot.unset).toArray = ls at hl ⊢
  have hl : lv_has ls 4 [(0, .ref (ad 29)), (1, .int a1)] := hl
  generalize hR : (f_X6_reasonOf σ a1) = RV
  have hR := hR.symm
  unfold f_X6_reasonOf at hR
  obtain ⟨H, hH⟩ : ∃ z, z = s.heap := ⟨_, rfl⟩
  obtain ⟨locs, hlocs⟩ : ∃ z : List Loc, z = [] := ⟨_, rfl⟩
  rw [← hH] at hP
  have hS : va_S A s.heap H locs := by rw [hH, hlocs]; exact hS
  show W _ _ _ _ _ _ _ _ _ _ s.heap [] _ _ _ _
  rw [← hH, ← hlocs]
  clear hlocs
  refine lv_aload_n hx hb dX6_reasonOf_0 rfl (lv_at hl 0 rfl) ?_
  refine va_get (D := G) (ci := 8) (v := .ref (ad 47)) (C := RX6) (T := TX6) (N := 29) hx hb hts iX6_reasonOf hown hE.1 hP 29 (zg_29 cs ad σ tl) rfl 19 (by decide) (hts (.fieldLink RX6 63 "HandoverDeckModel" "doneOf" "[I") (by decide +kernel)) (fun _ h9 => h9) rfl dX6_reasonOf_1 ?_
  refine lv_iload_n hx hb dX6_reasonOf_4 rfl (lv_at hl 1 rfl) ?_
  refine z_iald (v := (σ 47 a1.toNatClampNeg)) hx hb hE hP (zg_47 cs ad σ tl) hp rfl dX6_reasonOf_5 ?_
  refine lv_aload_n hx hb dX6_reasonOf_6 rfl (lv_at hl 0 rfl) ?_
  refine va_get (D := G) (ci := 8) (v := .ref (ad 46)) (C := RX6) (T := TX6) (N := 29) hx hb hts iX6_reasonOf hown hE.1 hP 29 (zg_29 cs ad σ tl) rfl 18 (by decide) (hts (.fieldLink RX6 60 "HandoverDeckModel" "stepsOf" "[I") (by decide +kernel)) (fun _ h9 => h9) rfl dX6_reasonOf_7 ?_
  refine lv_iload_n hx hb dX6_reasonOf_10 rfl (lv_at hl 1 rfl) ?_
  refine z_iald (v := (σ 46 a1.toNatClampNeg)) hx hb hE hP (zg_46 cs ad σ tl) hp rfl dX6_reasonOf_11 ?_
  refine lv_icmp_ne (tgt := 18) hx hb dX6_reasonOf_12 (by decide) (fun c_1 => ?_) (fun c_1 => ?_)
  · have hR := hR.trans (if_neg c_1)
    refine lv_aload_n hx hb dX6_reasonOf_18 rfl (lv_at hl 0 rfl) ?_
    refine zai (va_runV (As := []) (rest := []) ⟨hx, hb, hml, hown, hts⟩ (c_X6_acts l G cs ad tl σ   H.size) (cwV 0 hts gX6_reasonOf_X6_acts rfl rfl rfl (by decide +kernel) ⟨Nat.le_of_ble_eq_true rfl, Nat.le_of_ble_eq_true rfl⟩) (zpv hE hP hD hS hA (zg_29 cs ad σ tl) rfl) rfl rfl hl.1 rfl (lv_room (Nat.le_of_ble_eq_true rfl)) dX6_reasonOf_19 ⟨Nat.le_of_ble_eq_true rfl, Nat.le_of_ble_eq_true rfl⟩) hD hS hA (fun H locs hP hD hS => ?_)
    refine lv_if_ne (tgt := 28) hx hb dX6_reasonOf_22 (by decide) (fun c_2 => ?_) (fun c_2 => ?_)
    · have hR := hR.trans (if_neg c_2)
      refine lv_bipush (v := 8) hx hb dX6_reasonOf_28 (by decide) ?_
      refine lv_iload_n hx hb dX6_reasonOf_30 rfl (lv_at hl 1 rfl) ?_
      refine lv_imul hx hb dX6_reasonOf_31 ?_
      refine lv_aload_n hx hb dX6_reasonOf_32 rfl (lv_at hl 0 rfl) ?_
      refine va_get (D := G) (ci := 8) (v := .ref (ad 47)) (C := RX6) (T := TX6) (N := 29) hx hb hts iX6_reasonOf hown hE.1 hP 29 (zg_29 cs ad σ tl) rfl 19 (by decide) (hts (.fieldLink RX6 63 "HandoverDeckModel" "doneOf" "[I") (by decide +kernel)) (fun _ h9 => h9) rfl dX6_reasonOf_33 ?_
      refine lv_iload_n hx hb dX6_reasonOf_36 rfl (lv_at hl 1 rfl) ?_
      refine z_iald (v := (σ 47 a1.toNatClampNeg)) hx hb hE hP (zg_47 cs ad σ tl) hp rfl dX6_reasonOf_37 ?_
      refine lv_iadd hx hb dX6_reasonOf_38 ?_
      refine lv_istore_n (lv' := [(2, .int ((8 * a1) + (σ 47 a1.toNatClampNeg))), (0, .ref (ad 29)), (1, .int a1)]) hx hb dX6_reasonOf_39 rfl hl (by decide) rfl (fun ls hl => ?_)
      refine lv_aload_n hx hb dX6_reasonOf_40 rfl (lv_at hl 1 rfl) ?_
      refine va_get (D := G) (ci := 8) (v := .ref (ad 30)) (C := RX6) (T := TX6) (N := 29) hx hb hts iX6_reasonOf hown hE.1 hP 29 (zg_29 cs ad σ tl) rfl 1 (by decide) (hts (.fieldLink RX6 7 "HandoverDeckModel" "states" "[I") (by decide +kernel)) (fun _ h9 => h9) rfl dX6_reasonOf_41 ?_
      refine lv_aload_n hx hb dX6_reasonOf_44 rfl (lv_at hl 1 rfl) ?_
      refine va_get (D := G) (ci := 8) (v := .ref (ad 39)) (C := RX6) (T := TX6) (N := 29) hx hb hts iX6_reasonOf hown hE.1 hP 29 (zg_29 cs ad σ tl) rfl 11 (by decide) (hts (.fieldLink RX6 39 "HandoverDeckModel" "needUnit" "[I") (by decide +kernel)) (fun _ h9 => h9) rfl dX6_reasonOf_45 ?_
      refine lv_iload_n hx hb dX6_reasonOf_48 rfl (lv_at hl 0 rfl) ?_
      refine z_iald (v := (σ 39 ((8 * a1) + (σ 47 a1.toNatClampNeg)).toNatClampNeg)) hx hb hE hP (zg_39 cs ad σ tl) (vi_doneidx hI hp c_1) rfl dX6_reasonOf_49 ?_
      refine z_iald (v := (σ 30 (σ 39 ((8 * a1) + (σ 47 a1.toNatClampNeg)).toNatClampNeg).toNatClampNeg)) hx hb hE hP (zg_30 cs ad σ tl) (vi_need hI (vi_doneidx hI hp c_1)) rfl dX6_reasonOf_50 ?_
      refine lv_aload_n hx hb dX6_reasonOf_51 rfl (lv_at hl 1 rfl) ?_
      refine va_get (D := G) (ci := 8) (v := .ref (ad 40)) (C := RX6) (T := TX6) (N := 29) hx hb hts iX6_reasonOf hown hE.1 hP 29 (zg_29 cs ad σ tl) rfl 12 (by decide) (hts (.fieldLink RX6 42 "HandoverDeckModel" "needState" "[I") (by decide +kernel)) (fun _ h9 => h9) rfl dX6_reasonOf_52 ?_
      refine lv_iload_n hx hb dX6_reasonOf_55 rfl (lv_at hl 0 rfl) ?_
      refine z_iald (v := (σ 40 ((8 * a1) + (σ 47 a1.toNatClampNeg)).toNatClampNeg)) hx hb hE hP (zg_40 cs ad σ tl) (vi_doneidx hI hp c_1) rfl dX6_reasonOf_56 ?_
      refine lv_icmp_eq (tgt := 64) hx hb dX6_reasonOf_57 (by decide) (fun c_3 => ?_) (fun c_3 => ?_)
      · have hR := hR.trans (if_pos c_3)
        refine lv_iconst (v := 0) hx hb dX6_reasonOf_64 (by decide) ?_
        refine lv_istore_n (lv' := [(3, .int 0), (2, .int ((8 * a1) + (σ 47 a1.toNatClampNeg))), (0, .ref (ad 29)), (1, .int a1)]) hx hb dX6_reasonOf_65 rfl hl (by decide) rfl (fun ls hl => ?_)
        refine lv_aload_n hx hb dX6_reasonOf_66 rfl (lv_at hl 2 rfl) ?_
        refine zai (va_runV (As := []) (rest := []) ⟨hx, hb, hml, hown, hts⟩ (c_X6_tired l G cs ad tl σ   H.size) (cwV 0 hts gX6_reasonOf_X6_tired rfl rfl rfl (by decide +kernel) ⟨Nat.le_of_ble_eq_true rfl, Nat.le_of_ble_eq_true rfl⟩) (zpv hE hP hD hS hA (zg_29 cs ad σ tl) rfl) rfl rfl hl.1 rfl (lv_room (Nat.le_of_ble_eq_true rfl)) dX6_reasonOf_67 ⟨Nat.le_of_ble_eq_true rfl, Nat.le_of_ble_eq_true rfl⟩) hD hS hA (fun H locs hP hD hS => ?_)
        refine lv_if_eq (tgt := 78) hx hb dX6_reasonOf_70 (by decide) (fun c_4 => ?_) (fun c_4 => ?_)
        · have hR := hR.trans (if_pos c_4)
          refine lv_aload_n hx hb dX6_reasonOf_78 rfl (lv_at hl 2 rfl) ?_
          refine lv_aload_n hx hb dX6_reasonOf_79 rfl (lv_at hl 2 rfl) ?_
          refine va_get (D := G) (ci := 8) (v := .ref (ad 41)) (C := RX6) (T := TX6) (N := 29) hx hb hts iX6_reasonOf hown hE.1 hP 29 (zg_29 cs ad σ tl) rfl 13 (by decide) (hts (.fieldLink RX6 45 "HandoverDeckModel" "setUnit" "[I") (by decide +kernel)) (fun _ h9 => h9) rfl dX6_reasonOf_80 ?_
          refine lv_iload_n hx hb dX6_reasonOf_83 rfl (lv_at hl 1 rfl) ?_
          refine z_iald (v := (σ 41 ((8 * a1) + (σ 47 a1.toNatClampNeg)).toNatClampNeg)) hx hb hE hP (zg_41 cs ad σ tl) (vi_doneidx hI hp c_1) rfl dX6_reasonOf_84 ?_
          refine zai (va_runV (As := [.int (σ 41 ((8 * a1) + (σ 47 a1.toNatClampNeg)).toNatClampNeg)]) (rest := []) ⟨hx, hb, hml, hown, hts⟩ (c_X6_barring l G cs ad tl σ (σ 41 ((8 * a1) + (σ 47 a1.toNatClampNeg)).toNatClampNeg) hI H.size) (cwV 1 hts gX6_reasonOf_X6_barring rfl rfl rfl (by decide +kernel) ⟨Nat.le_of_ble_eq_true rfl, Nat.le_of_ble_eq_true rfl⟩) (zpv hE hP hD hS hA (zg_29 cs ad σ tl) rfl) rfl rfl hl.1 rfl (lv_room (Nat.le_of_ble_eq_true rfl)) dX6_reasonOf_85 ⟨Nat.le_of_ble_eq_true rfl, Nat.le_of_ble_eq_true rfl⟩) hD hS hA (fun H locs hP hD hS => ?_)
          refine lv_iconst (v := (-1)) hx hb dX6_reasonOf_88 (by decide) ?_
          refine lv_icmp_eq (tgt := 97) hx hb dX6_reasonOf_89 (by decide) (fun c_5 => ?_) (fun c_5 => ?_)
          · have hR := hR.trans (if_pos c_5)
            refine lv_iload_n hx hb dX6_reasonOf_97 rfl (lv_at hl 0 rfl) ?_
            refine lv_if_eq (tgt := 106) hx hb dX6_reasonOf_98 (by decide) (fun _ => ?_) (fun c => absurd c (by decide))
            refine lv_bipush (v := 45) hx hb dX6_reasonOf_106 (by decide) ?_
            have hR := hR.symm
            subst hR
            exact W.zret (v := 45) hx hb hr rfl (fun t ht hW => ⟨⟨_, (), rfl, rfl, by rw [ht]; exact hP, hD⟩, hS.F ht⟩) hS.2.2 dX6_reasonOf_108
          · have hR := hR.trans (if_neg c_5)
            refine lv_bipush (v := 98) hx hb dX6_reasonOf_92 (by decide) ?_
            refine lv_goto (tgt := 108) hx hb dX6_reasonOf_94 (by decide) ?_
            have hR := hR.symm
            subst hR
            exact W.zret (v := 98) hx hb hr rfl (fun t ht hW => ⟨⟨_, (), rfl, rfl, by rw [ht]; exact hP, hD⟩, hS.F ht⟩) hS.2.2 dX6_reasonOf_108
        · have hR := hR.trans (if_neg c_4)
          refine lv_bipush (v := 116) hx hb dX6_reasonOf_73 (by decide) ?_
          refine lv_goto (tgt := 108) hx hb dX6_reasonOf_75 (by decide) ?_
          have hR := hR.symm
          subst hR
          exact W.zret (v := 116) hx hb hr rfl (fun t ht hW => ⟨⟨_, (), rfl, rfl, by rw [ht]; exact hP, hD⟩, hS.F ht⟩) hS.2.2 dX6_reasonOf_108
      · have hR := hR.trans (if_neg c_3)
        refine lv_iconst (v := 1) hx hb dX6_reasonOf_60 (by decide) ?_
        refine lv_goto (tgt := 65) hx hb dX6_reasonOf_61 (by decide) ?_
        refine lv_istore_n (lv' := [(3, .int 1), (2, .int ((8 * a1) + (σ 47 a1.toNatClampNeg))), (0, .ref (ad 29)), (1, .int a1)]) hx hb dX6_reasonOf_65 rfl hl (by decide) rfl (fun ls hl => ?_)
        refine lv_aload_n hx hb dX6_reasonOf_66 rfl (lv_at hl 2 rfl) ?_
        refine zai (va_runV (As := []) (rest := []) ⟨hx, hb, hml, hown, hts⟩ (c_X6_tired l G cs ad tl σ   H.size) (cwV 0 hts gX6_reasonOf_X6_tired rfl rfl rfl (by decide +kernel) ⟨Nat.le_of_ble_eq_true rfl, Nat.le_of_ble_eq_true rfl⟩) (zpv hE hP hD hS hA (zg_29 cs ad σ tl) rfl) rfl rfl hl.1 rfl (lv_room (Nat.le_of_ble_eq_true rfl)) dX6_reasonOf_67 ⟨Nat.le_of_ble_eq_true rfl, Nat.le_of_ble_eq_true rfl⟩) hD hS hA (fun H locs hP hD hS => ?_)
        refine lv_if_eq (tgt := 78) hx hb dX6_reasonOf_70 (by decide) (fun c_6 => ?_) (fun c_6 => ?_)
        · have hR := hR.trans (if_pos c_6)
          refine lv_aload_n hx hb dX6_reasonOf_78 rfl (lv_at hl 2 rfl) ?_
          refine lv_aload_n hx hb dX6_reasonOf_79 rfl (lv_at hl 2 rfl) ?_
          refine va_get (D := G) (ci := 8) (v := .ref (ad 41)) (C := RX6) (T := TX6) (N := 29) hx hb hts iX6_reasonOf hown hE.1 hP 29 (zg_29 cs ad σ tl) rfl 13 (by decide) (hts (.fieldLink RX6 45 "HandoverDeckModel" "setUnit" "[I") (by decide +kernel)) (fun _ h9 => h9) rfl dX6_reasonOf_80 ?_
          refine lv_iload_n hx hb dX6_reasonOf_83 rfl (lv_at hl 1 rfl) ?_
          refine z_iald (v := (σ 41 ((8 * a1) + (σ 47 a1.toNatClampNeg)).toNatClampNeg)) hx hb hE hP (zg_41 cs ad σ tl) (vi_doneidx hI hp c_1) rfl dX6_reasonOf_84 ?_
          refine zai (va_runV (As := [.int (σ 41 ((8 * a1) + (σ 47 a1.toNatClampNeg)).toNatClampNeg)]) (rest := []) ⟨hx, hb, hml, hown, hts⟩ (c_X6_barring l G cs ad tl σ (σ 41 ((8 * a1) + (σ 47 a1.toNatClampNeg)).toNatClampNeg) hI H.size) (cwV 1 hts gX6_reasonOf_X6_barring rfl rfl rfl (by decide +kernel) ⟨Nat.le_of_ble_eq_true rfl, Nat.le_of_ble_eq_true rfl⟩) (zpv hE hP hD hS hA (zg_29 cs ad σ tl) rfl) rfl rfl hl.1 rfl (lv_room (Nat.le_of_ble_eq_true rfl)) dX6_reasonOf_85 ⟨Nat.le_of_ble_eq_true rfl, Nat.le_of_ble_eq_true rfl⟩) hD hS hA (fun H locs hP hD hS => ?_)
          refine lv_iconst (v := (-1)) hx hb dX6_reasonOf_88 (by decide) ?_
          refine lv_icmp_eq (tgt := 97) hx hb dX6_reasonOf_89 (by decide) (fun c_7 => ?_) (fun c_7 => ?_)
          · have hR := hR.trans (if_pos c_7)
            refine lv_iload_n hx hb dX6_reasonOf_97 rfl (lv_at hl 0 rfl) ?_
            refine lv_if_eq (tgt := 106) hx hb dX6_reasonOf_98 (by decide) (fun c => absurd c (by decide)) (fun _ => ?_)
            refine lv_bipush (v := 110) hx hb dX6_reasonOf_101 (by decide) ?_
            refine lv_goto (tgt := 108) hx hb dX6_reasonOf_103 (by decide) ?_
            have hR := hR.symm
            subst hR
            exact W.zret (v := 110) hx hb hr rfl (fun t ht hW => ⟨⟨_, (), rfl, rfl, by rw [ht]; exact hP, hD⟩, hS.F ht⟩) hS.2.2 dX6_reasonOf_108
          · have hR := hR.trans (if_neg c_7)
            refine lv_bipush (v := 98) hx hb dX6_reasonOf_92 (by decide) ?_
            refine lv_goto (tgt := 108) hx hb dX6_reasonOf_94 (by decide) ?_
            have hR := hR.symm
            subst hR
            exact W.zret (v := 98) hx hb hr rfl (fun t ht hW => ⟨⟨_, (), rfl, rfl, by rw [ht]; exact hP, hD⟩, hS.F ht⟩) hS.2.2 dX6_reasonOf_108
        · have hR := hR.trans (if_neg c_6)
          refine lv_bipush (v := 116) hx hb dX6_reasonOf_73 (by decide) ?_
          refine lv_goto (tgt := 108) hx hb dX6_reasonOf_75 (by decide) ?_
          have hR := hR.symm
          subst hR
          exact W.zret (v := 116) hx hb hr rfl (fun t ht hW => ⟨⟨_, (), rfl, rfl, by rw [ht]; exact hP, hD⟩, hS.F ht⟩) hS.2.2 dX6_reasonOf_108
    · have hR := hR.trans (if_pos c_2)
      refine lv_bipush (v := 100) hx hb dX6_reasonOf_25 (by decide) ?_
      have hR := hR.symm
      subst hR
      exact W.zret (v := 100) hx hb hr rfl (fun t ht hW => ⟨⟨_, (), rfl, rfl, by rw [ht]; exact hP, hD⟩, hS.F ht⟩) hS.2.2 dX6_reasonOf_27
  · have hR := hR.trans (if_pos c_1)
    refine lv_bipush (v := 101) hx hb dX6_reasonOf_15 (by decide) ?_
    have hR := hR.symm
    subst hR
    exact W.zret (v := 101) hx hb hr rfl (fun t ht hW => ⟨⟨_, (), rfl, rfl, by rw [ht]; exact hP, hD⟩, hS.F ht⟩) hS.2.2 dX6_reasonOf_17
theorem nar_X6_reasonOf (σ : zS) (a1 : Int32) : narrow .char (.int (f_X6_reasonOf σ a1)) = .int (f_X6_reasonOf σ a1) := by unfold f_X6_reasonOf; (repeat' split) <;> rfl
theorem vi_stepok {σ : zS} {a1 : Int32} (_ : zI σ) (h : (f_X6_reasonOf σ a1) = 45) : ¬ σ 47 a1.toNatClampNeg = σ 46 a1.toNatClampNeg := by
  intro q
  unfold f_X6_reasonOf at h
  rw [if_pos q] at h
  exact absurd h (by decide)
def f_X6_closesUndone (σ : zS) (a1 : Int32) : Int32 × zS := (if (σ 45 a1.toNatClampNeg) = (-1) then (0, (zs σ 45 a1.toNatClampNeg (-1))) else (if (σ 32 (σ 45 a1.toNatClampNeg).toNatClampNeg) = 0 then (0, (zs σ 45 a1.toNatClampNeg (-1))) else (1, (zs (zs σ 45 a1.toNatClampNeg (-1)) 32 (σ 45 a1.toNatClampNeg).toNatClampNeg 0))))
theorem iX6_closesUndone : ∀ w ∈ u_ws RX6 TX6 29, w ∈ wsX6_closesUndone := by decide +kernel
set_option maxRecDepth 100000 in
theorem c_X6_closesUndone (l : Launch) (G : va_G) (cs : Nat → ClassId) (ad : Nat → Nat) (tl : va_W) (σ : zS) (a1 : Int32) (ha : vp_in a1 48) (hu : σ 45 a1.toNatClampNeg = (-1) ∨ vp_in (σ 45 a1.toNatClampNeg) 60) : zMi l yX6_closesUndone wsX6_closesUndone { frames := 0, cells := 0, slots := 0, locals := 0 } G cs [.ref (ad 29), .int a1] (zw cs ad σ tl) (f_X6_closesUndone σ a1).1 (zw cs ad (f_X6_closesUndone σ a1).2 tl) 0 0 := by
  intro sz
  refine Met.ofW (cc := cX6_closesUndone) (maxL := 3) (ret := (some .int)) (by decide) rfl ?_
  intro p e s m args below meth c s₁ B hml hv
  obtain ⟨rfl, hsz, hP, hD0, hE⟩ := hv
  have hx := B.exec
  have hb := B.bytes
  have hr := B.returns
  have hts := atoms_spec (ws := wsX6_closesUndone) B.pre
  have hown : s.vm.findClass RX6 = some m.cls := findClass_of_methodNamed B.named
  have hlocks := B.notSynchronized
  subst hsz
  have hD := hD0.self (sz := s.heap.size)
  have hA : ∀ q : Nat, s.heap.size ≤ q → (va_A (zw cs ad σ tl) s.heap.size) q := fun q h => Or.inr h
  generalize va_A (zw cs ad σ tl) s.heap.size = A at hD hE hA ⊢
  have hS : va_S A s.heap s.heap [] := va_S.rf
  have hl := lv_entry ([.ref (ad 29), .int a1]) (n := 3) (Nat.le_of_ble_eq_true rfl)
  rw [lg_entry_eq]
  generalize (lg_sl ([.ref (ad 29), .int a1]) ++ List.replicate (3 - (lg_sl ([.ref (ad 29), .int a1])).length) Slot.unset).toArray = ls at hl ⊢
  have hl : lv_has ls 3 [(0, .ref (ad 29)), (1, .int a1)] := hl
  generalize hR : (f_X6_closesUndone σ a1) = RV
  have hR := hR.symm
  unfold f_X6_closesUndone at hR
  obtain ⟨RVv, RVs⟩ := RV
  dsimp only
  obtain ⟨H, hH⟩ : ∃ z, z = s.heap := ⟨_, rfl⟩
  obtain ⟨locs, hlocs⟩ : ∃ z : List Loc, z = [] := ⟨_, rfl⟩
  rw [← hH] at hP
  have hS : va_S A s.heap H locs := by rw [hH, hlocs]; exact hS
  show W _ _ _ _ _ _ _ _ _ _ s.heap [] _ _ _ _
  rw [← hH, ← hlocs]
  clear hlocs
  refine lv_aload_n hx hb dX6_closesUndone_0 rfl (lv_at hl 0 rfl) ?_
  refine va_get (D := G) (ci := 8) (v := .ref (ad 45)) (C := RX6) (T := TX6) (N := 29) hx hb hts iX6_closesUndone hown hE.1 hP 29 (zg_29 cs ad σ tl) rfl 17 (by decide) (hts (.fieldLink RX6 57 "HandoverDeckModel" "undoneLine" "[I") (by decide +kernel)) (fun _ h9 => h9) rfl dX6_closesUndone_1 ?_
  refine lv_iload_n hx hb dX6_closesUndone_4 rfl (lv_at hl 1 rfl) ?_
  refine z_iald (v := (σ 45 a1.toNatClampNeg)) hx hb hE hP (zg_45 cs ad σ tl) ha rfl dX6_closesUndone_5 ?_
  refine lv_istore_n (lv' := [(2, .int (σ 45 a1.toNatClampNeg)), (0, .ref (ad 29)), (1, .int a1)]) hx hb dX6_closesUndone_6 rfl hl (by decide) rfl (fun ls hl => ?_)
  refine lv_aload_n hx hb dX6_closesUndone_7 rfl (lv_at hl 1 rfl) ?_
  refine va_get (D := G) (ci := 8) (v := .ref (ad 45)) (C := RX6) (T := TX6) (N := 29) hx hb hts iX6_closesUndone hown hE.1 hP 29 (zg_29 cs ad σ tl) rfl 17 (by decide) (hts (.fieldLink RX6 57 "HandoverDeckModel" "undoneLine" "[I") (by decide +kernel)) (fun _ h9 => h9) rfl dX6_closesUndone_8 ?_
  refine lv_iload_n hx hb dX6_closesUndone_11 rfl (lv_at hl 2 rfl) ?_
  refine lv_iconst (v := (-1)) hx hb dX6_closesUndone_12 (by decide) ?_
  refine z_iast hx hb hE hP hD hS (zg_45 cs ad σ tl) (zb_45 cs ad σ tl) ha dX6_closesUndone_13 (fun H locs hP hD hS => ?_)
  refine lv_iload_n hx hb dX6_closesUndone_14 rfl (lv_at hl 0 rfl) ?_
  refine lv_iconst (v := (-1)) hx hb dX6_closesUndone_15 (by decide) ?_
  refine lv_icmp_eq (tgt := 28) hx hb dX6_closesUndone_16 (by decide) (fun c_1 => ?_) (fun c_1 => ?_)
  · have hR := hR.trans (if_pos c_1)
    refine lv_iconst (v := 0) hx hb dX6_closesUndone_28 (by decide) ?_
    obtain ⟨e1, e2⟩ := z2 hR.symm
    subst e1; subst e2
    exact W.iret (v := 0) hx hb hr (fun t ht hW => ⟨⟨_, (), rfl, rfl, by rw [ht]; exact hP, hD⟩, hS.F ht⟩) hS.2.2 dX6_closesUndone_29
  · have hR := hR.trans (if_neg c_1)
    refine lv_aload_n hx hb dX6_closesUndone_19 rfl (lv_at hl 1 rfl) ?_
    refine va_get (D := G) (ci := 8) (v := .ref (ad 32)) (C := RX6) (T := TX6) (N := 29) hx hb hts iX6_closesUndone hown hE.1 hP 29 (zg_29 cs ad (zs σ 45 a1.toNatClampNeg (-1)) tl) rfl 3 (by decide) (hts (.fieldLink RX6 17 "HandoverDeckModel" "isOpen" "[Z") (by decide +kernel)) (fun _ h9 => h9) rfl dX6_closesUndone_20 ?_
    refine lv_iload_n hx hb dX6_closesUndone_23 rfl (lv_at hl 0 rfl) ?_
    refine z_zald (v := (σ 32 (σ 45 a1.toNatClampNeg).toNatClampNeg)) hx hb hE hP (zg_32 cs ad (zs σ 45 a1.toNatClampNeg (-1)) tl) (hu.resolve_left c_1) (by rw [zs_ne (k := 45) (k' := 32) (by decide)]) dX6_closesUndone_24 ?_
    refine lv_if_ne (tgt := 30) hx hb dX6_closesUndone_25 (by decide) (fun c_2 => ?_) (fun c_2 => ?_)
    · have hR := hR.trans (if_neg c_2)
      refine lv_aload_n hx hb dX6_closesUndone_30 rfl (lv_at hl 1 rfl) ?_
      refine va_get (D := G) (ci := 8) (v := .ref (ad 32)) (C := RX6) (T := TX6) (N := 29) hx hb hts iX6_closesUndone hown hE.1 hP 29 (zg_29 cs ad (zs σ 45 a1.toNatClampNeg (-1)) tl) rfl 3 (by decide) (hts (.fieldLink RX6 17 "HandoverDeckModel" "isOpen" "[Z") (by decide +kernel)) (fun _ h9 => h9) rfl dX6_closesUndone_31 ?_
      refine lv_iload_n hx hb dX6_closesUndone_34 rfl (lv_at hl 0 rfl) ?_
      refine lv_iconst (v := 0) hx hb dX6_closesUndone_35 (by decide) ?_
      refine z_zast hx hb hE hP hD hS (zg_32 cs ad (zs σ 45 a1.toNatClampNeg (-1)) tl) (zb_32 cs ad (zs σ 45 a1.toNatClampNeg (-1)) tl) (hu.resolve_left c_1) rfl dX6_closesUndone_36 (fun H locs hP hD hS => ?_)
      refine lv_iconst (v := 1) hx hb dX6_closesUndone_37 (by decide) ?_
      obtain ⟨e1, e2⟩ := z2 hR.symm
      subst e1; subst e2
      exact W.iret (v := 1) hx hb hr (fun t ht hW => ⟨⟨_, (), rfl, rfl, by rw [ht]; exact hP, hD⟩, hS.F ht⟩) hS.2.2 dX6_closesUndone_38
    · have hR := hR.trans (if_pos c_2)
      refine lv_iconst (v := 0) hx hb dX6_closesUndone_28 (by decide) ?_
      obtain ⟨e1, e2⟩ := z2 hR.symm
      subst e1; subst e2
      exact W.iret (v := 0) hx hb hr (fun t ht hW => ⟨⟨_, (), rfl, rfl, by rw [ht]; exact hP, hD⟩, hS.F ht⟩) hS.2.2 dX6_closesUndone_29
theorem cu_46 {τ : zS} {a : Int32} : (f_X6_closesUndone τ a).2 46 = τ 46 := by
  unfold f_X6_closesUndone
  (repeat' split) <;> rfl
theorem cu_45 {τ : zS} {a : Int32} (h : ∀ j : Nat, j < 48 → τ 45 j = (-1) ∨ vp_in (τ 45 j) 60) : ∀ j : Nat, j < 48 → (f_X6_closesUndone τ a).2 45 j = (-1) ∨ vp_in ((f_X6_closesUndone τ a).2 45 j) 60 := by
  intro j hj
  have key : (f_X6_closesUndone τ a).2 45 j = (zs τ 45 a.toNatClampNeg (-1)) 45 j := by
    unfold f_X6_closesUndone
    (repeat' split) <;> rfl
  rw [key]
  show upd (τ 45) a.toNatClampNeg (-1) j = (-1) ∨ vp_in (upd (τ 45) a.toNatClampNeg (-1) j) 60
  unfold upd
  split
  · exact Or.inl rfl
  · exact h j hj
def f_X6_isPermit (σ : zS) (a1 : Int32) : Int32 := (f_X6_in a1.toInt64 0 ((σ 29 23) - 1).toInt64)
theorem iX6_isPermit : ∀ w ∈ u_ws RX6 TX6 29, w ∈ wsX6_isPermit := by decide +kernel
set_option maxRecDepth 100000 in
theorem c_X6_isPermit (l : Launch) (G : va_G) (cs : Nat → ClassId) (ad : Nat → Nat) (tl : va_W) (σ : zS) (a1 : Int32)  : zMi l yX6_isPermit wsX6_isPermit { frames := 1, cells := 0, slots := 0, locals := 25 } G cs [.ref (ad 29), .int a1] (zw cs ad σ tl) (f_X6_isPermit σ a1) (zw cs ad σ tl) 0 0 := by
  intro sz
  refine Met.ofW (cc := cX6_isPermit) (maxL := 2) (ret := (some .boolean)) (by decide) rfl ?_
  intro p e s m args below meth c s₁ B hml hv
  obtain ⟨rfl, hsz, hP, hD0, hE⟩ := hv
  have hx := B.exec
  have hb := B.bytes
  have hr := B.returns
  have hts := atoms_spec (ws := wsX6_isPermit) B.pre
  have hown : s.vm.findClass RX6 = some m.cls := findClass_of_methodNamed B.named
  have hlocks := B.notSynchronized
  subst hsz
  have hD := hD0.self (sz := s.heap.size)
  have hA : ∀ q : Nat, s.heap.size ≤ q → (va_A (zw cs ad σ tl) s.heap.size) q := fun q h => Or.inr h
  generalize va_A (zw cs ad σ tl) s.heap.size = A at hD hE hA ⊢
  have hS : va_S A s.heap s.heap [] := va_S.rf
  have hl := lv_entry ([.ref (ad 29), .int a1]) (n := 2) (Nat.le_of_ble_eq_true rfl)
  rw [lg_entry_eq]
  generalize (lg_sl ([.ref (ad 29), .int a1]) ++ List.replicate (2 - (lg_sl ([.ref (ad 29), .int a1])).length) Slot.unset).toArray = ls at hl ⊢
  have hl : lv_has ls 2 [(0, .ref (ad 29)), (1, .int a1)] := hl
  generalize hR : (f_X6_isPermit σ a1) = RV
  have hR := hR.symm
  unfold f_X6_isPermit at hR
  obtain ⟨H, hH⟩ : ∃ z, z = s.heap := ⟨_, rfl⟩
  obtain ⟨locs, hlocs⟩ : ∃ z : List Loc, z = [] := ⟨_, rfl⟩
  rw [← hH] at hP
  have hS : va_S A s.heap H locs := by rw [hH, hlocs]; exact hS
  show W _ _ _ _ _ _ _ _ _ _ s.heap [] _ _ _ _
  rw [← hH, ← hlocs]
  clear hlocs
  refine lv_iload_n hx hb dX6_isPermit_0 rfl (lv_at hl 1 rfl) ?_
  refine lv_i2l (v := a1.toInt64) hx hb dX6_isPermit_1 rfl ?_
  refine lv_lconst (v := 0) hx hb dX6_isPermit_2 (by decide) ?_
  refine lv_aload_n hx hb dX6_isPermit_3 rfl (lv_at hl 0 rfl) ?_
  refine va_get (D := G) (ci := 8) (v := .int (σ 29 23)) (C := RX6) (T := TX6) (N := 29) hx hb hts iX6_isPermit hown hE.1 hP 29 (zg_29 cs ad σ tl) rfl 23 (by decide) (hts (.fieldLink RX6 130 "HandoverDeckModel" "permits" "I") (by decide +kernel)) (fun _ h9 => h9) rfl dX6_isPermit_4 ?_
  refine lv_iconst (v := 1) hx hb dX6_isPermit_7 (by decide) ?_
  refine lv_isub hx hb dX6_isPermit_8 ?_
  refine lv_i2l (v := ((σ 29 23) - 1).toInt64) hx hb dX6_isPermit_9 rfl ?_
  refine zai (va_runS (As := [.long a1.toInt64, .long 0, .long ((σ 29 23) - 1).toInt64]) (rest := []) ⟨hx, hb, hml, hown, hts⟩ (c_X6_in l G cs ad tl σ a1.toInt64 0 ((σ 29 23) - 1).toInt64  H.size) (va_cwS 3 hts gX6_isPermit_X6_in rfl rfl rfl (by decide +kernel) ⟨Nat.le_of_ble_eq_true rfl, Nat.le_of_ble_eq_true rfl⟩) (zps hE hP hD hS hA) rfl rfl hl.1 rfl (lv_room (Nat.le_of_ble_eq_true rfl)) dX6_isPermit_10 ⟨Nat.le_of_ble_eq_true rfl, Nat.le_of_ble_eq_true rfl⟩) hD hS hA (fun H locs hP hD hS => ?_)
  have hR := hR.symm
  subst hR
  exact W.zret (v := (f_X6_in a1.toInt64 0 ((σ 29 23) - 1).toInt64)) hx hb hr (nar_X6_in a1.toInt64 0 ((σ 29 23) - 1).toInt64) (fun t ht hW => ⟨⟨_, (), rfl, rfl, by rw [ht]; exact hP, hD⟩, hS.F ht⟩) hS.2.2 dX6_isPermit_13
theorem vin_X6_isPermit {σ : zS} {a1 : Int32} (hI : zI σ) (h : ¬ (f_X6_isPermit σ a1) = 0) : vp_in a1 8 := by
  unfold f_X6_isPermit at h
  have h1 := vin_in h
  obtain ⟨n, e1, e2⟩ := hI.2.2.1
  rw [zi64, zi64, e2] at h1
  have h2 : (0 : Int64).toInt = 0 := by decide
  have h3 : (nI n - 1).toInt = (n : Int) - 1 := pk_sub_toInt (b := 1) (by omega) (by omega)
  exact vp_in_iff.mpr ⟨by omega, by omega⟩
def f_X6_isLine (σ : zS) (a1 : Int32) : Int32 := (f_X6_in a1.toInt64 0 ((σ 29 7) - 1).toInt64)
theorem iX6_isLine : ∀ w ∈ u_ws RX6 TX6 29, w ∈ wsX6_isLine := by decide +kernel
set_option maxRecDepth 100000 in
theorem c_X6_isLine (l : Launch) (G : va_G) (cs : Nat → ClassId) (ad : Nat → Nat) (tl : va_W) (σ : zS) (a1 : Int32)  : zMi l yX6_isLine wsX6_isLine { frames := 1, cells := 0, slots := 0, locals := 25 } G cs [.ref (ad 29), .int a1] (zw cs ad σ tl) (f_X6_isLine σ a1) (zw cs ad σ tl) 0 0 := by
  intro sz
  refine Met.ofW (cc := cX6_isLine) (maxL := 2) (ret := (some .boolean)) (by decide) rfl ?_
  intro p e s m args below meth c s₁ B hml hv
  obtain ⟨rfl, hsz, hP, hD0, hE⟩ := hv
  have hx := B.exec
  have hb := B.bytes
  have hr := B.returns
  have hts := atoms_spec (ws := wsX6_isLine) B.pre
  have hown : s.vm.findClass RX6 = some m.cls := findClass_of_methodNamed B.named
  have hlocks := B.notSynchronized
  subst hsz
  have hD := hD0.self (sz := s.heap.size)
  have hA : ∀ q : Nat, s.heap.size ≤ q → (va_A (zw cs ad σ tl) s.heap.size) q := fun q h => Or.inr h
  generalize va_A (zw cs ad σ tl) s.heap.size = A at hD hE hA ⊢
  have hS : va_S A s.heap s.heap [] := va_S.rf
  have hl := lv_entry ([.ref (ad 29), .int a1]) (n := 2) (Nat.le_of_ble_eq_true rfl)
  rw [lg_entry_eq]
  generalize (lg_sl ([.ref (ad 29), .int a1]) ++ List.replicate (2 - (lg_sl ([.ref (ad 29), .int a1])).length) Slot.unset).toArray = ls at hl ⊢
  have hl : lv_has ls 2 [(0, .ref (ad 29)), (1, .int a1)] := hl
  generalize hR : (f_X6_isLine σ a1) = RV
  have hR := hR.symm
  unfold f_X6_isLine at hR
  obtain ⟨H, hH⟩ : ∃ z, z = s.heap := ⟨_, rfl⟩
  obtain ⟨locs, hlocs⟩ : ∃ z : List Loc, z = [] := ⟨_, rfl⟩
  rw [← hH] at hP
  have hS : va_S A s.heap H locs := by rw [hH, hlocs]; exact hS
  show W _ _ _ _ _ _ _ _ _ _ s.heap [] _ _ _ _
  rw [← hH, ← hlocs]
  clear hlocs
  refine lv_iload_n hx hb dX6_isLine_0 rfl (lv_at hl 1 rfl) ?_
  refine lv_i2l (v := a1.toInt64) hx hb dX6_isLine_1 rfl ?_
  refine lv_lconst (v := 0) hx hb dX6_isLine_2 (by decide) ?_
  refine lv_aload_n hx hb dX6_isLine_3 rfl (lv_at hl 0 rfl) ?_
  refine va_get (D := G) (ci := 8) (v := .int (σ 29 7)) (C := RX6) (T := TX6) (N := 29) hx hb hts iX6_isLine hown hE.1 hP 29 (zg_29 cs ad σ tl) rfl 7 (by decide) (hts (.fieldLink RX6 95 "HandoverDeckModel" "lines" "I") (by decide +kernel)) (fun _ h9 => h9) rfl dX6_isLine_4 ?_
  refine lv_iconst (v := 1) hx hb dX6_isLine_7 (by decide) ?_
  refine lv_isub hx hb dX6_isLine_8 ?_
  refine lv_i2l (v := ((σ 29 7) - 1).toInt64) hx hb dX6_isLine_9 rfl ?_
  refine zai (va_runS (As := [.long a1.toInt64, .long 0, .long ((σ 29 7) - 1).toInt64]) (rest := []) ⟨hx, hb, hml, hown, hts⟩ (c_X6_in l G cs ad tl σ a1.toInt64 0 ((σ 29 7) - 1).toInt64  H.size) (va_cwS 3 hts gX6_isLine_X6_in rfl rfl rfl (by decide +kernel) ⟨Nat.le_of_ble_eq_true rfl, Nat.le_of_ble_eq_true rfl⟩) (zps hE hP hD hS hA) rfl rfl hl.1 rfl (lv_room (Nat.le_of_ble_eq_true rfl)) dX6_isLine_10 ⟨Nat.le_of_ble_eq_true rfl, Nat.le_of_ble_eq_true rfl⟩) hD hS hA (fun H locs hP hD hS => ?_)
  have hR := hR.symm
  subst hR
  exact W.zret (v := (f_X6_in a1.toInt64 0 ((σ 29 7) - 1).toInt64)) hx hb hr (nar_X6_in a1.toInt64 0 ((σ 29 7) - 1).toInt64) (fun t ht hW => ⟨⟨_, (), rfl, rfl, by rw [ht]; exact hP, hD⟩, hS.F ht⟩) hS.2.2 dX6_isLine_13
theorem vin_X6_isLine {σ : zS} {a1 : Int32} (hI : zI σ) (h : ¬ (f_X6_isLine σ a1) = 0) : vp_in a1 60 := by
  unfold f_X6_isLine at h
  have h1 := vin_in h
  obtain ⟨n, e1, e2⟩ := hI.1
  rw [zi64, zi64, e2] at h1
  have h2 : (0 : Int64).toInt = 0 := by decide
  have h3 : (nI n - 1).toInt = (n : Int) - 1 := pk_sub_toInt (b := 1) (by omega) (by omega)
  exact vp_in_iff.mpr ⟨by omega, by omega⟩
def L_X6_open_4 (σ : zS)  : Nat → Int32 → Int32 → Int32
  | 0, _, _ => 0
  | n + 1, x1, x2 => (if (σ 29 7) ≤ x2 then x1 else (if (σ 32 x2.toNatClampNeg) = 0 then (L_X6_open_4 σ  n (x1 + 0) (x2 + 1)) else (L_X6_open_4 σ  n (x1 + 1) (x2 + 1))))
def f_X6_open (σ : zS)  : Int32 := (L_X6_open_4 σ  61 0 0)
theorem iX6_open : ∀ w ∈ u_ws RX6 TX6 29, w ∈ wsX6_open := by decide +kernel
set_option maxRecDepth 100000 in
theorem c_X6_open (l : Launch) (G : va_G) (cs : Nat → ClassId) (ad : Nat → Nat) (tl : va_W) (σ : zS)  (hL0 : ∃ n : Nat, n ≤ 60 ∧ σ 29 7 = nI n) : zMi l yX6_open wsX6_open { frames := 0, cells := 0, slots := 0, locals := 0 } G cs [.ref (ad 29)] (zw cs ad σ tl) (f_X6_open σ ) (zw cs ad σ tl) 0 0 := by
  intro sz
  refine Met.ofW (cc := cX6_open) (maxL := 3) (ret := (some .int)) (by decide) rfl ?_
  intro p e s m args below meth c s₁ B hml hv
  obtain ⟨rfl, hsz, hP, hD0, hE⟩ := hv
  have hx := B.exec
  have hb := B.bytes
  have hr := B.returns
  have hts := atoms_spec (ws := wsX6_open) B.pre
  have hown : s.vm.findClass RX6 = some m.cls := findClass_of_methodNamed B.named
  have hlocks := B.notSynchronized
  subst hsz
  have hD := hD0.self (sz := s.heap.size)
  have hA : ∀ q : Nat, s.heap.size ≤ q → (va_A (zw cs ad σ tl) s.heap.size) q := fun q h => Or.inr h
  generalize va_A (zw cs ad σ tl) s.heap.size = A at hD hE hA ⊢
  have hS : va_S A s.heap s.heap [] := va_S.rf
  have hl := lv_entry ([.ref (ad 29)]) (n := 3) (Nat.le_of_ble_eq_true rfl)
  rw [lg_entry_eq]
  generalize (lg_sl ([.ref (ad 29)]) ++ List.replicate (3 - (lg_sl ([.ref (ad 29)])).length) Slot.unset).toArray = ls at hl ⊢
  have hl : lv_has ls 3 [(0, .ref (ad 29))] := hl
  generalize hR : (f_X6_open σ ) = RV
  have hR := hR.symm
  unfold f_X6_open at hR
  obtain ⟨H, hH⟩ : ∃ z, z = s.heap := ⟨_, rfl⟩
  obtain ⟨locs, hlocs⟩ : ∃ z : List Loc, z = [] := ⟨_, rfl⟩
  rw [← hH] at hP
  have hS : va_S A s.heap H locs := by rw [hH, hlocs]; exact hS
  show W _ _ _ _ _ _ _ _ _ _ s.heap [] _ _ _ _
  rw [← hH, ← hlocs]
  clear hlocs
  obtain ⟨Ln, hLn60, hLn⟩ := hL0
  refine lv_iconst (v := 0) hx hb dX6_open_0 (by decide) ?_
  refine lv_istore_n (lv' := [(1, .int 0), (0, .ref (ad 29))]) hx hb dX6_open_1 rfl hl (by decide) rfl (fun ls hl => ?_)
  refine lv_iconst (v := 0) hx hb dX6_open_2 (by decide) ?_
  refine lv_istore_n (lv' := [(2, .int 0), (1, .int 0), (0, .ref (ad 29))]) hx hb dX6_open_3 rfl hl (by decide) rfl (fun ls hl => ?_)
  have loop_3 : ∀ (n k : Nat) (x1 : Int32) (x2 : Int32), x2 = nI (k) → k ≤ Ln → k + n = 61 → RV = L_X6_open_4 σ  n x1 x2 → ∀ (H : Heap) (locs : List Loc), va_P G vwCl (zw cs ad σ tl) H → va_D A (zw cs ad σ tl) → va_S A s.heap H locs → ∀ ls : Array Slot, lv_has ls 3 [(0, .ref (ad 29)), (1, .int x1), (2, .int x2)] → W p l e (headSpec wsX6_open { frames := 0, cells := 0, slots := 0, locals := 0 }).room s m (List.toArray [.ref (ad 29)]) below meth c H locs 0 0 (MQ below (va_Qi (fun (r : Int32) (_ : Unit) => r = RV) (fun _ t => zPo G A (zw cs ad σ tl) t) A) (List.toArray [.ref (ad 29)]) s 0 0 A) (F0 m 4 ls []) := by
    intro n
    induction n with
    | zero => intro k  x1 x2 ex hk hn; omega
    | succ n ih =>
      intro k  x1 x2 ex hk hn hR H locs hP hD hS ls hl
      rw [L_X6_open_4] at hR
      refine lv_iload_n hx hb dX6_open_4 rfl (lv_at hl 2 rfl) ?_
      refine lv_aload_n hx hb dX6_open_5 rfl (lv_at hl 0 rfl) ?_
      refine va_get (D := G) (ci := 8) (v := .int (σ 29 7)) (C := RX6) (T := TX6) (N := 29) hx hb hts iX6_open hown hE.1 hP 29 (zg_29 cs ad σ tl) rfl 7 (by decide) (hts (.fieldLink RX6 95 "HandoverDeckModel" "lines" "I") (by decide +kernel)) (fun _ h9 => h9) rfl dX6_open_6 ?_
      refine lv_icmp_ge (tgt := 35) hx hb dX6_open_9 (by decide) (fun c_1 => ?_) (fun c_1 => ?_)
      · have hR := hR.trans (if_pos c_1)
        refine lv_iload_n hx hb dX6_open_35 rfl (lv_at hl 1 rfl) ?_
        have hR := hR.symm
        subst hR
        exact W.iret (v := x1) hx hb hr (fun t ht hW => ⟨⟨_, (), rfl, rfl, by rw [ht]; exact hP, hD⟩, hS.F ht⟩) hS.2.2 dX6_open_36
      · have hR := hR.trans (if_neg c_1)
        have hkB : k < Ln := zlt ex (by omega) ⟨hLn, by omega⟩ c_1
        refine lv_iload_n hx hb dX6_open_12 rfl (lv_at hl 1 rfl) ?_
        refine lv_aload_n hx hb dX6_open_13 rfl (lv_at hl 0 rfl) ?_
        refine va_get (D := G) (ci := 8) (v := .ref (ad 32)) (C := RX6) (T := TX6) (N := 29) hx hb hts iX6_open hown hE.1 hP 29 (zg_29 cs ad σ tl) rfl 3 (by decide) (hts (.fieldLink RX6 17 "HandoverDeckModel" "isOpen" "[Z") (by decide +kernel)) (fun _ h9 => h9) rfl dX6_open_14 ?_
        refine lv_iload_n hx hb dX6_open_17 rfl (lv_at hl 2 rfl) ?_
        refine z_zald (v := (σ 32 x2.toNatClampNeg)) hx hb hE hP (zg_32 cs ad σ tl) (by rw [ex]; exact vp_in_nI (by omega) (by decide)) rfl dX6_open_18 ?_
        refine lv_if_eq (tgt := 26) hx hb dX6_open_19 (by decide) (fun c_2 => ?_) (fun c_2 => ?_)
        · have hR := hR.trans (if_pos c_2)
          refine lv_iconst (v := 0) hx hb dX6_open_26 (by decide) ?_
          refine lv_iadd hx hb dX6_open_27 ?_
          refine lv_istore_n (lv' := [(1, .int (x1 + 0)), (0, .ref (ad 29)), (2, .int x2)]) hx hb dX6_open_28 rfl hl (by decide) rfl (fun ls hl => ?_)
          refine lv_iinc (v := (x2 + 1)) (lv' := [(2, .int (x2 + 1)), (1, .int (x1 + 0)), (0, .ref (ad 29))]) hx hb dX6_open_29 hl (k := 2) rfl rfl (by decide) rfl (fun ls hl => ?_)
          refine lv_goto (tgt := 4) hx hb dX6_open_32 (by decide) ?_
          exact ih (k + 1)  (x1 + 0) (x2 + 1) (by rw [ex]; exact nI_1 _) (by omega) (by omega)  hR H locs hP hD hS ls (lv_sub hl [2, 1, 0] rfl)
        · have hR := hR.trans (if_neg c_2)
          refine lv_iconst (v := 1) hx hb dX6_open_22 (by decide) ?_
          refine lv_goto (tgt := 27) hx hb dX6_open_23 (by decide) ?_
          refine lv_iadd hx hb dX6_open_27 ?_
          refine lv_istore_n (lv' := [(1, .int (x1 + 1)), (0, .ref (ad 29)), (2, .int x2)]) hx hb dX6_open_28 rfl hl (by decide) rfl (fun ls hl => ?_)
          refine lv_iinc (v := (x2 + 1)) (lv' := [(2, .int (x2 + 1)), (1, .int (x1 + 1)), (0, .ref (ad 29))]) hx hb dX6_open_29 hl (k := 2) rfl rfl (by decide) rfl (fun ls hl => ?_)
          refine lv_goto (tgt := 4) hx hb dX6_open_32 (by decide) ?_
          exact ih (k + 1)  (x1 + 1) (x2 + 1) (by rw [ex]; exact nI_1 _) (by omega) (by omega)  hR H locs hP hD hS ls (lv_sub hl [2, 1, 0] rfl)
  exact loop_3 61 0  0 0 nI_0.symm (by omega) (by omega)  hR H locs hP hD hS ls (lv_sub hl [2, 1, 0] rfl)
def L_X6_unknown_4 (σ : zS)  : Nat → Int32 → Int32 → Int32
  | 0, _, _ => 0
  | n + 1, x1, x2 => (if (σ 29 7) ≤ x2 then x1 else (if (σ 32 x2.toNatClampNeg) = 0 then (L_X6_unknown_4 σ  n (x1 + 0) (x2 + 1)) else (if (σ 35 x2.toNatClampNeg) = 0 then (L_X6_unknown_4 σ  n (x1 + 1) (x2 + 1)) else (L_X6_unknown_4 σ  n (x1 + 0) (x2 + 1)))))
def f_X6_unknown (σ : zS)  : Int32 := (L_X6_unknown_4 σ  61 0 0)
theorem iX6_unknown : ∀ w ∈ u_ws RX6 TX6 29, w ∈ wsX6_unknown := by decide +kernel
set_option maxRecDepth 100000 in
theorem c_X6_unknown (l : Launch) (G : va_G) (cs : Nat → ClassId) (ad : Nat → Nat) (tl : va_W) (σ : zS)  (hL0 : ∃ n : Nat, n ≤ 60 ∧ σ 29 7 = nI n) : zMi l yX6_unknown wsX6_unknown { frames := 0, cells := 0, slots := 0, locals := 0 } G cs [.ref (ad 29)] (zw cs ad σ tl) (f_X6_unknown σ ) (zw cs ad σ tl) 0 0 := by
  intro sz
  refine Met.ofW (cc := cX6_unknown) (maxL := 3) (ret := (some .int)) (by decide) rfl ?_
  intro p e s m args below meth c s₁ B hml hv
  obtain ⟨rfl, hsz, hP, hD0, hE⟩ := hv
  have hx := B.exec
  have hb := B.bytes
  have hr := B.returns
  have hts := atoms_spec (ws := wsX6_unknown) B.pre
  have hown : s.vm.findClass RX6 = some m.cls := findClass_of_methodNamed B.named
  have hlocks := B.notSynchronized
  subst hsz
  have hD := hD0.self (sz := s.heap.size)
  have hA : ∀ q : Nat, s.heap.size ≤ q → (va_A (zw cs ad σ tl) s.heap.size) q := fun q h => Or.inr h
  generalize va_A (zw cs ad σ tl) s.heap.size = A at hD hE hA ⊢
  have hS : va_S A s.heap s.heap [] := va_S.rf
  have hl := lv_entry ([.ref (ad 29)]) (n := 3) (Nat.le_of_ble_eq_true rfl)
  rw [lg_entry_eq]
  generalize (lg_sl ([.ref (ad 29)]) ++ List.replicate (3 - (lg_sl ([.ref (ad 29)])).length) Slot.unset).toArray = ls at hl ⊢
  have hl : lv_has ls 3 [(0, .ref (ad 29))] := hl
  generalize hR : (f_X6_unknown σ ) = RV
  have hR := hR.symm
  unfold f_X6_unknown at hR
  obtain ⟨H, hH⟩ : ∃ z, z = s.heap := ⟨_, rfl⟩
  obtain ⟨locs, hlocs⟩ : ∃ z : List Loc, z = [] := ⟨_, rfl⟩
  rw [← hH] at hP
  have hS : va_S A s.heap H locs := by rw [hH, hlocs]; exact hS
  show W _ _ _ _ _ _ _ _ _ _ s.heap [] _ _ _ _
  rw [← hH, ← hlocs]
  clear hlocs
  obtain ⟨Ln, hLn60, hLn⟩ := hL0
  refine lv_iconst (v := 0) hx hb dX6_unknown_0 (by decide) ?_
  refine lv_istore_n (lv' := [(1, .int 0), (0, .ref (ad 29))]) hx hb dX6_unknown_1 rfl hl (by decide) rfl (fun ls hl => ?_)
  refine lv_iconst (v := 0) hx hb dX6_unknown_2 (by decide) ?_
  refine lv_istore_n (lv' := [(2, .int 0), (1, .int 0), (0, .ref (ad 29))]) hx hb dX6_unknown_3 rfl hl (by decide) rfl (fun ls hl => ?_)
  have loop_4 : ∀ (n k : Nat) (x1 : Int32) (x2 : Int32), x2 = nI (k) → k ≤ Ln → k + n = 61 → RV = L_X6_unknown_4 σ  n x1 x2 → ∀ (H : Heap) (locs : List Loc), va_P G vwCl (zw cs ad σ tl) H → va_D A (zw cs ad σ tl) → va_S A s.heap H locs → ∀ ls : Array Slot, lv_has ls 3 [(0, .ref (ad 29)), (1, .int x1), (2, .int x2)] → W p l e (headSpec wsX6_unknown { frames := 0, cells := 0, slots := 0, locals := 0 }).room s m (List.toArray [.ref (ad 29)]) below meth c H locs 0 0 (MQ below (va_Qi (fun (r : Int32) (_ : Unit) => r = RV) (fun _ t => zPo G A (zw cs ad σ tl) t) A) (List.toArray [.ref (ad 29)]) s 0 0 A) (F0 m 4 ls []) := by
    intro n
    induction n with
    | zero => intro k  x1 x2 ex hk hn; omega
    | succ n ih =>
      intro k  x1 x2 ex hk hn hR H locs hP hD hS ls hl
      rw [L_X6_unknown_4] at hR
      refine lv_iload_n hx hb dX6_unknown_4 rfl (lv_at hl 2 rfl) ?_
      refine lv_aload_n hx hb dX6_unknown_5 rfl (lv_at hl 0 rfl) ?_
      refine va_get (D := G) (ci := 8) (v := .int (σ 29 7)) (C := RX6) (T := TX6) (N := 29) hx hb hts iX6_unknown hown hE.1 hP 29 (zg_29 cs ad σ tl) rfl 7 (by decide) (hts (.fieldLink RX6 95 "HandoverDeckModel" "lines" "I") (by decide +kernel)) (fun _ h9 => h9) rfl dX6_unknown_6 ?_
      refine lv_icmp_ge (tgt := 44) hx hb dX6_unknown_9 (by decide) (fun c_1 => ?_) (fun c_1 => ?_)
      · have hR := hR.trans (if_pos c_1)
        refine lv_iload_n hx hb dX6_unknown_44 rfl (lv_at hl 1 rfl) ?_
        have hR := hR.symm
        subst hR
        exact W.iret (v := x1) hx hb hr (fun t ht hW => ⟨⟨_, (), rfl, rfl, by rw [ht]; exact hP, hD⟩, hS.F ht⟩) hS.2.2 dX6_unknown_45
      · have hR := hR.trans (if_neg c_1)
        have hkB : k < Ln := zlt ex (by omega) ⟨hLn, by omega⟩ c_1
        refine lv_iload_n hx hb dX6_unknown_12 rfl (lv_at hl 1 rfl) ?_
        refine lv_aload_n hx hb dX6_unknown_13 rfl (lv_at hl 0 rfl) ?_
        refine va_get (D := G) (ci := 8) (v := .ref (ad 32)) (C := RX6) (T := TX6) (N := 29) hx hb hts iX6_unknown hown hE.1 hP 29 (zg_29 cs ad σ tl) rfl 3 (by decide) (hts (.fieldLink RX6 17 "HandoverDeckModel" "isOpen" "[Z") (by decide +kernel)) (fun _ h9 => h9) rfl dX6_unknown_14 ?_
        refine lv_iload_n hx hb dX6_unknown_17 rfl (lv_at hl 2 rfl) ?_
        refine z_zald (v := (σ 32 x2.toNatClampNeg)) hx hb hE hP (zg_32 cs ad σ tl) (by rw [ex]; exact vp_in_nI (by omega) (by decide)) rfl dX6_unknown_18 ?_
        refine lv_if_eq (tgt := 35) hx hb dX6_unknown_19 (by decide) (fun c_2 => ?_) (fun c_2 => ?_)
        · have hR := hR.trans (if_pos c_2)
          refine lv_iconst (v := 0) hx hb dX6_unknown_35 (by decide) ?_
          refine lv_iadd hx hb dX6_unknown_36 ?_
          refine lv_istore_n (lv' := [(1, .int (x1 + 0)), (0, .ref (ad 29)), (2, .int x2)]) hx hb dX6_unknown_37 rfl hl (by decide) rfl (fun ls hl => ?_)
          refine lv_iinc (v := (x2 + 1)) (lv' := [(2, .int (x2 + 1)), (1, .int (x1 + 0)), (0, .ref (ad 29))]) hx hb dX6_unknown_38 hl (k := 2) rfl rfl (by decide) rfl (fun ls hl => ?_)
          refine lv_goto (tgt := 4) hx hb dX6_unknown_41 (by decide) ?_
          exact ih (k + 1)  (x1 + 0) (x2 + 1) (by rw [ex]; exact nI_1 _) (by omega) (by omega)  hR H locs hP hD hS ls (lv_sub hl [2, 1, 0] rfl)
        · have hR := hR.trans (if_neg c_2)
          refine lv_aload_n hx hb dX6_unknown_22 rfl (lv_at hl 0 rfl) ?_
          refine va_get (D := G) (ci := 8) (v := .ref (ad 35)) (C := RX6) (T := TX6) (N := 29) hx hb hts iX6_unknown hown hE.1 hP 29 (zg_29 cs ad σ tl) rfl 6 (by decide) (hts (.fieldLink RX6 27 "HandoverDeckModel" "isKnown" "[Z") (by decide +kernel)) (fun _ h9 => h9) rfl dX6_unknown_23 ?_
          refine lv_iload_n hx hb dX6_unknown_26 rfl (lv_at hl 2 rfl) ?_
          refine z_zald (v := (σ 35 x2.toNatClampNeg)) hx hb hE hP (zg_35 cs ad σ tl) (by rw [ex]; exact vp_in_nI (by omega) (by decide)) rfl dX6_unknown_27 ?_
          refine lv_if_ne (tgt := 35) hx hb dX6_unknown_28 (by decide) (fun c_3 => ?_) (fun c_3 => ?_)
          · have hR := hR.trans (if_neg c_3)
            refine lv_iconst (v := 0) hx hb dX6_unknown_35 (by decide) ?_
            refine lv_iadd hx hb dX6_unknown_36 ?_
            refine lv_istore_n (lv' := [(1, .int (x1 + 0)), (0, .ref (ad 29)), (2, .int x2)]) hx hb dX6_unknown_37 rfl hl (by decide) rfl (fun ls hl => ?_)
            refine lv_iinc (v := (x2 + 1)) (lv' := [(2, .int (x2 + 1)), (1, .int (x1 + 0)), (0, .ref (ad 29))]) hx hb dX6_unknown_38 hl (k := 2) rfl rfl (by decide) rfl (fun ls hl => ?_)
            refine lv_goto (tgt := 4) hx hb dX6_unknown_41 (by decide) ?_
            exact ih (k + 1)  (x1 + 0) (x2 + 1) (by rw [ex]; exact nI_1 _) (by omega) (by omega)  hR H locs hP hD hS ls (lv_sub hl [2, 1, 0] rfl)
          · have hR := hR.trans (if_pos c_3)
            refine lv_iconst (v := 1) hx hb dX6_unknown_31 (by decide) ?_
            refine lv_goto (tgt := 36) hx hb dX6_unknown_32 (by decide) ?_
            refine lv_iadd hx hb dX6_unknown_36 ?_
            refine lv_istore_n (lv' := [(1, .int (x1 + 1)), (0, .ref (ad 29)), (2, .int x2)]) hx hb dX6_unknown_37 rfl hl (by decide) rfl (fun ls hl => ?_)
            refine lv_iinc (v := (x2 + 1)) (lv' := [(2, .int (x2 + 1)), (1, .int (x1 + 1)), (0, .ref (ad 29))]) hx hb dX6_unknown_38 hl (k := 2) rfl rfl (by decide) rfl (fun ls hl => ?_)
            refine lv_goto (tgt := 4) hx hb dX6_unknown_41 (by decide) ?_
            exact ih (k + 1)  (x1 + 1) (x2 + 1) (by rw [ex]; exact nI_1 _) (by omega) (by omega)  hR H locs hP hD hS ls (lv_sub hl [2, 1, 0] rfl)
  exact loop_4 61 0  0 0 nI_0.symm (by omega) (by omega)  hR H locs hP hD hS ls (lv_sub hl [2, 1, 0] rfl)
def f_X6_isCrew (a1 : Int32) : Int32 := (f_X6_in a1.toInt64 0 3)
set_option maxRecDepth 100000 in
theorem c_X6_isCrew (l : Launch) (G : va_G) (cs : Nat → ClassId) (ad : Nat → Nat) (tl : va_W) (σ : zS) (a1 : Int32)  : zMi l yX6_isCrew wsX6_isCrew { frames := 1, cells := 0, slots := 0, locals := 25 } G cs [.int a1] (zw cs ad σ tl) (f_X6_isCrew a1) (zw cs ad σ tl) 0 0 := by
  intro sz
  refine Met.ofW (cc := cX6_isCrew) (maxL := 1) (ret := (some .boolean)) (by decide) rfl ?_
  intro p e s m args below meth c s₁ B hml hv
  obtain ⟨rfl, hsz, hP, hD0, hE⟩ := hv
  have hx := B.exec
  have hb := B.bytes
  have hr := B.returns
  have hts := atoms_spec (ws := wsX6_isCrew) B.pre
  have hown : s.vm.findClass RX6 = some m.cls := findClass_of_methodNamed B.named
  have hlocks := B.notSynchronized
  subst hsz
  have hD := hD0.self (sz := s.heap.size)
  have hA : ∀ q : Nat, s.heap.size ≤ q → (va_A (zw cs ad σ tl) s.heap.size) q := fun q h => Or.inr h
  generalize va_A (zw cs ad σ tl) s.heap.size = A at hD hE hA ⊢
  have hS : va_S A s.heap s.heap [] := va_S.rf
  have hl := lv_entry ([.int a1]) (n := 1) (Nat.le_of_ble_eq_true rfl)
  rw [lg_entry_eq]
  generalize (lg_sl ([.int a1]) ++ List.replicate (1 - (lg_sl ([.int a1])).length) Slot.unset).toArray = ls at hl ⊢
  have hl : lv_has ls 1 [(0, .int a1)] := hl
  generalize hR : (f_X6_isCrew a1) = RV
  have hR := hR.symm
  unfold f_X6_isCrew at hR
  obtain ⟨H, hH⟩ : ∃ z, z = s.heap := ⟨_, rfl⟩
  obtain ⟨locs, hlocs⟩ : ∃ z : List Loc, z = [] := ⟨_, rfl⟩
  rw [← hH] at hP
  have hS : va_S A s.heap H locs := by rw [hH, hlocs]; exact hS
  show W _ _ _ _ _ _ _ _ _ _ s.heap [] _ _ _ _
  rw [← hH, ← hlocs]
  clear hlocs
  refine lv_iload_n hx hb dX6_isCrew_0 rfl (lv_at hl 0 rfl) ?_
  refine lv_i2l (v := a1.toInt64) hx hb dX6_isCrew_1 rfl ?_
  refine lv_lconst (v := 0) hx hb dX6_isCrew_2 (by decide) ?_
  refine lv_ldc2 (v := 3) hx hb hown (hts (.constantLong RX6 101 3) (by decide +kernel)) dX6_isCrew_3 ?_
  refine zai (va_runS (As := [.long a1.toInt64, .long 0, .long 3]) (rest := []) ⟨hx, hb, hml, hown, hts⟩ (c_X6_in l G cs ad tl σ a1.toInt64 0 3  H.size) (va_cwS 3 hts gX6_isCrew_X6_in rfl rfl rfl (by decide +kernel) ⟨Nat.le_of_ble_eq_true rfl, Nat.le_of_ble_eq_true rfl⟩) (zps hE hP hD hS hA) rfl rfl hl.1 rfl (lv_room (Nat.le_of_ble_eq_true rfl)) dX6_isCrew_6 ⟨Nat.le_of_ble_eq_true rfl, Nat.le_of_ble_eq_true rfl⟩) hD hS hA (fun H locs hP hD hS => ?_)
  have hR := hR.symm
  subst hR
  exact W.zret (v := (f_X6_in a1.toInt64 0 3)) hx hb hr (nar_X6_in a1.toInt64 0 3) (fun t ht hW => ⟨⟨_, (), rfl, rfl, by rw [ht]; exact hP, hD⟩, hS.F ht⟩) hS.2.2 dX6_isCrew_9
theorem vin_X6_isCrew {a1 : Int32} (h : ¬ (f_X6_isCrew a1) = 0) : vp_in a1 4 := by
  unfold f_X6_isCrew at h
  have h1 := vin_in h
  rw [zi64] at h1
  have h2 : (0 : Int64).toInt = 0 := by decide
  have h3 : (3 : Int64).toInt = 3 := by decide
  exact vp_in_iff.mpr ⟨by omega, by omega⟩
def f_X6_restOf (σ : zS) (a1 : Int32) : Int32 := (if (σ 50 a1.toNatClampNeg) = (-1) then 0 else (if (σ 29 24) = a1 then 0 else (if (((σ 50 a1.toNatClampNeg) + 11) - (σ 29 0)) ≤ 0 then 0 else (((σ 50 a1.toNatClampNeg) + 11) - (σ 29 0)))))
theorem iX6_restOf : ∀ w ∈ u_ws RX6 TX6 29, w ∈ wsX6_restOf := by decide +kernel
set_option maxRecDepth 100000 in
theorem c_X6_restOf (l : Launch) (G : va_G) (cs : Nat → ClassId) (ad : Nat → Nat) (tl : va_W) (σ : zS) (a1 : Int32) (hc : vp_in a1 4) : zMi l yX6_restOf wsX6_restOf { frames := 0, cells := 0, slots := 0, locals := 0 } G cs [.ref (ad 29), .int a1] (zw cs ad σ tl) (f_X6_restOf σ a1) (zw cs ad σ tl) 0 0 := by
  intro sz
  refine Met.ofW (cc := cX6_restOf) (maxL := 3) (ret := (some .int)) (by decide) rfl ?_
  intro p e s m args below meth c s₁ B hml hv
  obtain ⟨rfl, hsz, hP, hD0, hE⟩ := hv
  have hx := B.exec
  have hb := B.bytes
  have hr := B.returns
  have hts := atoms_spec (ws := wsX6_restOf) B.pre
  have hown : s.vm.findClass RX6 = some m.cls := findClass_of_methodNamed B.named
  have hlocks := B.notSynchronized
  subst hsz
  have hD := hD0.self (sz := s.heap.size)
  have hA : ∀ q : Nat, s.heap.size ≤ q → (va_A (zw cs ad σ tl) s.heap.size) q := fun q h => Or.inr h
  generalize va_A (zw cs ad σ tl) s.heap.size = A at hD hE hA ⊢
  have hS : va_S A s.heap s.heap [] := va_S.rf
  have hl := lv_entry ([.ref (ad 29), .int a1]) (n := 3) (Nat.le_of_ble_eq_true rfl)
  rw [lg_entry_eq]
  generalize (lg_sl ([.ref (ad 29), .int a1]) ++ List.replicate (3 - (lg_sl ([.ref (ad 29), .int a1])).length) Slot.unset).toArray = ls at hl ⊢
  have hl : lv_has ls 3 [(0, .ref (ad 29)), (1, .int a1)] := hl
  generalize hR : (f_X6_restOf σ a1) = RV
  have hR := hR.symm
  unfold f_X6_restOf at hR
  obtain ⟨H, hH⟩ : ∃ z, z = s.heap := ⟨_, rfl⟩
  obtain ⟨locs, hlocs⟩ : ∃ z : List Loc, z = [] := ⟨_, rfl⟩
  rw [← hH] at hP
  have hS : va_S A s.heap H locs := by rw [hH, hlocs]; exact hS
  show W _ _ _ _ _ _ _ _ _ _ s.heap [] _ _ _ _
  rw [← hH, ← hlocs]
  clear hlocs
  refine lv_aload_n hx hb dX6_restOf_0 rfl (lv_at hl 0 rfl) ?_
  refine va_get (D := G) (ci := 8) (v := .ref (ad 50)) (C := RX6) (T := TX6) (N := 29) hx hb hts iX6_restOf hown hE.1 hP 29 (zg_29 cs ad σ tl) rfl 27 (by decide) (hts (.fieldLink RX6 79 "HandoverDeckModel" "endedAt" "[I") (by decide +kernel)) (fun _ h9 => h9) rfl dX6_restOf_1 ?_
  refine lv_iload_n hx hb dX6_restOf_4 rfl (lv_at hl 1 rfl) ?_
  refine z_iald (v := (σ 50 a1.toNatClampNeg)) hx hb hE hP (zg_50 cs ad σ tl) hc rfl dX6_restOf_5 ?_
  refine lv_iconst (v := (-1)) hx hb dX6_restOf_6 (by decide) ?_
  refine lv_icmp_eq (tgt := 18) hx hb dX6_restOf_7 (by decide) (fun c_1 => ?_) (fun c_1 => ?_)
  · have hR := hR.trans (if_pos c_1)
    refine lv_iconst (v := 0) hx hb dX6_restOf_18 (by decide) ?_
    refine lv_goto (tgt := 36) hx hb dX6_restOf_19 (by decide) ?_
    refine lv_istore_n (lv' := [(2, .int 0), (0, .ref (ad 29)), (1, .int a1)]) hx hb dX6_restOf_36 rfl hl (by decide) rfl (fun ls hl => ?_)
    refine lv_iload_n hx hb dX6_restOf_37 rfl (lv_at hl 0 rfl) ?_
    refine lv_if_le (tgt := 45) hx hb dX6_restOf_38 (by decide) (fun _ => ?_) (fun c => absurd c (by decide))
    refine lv_iconst (v := 0) hx hb dX6_restOf_45 (by decide) ?_
    have hR := hR.symm
    subst hR
    exact W.iret (v := 0) hx hb hr (fun t ht hW => ⟨⟨_, (), rfl, rfl, by rw [ht]; exact hP, hD⟩, hS.F ht⟩) hS.2.2 dX6_restOf_46
  · have hR := hR.trans (if_neg c_1)
    refine lv_aload_n hx hb dX6_restOf_10 rfl (lv_at hl 0 rfl) ?_
    refine va_get (D := G) (ci := 8) (v := .int (σ 29 24)) (C := RX6) (T := TX6) (N := 29) hx hb hts iX6_restOf hown hE.1 hP 29 (zg_29 cs ad σ tl) rfl 24 (by decide) (hts (.fieldLink RX6 72 "HandoverDeckModel" "crew" "I") (by decide +kernel)) (fun _ h9 => h9) rfl dX6_restOf_11 ?_
    refine lv_iload_n hx hb dX6_restOf_14 rfl (lv_at hl 1 rfl) ?_
    refine lv_icmp_ne (tgt := 22) hx hb dX6_restOf_15 (by decide) (fun c_2 => ?_) (fun c_2 => ?_)
    · have hR := hR.trans (if_neg c_2)
      refine lv_aload_n hx hb dX6_restOf_22 rfl (lv_at hl 0 rfl) ?_
      refine va_get (D := G) (ci := 8) (v := .ref (ad 50)) (C := RX6) (T := TX6) (N := 29) hx hb hts iX6_restOf hown hE.1 hP 29 (zg_29 cs ad σ tl) rfl 27 (by decide) (hts (.fieldLink RX6 79 "HandoverDeckModel" "endedAt" "[I") (by decide +kernel)) (fun _ h9 => h9) rfl dX6_restOf_23 ?_
      refine lv_iload_n hx hb dX6_restOf_26 rfl (lv_at hl 1 rfl) ?_
      refine z_iald (v := (σ 50 a1.toNatClampNeg)) hx hb hE hP (zg_50 cs ad σ tl) hc rfl dX6_restOf_27 ?_
      refine lv_bipush (v := 11) hx hb dX6_restOf_28 (by decide) ?_
      refine lv_iadd hx hb dX6_restOf_30 ?_
      refine lv_aload_n hx hb dX6_restOf_31 rfl (lv_at hl 0 rfl) ?_
      refine va_get (D := G) (ci := 8) (v := .int (σ 29 0)) (C := RX6) (T := TX6) (N := 29) hx hb hts iX6_restOf hown hE.1 hP 29 (zg_29 cs ad σ tl) rfl 0 (by decide) (hts (.fieldLink RX6 98 "HandoverDeckModel" "hour" "I") (by decide +kernel)) (fun _ h9 => h9) rfl dX6_restOf_32 ?_
      refine lv_isub hx hb dX6_restOf_35 ?_
      refine lv_istore_n (lv' := [(2, .int (((σ 50 a1.toNatClampNeg) + 11) - (σ 29 0))), (0, .ref (ad 29)), (1, .int a1)]) hx hb dX6_restOf_36 rfl hl (by decide) rfl (fun ls hl => ?_)
      refine lv_iload_n hx hb dX6_restOf_37 rfl (lv_at hl 0 rfl) ?_
      refine lv_if_le (tgt := 45) hx hb dX6_restOf_38 (by decide) (fun c_3 => ?_) (fun c_3 => ?_)
      · have hR := hR.trans (if_pos c_3)
        refine lv_iconst (v := 0) hx hb dX6_restOf_45 (by decide) ?_
        have hR := hR.symm
        subst hR
        exact W.iret (v := 0) hx hb hr (fun t ht hW => ⟨⟨_, (), rfl, rfl, by rw [ht]; exact hP, hD⟩, hS.F ht⟩) hS.2.2 dX6_restOf_46
      · have hR := hR.trans (if_neg c_3)
        refine lv_iload_n hx hb dX6_restOf_41 rfl (lv_at hl 0 rfl) ?_
        refine lv_goto (tgt := 46) hx hb dX6_restOf_42 (by decide) ?_
        have hR := hR.symm
        subst hR
        exact W.iret (v := (((σ 50 a1.toNatClampNeg) + 11) - (σ 29 0))) hx hb hr (fun t ht hW => ⟨⟨_, (), rfl, rfl, by rw [ht]; exact hP, hD⟩, hS.F ht⟩) hS.2.2 dX6_restOf_46
    · have hR := hR.trans (if_pos c_2)
      refine lv_iconst (v := 0) hx hb dX6_restOf_18 (by decide) ?_
      refine lv_goto (tgt := 36) hx hb dX6_restOf_19 (by decide) ?_
      refine lv_istore_n (lv' := [(2, .int 0), (0, .ref (ad 29)), (1, .int a1)]) hx hb dX6_restOf_36 rfl hl (by decide) rfl (fun ls hl => ?_)
      refine lv_iload_n hx hb dX6_restOf_37 rfl (lv_at hl 0 rfl) ?_
      refine lv_if_le (tgt := 45) hx hb dX6_restOf_38 (by decide) (fun _ => ?_) (fun c => absurd c (by decide))
      refine lv_iconst (v := 0) hx hb dX6_restOf_45 (by decide) ?_
      have hR := hR.symm
      subst hR
      exact W.iret (v := 0) hx hb hr (fun t ht hW => ⟨⟨_, (), rfl, rfl, by rw [ht]; exact hP, hD⟩, hS.F ht⟩) hS.2.2 dX6_restOf_46
