def f_X5_isUnit (a1 : Int32) : Int32 := (if a1 < 0 then 0 else (if 8 ≤ a1 then 0 else 1))
set_option maxRecDepth 100000 in
theorem c_X5_isUnit (l : Launch) (G : va_G) (cs : Nat → ClassId) (ad : Nat → Nat) (tl : va_W) (σ : zS) (a1 : Int32)  : zMi l yX5_isUnit wsX5_isUnit { frames := 0, cells := 0, slots := 0, locals := 0 } G cs [.int a1] (zw cs ad σ tl) (f_X5_isUnit a1) (zw cs ad σ tl) 0 0 := by
  intro sz
  refine Met.ofW (cc := cX5_isUnit) (maxL := 1) (ret := (some .boolean)) (by decide) rfl ?_
  intro p e s m args below meth c s₁ B hml hv
  obtain ⟨rfl, hsz, hP, hD0, hE⟩ := hv
  have hx := B.exec
  have hb := B.bytes
  have hr := B.returns
  have hts := atoms_spec (ws := wsX5_isUnit) B.pre
  have hown : s.vm.findClass RX5 = some m.cls := findClass_of_methodNamed B.named
  have hlocks := B.notSynchronized
  subst hsz
  have hD := hD0.self (sz := s.heap.size)
  have hA : ∀ q : Nat, s.heap.size ≤ q → (va_A (zw cs ad σ tl) s.heap.size) q := fun q h => Or.inr h
  generalize va_A (zw cs ad σ tl) s.heap.size = A at hD hE hA ⊢
  have hS : va_S A s.heap s.heap [] := va_S.rf
  have hl := lv_entry ([.int a1]) (n := 1) (Nat.le_of_ble_eq_true rfl)
  rw [lg_entry_eq]
  generalize (lg_sl ([.int a1]) ++ List.replicate (1 - (lg_sl ([.int a1])).length) Slot.unset).toArray = ls at hl ⊢
  have hl : lv_has ls 1 [(0, .int a1)] := hl
  generalize hR : (f_X5_isUnit a1) = RV
  have hR := hR.symm
  unfold f_X5_isUnit at hR
  obtain ⟨H, hH⟩ : ∃ z, z = s.heap := ⟨_, rfl⟩
  obtain ⟨locs, hlocs⟩ : ∃ z : List Loc, z = [] := ⟨_, rfl⟩
  rw [← hH] at hP
  have hS : va_S A s.heap H locs := by rw [hH, hlocs]; exact hS
  show W _ _ _ _ _ _ _ _ _ _ s.heap [] _ _ _ _
  rw [← hH, ← hlocs]
  clear hlocs
  refine lv_iload_n hx hb dX5_isUnit_0 rfl (lv_at hl 0 rfl) ?_
  refine lv_if_lt (tgt := 14) hx hb dX5_isUnit_1 (by decide) (fun c_1 => ?_) (fun c_1 => ?_)
  · have hR := hR.trans (if_pos c_1)
    refine lv_iconst (v := 0) hx hb dX5_isUnit_14 (by decide) ?_
    have hR := hR.symm
    subst hR
    exact W.zret (v := 0) hx hb hr rfl (fun t ht hW => ⟨⟨_, (), rfl, rfl, by rw [ht]; exact hP, hD⟩, hS.F ht⟩) hS.2.2 dX5_isUnit_15
  · have hR := hR.trans (if_neg c_1)
    refine lv_iload_n hx hb dX5_isUnit_4 rfl (lv_at hl 0 rfl) ?_
    refine lv_bipush (v := 8) hx hb dX5_isUnit_5 (by decide) ?_
    refine lv_icmp_ge (tgt := 14) hx hb dX5_isUnit_7 (by decide) (fun c_2 => ?_) (fun c_2 => ?_)
    · have hR := hR.trans (if_pos c_2)
      refine lv_iconst (v := 0) hx hb dX5_isUnit_14 (by decide) ?_
      have hR := hR.symm
      subst hR
      exact W.zret (v := 0) hx hb hr rfl (fun t ht hW => ⟨⟨_, (), rfl, rfl, by rw [ht]; exact hP, hD⟩, hS.F ht⟩) hS.2.2 dX5_isUnit_15
    · have hR := hR.trans (if_neg c_2)
      refine lv_iconst (v := 1) hx hb dX5_isUnit_10 (by decide) ?_
      refine lv_goto (tgt := 15) hx hb dX5_isUnit_11 (by decide) ?_
      have hR := hR.symm
      subst hR
      exact W.zret (v := 1) hx hb hr rfl (fun t ht hW => ⟨⟨_, (), rfl, rfl, by rw [ht]; exact hP, hD⟩, hS.F ht⟩) hS.2.2 dX5_isUnit_15
theorem nar_X5_isUnit (a1 : Int32) : narrow .boolean (.int (f_X5_isUnit a1)) = .int (f_X5_isUnit a1) := by unfold f_X5_isUnit; (repeat' split) <;> rfl
theorem vin_X5_isUnit {a1 : Int32} (h : ¬ (f_X5_isUnit a1) = 0) : vp_in a1 8 := by
  unfold f_X5_isUnit at h
  (repeat' split at h) <;> first | exact absurd rfl h | exact vin_rg (by assumption) (by assumption) (by decide)
def f_X5_isCrew (a1 : Int32) : Int32 := (if a1 < 0 then 0 else (if 4 ≤ a1 then 0 else 1))
set_option maxRecDepth 100000 in
theorem c_X5_isCrew (l : Launch) (G : va_G) (cs : Nat → ClassId) (ad : Nat → Nat) (tl : va_W) (σ : zS) (a1 : Int32)  : zMi l yX5_isCrew wsX5_isCrew { frames := 0, cells := 0, slots := 0, locals := 0 } G cs [.int a1] (zw cs ad σ tl) (f_X5_isCrew a1) (zw cs ad σ tl) 0 0 := by
  intro sz
  refine Met.ofW (cc := cX5_isCrew) (maxL := 1) (ret := (some .boolean)) (by decide) rfl ?_
  intro p e s m args below meth c s₁ B hml hv
  obtain ⟨rfl, hsz, hP, hD0, hE⟩ := hv
  have hx := B.exec
  have hb := B.bytes
  have hr := B.returns
  have hts := atoms_spec (ws := wsX5_isCrew) B.pre
  have hown : s.vm.findClass RX5 = some m.cls := findClass_of_methodNamed B.named
  have hlocks := B.notSynchronized
  subst hsz
  have hD := hD0.self (sz := s.heap.size)
  have hA : ∀ q : Nat, s.heap.size ≤ q → (va_A (zw cs ad σ tl) s.heap.size) q := fun q h => Or.inr h
  generalize va_A (zw cs ad σ tl) s.heap.size = A at hD hE hA ⊢
  have hS : va_S A s.heap s.heap [] := va_S.rf
  have hl := lv_entry ([.int a1]) (n := 1) (Nat.le_of_ble_eq_true rfl)
  rw [lg_entry_eq]
  generalize (lg_sl ([.int a1]) ++ List.replicate (1 - (lg_sl ([.int a1])).length) Slot.unset).toArray = ls at hl ⊢
  have hl : lv_has ls 1 [(0, .int a1)] := hl
  generalize hR : (f_X5_isCrew a1) = RV
  have hR := hR.symm
  unfold f_X5_isCrew at hR
  obtain ⟨H, hH⟩ : ∃ z, z = s.heap := ⟨_, rfl⟩
  obtain ⟨locs, hlocs⟩ : ∃ z : List Loc, z = [] := ⟨_, rfl⟩
  rw [← hH] at hP
  have hS : va_S A s.heap H locs := by rw [hH, hlocs]; exact hS
  show W _ _ _ _ _ _ _ _ _ _ s.heap [] _ _ _ _
  rw [← hH, ← hlocs]
  clear hlocs
  refine lv_iload_n hx hb dX5_isCrew_0 rfl (lv_at hl 0 rfl) ?_
  refine lv_if_lt (tgt := 13) hx hb dX5_isCrew_1 (by decide) (fun c_1 => ?_) (fun c_1 => ?_)
  · have hR := hR.trans (if_pos c_1)
    refine lv_iconst (v := 0) hx hb dX5_isCrew_13 (by decide) ?_
    have hR := hR.symm
    subst hR
    exact W.zret (v := 0) hx hb hr rfl (fun t ht hW => ⟨⟨_, (), rfl, rfl, by rw [ht]; exact hP, hD⟩, hS.F ht⟩) hS.2.2 dX5_isCrew_14
  · have hR := hR.trans (if_neg c_1)
    refine lv_iload_n hx hb dX5_isCrew_4 rfl (lv_at hl 0 rfl) ?_
    refine lv_iconst (v := 4) hx hb dX5_isCrew_5 (by decide) ?_
    refine lv_icmp_ge (tgt := 13) hx hb dX5_isCrew_6 (by decide) (fun c_2 => ?_) (fun c_2 => ?_)
    · have hR := hR.trans (if_pos c_2)
      refine lv_iconst (v := 0) hx hb dX5_isCrew_13 (by decide) ?_
      have hR := hR.symm
      subst hR
      exact W.zret (v := 0) hx hb hr rfl (fun t ht hW => ⟨⟨_, (), rfl, rfl, by rw [ht]; exact hP, hD⟩, hS.F ht⟩) hS.2.2 dX5_isCrew_14
    · have hR := hR.trans (if_neg c_2)
      refine lv_iconst (v := 1) hx hb dX5_isCrew_9 (by decide) ?_
      refine lv_goto (tgt := 14) hx hb dX5_isCrew_10 (by decide) ?_
      have hR := hR.symm
      subst hR
      exact W.zret (v := 1) hx hb hr rfl (fun t ht hW => ⟨⟨_, (), rfl, rfl, by rw [ht]; exact hP, hD⟩, hS.F ht⟩) hS.2.2 dX5_isCrew_14
theorem nar_X5_isCrew (a1 : Int32) : narrow .boolean (.int (f_X5_isCrew a1)) = .int (f_X5_isCrew a1) := by unfold f_X5_isCrew; (repeat' split) <;> rfl
theorem vin_X5_isCrew {a1 : Int32} (h : ¬ (f_X5_isCrew a1) = 0) : vp_in a1 4 := by
  unfold f_X5_isCrew at h
  (repeat' split at h) <;> first | exact absurd rfl h | exact vin_rg (by assumption) (by assumption) (by decide)
def f_X5_unitBit (a1 : Int32) : Int32 := (if (f_X5_isUnit a1) = 0 then 0 else (1 <<< (a1 &&& 31)))
set_option maxRecDepth 100000 in
theorem c_X5_unitBit (l : Launch) (G : va_G) (cs : Nat → ClassId) (ad : Nat → Nat) (tl : va_W) (σ : zS) (a1 : Int32)  : zMi l yX5_unitBit wsX5_unitBit { frames := 1, cells := 0, slots := 0, locals := 20 } G cs [.int a1] (zw cs ad σ tl) (f_X5_unitBit a1) (zw cs ad σ tl) 0 0 := by
  intro sz
  refine Met.ofW (cc := cX5_unitBit) (maxL := 1) (ret := (some .int)) (by decide) rfl ?_
  intro p e s m args below meth c s₁ B hml hv
  obtain ⟨rfl, hsz, hP, hD0, hE⟩ := hv
  have hx := B.exec
  have hb := B.bytes
  have hr := B.returns
  have hts := atoms_spec (ws := wsX5_unitBit) B.pre
  have hown : s.vm.findClass RX5 = some m.cls := findClass_of_methodNamed B.named
  have hlocks := B.notSynchronized
  subst hsz
  have hD := hD0.self (sz := s.heap.size)
  have hA : ∀ q : Nat, s.heap.size ≤ q → (va_A (zw cs ad σ tl) s.heap.size) q := fun q h => Or.inr h
  generalize va_A (zw cs ad σ tl) s.heap.size = A at hD hE hA ⊢
  have hS : va_S A s.heap s.heap [] := va_S.rf
  have hl := lv_entry ([.int a1]) (n := 1) (Nat.le_of_ble_eq_true rfl)
  rw [lg_entry_eq]
  generalize (lg_sl ([.int a1]) ++ List.replicate (1 - (lg_sl ([.int a1])).length) Slot.unset).toArray = ls at hl ⊢
  have hl : lv_has ls 1 [(0, .int a1)] := hl
  generalize hR : (f_X5_unitBit a1) = RV
  have hR := hR.symm
  unfold f_X5_unitBit at hR
  obtain ⟨H, hH⟩ : ∃ z, z = s.heap := ⟨_, rfl⟩
  obtain ⟨locs, hlocs⟩ : ∃ z : List Loc, z = [] := ⟨_, rfl⟩
  rw [← hH] at hP
  have hS : va_S A s.heap H locs := by rw [hH, hlocs]; exact hS
  show W _ _ _ _ _ _ _ _ _ _ s.heap [] _ _ _ _
  rw [← hH, ← hlocs]
  clear hlocs
  refine lv_iload_n hx hb dX5_unitBit_0 rfl (lv_at hl 0 rfl) ?_
  refine zai (va_runS (As := [.int a1]) (rest := []) ⟨hx, hb, hml, hown, hts⟩ (c_X5_isUnit l G cs ad tl σ a1  H.size) (va_cwS 1 hts gX5_unitBit_X5_isUnit rfl rfl rfl (by decide +kernel) ⟨Nat.le_of_ble_eq_true rfl, Nat.le_of_ble_eq_true rfl⟩) (zps hE hP hD hS hA) rfl rfl hl.1 rfl (lv_room (Nat.le_of_ble_eq_true rfl)) dX5_unitBit_1 ⟨Nat.le_of_ble_eq_true rfl, Nat.le_of_ble_eq_true rfl⟩) hD hS hA (fun H locs hP hD hS => ?_)
  refine lv_if_eq (tgt := 13) hx hb dX5_unitBit_4 (by decide) (fun c_1 => ?_) (fun c_1 => ?_)
  · have hR := hR.trans (if_pos c_1)
    refine lv_iconst (v := 0) hx hb dX5_unitBit_13 (by decide) ?_
    have hR := hR.symm
    subst hR
    exact W.iret (v := 0) hx hb hr (fun t ht hW => ⟨⟨_, (), rfl, rfl, by rw [ht]; exact hP, hD⟩, hS.F ht⟩) hS.2.2 dX5_unitBit_14
  · have hR := hR.trans (if_neg c_1)
    refine lv_iconst (v := 1) hx hb dX5_unitBit_7 (by decide) ?_
    refine lv_iload_n hx hb dX5_unitBit_8 rfl (lv_at hl 0 rfl) ?_
    refine lv_ishl hx hb dX5_unitBit_9 ?_
    refine lv_goto (tgt := 14) hx hb dX5_unitBit_10 (by decide) ?_
    have hR := hR.symm
    subst hR
    exact W.iret (v := (1 <<< (a1 &&& 31))) hx hb hr (fun t ht hW => ⟨⟨_, (), rfl, rfl, by rw [ht]; exact hP, hD⟩, hS.F ht⟩) hS.2.2 dX5_unitBit_14
def f_X5_alarmOf (a1 : Int32) (a2 : Int32) : Int32 := ((a1 * 4) + a2)
set_option maxRecDepth 100000 in
theorem c_X5_alarmOf (l : Launch) (G : va_G) (cs : Nat → ClassId) (ad : Nat → Nat) (tl : va_W) (σ : zS) (a1 : Int32) (a2 : Int32)  : zMi l yX5_alarmOf wsX5_alarmOf { frames := 0, cells := 0, slots := 0, locals := 0 } G cs [.int a1, .int a2] (zw cs ad σ tl) (f_X5_alarmOf a1 a2) (zw cs ad σ tl) 0 0 := by
  intro sz
  refine Met.ofW (cc := cX5_alarmOf) (maxL := 2) (ret := (some .int)) (by decide) rfl ?_
  intro p e s m args below meth c s₁ B hml hv
  obtain ⟨rfl, hsz, hP, hD0, hE⟩ := hv
  have hx := B.exec
  have hb := B.bytes
  have hr := B.returns
  have hts := atoms_spec (ws := wsX5_alarmOf) B.pre
  have hown : s.vm.findClass RX5 = some m.cls := findClass_of_methodNamed B.named
  have hlocks := B.notSynchronized
  subst hsz
  have hD := hD0.self (sz := s.heap.size)
  have hA : ∀ q : Nat, s.heap.size ≤ q → (va_A (zw cs ad σ tl) s.heap.size) q := fun q h => Or.inr h
  generalize va_A (zw cs ad σ tl) s.heap.size = A at hD hE hA ⊢
  have hS : va_S A s.heap s.heap [] := va_S.rf
  have hl := lv_entry ([.int a1, .int a2]) (n := 2) (Nat.le_of_ble_eq_true rfl)
  rw [lg_entry_eq]
  generalize (lg_sl ([.int a1, .int a2]) ++ List.replicate (2 - (lg_sl ([.int a1, .int a2])).length) Slot.unset).toArray = ls at hl ⊢
  have hl : lv_has ls 2 [(0, .int a1), (1, .int a2)] := hl
  generalize hR : (f_X5_alarmOf a1 a2) = RV
  have hR := hR.symm
  unfold f_X5_alarmOf at hR
  obtain ⟨H, hH⟩ : ∃ z, z = s.heap := ⟨_, rfl⟩
  obtain ⟨locs, hlocs⟩ : ∃ z : List Loc, z = [] := ⟨_, rfl⟩
  rw [← hH] at hP
  have hS : va_S A s.heap H locs := by rw [hH, hlocs]; exact hS
  show W _ _ _ _ _ _ _ _ _ _ s.heap [] _ _ _ _
  rw [← hH, ← hlocs]
  clear hlocs
  refine lv_iload_n hx hb dX5_alarmOf_0 rfl (lv_at hl 0 rfl) ?_
  refine lv_iconst (v := 4) hx hb dX5_alarmOf_1 (by decide) ?_
  refine lv_imul hx hb dX5_alarmOf_2 ?_
  refine lv_iload_n hx hb dX5_alarmOf_3 rfl (lv_at hl 1 rfl) ?_
  refine lv_iadd hx hb dX5_alarmOf_4 ?_
  have hR := hR.symm
  subst hR
  exact W.iret (v := ((a1 * 4) + a2)) hx hb hr (fun t ht hW => ⟨⟨_, (), rfl, rfl, by rw [ht]; exact hP, hD⟩, hS.F ht⟩) hS.2.2 dX5_alarmOf_5
def f_X5_stepPlace (a1 : Int32) (a2 : Int32) : Int32 := ((a1 * 8) + a2)
set_option maxRecDepth 100000 in
theorem c_X5_stepPlace (l : Launch) (G : va_G) (cs : Nat → ClassId) (ad : Nat → Nat) (tl : va_W) (σ : zS) (a1 : Int32) (a2 : Int32)  : zMi l yX5_stepPlace wsX5_stepPlace { frames := 0, cells := 0, slots := 0, locals := 0 } G cs [.int a1, .int a2] (zw cs ad σ tl) (f_X5_stepPlace a1 a2) (zw cs ad σ tl) 0 0 := by
  intro sz
  refine Met.ofW (cc := cX5_stepPlace) (maxL := 2) (ret := (some .int)) (by decide) rfl ?_
  intro p e s m args below meth c s₁ B hml hv
  obtain ⟨rfl, hsz, hP, hD0, hE⟩ := hv
  have hx := B.exec
  have hb := B.bytes
  have hr := B.returns
  have hts := atoms_spec (ws := wsX5_stepPlace) B.pre
  have hown : s.vm.findClass RX5 = some m.cls := findClass_of_methodNamed B.named
  have hlocks := B.notSynchronized
  subst hsz
  have hD := hD0.self (sz := s.heap.size)
  have hA : ∀ q : Nat, s.heap.size ≤ q → (va_A (zw cs ad σ tl) s.heap.size) q := fun q h => Or.inr h
  generalize va_A (zw cs ad σ tl) s.heap.size = A at hD hE hA ⊢
  have hS : va_S A s.heap s.heap [] := va_S.rf
  have hl := lv_entry ([.int a1, .int a2]) (n := 2) (Nat.le_of_ble_eq_true rfl)
  rw [lg_entry_eq]
  generalize (lg_sl ([.int a1, .int a2]) ++ List.replicate (2 - (lg_sl ([.int a1, .int a2])).length) Slot.unset).toArray = ls at hl ⊢
  have hl : lv_has ls 2 [(0, .int a1), (1, .int a2)] := hl
  generalize hR : (f_X5_stepPlace a1 a2) = RV
  have hR := hR.symm
  unfold f_X5_stepPlace at hR
  obtain ⟨H, hH⟩ : ∃ z, z = s.heap := ⟨_, rfl⟩
  obtain ⟨locs, hlocs⟩ : ∃ z : List Loc, z = [] := ⟨_, rfl⟩
  rw [← hH] at hP
  have hS : va_S A s.heap H locs := by rw [hH, hlocs]; exact hS
  show W _ _ _ _ _ _ _ _ _ _ s.heap [] _ _ _ _
  rw [← hH, ← hlocs]
  clear hlocs
  refine lv_iload_n hx hb dX5_stepPlace_0 rfl (lv_at hl 0 rfl) ?_
  refine lv_bipush (v := 8) hx hb dX5_stepPlace_1 (by decide) ?_
  refine lv_imul hx hb dX5_stepPlace_3 ?_
  refine lv_iload_n hx hb dX5_stepPlace_4 rfl (lv_at hl 1 rfl) ?_
  refine lv_iadd hx hb dX5_stepPlace_5 ?_
  have hR := hR.symm
  subst hR
  exact W.iret (v := ((a1 * 8) + a2)) hx hb hr (fun t ht hW => ⟨⟨_, (), rfl, rfl, by rw [ht]; exact hP, hD⟩, hS.F ht⟩) hS.2.2 dX5_stepPlace_6
def f_X5_stepNumber (a1 : Int32) : Int32 := (a1 - a1 / 8 * 8)
set_option maxRecDepth 100000 in
theorem c_X5_stepNumber (l : Launch) (G : va_G) (cs : Nat → ClassId) (ad : Nat → Nat) (tl : va_W) (σ : zS) (a1 : Int32)  : zMi l yX5_stepNumber wsX5_stepNumber { frames := 0, cells := 0, slots := 0, locals := 0 } G cs [.int a1] (zw cs ad σ tl) (f_X5_stepNumber a1) (zw cs ad σ tl) 0 0 := by
  intro sz
  refine Met.ofW (cc := cX5_stepNumber) (maxL := 1) (ret := (some .int)) (by decide) rfl ?_
  intro p e s m args below meth c s₁ B hml hv
  obtain ⟨rfl, hsz, hP, hD0, hE⟩ := hv
  have hx := B.exec
  have hb := B.bytes
  have hr := B.returns
  have hts := atoms_spec (ws := wsX5_stepNumber) B.pre
  have hown : s.vm.findClass RX5 = some m.cls := findClass_of_methodNamed B.named
  have hlocks := B.notSynchronized
  subst hsz
  have hD := hD0.self (sz := s.heap.size)
  have hA : ∀ q : Nat, s.heap.size ≤ q → (va_A (zw cs ad σ tl) s.heap.size) q := fun q h => Or.inr h
  generalize va_A (zw cs ad σ tl) s.heap.size = A at hD hE hA ⊢
  have hS : va_S A s.heap s.heap [] := va_S.rf
  have hl := lv_entry ([.int a1]) (n := 1) (Nat.le_of_ble_eq_true rfl)
  rw [lg_entry_eq]
  generalize (lg_sl ([.int a1]) ++ List.replicate (1 - (lg_sl ([.int a1])).length) Slot.unset).toArray = ls at hl ⊢
  have hl : lv_has ls 1 [(0, .int a1)] := hl
  generalize hR : (f_X5_stepNumber a1) = RV
  have hR := hR.symm
  unfold f_X5_stepNumber at hR
  obtain ⟨H, hH⟩ : ∃ z, z = s.heap := ⟨_, rfl⟩
  obtain ⟨locs, hlocs⟩ : ∃ z : List Loc, z = [] := ⟨_, rfl⟩
  rw [← hH] at hP
  have hS : va_S A s.heap H locs := by rw [hH, hlocs]; exact hS
  show W _ _ _ _ _ _ _ _ _ _ s.heap [] _ _ _ _
  rw [← hH, ← hlocs]
  clear hlocs
  refine lv_iload_n hx hb dX5_stepNumber_0 rfl (lv_at hl 0 rfl) ?_
  refine lv_bipush (v := 8) hx hb dX5_stepNumber_1 (by decide) ?_
  refine lv_irem hx hb dX5_stepNumber_3 (by decide) ?_
  have hR := hR.symm
  subst hR
  exact W.iret (v := (a1 - a1 / 8 * 8)) hx hb hr (fun t ht hW => ⟨⟨_, (), rfl, rfl, by rw [ht]; exact hP, hD⟩, hS.F ht⟩) hS.2.2 dX5_stepNumber_4
def f_X0_isAlarm (a1 : Int32) : Int32 := (if a1 < 0 then 0 else (if 32 ≤ a1 then 0 else 1))
set_option maxRecDepth 100000 in
theorem c_X0_isAlarm (l : Launch) (G : va_G) (cs : Nat → ClassId) (ad : Nat → Nat) (tl : va_W) (σ : zS) (a1 : Int32)  : zMi l yX0_isAlarm wsX0_isAlarm { frames := 0, cells := 0, slots := 0, locals := 0 } G cs [.int a1] (zw cs ad σ tl) (f_X0_isAlarm a1) (zw cs ad σ tl) 0 0 := by
  intro sz
  refine Met.ofW (cc := cX0_isAlarm) (maxL := 1) (ret := (some .boolean)) (by decide) rfl ?_
  intro p e s m args below meth c s₁ B hml hv
  obtain ⟨rfl, hsz, hP, hD0, hE⟩ := hv
  have hx := B.exec
  have hb := B.bytes
  have hr := B.returns
  have hts := atoms_spec (ws := wsX0_isAlarm) B.pre
  have hown : s.vm.findClass RX0 = some m.cls := findClass_of_methodNamed B.named
  have hlocks := B.notSynchronized
  subst hsz
  have hD := hD0.self (sz := s.heap.size)
  have hA : ∀ q : Nat, s.heap.size ≤ q → (va_A (zw cs ad σ tl) s.heap.size) q := fun q h => Or.inr h
  generalize va_A (zw cs ad σ tl) s.heap.size = A at hD hE hA ⊢
  have hS : va_S A s.heap s.heap [] := va_S.rf
  have hl := lv_entry ([.int a1]) (n := 1) (Nat.le_of_ble_eq_true rfl)
  rw [lg_entry_eq]
  generalize (lg_sl ([.int a1]) ++ List.replicate (1 - (lg_sl ([.int a1])).length) Slot.unset).toArray = ls at hl ⊢
  have hl : lv_has ls 1 [(0, .int a1)] := hl
  generalize hR : (f_X0_isAlarm a1) = RV
  have hR := hR.symm
  unfold f_X0_isAlarm at hR
  obtain ⟨H, hH⟩ : ∃ z, z = s.heap := ⟨_, rfl⟩
  obtain ⟨locs, hlocs⟩ : ∃ z : List Loc, z = [] := ⟨_, rfl⟩
  rw [← hH] at hP
  have hS : va_S A s.heap H locs := by rw [hH, hlocs]; exact hS
  show W _ _ _ _ _ _ _ _ _ _ s.heap [] _ _ _ _
  rw [← hH, ← hlocs]
  clear hlocs
  refine lv_iload_n hx hb dX0_isAlarm_0 rfl (lv_at hl 0 rfl) ?_
  refine lv_if_lt (tgt := 14) hx hb dX0_isAlarm_1 (by decide) (fun c_1 => ?_) (fun c_1 => ?_)
  · have hR := hR.trans (if_pos c_1)
    refine lv_iconst (v := 0) hx hb dX0_isAlarm_14 (by decide) ?_
    have hR := hR.symm
    subst hR
    exact W.zret (v := 0) hx hb hr rfl (fun t ht hW => ⟨⟨_, (), rfl, rfl, by rw [ht]; exact hP, hD⟩, hS.F ht⟩) hS.2.2 dX0_isAlarm_15
  · have hR := hR.trans (if_neg c_1)
    refine lv_iload_n hx hb dX0_isAlarm_4 rfl (lv_at hl 0 rfl) ?_
    refine lv_bipush (v := 32) hx hb dX0_isAlarm_5 (by decide) ?_
    refine lv_icmp_ge (tgt := 14) hx hb dX0_isAlarm_7 (by decide) (fun c_2 => ?_) (fun c_2 => ?_)
    · have hR := hR.trans (if_pos c_2)
      refine lv_iconst (v := 0) hx hb dX0_isAlarm_14 (by decide) ?_
      have hR := hR.symm
      subst hR
      exact W.zret (v := 0) hx hb hr rfl (fun t ht hW => ⟨⟨_, (), rfl, rfl, by rw [ht]; exact hP, hD⟩, hS.F ht⟩) hS.2.2 dX0_isAlarm_15
    · have hR := hR.trans (if_neg c_2)
      refine lv_iconst (v := 1) hx hb dX0_isAlarm_10 (by decide) ?_
      refine lv_goto (tgt := 15) hx hb dX0_isAlarm_11 (by decide) ?_
      have hR := hR.symm
      subst hR
      exact W.zret (v := 1) hx hb hr rfl (fun t ht hW => ⟨⟨_, (), rfl, rfl, by rw [ht]; exact hP, hD⟩, hS.F ht⟩) hS.2.2 dX0_isAlarm_15
theorem nar_X0_isAlarm (a1 : Int32) : narrow .boolean (.int (f_X0_isAlarm a1)) = .int (f_X0_isAlarm a1) := by unfold f_X0_isAlarm; (repeat' split) <;> rfl
theorem vin_X0_isAlarm {a1 : Int32} (h : ¬ (f_X0_isAlarm a1) = 0) : vp_in a1 32 := by
  unfold f_X0_isAlarm at h
  (repeat' split at h) <;> first | exact absurd rfl h | exact vin_rg (by assumption) (by assumption) (by decide)
def f_X0_isActive (σ : zS) (a1 : Int32) : Int32 := (if (f_X0_isAlarm a1) = 0 then 0 else (if (σ 10 a1.toNatClampNeg) ≤ 0 then 0 else 1))
theorem iX0_isActive : ∀ w ∈ u_ws RX0 TX0 3, w ∈ wsX0_isActive := by decide +kernel
set_option maxRecDepth 100000 in
theorem c_X0_isActive (l : Launch) (G : va_G) (cs : Nat → ClassId) (ad : Nat → Nat) (tl : va_W) (σ : zS) (a1 : Int32)  : zMi l yX0_isActive wsX0_isActive { frames := 1, cells := 0, slots := 0, locals := 20 } G cs [.ref (ad 9), .int a1] (zw cs ad σ tl) (f_X0_isActive σ a1) (zw cs ad σ tl) 0 0 := by
  intro sz
  refine Met.ofW (cc := cX0_isActive) (maxL := 2) (ret := (some .boolean)) (by decide) rfl ?_
  intro p e s m args below meth c s₁ B hml hv
  obtain ⟨rfl, hsz, hP, hD0, hE⟩ := hv
  have hx := B.exec
  have hb := B.bytes
  have hr := B.returns
  have hts := atoms_spec (ws := wsX0_isActive) B.pre
  have hown : s.vm.findClass RX0 = some m.cls := findClass_of_methodNamed B.named
  have hlocks := B.notSynchronized
  subst hsz
  have hD := hD0.self (sz := s.heap.size)
  have hA : ∀ q : Nat, s.heap.size ≤ q → (va_A (zw cs ad σ tl) s.heap.size) q := fun q h => Or.inr h
  generalize va_A (zw cs ad σ tl) s.heap.size = A at hD hE hA ⊢
  have hS : va_S A s.heap s.heap [] := va_S.rf
  have hl := lv_entry ([.ref (ad 9), .int a1]) (n := 2) (Nat.le_of_ble_eq_true rfl)
  rw [lg_entry_eq]
  generalize (lg_sl ([.ref (ad 9), .int a1]) ++ List.replicate (2 - (lg_sl ([.ref (ad 9), .int a1])).length) Slot.unset).toArray = ls at hl ⊢
  have hl : lv_has ls 2 [(0, .ref (ad 9)), (1, .int a1)] := hl
  generalize hR : (f_X0_isActive σ a1) = RV
  have hR := hR.symm
  unfold f_X0_isActive at hR
  obtain ⟨H, hH⟩ : ∃ z, z = s.heap := ⟨_, rfl⟩
  obtain ⟨locs, hlocs⟩ : ∃ z : List Loc, z = [] := ⟨_, rfl⟩
  rw [← hH] at hP
  have hS : va_S A s.heap H locs := by rw [hH, hlocs]; exact hS
  show W _ _ _ _ _ _ _ _ _ _ s.heap [] _ _ _ _
  rw [← hH, ← hlocs]
  clear hlocs
  refine lv_iload_n hx hb dX0_isActive_0 rfl (lv_at hl 1 rfl) ?_
  refine zai (va_runS (As := [.int a1]) (rest := []) ⟨hx, hb, hml, hown, hts⟩ (c_X0_isAlarm l G cs ad tl σ a1  H.size) (va_cwS 1 hts gX0_isActive_X0_isAlarm rfl rfl rfl (by decide +kernel) ⟨Nat.le_of_ble_eq_true rfl, Nat.le_of_ble_eq_true rfl⟩) (zps hE hP hD hS hA) rfl rfl hl.1 rfl (lv_room (Nat.le_of_ble_eq_true rfl)) dX0_isActive_1 ⟨Nat.le_of_ble_eq_true rfl, Nat.le_of_ble_eq_true rfl⟩) hD hS hA (fun H locs hP hD hS => ?_)
  refine lv_if_eq (tgt := 20) hx hb dX0_isActive_4 (by decide) (fun c_1 => ?_) (fun c_1 => ?_)
  · have hR := hR.trans (if_pos c_1)
    refine lv_iconst (v := 0) hx hb dX0_isActive_20 (by decide) ?_
    have hR := hR.symm
    subst hR
    exact W.zret (v := 0) hx hb hr rfl (fun t ht hW => ⟨⟨_, (), rfl, rfl, by rw [ht]; exact hP, hD⟩, hS.F ht⟩) hS.2.2 dX0_isActive_21
  · have hR := hR.trans (if_neg c_1)
    refine lv_aload_n hx hb dX0_isActive_7 rfl (lv_at hl 0 rfl) ?_
    refine va_get (D := G) (ci := 2) (v := .ref (ad 10)) (C := RX0) (T := TX0) (N := 3) hx hb hts iX0_isActive hown hE.1 hP 9 (zg_9 cs ad σ tl) rfl 0 (by decide) (hts (.fieldLink RX0 9 "HandoverDeck$AlarmBoard" "priorities" "[I") (by decide +kernel)) (fun _ h9 => h9) rfl dX0_isActive_8 ?_
    refine lv_iload_n hx hb dX0_isActive_11 rfl (lv_at hl 1 rfl) ?_
    refine z_iald (v := (σ 10 a1.toNatClampNeg)) hx hb hE hP (zg_10 cs ad σ tl) (vin_X0_isAlarm c_1) rfl dX0_isActive_12 ?_
    refine lv_if_le (tgt := 20) hx hb dX0_isActive_13 (by decide) (fun c_2 => ?_) (fun c_2 => ?_)
    · have hR := hR.trans (if_pos c_2)
      refine lv_iconst (v := 0) hx hb dX0_isActive_20 (by decide) ?_
      have hR := hR.symm
      subst hR
      exact W.zret (v := 0) hx hb hr rfl (fun t ht hW => ⟨⟨_, (), rfl, rfl, by rw [ht]; exact hP, hD⟩, hS.F ht⟩) hS.2.2 dX0_isActive_21
    · have hR := hR.trans (if_neg c_2)
      refine lv_iconst (v := 1) hx hb dX0_isActive_16 (by decide) ?_
      refine lv_goto (tgt := 21) hx hb dX0_isActive_17 (by decide) ?_
      have hR := hR.symm
      subst hR
      exact W.zret (v := 1) hx hb hr rfl (fun t ht hW => ⟨⟨_, (), rfl, rfl, by rw [ht]; exact hP, hD⟩, hS.F ht⟩) hS.2.2 dX0_isActive_21
theorem nar_X0_isActive (σ : zS) (a1 : Int32) : narrow .boolean (.int (f_X0_isActive σ a1)) = .int (f_X0_isActive σ a1) := by unfold f_X0_isActive; (repeat' split) <;> rfl
theorem vin_X0_isActive {σ : zS} {a1 : Int32} (h : ¬ (f_X0_isActive σ a1) = 0) : vp_in a1 32 := by
  unfold f_X0_isActive at h
  (repeat' split at h) <;> first | exact absurd rfl h | exact vin_rg (by assumption) (by assumption) (by decide) | exact vin_X0_isAlarm (by assumption)
def f_X0_lineOf (σ : zS) (a1 : Int32) : Int32 := (if (f_X0_isActive σ a1) = 0 then (-1) else (σ 11 a1.toNatClampNeg))
theorem iX0_lineOf : ∀ w ∈ u_ws RX0 TX0 3, w ∈ wsX0_lineOf := by decide +kernel
set_option maxRecDepth 100000 in
theorem c_X0_lineOf (l : Launch) (G : va_G) (cs : Nat → ClassId) (ad : Nat → Nat) (tl : va_W) (σ : zS) (a1 : Int32)  : zMi l yX0_lineOf wsX0_lineOf { frames := 2, cells := 0, slots := 0, locals := 41 } G cs [.ref (ad 9), .int a1] (zw cs ad σ tl) (f_X0_lineOf σ a1) (zw cs ad σ tl) 0 0 := by
  intro sz
  refine Met.ofW (cc := cX0_lineOf) (maxL := 2) (ret := (some .int)) (by decide) rfl ?_
  intro p e s m args below meth c s₁ B hml hv
  obtain ⟨rfl, hsz, hP, hD0, hE⟩ := hv
  have hx := B.exec
  have hb := B.bytes
  have hr := B.returns
  have hts := atoms_spec (ws := wsX0_lineOf) B.pre
  have hown : s.vm.findClass RX0 = some m.cls := findClass_of_methodNamed B.named
  have hlocks := B.notSynchronized
  subst hsz
  have hD := hD0.self (sz := s.heap.size)
  have hA : ∀ q : Nat, s.heap.size ≤ q → (va_A (zw cs ad σ tl) s.heap.size) q := fun q h => Or.inr h
  generalize va_A (zw cs ad σ tl) s.heap.size = A at hD hE hA ⊢
  have hS : va_S A s.heap s.heap [] := va_S.rf
  have hl := lv_entry ([.ref (ad 9), .int a1]) (n := 2) (Nat.le_of_ble_eq_true rfl)
  rw [lg_entry_eq]
  generalize (lg_sl ([.ref (ad 9), .int a1]) ++ List.replicate (2 - (lg_sl ([.ref (ad 9), .int a1])).length) Slot.unset).toArray = ls at hl ⊢
  have hl : lv_has ls 2 [(0, .ref (ad 9)), (1, .int a1)] := hl
  generalize hR : (f_X0_lineOf σ a1) = RV
  have hR := hR.symm
  unfold f_X0_lineOf at hR
  obtain ⟨H, hH⟩ : ∃ z, z = s.heap := ⟨_, rfl⟩
  obtain ⟨locs, hlocs⟩ : ∃ z : List Loc, z = [] := ⟨_, rfl⟩
  rw [← hH] at hP
  have hS : va_S A s.heap H locs := by rw [hH, hlocs]; exact hS
  show W _ _ _ _ _ _ _ _ _ _ s.heap [] _ _ _ _
  rw [← hH, ← hlocs]
  clear hlocs
  refine lv_aload_n hx hb dX0_lineOf_0 rfl (lv_at hl 0 rfl) ?_
  refine lv_iload_n hx hb dX0_lineOf_1 rfl (lv_at hl 1 rfl) ?_
  refine zai (va_runV (As := [.int a1]) (rest := []) ⟨hx, hb, hml, hown, hts⟩ (c_X0_isActive l G cs ad tl σ a1  H.size) (cwV 1 hts gX0_lineOf_X0_isActive rfl rfl rfl (by decide +kernel) ⟨Nat.le_of_ble_eq_true rfl, Nat.le_of_ble_eq_true rfl⟩) (zpv hE hP hD hS hA (zg_9 cs ad σ tl) rfl) rfl rfl hl.1 rfl (lv_room (Nat.le_of_ble_eq_true rfl)) dX0_lineOf_2 ⟨Nat.le_of_ble_eq_true rfl, Nat.le_of_ble_eq_true rfl⟩) hD hS hA (fun H locs hP hD hS => ?_)
  refine lv_if_eq (tgt := 17) hx hb dX0_lineOf_5 (by decide) (fun c_1 => ?_) (fun c_1 => ?_)
  · have hR := hR.trans (if_pos c_1)
    refine lv_iconst (v := (-1)) hx hb dX0_lineOf_17 (by decide) ?_
    have hR := hR.symm
    subst hR
    exact W.iret (v := (-1)) hx hb hr (fun t ht hW => ⟨⟨_, (), rfl, rfl, by rw [ht]; exact hP, hD⟩, hS.F ht⟩) hS.2.2 dX0_lineOf_18
  · have hR := hR.trans (if_neg c_1)
    refine lv_aload_n hx hb dX0_lineOf_8 rfl (lv_at hl 0 rfl) ?_
    refine va_get (D := G) (ci := 2) (v := .ref (ad 11)) (C := RX0) (T := TX0) (N := 3) hx hb hts iX0_lineOf hown hE.1 hP 9 (zg_9 cs ad σ tl) rfl 1 (by decide) (hts (.fieldLink RX0 15 "HandoverDeck$AlarmBoard" "lines" "[I") (by decide +kernel)) (fun _ h9 => h9) rfl dX0_lineOf_9 ?_
    refine lv_iload_n hx hb dX0_lineOf_12 rfl (lv_at hl 1 rfl) ?_
    refine z_iald (v := (σ 11 a1.toNatClampNeg)) hx hb hE hP (zg_11 cs ad σ tl) (vin_X0_isActive c_1) rfl dX0_lineOf_13 ?_
    refine lv_goto (tgt := 18) hx hb dX0_lineOf_14 (by decide) ?_
    have hR := hR.symm
    subst hR
    exact W.iret (v := (σ 11 a1.toNatClampNeg)) hx hb hr (fun t ht hW => ⟨⟨_, (), rfl, rfl, by rw [ht]; exact hP, hD⟩, hS.F ht⟩) hS.2.2 dX0_lineOf_18
def f_X0_activate (σ : zS) (a1 : Int32) (a2 : Int32) (a3 : Int32) : zS := (if (f_X0_isAlarm a1) = 0 then σ else (zs (zs (zs σ 10 a1.toNatClampNeg a2) 11 a1.toNatClampNeg a3) 12 a1.toNatClampNeg 0))
theorem iX0_activate : ∀ w ∈ u_ws RX0 TX0 3, w ∈ wsX0_activate := by decide +kernel
set_option maxRecDepth 100000 in
theorem c_X0_activate (l : Launch) (G : va_G) (cs : Nat → ClassId) (ad : Nat → Nat) (tl : va_W) (σ : zS) (a1 : Int32) (a2 : Int32) (a3 : Int32)  : zMv l yX0_activate wsX0_activate { frames := 1, cells := 0, slots := 0, locals := 20 } G cs [.ref (ad 9), .int a1, .int a2, .int a3] (zw cs ad σ tl) (zw cs ad (f_X0_activate σ a1 a2 a3) tl) 0 0 := by
  intro sz
  refine Met.ofW (cc := cX0_activate) (maxL := 4) (ret := none) (by decide) rfl ?_
  intro p e s m args below meth c s₁ B hml hv
  obtain ⟨rfl, hsz, hP, hD0, hE⟩ := hv
  have hx := B.exec
  have hb := B.bytes
  have hr := B.returns
  have hts := atoms_spec (ws := wsX0_activate) B.pre
  have hown : s.vm.findClass RX0 = some m.cls := findClass_of_methodNamed B.named
  have hlocks := B.notSynchronized
  subst hsz
  have hD := hD0.self (sz := s.heap.size)
  have hA : ∀ q : Nat, s.heap.size ≤ q → (va_A (zw cs ad σ tl) s.heap.size) q := fun q h => Or.inr h
  generalize va_A (zw cs ad σ tl) s.heap.size = A at hD hE hA ⊢
  have hS : va_S A s.heap s.heap [] := va_S.rf
  have hl := lv_entry ([.ref (ad 9), .int a1, .int a2, .int a3]) (n := 4) (Nat.le_of_ble_eq_true rfl)
  rw [lg_entry_eq]
  generalize (lg_sl ([.ref (ad 9), .int a1, .int a2, .int a3]) ++ List.replicate (4 - (lg_sl ([.ref (ad 9), .int a1, .int a2, .int a3])).length) Slot.unset).toArray = ls at hl ⊢
  have hl : lv_has ls 4 [(0, .ref (ad 9)), (1, .int a1), (2, .int a2), (3, .int a3)] := hl
  generalize hR : (f_X0_activate σ a1 a2 a3) = RV
  have hR := hR.symm
  unfold f_X0_activate at hR
  obtain ⟨H, hH⟩ : ∃ z, z = s.heap := ⟨_, rfl⟩
  obtain ⟨locs, hlocs⟩ : ∃ z : List Loc, z = [] := ⟨_, rfl⟩
  rw [← hH] at hP
  have hS : va_S A s.heap H locs := by rw [hH, hlocs]; exact hS
  show W _ _ _ _ _ _ _ _ _ _ s.heap [] _ _ _ _
  rw [← hH, ← hlocs]
  clear hlocs
  refine lv_iload_n hx hb dX0_activate_0 rfl (lv_at hl 1 rfl) ?_
  refine zai (va_runS (As := [.int a1]) (rest := []) ⟨hx, hb, hml, hown, hts⟩ (c_X0_isAlarm l G cs ad tl σ a1  H.size) (va_cwS 1 hts gX0_activate_X0_isAlarm rfl rfl rfl (by decide +kernel) ⟨Nat.le_of_ble_eq_true rfl, Nat.le_of_ble_eq_true rfl⟩) (zps hE hP hD hS hA) rfl rfl hl.1 rfl (lv_room (Nat.le_of_ble_eq_true rfl)) dX0_activate_1 ⟨Nat.le_of_ble_eq_true rfl, Nat.le_of_ble_eq_true rfl⟩) hD hS hA (fun H locs hP hD hS => ?_)
  refine lv_if_eq (tgt := 28) hx hb dX0_activate_4 (by decide) (fun c_1 => ?_) (fun c_1 => ?_)
  · have hR := hR.trans (if_pos c_1)
    have hR := hR.symm
    subst hR
    exact W.vret hx hb hr (fun t ht hW => ⟨⟨(), rfl, trivial, by rw [ht]; exact hP, hD⟩, hS.F ht⟩) hS.2.2 dX0_activate_28
  · have hR := hR.trans (if_neg c_1)
    refine lv_aload_n hx hb dX0_activate_7 rfl (lv_at hl 0 rfl) ?_
    refine va_get (D := G) (ci := 2) (v := .ref (ad 10)) (C := RX0) (T := TX0) (N := 3) hx hb hts iX0_activate hown hE.1 hP 9 (zg_9 cs ad σ tl) rfl 0 (by decide) (hts (.fieldLink RX0 9 "HandoverDeck$AlarmBoard" "priorities" "[I") (by decide +kernel)) (fun _ h9 => h9) rfl dX0_activate_8 ?_
    refine lv_iload_n hx hb dX0_activate_11 rfl (lv_at hl 1 rfl) ?_
    refine lv_iload_n hx hb dX0_activate_12 rfl (lv_at hl 2 rfl) ?_
    refine z_iast hx hb hE hP hD hS (zg_10 cs ad σ tl) (zb_10 cs ad σ tl) (vin_X0_isAlarm c_1) dX0_activate_13 (fun H locs hP hD hS => ?_)
    refine lv_aload_n hx hb dX0_activate_14 rfl (lv_at hl 0 rfl) ?_
    refine va_get (D := G) (ci := 2) (v := .ref (ad 11)) (C := RX0) (T := TX0) (N := 3) hx hb hts iX0_activate hown hE.1 hP 9 (zg_9 cs ad (zs σ 10 a1.toNatClampNeg a2) tl) rfl 1 (by decide) (hts (.fieldLink RX0 15 "HandoverDeck$AlarmBoard" "lines" "[I") (by decide +kernel)) (fun _ h9 => h9) rfl dX0_activate_15 ?_
    refine lv_iload_n hx hb dX0_activate_18 rfl (lv_at hl 1 rfl) ?_
    refine lv_iload_n hx hb dX0_activate_19 rfl (lv_at hl 3 rfl) ?_
    refine z_iast hx hb hE hP hD hS (zg_11 cs ad (zs σ 10 a1.toNatClampNeg a2) tl) (zb_11 cs ad (zs σ 10 a1.toNatClampNeg a2) tl) (vin_X0_isAlarm c_1) dX0_activate_20 (fun H locs hP hD hS => ?_)
    refine lv_aload_n hx hb dX0_activate_21 rfl (lv_at hl 0 rfl) ?_
    refine va_get (D := G) (ci := 2) (v := .ref (ad 12)) (C := RX0) (T := TX0) (N := 3) hx hb hts iX0_activate hown hE.1 hP 9 (zg_9 cs ad (zs (zs σ 10 a1.toNatClampNeg a2) 11 a1.toNatClampNeg a3) tl) rfl 2 (by decide) (hts (.fieldLink RX0 18 "HandoverDeck$AlarmBoard" "shelfEnds" "[I") (by decide +kernel)) (fun _ h9 => h9) rfl dX0_activate_22 ?_
    refine lv_iload_n hx hb dX0_activate_25 rfl (lv_at hl 1 rfl) ?_
    refine lv_iconst (v := 0) hx hb dX0_activate_26 (by decide) ?_
    refine z_iast hx hb hE hP hD hS (zg_12 cs ad (zs (zs σ 10 a1.toNatClampNeg a2) 11 a1.toNatClampNeg a3) tl) (zb_12 cs ad (zs (zs σ 10 a1.toNatClampNeg a2) 11 a1.toNatClampNeg a3) tl) (vin_X0_isAlarm c_1) dX0_activate_27 (fun H locs hP hD hS => ?_)
    have hR := hR.symm
    subst hR
    exact W.vret hx hb hr (fun t ht hW => ⟨⟨(), rfl, trivial, by rw [ht]; exact hP, hD⟩, hS.F ht⟩) hS.2.2 dX0_activate_28
def f_X0_deactivate (σ : zS) (a1 : Int32) : zS := (if (f_X0_isAlarm a1) = 0 then σ else (zs σ 10 a1.toNatClampNeg 0))
theorem iX0_deactivate : ∀ w ∈ u_ws RX0 TX0 3, w ∈ wsX0_deactivate := by decide +kernel
set_option maxRecDepth 100000 in
theorem c_X0_deactivate (l : Launch) (G : va_G) (cs : Nat → ClassId) (ad : Nat → Nat) (tl : va_W) (σ : zS) (a1 : Int32)  : zMv l yX0_deactivate wsX0_deactivate { frames := 1, cells := 0, slots := 0, locals := 20 } G cs [.ref (ad 9), .int a1] (zw cs ad σ tl) (zw cs ad (f_X0_deactivate σ a1) tl) 0 0 := by
  intro sz
  refine Met.ofW (cc := cX0_deactivate) (maxL := 2) (ret := none) (by decide) rfl ?_
  intro p e s m args below meth c s₁ B hml hv
  obtain ⟨rfl, hsz, hP, hD0, hE⟩ := hv
  have hx := B.exec
  have hb := B.bytes
  have hr := B.returns
  have hts := atoms_spec (ws := wsX0_deactivate) B.pre
  have hown : s.vm.findClass RX0 = some m.cls := findClass_of_methodNamed B.named
  have hlocks := B.notSynchronized
  subst hsz
  have hD := hD0.self (sz := s.heap.size)
  have hA : ∀ q : Nat, s.heap.size ≤ q → (va_A (zw cs ad σ tl) s.heap.size) q := fun q h => Or.inr h
  generalize va_A (zw cs ad σ tl) s.heap.size = A at hD hE hA ⊢
  have hS : va_S A s.heap s.heap [] := va_S.rf
  have hl := lv_entry ([.ref (ad 9), .int a1]) (n := 2) (Nat.le_of_ble_eq_true rfl)
  rw [lg_entry_eq]
  generalize (lg_sl ([.ref (ad 9), .int a1]) ++ List.replicate (2 - (lg_sl ([.ref (ad 9), .int a1])).length) Slot.unset).toArray = ls at hl ⊢
  have hl : lv_has ls 2 [(0, .ref (ad 9)), (1, .int a1)] := hl
  generalize hR : (f_X0_deactivate σ a1) = RV
  have hR := hR.symm
  unfold f_X0_deactivate at hR
  obtain ⟨H, hH⟩ : ∃ z, z = s.heap := ⟨_, rfl⟩
  obtain ⟨locs, hlocs⟩ : ∃ z : List Loc, z = [] := ⟨_, rfl⟩
  rw [← hH] at hP
  have hS : va_S A s.heap H locs := by rw [hH, hlocs]; exact hS
  show W _ _ _ _ _ _ _ _ _ _ s.heap [] _ _ _ _
  rw [← hH, ← hlocs]
  clear hlocs
  refine lv_iload_n hx hb dX0_deactivate_0 rfl (lv_at hl 1 rfl) ?_
  refine zai (va_runS (As := [.int a1]) (rest := []) ⟨hx, hb, hml, hown, hts⟩ (c_X0_isAlarm l G cs ad tl σ a1  H.size) (va_cwS 1 hts gX0_deactivate_X0_isAlarm rfl rfl rfl (by decide +kernel) ⟨Nat.le_of_ble_eq_true rfl, Nat.le_of_ble_eq_true rfl⟩) (zps hE hP hD hS hA) rfl rfl hl.1 rfl (lv_room (Nat.le_of_ble_eq_true rfl)) dX0_deactivate_1 ⟨Nat.le_of_ble_eq_true rfl, Nat.le_of_ble_eq_true rfl⟩) hD hS hA (fun H locs hP hD hS => ?_)
  refine lv_if_eq (tgt := 14) hx hb dX0_deactivate_4 (by decide) (fun c_1 => ?_) (fun c_1 => ?_)
  · have hR := hR.trans (if_pos c_1)
    have hR := hR.symm
    subst hR
    exact W.vret hx hb hr (fun t ht hW => ⟨⟨(), rfl, trivial, by rw [ht]; exact hP, hD⟩, hS.F ht⟩) hS.2.2 dX0_deactivate_14
  · have hR := hR.trans (if_neg c_1)
    refine lv_aload_n hx hb dX0_deactivate_7 rfl (lv_at hl 0 rfl) ?_
    refine va_get (D := G) (ci := 2) (v := .ref (ad 10)) (C := RX0) (T := TX0) (N := 3) hx hb hts iX0_deactivate hown hE.1 hP 9 (zg_9 cs ad σ tl) rfl 0 (by decide) (hts (.fieldLink RX0 9 "HandoverDeck$AlarmBoard" "priorities" "[I") (by decide +kernel)) (fun _ h9 => h9) rfl dX0_deactivate_8 ?_
    refine lv_iload_n hx hb dX0_deactivate_11 rfl (lv_at hl 1 rfl) ?_
    refine lv_iconst (v := 0) hx hb dX0_deactivate_12 (by decide) ?_
    refine z_iast hx hb hE hP hD hS (zg_10 cs ad σ tl) (zb_10 cs ad σ tl) (vin_X0_isAlarm c_1) dX0_deactivate_13 (fun H locs hP hD hS => ?_)
    have hR := hR.symm
    subst hR
    exact W.vret hx hb hr (fun t ht hW => ⟨⟨(), rfl, trivial, by rw [ht]; exact hP, hD⟩, hS.F ht⟩) hS.2.2 dX0_deactivate_14
def f_X0_isOnShelf (σ : zS) (a1 : Int32) (a2 : Int32) : Int32 := (if (f_X0_isActive σ a1) = 0 then 0 else (if (σ 12 a1.toNatClampNeg) ≤ a2 then 0 else 1))
theorem iX0_isOnShelf : ∀ w ∈ u_ws RX0 TX0 3, w ∈ wsX0_isOnShelf := by decide +kernel
set_option maxRecDepth 100000 in
theorem c_X0_isOnShelf (l : Launch) (G : va_G) (cs : Nat → ClassId) (ad : Nat → Nat) (tl : va_W) (σ : zS) (a1 : Int32) (a2 : Int32)  : zMi l yX0_isOnShelf wsX0_isOnShelf { frames := 2, cells := 0, slots := 0, locals := 41 } G cs [.ref (ad 9), .int a1, .int a2] (zw cs ad σ tl) (f_X0_isOnShelf σ a1 a2) (zw cs ad σ tl) 0 0 := by
  intro sz
  refine Met.ofW (cc := cX0_isOnShelf) (maxL := 3) (ret := (some .boolean)) (by decide) rfl ?_
  intro p e s m args below meth c s₁ B hml hv
  obtain ⟨rfl, hsz, hP, hD0, hE⟩ := hv
  have hx := B.exec
  have hb := B.bytes
  have hr := B.returns
  have hts := atoms_spec (ws := wsX0_isOnShelf) B.pre
  have hown : s.vm.findClass RX0 = some m.cls := findClass_of_methodNamed B.named
  have hlocks := B.notSynchronized
  subst hsz
  have hD := hD0.self (sz := s.heap.size)
  have hA : ∀ q : Nat, s.heap.size ≤ q → (va_A (zw cs ad σ tl) s.heap.size) q := fun q h => Or.inr h
  generalize va_A (zw cs ad σ tl) s.heap.size = A at hD hE hA ⊢
  have hS : va_S A s.heap s.heap [] := va_S.rf
  have hl := lv_entry ([.ref (ad 9), .int a1, .int a2]) (n := 3) (Nat.le_of_ble_eq_true rfl)
  rw [lg_entry_eq]
  generalize (lg_sl ([.ref (ad 9), .int a1, .int a2]) ++ List.replicate (3 - (lg_sl ([.ref (ad 9), .int a1, .int a2])).length) Slot.unset).toArray = ls at hl ⊢
  have hl : lv_has ls 3 [(0, .ref (ad 9)), (1, .int a1), (2, .int a2)] := hl
  generalize hR : (f_X0_isOnShelf σ a1 a2) = RV
  have hR := hR.symm
  unfold f_X0_isOnShelf at hR
  obtain ⟨H, hH⟩ : ∃ z, z = s.heap := ⟨_, rfl⟩
  obtain ⟨locs, hlocs⟩ : ∃ z : List Loc, z = [] := ⟨_, rfl⟩
  rw [← hH] at hP
  have hS : va_S A s.heap H locs := by rw [hH, hlocs]; exact hS
  show W _ _ _ _ _ _ _ _ _ _ s.heap [] _ _ _ _
  rw [← hH, ← hlocs]
  clear hlocs
  refine lv_aload_n hx hb dX0_isOnShelf_0 rfl (lv_at hl 0 rfl) ?_
  refine lv_iload_n hx hb dX0_isOnShelf_1 rfl (lv_at hl 1 rfl) ?_
  refine zai (va_runV (As := [.int a1]) (rest := []) ⟨hx, hb, hml, hown, hts⟩ (c_X0_isActive l G cs ad tl σ a1  H.size) (cwV 1 hts gX0_isOnShelf_X0_isActive rfl rfl rfl (by decide +kernel) ⟨Nat.le_of_ble_eq_true rfl, Nat.le_of_ble_eq_true rfl⟩) (zpv hE hP hD hS hA (zg_9 cs ad σ tl) rfl) rfl rfl hl.1 rfl (lv_room (Nat.le_of_ble_eq_true rfl)) dX0_isOnShelf_2 ⟨Nat.le_of_ble_eq_true rfl, Nat.le_of_ble_eq_true rfl⟩) hD hS hA (fun H locs hP hD hS => ?_)
  refine lv_if_eq (tgt := 22) hx hb dX0_isOnShelf_5 (by decide) (fun c_1 => ?_) (fun c_1 => ?_)
  · have hR := hR.trans (if_pos c_1)
    refine lv_iconst (v := 0) hx hb dX0_isOnShelf_22 (by decide) ?_
    have hR := hR.symm
    subst hR
    exact W.zret (v := 0) hx hb hr rfl (fun t ht hW => ⟨⟨_, (), rfl, rfl, by rw [ht]; exact hP, hD⟩, hS.F ht⟩) hS.2.2 dX0_isOnShelf_23
  · have hR := hR.trans (if_neg c_1)
    refine lv_iload_n hx hb dX0_isOnShelf_8 rfl (lv_at hl 2 rfl) ?_
    refine lv_aload_n hx hb dX0_isOnShelf_9 rfl (lv_at hl 0 rfl) ?_
    refine va_get (D := G) (ci := 2) (v := .ref (ad 12)) (C := RX0) (T := TX0) (N := 3) hx hb hts iX0_isOnShelf hown hE.1 hP 9 (zg_9 cs ad σ tl) rfl 2 (by decide) (hts (.fieldLink RX0 18 "HandoverDeck$AlarmBoard" "shelfEnds" "[I") (by decide +kernel)) (fun _ h9 => h9) rfl dX0_isOnShelf_10 ?_
    refine lv_iload_n hx hb dX0_isOnShelf_13 rfl (lv_at hl 1 rfl) ?_
    refine z_iald (v := (σ 12 a1.toNatClampNeg)) hx hb hE hP (zg_12 cs ad σ tl) (vin_X0_isActive c_1) rfl dX0_isOnShelf_14 ?_
    refine lv_icmp_ge (tgt := 22) hx hb dX0_isOnShelf_15 (by decide) (fun c_2 => ?_) (fun c_2 => ?_)
    · have hR := hR.trans (if_pos c_2)
      refine lv_iconst (v := 0) hx hb dX0_isOnShelf_22 (by decide) ?_
      have hR := hR.symm
      subst hR
      exact W.zret (v := 0) hx hb hr rfl (fun t ht hW => ⟨⟨_, (), rfl, rfl, by rw [ht]; exact hP, hD⟩, hS.F ht⟩) hS.2.2 dX0_isOnShelf_23
    · have hR := hR.trans (if_neg c_2)
      refine lv_iconst (v := 1) hx hb dX0_isOnShelf_18 (by decide) ?_
      refine lv_goto (tgt := 23) hx hb dX0_isOnShelf_19 (by decide) ?_
      have hR := hR.symm
      subst hR
      exact W.zret (v := 1) hx hb hr rfl (fun t ht hW => ⟨⟨_, (), rfl, rfl, by rw [ht]; exact hP, hD⟩, hS.F ht⟩) hS.2.2 dX0_isOnShelf_23
theorem nar_X0_isOnShelf (σ : zS) (a1 : Int32) (a2 : Int32) : narrow .boolean (.int (f_X0_isOnShelf σ a1 a2)) = .int (f_X0_isOnShelf σ a1 a2) := by unfold f_X0_isOnShelf; (repeat' split) <;> rfl
def f_X0_putOnShelf (σ : zS) (a1 : Int32) (a2 : Int32) : zS := (if (f_X0_isAlarm a1) = 0 then σ else (zs σ 12 a1.toNatClampNeg a2))
theorem iX0_putOnShelf : ∀ w ∈ u_ws RX0 TX0 3, w ∈ wsX0_putOnShelf := by decide +kernel
set_option maxRecDepth 100000 in
theorem c_X0_putOnShelf (l : Launch) (G : va_G) (cs : Nat → ClassId) (ad : Nat → Nat) (tl : va_W) (σ : zS) (a1 : Int32) (a2 : Int32)  : zMv l yX0_putOnShelf wsX0_putOnShelf { frames := 1, cells := 0, slots := 0, locals := 20 } G cs [.ref (ad 9), .int a1, .int a2] (zw cs ad σ tl) (zw cs ad (f_X0_putOnShelf σ a1 a2) tl) 0 0 := by
  intro sz
  refine Met.ofW (cc := cX0_putOnShelf) (maxL := 3) (ret := none) (by decide) rfl ?_
  intro p e s m args below meth c s₁ B hml hv
  obtain ⟨rfl, hsz, hP, hD0, hE⟩ := hv
  have hx := B.exec
  have hb := B.bytes
  have hr := B.returns
  have hts := atoms_spec (ws := wsX0_putOnShelf) B.pre
  have hown : s.vm.findClass RX0 = some m.cls := findClass_of_methodNamed B.named
  have hlocks := B.notSynchronized
  subst hsz
  have hD := hD0.self (sz := s.heap.size)
  have hA : ∀ q : Nat, s.heap.size ≤ q → (va_A (zw cs ad σ tl) s.heap.size) q := fun q h => Or.inr h
  generalize va_A (zw cs ad σ tl) s.heap.size = A at hD hE hA ⊢
  have hS : va_S A s.heap s.heap [] := va_S.rf
  have hl := lv_entry ([.ref (ad 9), .int a1, .int a2]) (n := 3) (Nat.le_of_ble_eq_true rfl)
  rw [lg_entry_eq]
  generalize (lg_sl ([.ref (ad 9), .int a1, .int a2]) ++ List.replicate (3 - (lg_sl ([.ref (ad 9), .int a1, .int a2])).length) Slot.unset).toArray = ls at hl ⊢
  have hl : lv_has ls 3 [(0, .ref (ad 9)), (1, .int a1), (2, .int a2)] := hl
  generalize hR : (f_X0_putOnShelf σ a1 a2) = RV
  have hR := hR.symm
  unfold f_X0_putOnShelf at hR
  obtain ⟨H, hH⟩ : ∃ z, z = s.heap := ⟨_, rfl⟩
  obtain ⟨locs, hlocs⟩ : ∃ z : List Loc, z = [] := ⟨_, rfl⟩
  rw [← hH] at hP
  have hS : va_S A s.heap H locs := by rw [hH, hlocs]; exact hS
  show W _ _ _ _ _ _ _ _ _ _ s.heap [] _ _ _ _
  rw [← hH, ← hlocs]
  clear hlocs
  refine lv_iload_n hx hb dX0_putOnShelf_0 rfl (lv_at hl 1 rfl) ?_
  refine zai (va_runS (As := [.int a1]) (rest := []) ⟨hx, hb, hml, hown, hts⟩ (c_X0_isAlarm l G cs ad tl σ a1  H.size) (va_cwS 1 hts gX0_putOnShelf_X0_isAlarm rfl rfl rfl (by decide +kernel) ⟨Nat.le_of_ble_eq_true rfl, Nat.le_of_ble_eq_true rfl⟩) (zps hE hP hD hS hA) rfl rfl hl.1 rfl (lv_room (Nat.le_of_ble_eq_true rfl)) dX0_putOnShelf_1 ⟨Nat.le_of_ble_eq_true rfl, Nat.le_of_ble_eq_true rfl⟩) hD hS hA (fun H locs hP hD hS => ?_)
  refine lv_if_eq (tgt := 14) hx hb dX0_putOnShelf_4 (by decide) (fun c_1 => ?_) (fun c_1 => ?_)
  · have hR := hR.trans (if_pos c_1)
    have hR := hR.symm
    subst hR
    exact W.vret hx hb hr (fun t ht hW => ⟨⟨(), rfl, trivial, by rw [ht]; exact hP, hD⟩, hS.F ht⟩) hS.2.2 dX0_putOnShelf_14
  · have hR := hR.trans (if_neg c_1)
    refine lv_aload_n hx hb dX0_putOnShelf_7 rfl (lv_at hl 0 rfl) ?_
    refine va_get (D := G) (ci := 2) (v := .ref (ad 12)) (C := RX0) (T := TX0) (N := 3) hx hb hts iX0_putOnShelf hown hE.1 hP 9 (zg_9 cs ad σ tl) rfl 2 (by decide) (hts (.fieldLink RX0 18 "HandoverDeck$AlarmBoard" "shelfEnds" "[I") (by decide +kernel)) (fun _ h9 => h9) rfl dX0_putOnShelf_8 ?_
    refine lv_iload_n hx hb dX0_putOnShelf_11 rfl (lv_at hl 1 rfl) ?_
    refine lv_iload_n hx hb dX0_putOnShelf_12 rfl (lv_at hl 2 rfl) ?_
    refine z_iast hx hb hE hP hD hS (zg_12 cs ad σ tl) (zb_12 cs ad σ tl) (vin_X0_isAlarm c_1) dX0_putOnShelf_13 (fun H locs hP hD hS => ?_)
    have hR := hR.symm
    subst hR
    exact W.vret hx hb hr (fun t ht hW => ⟨⟨(), rfl, trivial, by rw [ht]; exact hP, hD⟩, hS.F ht⟩) hS.2.2 dX0_putOnShelf_14
def L_X0_countOnShelf_4 (σ : zS) (a1 : Int32) : Nat → Int32 → Int32 → Int32
  | 0, _, _ => 0
  | n + 1, x2, x3 => (if 32 ≤ x3 then x2 else (if (f_X0_isOnShelf σ x3 a1) = 0 then (L_X0_countOnShelf_4 σ a1 n x2 (x3 + 1)) else (L_X0_countOnShelf_4 σ a1 n (x2 + 1) (x3 + 1))))
def f_X0_countOnShelf (σ : zS) (a1 : Int32) : Int32 := (L_X0_countOnShelf_4 σ a1 33 0 0)
set_option maxRecDepth 100000 in
theorem c_X0_countOnShelf (l : Launch) (G : va_G) (cs : Nat → ClassId) (ad : Nat → Nat) (tl : va_W) (σ : zS) (a1 : Int32)  : zMi l yX0_countOnShelf wsX0_countOnShelf { frames := 3, cells := 0, slots := 0, locals := 63 } G cs [.ref (ad 9), .int a1] (zw cs ad σ tl) (f_X0_countOnShelf σ a1) (zw cs ad σ tl) 0 0 := by
  intro sz
  refine Met.ofW (cc := cX0_countOnShelf) (maxL := 4) (ret := (some .int)) (by decide) rfl ?_
  intro p e s m args below meth c s₁ B hml hv
  obtain ⟨rfl, hsz, hP, hD0, hE⟩ := hv
  have hx := B.exec
  have hb := B.bytes
  have hr := B.returns
  have hts := atoms_spec (ws := wsX0_countOnShelf) B.pre
  have hown : s.vm.findClass RX0 = some m.cls := findClass_of_methodNamed B.named
  have hlocks := B.notSynchronized
  subst hsz
  have hD := hD0.self (sz := s.heap.size)
  have hA : ∀ q : Nat, s.heap.size ≤ q → (va_A (zw cs ad σ tl) s.heap.size) q := fun q h => Or.inr h
  generalize va_A (zw cs ad σ tl) s.heap.size = A at hD hE hA ⊢
  have hS : va_S A s.heap s.heap [] := va_S.rf
  have hl := lv_entry ([.ref (ad 9), .int a1]) (n := 4) (Nat.le_of_ble_eq_true rfl)
  rw [lg_entry_eq]
  generalize (lg_sl ([.ref (ad 9), .int a1]) ++ List.replicate (4 - (lg_sl ([.ref (ad 9), .int a1])).length) Slot.unset).toArray = ls at hl ⊢
  have hl : lv_has ls 4 [(0, .ref (ad 9)), (1, .int a1)] := hl
  generalize hR : (f_X0_countOnShelf σ a1) = RV
  have hR := hR.symm
  unfold f_X0_countOnShelf at hR
  obtain ⟨H, hH⟩ : ∃ z, z = s.heap := ⟨_, rfl⟩
  obtain ⟨locs, hlocs⟩ : ∃ z : List Loc, z = [] := ⟨_, rfl⟩
  rw [← hH] at hP
  have hS : va_S A s.heap H locs := by rw [hH, hlocs]; exact hS
  show W _ _ _ _ _ _ _ _ _ _ s.heap [] _ _ _ _
  rw [← hH, ← hlocs]
  clear hlocs
  refine lv_iconst (v := 0) hx hb dX0_countOnShelf_0 (by decide) ?_
  refine lv_istore_n (lv' := [(2, .int 0), (0, .ref (ad 9)), (1, .int a1)]) hx hb dX0_countOnShelf_1 rfl hl (by decide) rfl (fun ls hl => ?_)
  refine lv_iconst (v := 0) hx hb dX0_countOnShelf_2 (by decide) ?_
  refine lv_istore_n (lv' := [(3, .int 0), (2, .int 0), (0, .ref (ad 9)), (1, .int a1)]) hx hb dX0_countOnShelf_3 rfl hl (by decide) rfl (fun ls hl => ?_)
  have loop_3 : ∀ (n k : Nat) (x2 : Int32) (x3 : Int32), x3 = nI (k) → k ≤ 32 → k + n = 33 → RV = L_X0_countOnShelf_4 σ a1 n x2 x3 → ∀ (H : Heap) (locs : List Loc), va_P G vwCl (zw cs ad σ tl) H → va_D A (zw cs ad σ tl) → va_S A s.heap H locs → ∀ ls : Array Slot, lv_has ls 4 [(0, .ref (ad 9)), (1, .int a1), (2, .int x2), (3, .int x3)] → W p l e (headSpec wsX0_countOnShelf { frames := 3, cells := 0, slots := 0, locals := 63 }).room s m (List.toArray [.ref (ad 9), .int a1]) below meth c H locs 0 0 (MQ below (va_Qi (fun (r : Int32) (_ : Unit) => r = RV) (fun _ t => zPo G A (zw cs ad σ tl) t) A) (List.toArray [.ref (ad 9), .int a1]) s 0 0 A) (F0 m 4 ls []) := by
    intro n
    induction n with
    | zero => intro k  x2 x3 ex hk hn; omega
    | succ n ih =>
      intro k  x2 x3 ex hk hn hR H locs hP hD hS ls hl
      rw [L_X0_countOnShelf_4] at hR
      refine lv_iload_n hx hb dX0_countOnShelf_4 rfl (lv_at hl 3 rfl) ?_
      refine lv_bipush (v := 32) hx hb dX0_countOnShelf_5 (by decide) ?_
      refine lv_icmp_ge (tgt := 28) hx hb dX0_countOnShelf_7 (by decide) (fun c_1 => ?_) (fun c_1 => ?_)
      · have hR := hR.trans (if_pos c_1)
        refine lv_iload_n hx hb dX0_countOnShelf_28 rfl (lv_at hl 2 rfl) ?_
        have hR := hR.symm
        subst hR
        exact W.iret (v := x2) hx hb hr (fun t ht hW => ⟨⟨_, (), rfl, rfl, by rw [ht]; exact hP, hD⟩, hS.F ht⟩) hS.2.2 dX0_countOnShelf_29
      · have hR := hR.trans (if_neg c_1)
        have hkB : k < 32 := zlt ex (by omega) (by decide) c_1
        refine lv_aload_n hx hb dX0_countOnShelf_10 rfl (lv_at hl 0 rfl) ?_
        refine lv_iload_n hx hb dX0_countOnShelf_11 rfl (lv_at hl 3 rfl) ?_
        refine lv_iload_n hx hb dX0_countOnShelf_12 rfl (lv_at hl 1 rfl) ?_
        refine zai (va_runV (As := [.int x3, .int a1]) (rest := []) ⟨hx, hb, hml, hown, hts⟩ (c_X0_isOnShelf l G cs ad tl σ x3 a1  H.size) (cwV 2 hts gX0_countOnShelf_X0_isOnShelf rfl rfl rfl (by decide +kernel) ⟨Nat.le_of_ble_eq_true rfl, Nat.le_of_ble_eq_true rfl⟩) (zpv hE hP hD hS hA (zg_9 cs ad σ tl) rfl) rfl rfl hl.1 rfl (lv_room (Nat.le_of_ble_eq_true rfl)) dX0_countOnShelf_13 ⟨Nat.le_of_ble_eq_true rfl, Nat.le_of_ble_eq_true rfl⟩) hD hS hA (fun H locs hP hD hS => ?_)
        refine lv_if_eq (tgt := 22) hx hb dX0_countOnShelf_16 (by decide) (fun c_2 => ?_) (fun c_2 => ?_)
        · have hR := hR.trans (if_pos c_2)
          refine lv_iinc (v := (x3 + 1)) (lv' := [(3, .int (x3 + 1)), (0, .ref (ad 9)), (1, .int a1), (2, .int x2)]) hx hb dX0_countOnShelf_22 hl (k := 3) rfl rfl (by decide) rfl (fun ls hl => ?_)
          refine lv_goto (tgt := 4) hx hb dX0_countOnShelf_25 (by decide) ?_
          exact ih (k + 1)  x2 (x3 + 1) (by rw [ex]; exact nI_1 _) (by omega) (by omega)  hR H locs hP hD hS ls (lv_sub hl [1, 2, 3, 0] rfl)
        · have hR := hR.trans (if_neg c_2)
          refine lv_iinc (v := (x2 + 1)) (lv' := [(2, .int (x2 + 1)), (0, .ref (ad 9)), (1, .int a1), (3, .int x3)]) hx hb dX0_countOnShelf_19 hl (k := 2) rfl rfl (by decide) rfl (fun ls hl => ?_)
          refine lv_iinc (v := (x3 + 1)) (lv' := [(3, .int (x3 + 1)), (2, .int (x2 + 1)), (0, .ref (ad 9)), (1, .int a1)]) hx hb dX0_countOnShelf_22 hl (k := 3) rfl rfl (by decide) rfl (fun ls hl => ?_)
          refine lv_goto (tgt := 4) hx hb dX0_countOnShelf_25 (by decide) ?_
          exact ih (k + 1)  (x2 + 1) (x3 + 1) (by rw [ex]; exact nI_1 _) (by omega) (by omega)  hR H locs hP hD hS ls (lv_sub hl [2, 3, 1, 0] rfl)
  exact loop_3 33 0  0 0 nI_0.symm (by omega) (by omega)  hR H locs hP hD hS ls (lv_sub hl [2, 3, 1, 0] rfl)
def f_X0_isSounding (σ : zS) (a1 : Int32) (a2 : Int32) : Int32 := (if (f_X0_isActive σ a1) = 0 then 0 else (if (f_X0_isOnShelf σ a1 a2) = 0 then 1 else 0))
set_option maxRecDepth 100000 in
theorem c_X0_isSounding (l : Launch) (G : va_G) (cs : Nat → ClassId) (ad : Nat → Nat) (tl : va_W) (σ : zS) (a1 : Int32) (a2 : Int32)  : zMi l yX0_isSounding wsX0_isSounding { frames := 3, cells := 0, slots := 0, locals := 63 } G cs [.ref (ad 9), .int a1, .int a2] (zw cs ad σ tl) (f_X0_isSounding σ a1 a2) (zw cs ad σ tl) 0 0 := by
  intro sz
  refine Met.ofW (cc := cX0_isSounding) (maxL := 3) (ret := (some .boolean)) (by decide) rfl ?_
  intro p e s m args below meth c s₁ B hml hv
  obtain ⟨rfl, hsz, hP, hD0, hE⟩ := hv
  have hx := B.exec
  have hb := B.bytes
  have hr := B.returns
  have hts := atoms_spec (ws := wsX0_isSounding) B.pre
  have hown : s.vm.findClass RX0 = some m.cls := findClass_of_methodNamed B.named
  have hlocks := B.notSynchronized
  subst hsz
  have hD := hD0.self (sz := s.heap.size)
  have hA : ∀ q : Nat, s.heap.size ≤ q → (va_A (zw cs ad σ tl) s.heap.size) q := fun q h => Or.inr h
  generalize va_A (zw cs ad σ tl) s.heap.size = A at hD hE hA ⊢
  have hS : va_S A s.heap s.heap [] := va_S.rf
  have hl := lv_entry ([.ref (ad 9), .int a1, .int a2]) (n := 3) (Nat.le_of_ble_eq_true rfl)
  rw [lg_entry_eq]
  generalize (lg_sl ([.ref (ad 9), .int a1, .int a2]) ++ List.replicate (3 - (lg_sl ([.ref (ad 9), .int a1, .int a2])).length) Slot.unset).toArray = ls at hl ⊢
  have hl : lv_has ls 3 [(0, .ref (ad 9)), (1, .int a1), (2, .int a2)] := hl
  generalize hR : (f_X0_isSounding σ a1 a2) = RV
  have hR := hR.symm
  unfold f_X0_isSounding at hR
  obtain ⟨H, hH⟩ : ∃ z, z = s.heap := ⟨_, rfl⟩
  obtain ⟨locs, hlocs⟩ : ∃ z : List Loc, z = [] := ⟨_, rfl⟩
  rw [← hH] at hP
  have hS : va_S A s.heap H locs := by rw [hH, hlocs]; exact hS
  show W _ _ _ _ _ _ _ _ _ _ s.heap [] _ _ _ _
  rw [← hH, ← hlocs]
  clear hlocs
  refine lv_aload_n hx hb dX0_isSounding_0 rfl (lv_at hl 0 rfl) ?_
  refine lv_iload_n hx hb dX0_isSounding_1 rfl (lv_at hl 1 rfl) ?_
  refine zai (va_runV (As := [.int a1]) (rest := []) ⟨hx, hb, hml, hown, hts⟩ (c_X0_isActive l G cs ad tl σ a1  H.size) (cwV 1 hts gX0_isSounding_X0_isActive rfl rfl rfl (by decide +kernel) ⟨Nat.le_of_ble_eq_true rfl, Nat.le_of_ble_eq_true rfl⟩) (zpv hE hP hD hS hA (zg_9 cs ad σ tl) rfl) rfl rfl hl.1 rfl (lv_room (Nat.le_of_ble_eq_true rfl)) dX0_isSounding_2 ⟨Nat.le_of_ble_eq_true rfl, Nat.le_of_ble_eq_true rfl⟩) hD hS hA (fun H locs hP hD hS => ?_)
  refine lv_if_eq (tgt := 21) hx hb dX0_isSounding_5 (by decide) (fun c_1 => ?_) (fun c_1 => ?_)
  · have hR := hR.trans (if_pos c_1)
    refine lv_iconst (v := 0) hx hb dX0_isSounding_21 (by decide) ?_
    have hR := hR.symm
    subst hR
    exact W.zret (v := 0) hx hb hr rfl (fun t ht hW => ⟨⟨_, (), rfl, rfl, by rw [ht]; exact hP, hD⟩, hS.F ht⟩) hS.2.2 dX0_isSounding_22
  · have hR := hR.trans (if_neg c_1)
    refine lv_aload_n hx hb dX0_isSounding_8 rfl (lv_at hl 0 rfl) ?_
    refine lv_iload_n hx hb dX0_isSounding_9 rfl (lv_at hl 1 rfl) ?_
    refine lv_iload_n hx hb dX0_isSounding_10 rfl (lv_at hl 2 rfl) ?_
    refine zai (va_runV (As := [.int a1, .int a2]) (rest := []) ⟨hx, hb, hml, hown, hts⟩ (c_X0_isOnShelf l G cs ad tl σ a1 a2  H.size) (cwV 2 hts gX0_isSounding_X0_isOnShelf rfl rfl rfl (by decide +kernel) ⟨Nat.le_of_ble_eq_true rfl, Nat.le_of_ble_eq_true rfl⟩) (zpv hE hP hD hS hA (zg_9 cs ad σ tl) rfl) rfl rfl hl.1 rfl (lv_room (Nat.le_of_ble_eq_true rfl)) dX0_isSounding_11 ⟨Nat.le_of_ble_eq_true rfl, Nat.le_of_ble_eq_true rfl⟩) hD hS hA (fun H locs hP hD hS => ?_)
    refine lv_if_ne (tgt := 21) hx hb dX0_isSounding_14 (by decide) (fun c_2 => ?_) (fun c_2 => ?_)
    · have hR := hR.trans (if_neg c_2)
      refine lv_iconst (v := 0) hx hb dX0_isSounding_21 (by decide) ?_
      have hR := hR.symm
      subst hR
      exact W.zret (v := 0) hx hb hr rfl (fun t ht hW => ⟨⟨_, (), rfl, rfl, by rw [ht]; exact hP, hD⟩, hS.F ht⟩) hS.2.2 dX0_isSounding_22
    · have hR := hR.trans (if_pos c_2)
      refine lv_iconst (v := 1) hx hb dX0_isSounding_17 (by decide) ?_
      refine lv_goto (tgt := 22) hx hb dX0_isSounding_18 (by decide) ?_
      have hR := hR.symm
      subst hR
      exact W.zret (v := 1) hx hb hr rfl (fun t ht hW => ⟨⟨_, (), rfl, rfl, by rw [ht]; exact hP, hD⟩, hS.F ht⟩) hS.2.2 dX0_isSounding_22
theorem nar_X0_isSounding (σ : zS) (a1 : Int32) (a2 : Int32) : narrow .boolean (.int (f_X0_isSounding σ a1 a2)) = .int (f_X0_isSounding σ a1 a2) := by unfold f_X0_isSounding; (repeat' split) <;> rfl
def L_X0_countSounding_5 (σ : zS) (a1 : Int32) (a2 : Int32) : Nat → Int32 → Int32 → Int32
  | 0, _, _ => 0
  | n + 1, x3, x4 => (if 32 ≤ x4 then x3 else (if (f_X0_isSounding σ x4 a2) = 0 then (L_X0_countSounding_5 σ a1 a2 n x3 (x4 + 1)) else (if (σ 10 x4.toNatClampNeg) < a1 then (L_X0_countSounding_5 σ a1 a2 n x3 (x4 + 1)) else (L_X0_countSounding_5 σ a1 a2 n (x3 + 1) (x4 + 1)))))
def f_X0_countSounding (σ : zS) (a1 : Int32) (a2 : Int32) : Int32 := (L_X0_countSounding_5 σ a1 a2 33 0 0)
theorem iX0_countSounding : ∀ w ∈ u_ws RX0 TX0 3, w ∈ wsX0_countSounding := by decide +kernel
set_option maxRecDepth 100000 in
theorem c_X0_countSounding (l : Launch) (G : va_G) (cs : Nat → ClassId) (ad : Nat → Nat) (tl : va_W) (σ : zS) (a1 : Int32) (a2 : Int32)  : zMi l yX0_countSounding wsX0_countSounding { frames := 4, cells := 0, slots := 0, locals := 85 } G cs [.ref (ad 9), .int a1, .int a2] (zw cs ad σ tl) (f_X0_countSounding σ a1 a2) (zw cs ad σ tl) 0 0 := by
  intro sz
  refine Met.ofW (cc := cX0_countSounding) (maxL := 5) (ret := (some .int)) (by decide) rfl ?_
  intro p e s m args below meth c s₁ B hml hv
  obtain ⟨rfl, hsz, hP, hD0, hE⟩ := hv
  have hx := B.exec
  have hb := B.bytes
  have hr := B.returns
  have hts := atoms_spec (ws := wsX0_countSounding) B.pre
  have hown : s.vm.findClass RX0 = some m.cls := findClass_of_methodNamed B.named
  have hlocks := B.notSynchronized
  subst hsz
  have hD := hD0.self (sz := s.heap.size)
  have hA : ∀ q : Nat, s.heap.size ≤ q → (va_A (zw cs ad σ tl) s.heap.size) q := fun q h => Or.inr h
  generalize va_A (zw cs ad σ tl) s.heap.size = A at hD hE hA ⊢
  have hS : va_S A s.heap s.heap [] := va_S.rf
  have hl := lv_entry ([.ref (ad 9), .int a1, .int a2]) (n := 5) (Nat.le_of_ble_eq_true rfl)
  rw [lg_entry_eq]
  generalize (lg_sl ([.ref (ad 9), .int a1, .int a2]) ++ List.replicate (5 - (lg_sl ([.ref (ad 9), .int a1, .int a2])).length) Slot.unset).toArray = ls at hl ⊢
  have hl : lv_has ls 5 [(0, .ref (ad 9)), (1, .int a1), (2, .int a2)] := hl
  generalize hR : (f_X0_countSounding σ a1 a2) = RV
  have hR := hR.symm
  unfold f_X0_countSounding at hR
  obtain ⟨H, hH⟩ : ∃ z, z = s.heap := ⟨_, rfl⟩
  obtain ⟨locs, hlocs⟩ : ∃ z : List Loc, z = [] := ⟨_, rfl⟩
  rw [← hH] at hP
  have hS : va_S A s.heap H locs := by rw [hH, hlocs]; exact hS
  show W _ _ _ _ _ _ _ _ _ _ s.heap [] _ _ _ _
  rw [← hH, ← hlocs]
  clear hlocs
  refine lv_iconst (v := 0) hx hb dX0_countSounding_0 (by decide) ?_
  refine lv_istore_n (lv' := [(3, .int 0), (0, .ref (ad 9)), (1, .int a1), (2, .int a2)]) hx hb dX0_countSounding_1 rfl hl (by decide) rfl (fun ls hl => ?_)
  refine lv_iconst (v := 0) hx hb dX0_countSounding_2 (by decide) ?_
  refine lv_istore (lv' := [(4, .int 0), (3, .int 0), (0, .ref (ad 9)), (1, .int a1), (2, .int a2)]) hx hb dX0_countSounding_3 hl (by decide) rfl (fun ls hl => ?_)
  have loop_4 : ∀ (n k : Nat) (x3 : Int32) (x4 : Int32), x4 = nI (k) → k ≤ 32 → k + n = 33 → RV = L_X0_countSounding_5 σ a1 a2 n x3 x4 → ∀ (H : Heap) (locs : List Loc), va_P G vwCl (zw cs ad σ tl) H → va_D A (zw cs ad σ tl) → va_S A s.heap H locs → ∀ ls : Array Slot, lv_has ls 5 [(0, .ref (ad 9)), (1, .int a1), (2, .int a2), (3, .int x3), (4, .int x4)] → W p l e (headSpec wsX0_countSounding { frames := 4, cells := 0, slots := 0, locals := 85 }).room s m (List.toArray [.ref (ad 9), .int a1, .int a2]) below meth c H locs 0 0 (MQ below (va_Qi (fun (r : Int32) (_ : Unit) => r = RV) (fun _ t => zPo G A (zw cs ad σ tl) t) A) (List.toArray [.ref (ad 9), .int a1, .int a2]) s 0 0 A) (F0 m 5 ls []) := by
    intro n
    induction n with
    | zero => intro k  x3 x4 ex hk hn; omega
    | succ n ih =>
      intro k  x3 x4 ex hk hn hR H locs hP hD hS ls hl
      rw [L_X0_countSounding_5] at hR
      refine lv_iload hx hb dX0_countSounding_5 (lv_at hl 4 rfl) ?_
      refine lv_bipush (v := 32) hx hb dX0_countSounding_7 (by decide) ?_
      refine lv_icmp_ge (tgt := 42) hx hb dX0_countSounding_9 (by decide) (fun c_1 => ?_) (fun c_1 => ?_)
      · have hR := hR.trans (if_pos c_1)
        refine lv_iload_n hx hb dX0_countSounding_42 rfl (lv_at hl 3 rfl) ?_
        have hR := hR.symm
        subst hR
        exact W.iret (v := x3) hx hb hr (fun t ht hW => ⟨⟨_, (), rfl, rfl, by rw [ht]; exact hP, hD⟩, hS.F ht⟩) hS.2.2 dX0_countSounding_43
      · have hR := hR.trans (if_neg c_1)
        have hkB : k < 32 := zlt ex (by omega) (by decide) c_1
        refine lv_aload_n hx hb dX0_countSounding_12 rfl (lv_at hl 0 rfl) ?_
        refine lv_iload hx hb dX0_countSounding_13 (lv_at hl 4 rfl) ?_
        refine lv_iload_n hx hb dX0_countSounding_15 rfl (lv_at hl 2 rfl) ?_
        refine zai (va_runV (As := [.int x4, .int a2]) (rest := []) ⟨hx, hb, hml, hown, hts⟩ (c_X0_isSounding l G cs ad tl σ x4 a2  H.size) (cwV 2 hts gX0_countSounding_X0_isSounding rfl rfl rfl (by decide +kernel) ⟨Nat.le_of_ble_eq_true rfl, Nat.le_of_ble_eq_true rfl⟩) (zpv hE hP hD hS hA (zg_9 cs ad σ tl) rfl) rfl rfl hl.1 rfl (lv_room (Nat.le_of_ble_eq_true rfl)) dX0_countSounding_16 ⟨Nat.le_of_ble_eq_true rfl, Nat.le_of_ble_eq_true rfl⟩) hD hS hA (fun H locs hP hD hS => ?_)
        refine lv_if_eq (tgt := 36) hx hb dX0_countSounding_19 (by decide) (fun c_2 => ?_) (fun c_2 => ?_)
        · have hR := hR.trans (if_pos c_2)
          refine lv_iinc (v := (x4 + 1)) (lv' := [(4, .int (x4 + 1)), (0, .ref (ad 9)), (1, .int a1), (2, .int a2), (3, .int x3)]) hx hb dX0_countSounding_36 hl (k := 4) rfl rfl (by decide) rfl (fun ls hl => ?_)
          refine lv_goto (tgt := 5) hx hb dX0_countSounding_39 (by decide) ?_
          exact ih (k + 1)  x3 (x4 + 1) (by rw [ex]; exact nI_1 _) (by omega) (by omega)  hR H locs hP hD hS ls (lv_sub hl [1, 2, 3, 4, 0] rfl)
        · have hR := hR.trans (if_neg c_2)
          refine lv_aload_n hx hb dX0_countSounding_22 rfl (lv_at hl 0 rfl) ?_
          refine va_get (D := G) (ci := 2) (v := .ref (ad 10)) (C := RX0) (T := TX0) (N := 3) hx hb hts iX0_countSounding hown hE.1 hP 9 (zg_9 cs ad σ tl) rfl 0 (by decide) (hts (.fieldLink RX0 9 "HandoverDeck$AlarmBoard" "priorities" "[I") (by decide +kernel)) (fun _ h9 => h9) rfl dX0_countSounding_23 ?_
          refine lv_iload hx hb dX0_countSounding_26 (lv_at hl 4 rfl) ?_
          refine z_iald (v := (σ 10 x4.toNatClampNeg)) hx hb hE hP (zg_10 cs ad σ tl) (by rw [ex]; exact vp_in_nI (by omega) (by decide)) rfl dX0_countSounding_28 ?_
          refine lv_iload_n hx hb dX0_countSounding_29 rfl (lv_at hl 1 rfl) ?_
          refine lv_icmp_lt (tgt := 36) hx hb dX0_countSounding_30 (by decide) (fun c_3 => ?_) (fun c_3 => ?_)
          · have hR := hR.trans (if_pos c_3)
            refine lv_iinc (v := (x4 + 1)) (lv' := [(4, .int (x4 + 1)), (0, .ref (ad 9)), (1, .int a1), (2, .int a2), (3, .int x3)]) hx hb dX0_countSounding_36 hl (k := 4) rfl rfl (by decide) rfl (fun ls hl => ?_)
            refine lv_goto (tgt := 5) hx hb dX0_countSounding_39 (by decide) ?_
            exact ih (k + 1)  x3 (x4 + 1) (by rw [ex]; exact nI_1 _) (by omega) (by omega)  hR H locs hP hD hS ls (lv_sub hl [1, 2, 3, 4, 0] rfl)
          · have hR := hR.trans (if_neg c_3)
            refine lv_iinc (v := (x3 + 1)) (lv' := [(3, .int (x3 + 1)), (0, .ref (ad 9)), (1, .int a1), (2, .int a2), (4, .int x4)]) hx hb dX0_countSounding_33 hl (k := 3) rfl rfl (by decide) rfl (fun ls hl => ?_)
            refine lv_iinc (v := (x4 + 1)) (lv' := [(4, .int (x4 + 1)), (3, .int (x3 + 1)), (0, .ref (ad 9)), (1, .int a1), (2, .int a2)]) hx hb dX0_countSounding_36 hl (k := 4) rfl rfl (by decide) rfl (fun ls hl => ?_)
            refine lv_goto (tgt := 5) hx hb dX0_countSounding_39 (by decide) ?_
            exact ih (k + 1)  (x3 + 1) (x4 + 1) (by rw [ex]; exact nI_1 _) (by omega) (by omega)  hR H locs hP hD hS ls (lv_sub hl [2, 3, 4, 1, 0] rfl)
  exact loop_4 33 0  0 0 nI_0.symm (by omega) (by omega)  hR H locs hP hD hS ls (lv_sub hl [2, 3, 4, 1, 0] rfl)
def f_X0_isAhead (σ : zS) (a1 : Int32) (a2 : Int32) : Int32 := (if (f_X0_isAlarm a2) = 0 then 1 else (if (f_X0_isAlarm a1) = 0 then 1 else (if (σ 10 a1.toNatClampNeg) = (σ 10 a2.toNatClampNeg) then (if (σ 11 a2.toNatClampNeg) ≤ (σ 11 a1.toNatClampNeg) then 0 else 1) else (if (σ 10 a1.toNatClampNeg) ≤ (σ 10 a2.toNatClampNeg) then 0 else 1))))
theorem iX0_isAhead : ∀ w ∈ u_ws RX0 TX0 3, w ∈ wsX0_isAhead := by decide +kernel
set_option maxRecDepth 100000 in
theorem c_X0_isAhead (l : Launch) (G : va_G) (cs : Nat → ClassId) (ad : Nat → Nat) (tl : va_W) (σ : zS) (a1 : Int32) (a2 : Int32)  : zMi l yX0_isAhead wsX0_isAhead { frames := 1, cells := 0, slots := 0, locals := 20 } G cs [.ref (ad 9), .int a1, .int a2] (zw cs ad σ tl) (f_X0_isAhead σ a1 a2) (zw cs ad σ tl) 0 0 := by
  intro sz
  refine Met.ofW (cc := cX0_isAhead) (maxL := 3) (ret := (some .boolean)) (by decide) rfl ?_
  intro p e s m args below meth c s₁ B hml hv
  obtain ⟨rfl, hsz, hP, hD0, hE⟩ := hv
  have hx := B.exec
  have hb := B.bytes
  have hr := B.returns
  have hts := atoms_spec (ws := wsX0_isAhead) B.pre
  have hown : s.vm.findClass RX0 = some m.cls := findClass_of_methodNamed B.named
  have hlocks := B.notSynchronized
  subst hsz
  have hD := hD0.self (sz := s.heap.size)
  have hA : ∀ q : Nat, s.heap.size ≤ q → (va_A (zw cs ad σ tl) s.heap.size) q := fun q h => Or.inr h
  generalize va_A (zw cs ad σ tl) s.heap.size = A at hD hE hA ⊢
  have hS : va_S A s.heap s.heap [] := va_S.rf
  have hl := lv_entry ([.ref (ad 9), .int a1, .int a2]) (n := 3) (Nat.le_of_ble_eq_true rfl)
  rw [lg_entry_eq]
  generalize (lg_sl ([.ref (ad 9), .int a1, .int a2]) ++ List.replicate (3 - (lg_sl ([.ref (ad 9), .int a1, .int a2])).length) Slot.unset).toArray = ls at hl ⊢
  have hl : lv_has ls 3 [(0, .ref (ad 9)), (1, .int a1), (2, .int a2)] := hl
  generalize hR : (f_X0_isAhead σ a1 a2) = RV
  have hR := hR.symm
  unfold f_X0_isAhead at hR
  obtain ⟨H, hH⟩ : ∃ z, z = s.heap := ⟨_, rfl⟩
  obtain ⟨locs, hlocs⟩ : ∃ z : List Loc, z = [] := ⟨_, rfl⟩
  rw [← hH] at hP
  have hS : va_S A s.heap H locs := by rw [hH, hlocs]; exact hS
  show W _ _ _ _ _ _ _ _ _ _ s.heap [] _ _ _ _
  rw [← hH, ← hlocs]
  clear hlocs
  refine lv_iload_n hx hb dX0_isAhead_0 rfl (lv_at hl 2 rfl) ?_
  refine zai (va_runS (As := [.int a2]) (rest := []) ⟨hx, hb, hml, hown, hts⟩ (c_X0_isAlarm l G cs ad tl σ a2  H.size) (va_cwS 1 hts gX0_isAhead_X0_isAlarm rfl rfl rfl (by decide +kernel) ⟨Nat.le_of_ble_eq_true rfl, Nat.le_of_ble_eq_true rfl⟩) (zps hE hP hD hS hA) rfl rfl hl.1 rfl (lv_room (Nat.le_of_ble_eq_true rfl)) dX0_isAhead_1 ⟨Nat.le_of_ble_eq_true rfl, Nat.le_of_ble_eq_true rfl⟩) hD hS hA (fun H locs hP hD hS => ?_)
  refine lv_if_eq (tgt := 14) hx hb dX0_isAhead_4 (by decide) (fun c_1 => ?_) (fun c_1 => ?_)
  · have hR := hR.trans (if_pos c_1)
    refine lv_iconst (v := 1) hx hb dX0_isAhead_14 (by decide) ?_
    have hR := hR.symm
    subst hR
    exact W.zret (v := 1) hx hb hr rfl (fun t ht hW => ⟨⟨_, (), rfl, rfl, by rw [ht]; exact hP, hD⟩, hS.F ht⟩) hS.2.2 dX0_isAhead_15
  · have hR := hR.trans (if_neg c_1)
    refine lv_iload_n hx hb dX0_isAhead_7 rfl (lv_at hl 1 rfl) ?_
    refine zai (va_runS (As := [.int a1]) (rest := []) ⟨hx, hb, hml, hown, hts⟩ (c_X0_isAlarm l G cs ad tl σ a1  H.size) (va_cwS 1 hts gX0_isAhead_X0_isAlarm rfl rfl rfl (by decide +kernel) ⟨Nat.le_of_ble_eq_true rfl, Nat.le_of_ble_eq_true rfl⟩) (zps hE hP hD hS hA) rfl rfl hl.1 rfl (lv_room (Nat.le_of_ble_eq_true rfl)) dX0_isAhead_8 ⟨Nat.le_of_ble_eq_true rfl, Nat.le_of_ble_eq_true rfl⟩) hD hS hA (fun H locs hP hD hS => ?_)
    refine lv_if_ne (tgt := 16) hx hb dX0_isAhead_11 (by decide) (fun c_2 => ?_) (fun c_2 => ?_)
    · have hR := hR.trans (if_neg c_2)
      refine lv_aload_n hx hb dX0_isAhead_16 rfl (lv_at hl 0 rfl) ?_
      refine va_get (D := G) (ci := 2) (v := .ref (ad 10)) (C := RX0) (T := TX0) (N := 3) hx hb hts iX0_isAhead hown hE.1 hP 9 (zg_9 cs ad σ tl) rfl 0 (by decide) (hts (.fieldLink RX0 9 "HandoverDeck$AlarmBoard" "priorities" "[I") (by decide +kernel)) (fun _ h9 => h9) rfl dX0_isAhead_17 ?_
      refine lv_iload_n hx hb dX0_isAhead_20 rfl (lv_at hl 1 rfl) ?_
      refine z_iald (v := (σ 10 a1.toNatClampNeg)) hx hb hE hP (zg_10 cs ad σ tl) (vin_X0_isAlarm c_2) rfl dX0_isAhead_21 ?_
      refine lv_aload_n hx hb dX0_isAhead_22 rfl (lv_at hl 0 rfl) ?_
      refine va_get (D := G) (ci := 2) (v := .ref (ad 10)) (C := RX0) (T := TX0) (N := 3) hx hb hts iX0_isAhead hown hE.1 hP 9 (zg_9 cs ad σ tl) rfl 0 (by decide) (hts (.fieldLink RX0 9 "HandoverDeck$AlarmBoard" "priorities" "[I") (by decide +kernel)) (fun _ h9 => h9) rfl dX0_isAhead_23 ?_
      refine lv_iload_n hx hb dX0_isAhead_26 rfl (lv_at hl 2 rfl) ?_
      refine z_iald (v := (σ 10 a2.toNatClampNeg)) hx hb hE hP (zg_10 cs ad σ tl) (vin_X0_isAlarm c_1) rfl dX0_isAhead_27 ?_
      refine lv_icmp_eq (tgt := 52) hx hb dX0_isAhead_28 (by decide) (fun c_3 => ?_) (fun c_3 => ?_)
      · have hR := hR.trans (if_pos c_3)
        refine lv_aload_n hx hb dX0_isAhead_52 rfl (lv_at hl 0 rfl) ?_
        refine va_get (D := G) (ci := 2) (v := .ref (ad 11)) (C := RX0) (T := TX0) (N := 3) hx hb hts iX0_isAhead hown hE.1 hP 9 (zg_9 cs ad σ tl) rfl 1 (by decide) (hts (.fieldLink RX0 15 "HandoverDeck$AlarmBoard" "lines" "[I") (by decide +kernel)) (fun _ h9 => h9) rfl dX0_isAhead_53 ?_
        refine lv_iload_n hx hb dX0_isAhead_56 rfl (lv_at hl 1 rfl) ?_
        refine z_iald (v := (σ 11 a1.toNatClampNeg)) hx hb hE hP (zg_11 cs ad σ tl) (vin_X0_isAlarm c_2) rfl dX0_isAhead_57 ?_
        refine lv_aload_n hx hb dX0_isAhead_58 rfl (lv_at hl 0 rfl) ?_
        refine va_get (D := G) (ci := 2) (v := .ref (ad 11)) (C := RX0) (T := TX0) (N := 3) hx hb hts iX0_isAhead hown hE.1 hP 9 (zg_9 cs ad σ tl) rfl 1 (by decide) (hts (.fieldLink RX0 15 "HandoverDeck$AlarmBoard" "lines" "[I") (by decide +kernel)) (fun _ h9 => h9) rfl dX0_isAhead_59 ?_
        refine lv_iload_n hx hb dX0_isAhead_62 rfl (lv_at hl 2 rfl) ?_
        refine z_iald (v := (σ 11 a2.toNatClampNeg)) hx hb hE hP (zg_11 cs ad σ tl) (vin_X0_isAlarm c_1) rfl dX0_isAhead_63 ?_
        refine lv_icmp_ge (tgt := 71) hx hb dX0_isAhead_64 (by decide) (fun c_4 => ?_) (fun c_4 => ?_)
        · have hR := hR.trans (if_pos c_4)
          refine lv_iconst (v := 0) hx hb dX0_isAhead_71 (by decide) ?_
          have hR := hR.symm
          subst hR
          exact W.zret (v := 0) hx hb hr rfl (fun t ht hW => ⟨⟨_, (), rfl, rfl, by rw [ht]; exact hP, hD⟩, hS.F ht⟩) hS.2.2 dX0_isAhead_72
        · have hR := hR.trans (if_neg c_4)
          refine lv_iconst (v := 1) hx hb dX0_isAhead_67 (by decide) ?_
          refine lv_goto (tgt := 72) hx hb dX0_isAhead_68 (by decide) ?_
          have hR := hR.symm
          subst hR
          exact W.zret (v := 1) hx hb hr rfl (fun t ht hW => ⟨⟨_, (), rfl, rfl, by rw [ht]; exact hP, hD⟩, hS.F ht⟩) hS.2.2 dX0_isAhead_72
      · have hR := hR.trans (if_neg c_3)
        refine lv_aload_n hx hb dX0_isAhead_31 rfl (lv_at hl 0 rfl) ?_
        refine va_get (D := G) (ci := 2) (v := .ref (ad 10)) (C := RX0) (T := TX0) (N := 3) hx hb hts iX0_isAhead hown hE.1 hP 9 (zg_9 cs ad σ tl) rfl 0 (by decide) (hts (.fieldLink RX0 9 "HandoverDeck$AlarmBoard" "priorities" "[I") (by decide +kernel)) (fun _ h9 => h9) rfl dX0_isAhead_32 ?_
        refine lv_iload_n hx hb dX0_isAhead_35 rfl (lv_at hl 1 rfl) ?_
        refine z_iald (v := (σ 10 a1.toNatClampNeg)) hx hb hE hP (zg_10 cs ad σ tl) (vin_X0_isAlarm c_2) rfl dX0_isAhead_36 ?_
        refine lv_aload_n hx hb dX0_isAhead_37 rfl (lv_at hl 0 rfl) ?_
        refine va_get (D := G) (ci := 2) (v := .ref (ad 10)) (C := RX0) (T := TX0) (N := 3) hx hb hts iX0_isAhead hown hE.1 hP 9 (zg_9 cs ad σ tl) rfl 0 (by decide) (hts (.fieldLink RX0 9 "HandoverDeck$AlarmBoard" "priorities" "[I") (by decide +kernel)) (fun _ h9 => h9) rfl dX0_isAhead_38 ?_
        refine lv_iload_n hx hb dX0_isAhead_41 rfl (lv_at hl 2 rfl) ?_
        refine z_iald (v := (σ 10 a2.toNatClampNeg)) hx hb hE hP (zg_10 cs ad σ tl) (vin_X0_isAlarm c_1) rfl dX0_isAhead_42 ?_
        refine lv_icmp_le (tgt := 50) hx hb dX0_isAhead_43 (by decide) (fun c_5 => ?_) (fun c_5 => ?_)
        · have hR := hR.trans (if_pos c_5)
          refine lv_iconst (v := 0) hx hb dX0_isAhead_50 (by decide) ?_
          have hR := hR.symm
          subst hR
          exact W.zret (v := 0) hx hb hr rfl (fun t ht hW => ⟨⟨_, (), rfl, rfl, by rw [ht]; exact hP, hD⟩, hS.F ht⟩) hS.2.2 dX0_isAhead_51
        · have hR := hR.trans (if_neg c_5)
          refine lv_iconst (v := 1) hx hb dX0_isAhead_46 (by decide) ?_
          refine lv_goto (tgt := 51) hx hb dX0_isAhead_47 (by decide) ?_
          have hR := hR.symm
          subst hR
          exact W.zret (v := 1) hx hb hr rfl (fun t ht hW => ⟨⟨_, (), rfl, rfl, by rw [ht]; exact hP, hD⟩, hS.F ht⟩) hS.2.2 dX0_isAhead_51
    · have hR := hR.trans (if_pos c_2)
      refine lv_iconst (v := 1) hx hb dX0_isAhead_14 (by decide) ?_
      have hR := hR.symm
      subst hR
      exact W.zret (v := 1) hx hb hr rfl (fun t ht hW => ⟨⟨_, (), rfl, rfl, by rw [ht]; exact hP, hD⟩, hS.F ht⟩) hS.2.2 dX0_isAhead_15
theorem nar_X0_isAhead (σ : zS) (a1 : Int32) (a2 : Int32) : narrow .boolean (.int (f_X0_isAhead σ a1 a2)) = .int (f_X0_isAhead σ a1 a2) := by unfold f_X0_isAhead; (repeat' split) <;> rfl
def L_X0_topLine_4 (σ : zS) (a1 : Int32) : Nat → Int32 → Int32 → Int32
  | 0, _, _ => 0
  | n + 1, x2, x3 => (if 32 ≤ x3 then (f_X0_lineOf σ x2) else (if (f_X0_isSounding σ x3 a1) = 0 then (L_X0_topLine_4 σ a1 n x2 (x3 + 1)) else (if (f_X0_isAhead σ x3 x2) = 0 then (L_X0_topLine_4 σ a1 n x2 (x3 + 1)) else (L_X0_topLine_4 σ a1 n x3 (x3 + 1)))))
def f_X0_topLine (σ : zS) (a1 : Int32) : Int32 := (L_X0_topLine_4 σ a1 33 (-1) 0)
set_option maxRecDepth 100000 in
theorem c_X0_topLine (l : Launch) (G : va_G) (cs : Nat → ClassId) (ad : Nat → Nat) (tl : va_W) (σ : zS) (a1 : Int32)  : zMi l yX0_topLine wsX0_topLine { frames := 4, cells := 0, slots := 0, locals := 85 } G cs [.ref (ad 9), .int a1] (zw cs ad σ tl) (f_X0_topLine σ a1) (zw cs ad σ tl) 0 0 := by
  intro sz
  refine Met.ofW (cc := cX0_topLine) (maxL := 4) (ret := (some .int)) (by decide) rfl ?_
  intro p e s m args below meth c s₁ B hml hv
  obtain ⟨rfl, hsz, hP, hD0, hE⟩ := hv
  have hx := B.exec
  have hb := B.bytes
  have hr := B.returns
  have hts := atoms_spec (ws := wsX0_topLine) B.pre
  have hown : s.vm.findClass RX0 = some m.cls := findClass_of_methodNamed B.named
  have hlocks := B.notSynchronized
  subst hsz
  have hD := hD0.self (sz := s.heap.size)
  have hA : ∀ q : Nat, s.heap.size ≤ q → (va_A (zw cs ad σ tl) s.heap.size) q := fun q h => Or.inr h
  generalize va_A (zw cs ad σ tl) s.heap.size = A at hD hE hA ⊢
  have hS : va_S A s.heap s.heap [] := va_S.rf
  have hl := lv_entry ([.ref (ad 9), .int a1]) (n := 4) (Nat.le_of_ble_eq_true rfl)
  rw [lg_entry_eq]
  generalize (lg_sl ([.ref (ad 9), .int a1]) ++ List.replicate (4 - (lg_sl ([.ref (ad 9), .int a1])).length) Slot.unset).toArray = ls at hl ⊢
  have hl : lv_has ls 4 [(0, .ref (ad 9)), (1, .int a1)] := hl
  generalize hR : (f_X0_topLine σ a1) = RV
  have hR := hR.symm
  unfold f_X0_topLine at hR
  obtain ⟨H, hH⟩ : ∃ z, z = s.heap := ⟨_, rfl⟩
  obtain ⟨locs, hlocs⟩ : ∃ z : List Loc, z = [] := ⟨_, rfl⟩
  rw [← hH] at hP
  have hS : va_S A s.heap H locs := by rw [hH, hlocs]; exact hS
  show W _ _ _ _ _ _ _ _ _ _ s.heap [] _ _ _ _
  rw [← hH, ← hlocs]
  clear hlocs
  refine lv_iconst (v := (-1)) hx hb dX0_topLine_0 (by decide) ?_
  refine lv_istore_n (lv' := [(2, .int (-1)), (0, .ref (ad 9)), (1, .int a1)]) hx hb dX0_topLine_1 rfl hl (by decide) rfl (fun ls hl => ?_)
  refine lv_iconst (v := 0) hx hb dX0_topLine_2 (by decide) ?_
  refine lv_istore_n (lv' := [(3, .int 0), (2, .int (-1)), (0, .ref (ad 9)), (1, .int a1)]) hx hb dX0_topLine_3 rfl hl (by decide) rfl (fun ls hl => ?_)
  have loop_4 : ∀ (n k : Nat) (x2 : Int32) (x3 : Int32), x3 = nI (k) → k ≤ 32 → k + n = 33 → RV = L_X0_topLine_4 σ a1 n x2 x3 → ∀ (H : Heap) (locs : List Loc), va_P G vwCl (zw cs ad σ tl) H → va_D A (zw cs ad σ tl) → va_S A s.heap H locs → ∀ ls : Array Slot, lv_has ls 4 [(0, .ref (ad 9)), (1, .int a1), (2, .int x2), (3, .int x3)] → W p l e (headSpec wsX0_topLine { frames := 4, cells := 0, slots := 0, locals := 85 }).room s m (List.toArray [.ref (ad 9), .int a1]) below meth c H locs 0 0 (MQ below (va_Qi (fun (r : Int32) (_ : Unit) => r = RV) (fun _ t => zPo G A (zw cs ad σ tl) t) A) (List.toArray [.ref (ad 9), .int a1]) s 0 0 A) (F0 m 4 ls []) := by
    intro n
    induction n with
    | zero => intro k  x2 x3 ex hk hn; omega
    | succ n ih =>
      intro k  x2 x3 ex hk hn hR H locs hP hD hS ls hl
      rw [L_X0_topLine_4] at hR
      refine lv_iload_n hx hb dX0_topLine_4 rfl (lv_at hl 3 rfl) ?_
      refine lv_bipush (v := 32) hx hb dX0_topLine_5 (by decide) ?_
      refine lv_icmp_ge (tgt := 36) hx hb dX0_topLine_7 (by decide) (fun c_1 => ?_) (fun c_1 => ?_)
      · have hR := hR.trans (if_pos c_1)
        refine lv_aload_n hx hb dX0_topLine_36 rfl (lv_at hl 0 rfl) ?_
        refine lv_iload_n hx hb dX0_topLine_37 rfl (lv_at hl 2 rfl) ?_
        refine zai (va_runV (As := [.int x2]) (rest := []) ⟨hx, hb, hml, hown, hts⟩ (c_X0_lineOf l G cs ad tl σ x2  H.size) (cwV 1 hts gX0_topLine_X0_lineOf rfl rfl rfl (by decide +kernel) ⟨Nat.le_of_ble_eq_true rfl, Nat.le_of_ble_eq_true rfl⟩) (zpv hE hP hD hS hA (zg_9 cs ad σ tl) rfl) rfl rfl hl.1 rfl (lv_room (Nat.le_of_ble_eq_true rfl)) dX0_topLine_38 ⟨Nat.le_of_ble_eq_true rfl, Nat.le_of_ble_eq_true rfl⟩) hD hS hA (fun H locs hP hD hS => ?_)
        have hR := hR.symm
        subst hR
        exact W.iret (v := (f_X0_lineOf σ x2)) hx hb hr (fun t ht hW => ⟨⟨_, (), rfl, rfl, by rw [ht]; exact hP, hD⟩, hS.F ht⟩) hS.2.2 dX0_topLine_41
      · have hR := hR.trans (if_neg c_1)
        have hkB : k < 32 := zlt ex (by omega) (by decide) c_1
        refine lv_aload_n hx hb dX0_topLine_10 rfl (lv_at hl 0 rfl) ?_
        refine lv_iload_n hx hb dX0_topLine_11 rfl (lv_at hl 3 rfl) ?_
        refine lv_iload_n hx hb dX0_topLine_12 rfl (lv_at hl 1 rfl) ?_
        refine zai (va_runV (As := [.int x3, .int a1]) (rest := []) ⟨hx, hb, hml, hown, hts⟩ (c_X0_isSounding l G cs ad tl σ x3 a1  H.size) (cwV 2 hts gX0_topLine_X0_isSounding rfl rfl rfl (by decide +kernel) ⟨Nat.le_of_ble_eq_true rfl, Nat.le_of_ble_eq_true rfl⟩) (zpv hE hP hD hS hA (zg_9 cs ad σ tl) rfl) rfl rfl hl.1 rfl (lv_room (Nat.le_of_ble_eq_true rfl)) dX0_topLine_13 ⟨Nat.le_of_ble_eq_true rfl, Nat.le_of_ble_eq_true rfl⟩) hD hS hA (fun H locs hP hD hS => ?_)
        refine lv_if_eq (tgt := 30) hx hb dX0_topLine_16 (by decide) (fun c_2 => ?_) (fun c_2 => ?_)
        · have hR := hR.trans (if_pos c_2)
          refine lv_iinc (v := (x3 + 1)) (lv' := [(3, .int (x3 + 1)), (0, .ref (ad 9)), (1, .int a1), (2, .int x2)]) hx hb dX0_topLine_30 hl (k := 3) rfl rfl (by decide) rfl (fun ls hl => ?_)
          refine lv_goto (tgt := 4) hx hb dX0_topLine_33 (by decide) ?_
          exact ih (k + 1)  x2 (x3 + 1) (by rw [ex]; exact nI_1 _) (by omega) (by omega)  hR H locs hP hD hS ls (lv_sub hl [1, 2, 3, 0] rfl)
        · have hR := hR.trans (if_neg c_2)
          refine lv_aload_n hx hb dX0_topLine_19 rfl (lv_at hl 0 rfl) ?_
          refine lv_iload_n hx hb dX0_topLine_20 rfl (lv_at hl 3 rfl) ?_
          refine lv_iload_n hx hb dX0_topLine_21 rfl (lv_at hl 2 rfl) ?_
          refine zai (va_runV (As := [.int x3, .int x2]) (rest := []) ⟨hx, hb, hml, hown, hts⟩ (c_X0_isAhead l G cs ad tl σ x3 x2  H.size) (cwV 2 hts gX0_topLine_X0_isAhead rfl rfl rfl (by decide +kernel) ⟨Nat.le_of_ble_eq_true rfl, Nat.le_of_ble_eq_true rfl⟩) (zpv hE hP hD hS hA (zg_9 cs ad σ tl) rfl) rfl rfl hl.1 rfl (lv_room (Nat.le_of_ble_eq_true rfl)) dX0_topLine_22 ⟨Nat.le_of_ble_eq_true rfl, Nat.le_of_ble_eq_true rfl⟩) hD hS hA (fun H locs hP hD hS => ?_)
          refine lv_if_eq (tgt := 30) hx hb dX0_topLine_25 (by decide) (fun c_3 => ?_) (fun c_3 => ?_)
          · have hR := hR.trans (if_pos c_3)
            refine lv_iinc (v := (x3 + 1)) (lv' := [(3, .int (x3 + 1)), (0, .ref (ad 9)), (1, .int a1), (2, .int x2)]) hx hb dX0_topLine_30 hl (k := 3) rfl rfl (by decide) rfl (fun ls hl => ?_)
            refine lv_goto (tgt := 4) hx hb dX0_topLine_33 (by decide) ?_
            exact ih (k + 1)  x2 (x3 + 1) (by rw [ex]; exact nI_1 _) (by omega) (by omega)  hR H locs hP hD hS ls (lv_sub hl [1, 2, 3, 0] rfl)
          · have hR := hR.trans (if_neg c_3)
            refine lv_iload_n hx hb dX0_topLine_28 rfl (lv_at hl 3 rfl) ?_
            refine lv_istore_n (lv' := [(2, .int x3), (0, .ref (ad 9)), (1, .int a1), (3, .int x3)]) hx hb dX0_topLine_29 rfl hl (by decide) rfl (fun ls hl => ?_)
            refine lv_iinc (v := (x3 + 1)) (lv' := [(3, .int (x3 + 1)), (2, .int x3), (0, .ref (ad 9)), (1, .int a1)]) hx hb dX0_topLine_30 hl (k := 3) rfl rfl (by decide) rfl (fun ls hl => ?_)
            refine lv_goto (tgt := 4) hx hb dX0_topLine_33 (by decide) ?_
            exact ih (k + 1)  x3 (x3 + 1) (by rw [ex]; exact nI_1 _) (by omega) (by omega)  hR H locs hP hD hS ls (lv_sub hl [2, 3, 1, 0] rfl)
  exact loop_4 33 0  (-1) 0 nI_0.symm (by omega) (by omega)  hR H locs hP hD hS ls (lv_sub hl [2, 3, 1, 0] rfl)
def f_X2_isFull (σ : zS)  : Int32 := (if (σ 2 6) < 60 then 0 else 1)
theorem iX2_isFull : ∀ w ∈ u_ws RX2 TX2 9, w ∈ wsX2_isFull := by decide +kernel
set_option maxRecDepth 100000 in
theorem c_X2_isFull (l : Launch) (G : va_G) (cs : Nat → ClassId) (ad : Nat → Nat) (tl : va_W) (σ : zS)   : zMi l yX2_isFull wsX2_isFull { frames := 0, cells := 0, slots := 0, locals := 0 } G cs [.ref (ad 2)] (zw cs ad σ tl) (f_X2_isFull σ ) (zw cs ad σ tl) 0 0 := by
  intro sz
  refine Met.ofW (cc := cX2_isFull) (maxL := 1) (ret := (some .boolean)) (by decide) rfl ?_
  intro p e s m args below meth c s₁ B hml hv
  obtain ⟨rfl, hsz, hP, hD0, hE⟩ := hv
  have hx := B.exec
  have hb := B.bytes
  have hr := B.returns
  have hts := atoms_spec (ws := wsX2_isFull) B.pre
  have hown : s.vm.findClass RX2 = some m.cls := findClass_of_methodNamed B.named
  have hlocks := B.notSynchronized
  subst hsz
  have hD := hD0.self (sz := s.heap.size)
  have hA : ∀ q : Nat, s.heap.size ≤ q → (va_A (zw cs ad σ tl) s.heap.size) q := fun q h => Or.inr h
  generalize va_A (zw cs ad σ tl) s.heap.size = A at hD hE hA ⊢
  have hS : va_S A s.heap s.heap [] := va_S.rf
  have hl := lv_entry ([.ref (ad 2)]) (n := 1) (Nat.le_of_ble_eq_true rfl)
  rw [lg_entry_eq]
  generalize (lg_sl ([.ref (ad 2)]) ++ List.replicate (1 - (lg_sl ([.ref (ad 2)])).length) Slot.unset).toArray = ls at hl ⊢
  have hl : lv_has ls 1 [(0, .ref (ad 2))] := hl
  generalize hR : (f_X2_isFull σ ) = RV
  have hR := hR.symm
  unfold f_X2_isFull at hR
  obtain ⟨H, hH⟩ : ∃ z, z = s.heap := ⟨_, rfl⟩
  obtain ⟨locs, hlocs⟩ : ∃ z : List Loc, z = [] := ⟨_, rfl⟩
  rw [← hH] at hP
  have hS : va_S A s.heap H locs := by rw [hH, hlocs]; exact hS
  show W _ _ _ _ _ _ _ _ _ _ s.heap [] _ _ _ _
  rw [← hH, ← hlocs]
  clear hlocs
  refine lv_aload_n hx hb dX2_isFull_0 rfl (lv_at hl 0 rfl) ?_
  refine va_get (D := G) (ci := 4) (v := .int (σ 2 6)) (C := RX2) (T := TX2) (N := 9) hx hb hts iX2_isFull hown hE.1 hP 2 (zg_2 cs ad σ tl) rfl 6 (by decide) (hts (.fieldLink RX2 32 "HandoverDeck$Log" "lineCount" "I") (by decide +kernel)) (fun _ h9 => h9) rfl dX2_isFull_1 ?_
  refine lv_bipush (v := 60) hx hb dX2_isFull_4 (by decide) ?_
  refine lv_icmp_lt (tgt := 13) hx hb dX2_isFull_6 (by decide) (fun c_1 => ?_) (fun c_1 => ?_)
  · have hR := hR.trans (if_pos c_1)
    refine lv_iconst (v := 0) hx hb dX2_isFull_13 (by decide) ?_
    have hR := hR.symm
    subst hR
    exact W.zret (v := 0) hx hb hr rfl (fun t ht hW => ⟨⟨_, (), rfl, rfl, by rw [ht]; exact hP, hD⟩, hS.F ht⟩) hS.2.2 dX2_isFull_14
  · have hR := hR.trans (if_neg c_1)
    refine lv_iconst (v := 1) hx hb dX2_isFull_9 (by decide) ?_
    refine lv_goto (tgt := 14) hx hb dX2_isFull_10 (by decide) ?_
    have hR := hR.symm
    subst hR
    exact W.zret (v := 1) hx hb hr rfl (fun t ht hW => ⟨⟨_, (), rfl, rfl, by rw [ht]; exact hP, hD⟩, hS.F ht⟩) hS.2.2 dX2_isFull_14
theorem nar_X2_isFull (σ : zS)  : narrow .boolean (.int (f_X2_isFull σ )) = .int (f_X2_isFull σ ) := by unfold f_X2_isFull; (repeat' split) <;> rfl
def f_X2_hasLine (σ : zS) (a1 : Int32) : Int32 := (if a1 < 0 then 0 else (if (σ 2 6) ≤ a1 then 0 else (if 60 ≤ a1 then 0 else 1)))
theorem iX2_hasLine : ∀ w ∈ u_ws RX2 TX2 9, w ∈ wsX2_hasLine := by decide +kernel
set_option maxRecDepth 100000 in
theorem c_X2_hasLine (l : Launch) (G : va_G) (cs : Nat → ClassId) (ad : Nat → Nat) (tl : va_W) (σ : zS) (a1 : Int32)  : zMi l yX2_hasLine wsX2_hasLine { frames := 0, cells := 0, slots := 0, locals := 0 } G cs [.ref (ad 2), .int a1] (zw cs ad σ tl) (f_X2_hasLine σ a1) (zw cs ad σ tl) 0 0 := by
  intro sz
  refine Met.ofW (cc := cX2_hasLine) (maxL := 2) (ret := (some .boolean)) (by decide) rfl ?_
  intro p e s m args below meth c s₁ B hml hv
  obtain ⟨rfl, hsz, hP, hD0, hE⟩ := hv
  have hx := B.exec
  have hb := B.bytes
  have hr := B.returns
  have hts := atoms_spec (ws := wsX2_hasLine) B.pre
  have hown : s.vm.findClass RX2 = some m.cls := findClass_of_methodNamed B.named
  have hlocks := B.notSynchronized
  subst hsz
  have hD := hD0.self (sz := s.heap.size)
  have hA : ∀ q : Nat, s.heap.size ≤ q → (va_A (zw cs ad σ tl) s.heap.size) q := fun q h => Or.inr h
  generalize va_A (zw cs ad σ tl) s.heap.size = A at hD hE hA ⊢
  have hS : va_S A s.heap s.heap [] := va_S.rf
  have hl := lv_entry ([.ref (ad 2), .int a1]) (n := 2) (Nat.le_of_ble_eq_true rfl)
  rw [lg_entry_eq]
  generalize (lg_sl ([.ref (ad 2), .int a1]) ++ List.replicate (2 - (lg_sl ([.ref (ad 2), .int a1])).length) Slot.unset).toArray = ls at hl ⊢
  have hl : lv_has ls 2 [(0, .ref (ad 2)), (1, .int a1)] := hl
  generalize hR : (f_X2_hasLine σ a1) = RV
  have hR := hR.symm
  unfold f_X2_hasLine at hR
  obtain ⟨H, hH⟩ : ∃ z, z = s.heap := ⟨_, rfl⟩
  obtain ⟨locs, hlocs⟩ : ∃ z : List Loc, z = [] := ⟨_, rfl⟩
  rw [← hH] at hP
  have hS : va_S A s.heap H locs := by rw [hH, hlocs]; exact hS
  show W _ _ _ _ _ _ _ _ _ _ s.heap [] _ _ _ _
  rw [← hH, ← hlocs]
  clear hlocs
  refine lv_iload_n hx hb dX2_hasLine_0 rfl (lv_at hl 1 rfl) ?_
  refine lv_if_lt (tgt := 22) hx hb dX2_hasLine_1 (by decide) (fun c_1 => ?_) (fun c_1 => ?_)
  · have hR := hR.trans (if_pos c_1)
    refine lv_iconst (v := 0) hx hb dX2_hasLine_22 (by decide) ?_
    have hR := hR.symm
    subst hR
    exact W.zret (v := 0) hx hb hr rfl (fun t ht hW => ⟨⟨_, (), rfl, rfl, by rw [ht]; exact hP, hD⟩, hS.F ht⟩) hS.2.2 dX2_hasLine_23
  · have hR := hR.trans (if_neg c_1)
    refine lv_iload_n hx hb dX2_hasLine_4 rfl (lv_at hl 1 rfl) ?_
    refine lv_aload_n hx hb dX2_hasLine_5 rfl (lv_at hl 0 rfl) ?_
    refine va_get (D := G) (ci := 4) (v := .int (σ 2 6)) (C := RX2) (T := TX2) (N := 9) hx hb hts iX2_hasLine hown hE.1 hP 2 (zg_2 cs ad σ tl) rfl 6 (by decide) (hts (.fieldLink RX2 32 "HandoverDeck$Log" "lineCount" "I") (by decide +kernel)) (fun _ h9 => h9) rfl dX2_hasLine_6 ?_
    refine lv_icmp_ge (tgt := 22) hx hb dX2_hasLine_9 (by decide) (fun c_2 => ?_) (fun c_2 => ?_)
    · have hR := hR.trans (if_pos c_2)
      refine lv_iconst (v := 0) hx hb dX2_hasLine_22 (by decide) ?_
      have hR := hR.symm
      subst hR
      exact W.zret (v := 0) hx hb hr rfl (fun t ht hW => ⟨⟨_, (), rfl, rfl, by rw [ht]; exact hP, hD⟩, hS.F ht⟩) hS.2.2 dX2_hasLine_23
    · have hR := hR.trans (if_neg c_2)
      refine lv_iload_n hx hb dX2_hasLine_12 rfl (lv_at hl 1 rfl) ?_
      refine lv_bipush (v := 60) hx hb dX2_hasLine_13 (by decide) ?_
      refine lv_icmp_ge (tgt := 22) hx hb dX2_hasLine_15 (by decide) (fun c_3 => ?_) (fun c_3 => ?_)
      · have hR := hR.trans (if_pos c_3)
        refine lv_iconst (v := 0) hx hb dX2_hasLine_22 (by decide) ?_
        have hR := hR.symm
        subst hR
        exact W.zret (v := 0) hx hb hr rfl (fun t ht hW => ⟨⟨_, (), rfl, rfl, by rw [ht]; exact hP, hD⟩, hS.F ht⟩) hS.2.2 dX2_hasLine_23
      · have hR := hR.trans (if_neg c_3)
        refine lv_iconst (v := 1) hx hb dX2_hasLine_18 (by decide) ?_
        refine lv_goto (tgt := 23) hx hb dX2_hasLine_19 (by decide) ?_
        have hR := hR.symm
        subst hR
        exact W.zret (v := 1) hx hb hr rfl (fun t ht hW => ⟨⟨_, (), rfl, rfl, by rw [ht]; exact hP, hD⟩, hS.F ht⟩) hS.2.2 dX2_hasLine_23
theorem nar_X2_hasLine (σ : zS) (a1 : Int32) : narrow .boolean (.int (f_X2_hasLine σ a1)) = .int (f_X2_hasLine σ a1) := by unfold f_X2_hasLine; (repeat' split) <;> rfl
theorem vin_X2_hasLine {σ : zS} {a1 : Int32} (h : ¬ (f_X2_hasLine σ a1) = 0) : vp_in a1 60 := by
  unfold f_X2_hasLine at h
  (repeat' split at h) <;> first | exact absurd rfl h | exact vin_rg (by assumption) (by assumption) (by decide)
def f_X2_lineCount (σ : zS)  : Int32 := (σ 2 6)
theorem iX2_lineCount : ∀ w ∈ u_ws RX2 TX2 9, w ∈ wsX2_lineCount := by decide +kernel
set_option maxRecDepth 100000 in
theorem c_X2_lineCount (l : Launch) (G : va_G) (cs : Nat → ClassId) (ad : Nat → Nat) (tl : va_W) (σ : zS)   : zMi l yX2_lineCount wsX2_lineCount { frames := 0, cells := 0, slots := 0, locals := 0 } G cs [.ref (ad 2)] (zw cs ad σ tl) (f_X2_lineCount σ ) (zw cs ad σ tl) 0 0 := by
  intro sz
  refine Met.ofW (cc := cX2_lineCount) (maxL := 1) (ret := (some .int)) (by decide) rfl ?_
  intro p e s m args below meth c s₁ B hml hv
  obtain ⟨rfl, hsz, hP, hD0, hE⟩ := hv
  have hx := B.exec
  have hb := B.bytes
  have hr := B.returns
  have hts := atoms_spec (ws := wsX2_lineCount) B.pre
  have hown : s.vm.findClass RX2 = some m.cls := findClass_of_methodNamed B.named
  have hlocks := B.notSynchronized
  subst hsz
  have hD := hD0.self (sz := s.heap.size)
  have hA : ∀ q : Nat, s.heap.size ≤ q → (va_A (zw cs ad σ tl) s.heap.size) q := fun q h => Or.inr h
  generalize va_A (zw cs ad σ tl) s.heap.size = A at hD hE hA ⊢
  have hS : va_S A s.heap s.heap [] := va_S.rf
  have hl := lv_entry ([.ref (ad 2)]) (n := 1) (Nat.le_of_ble_eq_true rfl)
  rw [lg_entry_eq]
  generalize (lg_sl ([.ref (ad 2)]) ++ List.replicate (1 - (lg_sl ([.ref (ad 2)])).length) Slot.unset).toArray = ls at hl ⊢
  have hl : lv_has ls 1 [(0, .ref (ad 2))] := hl
  generalize hR : (f_X2_lineCount σ ) = RV
  have hR := hR.symm
  unfold f_X2_lineCount at hR
  obtain ⟨H, hH⟩ : ∃ z, z = s.heap := ⟨_, rfl⟩
  obtain ⟨locs, hlocs⟩ : ∃ z : List Loc, z = [] := ⟨_, rfl⟩
  rw [← hH] at hP
  have hS : va_S A s.heap H locs := by rw [hH, hlocs]; exact hS
  show W _ _ _ _ _ _ _ _ _ _ s.heap [] _ _ _ _
  rw [← hH, ← hlocs]
  clear hlocs
  refine lv_aload_n hx hb dX2_lineCount_0 rfl (lv_at hl 0 rfl) ?_
  refine va_get (D := G) (ci := 4) (v := .int (σ 2 6)) (C := RX2) (T := TX2) (N := 9) hx hb hts iX2_lineCount hown hE.1 hP 2 (zg_2 cs ad σ tl) rfl 6 (by decide) (hts (.fieldLink RX2 32 "HandoverDeck$Log" "lineCount" "I") (by decide +kernel)) (fun _ h9 => h9) rfl dX2_lineCount_1 ?_
  have hR := hR.symm
  subst hR
  exact W.iret (v := (σ 2 6)) hx hb hr (fun t ht hW => ⟨⟨_, (), rfl, rfl, by rw [ht]; exact hP, hD⟩, hS.F ht⟩) hS.2.2 dX2_lineCount_4
def f_X2_openCount (σ : zS)  : Int32 := (σ 2 7)
theorem iX2_openCount : ∀ w ∈ u_ws RX2 TX2 9, w ∈ wsX2_openCount := by decide +kernel
set_option maxRecDepth 100000 in
theorem c_X2_openCount (l : Launch) (G : va_G) (cs : Nat → ClassId) (ad : Nat → Nat) (tl : va_W) (σ : zS)   : zMi l yX2_openCount wsX2_openCount { frames := 0, cells := 0, slots := 0, locals := 0 } G cs [.ref (ad 2)] (zw cs ad σ tl) (f_X2_openCount σ ) (zw cs ad σ tl) 0 0 := by
  intro sz
  refine Met.ofW (cc := cX2_openCount) (maxL := 1) (ret := (some .int)) (by decide) rfl ?_
  intro p e s m args below meth c s₁ B hml hv
  obtain ⟨rfl, hsz, hP, hD0, hE⟩ := hv
  have hx := B.exec
  have hb := B.bytes
  have hr := B.returns
  have hts := atoms_spec (ws := wsX2_openCount) B.pre
  have hown : s.vm.findClass RX2 = some m.cls := findClass_of_methodNamed B.named
  have hlocks := B.notSynchronized
  subst hsz
  have hD := hD0.self (sz := s.heap.size)
  have hA : ∀ q : Nat, s.heap.size ≤ q → (va_A (zw cs ad σ tl) s.heap.size) q := fun q h => Or.inr h
  generalize va_A (zw cs ad σ tl) s.heap.size = A at hD hE hA ⊢
  have hS : va_S A s.heap s.heap [] := va_S.rf
  have hl := lv_entry ([.ref (ad 2)]) (n := 1) (Nat.le_of_ble_eq_true rfl)
  rw [lg_entry_eq]
  generalize (lg_sl ([.ref (ad 2)]) ++ List.replicate (1 - (lg_sl ([.ref (ad 2)])).length) Slot.unset).toArray = ls at hl ⊢
  have hl : lv_has ls 1 [(0, .ref (ad 2))] := hl
  generalize hR : (f_X2_openCount σ ) = RV
  have hR := hR.symm
  unfold f_X2_openCount at hR
  obtain ⟨H, hH⟩ : ∃ z, z = s.heap := ⟨_, rfl⟩
  obtain ⟨locs, hlocs⟩ : ∃ z : List Loc, z = [] := ⟨_, rfl⟩
  rw [← hH] at hP
  have hS : va_S A s.heap H locs := by rw [hH, hlocs]; exact hS
  show W _ _ _ _ _ _ _ _ _ _ s.heap [] _ _ _ _
  rw [← hH, ← hlocs]
  clear hlocs
  refine lv_aload_n hx hb dX2_openCount_0 rfl (lv_at hl 0 rfl) ?_
  refine va_get (D := G) (ci := 4) (v := .int (σ 2 7)) (C := RX2) (T := TX2) (N := 9) hx hb hts iX2_openCount hown hE.1 hP 2 (zg_2 cs ad σ tl) rfl 7 (by decide) (hts (.fieldLink RX2 36 "HandoverDeck$Log" "openCount" "I") (by decide +kernel)) (fun _ h9 => h9) rfl dX2_openCount_1 ?_
  have hR := hR.symm
  subst hR
  exact W.iret (v := (σ 2 7)) hx hb hr (fun t ht hW => ⟨⟨_, (), rfl, rfl, by rw [ht]; exact hP, hD⟩, hS.F ht⟩) hS.2.2 dX2_openCount_4
def f_X2_writeEntry (σ : zS) (a1 : Int32) : zS := (if (σ 2 8) < 0 then σ else (if 120 ≤ (σ 2 8) then σ else (zs (zs σ 8 (σ 2 8).toNatClampNeg a1) 2 8 ((σ 2 8) + 1))))
theorem iX2_writeEntry : ∀ w ∈ u_ws RX2 TX2 9, w ∈ wsX2_writeEntry := by decide +kernel
set_option maxRecDepth 100000 in
theorem c_X2_writeEntry (l : Launch) (G : va_G) (cs : Nat → ClassId) (ad : Nat → Nat) (tl : va_W) (σ : zS) (a1 : Int32)  : zMv l yX2_writeEntry wsX2_writeEntry { frames := 0, cells := 0, slots := 0, locals := 0 } G cs [.ref (ad 2), .int a1] (zw cs ad σ tl) (zw cs ad (f_X2_writeEntry σ a1) tl) 0 0 := by
  intro sz
  refine Met.ofW (cc := cX2_writeEntry) (maxL := 2) (ret := none) (by decide) rfl ?_
  intro p e s m args below meth c s₁ B hml hv
  obtain ⟨rfl, hsz, hP, hD0, hE⟩ := hv
  have hx := B.exec
  have hb := B.bytes
  have hr := B.returns
  have hts := atoms_spec (ws := wsX2_writeEntry) B.pre
  have hown : s.vm.findClass RX2 = some m.cls := findClass_of_methodNamed B.named
  have hlocks := B.notSynchronized
  subst hsz
  have hD := hD0.self (sz := s.heap.size)
  have hA : ∀ q : Nat, s.heap.size ≤ q → (va_A (zw cs ad σ tl) s.heap.size) q := fun q h => Or.inr h
  generalize va_A (zw cs ad σ tl) s.heap.size = A at hD hE hA ⊢
  have hS : va_S A s.heap s.heap [] := va_S.rf
  have hl := lv_entry ([.ref (ad 2), .int a1]) (n := 2) (Nat.le_of_ble_eq_true rfl)
  rw [lg_entry_eq]
  generalize (lg_sl ([.ref (ad 2), .int a1]) ++ List.replicate (2 - (lg_sl ([.ref (ad 2), .int a1])).length) Slot.unset).toArray = ls at hl ⊢
  have hl : lv_has ls 2 [(0, .ref (ad 2)), (1, .int a1)] := hl
  generalize hR : (f_X2_writeEntry σ a1) = RV
  have hR := hR.symm
  unfold f_X2_writeEntry at hR
  obtain ⟨H, hH⟩ : ∃ z, z = s.heap := ⟨_, rfl⟩
  obtain ⟨locs, hlocs⟩ : ∃ z : List Loc, z = [] := ⟨_, rfl⟩
  rw [← hH] at hP
  have hS : va_S A s.heap H locs := by rw [hH, hlocs]; exact hS
  show W _ _ _ _ _ _ _ _ _ _ s.heap [] _ _ _ _
  rw [← hH, ← hlocs]
  clear hlocs
  refine lv_aload_n hx hb dX2_writeEntry_0 rfl (lv_at hl 0 rfl) ?_
  refine va_get (D := G) (ci := 4) (v := .int (σ 2 8)) (C := RX2) (T := TX2) (N := 9) hx hb hts iX2_writeEntry hown hE.1 hP 2 (zg_2 cs ad σ tl) rfl 8 (by decide) (hts (.fieldLink RX2 54 "HandoverDeck$Log" "entryCount" "I") (by decide +kernel)) (fun _ h9 => h9) rfl dX2_writeEntry_1 ?_
  refine lv_if_lt (tgt := 36) hx hb dX2_writeEntry_4 (by decide) (fun c_1 => ?_) (fun c_1 => ?_)
  · have hR := hR.trans (if_pos c_1)
    have hR := hR.symm
    subst hR
    exact W.vret hx hb hr (fun t ht hW => ⟨⟨(), rfl, trivial, by rw [ht]; exact hP, hD⟩, hS.F ht⟩) hS.2.2 dX2_writeEntry_36
  · have hR := hR.trans (if_neg c_1)
    refine lv_aload_n hx hb dX2_writeEntry_7 rfl (lv_at hl 0 rfl) ?_
    refine va_get (D := G) (ci := 4) (v := .int (σ 2 8)) (C := RX2) (T := TX2) (N := 9) hx hb hts iX2_writeEntry hown hE.1 hP 2 (zg_2 cs ad σ tl) rfl 8 (by decide) (hts (.fieldLink RX2 54 "HandoverDeck$Log" "entryCount" "I") (by decide +kernel)) (fun _ h9 => h9) rfl dX2_writeEntry_8 ?_
    refine lv_bipush (v := 120) hx hb dX2_writeEntry_11 (by decide) ?_
    refine lv_icmp_ge (tgt := 36) hx hb dX2_writeEntry_13 (by decide) (fun c_2 => ?_) (fun c_2 => ?_)
    · have hR := hR.trans (if_pos c_2)
      have hR := hR.symm
      subst hR
      exact W.vret hx hb hr (fun t ht hW => ⟨⟨(), rfl, trivial, by rw [ht]; exact hP, hD⟩, hS.F ht⟩) hS.2.2 dX2_writeEntry_36
    · have hR := hR.trans (if_neg c_2)
      refine lv_aload_n hx hb dX2_writeEntry_16 rfl (lv_at hl 0 rfl) ?_
      refine va_get (D := G) (ci := 4) (v := .ref (ad 8)) (C := RX2) (T := TX2) (N := 9) hx hb hts iX2_writeEntry hown hE.1 hP 2 (zg_2 cs ad σ tl) rfl 5 (by decide) (hts (.fieldLink RX2 29 "HandoverDeck$Log" "entries" "[I") (by decide +kernel)) (fun _ h9 => h9) rfl dX2_writeEntry_17 ?_
      refine lv_aload_n hx hb dX2_writeEntry_20 rfl (lv_at hl 0 rfl) ?_
      refine va_get (D := G) (ci := 4) (v := .int (σ 2 8)) (C := RX2) (T := TX2) (N := 9) hx hb hts iX2_writeEntry hown hE.1 hP 2 (zg_2 cs ad σ tl) rfl 8 (by decide) (hts (.fieldLink RX2 54 "HandoverDeck$Log" "entryCount" "I") (by decide +kernel)) (fun _ h9 => h9) rfl dX2_writeEntry_21 ?_
      refine lv_iload_n hx hb dX2_writeEntry_24 rfl (lv_at hl 1 rfl) ?_
      refine z_iast hx hb hE hP hD hS (zg_8 cs ad σ tl) (zb_8 cs ad σ tl) (vin_rg c_1 c_2 (by decide)) dX2_writeEntry_25 (fun H locs hP hD hS => ?_)
      refine lv_aload_n hx hb dX2_writeEntry_26 rfl (lv_at hl 0 rfl) ?_
      refine lv_dup hx hb dX2_writeEntry_27 rfl ?_
      refine va_get (D := G) (ci := 4) (v := .int (σ 2 8)) (C := RX2) (T := TX2) (N := 9) hx hb hts iX2_writeEntry hown hE.1 hP 2 (zg_2 cs ad (zs σ 8 (σ 2 8).toNatClampNeg a1) tl) rfl 8 (by decide) (hts (.fieldLink RX2 54 "HandoverDeck$Log" "entryCount" "I") (by decide +kernel)) (fun _ h9 => h9) rfl dX2_writeEntry_28 ?_
      refine lv_iconst (v := 1) hx hb dX2_writeEntry_31 (by decide) ?_
      refine lv_iadd hx hb dX2_writeEntry_32 ?_
      refine va_put (D := G) (ci := 4) (v := .int ((σ 2 8) + 1)) (ty := .int) (C := RX2) (T := TX2) (N := 9) hx hb hts iX2_writeEntry tyX2 tyX2_ok nmX2 hown hE.1 hP hD hS 2 (zg_2 cs ad (zs σ 8 (σ 2 8).toNatClampNeg a1) tl) rfl 8 (by decide) (hts (.fieldLink RX2 54 "HandoverDeck$Log" "entryCount" "I") (by decide +kernel)) (fun _ h9 => h9) rfl (by decide +kernel) rfl rfl (Nat.le_of_ble_eq_true rfl) dX2_writeEntry_33 (fun H locs hP hD hS => ?_)
      rw [zb_2_8 cs ad (zs σ 8 (σ 2 8).toNatClampNeg a1) tl] at hP hD
      have hR := hR.symm
      subst hR
      exact W.vret hx hb hr (fun t ht hW => ⟨⟨(), rfl, trivial, by rw [ht]; exact hP, hD⟩, hS.F ht⟩) hS.2.2 dX2_writeEntry_36
def f_X2_openLine (σ : zS) (a1 : Int32) (a2 : Int32) : Int32 × zS := (if (f_X2_isFull σ ) = 0 then (if (f_X2_hasLine (zs σ 2 6 ((σ 2 6) + 1)) (σ 2 6)) = 0 then ((σ 2 6), (zs σ 2 6 ((σ 2 6) + 1))) else ((σ 2 6), (f_X2_writeEntry (zs (zs (zs (zs (zs σ 2 6 ((σ 2 6) + 1)) 3 (σ 2 6).toNatClampNeg a1) 4 (σ 2 6).toNatClampNeg a2) 5 (σ 2 6).toNatClampNeg 1) 2 7 ((σ 2 7) + 1)) (σ 2 6)))) else ((-1), σ))
theorem iX2_openLine : ∀ w ∈ u_ws RX2 TX2 9, w ∈ wsX2_openLine := by decide +kernel
set_option maxRecDepth 100000 in
theorem c_X2_openLine (l : Launch) (G : va_G) (cs : Nat → ClassId) (ad : Nat → Nat) (tl : va_W) (σ : zS) (a1 : Int32) (a2 : Int32) (hkc : vp_nar .char a1 = a1) : zMi l yX2_openLine wsX2_openLine { frames := 1, cells := 0, slots := 0, locals := 21 } G cs [.ref (ad 2), .int a1, .int a2] (zw cs ad σ tl) (f_X2_openLine σ a1 a2).1 (zw cs ad (f_X2_openLine σ a1 a2).2 tl) 0 0 := by
  intro sz
  refine Met.ofW (cc := cX2_openLine) (maxL := 4) (ret := (some .int)) (by decide) rfl ?_
  intro p e s m args below meth c s₁ B hml hv
  obtain ⟨rfl, hsz, hP, hD0, hE⟩ := hv
  have hx := B.exec
  have hb := B.bytes
  have hr := B.returns
  have hts := atoms_spec (ws := wsX2_openLine) B.pre
  have hown : s.vm.findClass RX2 = some m.cls := findClass_of_methodNamed B.named
  have hlocks := B.notSynchronized
  subst hsz
  have hD := hD0.self (sz := s.heap.size)
  have hA : ∀ q : Nat, s.heap.size ≤ q → (va_A (zw cs ad σ tl) s.heap.size) q := fun q h => Or.inr h
  generalize va_A (zw cs ad σ tl) s.heap.size = A at hD hE hA ⊢
  have hS : va_S A s.heap s.heap [] := va_S.rf
  have hl := lv_entry ([.ref (ad 2), .int a1, .int a2]) (n := 4) (Nat.le_of_ble_eq_true rfl)
  rw [lg_entry_eq]
  generalize (lg_sl ([.ref (ad 2), .int a1, .int a2]) ++ List.replicate (4 - (lg_sl ([.ref (ad 2), .int a1, .int a2])).length) Slot.unset).toArray = ls at hl ⊢
  have hl : lv_has ls 4 [(0, .ref (ad 2)), (1, .int a1), (2, .int a2)] := hl
  generalize hR : (f_X2_openLine σ a1 a2) = RV
  have hR := hR.symm
  unfold f_X2_openLine at hR
  obtain ⟨RVv, RVs⟩ := RV
  dsimp only
  obtain ⟨H, hH⟩ : ∃ z, z = s.heap := ⟨_, rfl⟩
  obtain ⟨locs, hlocs⟩ : ∃ z : List Loc, z = [] := ⟨_, rfl⟩
  rw [← hH] at hP
  have hS : va_S A s.heap H locs := by rw [hH, hlocs]; exact hS
  show W _ _ _ _ _ _ _ _ _ _ s.heap [] _ _ _ _
  rw [← hH, ← hlocs]
  clear hlocs
  refine lv_aload_n hx hb dX2_openLine_0 rfl (lv_at hl 0 rfl) ?_
  refine zai (va_runV (As := []) (rest := []) ⟨hx, hb, hml, hown, hts⟩ (c_X2_isFull l G cs ad tl σ   H.size) (cwV 0 hts gX2_openLine_X2_isFull rfl rfl rfl (by decide +kernel) ⟨Nat.le_of_ble_eq_true rfl, Nat.le_of_ble_eq_true rfl⟩) (zpv hE hP hD hS hA (zg_2 cs ad σ tl) rfl) rfl rfl hl.1 rfl (lv_room (Nat.le_of_ble_eq_true rfl)) dX2_openLine_1 ⟨Nat.le_of_ble_eq_true rfl, Nat.le_of_ble_eq_true rfl⟩) hD hS hA (fun H locs hP hD hS => ?_)
  refine lv_if_eq (tgt := 9) hx hb dX2_openLine_4 (by decide) (fun c_1 => ?_) (fun c_1 => ?_)
  · have hR := hR.trans (if_pos c_1)
    refine lv_aload_n hx hb dX2_openLine_9 rfl (lv_at hl 0 rfl) ?_
    refine va_get (D := G) (ci := 4) (v := .int (σ 2 6)) (C := RX2) (T := TX2) (N := 9) hx hb hts iX2_openLine hown hE.1 hP 2 (zg_2 cs ad σ tl) rfl 6 (by decide) (hts (.fieldLink RX2 32 "HandoverDeck$Log" "lineCount" "I") (by decide +kernel)) (fun _ h9 => h9) rfl dX2_openLine_10 ?_
    refine lv_istore_n (lv' := [(3, .int (σ 2 6)), (0, .ref (ad 2)), (1, .int a1), (2, .int a2)]) hx hb dX2_openLine_13 rfl hl (by decide) rfl (fun ls hl => ?_)
    refine lv_aload_n hx hb dX2_openLine_14 rfl (lv_at hl 1 rfl) ?_
    refine lv_dup hx hb dX2_openLine_15 rfl ?_
    refine va_get (D := G) (ci := 4) (v := .int (σ 2 6)) (C := RX2) (T := TX2) (N := 9) hx hb hts iX2_openLine hown hE.1 hP 2 (zg_2 cs ad σ tl) rfl 6 (by decide) (hts (.fieldLink RX2 32 "HandoverDeck$Log" "lineCount" "I") (by decide +kernel)) (fun _ h9 => h9) rfl dX2_openLine_16 ?_
    refine lv_iconst (v := 1) hx hb dX2_openLine_19 (by decide) ?_
    refine lv_iadd hx hb dX2_openLine_20 ?_
    refine va_put (D := G) (ci := 4) (v := .int ((σ 2 6) + 1)) (ty := .int) (C := RX2) (T := TX2) (N := 9) hx hb hts iX2_openLine tyX2 tyX2_ok nmX2 hown hE.1 hP hD hS 2 (zg_2 cs ad σ tl) rfl 6 (by decide) (hts (.fieldLink RX2 32 "HandoverDeck$Log" "lineCount" "I") (by decide +kernel)) (fun _ h9 => h9) rfl (by decide +kernel) rfl rfl (Nat.le_of_ble_eq_true rfl) dX2_openLine_21 (fun H locs hP hD hS => ?_)
    rw [zb_2_6 cs ad σ tl] at hP hD
    refine lv_aload_n hx hb dX2_openLine_24 rfl (lv_at hl 1 rfl) ?_
    refine lv_iload_n hx hb dX2_openLine_25 rfl (lv_at hl 0 rfl) ?_
    refine zai (va_runV (As := [.int (σ 2 6)]) (rest := []) ⟨hx, hb, hml, hown, hts⟩ (c_X2_hasLine l G cs ad tl (zs σ 2 6 ((σ 2 6) + 1)) (σ 2 6)  H.size) (cwV 1 hts gX2_openLine_X2_hasLine rfl rfl rfl (by decide +kernel) ⟨Nat.le_of_ble_eq_true rfl, Nat.le_of_ble_eq_true rfl⟩) (zpv hE hP hD hS hA (zg_2 cs ad (zs σ 2 6 ((σ 2 6) + 1)) tl) rfl) rfl rfl hl.1 rfl (lv_room (Nat.le_of_ble_eq_true rfl)) dX2_openLine_26 ⟨Nat.le_of_ble_eq_true rfl, Nat.le_of_ble_eq_true rfl⟩) hD hS hA (fun H locs hP hD hS => ?_)
    refine lv_if_eq (tgt := 68) hx hb dX2_openLine_29 (by decide) (fun c_2 => ?_) (fun c_2 => ?_)
    · have hR := hR.trans (if_pos c_2)
      refine lv_iload_n hx hb dX2_openLine_68 rfl (lv_at hl 0 rfl) ?_
      obtain ⟨e1, e2⟩ := z2 hR.symm
      subst e1; subst e2
      exact W.iret (v := (σ 2 6)) hx hb hr (fun t ht hW => ⟨⟨_, (), rfl, rfl, by rw [ht]; exact hP, hD⟩, hS.F ht⟩) hS.2.2 dX2_openLine_69
    · have hR := hR.trans (if_neg c_2)
      refine lv_aload_n hx hb dX2_openLine_32 rfl (lv_at hl 1 rfl) ?_
      refine va_get (D := G) (ci := 4) (v := .ref (ad 3)) (C := RX2) (T := TX2) (N := 9) hx hb hts iX2_openLine hown hE.1 hP 2 (zg_2 cs ad (zs σ 2 6 ((σ 2 6) + 1)) tl) rfl 0 (by decide) (hts (.fieldLink RX2 9 "HandoverDeck$Log" "kinds" "[C") (by decide +kernel)) (fun _ h9 => h9) rfl dX2_openLine_33 ?_
      refine lv_iload_n hx hb dX2_openLine_36 rfl (lv_at hl 0 rfl) ?_
      refine lv_iload_n hx hb dX2_openLine_37 rfl (lv_at hl 2 rfl) ?_
      refine z_cast hx hb hE hP hD hS (zg_3 cs ad (zs σ 2 6 ((σ 2 6) + 1)) tl) (zb_3 cs ad (zs σ 2 6 ((σ 2 6) + 1)) tl) (vin_X2_hasLine c_2) hkc dX2_openLine_38 (fun H locs hP hD hS => ?_)
      refine lv_aload_n hx hb dX2_openLine_39 rfl (lv_at hl 1 rfl) ?_
      refine va_get (D := G) (ci := 4) (v := .ref (ad 4)) (C := RX2) (T := TX2) (N := 9) hx hb hts iX2_openLine hown hE.1 hP 2 (zg_2 cs ad (zs (zs σ 2 6 ((σ 2 6) + 1)) 3 (σ 2 6).toNatClampNeg a1) tl) rfl 1 (by decide) (hts (.fieldLink RX2 15 "HandoverDeck$Log" "openedAt" "[I") (by decide +kernel)) (fun _ h9 => h9) rfl dX2_openLine_40 ?_
      refine lv_iload_n hx hb dX2_openLine_43 rfl (lv_at hl 0 rfl) ?_
      refine lv_iload_n hx hb dX2_openLine_44 rfl (lv_at hl 3 rfl) ?_
      refine z_iast hx hb hE hP hD hS (zg_4 cs ad (zs (zs σ 2 6 ((σ 2 6) + 1)) 3 (σ 2 6).toNatClampNeg a1) tl) (zb_4 cs ad (zs (zs σ 2 6 ((σ 2 6) + 1)) 3 (σ 2 6).toNatClampNeg a1) tl) (vin_X2_hasLine c_2) dX2_openLine_45 (fun H locs hP hD hS => ?_)
      refine lv_aload_n hx hb dX2_openLine_46 rfl (lv_at hl 1 rfl) ?_
      refine va_get (D := G) (ci := 4) (v := .ref (ad 5)) (C := RX2) (T := TX2) (N := 9) hx hb hts iX2_openLine hown hE.1 hP 2 (zg_2 cs ad (zs (zs (zs σ 2 6 ((σ 2 6) + 1)) 3 (σ 2 6).toNatClampNeg a1) 4 (σ 2 6).toNatClampNeg a2) tl) rfl 2 (by decide) (hts (.fieldLink RX2 19 "HandoverDeck$Log" "open" "[Z") (by decide +kernel)) (fun _ h9 => h9) rfl dX2_openLine_47 ?_
      refine lv_iload_n hx hb dX2_openLine_50 rfl (lv_at hl 0 rfl) ?_
      refine lv_iconst (v := 1) hx hb dX2_openLine_51 (by decide) ?_
      refine z_zast hx hb hE hP hD hS (zg_5 cs ad (zs (zs (zs σ 2 6 ((σ 2 6) + 1)) 3 (σ 2 6).toNatClampNeg a1) 4 (σ 2 6).toNatClampNeg a2) tl) (zb_5 cs ad (zs (zs (zs σ 2 6 ((σ 2 6) + 1)) 3 (σ 2 6).toNatClampNeg a1) 4 (σ 2 6).toNatClampNeg a2) tl) (vin_X2_hasLine c_2) rfl dX2_openLine_52 (fun H locs hP hD hS => ?_)
      refine lv_aload_n hx hb dX2_openLine_53 rfl (lv_at hl 1 rfl) ?_
      refine lv_dup hx hb dX2_openLine_54 rfl ?_
      refine va_get (D := G) (ci := 4) (v := .int (σ 2 7)) (C := RX2) (T := TX2) (N := 9) hx hb hts iX2_openLine hown hE.1 hP 2 (zg_2 cs ad (zs (zs (zs (zs σ 2 6 ((σ 2 6) + 1)) 3 (σ 2 6).toNatClampNeg a1) 4 (σ 2 6).toNatClampNeg a2) 5 (σ 2 6).toNatClampNeg 1) tl) rfl 7 (by decide) (hts (.fieldLink RX2 36 "HandoverDeck$Log" "openCount" "I") (by decide +kernel)) (fun _ h9 => h9) rfl dX2_openLine_55 ?_
      refine lv_iconst (v := 1) hx hb dX2_openLine_58 (by decide) ?_
      refine lv_iadd hx hb dX2_openLine_59 ?_
      refine va_put (D := G) (ci := 4) (v := .int ((σ 2 7) + 1)) (ty := .int) (C := RX2) (T := TX2) (N := 9) hx hb hts iX2_openLine tyX2 tyX2_ok nmX2 hown hE.1 hP hD hS 2 (zg_2 cs ad (zs (zs (zs (zs σ 2 6 ((σ 2 6) + 1)) 3 (σ 2 6).toNatClampNeg a1) 4 (σ 2 6).toNatClampNeg a2) 5 (σ 2 6).toNatClampNeg 1) tl) rfl 7 (by decide) (hts (.fieldLink RX2 36 "HandoverDeck$Log" "openCount" "I") (by decide +kernel)) (fun _ h9 => h9) rfl (by decide +kernel) rfl rfl (Nat.le_of_ble_eq_true rfl) dX2_openLine_60 (fun H locs hP hD hS => ?_)
      rw [zb_2_7 cs ad (zs (zs (zs (zs σ 2 6 ((σ 2 6) + 1)) 3 (σ 2 6).toNatClampNeg a1) 4 (σ 2 6).toNatClampNeg a2) 5 (σ 2 6).toNatClampNeg 1) tl] at hP hD
      refine lv_aload_n hx hb dX2_openLine_63 rfl (lv_at hl 1 rfl) ?_
      refine lv_iload_n hx hb dX2_openLine_64 rfl (lv_at hl 0 rfl) ?_
      refine zav (va_runV (As := [.int (σ 2 6)]) (rest := []) ⟨hx, hb, hml, hown, hts⟩ (c_X2_writeEntry l G cs ad tl (zs (zs (zs (zs (zs σ 2 6 ((σ 2 6) + 1)) 3 (σ 2 6).toNatClampNeg a1) 4 (σ 2 6).toNatClampNeg a2) 5 (σ 2 6).toNatClampNeg 1) 2 7 ((σ 2 7) + 1)) (σ 2 6)  H.size) (cwV 1 hts gX2_openLine_X2_writeEntry rfl rfl rfl (by decide +kernel) ⟨Nat.le_of_ble_eq_true rfl, Nat.le_of_ble_eq_true rfl⟩) (zpv hE hP hD hS hA (zg_2 cs ad (zs (zs (zs (zs (zs σ 2 6 ((σ 2 6) + 1)) 3 (σ 2 6).toNatClampNeg a1) 4 (σ 2 6).toNatClampNeg a2) 5 (σ 2 6).toNatClampNeg 1) 2 7 ((σ 2 7) + 1)) tl) rfl) rfl rfl hl.1 rfl (lv_room (Nat.le_of_ble_eq_true rfl)) dX2_openLine_65 ⟨Nat.le_of_ble_eq_true rfl, Nat.le_of_ble_eq_true rfl⟩) hD hS hA (fun H locs hP hD hS => ?_)
      refine lv_iload_n hx hb dX2_openLine_68 rfl (lv_at hl 0 rfl) ?_
      obtain ⟨e1, e2⟩ := z2 hR.symm
      subst e1; subst e2
      exact W.iret (v := (σ 2 6)) hx hb hr (fun t ht hW => ⟨⟨_, (), rfl, rfl, by rw [ht]; exact hP, hD⟩, hS.F ht⟩) hS.2.2 dX2_openLine_69
  · have hR := hR.trans (if_neg c_1)
    refine lv_iconst (v := (-1)) hx hb dX2_openLine_7 (by decide) ?_
    obtain ⟨e1, e2⟩ := z2 hR.symm
    subst e1; subst e2
    exact W.iret (v := (-1)) hx hb hr (fun t ht hW => ⟨⟨_, (), rfl, rfl, by rw [ht]; exact hP, hD⟩, hS.F ht⟩) hS.2.2 dX2_openLine_8
def f_X2_isOpen (σ : zS) (a1 : Int32) : Int32 := (if (f_X2_hasLine σ a1) = 0 then 0 else (if (σ 5 a1.toNatClampNeg) = 0 then 0 else 1))
theorem iX2_isOpen : ∀ w ∈ u_ws RX2 TX2 9, w ∈ wsX2_isOpen := by decide +kernel
set_option maxRecDepth 100000 in
theorem c_X2_isOpen (l : Launch) (G : va_G) (cs : Nat → ClassId) (ad : Nat → Nat) (tl : va_W) (σ : zS) (a1 : Int32)  : zMi l yX2_isOpen wsX2_isOpen { frames := 1, cells := 0, slots := 0, locals := 21 } G cs [.ref (ad 2), .int a1] (zw cs ad σ tl) (f_X2_isOpen σ a1) (zw cs ad σ tl) 0 0 := by
  intro sz
  refine Met.ofW (cc := cX2_isOpen) (maxL := 2) (ret := (some .boolean)) (by decide) rfl ?_
  intro p e s m args below meth c s₁ B hml hv
  obtain ⟨rfl, hsz, hP, hD0, hE⟩ := hv
  have hx := B.exec
  have hb := B.bytes
  have hr := B.returns
  have hts := atoms_spec (ws := wsX2_isOpen) B.pre
  have hown : s.vm.findClass RX2 = some m.cls := findClass_of_methodNamed B.named
  have hlocks := B.notSynchronized
  subst hsz
  have hD := hD0.self (sz := s.heap.size)
  have hA : ∀ q : Nat, s.heap.size ≤ q → (va_A (zw cs ad σ tl) s.heap.size) q := fun q h => Or.inr h
  generalize va_A (zw cs ad σ tl) s.heap.size = A at hD hE hA ⊢
  have hS : va_S A s.heap s.heap [] := va_S.rf
  have hl := lv_entry ([.ref (ad 2), .int a1]) (n := 2) (Nat.le_of_ble_eq_true rfl)
  rw [lg_entry_eq]
  generalize (lg_sl ([.ref (ad 2), .int a1]) ++ List.replicate (2 - (lg_sl ([.ref (ad 2), .int a1])).length) Slot.unset).toArray = ls at hl ⊢
  have hl : lv_has ls 2 [(0, .ref (ad 2)), (1, .int a1)] := hl
  generalize hR : (f_X2_isOpen σ a1) = RV
  have hR := hR.symm
  unfold f_X2_isOpen at hR
  obtain ⟨H, hH⟩ : ∃ z, z = s.heap := ⟨_, rfl⟩
  obtain ⟨locs, hlocs⟩ : ∃ z : List Loc, z = [] := ⟨_, rfl⟩
  rw [← hH] at hP
  have hS : va_S A s.heap H locs := by rw [hH, hlocs]; exact hS
  show W _ _ _ _ _ _ _ _ _ _ s.heap [] _ _ _ _
  rw [← hH, ← hlocs]
  clear hlocs
  refine lv_aload_n hx hb dX2_isOpen_0 rfl (lv_at hl 0 rfl) ?_
  refine lv_iload_n hx hb dX2_isOpen_1 rfl (lv_at hl 1 rfl) ?_
  refine zai (va_runV (As := [.int a1]) (rest := []) ⟨hx, hb, hml, hown, hts⟩ (c_X2_hasLine l G cs ad tl σ a1  H.size) (cwV 1 hts gX2_isOpen_X2_hasLine rfl rfl rfl (by decide +kernel) ⟨Nat.le_of_ble_eq_true rfl, Nat.le_of_ble_eq_true rfl⟩) (zpv hE hP hD hS hA (zg_2 cs ad σ tl) rfl) rfl rfl hl.1 rfl (lv_room (Nat.le_of_ble_eq_true rfl)) dX2_isOpen_2 ⟨Nat.le_of_ble_eq_true rfl, Nat.le_of_ble_eq_true rfl⟩) hD hS hA (fun H locs hP hD hS => ?_)
  refine lv_if_eq (tgt := 21) hx hb dX2_isOpen_5 (by decide) (fun c_1 => ?_) (fun c_1 => ?_)
  · have hR := hR.trans (if_pos c_1)
    refine lv_iconst (v := 0) hx hb dX2_isOpen_21 (by decide) ?_
    have hR := hR.symm
    subst hR
    exact W.zret (v := 0) hx hb hr rfl (fun t ht hW => ⟨⟨_, (), rfl, rfl, by rw [ht]; exact hP, hD⟩, hS.F ht⟩) hS.2.2 dX2_isOpen_22
  · have hR := hR.trans (if_neg c_1)
    refine lv_aload_n hx hb dX2_isOpen_8 rfl (lv_at hl 0 rfl) ?_
    refine va_get (D := G) (ci := 4) (v := .ref (ad 5)) (C := RX2) (T := TX2) (N := 9) hx hb hts iX2_isOpen hown hE.1 hP 2 (zg_2 cs ad σ tl) rfl 2 (by decide) (hts (.fieldLink RX2 19 "HandoverDeck$Log" "open" "[Z") (by decide +kernel)) (fun _ h9 => h9) rfl dX2_isOpen_9 ?_
    refine lv_iload_n hx hb dX2_isOpen_12 rfl (lv_at hl 1 rfl) ?_
    refine z_zald (v := (σ 5 a1.toNatClampNeg)) hx hb hE hP (zg_5 cs ad σ tl) (vin_X2_hasLine c_1) rfl dX2_isOpen_13 ?_
    refine lv_if_eq (tgt := 21) hx hb dX2_isOpen_14 (by decide) (fun c_2 => ?_) (fun c_2 => ?_)
    · have hR := hR.trans (if_pos c_2)
      refine lv_iconst (v := 0) hx hb dX2_isOpen_21 (by decide) ?_
      have hR := hR.symm
      subst hR
      exact W.zret (v := 0) hx hb hr rfl (fun t ht hW => ⟨⟨_, (), rfl, rfl, by rw [ht]; exact hP, hD⟩, hS.F ht⟩) hS.2.2 dX2_isOpen_22
    · have hR := hR.trans (if_neg c_2)
      refine lv_iconst (v := 1) hx hb dX2_isOpen_17 (by decide) ?_
      refine lv_goto (tgt := 22) hx hb dX2_isOpen_18 (by decide) ?_
      have hR := hR.symm
      subst hR
      exact W.zret (v := 1) hx hb hr rfl (fun t ht hW => ⟨⟨_, (), rfl, rfl, by rw [ht]; exact hP, hD⟩, hS.F ht⟩) hS.2.2 dX2_isOpen_22
theorem nar_X2_isOpen (σ : zS) (a1 : Int32) : narrow .boolean (.int (f_X2_isOpen σ a1)) = .int (f_X2_isOpen σ a1) := by unfold f_X2_isOpen; (repeat' split) <;> rfl
theorem vin_X2_isOpen {σ : zS} {a1 : Int32} (h : ¬ (f_X2_isOpen σ a1) = 0) : vp_in a1 60 := by
  unfold f_X2_isOpen at h
  (repeat' split at h) <;> first | exact absurd rfl h | exact vin_rg (by assumption) (by assumption) (by decide) | exact vin_X2_hasLine (by assumption)
def f_X2_closeLine (σ : zS) (a1 : Int32) : zS := (if (f_X2_isOpen σ a1) = 0 then σ else (f_X2_writeEntry (zs (zs σ 5 a1.toNatClampNeg 0) 2 7 ((σ 2 7) - 1)) (a1 ^^^ (-1))))
theorem iX2_closeLine : ∀ w ∈ u_ws RX2 TX2 9, w ∈ wsX2_closeLine := by decide +kernel
set_option maxRecDepth 100000 in
theorem c_X2_closeLine (l : Launch) (G : va_G) (cs : Nat → ClassId) (ad : Nat → Nat) (tl : va_W) (σ : zS) (a1 : Int32)  : zMv l yX2_closeLine wsX2_closeLine { frames := 2, cells := 0, slots := 0, locals := 42 } G cs [.ref (ad 2), .int a1] (zw cs ad σ tl) (zw cs ad (f_X2_closeLine σ a1) tl) 0 0 := by
  intro sz
  refine Met.ofW (cc := cX2_closeLine) (maxL := 2) (ret := none) (by decide) rfl ?_
  intro p e s m args below meth c s₁ B hml hv
  obtain ⟨rfl, hsz, hP, hD0, hE⟩ := hv
  have hx := B.exec
  have hb := B.bytes
  have hr := B.returns
  have hts := atoms_spec (ws := wsX2_closeLine) B.pre
  have hown : s.vm.findClass RX2 = some m.cls := findClass_of_methodNamed B.named
  have hlocks := B.notSynchronized
  subst hsz
  have hD := hD0.self (sz := s.heap.size)
  have hA : ∀ q : Nat, s.heap.size ≤ q → (va_A (zw cs ad σ tl) s.heap.size) q := fun q h => Or.inr h
  generalize va_A (zw cs ad σ tl) s.heap.size = A at hD hE hA ⊢
  have hS : va_S A s.heap s.heap [] := va_S.rf
  have hl := lv_entry ([.ref (ad 2), .int a1]) (n := 2) (Nat.le_of_ble_eq_true rfl)
  rw [lg_entry_eq]
  generalize (lg_sl ([.ref (ad 2), .int a1]) ++ List.replicate (2 - (lg_sl ([.ref (ad 2), .int a1])).length) Slot.unset).toArray = ls at hl ⊢
  have hl : lv_has ls 2 [(0, .ref (ad 2)), (1, .int a1)] := hl
  generalize hR : (f_X2_closeLine σ a1) = RV
  have hR := hR.symm
  unfold f_X2_closeLine at hR
  obtain ⟨H, hH⟩ : ∃ z, z = s.heap := ⟨_, rfl⟩
  obtain ⟨locs, hlocs⟩ : ∃ z : List Loc, z = [] := ⟨_, rfl⟩
  rw [← hH] at hP
  have hS : va_S A s.heap H locs := by rw [hH, hlocs]; exact hS
  show W _ _ _ _ _ _ _ _ _ _ s.heap [] _ _ _ _
  rw [← hH, ← hlocs]
  clear hlocs
  refine lv_aload_n hx hb dX2_closeLine_0 rfl (lv_at hl 0 rfl) ?_
  refine lv_iload_n hx hb dX2_closeLine_1 rfl (lv_at hl 1 rfl) ?_
  refine zai (va_runV (As := [.int a1]) (rest := []) ⟨hx, hb, hml, hown, hts⟩ (c_X2_isOpen l G cs ad tl σ a1  H.size) (cwV 1 hts gX2_closeLine_X2_isOpen rfl rfl rfl (by decide +kernel) ⟨Nat.le_of_ble_eq_true rfl, Nat.le_of_ble_eq_true rfl⟩) (zpv hE hP hD hS hA (zg_2 cs ad σ tl) rfl) rfl rfl hl.1 rfl (lv_room (Nat.le_of_ble_eq_true rfl)) dX2_closeLine_2 ⟨Nat.le_of_ble_eq_true rfl, Nat.le_of_ble_eq_true rfl⟩) hD hS hA (fun H locs hP hD hS => ?_)
  refine lv_if_eq (tgt := 32) hx hb dX2_closeLine_5 (by decide) (fun c_1 => ?_) (fun c_1 => ?_)
  · have hR := hR.trans (if_pos c_1)
    have hR := hR.symm
    subst hR
    exact W.vret hx hb hr (fun t ht hW => ⟨⟨(), rfl, trivial, by rw [ht]; exact hP, hD⟩, hS.F ht⟩) hS.2.2 dX2_closeLine_32
  · have hR := hR.trans (if_neg c_1)
    refine lv_aload_n hx hb dX2_closeLine_8 rfl (lv_at hl 0 rfl) ?_
    refine va_get (D := G) (ci := 4) (v := .ref (ad 5)) (C := RX2) (T := TX2) (N := 9) hx hb hts iX2_closeLine hown hE.1 hP 2 (zg_2 cs ad σ tl) rfl 2 (by decide) (hts (.fieldLink RX2 19 "HandoverDeck$Log" "open" "[Z") (by decide +kernel)) (fun _ h9 => h9) rfl dX2_closeLine_9 ?_
    refine lv_iload_n hx hb dX2_closeLine_12 rfl (lv_at hl 1 rfl) ?_
    refine lv_iconst (v := 0) hx hb dX2_closeLine_13 (by decide) ?_
    refine z_zast hx hb hE hP hD hS (zg_5 cs ad σ tl) (zb_5 cs ad σ tl) (vin_X2_isOpen c_1) rfl dX2_closeLine_14 (fun H locs hP hD hS => ?_)
    refine lv_aload_n hx hb dX2_closeLine_15 rfl (lv_at hl 0 rfl) ?_
    refine lv_dup hx hb dX2_closeLine_16 rfl ?_
    refine va_get (D := G) (ci := 4) (v := .int (σ 2 7)) (C := RX2) (T := TX2) (N := 9) hx hb hts iX2_closeLine hown hE.1 hP 2 (zg_2 cs ad (zs σ 5 a1.toNatClampNeg 0) tl) rfl 7 (by decide) (hts (.fieldLink RX2 36 "HandoverDeck$Log" "openCount" "I") (by decide +kernel)) (fun _ h9 => h9) rfl dX2_closeLine_17 ?_
    refine lv_iconst (v := 1) hx hb dX2_closeLine_20 (by decide) ?_
    refine lv_isub hx hb dX2_closeLine_21 ?_
    refine va_put (D := G) (ci := 4) (v := .int ((σ 2 7) - 1)) (ty := .int) (C := RX2) (T := TX2) (N := 9) hx hb hts iX2_closeLine tyX2 tyX2_ok nmX2 hown hE.1 hP hD hS 2 (zg_2 cs ad (zs σ 5 a1.toNatClampNeg 0) tl) rfl 7 (by decide) (hts (.fieldLink RX2 36 "HandoverDeck$Log" "openCount" "I") (by decide +kernel)) (fun _ h9 => h9) rfl (by decide +kernel) rfl rfl (Nat.le_of_ble_eq_true rfl) dX2_closeLine_22 (fun H locs hP hD hS => ?_)
    rw [zb_2_7 cs ad (zs σ 5 a1.toNatClampNeg 0) tl] at hP hD
    refine lv_aload_n hx hb dX2_closeLine_25 rfl (lv_at hl 0 rfl) ?_
    refine lv_iload_n hx hb dX2_closeLine_26 rfl (lv_at hl 1 rfl) ?_
    refine lv_iconst (v := (-1)) hx hb dX2_closeLine_27 (by decide) ?_
    refine lv_ixor hx hb dX2_closeLine_28 ?_
    refine zav (va_runV (As := [.int (a1 ^^^ (-1))]) (rest := []) ⟨hx, hb, hml, hown, hts⟩ (c_X2_writeEntry l G cs ad tl (zs (zs σ 5 a1.toNatClampNeg 0) 2 7 ((σ 2 7) - 1)) (a1 ^^^ (-1))  H.size) (cwV 1 hts gX2_closeLine_X2_writeEntry rfl rfl rfl (by decide +kernel) ⟨Nat.le_of_ble_eq_true rfl, Nat.le_of_ble_eq_true rfl⟩) (zpv hE hP hD hS hA (zg_2 cs ad (zs (zs σ 5 a1.toNatClampNeg 0) 2 7 ((σ 2 7) - 1)) tl) rfl) rfl rfl hl.1 rfl (lv_room (Nat.le_of_ble_eq_true rfl)) dX2_closeLine_29 ⟨Nat.le_of_ble_eq_true rfl, Nat.le_of_ble_eq_true rfl⟩) hD hS hA (fun H locs hP hD hS => ?_)
    have hR := hR.symm
    subst hR
    exact W.vret hx hb hr (fun t ht hW => ⟨⟨(), rfl, trivial, by rw [ht]; exact hP, hD⟩, hS.F ht⟩) hS.2.2 dX2_closeLine_32
def L_X2_openCountByEntries_4 (σ : zS)  : Nat → Int32 → Int32 → Int32
  | 0, _, _ => 0
  | n + 1, x1, x2 => (if 120 ≤ x2 then x1 else (if (σ 2 8) ≤ x2 then x1 else (if (σ 8 x2.toNatClampNeg) < 0 then (L_X2_openCountByEntries_4 σ  n (x1 + (-1)) (x2 + 1)) else (L_X2_openCountByEntries_4 σ  n (x1 + 1) (x2 + 1)))))
def f_X2_openCountByEntries (σ : zS)  : Int32 := (L_X2_openCountByEntries_4 σ  121 0 0)
theorem iX2_openCountByEntries : ∀ w ∈ u_ws RX2 TX2 9, w ∈ wsX2_openCountByEntries := by decide +kernel
set_option maxRecDepth 100000 in
theorem c_X2_openCountByEntries (l : Launch) (G : va_G) (cs : Nat → ClassId) (ad : Nat → Nat) (tl : va_W) (σ : zS)   : zMi l yX2_openCountByEntries wsX2_openCountByEntries { frames := 0, cells := 0, slots := 0, locals := 0 } G cs [.ref (ad 2)] (zw cs ad σ tl) (f_X2_openCountByEntries σ ) (zw cs ad σ tl) 0 0 := by
  intro sz
  refine Met.ofW (cc := cX2_openCountByEntries) (maxL := 3) (ret := (some .int)) (by decide) rfl ?_
  intro p e s m args below meth c s₁ B hml hv
  obtain ⟨rfl, hsz, hP, hD0, hE⟩ := hv
  have hx := B.exec
  have hb := B.bytes
  have hr := B.returns
  have hts := atoms_spec (ws := wsX2_openCountByEntries) B.pre
  have hown : s.vm.findClass RX2 = some m.cls := findClass_of_methodNamed B.named
  have hlocks := B.notSynchronized
  subst hsz
  have hD := hD0.self (sz := s.heap.size)
  have hA : ∀ q : Nat, s.heap.size ≤ q → (va_A (zw cs ad σ tl) s.heap.size) q := fun q h => Or.inr h
  generalize va_A (zw cs ad σ tl) s.heap.size = A at hD hE hA ⊢
  have hS : va_S A s.heap s.heap [] := va_S.rf
  have hl := lv_entry ([.ref (ad 2)]) (n := 3) (Nat.le_of_ble_eq_true rfl)
  rw [lg_entry_eq]
  generalize (lg_sl ([.ref (ad 2)]) ++ List.replicate (3 - (lg_sl ([.ref (ad 2)])).length) Slot.unset).toArray = ls at hl ⊢
  have hl : lv_has ls 3 [(0, .ref (ad 2))] := hl
  generalize hR : (f_X2_openCountByEntries σ ) = RV
  have hR := hR.symm
  unfold f_X2_openCountByEntries at hR
  obtain ⟨H, hH⟩ : ∃ z, z = s.heap := ⟨_, rfl⟩
  obtain ⟨locs, hlocs⟩ : ∃ z : List Loc, z = [] := ⟨_, rfl⟩
  rw [← hH] at hP
  have hS : va_S A s.heap H locs := by rw [hH, hlocs]; exact hS
  show W _ _ _ _ _ _ _ _ _ _ s.heap [] _ _ _ _
  rw [← hH, ← hlocs]
  clear hlocs
  refine lv_iconst (v := 0) hx hb dX2_openCountByEntries_0 (by decide) ?_
  refine lv_istore_n (lv' := [(1, .int 0), (0, .ref (ad 2))]) hx hb dX2_openCountByEntries_1 rfl hl (by decide) rfl (fun ls hl => ?_)
  refine lv_iconst (v := 0) hx hb dX2_openCountByEntries_2 (by decide) ?_
  refine lv_istore_n (lv' := [(2, .int 0), (1, .int 0), (0, .ref (ad 2))]) hx hb dX2_openCountByEntries_3 rfl hl (by decide) rfl (fun ls hl => ?_)
  have loop_4 : ∀ (n k : Nat) (x1 : Int32) (x2 : Int32), x2 = nI (k) → k ≤ 120 → k + n = 121 → RV = L_X2_openCountByEntries_4 σ  n x1 x2 → ∀ (H : Heap) (locs : List Loc), va_P G vwCl (zw cs ad σ tl) H → va_D A (zw cs ad σ tl) → va_S A s.heap H locs → ∀ ls : Array Slot, lv_has ls 3 [(0, .ref (ad 2)), (1, .int x1), (2, .int x2)] → W p l e (headSpec wsX2_openCountByEntries { frames := 0, cells := 0, slots := 0, locals := 0 }).room s m (List.toArray [.ref (ad 2)]) below meth c H locs 0 0 (MQ below (va_Qi (fun (r : Int32) (_ : Unit) => r = RV) (fun _ t => zPo G A (zw cs ad σ tl) t) A) (List.toArray [.ref (ad 2)]) s 0 0 A) (F0 m 4 ls []) := by
    intro n
    induction n with
    | zero => intro k  x1 x2 ex hk hn; omega
    | succ n ih =>
      intro k  x1 x2 ex hk hn hR H locs hP hD hS ls hl
      rw [L_X2_openCountByEntries_4] at hR
      refine lv_iload_n hx hb dX2_openCountByEntries_4 rfl (lv_at hl 2 rfl) ?_
      refine lv_bipush (v := 120) hx hb dX2_openCountByEntries_5 (by decide) ?_
      refine lv_icmp_ge (tgt := 41) hx hb dX2_openCountByEntries_7 (by decide) (fun c_1 => ?_) (fun c_1 => ?_)
      · have hR := hR.trans (if_pos c_1)
        refine lv_iload_n hx hb dX2_openCountByEntries_41 rfl (lv_at hl 1 rfl) ?_
        have hR := hR.symm
        subst hR
        exact W.iret (v := x1) hx hb hr (fun t ht hW => ⟨⟨_, (), rfl, rfl, by rw [ht]; exact hP, hD⟩, hS.F ht⟩) hS.2.2 dX2_openCountByEntries_42
      · have hR := hR.trans (if_neg c_1)
        have hkB : k < 120 := zlt ex (by omega) (by decide) c_1
        refine lv_iload_n hx hb dX2_openCountByEntries_10 rfl (lv_at hl 2 rfl) ?_
        refine lv_aload_n hx hb dX2_openCountByEntries_11 rfl (lv_at hl 0 rfl) ?_
        refine va_get (D := G) (ci := 4) (v := .int (σ 2 8)) (C := RX2) (T := TX2) (N := 9) hx hb hts iX2_openCountByEntries hown hE.1 hP 2 (zg_2 cs ad σ tl) rfl 8 (by decide) (hts (.fieldLink RX2 54 "HandoverDeck$Log" "entryCount" "I") (by decide +kernel)) (fun _ h9 => h9) rfl dX2_openCountByEntries_12 ?_
        refine lv_icmp_ge (tgt := 41) hx hb dX2_openCountByEntries_15 (by decide) (fun c_2 => ?_) (fun c_2 => ?_)
        · have hR := hR.trans (if_pos c_2)
          refine lv_iload_n hx hb dX2_openCountByEntries_41 rfl (lv_at hl 1 rfl) ?_
          have hR := hR.symm
          subst hR
          exact W.iret (v := x1) hx hb hr (fun t ht hW => ⟨⟨_, (), rfl, rfl, by rw [ht]; exact hP, hD⟩, hS.F ht⟩) hS.2.2 dX2_openCountByEntries_42
        · have hR := hR.trans (if_neg c_2)
          refine lv_iload_n hx hb dX2_openCountByEntries_18 rfl (lv_at hl 1 rfl) ?_
          refine lv_aload_n hx hb dX2_openCountByEntries_19 rfl (lv_at hl 0 rfl) ?_
          refine va_get (D := G) (ci := 4) (v := .ref (ad 8)) (C := RX2) (T := TX2) (N := 9) hx hb hts iX2_openCountByEntries hown hE.1 hP 2 (zg_2 cs ad σ tl) rfl 5 (by decide) (hts (.fieldLink RX2 29 "HandoverDeck$Log" "entries" "[I") (by decide +kernel)) (fun _ h9 => h9) rfl dX2_openCountByEntries_20 ?_
          refine lv_iload_n hx hb dX2_openCountByEntries_23 rfl (lv_at hl 2 rfl) ?_
          refine z_iald (v := (σ 8 x2.toNatClampNeg)) hx hb hE hP (zg_8 cs ad σ tl) (by rw [ex]; exact vp_in_nI (by omega) (by decide)) rfl dX2_openCountByEntries_24 ?_
          refine lv_if_lt (tgt := 32) hx hb dX2_openCountByEntries_25 (by decide) (fun c_3 => ?_) (fun c_3 => ?_)
          · have hR := hR.trans (if_pos c_3)
            refine lv_iconst (v := (-1)) hx hb dX2_openCountByEntries_32 (by decide) ?_
            refine lv_iadd hx hb dX2_openCountByEntries_33 ?_
            refine lv_istore_n (lv' := [(1, .int (x1 + (-1))), (0, .ref (ad 2)), (2, .int x2)]) hx hb dX2_openCountByEntries_34 rfl hl (by decide) rfl (fun ls hl => ?_)
            refine lv_iinc (v := (x2 + 1)) (lv' := [(2, .int (x2 + 1)), (1, .int (x1 + (-1))), (0, .ref (ad 2))]) hx hb dX2_openCountByEntries_35 hl (k := 2) rfl rfl (by decide) rfl (fun ls hl => ?_)
            refine lv_goto (tgt := 4) hx hb dX2_openCountByEntries_38 (by decide) ?_
            exact ih (k + 1)  (x1 + (-1)) (x2 + 1) (by rw [ex]; exact nI_1 _) (by omega) (by omega)  hR H locs hP hD hS ls (lv_sub hl [2, 1, 0] rfl)
          · have hR := hR.trans (if_neg c_3)
            refine lv_iconst (v := 1) hx hb dX2_openCountByEntries_28 (by decide) ?_
            refine lv_goto (tgt := 33) hx hb dX2_openCountByEntries_29 (by decide) ?_
            refine lv_iadd hx hb dX2_openCountByEntries_33 ?_
            refine lv_istore_n (lv' := [(1, .int (x1 + 1)), (0, .ref (ad 2)), (2, .int x2)]) hx hb dX2_openCountByEntries_34 rfl hl (by decide) rfl (fun ls hl => ?_)
            refine lv_iinc (v := (x2 + 1)) (lv' := [(2, .int (x2 + 1)), (1, .int (x1 + 1)), (0, .ref (ad 2))]) hx hb dX2_openCountByEntries_35 hl (k := 2) rfl rfl (by decide) rfl (fun ls hl => ?_)
            refine lv_goto (tgt := 4) hx hb dX2_openCountByEntries_38 (by decide) ?_
            exact ih (k + 1)  (x1 + 1) (x2 + 1) (by rw [ex]; exact nI_1 _) (by omega) (by omega)  hR H locs hP hD hS ls (lv_sub hl [2, 1, 0] rfl)
  exact loop_4 121 0  0 0 nI_0.symm (by omega) (by omega)  hR H locs hP hD hS ls (lv_sub hl [2, 1, 0] rfl)
def f_X2_kindAt (σ : zS) (a1 : Int32) : Int32 := (if (f_X2_hasLine σ a1) = 0 then 32 else (σ 3 a1.toNatClampNeg))
theorem iX2_kindAt : ∀ w ∈ u_ws RX2 TX2 9, w ∈ wsX2_kindAt := by decide +kernel
set_option maxRecDepth 100000 in
theorem c_X2_kindAt (l : Launch) (G : va_G) (cs : Nat → ClassId) (ad : Nat → Nat) (tl : va_W) (σ : zS) (a1 : Int32) (hch : ∀ j : Nat, narrow .char (.int (σ 3 j)) = .int (σ 3 j)) : zMi l yX2_kindAt wsX2_kindAt { frames := 1, cells := 0, slots := 0, locals := 21 } G cs [.ref (ad 2), .int a1] (zw cs ad σ tl) (f_X2_kindAt σ a1) (zw cs ad σ tl) 0 0 := by
  intro sz
  refine Met.ofW (cc := cX2_kindAt) (maxL := 2) (ret := (some .char)) (by decide) rfl ?_
  intro p e s m args below meth c s₁ B hml hv
  obtain ⟨rfl, hsz, hP, hD0, hE⟩ := hv
  have hx := B.exec
  have hb := B.bytes
  have hr := B.returns
  have hts := atoms_spec (ws := wsX2_kindAt) B.pre
  have hown : s.vm.findClass RX2 = some m.cls := findClass_of_methodNamed B.named
  have hlocks := B.notSynchronized
  subst hsz
  have hD := hD0.self (sz := s.heap.size)
  have hA : ∀ q : Nat, s.heap.size ≤ q → (va_A (zw cs ad σ tl) s.heap.size) q := fun q h => Or.inr h
  generalize va_A (zw cs ad σ tl) s.heap.size = A at hD hE hA ⊢
  have hS : va_S A s.heap s.heap [] := va_S.rf
  have hl := lv_entry ([.ref (ad 2), .int a1]) (n := 2) (Nat.le_of_ble_eq_true rfl)
  rw [lg_entry_eq]
  generalize (lg_sl ([.ref (ad 2), .int a1]) ++ List.replicate (2 - (lg_sl ([.ref (ad 2), .int a1])).length) Slot.unset).toArray = ls at hl ⊢
  have hl : lv_has ls 2 [(0, .ref (ad 2)), (1, .int a1)] := hl
  generalize hR : (f_X2_kindAt σ a1) = RV
  have hR := hR.symm
  unfold f_X2_kindAt at hR
  obtain ⟨H, hH⟩ : ∃ z, z = s.heap := ⟨_, rfl⟩
  obtain ⟨locs, hlocs⟩ : ∃ z : List Loc, z = [] := ⟨_, rfl⟩
  rw [← hH] at hP
  have hS : va_S A s.heap H locs := by rw [hH, hlocs]; exact hS
  show W _ _ _ _ _ _ _ _ _ _ s.heap [] _ _ _ _
  rw [← hH, ← hlocs]
  clear hlocs
  refine lv_aload_n hx hb dX2_kindAt_0 rfl (lv_at hl 0 rfl) ?_
  refine lv_iload_n hx hb dX2_kindAt_1 rfl (lv_at hl 1 rfl) ?_
  refine zai (va_runV (As := [.int a1]) (rest := []) ⟨hx, hb, hml, hown, hts⟩ (c_X2_hasLine l G cs ad tl σ a1  H.size) (cwV 1 hts gX2_kindAt_X2_hasLine rfl rfl rfl (by decide +kernel) ⟨Nat.le_of_ble_eq_true rfl, Nat.le_of_ble_eq_true rfl⟩) (zpv hE hP hD hS hA (zg_2 cs ad σ tl) rfl) rfl rfl hl.1 rfl (lv_room (Nat.le_of_ble_eq_true rfl)) dX2_kindAt_2 ⟨Nat.le_of_ble_eq_true rfl, Nat.le_of_ble_eq_true rfl⟩) hD hS hA (fun H locs hP hD hS => ?_)
  refine lv_if_eq (tgt := 17) hx hb dX2_kindAt_5 (by decide) (fun c_1 => ?_) (fun c_1 => ?_)
  · have hR := hR.trans (if_pos c_1)
    refine lv_bipush (v := 32) hx hb dX2_kindAt_17 (by decide) ?_
    have hR := hR.symm
    subst hR
    exact W.zret (v := 32) hx hb hr rfl (fun t ht hW => ⟨⟨_, (), rfl, rfl, by rw [ht]; exact hP, hD⟩, hS.F ht⟩) hS.2.2 dX2_kindAt_19
  · have hR := hR.trans (if_neg c_1)
    refine lv_aload_n hx hb dX2_kindAt_8 rfl (lv_at hl 0 rfl) ?_
    refine va_get (D := G) (ci := 4) (v := .ref (ad 3)) (C := RX2) (T := TX2) (N := 9) hx hb hts iX2_kindAt hown hE.1 hP 2 (zg_2 cs ad σ tl) rfl 0 (by decide) (hts (.fieldLink RX2 9 "HandoverDeck$Log" "kinds" "[C") (by decide +kernel)) (fun _ h9 => h9) rfl dX2_kindAt_9 ?_
    refine lv_iload_n hx hb dX2_kindAt_12 rfl (lv_at hl 1 rfl) ?_
    refine z_cald (v := (σ 3 a1.toNatClampNeg)) hx hb hE hP (zg_3 cs ad σ tl) (vin_X2_hasLine c_1) rfl dX2_kindAt_13 ?_
    refine lv_goto (tgt := 19) hx hb dX2_kindAt_14 (by decide) ?_
    have hR := hR.symm
    subst hR
    exact W.zret (v := (σ 3 a1.toNatClampNeg)) hx hb hr (hch _) (fun t ht hW => ⟨⟨_, (), rfl, rfl, by rw [ht]; exact hP, hD⟩, hS.F ht⟩) hS.2.2 dX2_kindAt_19
theorem nar_X2_kindAt (σ : zS) (a1 : Int32) (hch : ∀ j : Nat, narrow .char (.int (σ 3 j)) = .int (σ 3 j)) : narrow .char (.int (f_X2_kindAt σ a1)) = .int (f_X2_kindAt σ a1) := by
  unfold f_X2_kindAt
  split
  · rfl
  · exact hch _
def f_X2_handOversOf (σ : zS) (a1 : Int32) : Int32 := (if (f_X2_hasLine σ a1) = 0 then 0 else (σ 7 a1.toNatClampNeg))
theorem iX2_handOversOf : ∀ w ∈ u_ws RX2 TX2 9, w ∈ wsX2_handOversOf := by decide +kernel
set_option maxRecDepth 100000 in
theorem c_X2_handOversOf (l : Launch) (G : va_G) (cs : Nat → ClassId) (ad : Nat → Nat) (tl : va_W) (σ : zS) (a1 : Int32)  : zMi l yX2_handOversOf wsX2_handOversOf { frames := 1, cells := 0, slots := 0, locals := 21 } G cs [.ref (ad 2), .int a1] (zw cs ad σ tl) (f_X2_handOversOf σ a1) (zw cs ad σ tl) 0 0 := by
  intro sz
  refine Met.ofW (cc := cX2_handOversOf) (maxL := 2) (ret := (some .int)) (by decide) rfl ?_
  intro p e s m args below meth c s₁ B hml hv
  obtain ⟨rfl, hsz, hP, hD0, hE⟩ := hv
  have hx := B.exec
  have hb := B.bytes
  have hr := B.returns
  have hts := atoms_spec (ws := wsX2_handOversOf) B.pre
  have hown : s.vm.findClass RX2 = some m.cls := findClass_of_methodNamed B.named
  have hlocks := B.notSynchronized
  subst hsz
  have hD := hD0.self (sz := s.heap.size)
  have hA : ∀ q : Nat, s.heap.size ≤ q → (va_A (zw cs ad σ tl) s.heap.size) q := fun q h => Or.inr h
  generalize va_A (zw cs ad σ tl) s.heap.size = A at hD hE hA ⊢
  have hS : va_S A s.heap s.heap [] := va_S.rf
  have hl := lv_entry ([.ref (ad 2), .int a1]) (n := 2) (Nat.le_of_ble_eq_true rfl)
  rw [lg_entry_eq]
  generalize (lg_sl ([.ref (ad 2), .int a1]) ++ List.replicate (2 - (lg_sl ([.ref (ad 2), .int a1])).length) Slot.unset).toArray = ls at hl ⊢
  have hl : lv_has ls 2 [(0, .ref (ad 2)), (1, .int a1)] := hl
  generalize hR : (f_X2_handOversOf σ a1) = RV
  have hR := hR.symm
  unfold f_X2_handOversOf at hR
  obtain ⟨H, hH⟩ : ∃ z, z = s.heap := ⟨_, rfl⟩
  obtain ⟨locs, hlocs⟩ : ∃ z : List Loc, z = [] := ⟨_, rfl⟩
  rw [← hH] at hP
  have hS : va_S A s.heap H locs := by rw [hH, hlocs]; exact hS
  show W _ _ _ _ _ _ _ _ _ _ s.heap [] _ _ _ _
  rw [← hH, ← hlocs]
  clear hlocs
  refine lv_aload_n hx hb dX2_handOversOf_0 rfl (lv_at hl 0 rfl) ?_
  refine lv_iload_n hx hb dX2_handOversOf_1 rfl (lv_at hl 1 rfl) ?_
  refine zai (va_runV (As := [.int a1]) (rest := []) ⟨hx, hb, hml, hown, hts⟩ (c_X2_hasLine l G cs ad tl σ a1  H.size) (cwV 1 hts gX2_handOversOf_X2_hasLine rfl rfl rfl (by decide +kernel) ⟨Nat.le_of_ble_eq_true rfl, Nat.le_of_ble_eq_true rfl⟩) (zpv hE hP hD hS hA (zg_2 cs ad σ tl) rfl) rfl rfl hl.1 rfl (lv_room (Nat.le_of_ble_eq_true rfl)) dX2_handOversOf_2 ⟨Nat.le_of_ble_eq_true rfl, Nat.le_of_ble_eq_true rfl⟩) hD hS hA (fun H locs hP hD hS => ?_)
  refine lv_if_eq (tgt := 17) hx hb dX2_handOversOf_5 (by decide) (fun c_1 => ?_) (fun c_1 => ?_)
  · have hR := hR.trans (if_pos c_1)
    refine lv_iconst (v := 0) hx hb dX2_handOversOf_17 (by decide) ?_
    have hR := hR.symm
    subst hR
    exact W.iret (v := 0) hx hb hr (fun t ht hW => ⟨⟨_, (), rfl, rfl, by rw [ht]; exact hP, hD⟩, hS.F ht⟩) hS.2.2 dX2_handOversOf_18
  · have hR := hR.trans (if_neg c_1)
    refine lv_aload_n hx hb dX2_handOversOf_8 rfl (lv_at hl 0 rfl) ?_
    refine va_get (D := G) (ci := 4) (v := .ref (ad 7)) (C := RX2) (T := TX2) (N := 9) hx hb hts iX2_handOversOf hown hE.1 hP 2 (zg_2 cs ad σ tl) rfl 4 (by decide) (hts (.fieldLink RX2 26 "HandoverDeck$Log" "handOvers" "[I") (by decide +kernel)) (fun _ h9 => h9) rfl dX2_handOversOf_9 ?_
    refine lv_iload_n hx hb dX2_handOversOf_12 rfl (lv_at hl 1 rfl) ?_
    refine z_iald (v := (σ 7 a1.toNatClampNeg)) hx hb hE hP (zg_7 cs ad σ tl) (vin_X2_hasLine c_1) rfl dX2_handOversOf_13 ?_
    refine lv_goto (tgt := 18) hx hb dX2_handOversOf_14 (by decide) ?_
    have hR := hR.symm
    subst hR
    exact W.iret (v := (σ 7 a1.toNatClampNeg)) hx hb hr (fun t ht hW => ⟨⟨_, (), rfl, rfl, by rw [ht]; exact hP, hD⟩, hS.F ht⟩) hS.2.2 dX2_handOversOf_18
def f_X2_isAcknowledged (σ : zS) (a1 : Int32) : Int32 := (if (f_X2_hasLine σ a1) = 0 then 0 else (if (σ 6 a1.toNatClampNeg) = 0 then 0 else 1))
theorem iX2_isAcknowledged : ∀ w ∈ u_ws RX2 TX2 9, w ∈ wsX2_isAcknowledged := by decide +kernel
set_option maxRecDepth 100000 in
theorem c_X2_isAcknowledged (l : Launch) (G : va_G) (cs : Nat → ClassId) (ad : Nat → Nat) (tl : va_W) (σ : zS) (a1 : Int32)  : zMi l yX2_isAcknowledged wsX2_isAcknowledged { frames := 1, cells := 0, slots := 0, locals := 21 } G cs [.ref (ad 2), .int a1] (zw cs ad σ tl) (f_X2_isAcknowledged σ a1) (zw cs ad σ tl) 0 0 := by
  intro sz
  refine Met.ofW (cc := cX2_isAcknowledged) (maxL := 2) (ret := (some .boolean)) (by decide) rfl ?_
  intro p e s m args below meth c s₁ B hml hv
  obtain ⟨rfl, hsz, hP, hD0, hE⟩ := hv
  have hx := B.exec
  have hb := B.bytes
  have hr := B.returns
  have hts := atoms_spec (ws := wsX2_isAcknowledged) B.pre
  have hown : s.vm.findClass RX2 = some m.cls := findClass_of_methodNamed B.named
  have hlocks := B.notSynchronized
  subst hsz
  have hD := hD0.self (sz := s.heap.size)
  have hA : ∀ q : Nat, s.heap.size ≤ q → (va_A (zw cs ad σ tl) s.heap.size) q := fun q h => Or.inr h
  generalize va_A (zw cs ad σ tl) s.heap.size = A at hD hE hA ⊢
  have hS : va_S A s.heap s.heap [] := va_S.rf
  have hl := lv_entry ([.ref (ad 2), .int a1]) (n := 2) (Nat.le_of_ble_eq_true rfl)
  rw [lg_entry_eq]
  generalize (lg_sl ([.ref (ad 2), .int a1]) ++ List.replicate (2 - (lg_sl ([.ref (ad 2), .int a1])).length) Slot.unset).toArray = ls at hl ⊢
  have hl : lv_has ls 2 [(0, .ref (ad 2)), (1, .int a1)] := hl
  generalize hR : (f_X2_isAcknowledged σ a1) = RV
  have hR := hR.symm
  unfold f_X2_isAcknowledged at hR
  obtain ⟨H, hH⟩ : ∃ z, z = s.heap := ⟨_, rfl⟩
  obtain ⟨locs, hlocs⟩ : ∃ z : List Loc, z = [] := ⟨_, rfl⟩
  rw [← hH] at hP
  have hS : va_S A s.heap H locs := by rw [hH, hlocs]; exact hS
  show W _ _ _ _ _ _ _ _ _ _ s.heap [] _ _ _ _
  rw [← hH, ← hlocs]
  clear hlocs
  refine lv_aload_n hx hb dX2_isAcknowledged_0 rfl (lv_at hl 0 rfl) ?_
  refine lv_iload_n hx hb dX2_isAcknowledged_1 rfl (lv_at hl 1 rfl) ?_
  refine zai (va_runV (As := [.int a1]) (rest := []) ⟨hx, hb, hml, hown, hts⟩ (c_X2_hasLine l G cs ad tl σ a1  H.size) (cwV 1 hts gX2_isAcknowledged_X2_hasLine rfl rfl rfl (by decide +kernel) ⟨Nat.le_of_ble_eq_true rfl, Nat.le_of_ble_eq_true rfl⟩) (zpv hE hP hD hS hA (zg_2 cs ad σ tl) rfl) rfl rfl hl.1 rfl (lv_room (Nat.le_of_ble_eq_true rfl)) dX2_isAcknowledged_2 ⟨Nat.le_of_ble_eq_true rfl, Nat.le_of_ble_eq_true rfl⟩) hD hS hA (fun H locs hP hD hS => ?_)
  refine lv_if_eq (tgt := 21) hx hb dX2_isAcknowledged_5 (by decide) (fun c_1 => ?_) (fun c_1 => ?_)
  · have hR := hR.trans (if_pos c_1)
    refine lv_iconst (v := 0) hx hb dX2_isAcknowledged_21 (by decide) ?_
    have hR := hR.symm
    subst hR
    exact W.zret (v := 0) hx hb hr rfl (fun t ht hW => ⟨⟨_, (), rfl, rfl, by rw [ht]; exact hP, hD⟩, hS.F ht⟩) hS.2.2 dX2_isAcknowledged_22
  · have hR := hR.trans (if_neg c_1)
    refine lv_aload_n hx hb dX2_isAcknowledged_8 rfl (lv_at hl 0 rfl) ?_
    refine va_get (D := G) (ci := 4) (v := .ref (ad 6)) (C := RX2) (T := TX2) (N := 9) hx hb hts iX2_isAcknowledged hown hE.1 hP 2 (zg_2 cs ad σ tl) rfl 3 (by decide) (hts (.fieldLink RX2 23 "HandoverDeck$Log" "acknowledged" "[Z") (by decide +kernel)) (fun _ h9 => h9) rfl dX2_isAcknowledged_9 ?_
    refine lv_iload_n hx hb dX2_isAcknowledged_12 rfl (lv_at hl 1 rfl) ?_
    refine z_zald (v := (σ 6 a1.toNatClampNeg)) hx hb hE hP (zg_6 cs ad σ tl) (vin_X2_hasLine c_1) rfl dX2_isAcknowledged_13 ?_
    refine lv_if_eq (tgt := 21) hx hb dX2_isAcknowledged_14 (by decide) (fun c_2 => ?_) (fun c_2 => ?_)
    · have hR := hR.trans (if_pos c_2)
      refine lv_iconst (v := 0) hx hb dX2_isAcknowledged_21 (by decide) ?_
      have hR := hR.symm
      subst hR
      exact W.zret (v := 0) hx hb hr rfl (fun t ht hW => ⟨⟨_, (), rfl, rfl, by rw [ht]; exact hP, hD⟩, hS.F ht⟩) hS.2.2 dX2_isAcknowledged_22
    · have hR := hR.trans (if_neg c_2)
      refine lv_iconst (v := 1) hx hb dX2_isAcknowledged_17 (by decide) ?_
      refine lv_goto (tgt := 22) hx hb dX2_isAcknowledged_18 (by decide) ?_
      have hR := hR.symm
      subst hR
      exact W.zret (v := 1) hx hb hr rfl (fun t ht hW => ⟨⟨_, (), rfl, rfl, by rw [ht]; exact hP, hD⟩, hS.F ht⟩) hS.2.2 dX2_isAcknowledged_22
theorem nar_X2_isAcknowledged (σ : zS) (a1 : Int32) : narrow .boolean (.int (f_X2_isAcknowledged σ a1)) = .int (f_X2_isAcknowledged σ a1) := by unfold f_X2_isAcknowledged; (repeat' split) <;> rfl
def f_X2_markAcknowledged (σ : zS) (a1 : Int32) : zS := (if (f_X2_hasLine σ a1) = 0 then σ else (zs σ 6 a1.toNatClampNeg 1))
theorem iX2_markAcknowledged : ∀ w ∈ u_ws RX2 TX2 9, w ∈ wsX2_markAcknowledged := by decide +kernel
set_option maxRecDepth 100000 in
theorem c_X2_markAcknowledged (l : Launch) (G : va_G) (cs : Nat → ClassId) (ad : Nat → Nat) (tl : va_W) (σ : zS) (a1 : Int32)  : zMv l yX2_markAcknowledged wsX2_markAcknowledged { frames := 1, cells := 0, slots := 0, locals := 21 } G cs [.ref (ad 2), .int a1] (zw cs ad σ tl) (zw cs ad (f_X2_markAcknowledged σ a1) tl) 0 0 := by
  intro sz
  refine Met.ofW (cc := cX2_markAcknowledged) (maxL := 2) (ret := none) (by decide) rfl ?_
  intro p e s m args below meth c s₁ B hml hv
  obtain ⟨rfl, hsz, hP, hD0, hE⟩ := hv
  have hx := B.exec
  have hb := B.bytes
  have hr := B.returns
  have hts := atoms_spec (ws := wsX2_markAcknowledged) B.pre
  have hown : s.vm.findClass RX2 = some m.cls := findClass_of_methodNamed B.named
  have hlocks := B.notSynchronized
  subst hsz
  have hD := hD0.self (sz := s.heap.size)
  have hA : ∀ q : Nat, s.heap.size ≤ q → (va_A (zw cs ad σ tl) s.heap.size) q := fun q h => Or.inr h
  generalize va_A (zw cs ad σ tl) s.heap.size = A at hD hE hA ⊢
  have hS : va_S A s.heap s.heap [] := va_S.rf
  have hl := lv_entry ([.ref (ad 2), .int a1]) (n := 2) (Nat.le_of_ble_eq_true rfl)
  rw [lg_entry_eq]
  generalize (lg_sl ([.ref (ad 2), .int a1]) ++ List.replicate (2 - (lg_sl ([.ref (ad 2), .int a1])).length) Slot.unset).toArray = ls at hl ⊢
  have hl : lv_has ls 2 [(0, .ref (ad 2)), (1, .int a1)] := hl
  generalize hR : (f_X2_markAcknowledged σ a1) = RV
  have hR := hR.symm
  unfold f_X2_markAcknowledged at hR
  obtain ⟨H, hH⟩ : ∃ z, z = s.heap := ⟨_, rfl⟩
  obtain ⟨locs, hlocs⟩ : ∃ z : List Loc, z = [] := ⟨_, rfl⟩
  rw [← hH] at hP
  have hS : va_S A s.heap H locs := by rw [hH, hlocs]; exact hS
  show W _ _ _ _ _ _ _ _ _ _ s.heap [] _ _ _ _
  rw [← hH, ← hlocs]
  clear hlocs
  refine lv_aload_n hx hb dX2_markAcknowledged_0 rfl (lv_at hl 0 rfl) ?_
  refine lv_iload_n hx hb dX2_markAcknowledged_1 rfl (lv_at hl 1 rfl) ?_
  refine zai (va_runV (As := [.int a1]) (rest := []) ⟨hx, hb, hml, hown, hts⟩ (c_X2_hasLine l G cs ad tl σ a1  H.size) (cwV 1 hts gX2_markAcknowledged_X2_hasLine rfl rfl rfl (by decide +kernel) ⟨Nat.le_of_ble_eq_true rfl, Nat.le_of_ble_eq_true rfl⟩) (zpv hE hP hD hS hA (zg_2 cs ad σ tl) rfl) rfl rfl hl.1 rfl (lv_room (Nat.le_of_ble_eq_true rfl)) dX2_markAcknowledged_2 ⟨Nat.le_of_ble_eq_true rfl, Nat.le_of_ble_eq_true rfl⟩) hD hS hA (fun H locs hP hD hS => ?_)
  refine lv_if_eq (tgt := 15) hx hb dX2_markAcknowledged_5 (by decide) (fun c_1 => ?_) (fun c_1 => ?_)
  · have hR := hR.trans (if_pos c_1)
    have hR := hR.symm
    subst hR
    exact W.vret hx hb hr (fun t ht hW => ⟨⟨(), rfl, trivial, by rw [ht]; exact hP, hD⟩, hS.F ht⟩) hS.2.2 dX2_markAcknowledged_15
  · have hR := hR.trans (if_neg c_1)
    refine lv_aload_n hx hb dX2_markAcknowledged_8 rfl (lv_at hl 0 rfl) ?_
    refine va_get (D := G) (ci := 4) (v := .ref (ad 6)) (C := RX2) (T := TX2) (N := 9) hx hb hts iX2_markAcknowledged hown hE.1 hP 2 (zg_2 cs ad σ tl) rfl 3 (by decide) (hts (.fieldLink RX2 23 "HandoverDeck$Log" "acknowledged" "[Z") (by decide +kernel)) (fun _ h9 => h9) rfl dX2_markAcknowledged_9 ?_
    refine lv_iload_n hx hb dX2_markAcknowledged_12 rfl (lv_at hl 1 rfl) ?_
    refine lv_iconst (v := 1) hx hb dX2_markAcknowledged_13 (by decide) ?_
    refine z_zast hx hb hE hP hD hS (zg_6 cs ad σ tl) (zb_6 cs ad σ tl) (vin_X2_hasLine c_1) rfl dX2_markAcknowledged_14 (fun H locs hP hD hS => ?_)
    have hR := hR.symm
    subst hR
    exact W.vret hx hb hr (fun t ht hW => ⟨⟨(), rfl, trivial, by rw [ht]; exact hP, hD⟩, hS.F ht⟩) hS.2.2 dX2_markAcknowledged_15
def L_X2_forgetAcknowledged_2 (σ : zS)  : Nat → zS → Int32 → zS
  | 0, _, _ => σ
  | n + 1, τ, x1 => (if 60 ≤ x1 then τ else (L_X2_forgetAcknowledged_2 σ  n (zs τ 6 x1.toNatClampNeg 0) (x1 + 1)))
def f_X2_forgetAcknowledged (σ : zS)  : zS := (L_X2_forgetAcknowledged_2 σ  61 σ 0)
theorem iX2_forgetAcknowledged : ∀ w ∈ u_ws RX2 TX2 9, w ∈ wsX2_forgetAcknowledged := by decide +kernel
set_option maxRecDepth 100000 in
theorem c_X2_forgetAcknowledged (l : Launch) (G : va_G) (cs : Nat → ClassId) (ad : Nat → Nat) (tl : va_W) (σ : zS)   : zMv l yX2_forgetAcknowledged wsX2_forgetAcknowledged { frames := 0, cells := 0, slots := 0, locals := 0 } G cs [.ref (ad 2)] (zw cs ad σ tl) (zw cs ad (f_X2_forgetAcknowledged σ ) tl) 0 0 := by
  intro sz
  refine Met.ofW (cc := cX2_forgetAcknowledged) (maxL := 2) (ret := none) (by decide) rfl ?_
  intro p e s m args below meth c s₁ B hml hv
  obtain ⟨rfl, hsz, hP, hD0, hE⟩ := hv
  have hx := B.exec
  have hb := B.bytes
  have hr := B.returns
  have hts := atoms_spec (ws := wsX2_forgetAcknowledged) B.pre
  have hown : s.vm.findClass RX2 = some m.cls := findClass_of_methodNamed B.named
  have hlocks := B.notSynchronized
  subst hsz
  have hD := hD0.self (sz := s.heap.size)
  have hA : ∀ q : Nat, s.heap.size ≤ q → (va_A (zw cs ad σ tl) s.heap.size) q := fun q h => Or.inr h
  generalize va_A (zw cs ad σ tl) s.heap.size = A at hD hE hA ⊢
  have hS : va_S A s.heap s.heap [] := va_S.rf
  have hl := lv_entry ([.ref (ad 2)]) (n := 2) (Nat.le_of_ble_eq_true rfl)
  rw [lg_entry_eq]
  generalize (lg_sl ([.ref (ad 2)]) ++ List.replicate (2 - (lg_sl ([.ref (ad 2)])).length) Slot.unset).toArray = ls at hl ⊢
  have hl : lv_has ls 2 [(0, .ref (ad 2))] := hl
  generalize hR : (f_X2_forgetAcknowledged σ ) = RV
  have hR := hR.symm
  unfold f_X2_forgetAcknowledged at hR
  obtain ⟨H, hH⟩ : ∃ z, z = s.heap := ⟨_, rfl⟩
  obtain ⟨locs, hlocs⟩ : ∃ z : List Loc, z = [] := ⟨_, rfl⟩
  rw [← hH] at hP
  have hS : va_S A s.heap H locs := by rw [hH, hlocs]; exact hS
  show W _ _ _ _ _ _ _ _ _ _ s.heap [] _ _ _ _
  rw [← hH, ← hlocs]
  clear hlocs
  refine lv_iconst (v := 0) hx hb dX2_forgetAcknowledged_0 (by decide) ?_
  refine lv_istore_n (lv' := [(1, .int 0), (0, .ref (ad 2))]) hx hb dX2_forgetAcknowledged_1 rfl hl (by decide) rfl (fun ls hl => ?_)
  have loop_2 : ∀ (n k : Nat) (τ : zS) (x1 : Int32), x1 = nI (k) → k ≤ 60 → k + n = 61 → RV = L_X2_forgetAcknowledged_2 σ  n τ x1 → ∀ (H : Heap) (locs : List Loc), va_P G vwCl (zw cs ad τ tl) H → va_D A (zw cs ad τ tl) → va_S A s.heap H locs → ∀ ls : Array Slot, lv_has ls 2 [(0, .ref (ad 2)), (1, .int x1)] → W p l e (headSpec wsX2_forgetAcknowledged { frames := 0, cells := 0, slots := 0, locals := 0 }).room s m (List.toArray [.ref (ad 2)]) below meth c H locs 0 0 (MQ below (va_Qv (fun (_ : Unit) => True) (fun _ t => zPo G A (zw cs ad RV tl) t) A) (List.toArray [.ref (ad 2)]) s 0 0 A) (F0 m 2 ls []) := by
    intro n
    induction n with
    | zero => intro k τ x1 ex hk hn; omega
    | succ n ih =>
      intro k τ x1 ex hk hn hR H locs hP hD hS ls hl
      rw [L_X2_forgetAcknowledged_2] at hR
      refine lv_iload_n hx hb dX2_forgetAcknowledged_2 rfl (lv_at hl 1 rfl) ?_
      refine lv_bipush (v := 60) hx hb dX2_forgetAcknowledged_3 (by decide) ?_
      refine lv_icmp_ge (tgt := 21) hx hb dX2_forgetAcknowledged_5 (by decide) (fun c_1 => ?_) (fun c_1 => ?_)
      · have hR := hR.trans (if_pos c_1)
        have hR := hR.symm
        subst hR
        exact W.vret hx hb hr (fun t ht hW => ⟨⟨(), rfl, trivial, by rw [ht]; exact hP, hD⟩, hS.F ht⟩) hS.2.2 dX2_forgetAcknowledged_21
      · have hR := hR.trans (if_neg c_1)
        have hkB : k < 60 := zlt ex (by omega) (by decide) c_1
        refine lv_aload_n hx hb dX2_forgetAcknowledged_8 rfl (lv_at hl 0 rfl) ?_
        refine va_get (D := G) (ci := 4) (v := .ref (ad 6)) (C := RX2) (T := TX2) (N := 9) hx hb hts iX2_forgetAcknowledged hown hE.1 hP 2 (zg_2 cs ad τ tl) rfl 3 (by decide) (hts (.fieldLink RX2 23 "HandoverDeck$Log" "acknowledged" "[Z") (by decide +kernel)) (fun _ h9 => h9) rfl dX2_forgetAcknowledged_9 ?_
        refine lv_iload_n hx hb dX2_forgetAcknowledged_12 rfl (lv_at hl 1 rfl) ?_
        refine lv_iconst (v := 0) hx hb dX2_forgetAcknowledged_13 (by decide) ?_
        refine z_zast hx hb hE hP hD hS (zg_6 cs ad τ tl) (zb_6 cs ad τ tl) (by rw [ex]; exact vp_in_nI (by omega) (by decide)) rfl dX2_forgetAcknowledged_14 (fun H locs hP hD hS => ?_)
        refine lv_iinc (v := (x1 + 1)) (lv' := [(1, .int (x1 + 1)), (0, .ref (ad 2))]) hx hb dX2_forgetAcknowledged_15 hl (k := 1) rfl rfl (by decide) rfl (fun ls hl => ?_)
        refine lv_goto (tgt := 2) hx hb dX2_forgetAcknowledged_18 (by decide) ?_
        exact ih (k + 1) (zs τ 6 x1.toNatClampNeg 0) (x1 + 1) (by rw [ex]; exact nI_1 _) (by omega) (by omega)  hR H locs hP hD hS ls (lv_sub hl [1, 0] rfl)
  exact loop_2 61 0 σ 0 nI_0.symm (by omega) (by omega)  hR H locs hP hD hS ls (lv_sub hl [1, 0] rfl)
def L_X2_acknowledgedCount_4 (σ : zS)  : Nat → Int32 → Int32 → Int32
  | 0, _, _ => 0
  | n + 1, x1, x2 => (if 60 ≤ x2 then x1 else (if (f_X2_isOpen σ x2) = 0 then (L_X2_acknowledgedCount_4 σ  n x1 (x2 + 1)) else (if (σ 6 x2.toNatClampNeg) = 0 then (L_X2_acknowledgedCount_4 σ  n x1 (x2 + 1)) else (L_X2_acknowledgedCount_4 σ  n (x1 + 1) (x2 + 1)))))
def f_X2_acknowledgedCount (σ : zS)  : Int32 := (L_X2_acknowledgedCount_4 σ  61 0 0)
theorem iX2_acknowledgedCount : ∀ w ∈ u_ws RX2 TX2 9, w ∈ wsX2_acknowledgedCount := by decide +kernel
set_option maxRecDepth 100000 in
theorem c_X2_acknowledgedCount (l : Launch) (G : va_G) (cs : Nat → ClassId) (ad : Nat → Nat) (tl : va_W) (σ : zS)   : zMi l yX2_acknowledgedCount wsX2_acknowledgedCount { frames := 2, cells := 0, slots := 0, locals := 42 } G cs [.ref (ad 2)] (zw cs ad σ tl) (f_X2_acknowledgedCount σ ) (zw cs ad σ tl) 0 0 := by
  intro sz
  refine Met.ofW (cc := cX2_acknowledgedCount) (maxL := 3) (ret := (some .int)) (by decide) rfl ?_
  intro p e s m args below meth c s₁ B hml hv
  obtain ⟨rfl, hsz, hP, hD0, hE⟩ := hv
  have hx := B.exec
  have hb := B.bytes
  have hr := B.returns
  have hts := atoms_spec (ws := wsX2_acknowledgedCount) B.pre
  have hown : s.vm.findClass RX2 = some m.cls := findClass_of_methodNamed B.named
  have hlocks := B.notSynchronized
  subst hsz
  have hD := hD0.self (sz := s.heap.size)
  have hA : ∀ q : Nat, s.heap.size ≤ q → (va_A (zw cs ad σ tl) s.heap.size) q := fun q h => Or.inr h
  generalize va_A (zw cs ad σ tl) s.heap.size = A at hD hE hA ⊢
  have hS : va_S A s.heap s.heap [] := va_S.rf
  have hl := lv_entry ([.ref (ad 2)]) (n := 3) (Nat.le_of_ble_eq_true rfl)
  rw [lg_entry_eq]
  generalize (lg_sl ([.ref (ad 2)]) ++ List.replicate (3 - (lg_sl ([.ref (ad 2)])).length) Slot.unset).toArray = ls at hl ⊢
  have hl : lv_has ls 3 [(0, .ref (ad 2))] := hl
  generalize hR : (f_X2_acknowledgedCount σ ) = RV
  have hR := hR.symm
  unfold f_X2_acknowledgedCount at hR
  obtain ⟨H, hH⟩ : ∃ z, z = s.heap := ⟨_, rfl⟩
  obtain ⟨locs, hlocs⟩ : ∃ z : List Loc, z = [] := ⟨_, rfl⟩
  rw [← hH] at hP
  have hS : va_S A s.heap H locs := by rw [hH, hlocs]; exact hS
  show W _ _ _ _ _ _ _ _ _ _ s.heap [] _ _ _ _
  rw [← hH, ← hlocs]
  clear hlocs
  refine lv_iconst (v := 0) hx hb dX2_acknowledgedCount_0 (by decide) ?_
  refine lv_istore_n (lv' := [(1, .int 0), (0, .ref (ad 2))]) hx hb dX2_acknowledgedCount_1 rfl hl (by decide) rfl (fun ls hl => ?_)
  refine lv_iconst (v := 0) hx hb dX2_acknowledgedCount_2 (by decide) ?_
  refine lv_istore_n (lv' := [(2, .int 0), (1, .int 0), (0, .ref (ad 2))]) hx hb dX2_acknowledgedCount_3 rfl hl (by decide) rfl (fun ls hl => ?_)
  have loop_4 : ∀ (n k : Nat) (x1 : Int32) (x2 : Int32), x2 = nI (k) → k ≤ 60 → k + n = 61 → RV = L_X2_acknowledgedCount_4 σ  n x1 x2 → ∀ (H : Heap) (locs : List Loc), va_P G vwCl (zw cs ad σ tl) H → va_D A (zw cs ad σ tl) → va_S A s.heap H locs → ∀ ls : Array Slot, lv_has ls 3 [(0, .ref (ad 2)), (1, .int x1), (2, .int x2)] → W p l e (headSpec wsX2_acknowledgedCount { frames := 2, cells := 0, slots := 0, locals := 42 }).room s m (List.toArray [.ref (ad 2)]) below meth c H locs 0 0 (MQ below (va_Qi (fun (r : Int32) (_ : Unit) => r = RV) (fun _ t => zPo G A (zw cs ad σ tl) t) A) (List.toArray [.ref (ad 2)]) s 0 0 A) (F0 m 4 ls []) := by
    intro n
    induction n with
    | zero => intro k  x1 x2 ex hk hn; omega
    | succ n ih =>
      intro k  x1 x2 ex hk hn hR H locs hP hD hS ls hl
      rw [L_X2_acknowledgedCount_4] at hR
      refine lv_iload_n hx hb dX2_acknowledgedCount_4 rfl (lv_at hl 2 rfl) ?_
      refine lv_bipush (v := 60) hx hb dX2_acknowledgedCount_5 (by decide) ?_
      refine lv_icmp_ge (tgt := 36) hx hb dX2_acknowledgedCount_7 (by decide) (fun c_1 => ?_) (fun c_1 => ?_)
      · have hR := hR.trans (if_pos c_1)
        refine lv_iload_n hx hb dX2_acknowledgedCount_36 rfl (lv_at hl 1 rfl) ?_
        have hR := hR.symm
        subst hR
        exact W.iret (v := x1) hx hb hr (fun t ht hW => ⟨⟨_, (), rfl, rfl, by rw [ht]; exact hP, hD⟩, hS.F ht⟩) hS.2.2 dX2_acknowledgedCount_37
      · have hR := hR.trans (if_neg c_1)
        have hkB : k < 60 := zlt ex (by omega) (by decide) c_1
        refine lv_aload_n hx hb dX2_acknowledgedCount_10 rfl (lv_at hl 0 rfl) ?_
        refine lv_iload_n hx hb dX2_acknowledgedCount_11 rfl (lv_at hl 2 rfl) ?_
        refine zai (va_runV (As := [.int x2]) (rest := []) ⟨hx, hb, hml, hown, hts⟩ (c_X2_isOpen l G cs ad tl σ x2  H.size) (cwV 1 hts gX2_acknowledgedCount_X2_isOpen rfl rfl rfl (by decide +kernel) ⟨Nat.le_of_ble_eq_true rfl, Nat.le_of_ble_eq_true rfl⟩) (zpv hE hP hD hS hA (zg_2 cs ad σ tl) rfl) rfl rfl hl.1 rfl (lv_room (Nat.le_of_ble_eq_true rfl)) dX2_acknowledgedCount_12 ⟨Nat.le_of_ble_eq_true rfl, Nat.le_of_ble_eq_true rfl⟩) hD hS hA (fun H locs hP hD hS => ?_)
        refine lv_if_eq (tgt := 30) hx hb dX2_acknowledgedCount_15 (by decide) (fun c_2 => ?_) (fun c_2 => ?_)
        · have hR := hR.trans (if_pos c_2)
          refine lv_iinc (v := (x2 + 1)) (lv' := [(2, .int (x2 + 1)), (0, .ref (ad 2)), (1, .int x1)]) hx hb dX2_acknowledgedCount_30 hl (k := 2) rfl rfl (by decide) rfl (fun ls hl => ?_)
          refine lv_goto (tgt := 4) hx hb dX2_acknowledgedCount_33 (by decide) ?_
          exact ih (k + 1)  x1 (x2 + 1) (by rw [ex]; exact nI_1 _) (by omega) (by omega)  hR H locs hP hD hS ls (lv_sub hl [1, 2, 0] rfl)
        · have hR := hR.trans (if_neg c_2)
          refine lv_aload_n hx hb dX2_acknowledgedCount_18 rfl (lv_at hl 0 rfl) ?_
          refine va_get (D := G) (ci := 4) (v := .ref (ad 6)) (C := RX2) (T := TX2) (N := 9) hx hb hts iX2_acknowledgedCount hown hE.1 hP 2 (zg_2 cs ad σ tl) rfl 3 (by decide) (hts (.fieldLink RX2 23 "HandoverDeck$Log" "acknowledged" "[Z") (by decide +kernel)) (fun _ h9 => h9) rfl dX2_acknowledgedCount_19 ?_
          refine lv_iload_n hx hb dX2_acknowledgedCount_22 rfl (lv_at hl 2 rfl) ?_
          refine z_zald (v := (σ 6 x2.toNatClampNeg)) hx hb hE hP (zg_6 cs ad σ tl) (vin_X2_isOpen c_2) rfl dX2_acknowledgedCount_23 ?_
          refine lv_if_eq (tgt := 30) hx hb dX2_acknowledgedCount_24 (by decide) (fun c_3 => ?_) (fun c_3 => ?_)
          · have hR := hR.trans (if_pos c_3)
            refine lv_iinc (v := (x2 + 1)) (lv' := [(2, .int (x2 + 1)), (0, .ref (ad 2)), (1, .int x1)]) hx hb dX2_acknowledgedCount_30 hl (k := 2) rfl rfl (by decide) rfl (fun ls hl => ?_)
            refine lv_goto (tgt := 4) hx hb dX2_acknowledgedCount_33 (by decide) ?_
            exact ih (k + 1)  x1 (x2 + 1) (by rw [ex]; exact nI_1 _) (by omega) (by omega)  hR H locs hP hD hS ls (lv_sub hl [1, 2, 0] rfl)
          · have hR := hR.trans (if_neg c_3)
            refine lv_iinc (v := (x1 + 1)) (lv' := [(1, .int (x1 + 1)), (0, .ref (ad 2)), (2, .int x2)]) hx hb dX2_acknowledgedCount_27 hl (k := 1) rfl rfl (by decide) rfl (fun ls hl => ?_)
            refine lv_iinc (v := (x2 + 1)) (lv' := [(2, .int (x2 + 1)), (1, .int (x1 + 1)), (0, .ref (ad 2))]) hx hb dX2_acknowledgedCount_30 hl (k := 2) rfl rfl (by decide) rfl (fun ls hl => ?_)
            refine lv_goto (tgt := 4) hx hb dX2_acknowledgedCount_33 (by decide) ?_
            exact ih (k + 1)  (x1 + 1) (x2 + 1) (by rw [ex]; exact nI_1 _) (by omega) (by omega)  hR H locs hP hD hS ls (lv_sub hl [2, 1, 0] rfl)
  exact loop_4 61 0  0 0 nI_0.symm (by omega) (by omega)  hR H locs hP hD hS ls (lv_sub hl [2, 1, 0] rfl)
def L_X2_countHandOver_2 (σ : zS)  : Nat → zS → Int32 → zS
  | 0, _, _ => σ
  | n + 1, τ, x1 => (if 60 ≤ x1 then τ else (if (f_X2_isOpen τ x1) = 0 then (L_X2_countHandOver_2 σ  n τ (x1 + 1)) else (L_X2_countHandOver_2 σ  n (zs τ 7 x1.toNatClampNeg ((τ 7 x1.toNatClampNeg) + 1)) (x1 + 1))))
def f_X2_countHandOver (σ : zS)  : zS := (L_X2_countHandOver_2 σ  61 σ 0)
theorem iX2_countHandOver : ∀ w ∈ u_ws RX2 TX2 9, w ∈ wsX2_countHandOver := by decide +kernel
set_option maxRecDepth 100000 in
theorem c_X2_countHandOver (l : Launch) (G : va_G) (cs : Nat → ClassId) (ad : Nat → Nat) (tl : va_W) (σ : zS)   : zMv l yX2_countHandOver wsX2_countHandOver { frames := 2, cells := 0, slots := 0, locals := 42 } G cs [.ref (ad 2)] (zw cs ad σ tl) (zw cs ad (f_X2_countHandOver σ ) tl) 0 0 := by
  intro sz
  refine Met.ofW (cc := cX2_countHandOver) (maxL := 2) (ret := none) (by decide) rfl ?_
  intro p e s m args below meth c s₁ B hml hv
  obtain ⟨rfl, hsz, hP, hD0, hE⟩ := hv
  have hx := B.exec
  have hb := B.bytes
  have hr := B.returns
  have hts := atoms_spec (ws := wsX2_countHandOver) B.pre
  have hown : s.vm.findClass RX2 = some m.cls := findClass_of_methodNamed B.named
  have hlocks := B.notSynchronized
  subst hsz
  have hD := hD0.self (sz := s.heap.size)
  have hA : ∀ q : Nat, s.heap.size ≤ q → (va_A (zw cs ad σ tl) s.heap.size) q := fun q h => Or.inr h
  generalize va_A (zw cs ad σ tl) s.heap.size = A at hD hE hA ⊢
  have hS : va_S A s.heap s.heap [] := va_S.rf
  have hl := lv_entry ([.ref (ad 2)]) (n := 2) (Nat.le_of_ble_eq_true rfl)
  rw [lg_entry_eq]
  generalize (lg_sl ([.ref (ad 2)]) ++ List.replicate (2 - (lg_sl ([.ref (ad 2)])).length) Slot.unset).toArray = ls at hl ⊢
  have hl : lv_has ls 2 [(0, .ref (ad 2))] := hl
  generalize hR : (f_X2_countHandOver σ ) = RV
  have hR := hR.symm
  unfold f_X2_countHandOver at hR
  obtain ⟨H, hH⟩ : ∃ z, z = s.heap := ⟨_, rfl⟩
  obtain ⟨locs, hlocs⟩ : ∃ z : List Loc, z = [] := ⟨_, rfl⟩
  rw [← hH] at hP
  have hS : va_S A s.heap H locs := by rw [hH, hlocs]; exact hS
  show W _ _ _ _ _ _ _ _ _ _ s.heap [] _ _ _ _
  rw [← hH, ← hlocs]
  clear hlocs
  refine lv_iconst (v := 0) hx hb dX2_countHandOver_0 (by decide) ?_
  refine lv_istore_n (lv' := [(1, .int 0), (0, .ref (ad 2))]) hx hb dX2_countHandOver_1 rfl hl (by decide) rfl (fun ls hl => ?_)
  have loop_3 : ∀ (n k : Nat) (τ : zS) (x1 : Int32), x1 = nI (k) → k ≤ 60 → k + n = 61 → RV = L_X2_countHandOver_2 σ  n τ x1 → ∀ (H : Heap) (locs : List Loc), va_P G vwCl (zw cs ad τ tl) H → va_D A (zw cs ad τ tl) → va_S A s.heap H locs → ∀ ls : Array Slot, lv_has ls 2 [(0, .ref (ad 2)), (1, .int x1)] → W p l e (headSpec wsX2_countHandOver { frames := 2, cells := 0, slots := 0, locals := 42 }).room s m (List.toArray [.ref (ad 2)]) below meth c H locs 0 0 (MQ below (va_Qv (fun (_ : Unit) => True) (fun _ t => zPo G A (zw cs ad RV tl) t) A) (List.toArray [.ref (ad 2)]) s 0 0 A) (F0 m 2 ls []) := by
    intro n
    induction n with
    | zero => intro k τ x1 ex hk hn; omega
    | succ n ih =>
      intro k τ x1 ex hk hn hR H locs hP hD hS ls hl
      rw [L_X2_countHandOver_2] at hR
      refine lv_iload_n hx hb dX2_countHandOver_2 rfl (lv_at hl 1 rfl) ?_
      refine lv_bipush (v := 60) hx hb dX2_countHandOver_3 (by decide) ?_
      refine lv_icmp_ge (tgt := 32) hx hb dX2_countHandOver_5 (by decide) (fun c_1 => ?_) (fun c_1 => ?_)
      · have hR := hR.trans (if_pos c_1)
        have hR := hR.symm
        subst hR
        exact W.vret hx hb hr (fun t ht hW => ⟨⟨(), rfl, trivial, by rw [ht]; exact hP, hD⟩, hS.F ht⟩) hS.2.2 dX2_countHandOver_32
      · have hR := hR.trans (if_neg c_1)
        have hkB : k < 60 := zlt ex (by omega) (by decide) c_1
        refine lv_aload_n hx hb dX2_countHandOver_8 rfl (lv_at hl 0 rfl) ?_
        refine lv_iload_n hx hb dX2_countHandOver_9 rfl (lv_at hl 1 rfl) ?_
        refine zai (va_runV (As := [.int x1]) (rest := []) ⟨hx, hb, hml, hown, hts⟩ (c_X2_isOpen l G cs ad tl τ x1  H.size) (cwV 1 hts gX2_countHandOver_X2_isOpen rfl rfl rfl (by decide +kernel) ⟨Nat.le_of_ble_eq_true rfl, Nat.le_of_ble_eq_true rfl⟩) (zpv hE hP hD hS hA (zg_2 cs ad τ tl) rfl) rfl rfl hl.1 rfl (lv_room (Nat.le_of_ble_eq_true rfl)) dX2_countHandOver_10 ⟨Nat.le_of_ble_eq_true rfl, Nat.le_of_ble_eq_true rfl⟩) hD hS hA (fun H locs hP hD hS => ?_)
        refine lv_if_eq (tgt := 26) hx hb dX2_countHandOver_13 (by decide) (fun c_2 => ?_) (fun c_2 => ?_)
        · have hR := hR.trans (if_pos c_2)
          refine lv_iinc (v := (x1 + 1)) (lv' := [(1, .int (x1 + 1)), (0, .ref (ad 2))]) hx hb dX2_countHandOver_26 hl (k := 1) rfl rfl (by decide) rfl (fun ls hl => ?_)
          refine lv_goto (tgt := 2) hx hb dX2_countHandOver_29 (by decide) ?_
          exact ih (k + 1) τ (x1 + 1) (by rw [ex]; exact nI_1 _) (by omega) (by omega)  hR H locs hP hD hS ls (lv_sub hl [1, 0] rfl)
        · have hR := hR.trans (if_neg c_2)
          refine lv_aload_n hx hb dX2_countHandOver_16 rfl (lv_at hl 0 rfl) ?_
          refine va_get (D := G) (ci := 4) (v := .ref (ad 7)) (C := RX2) (T := TX2) (N := 9) hx hb hts iX2_countHandOver hown hE.1 hP 2 (zg_2 cs ad τ tl) rfl 4 (by decide) (hts (.fieldLink RX2 26 "HandoverDeck$Log" "handOvers" "[I") (by decide +kernel)) (fun _ h9 => h9) rfl dX2_countHandOver_17 ?_
          refine lv_iload_n hx hb dX2_countHandOver_20 rfl (lv_at hl 1 rfl) ?_
          refine lv_dup2_11 hx hb dX2_countHandOver_21 rfl rfl ?_
          refine z_iald (v := (τ 7 x1.toNatClampNeg)) hx hb hE hP (zg_7 cs ad τ tl) (vin_X2_isOpen c_2) rfl dX2_countHandOver_22 ?_
          refine lv_iconst (v := 1) hx hb dX2_countHandOver_23 (by decide) ?_
          refine lv_iadd hx hb dX2_countHandOver_24 ?_
          refine z_iast hx hb hE hP hD hS (zg_7 cs ad τ tl) (zb_7 cs ad τ tl) (vin_X2_isOpen c_2) dX2_countHandOver_25 (fun H locs hP hD hS => ?_)
          refine lv_iinc (v := (x1 + 1)) (lv' := [(1, .int (x1 + 1)), (0, .ref (ad 2))]) hx hb dX2_countHandOver_26 hl (k := 1) rfl rfl (by decide) rfl (fun ls hl => ?_)
          refine lv_goto (tgt := 2) hx hb dX2_countHandOver_29 (by decide) ?_
          exact ih (k + 1) (zs τ 7 x1.toNatClampNeg ((τ 7 x1.toNatClampNeg) + 1)) (x1 + 1) (by rw [ex]; exact nI_1 _) (by omega) (by omega)  hR H locs hP hD hS ls (lv_sub hl [1, 0] rfl)
  exact loop_3 61 0 σ 0 nI_0.symm (by omega) (by omega)  hR H locs hP hD hS ls (lv_sub hl [1, 0] rfl)
def L_X2_openLineAt_4 (σ : zS) (a1 : Int32) : Nat → Int32 → Int32 → Int32
  | 0, _, _ => 0
  | n + 1, x2, x3 => (if 60 ≤ x3 then (-1) else (if (f_X2_isOpen σ x3) = 0 then (L_X2_openLineAt_4 σ a1 n x2 (x3 + 1)) else (if x2 = a1 then x3 else (L_X2_openLineAt_4 σ a1 n (x2 + 1) (x3 + 1)))))
def f_X2_openLineAt (σ : zS) (a1 : Int32) : Int32 := (L_X2_openLineAt_4 σ a1 61 0 0)
set_option maxRecDepth 100000 in
theorem c_X2_openLineAt (l : Launch) (G : va_G) (cs : Nat → ClassId) (ad : Nat → Nat) (tl : va_W) (σ : zS) (a1 : Int32)  : zMi l yX2_openLineAt wsX2_openLineAt { frames := 2, cells := 0, slots := 0, locals := 42 } G cs [.ref (ad 2), .int a1] (zw cs ad σ tl) (f_X2_openLineAt σ a1) (zw cs ad σ tl) 0 0 := by
  intro sz
  refine Met.ofW (cc := cX2_openLineAt) (maxL := 4) (ret := (some .int)) (by decide) rfl ?_
  intro p e s m args below meth c s₁ B hml hv
  obtain ⟨rfl, hsz, hP, hD0, hE⟩ := hv
  have hx := B.exec
  have hb := B.bytes
  have hr := B.returns
  have hts := atoms_spec (ws := wsX2_openLineAt) B.pre
  have hown : s.vm.findClass RX2 = some m.cls := findClass_of_methodNamed B.named
  have hlocks := B.notSynchronized
  subst hsz
  have hD := hD0.self (sz := s.heap.size)
  have hA : ∀ q : Nat, s.heap.size ≤ q → (va_A (zw cs ad σ tl) s.heap.size) q := fun q h => Or.inr h
  generalize va_A (zw cs ad σ tl) s.heap.size = A at hD hE hA ⊢
  have hS : va_S A s.heap s.heap [] := va_S.rf
  have hl := lv_entry ([.ref (ad 2), .int a1]) (n := 4) (Nat.le_of_ble_eq_true rfl)
  rw [lg_entry_eq]
  generalize (lg_sl ([.ref (ad 2), .int a1]) ++ List.replicate (4 - (lg_sl ([.ref (ad 2), .int a1])).length) Slot.unset).toArray = ls at hl ⊢
  have hl : lv_has ls 4 [(0, .ref (ad 2)), (1, .int a1)] := hl
  generalize hR : (f_X2_openLineAt σ a1) = RV
  have hR := hR.symm
  unfold f_X2_openLineAt at hR
  obtain ⟨H, hH⟩ : ∃ z, z = s.heap := ⟨_, rfl⟩
  obtain ⟨locs, hlocs⟩ : ∃ z : List Loc, z = [] := ⟨_, rfl⟩
  rw [← hH] at hP
  have hS : va_S A s.heap H locs := by rw [hH, hlocs]; exact hS
  show W _ _ _ _ _ _ _ _ _ _ s.heap [] _ _ _ _
  rw [← hH, ← hlocs]
  clear hlocs
  refine lv_iconst (v := 0) hx hb dX2_openLineAt_0 (by decide) ?_
  refine lv_istore_n (lv' := [(2, .int 0), (0, .ref (ad 2)), (1, .int a1)]) hx hb dX2_openLineAt_1 rfl hl (by decide) rfl (fun ls hl => ?_)
  refine lv_iconst (v := 0) hx hb dX2_openLineAt_2 (by decide) ?_
  refine lv_istore_n (lv' := [(3, .int 0), (2, .int 0), (0, .ref (ad 2)), (1, .int a1)]) hx hb dX2_openLineAt_3 rfl hl (by decide) rfl (fun ls hl => ?_)
  have loop_4 : ∀ (n k : Nat) (x2 : Int32) (x3 : Int32), x3 = nI (k) → k ≤ 60 → k + n = 61 → RV = L_X2_openLineAt_4 σ a1 n x2 x3 → ∀ (H : Heap) (locs : List Loc), va_P G vwCl (zw cs ad σ tl) H → va_D A (zw cs ad σ tl) → va_S A s.heap H locs → ∀ ls : Array Slot, lv_has ls 4 [(0, .ref (ad 2)), (1, .int a1), (2, .int x2), (3, .int x3)] → W p l e (headSpec wsX2_openLineAt { frames := 2, cells := 0, slots := 0, locals := 42 }).room s m (List.toArray [.ref (ad 2), .int a1]) below meth c H locs 0 0 (MQ below (va_Qi (fun (r : Int32) (_ : Unit) => r = RV) (fun _ t => zPo G A (zw cs ad σ tl) t) A) (List.toArray [.ref (ad 2), .int a1]) s 0 0 A) (F0 m 4 ls []) := by
    intro n
    induction n with
    | zero => intro k  x2 x3 ex hk hn; omega
    | succ n ih =>
      intro k  x2 x3 ex hk hn hR H locs hP hD hS ls hl
      rw [L_X2_openLineAt_4] at hR
      refine lv_iload_n hx hb dX2_openLineAt_4 rfl (lv_at hl 3 rfl) ?_
      refine lv_bipush (v := 60) hx hb dX2_openLineAt_5 (by decide) ?_
      refine lv_icmp_ge (tgt := 34) hx hb dX2_openLineAt_7 (by decide) (fun c_1 => ?_) (fun c_1 => ?_)
      · have hR := hR.trans (if_pos c_1)
        refine lv_iconst (v := (-1)) hx hb dX2_openLineAt_34 (by decide) ?_
        have hR := hR.symm
        subst hR
        exact W.iret (v := (-1)) hx hb hr (fun t ht hW => ⟨⟨_, (), rfl, rfl, by rw [ht]; exact hP, hD⟩, hS.F ht⟩) hS.2.2 dX2_openLineAt_35
      · have hR := hR.trans (if_neg c_1)
        have hkB : k < 60 := zlt ex (by omega) (by decide) c_1
        refine lv_aload_n hx hb dX2_openLineAt_10 rfl (lv_at hl 0 rfl) ?_
        refine lv_iload_n hx hb dX2_openLineAt_11 rfl (lv_at hl 3 rfl) ?_
        refine zai (va_runV (As := [.int x3]) (rest := []) ⟨hx, hb, hml, hown, hts⟩ (c_X2_isOpen l G cs ad tl σ x3  H.size) (cwV 1 hts gX2_openLineAt_X2_isOpen rfl rfl rfl (by decide +kernel) ⟨Nat.le_of_ble_eq_true rfl, Nat.le_of_ble_eq_true rfl⟩) (zpv hE hP hD hS hA (zg_2 cs ad σ tl) rfl) rfl rfl hl.1 rfl (lv_room (Nat.le_of_ble_eq_true rfl)) dX2_openLineAt_12 ⟨Nat.le_of_ble_eq_true rfl, Nat.le_of_ble_eq_true rfl⟩) hD hS hA (fun H locs hP hD hS => ?_)
        refine lv_if_eq (tgt := 28) hx hb dX2_openLineAt_15 (by decide) (fun c_2 => ?_) (fun c_2 => ?_)
        · have hR := hR.trans (if_pos c_2)
          refine lv_iinc (v := (x3 + 1)) (lv' := [(3, .int (x3 + 1)), (0, .ref (ad 2)), (1, .int a1), (2, .int x2)]) hx hb dX2_openLineAt_28 hl (k := 3) rfl rfl (by decide) rfl (fun ls hl => ?_)
          refine lv_goto (tgt := 4) hx hb dX2_openLineAt_31 (by decide) ?_
          exact ih (k + 1)  x2 (x3 + 1) (by rw [ex]; exact nI_1 _) (by omega) (by omega)  hR H locs hP hD hS ls (lv_sub hl [1, 2, 3, 0] rfl)
        · have hR := hR.trans (if_neg c_2)
          refine lv_iload_n hx hb dX2_openLineAt_18 rfl (lv_at hl 2 rfl) ?_
          refine lv_iload_n hx hb dX2_openLineAt_19 rfl (lv_at hl 1 rfl) ?_
          refine lv_icmp_ne (tgt := 25) hx hb dX2_openLineAt_20 (by decide) (fun c_3 => ?_) (fun c_3 => ?_)
          · have hR := hR.trans (if_neg c_3)
            refine lv_iinc (v := (x2 + 1)) (lv' := [(2, .int (x2 + 1)), (0, .ref (ad 2)), (1, .int a1), (3, .int x3)]) hx hb dX2_openLineAt_25 hl (k := 2) rfl rfl (by decide) rfl (fun ls hl => ?_)
            refine lv_iinc (v := (x3 + 1)) (lv' := [(3, .int (x3 + 1)), (2, .int (x2 + 1)), (0, .ref (ad 2)), (1, .int a1)]) hx hb dX2_openLineAt_28 hl (k := 3) rfl rfl (by decide) rfl (fun ls hl => ?_)
            refine lv_goto (tgt := 4) hx hb dX2_openLineAt_31 (by decide) ?_
            exact ih (k + 1)  (x2 + 1) (x3 + 1) (by rw [ex]; exact nI_1 _) (by omega) (by omega)  hR H locs hP hD hS ls (lv_sub hl [2, 3, 1, 0] rfl)
          · have hR := hR.trans (if_pos c_3)
            refine lv_iload_n hx hb dX2_openLineAt_23 rfl (lv_at hl 3 rfl) ?_
            have hR := hR.symm
            subst hR
            exact W.iret (v := x3) hx hb hr (fun t ht hW => ⟨⟨_, (), rfl, rfl, by rw [ht]; exact hP, hD⟩, hS.F ht⟩) hS.2.2 dX2_openLineAt_24
  exact loop_4 61 0  0 0 nI_0.symm (by omega) (by omega)  hR H locs hP hD hS ls (lv_sub hl [2, 3, 1, 0] rfl)
def L_X2_sumOfAges_4 (σ : zS) (a1 : Int32) : Nat → Int32 → Int32 → Int32
  | 0, _, _ => 0
  | n + 1, x2, x3 => (if 60 ≤ x3 then x2 else (if (f_X2_isOpen σ x3) = 0 then (L_X2_sumOfAges_4 σ a1 n x2 (x3 + 1)) else (L_X2_sumOfAges_4 σ a1 n (x2 + (a1 - (σ 4 x3.toNatClampNeg))) (x3 + 1))))
def f_X2_sumOfAges (σ : zS) (a1 : Int32) : Int32 := (L_X2_sumOfAges_4 σ a1 61 0 0)
theorem iX2_sumOfAges : ∀ w ∈ u_ws RX2 TX2 9, w ∈ wsX2_sumOfAges := by decide +kernel
set_option maxRecDepth 100000 in
theorem c_X2_sumOfAges (l : Launch) (G : va_G) (cs : Nat → ClassId) (ad : Nat → Nat) (tl : va_W) (σ : zS) (a1 : Int32)  : zMi l yX2_sumOfAges wsX2_sumOfAges { frames := 2, cells := 0, slots := 0, locals := 42 } G cs [.ref (ad 2), .int a1] (zw cs ad σ tl) (f_X2_sumOfAges σ a1) (zw cs ad σ tl) 0 0 := by
  intro sz
  refine Met.ofW (cc := cX2_sumOfAges) (maxL := 4) (ret := (some .int)) (by decide) rfl ?_
  intro p e s m args below meth c s₁ B hml hv
  obtain ⟨rfl, hsz, hP, hD0, hE⟩ := hv
  have hx := B.exec
  have hb := B.bytes
  have hr := B.returns
  have hts := atoms_spec (ws := wsX2_sumOfAges) B.pre
  have hown : s.vm.findClass RX2 = some m.cls := findClass_of_methodNamed B.named
  have hlocks := B.notSynchronized
  subst hsz
  have hD := hD0.self (sz := s.heap.size)
  have hA : ∀ q : Nat, s.heap.size ≤ q → (va_A (zw cs ad σ tl) s.heap.size) q := fun q h => Or.inr h
  generalize va_A (zw cs ad σ tl) s.heap.size = A at hD hE hA ⊢
  have hS : va_S A s.heap s.heap [] := va_S.rf
  have hl := lv_entry ([.ref (ad 2), .int a1]) (n := 4) (Nat.le_of_ble_eq_true rfl)
  rw [lg_entry_eq]
  generalize (lg_sl ([.ref (ad 2), .int a1]) ++ List.replicate (4 - (lg_sl ([.ref (ad 2), .int a1])).length) Slot.unset).toArray = ls at hl ⊢
  have hl : lv_has ls 4 [(0, .ref (ad 2)), (1, .int a1)] := hl
  generalize hR : (f_X2_sumOfAges σ a1) = RV
  have hR := hR.symm
  unfold f_X2_sumOfAges at hR
  obtain ⟨H, hH⟩ : ∃ z, z = s.heap := ⟨_, rfl⟩
  obtain ⟨locs, hlocs⟩ : ∃ z : List Loc, z = [] := ⟨_, rfl⟩
  rw [← hH] at hP
  have hS : va_S A s.heap H locs := by rw [hH, hlocs]; exact hS
  show W _ _ _ _ _ _ _ _ _ _ s.heap [] _ _ _ _
  rw [← hH, ← hlocs]
  clear hlocs
  refine lv_iconst (v := 0) hx hb dX2_sumOfAges_0 (by decide) ?_
  refine lv_istore_n (lv' := [(2, .int 0), (0, .ref (ad 2)), (1, .int a1)]) hx hb dX2_sumOfAges_1 rfl hl (by decide) rfl (fun ls hl => ?_)
  refine lv_iconst (v := 0) hx hb dX2_sumOfAges_2 (by decide) ?_
  refine lv_istore_n (lv' := [(3, .int 0), (2, .int 0), (0, .ref (ad 2)), (1, .int a1)]) hx hb dX2_sumOfAges_3 rfl hl (by decide) rfl (fun ls hl => ?_)
  have loop_3 : ∀ (n k : Nat) (x2 : Int32) (x3 : Int32), x3 = nI (k) → k ≤ 60 → k + n = 61 → RV = L_X2_sumOfAges_4 σ a1 n x2 x3 → ∀ (H : Heap) (locs : List Loc), va_P G vwCl (zw cs ad σ tl) H → va_D A (zw cs ad σ tl) → va_S A s.heap H locs → ∀ ls : Array Slot, lv_has ls 4 [(0, .ref (ad 2)), (1, .int a1), (2, .int x2), (3, .int x3)] → W p l e (headSpec wsX2_sumOfAges { frames := 2, cells := 0, slots := 0, locals := 42 }).room s m (List.toArray [.ref (ad 2), .int a1]) below meth c H locs 0 0 (MQ below (va_Qi (fun (r : Int32) (_ : Unit) => r = RV) (fun _ t => zPo G A (zw cs ad σ tl) t) A) (List.toArray [.ref (ad 2), .int a1]) s 0 0 A) (F0 m 4 ls []) := by
    intro n
    induction n with
    | zero => intro k  x2 x3 ex hk hn; omega
    | succ n ih =>
      intro k  x2 x3 ex hk hn hR H locs hP hD hS ls hl
      rw [L_X2_sumOfAges_4] at hR
      refine lv_iload_n hx hb dX2_sumOfAges_4 rfl (lv_at hl 3 rfl) ?_
      refine lv_bipush (v := 60) hx hb dX2_sumOfAges_5 (by decide) ?_
      refine lv_icmp_ge (tgt := 35) hx hb dX2_sumOfAges_7 (by decide) (fun c_1 => ?_) (fun c_1 => ?_)
      · have hR := hR.trans (if_pos c_1)
        refine lv_iload_n hx hb dX2_sumOfAges_35 rfl (lv_at hl 2 rfl) ?_
        have hR := hR.symm
        subst hR
        exact W.iret (v := x2) hx hb hr (fun t ht hW => ⟨⟨_, (), rfl, rfl, by rw [ht]; exact hP, hD⟩, hS.F ht⟩) hS.2.2 dX2_sumOfAges_36
      · have hR := hR.trans (if_neg c_1)
        have hkB : k < 60 := zlt ex (by omega) (by decide) c_1
        refine lv_aload_n hx hb dX2_sumOfAges_10 rfl (lv_at hl 0 rfl) ?_
        refine lv_iload_n hx hb dX2_sumOfAges_11 rfl (lv_at hl 3 rfl) ?_
        refine zai (va_runV (As := [.int x3]) (rest := []) ⟨hx, hb, hml, hown, hts⟩ (c_X2_isOpen l G cs ad tl σ x3  H.size) (cwV 1 hts gX2_sumOfAges_X2_isOpen rfl rfl rfl (by decide +kernel) ⟨Nat.le_of_ble_eq_true rfl, Nat.le_of_ble_eq_true rfl⟩) (zpv hE hP hD hS hA (zg_2 cs ad σ tl) rfl) rfl rfl hl.1 rfl (lv_room (Nat.le_of_ble_eq_true rfl)) dX2_sumOfAges_12 ⟨Nat.le_of_ble_eq_true rfl, Nat.le_of_ble_eq_true rfl⟩) hD hS hA (fun H locs hP hD hS => ?_)
        refine lv_if_eq (tgt := 29) hx hb dX2_sumOfAges_15 (by decide) (fun c_2 => ?_) (fun c_2 => ?_)
        · have hR := hR.trans (if_pos c_2)
          refine lv_iinc (v := (x3 + 1)) (lv' := [(3, .int (x3 + 1)), (0, .ref (ad 2)), (1, .int a1), (2, .int x2)]) hx hb dX2_sumOfAges_29 hl (k := 3) rfl rfl (by decide) rfl (fun ls hl => ?_)
          refine lv_goto (tgt := 4) hx hb dX2_sumOfAges_32 (by decide) ?_
          exact ih (k + 1)  x2 (x3 + 1) (by rw [ex]; exact nI_1 _) (by omega) (by omega)  hR H locs hP hD hS ls (lv_sub hl [1, 2, 3, 0] rfl)
        · have hR := hR.trans (if_neg c_2)
          refine lv_iload_n hx hb dX2_sumOfAges_18 rfl (lv_at hl 2 rfl) ?_
          refine lv_iload_n hx hb dX2_sumOfAges_19 rfl (lv_at hl 1 rfl) ?_
          refine lv_aload_n hx hb dX2_sumOfAges_20 rfl (lv_at hl 0 rfl) ?_
          refine va_get (D := G) (ci := 4) (v := .ref (ad 4)) (C := RX2) (T := TX2) (N := 9) hx hb hts iX2_sumOfAges hown hE.1 hP 2 (zg_2 cs ad σ tl) rfl 1 (by decide) (hts (.fieldLink RX2 15 "HandoverDeck$Log" "openedAt" "[I") (by decide +kernel)) (fun _ h9 => h9) rfl dX2_sumOfAges_21 ?_
          refine lv_iload_n hx hb dX2_sumOfAges_24 rfl (lv_at hl 3 rfl) ?_
          refine z_iald (v := (σ 4 x3.toNatClampNeg)) hx hb hE hP (zg_4 cs ad σ tl) (vin_X2_isOpen c_2) rfl dX2_sumOfAges_25 ?_
          refine lv_isub hx hb dX2_sumOfAges_26 ?_
          refine lv_iadd hx hb dX2_sumOfAges_27 ?_
          refine lv_istore_n (lv' := [(2, .int (x2 + (a1 - (σ 4 x3.toNatClampNeg)))), (0, .ref (ad 2)), (1, .int a1), (3, .int x3)]) hx hb dX2_sumOfAges_28 rfl hl (by decide) rfl (fun ls hl => ?_)
          refine lv_iinc (v := (x3 + 1)) (lv' := [(3, .int (x3 + 1)), (2, .int (x2 + (a1 - (σ 4 x3.toNatClampNeg)))), (0, .ref (ad 2)), (1, .int a1)]) hx hb dX2_sumOfAges_29 hl (k := 3) rfl rfl (by decide) rfl (fun ls hl => ?_)
          refine lv_goto (tgt := 4) hx hb dX2_sumOfAges_32 (by decide) ?_
          exact ih (k + 1)  (x2 + (a1 - (σ 4 x3.toNatClampNeg))) (x3 + 1) (by rw [ex]; exact nI_1 _) (by omega) (by omega)  hR H locs hP hD hS ls (lv_sub hl [2, 3, 1, 0] rfl)
  exact loop_3 61 0  0 0 nI_0.symm (by omega) (by omega)  hR H locs hP hD hS ls (lv_sub hl [2, 3, 1, 0] rfl)
def f_X3_isFull (σ : zS)  : Int32 := (if (σ 23 3) < 8 then 0 else 1)
theorem iX3_isFull : ∀ w ∈ u_ws RX3 TX3 4, w ∈ wsX3_isFull := by decide +kernel
set_option maxRecDepth 100000 in
theorem c_X3_isFull (l : Launch) (G : va_G) (cs : Nat → ClassId) (ad : Nat → Nat) (tl : va_W) (σ : zS)   : zMi l yX3_isFull wsX3_isFull { frames := 0, cells := 0, slots := 0, locals := 0 } G cs [.ref (ad 23)] (zw cs ad σ tl) (f_X3_isFull σ ) (zw cs ad σ tl) 0 0 := by
  intro sz
  refine Met.ofW (cc := cX3_isFull) (maxL := 1) (ret := (some .boolean)) (by decide) rfl ?_
  intro p e s m args below meth c s₁ B hml hv
  obtain ⟨rfl, hsz, hP, hD0, hE⟩ := hv
  have hx := B.exec
  have hb := B.bytes
  have hr := B.returns
  have hts := atoms_spec (ws := wsX3_isFull) B.pre
  have hown : s.vm.findClass RX3 = some m.cls := findClass_of_methodNamed B.named
  have hlocks := B.notSynchronized
  subst hsz
  have hD := hD0.self (sz := s.heap.size)
  have hA : ∀ q : Nat, s.heap.size ≤ q → (va_A (zw cs ad σ tl) s.heap.size) q := fun q h => Or.inr h
  generalize va_A (zw cs ad σ tl) s.heap.size = A at hD hE hA ⊢
  have hS : va_S A s.heap s.heap [] := va_S.rf
  have hl := lv_entry ([.ref (ad 23)]) (n := 1) (Nat.le_of_ble_eq_true rfl)
  rw [lg_entry_eq]
  generalize (lg_sl ([.ref (ad 23)]) ++ List.replicate (1 - (lg_sl ([.ref (ad 23)])).length) Slot.unset).toArray = ls at hl ⊢
  have hl : lv_has ls 1 [(0, .ref (ad 23))] := hl
  generalize hR : (f_X3_isFull σ ) = RV
  have hR := hR.symm
  unfold f_X3_isFull at hR
  obtain ⟨H, hH⟩ : ∃ z, z = s.heap := ⟨_, rfl⟩
  obtain ⟨locs, hlocs⟩ : ∃ z : List Loc, z = [] := ⟨_, rfl⟩
  rw [← hH] at hP
  have hS : va_S A s.heap H locs := by rw [hH, hlocs]; exact hS
  show W _ _ _ _ _ _ _ _ _ _ s.heap [] _ _ _ _
  rw [← hH, ← hlocs]
  clear hlocs
  refine lv_aload_n hx hb dX3_isFull_0 rfl (lv_at hl 0 rfl) ?_
  refine va_get (D := G) (ci := 5) (v := .int (σ 23 3)) (C := RX3) (T := TX3) (N := 4) hx hb hts iX3_isFull hown hE.1 hP 23 (zg_23 cs ad σ tl) rfl 3 (by decide) (hts (.fieldLink RX3 22 "HandoverDeck$PermitRack" "permitCount" "I") (by decide +kernel)) (fun _ h9 => h9) rfl dX3_isFull_1 ?_
  refine lv_bipush (v := 8) hx hb dX3_isFull_4 (by decide) ?_
  refine lv_icmp_lt (tgt := 13) hx hb dX3_isFull_6 (by decide) (fun c_1 => ?_) (fun c_1 => ?_)
  · have hR := hR.trans (if_pos c_1)
    refine lv_iconst (v := 0) hx hb dX3_isFull_13 (by decide) ?_
    have hR := hR.symm
    subst hR
    exact W.zret (v := 0) hx hb hr rfl (fun t ht hW => ⟨⟨_, (), rfl, rfl, by rw [ht]; exact hP, hD⟩, hS.F ht⟩) hS.2.2 dX3_isFull_14
  · have hR := hR.trans (if_neg c_1)
    refine lv_iconst (v := 1) hx hb dX3_isFull_9 (by decide) ?_
    refine lv_goto (tgt := 14) hx hb dX3_isFull_10 (by decide) ?_
    have hR := hR.symm
    subst hR
    exact W.zret (v := 1) hx hb hr rfl (fun t ht hW => ⟨⟨_, (), rfl, rfl, by rw [ht]; exact hP, hD⟩, hS.F ht⟩) hS.2.2 dX3_isFull_14
theorem nar_X3_isFull (σ : zS)  : narrow .boolean (.int (f_X3_isFull σ )) = .int (f_X3_isFull σ ) := by unfold f_X3_isFull; (repeat' split) <;> rfl
def f_X3_hasPermit (σ : zS) (a1 : Int32) : Int32 := (if a1 < 0 then 0 else (if (σ 23 3) ≤ a1 then 0 else (if 8 ≤ a1 then 0 else 1)))
theorem iX3_hasPermit : ∀ w ∈ u_ws RX3 TX3 4, w ∈ wsX3_hasPermit := by decide +kernel
set_option maxRecDepth 100000 in
theorem c_X3_hasPermit (l : Launch) (G : va_G) (cs : Nat → ClassId) (ad : Nat → Nat) (tl : va_W) (σ : zS) (a1 : Int32)  : zMi l yX3_hasPermit wsX3_hasPermit { frames := 0, cells := 0, slots := 0, locals := 0 } G cs [.ref (ad 23), .int a1] (zw cs ad σ tl) (f_X3_hasPermit σ a1) (zw cs ad σ tl) 0 0 := by
  intro sz
  refine Met.ofW (cc := cX3_hasPermit) (maxL := 2) (ret := (some .boolean)) (by decide) rfl ?_
  intro p e s m args below meth c s₁ B hml hv
  obtain ⟨rfl, hsz, hP, hD0, hE⟩ := hv
  have hx := B.exec
  have hb := B.bytes
  have hr := B.returns
  have hts := atoms_spec (ws := wsX3_hasPermit) B.pre
  have hown : s.vm.findClass RX3 = some m.cls := findClass_of_methodNamed B.named
  have hlocks := B.notSynchronized
  subst hsz
  have hD := hD0.self (sz := s.heap.size)
  have hA : ∀ q : Nat, s.heap.size ≤ q → (va_A (zw cs ad σ tl) s.heap.size) q := fun q h => Or.inr h
  generalize va_A (zw cs ad σ tl) s.heap.size = A at hD hE hA ⊢
  have hS : va_S A s.heap s.heap [] := va_S.rf
  have hl := lv_entry ([.ref (ad 23), .int a1]) (n := 2) (Nat.le_of_ble_eq_true rfl)
  rw [lg_entry_eq]
  generalize (lg_sl ([.ref (ad 23), .int a1]) ++ List.replicate (2 - (lg_sl ([.ref (ad 23), .int a1])).length) Slot.unset).toArray = ls at hl ⊢
  have hl : lv_has ls 2 [(0, .ref (ad 23)), (1, .int a1)] := hl
  generalize hR : (f_X3_hasPermit σ a1) = RV
  have hR := hR.symm
  unfold f_X3_hasPermit at hR
  obtain ⟨H, hH⟩ : ∃ z, z = s.heap := ⟨_, rfl⟩
  obtain ⟨locs, hlocs⟩ : ∃ z : List Loc, z = [] := ⟨_, rfl⟩
  rw [← hH] at hP
  have hS : va_S A s.heap H locs := by rw [hH, hlocs]; exact hS
  show W _ _ _ _ _ _ _ _ _ _ s.heap [] _ _ _ _
  rw [← hH, ← hlocs]
  clear hlocs
  refine lv_iload_n hx hb dX3_hasPermit_0 rfl (lv_at hl 1 rfl) ?_
  refine lv_if_lt (tgt := 22) hx hb dX3_hasPermit_1 (by decide) (fun c_1 => ?_) (fun c_1 => ?_)
  · have hR := hR.trans (if_pos c_1)
    refine lv_iconst (v := 0) hx hb dX3_hasPermit_22 (by decide) ?_
    have hR := hR.symm
    subst hR
    exact W.zret (v := 0) hx hb hr rfl (fun t ht hW => ⟨⟨_, (), rfl, rfl, by rw [ht]; exact hP, hD⟩, hS.F ht⟩) hS.2.2 dX3_hasPermit_23
  · have hR := hR.trans (if_neg c_1)
    refine lv_iload_n hx hb dX3_hasPermit_4 rfl (lv_at hl 1 rfl) ?_
    refine lv_aload_n hx hb dX3_hasPermit_5 rfl (lv_at hl 0 rfl) ?_
    refine va_get (D := G) (ci := 5) (v := .int (σ 23 3)) (C := RX3) (T := TX3) (N := 4) hx hb hts iX3_hasPermit hown hE.1 hP 23 (zg_23 cs ad σ tl) rfl 3 (by decide) (hts (.fieldLink RX3 22 "HandoverDeck$PermitRack" "permitCount" "I") (by decide +kernel)) (fun _ h9 => h9) rfl dX3_hasPermit_6 ?_
    refine lv_icmp_ge (tgt := 22) hx hb dX3_hasPermit_9 (by decide) (fun c_2 => ?_) (fun c_2 => ?_)
    · have hR := hR.trans (if_pos c_2)
      refine lv_iconst (v := 0) hx hb dX3_hasPermit_22 (by decide) ?_
      have hR := hR.symm
      subst hR
      exact W.zret (v := 0) hx hb hr rfl (fun t ht hW => ⟨⟨_, (), rfl, rfl, by rw [ht]; exact hP, hD⟩, hS.F ht⟩) hS.2.2 dX3_hasPermit_23
    · have hR := hR.trans (if_neg c_2)
      refine lv_iload_n hx hb dX3_hasPermit_12 rfl (lv_at hl 1 rfl) ?_
      refine lv_bipush (v := 8) hx hb dX3_hasPermit_13 (by decide) ?_
      refine lv_icmp_ge (tgt := 22) hx hb dX3_hasPermit_15 (by decide) (fun c_3 => ?_) (fun c_3 => ?_)
      · have hR := hR.trans (if_pos c_3)
        refine lv_iconst (v := 0) hx hb dX3_hasPermit_22 (by decide) ?_
        have hR := hR.symm
        subst hR
        exact W.zret (v := 0) hx hb hr rfl (fun t ht hW => ⟨⟨_, (), rfl, rfl, by rw [ht]; exact hP, hD⟩, hS.F ht⟩) hS.2.2 dX3_hasPermit_23
      · have hR := hR.trans (if_neg c_3)
        refine lv_iconst (v := 1) hx hb dX3_hasPermit_18 (by decide) ?_
        refine lv_goto (tgt := 23) hx hb dX3_hasPermit_19 (by decide) ?_
        have hR := hR.symm
        subst hR
        exact W.zret (v := 1) hx hb hr rfl (fun t ht hW => ⟨⟨_, (), rfl, rfl, by rw [ht]; exact hP, hD⟩, hS.F ht⟩) hS.2.2 dX3_hasPermit_23
theorem nar_X3_hasPermit (σ : zS) (a1 : Int32) : narrow .boolean (.int (f_X3_hasPermit σ a1)) = .int (f_X3_hasPermit σ a1) := by unfold f_X3_hasPermit; (repeat' split) <;> rfl
theorem vin_X3_hasPermit {σ : zS} {a1 : Int32} (h : ¬ (f_X3_hasPermit σ a1) = 0) : vp_in a1 8 := by
  unfold f_X3_hasPermit at h
  (repeat' split at h) <;> first | exact absurd rfl h | exact vin_rg (by assumption) (by assumption) (by decide)
def f_X3_append (σ : zS) (a1 : Int32) (a2 : Int32) : Int32 × zS := (if (f_X3_hasPermit (zs σ 23 3 ((σ 23 3) + 1)) (σ 23 3)) = 0 then ((σ 23 3), (zs σ 23 3 ((σ 23 3) + 1))) else ((σ 23 3), (zs (zs (zs (zs σ 23 3 ((σ 23 3) + 1)) 24 (σ 23 3).toNatClampNeg a1) 25 (σ 23 3).toNatClampNeg a2) 26 (σ 23 3).toNatClampNeg 1)))
theorem iX3_append : ∀ w ∈ u_ws RX3 TX3 4, w ∈ wsX3_append := by decide +kernel
set_option maxRecDepth 100000 in
theorem c_X3_append (l : Launch) (G : va_G) (cs : Nat → ClassId) (ad : Nat → Nat) (tl : va_W) (σ : zS) (a1 : Int32) (a2 : Int32)  : zMi l yX3_append wsX3_append { frames := 1, cells := 0, slots := 0, locals := 21 } G cs [.ref (ad 23), .int a1, .int a2] (zw cs ad σ tl) (f_X3_append σ a1 a2).1 (zw cs ad (f_X3_append σ a1 a2).2 tl) 0 0 := by
  intro sz
  refine Met.ofW (cc := cX3_append) (maxL := 4) (ret := (some .int)) (by decide) rfl ?_
  intro p e s m args below meth c s₁ B hml hv
  obtain ⟨rfl, hsz, hP, hD0, hE⟩ := hv
  have hx := B.exec
  have hb := B.bytes
  have hr := B.returns
  have hts := atoms_spec (ws := wsX3_append) B.pre
  have hown : s.vm.findClass RX3 = some m.cls := findClass_of_methodNamed B.named
  have hlocks := B.notSynchronized
  subst hsz
  have hD := hD0.self (sz := s.heap.size)
  have hA : ∀ q : Nat, s.heap.size ≤ q → (va_A (zw cs ad σ tl) s.heap.size) q := fun q h => Or.inr h
  generalize va_A (zw cs ad σ tl) s.heap.size = A at hD hE hA ⊢
  have hS : va_S A s.heap s.heap [] := va_S.rf
  have hl := lv_entry ([.ref (ad 23), .int a1, .int a2]) (n := 4) (Nat.le_of_ble_eq_true rfl)
  rw [lg_entry_eq]
  generalize (lg_sl ([.ref (ad 23), .int a1, .int a2]) ++ List.replicate (4 - (lg_sl ([.ref (ad 23), .int a1, .int a2])).length) Slot.unset).toArray = ls at hl ⊢
  have hl : lv_has ls 4 [(0, .ref (ad 23)), (1, .int a1), (2, .int a2)] := hl
  generalize hR : (f_X3_append σ a1 a2) = RV
  have hR := hR.symm
  unfold f_X3_append at hR
  obtain ⟨RVv, RVs⟩ := RV
  dsimp only
  obtain ⟨H, hH⟩ : ∃ z, z = s.heap := ⟨_, rfl⟩
  obtain ⟨locs, hlocs⟩ : ∃ z : List Loc, z = [] := ⟨_, rfl⟩
  rw [← hH] at hP
  have hS : va_S A s.heap H locs := by rw [hH, hlocs]; exact hS
  show W _ _ _ _ _ _ _ _ _ _ s.heap [] _ _ _ _
  rw [← hH, ← hlocs]
  clear hlocs
  refine lv_aload_n hx hb dX3_append_0 rfl (lv_at hl 0 rfl) ?_
  refine va_get (D := G) (ci := 5) (v := .int (σ 23 3)) (C := RX3) (T := TX3) (N := 4) hx hb hts iX3_append hown hE.1 hP 23 (zg_23 cs ad σ tl) rfl 3 (by decide) (hts (.fieldLink RX3 22 "HandoverDeck$PermitRack" "permitCount" "I") (by decide +kernel)) (fun _ h9 => h9) rfl dX3_append_1 ?_
  refine lv_istore_n (lv' := [(3, .int (σ 23 3)), (0, .ref (ad 23)), (1, .int a1), (2, .int a2)]) hx hb dX3_append_4 rfl hl (by decide) rfl (fun ls hl => ?_)
  refine lv_aload_n hx hb dX3_append_5 rfl (lv_at hl 1 rfl) ?_
  refine lv_dup hx hb dX3_append_6 rfl ?_
  refine va_get (D := G) (ci := 5) (v := .int (σ 23 3)) (C := RX3) (T := TX3) (N := 4) hx hb hts iX3_append hown hE.1 hP 23 (zg_23 cs ad σ tl) rfl 3 (by decide) (hts (.fieldLink RX3 22 "HandoverDeck$PermitRack" "permitCount" "I") (by decide +kernel)) (fun _ h9 => h9) rfl dX3_append_7 ?_
  refine lv_iconst (v := 1) hx hb dX3_append_10 (by decide) ?_
  refine lv_iadd hx hb dX3_append_11 ?_
  refine va_put (D := G) (ci := 5) (v := .int ((σ 23 3) + 1)) (ty := .int) (C := RX3) (T := TX3) (N := 4) hx hb hts iX3_append tyX3 tyX3_ok nmX3 hown hE.1 hP hD hS 23 (zg_23 cs ad σ tl) rfl 3 (by decide) (hts (.fieldLink RX3 22 "HandoverDeck$PermitRack" "permitCount" "I") (by decide +kernel)) (fun _ h9 => h9) rfl (by decide +kernel) rfl rfl (Nat.le_of_ble_eq_true rfl) dX3_append_12 (fun H locs hP hD hS => ?_)
  rw [zb_23_3 cs ad σ tl] at hP hD
  refine lv_aload_n hx hb dX3_append_15 rfl (lv_at hl 1 rfl) ?_
  refine lv_iload_n hx hb dX3_append_16 rfl (lv_at hl 0 rfl) ?_
  refine zai (va_runV (As := [.int (σ 23 3)]) (rest := []) ⟨hx, hb, hml, hown, hts⟩ (c_X3_hasPermit l G cs ad tl (zs σ 23 3 ((σ 23 3) + 1)) (σ 23 3)  H.size) (cwV 1 hts gX3_append_X3_hasPermit rfl rfl rfl (by decide +kernel) ⟨Nat.le_of_ble_eq_true rfl, Nat.le_of_ble_eq_true rfl⟩) (zpv hE hP hD hS hA (zg_23 cs ad (zs σ 23 3 ((σ 23 3) + 1)) tl) rfl) rfl rfl hl.1 rfl (lv_room (Nat.le_of_ble_eq_true rfl)) dX3_append_17 ⟨Nat.le_of_ble_eq_true rfl, Nat.le_of_ble_eq_true rfl⟩) hD hS hA (fun H locs hP hD hS => ?_)
  refine lv_if_eq (tgt := 44) hx hb dX3_append_20 (by decide) (fun c_1 => ?_) (fun c_1 => ?_)
  · have hR := hR.trans (if_pos c_1)
    refine lv_iload_n hx hb dX3_append_44 rfl (lv_at hl 0 rfl) ?_
    obtain ⟨e1, e2⟩ := z2 hR.symm
    subst e1; subst e2
    exact W.iret (v := (σ 23 3)) hx hb hr (fun t ht hW => ⟨⟨_, (), rfl, rfl, by rw [ht]; exact hP, hD⟩, hS.F ht⟩) hS.2.2 dX3_append_45
  · have hR := hR.trans (if_neg c_1)
    refine lv_aload_n hx hb dX3_append_23 rfl (lv_at hl 1 rfl) ?_
    refine va_get (D := G) (ci := 5) (v := .ref (ad 24)) (C := RX3) (T := TX3) (N := 4) hx hb hts iX3_append hown hE.1 hP 23 (zg_23 cs ad (zs σ 23 3 ((σ 23 3) + 1)) tl) rfl 0 (by decide) (hts (.fieldLink RX3 9 "HandoverDeck$PermitRack" "unitSets" "[I") (by decide +kernel)) (fun _ h9 => h9) rfl dX3_append_24 ?_
    refine lv_iload_n hx hb dX3_append_27 rfl (lv_at hl 0 rfl) ?_
    refine lv_iload_n hx hb dX3_append_28 rfl (lv_at hl 2 rfl) ?_
    refine z_iast hx hb hE hP hD hS (zg_24 cs ad (zs σ 23 3 ((σ 23 3) + 1)) tl) (zb_24 cs ad (zs σ 23 3 ((σ 23 3) + 1)) tl) (vin_X3_hasPermit c_1) dX3_append_29 (fun H locs hP hD hS => ?_)
    refine lv_aload_n hx hb dX3_append_30 rfl (lv_at hl 1 rfl) ?_
    refine va_get (D := G) (ci := 5) (v := .ref (ad 25)) (C := RX3) (T := TX3) (N := 4) hx hb hts iX3_append hown hE.1 hP 23 (zg_23 cs ad (zs (zs σ 23 3 ((σ 23 3) + 1)) 24 (σ 23 3).toNatClampNeg a1) tl) rfl 1 (by decide) (hts (.fieldLink RX3 15 "HandoverDeck$PermitRack" "lines" "[I") (by decide +kernel)) (fun _ h9 => h9) rfl dX3_append_31 ?_
    refine lv_iload_n hx hb dX3_append_34 rfl (lv_at hl 0 rfl) ?_
    refine lv_iload_n hx hb dX3_append_35 rfl (lv_at hl 3 rfl) ?_
    refine z_iast hx hb hE hP hD hS (zg_25 cs ad (zs (zs σ 23 3 ((σ 23 3) + 1)) 24 (σ 23 3).toNatClampNeg a1) tl) (zb_25 cs ad (zs (zs σ 23 3 ((σ 23 3) + 1)) 24 (σ 23 3).toNatClampNeg a1) tl) (vin_X3_hasPermit c_1) dX3_append_36 (fun H locs hP hD hS => ?_)
    refine lv_aload_n hx hb dX3_append_37 rfl (lv_at hl 1 rfl) ?_
    refine va_get (D := G) (ci := 5) (v := .ref (ad 26)) (C := RX3) (T := TX3) (N := 4) hx hb hts iX3_append hown hE.1 hP 23 (zg_23 cs ad (zs (zs (zs σ 23 3 ((σ 23 3) + 1)) 24 (σ 23 3).toNatClampNeg a1) 25 (σ 23 3).toNatClampNeg a2) tl) rfl 2 (by decide) (hts (.fieldLink RX3 18 "HandoverDeck$PermitRack" "open" "[Z") (by decide +kernel)) (fun _ h9 => h9) rfl dX3_append_38 ?_
    refine lv_iload_n hx hb dX3_append_41 rfl (lv_at hl 0 rfl) ?_
    refine lv_iconst (v := 1) hx hb dX3_append_42 (by decide) ?_
    refine z_zast hx hb hE hP hD hS (zg_26 cs ad (zs (zs (zs σ 23 3 ((σ 23 3) + 1)) 24 (σ 23 3).toNatClampNeg a1) 25 (σ 23 3).toNatClampNeg a2) tl) (zb_26 cs ad (zs (zs (zs σ 23 3 ((σ 23 3) + 1)) 24 (σ 23 3).toNatClampNeg a1) 25 (σ 23 3).toNatClampNeg a2) tl) (vin_X3_hasPermit c_1) rfl dX3_append_43 (fun H locs hP hD hS => ?_)
    refine lv_iload_n hx hb dX3_append_44 rfl (lv_at hl 0 rfl) ?_
    obtain ⟨e1, e2⟩ := z2 hR.symm
    subst e1; subst e2
    exact W.iret (v := (σ 23 3)) hx hb hr (fun t ht hW => ⟨⟨_, (), rfl, rfl, by rw [ht]; exact hP, hD⟩, hS.F ht⟩) hS.2.2 dX3_append_45
def f_X3_isOpen (σ : zS) (a1 : Int32) : Int32 := (if (f_X3_hasPermit σ a1) = 0 then 0 else (if (σ 26 a1.toNatClampNeg) = 0 then 0 else 1))
theorem iX3_isOpen : ∀ w ∈ u_ws RX3 TX3 4, w ∈ wsX3_isOpen := by decide +kernel
set_option maxRecDepth 100000 in
theorem c_X3_isOpen (l : Launch) (G : va_G) (cs : Nat → ClassId) (ad : Nat → Nat) (tl : va_W) (σ : zS) (a1 : Int32)  : zMi l yX3_isOpen wsX3_isOpen { frames := 1, cells := 0, slots := 0, locals := 21 } G cs [.ref (ad 23), .int a1] (zw cs ad σ tl) (f_X3_isOpen σ a1) (zw cs ad σ tl) 0 0 := by
  intro sz
  refine Met.ofW (cc := cX3_isOpen) (maxL := 2) (ret := (some .boolean)) (by decide) rfl ?_
  intro p e s m args below meth c s₁ B hml hv
  obtain ⟨rfl, hsz, hP, hD0, hE⟩ := hv
  have hx := B.exec
  have hb := B.bytes
  have hr := B.returns
  have hts := atoms_spec (ws := wsX3_isOpen) B.pre
  have hown : s.vm.findClass RX3 = some m.cls := findClass_of_methodNamed B.named
  have hlocks := B.notSynchronized
  subst hsz
  have hD := hD0.self (sz := s.heap.size)
  have hA : ∀ q : Nat, s.heap.size ≤ q → (va_A (zw cs ad σ tl) s.heap.size) q := fun q h => Or.inr h
  generalize va_A (zw cs ad σ tl) s.heap.size = A at hD hE hA ⊢
  have hS : va_S A s.heap s.heap [] := va_S.rf
  have hl := lv_entry ([.ref (ad 23), .int a1]) (n := 2) (Nat.le_of_ble_eq_true rfl)
  rw [lg_entry_eq]
  generalize (lg_sl ([.ref (ad 23), .int a1]) ++ List.replicate (2 - (lg_sl ([.ref (ad 23), .int a1])).length) Slot.unset).toArray = ls at hl ⊢
  have hl : lv_has ls 2 [(0, .ref (ad 23)), (1, .int a1)] := hl
  generalize hR : (f_X3_isOpen σ a1) = RV
  have hR := hR.symm
  unfold f_X3_isOpen at hR
  obtain ⟨H, hH⟩ : ∃ z, z = s.heap := ⟨_, rfl⟩
  obtain ⟨locs, hlocs⟩ : ∃ z : List Loc, z = [] := ⟨_, rfl⟩
  rw [← hH] at hP
  have hS : va_S A s.heap H locs := by rw [hH, hlocs]; exact hS
  show W _ _ _ _ _ _ _ _ _ _ s.heap [] _ _ _ _
  rw [← hH, ← hlocs]
  clear hlocs
  refine lv_aload_n hx hb dX3_isOpen_0 rfl (lv_at hl 0 rfl) ?_
  refine lv_iload_n hx hb dX3_isOpen_1 rfl (lv_at hl 1 rfl) ?_
  refine zai (va_runV (As := [.int a1]) (rest := []) ⟨hx, hb, hml, hown, hts⟩ (c_X3_hasPermit l G cs ad tl σ a1  H.size) (cwV 1 hts gX3_isOpen_X3_hasPermit rfl rfl rfl (by decide +kernel) ⟨Nat.le_of_ble_eq_true rfl, Nat.le_of_ble_eq_true rfl⟩) (zpv hE hP hD hS hA (zg_23 cs ad σ tl) rfl) rfl rfl hl.1 rfl (lv_room (Nat.le_of_ble_eq_true rfl)) dX3_isOpen_2 ⟨Nat.le_of_ble_eq_true rfl, Nat.le_of_ble_eq_true rfl⟩) hD hS hA (fun H locs hP hD hS => ?_)
  refine lv_if_eq (tgt := 21) hx hb dX3_isOpen_5 (by decide) (fun c_1 => ?_) (fun c_1 => ?_)
  · have hR := hR.trans (if_pos c_1)
    refine lv_iconst (v := 0) hx hb dX3_isOpen_21 (by decide) ?_
    have hR := hR.symm
    subst hR
    exact W.zret (v := 0) hx hb hr rfl (fun t ht hW => ⟨⟨_, (), rfl, rfl, by rw [ht]; exact hP, hD⟩, hS.F ht⟩) hS.2.2 dX3_isOpen_22
  · have hR := hR.trans (if_neg c_1)
    refine lv_aload_n hx hb dX3_isOpen_8 rfl (lv_at hl 0 rfl) ?_
    refine va_get (D := G) (ci := 5) (v := .ref (ad 26)) (C := RX3) (T := TX3) (N := 4) hx hb hts iX3_isOpen hown hE.1 hP 23 (zg_23 cs ad σ tl) rfl 2 (by decide) (hts (.fieldLink RX3 18 "HandoverDeck$PermitRack" "open" "[Z") (by decide +kernel)) (fun _ h9 => h9) rfl dX3_isOpen_9 ?_
    refine lv_iload_n hx hb dX3_isOpen_12 rfl (lv_at hl 1 rfl) ?_
    refine z_zald (v := (σ 26 a1.toNatClampNeg)) hx hb hE hP (zg_26 cs ad σ tl) (vin_X3_hasPermit c_1) rfl dX3_isOpen_13 ?_
    refine lv_if_eq (tgt := 21) hx hb dX3_isOpen_14 (by decide) (fun c_2 => ?_) (fun c_2 => ?_)
    · have hR := hR.trans (if_pos c_2)
      refine lv_iconst (v := 0) hx hb dX3_isOpen_21 (by decide) ?_
      have hR := hR.symm
      subst hR
      exact W.zret (v := 0) hx hb hr rfl (fun t ht hW => ⟨⟨_, (), rfl, rfl, by rw [ht]; exact hP, hD⟩, hS.F ht⟩) hS.2.2 dX3_isOpen_22
    · have hR := hR.trans (if_neg c_2)
      refine lv_iconst (v := 1) hx hb dX3_isOpen_17 (by decide) ?_
      refine lv_goto (tgt := 22) hx hb dX3_isOpen_18 (by decide) ?_
      have hR := hR.symm
      subst hR
      exact W.zret (v := 1) hx hb hr rfl (fun t ht hW => ⟨⟨_, (), rfl, rfl, by rw [ht]; exact hP, hD⟩, hS.F ht⟩) hS.2.2 dX3_isOpen_22
theorem nar_X3_isOpen (σ : zS) (a1 : Int32) : narrow .boolean (.int (f_X3_isOpen σ a1)) = .int (f_X3_isOpen σ a1) := by unfold f_X3_isOpen; (repeat' split) <;> rfl
theorem vin_X3_isOpen {σ : zS} {a1 : Int32} (h : ¬ (f_X3_isOpen σ a1) = 0) : vp_in a1 8 := by
  unfold f_X3_isOpen at h
  (repeat' split at h) <;> first | exact absurd rfl h | exact vin_rg (by assumption) (by assumption) (by decide) | exact vin_X3_hasPermit (by assumption)
def f_X3_lineOf (σ : zS) (a1 : Int32) : Int32 := (if (f_X3_hasPermit σ a1) = 0 then (-1) else (σ 25 a1.toNatClampNeg))
theorem iX3_lineOf : ∀ w ∈ u_ws RX3 TX3 4, w ∈ wsX3_lineOf := by decide +kernel
set_option maxRecDepth 100000 in
theorem c_X3_lineOf (l : Launch) (G : va_G) (cs : Nat → ClassId) (ad : Nat → Nat) (tl : va_W) (σ : zS) (a1 : Int32)  : zMi l yX3_lineOf wsX3_lineOf { frames := 1, cells := 0, slots := 0, locals := 21 } G cs [.ref (ad 23), .int a1] (zw cs ad σ tl) (f_X3_lineOf σ a1) (zw cs ad σ tl) 0 0 := by
  intro sz
  refine Met.ofW (cc := cX3_lineOf) (maxL := 2) (ret := (some .int)) (by decide) rfl ?_
  intro p e s m args below meth c s₁ B hml hv
  obtain ⟨rfl, hsz, hP, hD0, hE⟩ := hv
  have hx := B.exec
  have hb := B.bytes
  have hr := B.returns
  have hts := atoms_spec (ws := wsX3_lineOf) B.pre
  have hown : s.vm.findClass RX3 = some m.cls := findClass_of_methodNamed B.named
  have hlocks := B.notSynchronized
  subst hsz
  have hD := hD0.self (sz := s.heap.size)
  have hA : ∀ q : Nat, s.heap.size ≤ q → (va_A (zw cs ad σ tl) s.heap.size) q := fun q h => Or.inr h
  generalize va_A (zw cs ad σ tl) s.heap.size = A at hD hE hA ⊢
  have hS : va_S A s.heap s.heap [] := va_S.rf
  have hl := lv_entry ([.ref (ad 23), .int a1]) (n := 2) (Nat.le_of_ble_eq_true rfl)
  rw [lg_entry_eq]
  generalize (lg_sl ([.ref (ad 23), .int a1]) ++ List.replicate (2 - (lg_sl ([.ref (ad 23), .int a1])).length) Slot.unset).toArray = ls at hl ⊢
  have hl : lv_has ls 2 [(0, .ref (ad 23)), (1, .int a1)] := hl
  generalize hR : (f_X3_lineOf σ a1) = RV
  have hR := hR.symm
  unfold f_X3_lineOf at hR
  obtain ⟨H, hH⟩ : ∃ z, z = s.heap := ⟨_, rfl⟩
  obtain ⟨locs, hlocs⟩ : ∃ z : List Loc, z = [] := ⟨_, rfl⟩
  rw [← hH] at hP
  have hS : va_S A s.heap H locs := by rw [hH, hlocs]; exact hS
  show W _ _ _ _ _ _ _ _ _ _ s.heap [] _ _ _ _
  rw [← hH, ← hlocs]
  clear hlocs
  refine lv_aload_n hx hb dX3_lineOf_0 rfl (lv_at hl 0 rfl) ?_
  refine lv_iload_n hx hb dX3_lineOf_1 rfl (lv_at hl 1 rfl) ?_
  refine zai (va_runV (As := [.int a1]) (rest := []) ⟨hx, hb, hml, hown, hts⟩ (c_X3_hasPermit l G cs ad tl σ a1  H.size) (cwV 1 hts gX3_lineOf_X3_hasPermit rfl rfl rfl (by decide +kernel) ⟨Nat.le_of_ble_eq_true rfl, Nat.le_of_ble_eq_true rfl⟩) (zpv hE hP hD hS hA (zg_23 cs ad σ tl) rfl) rfl rfl hl.1 rfl (lv_room (Nat.le_of_ble_eq_true rfl)) dX3_lineOf_2 ⟨Nat.le_of_ble_eq_true rfl, Nat.le_of_ble_eq_true rfl⟩) hD hS hA (fun H locs hP hD hS => ?_)
  refine lv_if_eq (tgt := 17) hx hb dX3_lineOf_5 (by decide) (fun c_1 => ?_) (fun c_1 => ?_)
  · have hR := hR.trans (if_pos c_1)
    refine lv_iconst (v := (-1)) hx hb dX3_lineOf_17 (by decide) ?_
    have hR := hR.symm
    subst hR
    exact W.iret (v := (-1)) hx hb hr (fun t ht hW => ⟨⟨_, (), rfl, rfl, by rw [ht]; exact hP, hD⟩, hS.F ht⟩) hS.2.2 dX3_lineOf_18
  · have hR := hR.trans (if_neg c_1)
    refine lv_aload_n hx hb dX3_lineOf_8 rfl (lv_at hl 0 rfl) ?_
    refine va_get (D := G) (ci := 5) (v := .ref (ad 25)) (C := RX3) (T := TX3) (N := 4) hx hb hts iX3_lineOf hown hE.1 hP 23 (zg_23 cs ad σ tl) rfl 1 (by decide) (hts (.fieldLink RX3 15 "HandoverDeck$PermitRack" "lines" "[I") (by decide +kernel)) (fun _ h9 => h9) rfl dX3_lineOf_9 ?_
    refine lv_iload_n hx hb dX3_lineOf_12 rfl (lv_at hl 1 rfl) ?_
    refine z_iald (v := (σ 25 a1.toNatClampNeg)) hx hb hE hP (zg_25 cs ad σ tl) (vin_X3_hasPermit c_1) rfl dX3_lineOf_13 ?_
    refine lv_goto (tgt := 18) hx hb dX3_lineOf_14 (by decide) ?_
    have hR := hR.symm
    subst hR
    exact W.iret (v := (σ 25 a1.toNatClampNeg)) hx hb hr (fun t ht hW => ⟨⟨_, (), rfl, rfl, by rw [ht]; exact hP, hD⟩, hS.F ht⟩) hS.2.2 dX3_lineOf_18
def f_X3_shut (σ : zS) (a1 : Int32) : zS := (if (f_X3_hasPermit σ a1) = 0 then σ else (zs σ 26 a1.toNatClampNeg 0))
theorem iX3_shut : ∀ w ∈ u_ws RX3 TX3 4, w ∈ wsX3_shut := by decide +kernel
set_option maxRecDepth 100000 in
theorem c_X3_shut (l : Launch) (G : va_G) (cs : Nat → ClassId) (ad : Nat → Nat) (tl : va_W) (σ : zS) (a1 : Int32)  : zMv l yX3_shut wsX3_shut { frames := 1, cells := 0, slots := 0, locals := 21 } G cs [.ref (ad 23), .int a1] (zw cs ad σ tl) (zw cs ad (f_X3_shut σ a1) tl) 0 0 := by
  intro sz
  refine Met.ofW (cc := cX3_shut) (maxL := 2) (ret := none) (by decide) rfl ?_
  intro p e s m args below meth c s₁ B hml hv
  obtain ⟨rfl, hsz, hP, hD0, hE⟩ := hv
  have hx := B.exec
  have hb := B.bytes
  have hr := B.returns
  have hts := atoms_spec (ws := wsX3_shut) B.pre
  have hown : s.vm.findClass RX3 = some m.cls := findClass_of_methodNamed B.named
  have hlocks := B.notSynchronized
  subst hsz
  have hD := hD0.self (sz := s.heap.size)
  have hA : ∀ q : Nat, s.heap.size ≤ q → (va_A (zw cs ad σ tl) s.heap.size) q := fun q h => Or.inr h
  generalize va_A (zw cs ad σ tl) s.heap.size = A at hD hE hA ⊢
  have hS : va_S A s.heap s.heap [] := va_S.rf
  have hl := lv_entry ([.ref (ad 23), .int a1]) (n := 2) (Nat.le_of_ble_eq_true rfl)
  rw [lg_entry_eq]
  generalize (lg_sl ([.ref (ad 23), .int a1]) ++ List.replicate (2 - (lg_sl ([.ref (ad 23), .int a1])).length) Slot.unset).toArray = ls at hl ⊢
  have hl : lv_has ls 2 [(0, .ref (ad 23)), (1, .int a1)] := hl
  generalize hR : (f_X3_shut σ a1) = RV
  have hR := hR.symm
  unfold f_X3_shut at hR
  obtain ⟨H, hH⟩ : ∃ z, z = s.heap := ⟨_, rfl⟩
  obtain ⟨locs, hlocs⟩ : ∃ z : List Loc, z = [] := ⟨_, rfl⟩
  rw [← hH] at hP
  have hS : va_S A s.heap H locs := by rw [hH, hlocs]; exact hS
  show W _ _ _ _ _ _ _ _ _ _ s.heap [] _ _ _ _
  rw [← hH, ← hlocs]
  clear hlocs
  refine lv_aload_n hx hb dX3_shut_0 rfl (lv_at hl 0 rfl) ?_
  refine lv_iload_n hx hb dX3_shut_1 rfl (lv_at hl 1 rfl) ?_
  refine zai (va_runV (As := [.int a1]) (rest := []) ⟨hx, hb, hml, hown, hts⟩ (c_X3_hasPermit l G cs ad tl σ a1  H.size) (cwV 1 hts gX3_shut_X3_hasPermit rfl rfl rfl (by decide +kernel) ⟨Nat.le_of_ble_eq_true rfl, Nat.le_of_ble_eq_true rfl⟩) (zpv hE hP hD hS hA (zg_23 cs ad σ tl) rfl) rfl rfl hl.1 rfl (lv_room (Nat.le_of_ble_eq_true rfl)) dX3_shut_2 ⟨Nat.le_of_ble_eq_true rfl, Nat.le_of_ble_eq_true rfl⟩) hD hS hA (fun H locs hP hD hS => ?_)
  refine lv_if_eq (tgt := 15) hx hb dX3_shut_5 (by decide) (fun c_1 => ?_) (fun c_1 => ?_)
  · have hR := hR.trans (if_pos c_1)
    have hR := hR.symm
    subst hR
    exact W.vret hx hb hr (fun t ht hW => ⟨⟨(), rfl, trivial, by rw [ht]; exact hP, hD⟩, hS.F ht⟩) hS.2.2 dX3_shut_15
  · have hR := hR.trans (if_neg c_1)
    refine lv_aload_n hx hb dX3_shut_8 rfl (lv_at hl 0 rfl) ?_
    refine va_get (D := G) (ci := 5) (v := .ref (ad 26)) (C := RX3) (T := TX3) (N := 4) hx hb hts iX3_shut hown hE.1 hP 23 (zg_23 cs ad σ tl) rfl 2 (by decide) (hts (.fieldLink RX3 18 "HandoverDeck$PermitRack" "open" "[Z") (by decide +kernel)) (fun _ h9 => h9) rfl dX3_shut_9 ?_
    refine lv_iload_n hx hb dX3_shut_12 rfl (lv_at hl 1 rfl) ?_
    refine lv_iconst (v := 0) hx hb dX3_shut_13 (by decide) ?_
    refine z_zast hx hb hE hP hD hS (zg_26 cs ad σ tl) (zb_26 cs ad σ tl) (vin_X3_hasPermit c_1) rfl dX3_shut_14 (fun H locs hP hD hS => ?_)
    have hR := hR.symm
    subst hR
    exact W.vret hx hb hr (fun t ht hW => ⟨⟨(), rfl, trivial, by rw [ht]; exact hP, hD⟩, hS.F ht⟩) hS.2.2 dX3_shut_15
def L_X3_firstOpenWith_2 (σ : zS) (a1 : Int32) : Nat → Int32 → Int32
  | 0, _ => 0
  | n + 1, x2 => (if 8 ≤ x2 then (-1) else (if (f_X3_isOpen σ x2) = 0 then (L_X3_firstOpenWith_2 σ a1 n (x2 + 1)) else (if ((σ 24 x2.toNatClampNeg) &&& a1) = 0 then (L_X3_firstOpenWith_2 σ a1 n (x2 + 1)) else x2)))
def f_X3_firstOpenWith (σ : zS) (a1 : Int32) : Int32 := (L_X3_firstOpenWith_2 σ a1 9 0)
theorem iX3_firstOpenWith : ∀ w ∈ u_ws RX3 TX3 4, w ∈ wsX3_firstOpenWith := by decide +kernel
set_option maxRecDepth 100000 in
theorem c_X3_firstOpenWith (l : Launch) (G : va_G) (cs : Nat → ClassId) (ad : Nat → Nat) (tl : va_W) (σ : zS) (a1 : Int32)  : zMi l yX3_firstOpenWith wsX3_firstOpenWith { frames := 2, cells := 0, slots := 0, locals := 42 } G cs [.ref (ad 23), .int a1] (zw cs ad σ tl) (f_X3_firstOpenWith σ a1) (zw cs ad σ tl) 0 0 := by
  intro sz
  refine Met.ofW (cc := cX3_firstOpenWith) (maxL := 3) (ret := (some .int)) (by decide) rfl ?_
  intro p e s m args below meth c s₁ B hml hv
  obtain ⟨rfl, hsz, hP, hD0, hE⟩ := hv
  have hx := B.exec
  have hb := B.bytes
  have hr := B.returns
  have hts := atoms_spec (ws := wsX3_firstOpenWith) B.pre
  have hown : s.vm.findClass RX3 = some m.cls := findClass_of_methodNamed B.named
  have hlocks := B.notSynchronized
  subst hsz
  have hD := hD0.self (sz := s.heap.size)
  have hA : ∀ q : Nat, s.heap.size ≤ q → (va_A (zw cs ad σ tl) s.heap.size) q := fun q h => Or.inr h
  generalize va_A (zw cs ad σ tl) s.heap.size = A at hD hE hA ⊢
  have hS : va_S A s.heap s.heap [] := va_S.rf
  have hl := lv_entry ([.ref (ad 23), .int a1]) (n := 3) (Nat.le_of_ble_eq_true rfl)
  rw [lg_entry_eq]
  generalize (lg_sl ([.ref (ad 23), .int a1]) ++ List.replicate (3 - (lg_sl ([.ref (ad 23), .int a1])).length) Slot.unset).toArray = ls at hl ⊢
  have hl : lv_has ls 3 [(0, .ref (ad 23)), (1, .int a1)] := hl
  generalize hR : (f_X3_firstOpenWith σ a1) = RV
  have hR := hR.symm
  unfold f_X3_firstOpenWith at hR
  obtain ⟨H, hH⟩ : ∃ z, z = s.heap := ⟨_, rfl⟩
  obtain ⟨locs, hlocs⟩ : ∃ z : List Loc, z = [] := ⟨_, rfl⟩
  rw [← hH] at hP
  have hS : va_S A s.heap H locs := by rw [hH, hlocs]; exact hS
  show W _ _ _ _ _ _ _ _ _ _ s.heap [] _ _ _ _
  rw [← hH, ← hlocs]
  clear hlocs
  refine lv_iconst (v := 0) hx hb dX3_firstOpenWith_0 (by decide) ?_
  refine lv_istore_n (lv' := [(2, .int 0), (0, .ref (ad 23)), (1, .int a1)]) hx hb dX3_firstOpenWith_1 rfl hl (by decide) rfl (fun ls hl => ?_)
  have loop_4 : ∀ (n k : Nat) (x2 : Int32), x2 = nI (k) → k ≤ 8 → k + n = 9 → RV = L_X3_firstOpenWith_2 σ a1 n x2 → ∀ (H : Heap) (locs : List Loc), va_P G vwCl (zw cs ad σ tl) H → va_D A (zw cs ad σ tl) → va_S A s.heap H locs → ∀ ls : Array Slot, lv_has ls 3 [(0, .ref (ad 23)), (1, .int a1), (2, .int x2)] → W p l e (headSpec wsX3_firstOpenWith { frames := 2, cells := 0, slots := 0, locals := 42 }).room s m (List.toArray [.ref (ad 23), .int a1]) below meth c H locs 0 0 (MQ below (va_Qi (fun (r : Int32) (_ : Unit) => r = RV) (fun _ t => zPo G A (zw cs ad σ tl) t) A) (List.toArray [.ref (ad 23), .int a1]) s 0 0 A) (F0 m 2 ls []) := by
    intro n
    induction n with
    | zero => intro k  x2 ex hk hn; omega
    | succ n ih =>
      intro k  x2 ex hk hn hR H locs hP hD hS ls hl
      rw [L_X3_firstOpenWith_2] at hR
      refine lv_iload_n hx hb dX3_firstOpenWith_2 rfl (lv_at hl 2 rfl) ?_
      refine lv_bipush (v := 8) hx hb dX3_firstOpenWith_3 (by decide) ?_
      refine lv_icmp_ge (tgt := 35) hx hb dX3_firstOpenWith_5 (by decide) (fun c_1 => ?_) (fun c_1 => ?_)
      · have hR := hR.trans (if_pos c_1)
        refine lv_iconst (v := (-1)) hx hb dX3_firstOpenWith_35 (by decide) ?_
        have hR := hR.symm
        subst hR
        exact W.iret (v := (-1)) hx hb hr (fun t ht hW => ⟨⟨_, (), rfl, rfl, by rw [ht]; exact hP, hD⟩, hS.F ht⟩) hS.2.2 dX3_firstOpenWith_36
      · have hR := hR.trans (if_neg c_1)
        have hkB : k < 8 := zlt ex (by omega) (by decide) c_1
        refine lv_aload_n hx hb dX3_firstOpenWith_8 rfl (lv_at hl 0 rfl) ?_
        refine lv_iload_n hx hb dX3_firstOpenWith_9 rfl (lv_at hl 2 rfl) ?_
        refine zai (va_runV (As := [.int x2]) (rest := []) ⟨hx, hb, hml, hown, hts⟩ (c_X3_isOpen l G cs ad tl σ x2  H.size) (cwV 1 hts gX3_firstOpenWith_X3_isOpen rfl rfl rfl (by decide +kernel) ⟨Nat.le_of_ble_eq_true rfl, Nat.le_of_ble_eq_true rfl⟩) (zpv hE hP hD hS hA (zg_23 cs ad σ tl) rfl) rfl rfl hl.1 rfl (lv_room (Nat.le_of_ble_eq_true rfl)) dX3_firstOpenWith_10 ⟨Nat.le_of_ble_eq_true rfl, Nat.le_of_ble_eq_true rfl⟩) hD hS hA (fun H locs hP hD hS => ?_)
        refine lv_if_eq (tgt := 29) hx hb dX3_firstOpenWith_13 (by decide) (fun c_2 => ?_) (fun c_2 => ?_)
        · have hR := hR.trans (if_pos c_2)
          refine lv_iinc (v := (x2 + 1)) (lv' := [(2, .int (x2 + 1)), (0, .ref (ad 23)), (1, .int a1)]) hx hb dX3_firstOpenWith_29 hl (k := 2) rfl rfl (by decide) rfl (fun ls hl => ?_)
          refine lv_goto (tgt := 2) hx hb dX3_firstOpenWith_32 (by decide) ?_
          exact ih (k + 1)  (x2 + 1) (by rw [ex]; exact nI_1 _) (by omega) (by omega)  hR H locs hP hD hS ls (lv_sub hl [1, 2, 0] rfl)
        · have hR := hR.trans (if_neg c_2)
          refine lv_aload_n hx hb dX3_firstOpenWith_16 rfl (lv_at hl 0 rfl) ?_
          refine va_get (D := G) (ci := 5) (v := .ref (ad 24)) (C := RX3) (T := TX3) (N := 4) hx hb hts iX3_firstOpenWith hown hE.1 hP 23 (zg_23 cs ad σ tl) rfl 0 (by decide) (hts (.fieldLink RX3 9 "HandoverDeck$PermitRack" "unitSets" "[I") (by decide +kernel)) (fun _ h9 => h9) rfl dX3_firstOpenWith_17 ?_
          refine lv_iload_n hx hb dX3_firstOpenWith_20 rfl (lv_at hl 2 rfl) ?_
          refine z_iald (v := (σ 24 x2.toNatClampNeg)) hx hb hE hP (zg_24 cs ad σ tl) (vin_X3_isOpen c_2) rfl dX3_firstOpenWith_21 ?_
          refine lv_iload_n hx hb dX3_firstOpenWith_22 rfl (lv_at hl 1 rfl) ?_
          refine lv_iand hx hb dX3_firstOpenWith_23 ?_
          refine lv_if_eq (tgt := 29) hx hb dX3_firstOpenWith_24 (by decide) (fun c_3 => ?_) (fun c_3 => ?_)
          · have hR := hR.trans (if_pos c_3)
            refine lv_iinc (v := (x2 + 1)) (lv' := [(2, .int (x2 + 1)), (0, .ref (ad 23)), (1, .int a1)]) hx hb dX3_firstOpenWith_29 hl (k := 2) rfl rfl (by decide) rfl (fun ls hl => ?_)
            refine lv_goto (tgt := 2) hx hb dX3_firstOpenWith_32 (by decide) ?_
            exact ih (k + 1)  (x2 + 1) (by rw [ex]; exact nI_1 _) (by omega) (by omega)  hR H locs hP hD hS ls (lv_sub hl [1, 2, 0] rfl)
          · have hR := hR.trans (if_neg c_3)
            refine lv_iload_n hx hb dX3_firstOpenWith_27 rfl (lv_at hl 2 rfl) ?_
            have hR := hR.symm
            subst hR
            exact W.iret (v := x2) hx hb hr (fun t ht hW => ⟨⟨_, (), rfl, rfl, by rw [ht]; exact hP, hD⟩, hS.F ht⟩) hS.2.2 dX3_firstOpenWith_28
  exact loop_4 9 0  0 nI_0.symm (by omega) (by omega)  hR H locs hP hD hS ls (lv_sub hl [1, 2, 0] rfl)
def L_X3_areOpenApart_4 (σ : zS)  : Nat → Int32 → Int32 → Int32
  | 0, _, _ => 0
  | n + 1, x1, x2 => (if 8 ≤ x2 then 1 else (if (f_X3_isOpen σ x2) = 0 then (L_X3_areOpenApart_4 σ  n x1 (x2 + 1)) else (if ((σ 24 x2.toNatClampNeg) &&& x1) = 0 then (L_X3_areOpenApart_4 σ  n (x1 ||| (σ 24 x2.toNatClampNeg)) (x2 + 1)) else 0)))
def f_X3_areOpenApart (σ : zS)  : Int32 := (L_X3_areOpenApart_4 σ  9 0 0)
theorem iX3_areOpenApart : ∀ w ∈ u_ws RX3 TX3 4, w ∈ wsX3_areOpenApart := by decide +kernel
set_option maxRecDepth 100000 in
theorem c_X3_areOpenApart (l : Launch) (G : va_G) (cs : Nat → ClassId) (ad : Nat → Nat) (tl : va_W) (σ : zS)   : zMi l yX3_areOpenApart wsX3_areOpenApart { frames := 2, cells := 0, slots := 0, locals := 42 } G cs [.ref (ad 23)] (zw cs ad σ tl) (f_X3_areOpenApart σ ) (zw cs ad σ tl) 0 0 := by
  intro sz
  refine Met.ofW (cc := cX3_areOpenApart) (maxL := 3) (ret := (some .boolean)) (by decide) rfl ?_
  intro p e s m args below meth c s₁ B hml hv
  obtain ⟨rfl, hsz, hP, hD0, hE⟩ := hv
  have hx := B.exec
  have hb := B.bytes
  have hr := B.returns
  have hts := atoms_spec (ws := wsX3_areOpenApart) B.pre
  have hown : s.vm.findClass RX3 = some m.cls := findClass_of_methodNamed B.named
  have hlocks := B.notSynchronized
  subst hsz
  have hD := hD0.self (sz := s.heap.size)
  have hA : ∀ q : Nat, s.heap.size ≤ q → (va_A (zw cs ad σ tl) s.heap.size) q := fun q h => Or.inr h
  generalize va_A (zw cs ad σ tl) s.heap.size = A at hD hE hA ⊢
  have hS : va_S A s.heap s.heap [] := va_S.rf
  have hl := lv_entry ([.ref (ad 23)]) (n := 3) (Nat.le_of_ble_eq_true rfl)
  rw [lg_entry_eq]
  generalize (lg_sl ([.ref (ad 23)]) ++ List.replicate (3 - (lg_sl ([.ref (ad 23)])).length) Slot.unset).toArray = ls at hl ⊢
  have hl : lv_has ls 3 [(0, .ref (ad 23))] := hl
  generalize hR : (f_X3_areOpenApart σ ) = RV
  have hR := hR.symm
  unfold f_X3_areOpenApart at hR
  obtain ⟨H, hH⟩ : ∃ z, z = s.heap := ⟨_, rfl⟩
  obtain ⟨locs, hlocs⟩ : ∃ z : List Loc, z = [] := ⟨_, rfl⟩
  rw [← hH] at hP
  have hS : va_S A s.heap H locs := by rw [hH, hlocs]; exact hS
  show W _ _ _ _ _ _ _ _ _ _ s.heap [] _ _ _ _
  rw [← hH, ← hlocs]
  clear hlocs
  refine lv_iconst (v := 0) hx hb dX3_areOpenApart_0 (by decide) ?_
  refine lv_istore_n (lv' := [(1, .int 0), (0, .ref (ad 23))]) hx hb dX3_areOpenApart_1 rfl hl (by decide) rfl (fun ls hl => ?_)
  refine lv_iconst (v := 0) hx hb dX3_areOpenApart_2 (by decide) ?_
  refine lv_istore_n (lv' := [(2, .int 0), (1, .int 0), (0, .ref (ad 23))]) hx hb dX3_areOpenApart_3 rfl hl (by decide) rfl (fun ls hl => ?_)
  have loop_4 : ∀ (n k : Nat) (x1 : Int32) (x2 : Int32), x2 = nI (k) → k ≤ 8 → k + n = 9 → RV = L_X3_areOpenApart_4 σ  n x1 x2 → ∀ (H : Heap) (locs : List Loc), va_P G vwCl (zw cs ad σ tl) H → va_D A (zw cs ad σ tl) → va_S A s.heap H locs → ∀ ls : Array Slot, lv_has ls 3 [(0, .ref (ad 23)), (1, .int x1), (2, .int x2)] → W p l e (headSpec wsX3_areOpenApart { frames := 2, cells := 0, slots := 0, locals := 42 }).room s m (List.toArray [.ref (ad 23)]) below meth c H locs 0 0 (MQ below (va_Qi (fun (r : Int32) (_ : Unit) => r = RV) (fun _ t => zPo G A (zw cs ad σ tl) t) A) (List.toArray [.ref (ad 23)]) s 0 0 A) (F0 m 4 ls []) := by
    intro n
    induction n with
    | zero => intro k  x1 x2 ex hk hn; omega
    | succ n ih =>
      intro k  x1 x2 ex hk hn hR H locs hP hD hS ls hl
      rw [L_X3_areOpenApart_4] at hR
      refine lv_iload_n hx hb dX3_areOpenApart_4 rfl (lv_at hl 2 rfl) ?_
      refine lv_bipush (v := 8) hx hb dX3_areOpenApart_5 (by decide) ?_
      refine lv_icmp_ge (tgt := 46) hx hb dX3_areOpenApart_7 (by decide) (fun c_1 => ?_) (fun c_1 => ?_)
      · have hR := hR.trans (if_pos c_1)
        refine lv_iconst (v := 1) hx hb dX3_areOpenApart_46 (by decide) ?_
        have hR := hR.symm
        subst hR
        exact W.zret (v := 1) hx hb hr rfl (fun t ht hW => ⟨⟨_, (), rfl, rfl, by rw [ht]; exact hP, hD⟩, hS.F ht⟩) hS.2.2 dX3_areOpenApart_47
      · have hR := hR.trans (if_neg c_1)
        have hkB : k < 8 := zlt ex (by omega) (by decide) c_1
        refine lv_aload_n hx hb dX3_areOpenApart_10 rfl (lv_at hl 0 rfl) ?_
        refine lv_iload_n hx hb dX3_areOpenApart_11 rfl (lv_at hl 2 rfl) ?_
        refine zai (va_runV (As := [.int x2]) (rest := []) ⟨hx, hb, hml, hown, hts⟩ (c_X3_isOpen l G cs ad tl σ x2  H.size) (cwV 1 hts gX3_areOpenApart_X3_isOpen rfl rfl rfl (by decide +kernel) ⟨Nat.le_of_ble_eq_true rfl, Nat.le_of_ble_eq_true rfl⟩) (zpv hE hP hD hS hA (zg_23 cs ad σ tl) rfl) rfl rfl hl.1 rfl (lv_room (Nat.le_of_ble_eq_true rfl)) dX3_areOpenApart_12 ⟨Nat.le_of_ble_eq_true rfl, Nat.le_of_ble_eq_true rfl⟩) hD hS hA (fun H locs hP hD hS => ?_)
        refine lv_if_eq (tgt := 40) hx hb dX3_areOpenApart_15 (by decide) (fun c_2 => ?_) (fun c_2 => ?_)
        · have hR := hR.trans (if_pos c_2)
          refine lv_iinc (v := (x2 + 1)) (lv' := [(2, .int (x2 + 1)), (0, .ref (ad 23)), (1, .int x1)]) hx hb dX3_areOpenApart_40 hl (k := 2) rfl rfl (by decide) rfl (fun ls hl => ?_)
          refine lv_goto (tgt := 4) hx hb dX3_areOpenApart_43 (by decide) ?_
          exact ih (k + 1)  x1 (x2 + 1) (by rw [ex]; exact nI_1 _) (by omega) (by omega)  hR H locs hP hD hS ls (lv_sub hl [1, 2, 0] rfl)
        · have hR := hR.trans (if_neg c_2)
          refine lv_aload_n hx hb dX3_areOpenApart_18 rfl (lv_at hl 0 rfl) ?_
          refine va_get (D := G) (ci := 5) (v := .ref (ad 24)) (C := RX3) (T := TX3) (N := 4) hx hb hts iX3_areOpenApart hown hE.1 hP 23 (zg_23 cs ad σ tl) rfl 0 (by decide) (hts (.fieldLink RX3 9 "HandoverDeck$PermitRack" "unitSets" "[I") (by decide +kernel)) (fun _ h9 => h9) rfl dX3_areOpenApart_19 ?_
          refine lv_iload_n hx hb dX3_areOpenApart_22 rfl (lv_at hl 2 rfl) ?_
          refine z_iald (v := (σ 24 x2.toNatClampNeg)) hx hb hE hP (zg_24 cs ad σ tl) (vin_X3_isOpen c_2) rfl dX3_areOpenApart_23 ?_
          refine lv_iload_n hx hb dX3_areOpenApart_24 rfl (lv_at hl 1 rfl) ?_
          refine lv_iand hx hb dX3_areOpenApart_25 ?_
          refine lv_if_eq (tgt := 31) hx hb dX3_areOpenApart_26 (by decide) (fun c_3 => ?_) (fun c_3 => ?_)
          · have hR := hR.trans (if_pos c_3)
            refine lv_iload_n hx hb dX3_areOpenApart_31 rfl (lv_at hl 1 rfl) ?_
            refine lv_aload_n hx hb dX3_areOpenApart_32 rfl (lv_at hl 0 rfl) ?_
            refine va_get (D := G) (ci := 5) (v := .ref (ad 24)) (C := RX3) (T := TX3) (N := 4) hx hb hts iX3_areOpenApart hown hE.1 hP 23 (zg_23 cs ad σ tl) rfl 0 (by decide) (hts (.fieldLink RX3 9 "HandoverDeck$PermitRack" "unitSets" "[I") (by decide +kernel)) (fun _ h9 => h9) rfl dX3_areOpenApart_33 ?_
            refine lv_iload_n hx hb dX3_areOpenApart_36 rfl (lv_at hl 2 rfl) ?_
            refine z_iald (v := (σ 24 x2.toNatClampNeg)) hx hb hE hP (zg_24 cs ad σ tl) (vin_X3_isOpen c_2) rfl dX3_areOpenApart_37 ?_
            refine lv_ior hx hb dX3_areOpenApart_38 ?_
            refine lv_istore_n (lv' := [(1, .int (x1 ||| (σ 24 x2.toNatClampNeg))), (0, .ref (ad 23)), (2, .int x2)]) hx hb dX3_areOpenApart_39 rfl hl (by decide) rfl (fun ls hl => ?_)
            refine lv_iinc (v := (x2 + 1)) (lv' := [(2, .int (x2 + 1)), (1, .int (x1 ||| (σ 24 x2.toNatClampNeg))), (0, .ref (ad 23))]) hx hb dX3_areOpenApart_40 hl (k := 2) rfl rfl (by decide) rfl (fun ls hl => ?_)
            refine lv_goto (tgt := 4) hx hb dX3_areOpenApart_43 (by decide) ?_
            exact ih (k + 1)  (x1 ||| (σ 24 x2.toNatClampNeg)) (x2 + 1) (by rw [ex]; exact nI_1 _) (by omega) (by omega)  hR H locs hP hD hS ls (lv_sub hl [2, 1, 0] rfl)
          · have hR := hR.trans (if_neg c_3)
            refine lv_iconst (v := 0) hx hb dX3_areOpenApart_29 (by decide) ?_
            have hR := hR.symm
            subst hR
            exact W.zret (v := 0) hx hb hr rfl (fun t ht hW => ⟨⟨_, (), rfl, rfl, by rw [ht]; exact hP, hD⟩, hS.F ht⟩) hS.2.2 dX3_areOpenApart_30
  exact loop_4 9 0  0 0 nI_0.symm (by omega) (by omega)  hR H locs hP hD hS ls (lv_sub hl [2, 1, 0] rfl)
