def f_X1_crewOnDuty (σ : zS)  : Int32 := (σ 27 1)
theorem iX1_crewOnDuty : ∀ w ∈ u_ws RX1 TX1 4, w ∈ wsX1_crewOnDuty := by decide +kernel
set_option maxRecDepth 100000 in
theorem c_X1_crewOnDuty (l : Launch) (G : va_G) (cs : Nat → ClassId) (ad : Nat → Nat) (tl : va_W) (σ : zS)   : zMi l yX1_crewOnDuty wsX1_crewOnDuty { frames := 0, cells := 0, slots := 0, locals := 0 } G cs [.ref (ad 27)] (zw cs ad σ tl) (f_X1_crewOnDuty σ ) (zw cs ad σ tl) 0 0 := by
  intro sz
  refine Met.ofW (cc := cX1_crewOnDuty) (maxL := 1) (ret := (some .int)) (by decide) rfl ?_
  intro p e s m args below meth c s₁ B hml hv
  obtain ⟨rfl, hsz, hP, hD0, hE⟩ := hv
  have hx := B.exec
  have hb := B.bytes
  have hr := B.returns
  have hts := atoms_spec (ws := wsX1_crewOnDuty) B.pre
  have hown : s.vm.findClass RX1 = some m.cls := findClass_of_methodNamed B.named
  have hlocks := B.notSynchronized
  subst hsz
  have hD := hD0.self (sz := s.heap.size)
  have hA : ∀ q : Nat, s.heap.size ≤ q → (va_A (zw cs ad σ tl) s.heap.size) q := fun q h => Or.inr h
  generalize va_A (zw cs ad σ tl) s.heap.size = A at hD hE hA ⊢
  have hS : va_S A s.heap s.heap [] := va_S.rf
  have hl := lv_entry ([.ref (ad 27)]) (n := 1) (Nat.le_of_ble_eq_true rfl)
  rw [lg_entry_eq]
  generalize (lg_sl ([.ref (ad 27)]) ++ List.replicate (1 - (lg_sl ([.ref (ad 27)])).length) Slot.unset).toArray = ls at hl ⊢
  have hl : lv_has ls 1 [(0, .ref (ad 27))] := hl
  generalize hR : (f_X1_crewOnDuty σ ) = RV
  have hR := hR.symm
  unfold f_X1_crewOnDuty at hR
  obtain ⟨H, hH⟩ : ∃ z, z = s.heap := ⟨_, rfl⟩
  obtain ⟨locs, hlocs⟩ : ∃ z : List Loc, z = [] := ⟨_, rfl⟩
  rw [← hH] at hP
  have hS : va_S A s.heap H locs := by rw [hH, hlocs]; exact hS
  show W _ _ _ _ _ _ _ _ _ _ s.heap [] _ _ _ _
  rw [← hH, ← hlocs]
  clear hlocs
  refine lv_aload_n hx hb dX1_crewOnDuty_0 rfl (lv_at hl 0 rfl) ?_
  refine va_get (D := G) (ci := 3) (v := .int (σ 27 1)) (C := RX1) (T := TX1) (N := 4) hx hb hts iX1_crewOnDuty hown hE.1 hP 27 (zg_27 cs ad σ tl) rfl 1 (by decide) (hts (.fieldLink RX1 15 "HandoverDeck$CrewRoster" "current" "I") (by decide +kernel)) (fun _ h9 => h9) rfl dX1_crewOnDuty_1 ?_
  have hR := hR.symm
  subst hR
  exact W.iret (v := (σ 27 1)) hx hb hr (fun t ht hW => ⟨⟨_, (), rfl, rfl, by rw [ht]; exact hP, hD⟩, hS.F ht⟩) hS.2.2 dX1_crewOnDuty_4
def f_X1_isHandingOver (σ : zS)  : Int32 := (if (σ 27 2) = (-1) then 0 else 1)
theorem iX1_isHandingOver : ∀ w ∈ u_ws RX1 TX1 4, w ∈ wsX1_isHandingOver := by decide +kernel
set_option maxRecDepth 100000 in
theorem c_X1_isHandingOver (l : Launch) (G : va_G) (cs : Nat → ClassId) (ad : Nat → Nat) (tl : va_W) (σ : zS)   : zMi l yX1_isHandingOver wsX1_isHandingOver { frames := 0, cells := 0, slots := 0, locals := 0 } G cs [.ref (ad 27)] (zw cs ad σ tl) (f_X1_isHandingOver σ ) (zw cs ad σ tl) 0 0 := by
  intro sz
  refine Met.ofW (cc := cX1_isHandingOver) (maxL := 1) (ret := (some .boolean)) (by decide) rfl ?_
  intro p e s m args below meth c s₁ B hml hv
  obtain ⟨rfl, hsz, hP, hD0, hE⟩ := hv
  have hx := B.exec
  have hb := B.bytes
  have hr := B.returns
  have hts := atoms_spec (ws := wsX1_isHandingOver) B.pre
  have hown : s.vm.findClass RX1 = some m.cls := findClass_of_methodNamed B.named
  have hlocks := B.notSynchronized
  subst hsz
  have hD := hD0.self (sz := s.heap.size)
  have hA : ∀ q : Nat, s.heap.size ≤ q → (va_A (zw cs ad σ tl) s.heap.size) q := fun q h => Or.inr h
  generalize va_A (zw cs ad σ tl) s.heap.size = A at hD hE hA ⊢
  have hS : va_S A s.heap s.heap [] := va_S.rf
  have hl := lv_entry ([.ref (ad 27)]) (n := 1) (Nat.le_of_ble_eq_true rfl)
  rw [lg_entry_eq]
  generalize (lg_sl ([.ref (ad 27)]) ++ List.replicate (1 - (lg_sl ([.ref (ad 27)])).length) Slot.unset).toArray = ls at hl ⊢
  have hl : lv_has ls 1 [(0, .ref (ad 27))] := hl
  generalize hR : (f_X1_isHandingOver σ ) = RV
  have hR := hR.symm
  unfold f_X1_isHandingOver at hR
  obtain ⟨H, hH⟩ : ∃ z, z = s.heap := ⟨_, rfl⟩
  obtain ⟨locs, hlocs⟩ : ∃ z : List Loc, z = [] := ⟨_, rfl⟩
  rw [← hH] at hP
  have hS : va_S A s.heap H locs := by rw [hH, hlocs]; exact hS
  show W _ _ _ _ _ _ _ _ _ _ s.heap [] _ _ _ _
  rw [← hH, ← hlocs]
  clear hlocs
  refine lv_aload_n hx hb dX1_isHandingOver_0 rfl (lv_at hl 0 rfl) ?_
  refine va_get (D := G) (ci := 3) (v := .int (σ 27 2)) (C := RX1) (T := TX1) (N := 4) hx hb hts iX1_isHandingOver hown hE.1 hP 27 (zg_27 cs ad σ tl) rfl 2 (by decide) (hts (.fieldLink RX1 19 "HandoverDeck$CrewRoster" "coming" "I") (by decide +kernel)) (fun _ h9 => h9) rfl dX1_isHandingOver_1 ?_
  refine lv_iconst (v := (-1)) hx hb dX1_isHandingOver_4 (by decide) ?_
  refine lv_icmp_eq (tgt := 12) hx hb dX1_isHandingOver_5 (by decide) (fun c_1 => ?_) (fun c_1 => ?_)
  · have hR := hR.trans (if_pos c_1)
    refine lv_iconst (v := 0) hx hb dX1_isHandingOver_12 (by decide) ?_
    have hR := hR.symm
    subst hR
    exact W.zret (v := 0) hx hb hr rfl (fun t ht hW => ⟨⟨_, (), rfl, rfl, by rw [ht]; exact hP, hD⟩, hS.F ht⟩) hS.2.2 dX1_isHandingOver_13
  · have hR := hR.trans (if_neg c_1)
    refine lv_iconst (v := 1) hx hb dX1_isHandingOver_8 (by decide) ?_
    refine lv_goto (tgt := 13) hx hb dX1_isHandingOver_9 (by decide) ?_
    have hR := hR.symm
    subst hR
    exact W.zret (v := 1) hx hb hr rfl (fun t ht hW => ⟨⟨_, (), rfl, rfl, by rw [ht]; exact hP, hD⟩, hS.F ht⟩) hS.2.2 dX1_isHandingOver_13
theorem nar_X1_isHandingOver (σ : zS)  : narrow .boolean (.int (f_X1_isHandingOver σ )) = .int (f_X1_isHandingOver σ ) := by unfold f_X1_isHandingOver; (repeat' split) <;> rfl
def f_X1_isAtWork (σ : zS)  : Int32 := (if (σ 27 1) = (-1) then 0 else (if (σ 27 2) = (-1) then 1 else 0))
theorem iX1_isAtWork : ∀ w ∈ u_ws RX1 TX1 4, w ∈ wsX1_isAtWork := by decide +kernel
set_option maxRecDepth 100000 in
theorem c_X1_isAtWork (l : Launch) (G : va_G) (cs : Nat → ClassId) (ad : Nat → Nat) (tl : va_W) (σ : zS)   : zMi l yX1_isAtWork wsX1_isAtWork { frames := 0, cells := 0, slots := 0, locals := 0 } G cs [.ref (ad 27)] (zw cs ad σ tl) (f_X1_isAtWork σ ) (zw cs ad σ tl) 0 0 := by
  intro sz
  refine Met.ofW (cc := cX1_isAtWork) (maxL := 1) (ret := (some .boolean)) (by decide) rfl ?_
  intro p e s m args below meth c s₁ B hml hv
  obtain ⟨rfl, hsz, hP, hD0, hE⟩ := hv
  have hx := B.exec
  have hb := B.bytes
  have hr := B.returns
  have hts := atoms_spec (ws := wsX1_isAtWork) B.pre
  have hown : s.vm.findClass RX1 = some m.cls := findClass_of_methodNamed B.named
  have hlocks := B.notSynchronized
  subst hsz
  have hD := hD0.self (sz := s.heap.size)
  have hA : ∀ q : Nat, s.heap.size ≤ q → (va_A (zw cs ad σ tl) s.heap.size) q := fun q h => Or.inr h
  generalize va_A (zw cs ad σ tl) s.heap.size = A at hD hE hA ⊢
  have hS : va_S A s.heap s.heap [] := va_S.rf
  have hl := lv_entry ([.ref (ad 27)]) (n := 1) (Nat.le_of_ble_eq_true rfl)
  rw [lg_entry_eq]
  generalize (lg_sl ([.ref (ad 27)]) ++ List.replicate (1 - (lg_sl ([.ref (ad 27)])).length) Slot.unset).toArray = ls at hl ⊢
  have hl : lv_has ls 1 [(0, .ref (ad 27))] := hl
  generalize hR : (f_X1_isAtWork σ ) = RV
  have hR := hR.symm
  unfold f_X1_isAtWork at hR
  obtain ⟨H, hH⟩ : ∃ z, z = s.heap := ⟨_, rfl⟩
  obtain ⟨locs, hlocs⟩ : ∃ z : List Loc, z = [] := ⟨_, rfl⟩
  rw [← hH] at hP
  have hS : va_S A s.heap H locs := by rw [hH, hlocs]; exact hS
  show W _ _ _ _ _ _ _ _ _ _ s.heap [] _ _ _ _
  rw [← hH, ← hlocs]
  clear hlocs
  refine lv_aload_n hx hb dX1_isAtWork_0 rfl (lv_at hl 0 rfl) ?_
  refine va_get (D := G) (ci := 3) (v := .int (σ 27 1)) (C := RX1) (T := TX1) (N := 4) hx hb hts iX1_isAtWork hown hE.1 hP 27 (zg_27 cs ad σ tl) rfl 1 (by decide) (hts (.fieldLink RX1 15 "HandoverDeck$CrewRoster" "current" "I") (by decide +kernel)) (fun _ h9 => h9) rfl dX1_isAtWork_1 ?_
  refine lv_iconst (v := (-1)) hx hb dX1_isAtWork_4 (by decide) ?_
  refine lv_icmp_eq (tgt := 20) hx hb dX1_isAtWork_5 (by decide) (fun c_1 => ?_) (fun c_1 => ?_)
  · have hR := hR.trans (if_pos c_1)
    refine lv_iconst (v := 0) hx hb dX1_isAtWork_20 (by decide) ?_
    have hR := hR.symm
    subst hR
    exact W.zret (v := 0) hx hb hr rfl (fun t ht hW => ⟨⟨_, (), rfl, rfl, by rw [ht]; exact hP, hD⟩, hS.F ht⟩) hS.2.2 dX1_isAtWork_21
  · have hR := hR.trans (if_neg c_1)
    refine lv_aload_n hx hb dX1_isAtWork_8 rfl (lv_at hl 0 rfl) ?_
    refine va_get (D := G) (ci := 3) (v := .int (σ 27 2)) (C := RX1) (T := TX1) (N := 4) hx hb hts iX1_isAtWork hown hE.1 hP 27 (zg_27 cs ad σ tl) rfl 2 (by decide) (hts (.fieldLink RX1 19 "HandoverDeck$CrewRoster" "coming" "I") (by decide +kernel)) (fun _ h9 => h9) rfl dX1_isAtWork_9 ?_
    refine lv_iconst (v := (-1)) hx hb dX1_isAtWork_12 (by decide) ?_
    refine lv_icmp_ne (tgt := 20) hx hb dX1_isAtWork_13 (by decide) (fun c_2 => ?_) (fun c_2 => ?_)
    · have hR := hR.trans (if_neg c_2)
      refine lv_iconst (v := 0) hx hb dX1_isAtWork_20 (by decide) ?_
      have hR := hR.symm
      subst hR
      exact W.zret (v := 0) hx hb hr rfl (fun t ht hW => ⟨⟨_, (), rfl, rfl, by rw [ht]; exact hP, hD⟩, hS.F ht⟩) hS.2.2 dX1_isAtWork_21
    · have hR := hR.trans (if_pos c_2)
      refine lv_iconst (v := 1) hx hb dX1_isAtWork_16 (by decide) ?_
      refine lv_goto (tgt := 21) hx hb dX1_isAtWork_17 (by decide) ?_
      have hR := hR.symm
      subst hR
      exact W.zret (v := 1) hx hb hr rfl (fun t ht hW => ⟨⟨_, (), rfl, rfl, by rw [ht]; exact hP, hD⟩, hS.F ht⟩) hS.2.2 dX1_isAtWork_21
theorem nar_X1_isAtWork (σ : zS)  : narrow .boolean (.int (f_X1_isAtWork σ )) = .int (f_X1_isAtWork σ ) := by unfold f_X1_isAtWork; (repeat' split) <;> rfl
def f_X1_isWeary (σ : zS) (a1 : Int32) : Int32 := (if (σ 27 1) = (-1) then 0 else (if (a1 - (σ 27 3)) < 12 then 0 else 1))
theorem iX1_isWeary : ∀ w ∈ u_ws RX1 TX1 4, w ∈ wsX1_isWeary := by decide +kernel
set_option maxRecDepth 100000 in
theorem c_X1_isWeary (l : Launch) (G : va_G) (cs : Nat → ClassId) (ad : Nat → Nat) (tl : va_W) (σ : zS) (a1 : Int32)  : zMi l yX1_isWeary wsX1_isWeary { frames := 0, cells := 0, slots := 0, locals := 0 } G cs [.ref (ad 27), .int a1] (zw cs ad σ tl) (f_X1_isWeary σ a1) (zw cs ad σ tl) 0 0 := by
  intro sz
  refine Met.ofW (cc := cX1_isWeary) (maxL := 2) (ret := (some .boolean)) (by decide) rfl ?_
  intro p e s m args below meth c s₁ B hml hv
  obtain ⟨rfl, hsz, hP, hD0, hE⟩ := hv
  have hx := B.exec
  have hb := B.bytes
  have hr := B.returns
  have hts := atoms_spec (ws := wsX1_isWeary) B.pre
  have hown : s.vm.findClass RX1 = some m.cls := findClass_of_methodNamed B.named
  have hlocks := B.notSynchronized
  subst hsz
  have hD := hD0.self (sz := s.heap.size)
  have hA : ∀ q : Nat, s.heap.size ≤ q → (va_A (zw cs ad σ tl) s.heap.size) q := fun q h => Or.inr h
  generalize va_A (zw cs ad σ tl) s.heap.size = A at hD hE hA ⊢
  have hS : va_S A s.heap s.heap [] := va_S.rf
  have hl := lv_entry ([.ref (ad 27), .int a1]) (n := 2) (Nat.le_of_ble_eq_true rfl)
  rw [lg_entry_eq]
  generalize (lg_sl ([.ref (ad 27), .int a1]) ++ List.replicate (2 - (lg_sl ([.ref (ad 27), .int a1])).length) Slot.unset).toArray = ls at hl ⊢
  have hl : lv_has ls 2 [(0, .ref (ad 27)), (1, .int a1)] := hl
  generalize hR : (f_X1_isWeary σ a1) = RV
  have hR := hR.symm
  unfold f_X1_isWeary at hR
  obtain ⟨H, hH⟩ : ∃ z, z = s.heap := ⟨_, rfl⟩
  obtain ⟨locs, hlocs⟩ : ∃ z : List Loc, z = [] := ⟨_, rfl⟩
  rw [← hH] at hP
  have hS : va_S A s.heap H locs := by rw [hH, hlocs]; exact hS
  show W _ _ _ _ _ _ _ _ _ _ s.heap [] _ _ _ _
  rw [← hH, ← hlocs]
  clear hlocs
  refine lv_aload_n hx hb dX1_isWeary_0 rfl (lv_at hl 0 rfl) ?_
  refine va_get (D := G) (ci := 3) (v := .int (σ 27 1)) (C := RX1) (T := TX1) (N := 4) hx hb hts iX1_isWeary hown hE.1 hP 27 (zg_27 cs ad σ tl) rfl 1 (by decide) (hts (.fieldLink RX1 15 "HandoverDeck$CrewRoster" "current" "I") (by decide +kernel)) (fun _ h9 => h9) rfl dX1_isWeary_1 ?_
  refine lv_iconst (v := (-1)) hx hb dX1_isWeary_4 (by decide) ?_
  refine lv_icmp_eq (tgt := 23) hx hb dX1_isWeary_5 (by decide) (fun c_1 => ?_) (fun c_1 => ?_)
  · have hR := hR.trans (if_pos c_1)
    refine lv_iconst (v := 0) hx hb dX1_isWeary_23 (by decide) ?_
    have hR := hR.symm
    subst hR
    exact W.zret (v := 0) hx hb hr rfl (fun t ht hW => ⟨⟨_, (), rfl, rfl, by rw [ht]; exact hP, hD⟩, hS.F ht⟩) hS.2.2 dX1_isWeary_24
  · have hR := hR.trans (if_neg c_1)
    refine lv_iload_n hx hb dX1_isWeary_8 rfl (lv_at hl 1 rfl) ?_
    refine lv_aload_n hx hb dX1_isWeary_9 rfl (lv_at hl 0 rfl) ?_
    refine va_get (D := G) (ci := 3) (v := .int (σ 27 3)) (C := RX1) (T := TX1) (N := 4) hx hb hts iX1_isWeary hown hE.1 hP 27 (zg_27 cs ad σ tl) rfl 3 (by decide) (hts (.fieldLink RX1 22 "HandoverDeck$CrewRoster" "shiftStart" "I") (by decide +kernel)) (fun _ h9 => h9) rfl dX1_isWeary_10 ?_
    refine lv_isub hx hb dX1_isWeary_13 ?_
    refine lv_bipush (v := 12) hx hb dX1_isWeary_14 (by decide) ?_
    refine lv_icmp_lt (tgt := 23) hx hb dX1_isWeary_16 (by decide) (fun c_2 => ?_) (fun c_2 => ?_)
    · have hR := hR.trans (if_pos c_2)
      refine lv_iconst (v := 0) hx hb dX1_isWeary_23 (by decide) ?_
      have hR := hR.symm
      subst hR
      exact W.zret (v := 0) hx hb hr rfl (fun t ht hW => ⟨⟨_, (), rfl, rfl, by rw [ht]; exact hP, hD⟩, hS.F ht⟩) hS.2.2 dX1_isWeary_24
    · have hR := hR.trans (if_neg c_2)
      refine lv_iconst (v := 1) hx hb dX1_isWeary_19 (by decide) ?_
      refine lv_goto (tgt := 24) hx hb dX1_isWeary_20 (by decide) ?_
      have hR := hR.symm
      subst hR
      exact W.zret (v := 1) hx hb hr rfl (fun t ht hW => ⟨⟨_, (), rfl, rfl, by rw [ht]; exact hP, hD⟩, hS.F ht⟩) hS.2.2 dX1_isWeary_24
theorem nar_X1_isWeary (σ : zS) (a1 : Int32) : narrow .boolean (.int (f_X1_isWeary σ a1)) = .int (f_X1_isWeary σ a1) := by unfold f_X1_isWeary; (repeat' split) <;> rfl
def f_X1_restOf (σ : zS) (a1 : Int32) (a2 : Int32) : Int32 := (if (f_X5_isCrew a1) = 0 then 0 else (if (σ 28 a1.toNatClampNeg) ≤ a2 then 0 else ((σ 28 a1.toNatClampNeg) - a2)))
theorem iX1_restOf : ∀ w ∈ u_ws RX1 TX1 4, w ∈ wsX1_restOf := by decide +kernel
set_option maxRecDepth 100000 in
theorem c_X1_restOf (l : Launch) (G : va_G) (cs : Nat → ClassId) (ad : Nat → Nat) (tl : va_W) (σ : zS) (a1 : Int32) (a2 : Int32)  : zMi l yX1_restOf wsX1_restOf { frames := 1, cells := 0, slots := 0, locals := 20 } G cs [.ref (ad 27), .int a1, .int a2] (zw cs ad σ tl) (f_X1_restOf σ a1 a2) (zw cs ad σ tl) 0 0 := by
  intro sz
  refine Met.ofW (cc := cX1_restOf) (maxL := 3) (ret := (some .int)) (by decide) rfl ?_
  intro p e s m args below meth c s₁ B hml hv
  obtain ⟨rfl, hsz, hP, hD0, hE⟩ := hv
  have hx := B.exec
  have hb := B.bytes
  have hr := B.returns
  have hts := atoms_spec (ws := wsX1_restOf) B.pre
  have hown : s.vm.findClass RX1 = some m.cls := findClass_of_methodNamed B.named
  have hlocks := B.notSynchronized
  subst hsz
  have hD := hD0.self (sz := s.heap.size)
  have hA : ∀ q : Nat, s.heap.size ≤ q → (va_A (zw cs ad σ tl) s.heap.size) q := fun q h => Or.inr h
  generalize va_A (zw cs ad σ tl) s.heap.size = A at hD hE hA ⊢
  have hS : va_S A s.heap s.heap [] := va_S.rf
  have hl := lv_entry ([.ref (ad 27), .int a1, .int a2]) (n := 3) (Nat.le_of_ble_eq_true rfl)
  rw [lg_entry_eq]
  generalize (lg_sl ([.ref (ad 27), .int a1, .int a2]) ++ List.replicate (3 - (lg_sl ([.ref (ad 27), .int a1, .int a2])).length) Slot.unset).toArray = ls at hl ⊢
  have hl : lv_has ls 3 [(0, .ref (ad 27)), (1, .int a1), (2, .int a2)] := hl
  generalize hR : (f_X1_restOf σ a1 a2) = RV
  have hR := hR.symm
  unfold f_X1_restOf at hR
  obtain ⟨H, hH⟩ : ∃ z, z = s.heap := ⟨_, rfl⟩
  obtain ⟨locs, hlocs⟩ : ∃ z : List Loc, z = [] := ⟨_, rfl⟩
  rw [← hH] at hP
  have hS : va_S A s.heap H locs := by rw [hH, hlocs]; exact hS
  show W _ _ _ _ _ _ _ _ _ _ s.heap [] _ _ _ _
  rw [← hH, ← hlocs]
  clear hlocs
  refine lv_iload_n hx hb dX1_restOf_0 rfl (lv_at hl 1 rfl) ?_
  refine zai (va_runSN (As := [.int a1]) (rest := []) ⟨hx, hb, hml, hown, hts⟩ (c_X5_isCrew l G cs ad tl σ a1  H.size) ⟨va_cnB 1 hts gX1_restOf_X5_isCrew_n25 rfl rfl rfl (hE.2.1 _ (List.mem_of_getElem? (i := 0) rfl)) (hts (.initialized RX5) (by decide +kernel)) (by decide +kernel) ⟨Nat.le_of_ble_eq_true rfl, Nat.le_of_ble_eq_true rfl⟩, hts (.static yX5_isCrew) (by decide +kernel), trivial⟩ (zps hE hP hD hS hA) rfl rfl hl.1 rfl (lv_room (Nat.le_of_ble_eq_true rfl)) dX1_restOf_1 ⟨Nat.le_of_ble_eq_true rfl, Nat.le_of_ble_eq_true rfl⟩) hD hS hA (fun H locs hP hD hS => ?_)
  refine lv_if_eq (tgt := 28) hx hb dX1_restOf_4 (by decide) (fun c_1 => ?_) (fun c_1 => ?_)
  · have hR := hR.trans (if_pos c_1)
    refine lv_iconst (v := 0) hx hb dX1_restOf_28 (by decide) ?_
    have hR := hR.symm
    subst hR
    exact W.iret (v := 0) hx hb hr (fun t ht hW => ⟨⟨_, (), rfl, rfl, by rw [ht]; exact hP, hD⟩, hS.F ht⟩) hS.2.2 dX1_restOf_29
  · have hR := hR.trans (if_neg c_1)
    refine lv_aload_n hx hb dX1_restOf_7 rfl (lv_at hl 0 rfl) ?_
    refine va_get (D := G) (ci := 3) (v := .ref (ad 28)) (C := RX1) (T := TX1) (N := 4) hx hb hts iX1_restOf hown hE.1 hP 27 (zg_27 cs ad σ tl) rfl 0 (by decide) (hts (.fieldLink RX1 9 "HandoverDeck$CrewRoster" "restEnds" "[I") (by decide +kernel)) (fun _ h9 => h9) rfl dX1_restOf_8 ?_
    refine lv_iload_n hx hb dX1_restOf_11 rfl (lv_at hl 1 rfl) ?_
    refine z_iald (v := (σ 28 a1.toNatClampNeg)) hx hb hE hP (zg_28 cs ad σ tl) (vin_X5_isCrew c_1) rfl dX1_restOf_12 ?_
    refine lv_iload_n hx hb dX1_restOf_13 rfl (lv_at hl 2 rfl) ?_
    refine lv_icmp_le (tgt := 28) hx hb dX1_restOf_14 (by decide) (fun c_2 => ?_) (fun c_2 => ?_)
    · have hR := hR.trans (if_pos c_2)
      refine lv_iconst (v := 0) hx hb dX1_restOf_28 (by decide) ?_
      have hR := hR.symm
      subst hR
      exact W.iret (v := 0) hx hb hr (fun t ht hW => ⟨⟨_, (), rfl, rfl, by rw [ht]; exact hP, hD⟩, hS.F ht⟩) hS.2.2 dX1_restOf_29
    · have hR := hR.trans (if_neg c_2)
      refine lv_aload_n hx hb dX1_restOf_17 rfl (lv_at hl 0 rfl) ?_
      refine va_get (D := G) (ci := 3) (v := .ref (ad 28)) (C := RX1) (T := TX1) (N := 4) hx hb hts iX1_restOf hown hE.1 hP 27 (zg_27 cs ad σ tl) rfl 0 (by decide) (hts (.fieldLink RX1 9 "HandoverDeck$CrewRoster" "restEnds" "[I") (by decide +kernel)) (fun _ h9 => h9) rfl dX1_restOf_18 ?_
      refine lv_iload_n hx hb dX1_restOf_21 rfl (lv_at hl 1 rfl) ?_
      refine z_iald (v := (σ 28 a1.toNatClampNeg)) hx hb hE hP (zg_28 cs ad σ tl) (vin_X5_isCrew c_1) rfl dX1_restOf_22 ?_
      refine lv_iload_n hx hb dX1_restOf_23 rfl (lv_at hl 2 rfl) ?_
      refine lv_isub hx hb dX1_restOf_24 ?_
      refine lv_goto (tgt := 29) hx hb dX1_restOf_25 (by decide) ?_
      have hR := hR.symm
      subst hR
      exact W.iret (v := ((σ 28 a1.toNatClampNeg) - a2)) hx hb hr (fun t ht hW => ⟨⟨_, (), rfl, rfl, by rw [ht]; exact hP, hD⟩, hS.F ht⟩) hS.2.2 dX1_restOf_29
def f_X1_startShift (σ : zS) (a1 : Int32) (a2 : Int32) : zS := (zs (zs σ 27 1 a1) 27 3 a2)
theorem iX1_startShift : ∀ w ∈ u_ws RX1 TX1 4, w ∈ wsX1_startShift := by decide +kernel
set_option maxRecDepth 100000 in
theorem c_X1_startShift (l : Launch) (G : va_G) (cs : Nat → ClassId) (ad : Nat → Nat) (tl : va_W) (σ : zS) (a1 : Int32) (a2 : Int32)  : zMv l yX1_startShift wsX1_startShift { frames := 0, cells := 0, slots := 0, locals := 0 } G cs [.ref (ad 27), .int a1, .int a2] (zw cs ad σ tl) (zw cs ad (f_X1_startShift σ a1 a2) tl) 0 0 := by
  intro sz
  refine Met.ofW (cc := cX1_startShift) (maxL := 3) (ret := none) (by decide) rfl ?_
  intro p e s m args below meth c s₁ B hml hv
  obtain ⟨rfl, hsz, hP, hD0, hE⟩ := hv
  have hx := B.exec
  have hb := B.bytes
  have hr := B.returns
  have hts := atoms_spec (ws := wsX1_startShift) B.pre
  have hown : s.vm.findClass RX1 = some m.cls := findClass_of_methodNamed B.named
  have hlocks := B.notSynchronized
  subst hsz
  have hD := hD0.self (sz := s.heap.size)
  have hA : ∀ q : Nat, s.heap.size ≤ q → (va_A (zw cs ad σ tl) s.heap.size) q := fun q h => Or.inr h
  generalize va_A (zw cs ad σ tl) s.heap.size = A at hD hE hA ⊢
  have hS : va_S A s.heap s.heap [] := va_S.rf
  have hl := lv_entry ([.ref (ad 27), .int a1, .int a2]) (n := 3) (Nat.le_of_ble_eq_true rfl)
  rw [lg_entry_eq]
  generalize (lg_sl ([.ref (ad 27), .int a1, .int a2]) ++ List.replicate (3 - (lg_sl ([.ref (ad 27), .int a1, .int a2])).length) Slot.unset).toArray = ls at hl ⊢
  have hl : lv_has ls 3 [(0, .ref (ad 27)), (1, .int a1), (2, .int a2)] := hl
  generalize hR : (f_X1_startShift σ a1 a2) = RV
  have hR := hR.symm
  unfold f_X1_startShift at hR
  obtain ⟨H, hH⟩ : ∃ z, z = s.heap := ⟨_, rfl⟩
  obtain ⟨locs, hlocs⟩ : ∃ z : List Loc, z = [] := ⟨_, rfl⟩
  rw [← hH] at hP
  have hS : va_S A s.heap H locs := by rw [hH, hlocs]; exact hS
  show W _ _ _ _ _ _ _ _ _ _ s.heap [] _ _ _ _
  rw [← hH, ← hlocs]
  clear hlocs
  refine lv_aload_n hx hb dX1_startShift_0 rfl (lv_at hl 0 rfl) ?_
  refine lv_iload_n hx hb dX1_startShift_1 rfl (lv_at hl 1 rfl) ?_
  refine va_put (D := G) (ci := 3) (v := .int a1) (ty := .int) (C := RX1) (T := TX1) (N := 4) hx hb hts iX1_startShift tyX1 tyX1_ok nmX1 hown hE.1 hP hD hS 27 (zg_27 cs ad σ tl) rfl 1 (by decide) (hts (.fieldLink RX1 15 "HandoverDeck$CrewRoster" "current" "I") (by decide +kernel)) (fun _ h9 => h9) rfl (by decide +kernel) rfl rfl (Nat.le_of_ble_eq_true rfl) dX1_startShift_2 (fun H locs hP hD hS => ?_)
  rw [zb_27_1 cs ad σ tl] at hP hD
  refine lv_aload_n hx hb dX1_startShift_5 rfl (lv_at hl 0 rfl) ?_
  refine lv_iload_n hx hb dX1_startShift_6 rfl (lv_at hl 2 rfl) ?_
  refine va_put (D := G) (ci := 3) (v := .int a2) (ty := .int) (C := RX1) (T := TX1) (N := 4) hx hb hts iX1_startShift tyX1 tyX1_ok nmX1 hown hE.1 hP hD hS 27 (zg_27 cs ad (zs σ 27 1 a1) tl) rfl 3 (by decide) (hts (.fieldLink RX1 22 "HandoverDeck$CrewRoster" "shiftStart" "I") (by decide +kernel)) (fun _ h9 => h9) rfl (by decide +kernel) rfl rfl (Nat.le_of_ble_eq_true rfl) dX1_startShift_7 (fun H locs hP hD hS => ?_)
  rw [zb_27_3 cs ad (zs σ 27 1 a1) tl] at hP hD
  have hR := hR.symm
  subst hR
  exact W.vret hx hb hr (fun t ht hW => ⟨⟨(), rfl, trivial, by rw [ht]; exact hP, hD⟩, hS.F ht⟩) hS.2.2 dX1_startShift_10
def f_X1_startHandOver (σ : zS) (a1 : Int32) : zS := (zs σ 27 2 a1)
theorem iX1_startHandOver : ∀ w ∈ u_ws RX1 TX1 4, w ∈ wsX1_startHandOver := by decide +kernel
set_option maxRecDepth 100000 in
theorem c_X1_startHandOver (l : Launch) (G : va_G) (cs : Nat → ClassId) (ad : Nat → Nat) (tl : va_W) (σ : zS) (a1 : Int32)  : zMv l yX1_startHandOver wsX1_startHandOver { frames := 0, cells := 0, slots := 0, locals := 0 } G cs [.ref (ad 27), .int a1] (zw cs ad σ tl) (zw cs ad (f_X1_startHandOver σ a1) tl) 0 0 := by
  intro sz
  refine Met.ofW (cc := cX1_startHandOver) (maxL := 2) (ret := none) (by decide) rfl ?_
  intro p e s m args below meth c s₁ B hml hv
  obtain ⟨rfl, hsz, hP, hD0, hE⟩ := hv
  have hx := B.exec
  have hb := B.bytes
  have hr := B.returns
  have hts := atoms_spec (ws := wsX1_startHandOver) B.pre
  have hown : s.vm.findClass RX1 = some m.cls := findClass_of_methodNamed B.named
  have hlocks := B.notSynchronized
  subst hsz
  have hD := hD0.self (sz := s.heap.size)
  have hA : ∀ q : Nat, s.heap.size ≤ q → (va_A (zw cs ad σ tl) s.heap.size) q := fun q h => Or.inr h
  generalize va_A (zw cs ad σ tl) s.heap.size = A at hD hE hA ⊢
  have hS : va_S A s.heap s.heap [] := va_S.rf
  have hl := lv_entry ([.ref (ad 27), .int a1]) (n := 2) (Nat.le_of_ble_eq_true rfl)
  rw [lg_entry_eq]
  generalize (lg_sl ([.ref (ad 27), .int a1]) ++ List.replicate (2 - (lg_sl ([.ref (ad 27), .int a1])).length) Slot.unset).toArray = ls at hl ⊢
  have hl : lv_has ls 2 [(0, .ref (ad 27)), (1, .int a1)] := hl
  generalize hR : (f_X1_startHandOver σ a1) = RV
  have hR := hR.symm
  unfold f_X1_startHandOver at hR
  obtain ⟨H, hH⟩ : ∃ z, z = s.heap := ⟨_, rfl⟩
  obtain ⟨locs, hlocs⟩ : ∃ z : List Loc, z = [] := ⟨_, rfl⟩
  rw [← hH] at hP
  have hS : va_S A s.heap H locs := by rw [hH, hlocs]; exact hS
  show W _ _ _ _ _ _ _ _ _ _ s.heap [] _ _ _ _
  rw [← hH, ← hlocs]
  clear hlocs
  refine lv_aload_n hx hb dX1_startHandOver_0 rfl (lv_at hl 0 rfl) ?_
  refine lv_iload_n hx hb dX1_startHandOver_1 rfl (lv_at hl 1 rfl) ?_
  refine va_put (D := G) (ci := 3) (v := .int a1) (ty := .int) (C := RX1) (T := TX1) (N := 4) hx hb hts iX1_startHandOver tyX1 tyX1_ok nmX1 hown hE.1 hP hD hS 27 (zg_27 cs ad σ tl) rfl 2 (by decide) (hts (.fieldLink RX1 19 "HandoverDeck$CrewRoster" "coming" "I") (by decide +kernel)) (fun _ h9 => h9) rfl (by decide +kernel) rfl rfl (Nat.le_of_ble_eq_true rfl) dX1_startHandOver_2 (fun H locs hP hD hS => ?_)
  rw [zb_27_2 cs ad σ tl] at hP hD
  have hR := hR.symm
  subst hR
  exact W.vret hx hb hr (fun t ht hW => ⟨⟨(), rfl, trivial, by rw [ht]; exact hP, hD⟩, hS.F ht⟩) hS.2.2 dX1_startHandOver_5
def f_X1_stopHandOver (σ : zS)  : zS := (zs σ 27 2 (-1))
theorem iX1_stopHandOver : ∀ w ∈ u_ws RX1 TX1 4, w ∈ wsX1_stopHandOver := by decide +kernel
set_option maxRecDepth 100000 in
theorem c_X1_stopHandOver (l : Launch) (G : va_G) (cs : Nat → ClassId) (ad : Nat → Nat) (tl : va_W) (σ : zS)   : zMv l yX1_stopHandOver wsX1_stopHandOver { frames := 0, cells := 0, slots := 0, locals := 0 } G cs [.ref (ad 27)] (zw cs ad σ tl) (zw cs ad (f_X1_stopHandOver σ ) tl) 0 0 := by
  intro sz
  refine Met.ofW (cc := cX1_stopHandOver) (maxL := 1) (ret := none) (by decide) rfl ?_
  intro p e s m args below meth c s₁ B hml hv
  obtain ⟨rfl, hsz, hP, hD0, hE⟩ := hv
  have hx := B.exec
  have hb := B.bytes
  have hr := B.returns
  have hts := atoms_spec (ws := wsX1_stopHandOver) B.pre
  have hown : s.vm.findClass RX1 = some m.cls := findClass_of_methodNamed B.named
  have hlocks := B.notSynchronized
  subst hsz
  have hD := hD0.self (sz := s.heap.size)
  have hA : ∀ q : Nat, s.heap.size ≤ q → (va_A (zw cs ad σ tl) s.heap.size) q := fun q h => Or.inr h
  generalize va_A (zw cs ad σ tl) s.heap.size = A at hD hE hA ⊢
  have hS : va_S A s.heap s.heap [] := va_S.rf
  have hl := lv_entry ([.ref (ad 27)]) (n := 1) (Nat.le_of_ble_eq_true rfl)
  rw [lg_entry_eq]
  generalize (lg_sl ([.ref (ad 27)]) ++ List.replicate (1 - (lg_sl ([.ref (ad 27)])).length) Slot.unset).toArray = ls at hl ⊢
  have hl : lv_has ls 1 [(0, .ref (ad 27))] := hl
  generalize hR : (f_X1_stopHandOver σ ) = RV
  have hR := hR.symm
  unfold f_X1_stopHandOver at hR
  obtain ⟨H, hH⟩ : ∃ z, z = s.heap := ⟨_, rfl⟩
  obtain ⟨locs, hlocs⟩ : ∃ z : List Loc, z = [] := ⟨_, rfl⟩
  rw [← hH] at hP
  have hS : va_S A s.heap H locs := by rw [hH, hlocs]; exact hS
  show W _ _ _ _ _ _ _ _ _ _ s.heap [] _ _ _ _
  rw [← hH, ← hlocs]
  clear hlocs
  refine lv_aload_n hx hb dX1_stopHandOver_0 rfl (lv_at hl 0 rfl) ?_
  refine lv_iconst (v := (-1)) hx hb dX1_stopHandOver_1 (by decide) ?_
  refine va_put (D := G) (ci := 3) (v := .int (-1)) (ty := .int) (C := RX1) (T := TX1) (N := 4) hx hb hts iX1_stopHandOver tyX1 tyX1_ok nmX1 hown hE.1 hP hD hS 27 (zg_27 cs ad σ tl) rfl 2 (by decide) (hts (.fieldLink RX1 19 "HandoverDeck$CrewRoster" "coming" "I") (by decide +kernel)) (fun _ h9 => h9) rfl (by decide +kernel) rfl rfl (Nat.le_of_ble_eq_true rfl) dX1_stopHandOver_2 (fun H locs hP hD hS => ?_)
  rw [zb_27_2 cs ad σ tl] at hP hD
  have hR := hR.symm
  subst hR
  exact W.vret hx hb hr (fun t ht hW => ⟨⟨(), rfl, trivial, by rw [ht]; exact hP, hD⟩, hS.F ht⟩) hS.2.2 dX1_stopHandOver_5
def f_X1_changeShift (σ : zS) (a1 : Int32) : zS := (if (f_X5_isCrew (σ 27 1)) = 0 then (f_X1_stopHandOver (f_X1_startShift σ (σ 27 2) a1) ) else (f_X1_stopHandOver (f_X1_startShift (zs σ 28 (σ 27 1).toNatClampNeg (a1 + 11)) (σ 27 2) a1) ))
theorem iX1_changeShift : ∀ w ∈ u_ws RX1 TX1 4, w ∈ wsX1_changeShift := by decide +kernel
set_option maxRecDepth 100000 in
theorem c_X1_changeShift (l : Launch) (G : va_G) (cs : Nat → ClassId) (ad : Nat → Nat) (tl : va_W) (σ : zS) (a1 : Int32)  : zMv l yX1_changeShift wsX1_changeShift { frames := 1, cells := 0, slots := 0, locals := 22 } G cs [.ref (ad 27), .int a1] (zw cs ad σ tl) (zw cs ad (f_X1_changeShift σ a1) tl) 0 0 := by
  intro sz
  refine Met.ofW (cc := cX1_changeShift) (maxL := 2) (ret := none) (by decide) rfl ?_
  intro p e s m args below meth c s₁ B hml hv
  obtain ⟨rfl, hsz, hP, hD0, hE⟩ := hv
  have hx := B.exec
  have hb := B.bytes
  have hr := B.returns
  have hts := atoms_spec (ws := wsX1_changeShift) B.pre
  have hown : s.vm.findClass RX1 = some m.cls := findClass_of_methodNamed B.named
  have hlocks := B.notSynchronized
  subst hsz
  have hD := hD0.self (sz := s.heap.size)
  have hA : ∀ q : Nat, s.heap.size ≤ q → (va_A (zw cs ad σ tl) s.heap.size) q := fun q h => Or.inr h
  generalize va_A (zw cs ad σ tl) s.heap.size = A at hD hE hA ⊢
  have hS : va_S A s.heap s.heap [] := va_S.rf
  have hl := lv_entry ([.ref (ad 27), .int a1]) (n := 2) (Nat.le_of_ble_eq_true rfl)
  rw [lg_entry_eq]
  generalize (lg_sl ([.ref (ad 27), .int a1]) ++ List.replicate (2 - (lg_sl ([.ref (ad 27), .int a1])).length) Slot.unset).toArray = ls at hl ⊢
  have hl : lv_has ls 2 [(0, .ref (ad 27)), (1, .int a1)] := hl
  generalize hR : (f_X1_changeShift σ a1) = RV
  have hR := hR.symm
  unfold f_X1_changeShift at hR
  obtain ⟨H, hH⟩ : ∃ z, z = s.heap := ⟨_, rfl⟩
  obtain ⟨locs, hlocs⟩ : ∃ z : List Loc, z = [] := ⟨_, rfl⟩
  rw [← hH] at hP
  have hS : va_S A s.heap H locs := by rw [hH, hlocs]; exact hS
  show W _ _ _ _ _ _ _ _ _ _ s.heap [] _ _ _ _
  rw [← hH, ← hlocs]
  clear hlocs
  refine lv_aload_n hx hb dX1_changeShift_0 rfl (lv_at hl 0 rfl) ?_
  refine va_get (D := G) (ci := 3) (v := .int (σ 27 1)) (C := RX1) (T := TX1) (N := 4) hx hb hts iX1_changeShift hown hE.1 hP 27 (zg_27 cs ad σ tl) rfl 1 (by decide) (hts (.fieldLink RX1 15 "HandoverDeck$CrewRoster" "current" "I") (by decide +kernel)) (fun _ h9 => h9) rfl dX1_changeShift_1 ?_
  refine zai (va_runSN (As := [.int (σ 27 1)]) (rest := []) ⟨hx, hb, hml, hown, hts⟩ (c_X5_isCrew l G cs ad tl σ (σ 27 1)  H.size) ⟨va_cnB 1 hts gX1_changeShift_X5_isCrew_n25 rfl rfl rfl (hE.2.1 _ (List.mem_of_getElem? (i := 0) rfl)) (hts (.initialized RX5) (by decide +kernel)) (by decide +kernel) ⟨Nat.le_of_ble_eq_true rfl, Nat.le_of_ble_eq_true rfl⟩, hts (.static yX5_isCrew) (by decide +kernel), trivial⟩ (zps hE hP hD hS hA) rfl rfl hl.1 rfl (lv_room (Nat.le_of_ble_eq_true rfl)) dX1_changeShift_4 ⟨Nat.le_of_ble_eq_true rfl, Nat.le_of_ble_eq_true rfl⟩) hD hS hA (fun H locs hP hD hS => ?_)
  refine lv_if_eq (tgt := 23) hx hb dX1_changeShift_7 (by decide) (fun c_1 => ?_) (fun c_1 => ?_)
  · have hR := hR.trans (if_pos c_1)
    refine lv_aload_n hx hb dX1_changeShift_23 rfl (lv_at hl 0 rfl) ?_
    refine lv_aload_n hx hb dX1_changeShift_24 rfl (lv_at hl 0 rfl) ?_
    refine va_get (D := G) (ci := 3) (v := .int (σ 27 2)) (C := RX1) (T := TX1) (N := 4) hx hb hts iX1_changeShift hown hE.1 hP 27 (zg_27 cs ad σ tl) rfl 2 (by decide) (hts (.fieldLink RX1 19 "HandoverDeck$CrewRoster" "coming" "I") (by decide +kernel)) (fun _ h9 => h9) rfl dX1_changeShift_25 ?_
    refine lv_iload_n hx hb dX1_changeShift_28 rfl (lv_at hl 1 rfl) ?_
    refine zav (va_runV (As := [.int (σ 27 2), .int a1]) (rest := []) ⟨hx, hb, hml, hown, hts⟩ (c_X1_startShift l G cs ad tl σ (σ 27 2) a1  H.size) (cwV 2 hts gX1_changeShift_X1_startShift rfl rfl rfl (by decide +kernel) ⟨Nat.le_of_ble_eq_true rfl, Nat.le_of_ble_eq_true rfl⟩) (zpv hE hP hD hS hA (zg_27 cs ad σ tl) rfl) rfl rfl hl.1 rfl (lv_room (Nat.le_of_ble_eq_true rfl)) dX1_changeShift_29 ⟨Nat.le_of_ble_eq_true rfl, Nat.le_of_ble_eq_true rfl⟩) hD hS hA (fun H locs hP hD hS => ?_)
    refine lv_aload_n hx hb dX1_changeShift_32 rfl (lv_at hl 0 rfl) ?_
    refine zav (va_runV (As := []) (rest := []) ⟨hx, hb, hml, hown, hts⟩ (c_X1_stopHandOver l G cs ad tl (f_X1_startShift σ (σ 27 2) a1)   H.size) (cwV 0 hts gX1_changeShift_X1_stopHandOver rfl rfl rfl (by decide +kernel) ⟨Nat.le_of_ble_eq_true rfl, Nat.le_of_ble_eq_true rfl⟩) (zpv hE hP hD hS hA (zg_27 cs ad (f_X1_startShift σ (σ 27 2) a1) tl) rfl) rfl rfl hl.1 rfl (lv_room (Nat.le_of_ble_eq_true rfl)) dX1_changeShift_33 ⟨Nat.le_of_ble_eq_true rfl, Nat.le_of_ble_eq_true rfl⟩) hD hS hA (fun H locs hP hD hS => ?_)
    have hR := hR.symm
    subst hR
    exact W.vret hx hb hr (fun t ht hW => ⟨⟨(), rfl, trivial, by rw [ht]; exact hP, hD⟩, hS.F ht⟩) hS.2.2 dX1_changeShift_36
  · have hR := hR.trans (if_neg c_1)
    refine lv_aload_n hx hb dX1_changeShift_10 rfl (lv_at hl 0 rfl) ?_
    refine va_get (D := G) (ci := 3) (v := .ref (ad 28)) (C := RX1) (T := TX1) (N := 4) hx hb hts iX1_changeShift hown hE.1 hP 27 (zg_27 cs ad σ tl) rfl 0 (by decide) (hts (.fieldLink RX1 9 "HandoverDeck$CrewRoster" "restEnds" "[I") (by decide +kernel)) (fun _ h9 => h9) rfl dX1_changeShift_11 ?_
    refine lv_aload_n hx hb dX1_changeShift_14 rfl (lv_at hl 0 rfl) ?_
    refine va_get (D := G) (ci := 3) (v := .int (σ 27 1)) (C := RX1) (T := TX1) (N := 4) hx hb hts iX1_changeShift hown hE.1 hP 27 (zg_27 cs ad σ tl) rfl 1 (by decide) (hts (.fieldLink RX1 15 "HandoverDeck$CrewRoster" "current" "I") (by decide +kernel)) (fun _ h9 => h9) rfl dX1_changeShift_15 ?_
    refine lv_iload_n hx hb dX1_changeShift_18 rfl (lv_at hl 1 rfl) ?_
    refine lv_bipush (v := 11) hx hb dX1_changeShift_19 (by decide) ?_
    refine lv_iadd hx hb dX1_changeShift_21 ?_
    refine z_iast hx hb hE hP hD hS (zg_28 cs ad σ tl) (zb_28 cs ad σ tl) (vin_X5_isCrew c_1) dX1_changeShift_22 (fun H locs hP hD hS => ?_)
    refine lv_aload_n hx hb dX1_changeShift_23 rfl (lv_at hl 0 rfl) ?_
    refine lv_aload_n hx hb dX1_changeShift_24 rfl (lv_at hl 0 rfl) ?_
    refine va_get (D := G) (ci := 3) (v := .int (σ 27 2)) (C := RX1) (T := TX1) (N := 4) hx hb hts iX1_changeShift hown hE.1 hP 27 (zg_27 cs ad (zs σ 28 (σ 27 1).toNatClampNeg (a1 + 11)) tl) rfl 2 (by decide) (hts (.fieldLink RX1 19 "HandoverDeck$CrewRoster" "coming" "I") (by decide +kernel)) (fun _ h9 => h9) rfl dX1_changeShift_25 ?_
    refine lv_iload_n hx hb dX1_changeShift_28 rfl (lv_at hl 1 rfl) ?_
    refine zav (va_runV (As := [.int (σ 27 2), .int a1]) (rest := []) ⟨hx, hb, hml, hown, hts⟩ (c_X1_startShift l G cs ad tl (zs σ 28 (σ 27 1).toNatClampNeg (a1 + 11)) (σ 27 2) a1  H.size) (cwV 2 hts gX1_changeShift_X1_startShift rfl rfl rfl (by decide +kernel) ⟨Nat.le_of_ble_eq_true rfl, Nat.le_of_ble_eq_true rfl⟩) (zpv hE hP hD hS hA (zg_27 cs ad (zs σ 28 (σ 27 1).toNatClampNeg (a1 + 11)) tl) rfl) rfl rfl hl.1 rfl (lv_room (Nat.le_of_ble_eq_true rfl)) dX1_changeShift_29 ⟨Nat.le_of_ble_eq_true rfl, Nat.le_of_ble_eq_true rfl⟩) hD hS hA (fun H locs hP hD hS => ?_)
    refine lv_aload_n hx hb dX1_changeShift_32 rfl (lv_at hl 0 rfl) ?_
    refine zav (va_runV (As := []) (rest := []) ⟨hx, hb, hml, hown, hts⟩ (c_X1_stopHandOver l G cs ad tl (f_X1_startShift (zs σ 28 (σ 27 1).toNatClampNeg (a1 + 11)) (σ 27 2) a1)   H.size) (cwV 0 hts gX1_changeShift_X1_stopHandOver rfl rfl rfl (by decide +kernel) ⟨Nat.le_of_ble_eq_true rfl, Nat.le_of_ble_eq_true rfl⟩) (zpv hE hP hD hS hA (zg_27 cs ad (f_X1_startShift (zs σ 28 (σ 27 1).toNatClampNeg (a1 + 11)) (σ 27 2) a1) tl) rfl) rfl rfl hl.1 rfl (lv_room (Nat.le_of_ble_eq_true rfl)) dX1_changeShift_33 ⟨Nat.le_of_ble_eq_true rfl, Nat.le_of_ble_eq_true rfl⟩) hD hS hA (fun H locs hP hD hS => ?_)
    have hR := hR.symm
    subst hR
    exact W.vret hx hb hr (fun t ht hW => ⟨⟨(), rfl, trivial, by rw [ht]; exact hP, hD⟩, hS.F ht⟩) hS.2.2 dX1_changeShift_36
def f_X4_isFull (σ : zS)  : Int32 := (if (σ 13 9) < 6 then 0 else 1)
theorem iX4_isFull : ∀ w ∈ u_ws RX4 TX4 10, w ∈ wsX4_isFull := by decide +kernel
set_option maxRecDepth 100000 in
theorem c_X4_isFull (l : Launch) (G : va_G) (cs : Nat → ClassId) (ad : Nat → Nat) (tl : va_W) (σ : zS)   : zMi l yX4_isFull wsX4_isFull { frames := 0, cells := 0, slots := 0, locals := 0 } G cs [.ref (ad 13)] (zw cs ad σ tl) (f_X4_isFull σ ) (zw cs ad σ tl) 0 0 := by
  intro sz
  refine Met.ofW (cc := cX4_isFull) (maxL := 1) (ret := (some .boolean)) (by decide) rfl ?_
  intro p e s m args below meth c s₁ B hml hv
  obtain ⟨rfl, hsz, hP, hD0, hE⟩ := hv
  have hx := B.exec
  have hb := B.bytes
  have hr := B.returns
  have hts := atoms_spec (ws := wsX4_isFull) B.pre
  have hown : s.vm.findClass RX4 = some m.cls := findClass_of_methodNamed B.named
  have hlocks := B.notSynchronized
  subst hsz
  have hD := hD0.self (sz := s.heap.size)
  have hA : ∀ q : Nat, s.heap.size ≤ q → (va_A (zw cs ad σ tl) s.heap.size) q := fun q h => Or.inr h
  generalize va_A (zw cs ad σ tl) s.heap.size = A at hD hE hA ⊢
  have hS : va_S A s.heap s.heap [] := va_S.rf
  have hl := lv_entry ([.ref (ad 13)]) (n := 1) (Nat.le_of_ble_eq_true rfl)
  rw [lg_entry_eq]
  generalize (lg_sl ([.ref (ad 13)]) ++ List.replicate (1 - (lg_sl ([.ref (ad 13)])).length) Slot.unset).toArray = ls at hl ⊢
  have hl : lv_has ls 1 [(0, .ref (ad 13))] := hl
  generalize hR : (f_X4_isFull σ ) = RV
  have hR := hR.symm
  unfold f_X4_isFull at hR
  obtain ⟨H, hH⟩ : ∃ z, z = s.heap := ⟨_, rfl⟩
  obtain ⟨locs, hlocs⟩ : ∃ z : List Loc, z = [] := ⟨_, rfl⟩
  rw [← hH] at hP
  have hS : va_S A s.heap H locs := by rw [hH, hlocs]; exact hS
  show W _ _ _ _ _ _ _ _ _ _ s.heap [] _ _ _ _
  rw [← hH, ← hlocs]
  clear hlocs
  refine lv_aload_n hx hb dX4_isFull_0 rfl (lv_at hl 0 rfl) ?_
  refine va_get (D := G) (ci := 6) (v := .int (σ 13 9)) (C := RX4) (T := TX4) (N := 10) hx hb hts iX4_isFull hown hE.1 hP 13 (zg_13 cs ad σ tl) rfl 9 (by decide) (hts (.fieldLink RX4 39 "HandoverDeck$ProcedureBook" "procedureCount" "I") (by decide +kernel)) (fun _ h9 => h9) rfl dX4_isFull_1 ?_
  refine lv_bipush (v := 6) hx hb dX4_isFull_4 (by decide) ?_
  refine lv_icmp_lt (tgt := 13) hx hb dX4_isFull_6 (by decide) (fun c_1 => ?_) (fun c_1 => ?_)
  · have hR := hR.trans (if_pos c_1)
    refine lv_iconst (v := 0) hx hb dX4_isFull_13 (by decide) ?_
    have hR := hR.symm
    subst hR
    exact W.zret (v := 0) hx hb hr rfl (fun t ht hW => ⟨⟨_, (), rfl, rfl, by rw [ht]; exact hP, hD⟩, hS.F ht⟩) hS.2.2 dX4_isFull_14
  · have hR := hR.trans (if_neg c_1)
    refine lv_iconst (v := 1) hx hb dX4_isFull_9 (by decide) ?_
    refine lv_goto (tgt := 14) hx hb dX4_isFull_10 (by decide) ?_
    have hR := hR.symm
    subst hR
    exact W.zret (v := 1) hx hb hr rfl (fun t ht hW => ⟨⟨_, (), rfl, rfl, by rw [ht]; exact hP, hD⟩, hS.F ht⟩) hS.2.2 dX4_isFull_14
theorem nar_X4_isFull (σ : zS)  : narrow .boolean (.int (f_X4_isFull σ )) = .int (f_X4_isFull σ ) := by unfold f_X4_isFull; (repeat' split) <;> rfl
def f_X4_hasProcedure (σ : zS) (a1 : Int32) : Int32 := (if a1 < 0 then 0 else (if (σ 13 9) ≤ a1 then 0 else (if 6 ≤ a1 then 0 else 1)))
theorem iX4_hasProcedure : ∀ w ∈ u_ws RX4 TX4 10, w ∈ wsX4_hasProcedure := by decide +kernel
set_option maxRecDepth 100000 in
theorem c_X4_hasProcedure (l : Launch) (G : va_G) (cs : Nat → ClassId) (ad : Nat → Nat) (tl : va_W) (σ : zS) (a1 : Int32)  : zMi l yX4_hasProcedure wsX4_hasProcedure { frames := 0, cells := 0, slots := 0, locals := 0 } G cs [.ref (ad 13), .int a1] (zw cs ad σ tl) (f_X4_hasProcedure σ a1) (zw cs ad σ tl) 0 0 := by
  intro sz
  refine Met.ofW (cc := cX4_hasProcedure) (maxL := 2) (ret := (some .boolean)) (by decide) rfl ?_
  intro p e s m args below meth c s₁ B hml hv
  obtain ⟨rfl, hsz, hP, hD0, hE⟩ := hv
  have hx := B.exec
  have hb := B.bytes
  have hr := B.returns
  have hts := atoms_spec (ws := wsX4_hasProcedure) B.pre
  have hown : s.vm.findClass RX4 = some m.cls := findClass_of_methodNamed B.named
  have hlocks := B.notSynchronized
  subst hsz
  have hD := hD0.self (sz := s.heap.size)
  have hA : ∀ q : Nat, s.heap.size ≤ q → (va_A (zw cs ad σ tl) s.heap.size) q := fun q h => Or.inr h
  generalize va_A (zw cs ad σ tl) s.heap.size = A at hD hE hA ⊢
  have hS : va_S A s.heap s.heap [] := va_S.rf
  have hl := lv_entry ([.ref (ad 13), .int a1]) (n := 2) (Nat.le_of_ble_eq_true rfl)
  rw [lg_entry_eq]
  generalize (lg_sl ([.ref (ad 13), .int a1]) ++ List.replicate (2 - (lg_sl ([.ref (ad 13), .int a1])).length) Slot.unset).toArray = ls at hl ⊢
  have hl : lv_has ls 2 [(0, .ref (ad 13)), (1, .int a1)] := hl
  generalize hR : (f_X4_hasProcedure σ a1) = RV
  have hR := hR.symm
  unfold f_X4_hasProcedure at hR
  obtain ⟨H, hH⟩ : ∃ z, z = s.heap := ⟨_, rfl⟩
  obtain ⟨locs, hlocs⟩ : ∃ z : List Loc, z = [] := ⟨_, rfl⟩
  rw [← hH] at hP
  have hS : va_S A s.heap H locs := by rw [hH, hlocs]; exact hS
  show W _ _ _ _ _ _ _ _ _ _ s.heap [] _ _ _ _
  rw [← hH, ← hlocs]
  clear hlocs
  refine lv_iload_n hx hb dX4_hasProcedure_0 rfl (lv_at hl 1 rfl) ?_
  refine lv_if_lt (tgt := 22) hx hb dX4_hasProcedure_1 (by decide) (fun c_1 => ?_) (fun c_1 => ?_)
  · have hR := hR.trans (if_pos c_1)
    refine lv_iconst (v := 0) hx hb dX4_hasProcedure_22 (by decide) ?_
    have hR := hR.symm
    subst hR
    exact W.zret (v := 0) hx hb hr rfl (fun t ht hW => ⟨⟨_, (), rfl, rfl, by rw [ht]; exact hP, hD⟩, hS.F ht⟩) hS.2.2 dX4_hasProcedure_23
  · have hR := hR.trans (if_neg c_1)
    refine lv_iload_n hx hb dX4_hasProcedure_4 rfl (lv_at hl 1 rfl) ?_
    refine lv_aload_n hx hb dX4_hasProcedure_5 rfl (lv_at hl 0 rfl) ?_
    refine va_get (D := G) (ci := 6) (v := .int (σ 13 9)) (C := RX4) (T := TX4) (N := 10) hx hb hts iX4_hasProcedure hown hE.1 hP 13 (zg_13 cs ad σ tl) rfl 9 (by decide) (hts (.fieldLink RX4 39 "HandoverDeck$ProcedureBook" "procedureCount" "I") (by decide +kernel)) (fun _ h9 => h9) rfl dX4_hasProcedure_6 ?_
    refine lv_icmp_ge (tgt := 22) hx hb dX4_hasProcedure_9 (by decide) (fun c_2 => ?_) (fun c_2 => ?_)
    · have hR := hR.trans (if_pos c_2)
      refine lv_iconst (v := 0) hx hb dX4_hasProcedure_22 (by decide) ?_
      have hR := hR.symm
      subst hR
      exact W.zret (v := 0) hx hb hr rfl (fun t ht hW => ⟨⟨_, (), rfl, rfl, by rw [ht]; exact hP, hD⟩, hS.F ht⟩) hS.2.2 dX4_hasProcedure_23
    · have hR := hR.trans (if_neg c_2)
      refine lv_iload_n hx hb dX4_hasProcedure_12 rfl (lv_at hl 1 rfl) ?_
      refine lv_bipush (v := 6) hx hb dX4_hasProcedure_13 (by decide) ?_
      refine lv_icmp_ge (tgt := 22) hx hb dX4_hasProcedure_15 (by decide) (fun c_3 => ?_) (fun c_3 => ?_)
      · have hR := hR.trans (if_pos c_3)
        refine lv_iconst (v := 0) hx hb dX4_hasProcedure_22 (by decide) ?_
        have hR := hR.symm
        subst hR
        exact W.zret (v := 0) hx hb hr rfl (fun t ht hW => ⟨⟨_, (), rfl, rfl, by rw [ht]; exact hP, hD⟩, hS.F ht⟩) hS.2.2 dX4_hasProcedure_23
      · have hR := hR.trans (if_neg c_3)
        refine lv_iconst (v := 1) hx hb dX4_hasProcedure_18 (by decide) ?_
        refine lv_goto (tgt := 23) hx hb dX4_hasProcedure_19 (by decide) ?_
        have hR := hR.symm
        subst hR
        exact W.zret (v := 1) hx hb hr rfl (fun t ht hW => ⟨⟨_, (), rfl, rfl, by rw [ht]; exact hP, hD⟩, hS.F ht⟩) hS.2.2 dX4_hasProcedure_23
theorem nar_X4_hasProcedure (σ : zS) (a1 : Int32) : narrow .boolean (.int (f_X4_hasProcedure σ a1)) = .int (f_X4_hasProcedure σ a1) := by unfold f_X4_hasProcedure; (repeat' split) <;> rfl
theorem vin_X4_hasProcedure {σ : zS} {a1 : Int32} (h : ¬ (f_X4_hasProcedure σ a1) = 0) : vp_in a1 6 := by
  unfold f_X4_hasProcedure at h
  (repeat' split at h) <;> first | exact absurd rfl h | exact vin_rg (by assumption) (by assumption) (by decide)
def f_X4_append (σ : zS)  : Int32 × zS := ((σ 13 9), (zs σ 13 9 ((σ 13 9) + 1)))
theorem iX4_append : ∀ w ∈ u_ws RX4 TX4 10, w ∈ wsX4_append := by decide +kernel
set_option maxRecDepth 100000 in
theorem c_X4_append (l : Launch) (G : va_G) (cs : Nat → ClassId) (ad : Nat → Nat) (tl : va_W) (σ : zS)   : zMi l yX4_append wsX4_append { frames := 0, cells := 0, slots := 0, locals := 0 } G cs [.ref (ad 13)] (zw cs ad σ tl) (f_X4_append σ ).1 (zw cs ad (f_X4_append σ ).2 tl) 0 0 := by
  intro sz
  refine Met.ofW (cc := cX4_append) (maxL := 2) (ret := (some .int)) (by decide) rfl ?_
  intro p e s m args below meth c s₁ B hml hv
  obtain ⟨rfl, hsz, hP, hD0, hE⟩ := hv
  have hx := B.exec
  have hb := B.bytes
  have hr := B.returns
  have hts := atoms_spec (ws := wsX4_append) B.pre
  have hown : s.vm.findClass RX4 = some m.cls := findClass_of_methodNamed B.named
  have hlocks := B.notSynchronized
  subst hsz
  have hD := hD0.self (sz := s.heap.size)
  have hA : ∀ q : Nat, s.heap.size ≤ q → (va_A (zw cs ad σ tl) s.heap.size) q := fun q h => Or.inr h
  generalize va_A (zw cs ad σ tl) s.heap.size = A at hD hE hA ⊢
  have hS : va_S A s.heap s.heap [] := va_S.rf
  have hl := lv_entry ([.ref (ad 13)]) (n := 2) (Nat.le_of_ble_eq_true rfl)
  rw [lg_entry_eq]
  generalize (lg_sl ([.ref (ad 13)]) ++ List.replicate (2 - (lg_sl ([.ref (ad 13)])).length) Slot.unset).toArray = ls at hl ⊢
  have hl : lv_has ls 2 [(0, .ref (ad 13))] := hl
  generalize hR : (f_X4_append σ ) = RV
  have hR := hR.symm
  unfold f_X4_append at hR
  obtain ⟨RVv, RVs⟩ := RV
  dsimp only
  obtain ⟨H, hH⟩ : ∃ z, z = s.heap := ⟨_, rfl⟩
  obtain ⟨locs, hlocs⟩ : ∃ z : List Loc, z = [] := ⟨_, rfl⟩
  rw [← hH] at hP
  have hS : va_S A s.heap H locs := by rw [hH, hlocs]; exact hS
  show W _ _ _ _ _ _ _ _ _ _ s.heap [] _ _ _ _
  rw [← hH, ← hlocs]
  clear hlocs
  refine lv_aload_n hx hb dX4_append_0 rfl (lv_at hl 0 rfl) ?_
  refine va_get (D := G) (ci := 6) (v := .int (σ 13 9)) (C := RX4) (T := TX4) (N := 10) hx hb hts iX4_append hown hE.1 hP 13 (zg_13 cs ad σ tl) rfl 9 (by decide) (hts (.fieldLink RX4 39 "HandoverDeck$ProcedureBook" "procedureCount" "I") (by decide +kernel)) (fun _ h9 => h9) rfl dX4_append_1 ?_
  refine lv_istore_n (lv' := [(1, .int (σ 13 9)), (0, .ref (ad 13))]) hx hb dX4_append_4 rfl hl (by decide) rfl (fun ls hl => ?_)
  refine lv_aload_n hx hb dX4_append_5 rfl (lv_at hl 1 rfl) ?_
  refine lv_dup hx hb dX4_append_6 rfl ?_
  refine va_get (D := G) (ci := 6) (v := .int (σ 13 9)) (C := RX4) (T := TX4) (N := 10) hx hb hts iX4_append hown hE.1 hP 13 (zg_13 cs ad σ tl) rfl 9 (by decide) (hts (.fieldLink RX4 39 "HandoverDeck$ProcedureBook" "procedureCount" "I") (by decide +kernel)) (fun _ h9 => h9) rfl dX4_append_7 ?_
  refine lv_iconst (v := 1) hx hb dX4_append_10 (by decide) ?_
  refine lv_iadd hx hb dX4_append_11 ?_
  refine va_put (D := G) (ci := 6) (v := .int ((σ 13 9) + 1)) (ty := .int) (C := RX4) (T := TX4) (N := 10) hx hb hts iX4_append tyX4 tyX4_ok nmX4 hown hE.1 hP hD hS 13 (zg_13 cs ad σ tl) rfl 9 (by decide) (hts (.fieldLink RX4 39 "HandoverDeck$ProcedureBook" "procedureCount" "I") (by decide +kernel)) (fun _ h9 => h9) rfl (by decide +kernel) rfl rfl (Nat.le_of_ble_eq_true rfl) dX4_append_12 (fun H locs hP hD hS => ?_)
  rw [zb_13_9 cs ad σ tl] at hP hD
  refine lv_iload_n hx hb dX4_append_15 rfl (lv_at hl 0 rfl) ?_
  obtain ⟨e1, e2⟩ := z2 hR.symm
  subst e1; subst e2
  exact W.iret (v := (σ 13 9)) hx hb hr (fun t ht hW => ⟨⟨_, (), rfl, rfl, by rw [ht]; exact hP, hD⟩, hS.F ht⟩) hS.2.2 dX4_append_16
def f_X4_isPlace (a1 : Int32) : Int32 := (if a1 < 0 then 0 else (if 48 ≤ a1 then 0 else 1))
set_option maxRecDepth 100000 in
theorem c_X4_isPlace (l : Launch) (G : va_G) (cs : Nat → ClassId) (ad : Nat → Nat) (tl : va_W) (σ : zS) (a1 : Int32)  : zMi l yX4_isPlace wsX4_isPlace { frames := 0, cells := 0, slots := 0, locals := 0 } G cs [.int a1] (zw cs ad σ tl) (f_X4_isPlace a1) (zw cs ad σ tl) 0 0 := by
  intro sz
  refine Met.ofW (cc := cX4_isPlace) (maxL := 1) (ret := (some .boolean)) (by decide) rfl ?_
  intro p e s m args below meth c s₁ B hml hv
  obtain ⟨rfl, hsz, hP, hD0, hE⟩ := hv
  have hx := B.exec
  have hb := B.bytes
  have hr := B.returns
  have hts := atoms_spec (ws := wsX4_isPlace) B.pre
  have hown : s.vm.findClass RX4 = some m.cls := findClass_of_methodNamed B.named
  have hlocks := B.notSynchronized
  subst hsz
  have hD := hD0.self (sz := s.heap.size)
  have hA : ∀ q : Nat, s.heap.size ≤ q → (va_A (zw cs ad σ tl) s.heap.size) q := fun q h => Or.inr h
  generalize va_A (zw cs ad σ tl) s.heap.size = A at hD hE hA ⊢
  have hS : va_S A s.heap s.heap [] := va_S.rf
  have hl := lv_entry ([.int a1]) (n := 1) (Nat.le_of_ble_eq_true rfl)
  rw [lg_entry_eq]
  generalize (lg_sl ([.int a1]) ++ List.replicate (1 - (lg_sl ([.int a1])).length) Slot.unset).toArray = ls at hl ⊢
  have hl : lv_has ls 1 [(0, .int a1)] := hl
  generalize hR : (f_X4_isPlace a1) = RV
  have hR := hR.symm
  unfold f_X4_isPlace at hR
  obtain ⟨H, hH⟩ : ∃ z, z = s.heap := ⟨_, rfl⟩
  obtain ⟨locs, hlocs⟩ : ∃ z : List Loc, z = [] := ⟨_, rfl⟩
  rw [← hH] at hP
  have hS : va_S A s.heap H locs := by rw [hH, hlocs]; exact hS
  show W _ _ _ _ _ _ _ _ _ _ s.heap [] _ _ _ _
  rw [← hH, ← hlocs]
  clear hlocs
  refine lv_iload_n hx hb dX4_isPlace_0 rfl (lv_at hl 0 rfl) ?_
  refine lv_if_lt (tgt := 14) hx hb dX4_isPlace_1 (by decide) (fun c_1 => ?_) (fun c_1 => ?_)
  · have hR := hR.trans (if_pos c_1)
    refine lv_iconst (v := 0) hx hb dX4_isPlace_14 (by decide) ?_
    have hR := hR.symm
    subst hR
    exact W.zret (v := 0) hx hb hr rfl (fun t ht hW => ⟨⟨_, (), rfl, rfl, by rw [ht]; exact hP, hD⟩, hS.F ht⟩) hS.2.2 dX4_isPlace_15
  · have hR := hR.trans (if_neg c_1)
    refine lv_iload_n hx hb dX4_isPlace_4 rfl (lv_at hl 0 rfl) ?_
    refine lv_bipush (v := 48) hx hb dX4_isPlace_5 (by decide) ?_
    refine lv_icmp_ge (tgt := 14) hx hb dX4_isPlace_7 (by decide) (fun c_2 => ?_) (fun c_2 => ?_)
    · have hR := hR.trans (if_pos c_2)
      refine lv_iconst (v := 0) hx hb dX4_isPlace_14 (by decide) ?_
      have hR := hR.symm
      subst hR
      exact W.zret (v := 0) hx hb hr rfl (fun t ht hW => ⟨⟨_, (), rfl, rfl, by rw [ht]; exact hP, hD⟩, hS.F ht⟩) hS.2.2 dX4_isPlace_15
    · have hR := hR.trans (if_neg c_2)
      refine lv_iconst (v := 1) hx hb dX4_isPlace_10 (by decide) ?_
      refine lv_goto (tgt := 15) hx hb dX4_isPlace_11 (by decide) ?_
      have hR := hR.symm
      subst hR
      exact W.zret (v := 1) hx hb hr rfl (fun t ht hW => ⟨⟨_, (), rfl, rfl, by rw [ht]; exact hP, hD⟩, hS.F ht⟩) hS.2.2 dX4_isPlace_15
theorem nar_X4_isPlace (a1 : Int32) : narrow .boolean (.int (f_X4_isPlace a1)) = .int (f_X4_isPlace a1) := by unfold f_X4_isPlace; (repeat' split) <;> rfl
theorem vin_X4_isPlace {a1 : Int32} (h : ¬ (f_X4_isPlace a1) = 0) : vp_in a1 48 := by
  unfold f_X4_isPlace at h
  (repeat' split at h) <;> first | exact absurd rfl h | exact vin_rg (by assumption) (by assumption) (by decide)
def f_X4_appendStep (σ : zS) (a1 : Int32) : Int32 × zS := (if (f_X4_hasProcedure σ a1) = 0 then ((-1), σ) else (if (σ 14 a1.toNatClampNeg) < 8 then (if (f_X4_isPlace (f_X5_stepPlace a1 (σ 14 a1.toNatClampNeg))) = 0 then ((f_X5_stepPlace a1 (σ 14 a1.toNatClampNeg)), (zs σ 14 a1.toNatClampNeg ((σ 14 a1.toNatClampNeg) + 1))) else ((f_X5_stepPlace a1 (σ 14 a1.toNatClampNeg)), (zs (zs (zs σ 14 a1.toNatClampNeg ((σ 14 a1.toNatClampNeg) + 1)) 21 (f_X5_stepPlace a1 (σ 14 a1.toNatClampNeg)).toNatClampNeg (-1)) 22 (f_X5_stepPlace a1 (σ 14 a1.toNatClampNeg)).toNatClampNeg (-1)))) else ((-1), σ)))
theorem iX4_appendStep : ∀ w ∈ u_ws RX4 TX4 10, w ∈ wsX4_appendStep := by decide +kernel
set_option maxRecDepth 100000 in
theorem c_X4_appendStep (l : Launch) (G : va_G) (cs : Nat → ClassId) (ad : Nat → Nat) (tl : va_W) (σ : zS) (a1 : Int32)  : zMi l yX4_appendStep wsX4_appendStep { frames := 1, cells := 0, slots := 0, locals := 21 } G cs [.ref (ad 13), .int a1] (zw cs ad σ tl) (f_X4_appendStep σ a1).1 (zw cs ad (f_X4_appendStep σ a1).2 tl) 0 0 := by
  intro sz
  refine Met.ofW (cc := cX4_appendStep) (maxL := 3) (ret := (some .int)) (by decide) rfl ?_
  intro p e s m args below meth c s₁ B hml hv
  obtain ⟨rfl, hsz, hP, hD0, hE⟩ := hv
  have hx := B.exec
  have hb := B.bytes
  have hr := B.returns
  have hts := atoms_spec (ws := wsX4_appendStep) B.pre
  have hown : s.vm.findClass RX4 = some m.cls := findClass_of_methodNamed B.named
  have hlocks := B.notSynchronized
  subst hsz
  have hD := hD0.self (sz := s.heap.size)
  have hA : ∀ q : Nat, s.heap.size ≤ q → (va_A (zw cs ad σ tl) s.heap.size) q := fun q h => Or.inr h
  generalize va_A (zw cs ad σ tl) s.heap.size = A at hD hE hA ⊢
  have hS : va_S A s.heap s.heap [] := va_S.rf
  have hl := lv_entry ([.ref (ad 13), .int a1]) (n := 3) (Nat.le_of_ble_eq_true rfl)
  rw [lg_entry_eq]
  generalize (lg_sl ([.ref (ad 13), .int a1]) ++ List.replicate (3 - (lg_sl ([.ref (ad 13), .int a1])).length) Slot.unset).toArray = ls at hl ⊢
  have hl : lv_has ls 3 [(0, .ref (ad 13)), (1, .int a1)] := hl
  generalize hR : (f_X4_appendStep σ a1) = RV
  have hR := hR.symm
  unfold f_X4_appendStep at hR
  obtain ⟨RVv, RVs⟩ := RV
  dsimp only
  obtain ⟨H, hH⟩ : ∃ z, z = s.heap := ⟨_, rfl⟩
  obtain ⟨locs, hlocs⟩ : ∃ z : List Loc, z = [] := ⟨_, rfl⟩
  rw [← hH] at hP
  have hS : va_S A s.heap H locs := by rw [hH, hlocs]; exact hS
  show W _ _ _ _ _ _ _ _ _ _ s.heap [] _ _ _ _
  rw [← hH, ← hlocs]
  clear hlocs
  refine lv_aload_n hx hb dX4_appendStep_0 rfl (lv_at hl 0 rfl) ?_
  refine lv_iload_n hx hb dX4_appendStep_1 rfl (lv_at hl 1 rfl) ?_
  refine zai (va_runV (As := [.int a1]) (rest := []) ⟨hx, hb, hml, hown, hts⟩ (c_X4_hasProcedure l G cs ad tl σ a1  H.size) (cwV 1 hts gX4_appendStep_X4_hasProcedure rfl rfl rfl (by decide +kernel) ⟨Nat.le_of_ble_eq_true rfl, Nat.le_of_ble_eq_true rfl⟩) (zpv hE hP hD hS hA (zg_13 cs ad σ tl) rfl) rfl rfl hl.1 rfl (lv_room (Nat.le_of_ble_eq_true rfl)) dX4_appendStep_2 ⟨Nat.le_of_ble_eq_true rfl, Nat.le_of_ble_eq_true rfl⟩) hD hS hA (fun H locs hP hD hS => ?_)
  refine lv_if_eq (tgt := 19) hx hb dX4_appendStep_5 (by decide) (fun c_1 => ?_) (fun c_1 => ?_)
  · have hR := hR.trans (if_pos c_1)
    refine lv_iconst (v := (-1)) hx hb dX4_appendStep_19 (by decide) ?_
    obtain ⟨e1, e2⟩ := z2 hR.symm
    subst e1; subst e2
    exact W.iret (v := (-1)) hx hb hr (fun t ht hW => ⟨⟨_, (), rfl, rfl, by rw [ht]; exact hP, hD⟩, hS.F ht⟩) hS.2.2 dX4_appendStep_20
  · have hR := hR.trans (if_neg c_1)
    refine lv_aload_n hx hb dX4_appendStep_8 rfl (lv_at hl 0 rfl) ?_
    refine va_get (D := G) (ci := 6) (v := .ref (ad 14)) (C := RX4) (T := TX4) (N := 10) hx hb hts iX4_appendStep hown hE.1 hP 13 (zg_13 cs ad σ tl) rfl 0 (by decide) (hts (.fieldLink RX4 9 "HandoverDeck$ProcedureBook" "stepCounts" "[I") (by decide +kernel)) (fun _ h9 => h9) rfl dX4_appendStep_9 ?_
    refine lv_iload_n hx hb dX4_appendStep_12 rfl (lv_at hl 1 rfl) ?_
    refine z_iald (v := (σ 14 a1.toNatClampNeg)) hx hb hE hP (zg_14 cs ad σ tl) (vin_X4_hasProcedure c_1) rfl dX4_appendStep_13 ?_
    refine lv_bipush (v := 8) hx hb dX4_appendStep_14 (by decide) ?_
    refine lv_icmp_lt (tgt := 21) hx hb dX4_appendStep_16 (by decide) (fun c_2 => ?_) (fun c_2 => ?_)
    · have hR := hR.trans (if_pos c_2)
      refine lv_iload_n hx hb dX4_appendStep_21 rfl (lv_at hl 1 rfl) ?_
      refine lv_aload_n hx hb dX4_appendStep_22 rfl (lv_at hl 0 rfl) ?_
      refine va_get (D := G) (ci := 6) (v := .ref (ad 14)) (C := RX4) (T := TX4) (N := 10) hx hb hts iX4_appendStep hown hE.1 hP 13 (zg_13 cs ad σ tl) rfl 0 (by decide) (hts (.fieldLink RX4 9 "HandoverDeck$ProcedureBook" "stepCounts" "[I") (by decide +kernel)) (fun _ h9 => h9) rfl dX4_appendStep_23 ?_
      refine lv_iload_n hx hb dX4_appendStep_26 rfl (lv_at hl 1 rfl) ?_
      refine z_iald (v := (σ 14 a1.toNatClampNeg)) hx hb hE hP (zg_14 cs ad σ tl) (vin_X4_hasProcedure c_1) rfl dX4_appendStep_27 ?_
      refine zai (va_runSN (As := [.int a1, .int (σ 14 a1.toNatClampNeg)]) (rest := []) ⟨hx, hb, hml, hown, hts⟩ (c_X5_stepPlace l G cs ad tl σ a1 (σ 14 a1.toNatClampNeg)  H.size) ⟨va_cnB 2 hts gX4_appendStep_X5_stepPlace_n47 rfl rfl rfl (hE.2.1 _ (List.mem_of_getElem? (i := 1) rfl)) (hts (.initialized RX5) (by decide +kernel)) (by decide +kernel) ⟨Nat.le_of_ble_eq_true rfl, Nat.le_of_ble_eq_true rfl⟩, hts (.static yX5_stepPlace) (by decide +kernel), trivial⟩ (zps hE hP hD hS hA) rfl rfl hl.1 rfl (lv_room (Nat.le_of_ble_eq_true rfl)) dX4_appendStep_28 ⟨Nat.le_of_ble_eq_true rfl, Nat.le_of_ble_eq_true rfl⟩) hD hS hA (fun H locs hP hD hS => ?_)
      refine lv_istore_n (lv' := [(2, .int (f_X5_stepPlace a1 (σ 14 a1.toNatClampNeg))), (0, .ref (ad 13)), (1, .int a1)]) hx hb dX4_appendStep_31 rfl hl (by decide) rfl (fun ls hl => ?_)
      refine lv_aload_n hx hb dX4_appendStep_32 rfl (lv_at hl 1 rfl) ?_
      refine va_get (D := G) (ci := 6) (v := .ref (ad 14)) (C := RX4) (T := TX4) (N := 10) hx hb hts iX4_appendStep hown hE.1 hP 13 (zg_13 cs ad σ tl) rfl 0 (by decide) (hts (.fieldLink RX4 9 "HandoverDeck$ProcedureBook" "stepCounts" "[I") (by decide +kernel)) (fun _ h9 => h9) rfl dX4_appendStep_33 ?_
      refine lv_iload_n hx hb dX4_appendStep_36 rfl (lv_at hl 2 rfl) ?_
      refine lv_dup2_11 hx hb dX4_appendStep_37 rfl rfl ?_
      refine z_iald (v := (σ 14 a1.toNatClampNeg)) hx hb hE hP (zg_14 cs ad σ tl) (vin_X4_hasProcedure c_1) rfl dX4_appendStep_38 ?_
      refine lv_iconst (v := 1) hx hb dX4_appendStep_39 (by decide) ?_
      refine lv_iadd hx hb dX4_appendStep_40 ?_
      refine z_iast hx hb hE hP hD hS (zg_14 cs ad σ tl) (zb_14 cs ad σ tl) (vin_X4_hasProcedure c_1) dX4_appendStep_41 (fun H locs hP hD hS => ?_)
      refine lv_iload_n hx hb dX4_appendStep_42 rfl (lv_at hl 0 rfl) ?_
      refine zai (va_runS (As := [.int (f_X5_stepPlace a1 (σ 14 a1.toNatClampNeg))]) (rest := []) ⟨hx, hb, hml, hown, hts⟩ (c_X4_isPlace l G cs ad tl (zs σ 14 a1.toNatClampNeg ((σ 14 a1.toNatClampNeg) + 1)) (f_X5_stepPlace a1 (σ 14 a1.toNatClampNeg))  H.size) (va_cwS 1 hts gX4_appendStep_X4_isPlace rfl rfl rfl (by decide +kernel) ⟨Nat.le_of_ble_eq_true rfl, Nat.le_of_ble_eq_true rfl⟩) (zps hE hP hD hS hA) rfl rfl hl.1 rfl (lv_room (Nat.le_of_ble_eq_true rfl)) dX4_appendStep_43 ⟨Nat.le_of_ble_eq_true rfl, Nat.le_of_ble_eq_true rfl⟩) hD hS hA (fun H locs hP hD hS => ?_)
      refine lv_if_eq (tgt := 63) hx hb dX4_appendStep_46 (by decide) (fun c_3 => ?_) (fun c_3 => ?_)
      · have hR := hR.trans (if_pos c_3)
        refine lv_iload_n hx hb dX4_appendStep_63 rfl (lv_at hl 0 rfl) ?_
        obtain ⟨e1, e2⟩ := z2 hR.symm
        subst e1; subst e2
        exact W.iret (v := (f_X5_stepPlace a1 (σ 14 a1.toNatClampNeg))) hx hb hr (fun t ht hW => ⟨⟨_, (), rfl, rfl, by rw [ht]; exact hP, hD⟩, hS.F ht⟩) hS.2.2 dX4_appendStep_64
      · have hR := hR.trans (if_neg c_3)
        refine lv_aload_n hx hb dX4_appendStep_49 rfl (lv_at hl 1 rfl) ?_
        refine va_get (D := G) (ci := 6) (v := .ref (ad 21)) (C := RX4) (T := TX4) (N := 10) hx hb hts iX4_appendStep hown hE.1 hP 13 (zg_13 cs ad (zs σ 14 a1.toNatClampNeg ((σ 14 a1.toNatClampNeg) + 1)) tl) rfl 7 (by decide) (hts (.fieldLink RX4 33 "HandoverDeck$ProcedureBook" "takenAt" "[I") (by decide +kernel)) (fun _ h9 => h9) rfl dX4_appendStep_50 ?_
        refine lv_iload_n hx hb dX4_appendStep_53 rfl (lv_at hl 0 rfl) ?_
        refine lv_iconst (v := (-1)) hx hb dX4_appendStep_54 (by decide) ?_
        refine z_iast hx hb hE hP hD hS (zg_21 cs ad (zs σ 14 a1.toNatClampNeg ((σ 14 a1.toNatClampNeg) + 1)) tl) (zb_21 cs ad (zs σ 14 a1.toNatClampNeg ((σ 14 a1.toNatClampNeg) + 1)) tl) (vin_X4_isPlace c_3) dX4_appendStep_55 (fun H locs hP hD hS => ?_)
        refine lv_aload_n hx hb dX4_appendStep_56 rfl (lv_at hl 1 rfl) ?_
        refine va_get (D := G) (ci := 6) (v := .ref (ad 22)) (C := RX4) (T := TX4) (N := 10) hx hb hts iX4_appendStep hown hE.1 hP 13 (zg_13 cs ad (zs (zs σ 14 a1.toNatClampNeg ((σ 14 a1.toNatClampNeg) + 1)) 21 (f_X5_stepPlace a1 (σ 14 a1.toNatClampNeg)).toNatClampNeg (-1)) tl) rfl 8 (by decide) (hts (.fieldLink RX4 36 "HandoverDeck$ProcedureBook" "undoneLines" "[I") (by decide +kernel)) (fun _ h9 => h9) rfl dX4_appendStep_57 ?_
        refine lv_iload_n hx hb dX4_appendStep_60 rfl (lv_at hl 0 rfl) ?_
        refine lv_iconst (v := (-1)) hx hb dX4_appendStep_61 (by decide) ?_
        refine z_iast hx hb hE hP hD hS (zg_22 cs ad (zs (zs σ 14 a1.toNatClampNeg ((σ 14 a1.toNatClampNeg) + 1)) 21 (f_X5_stepPlace a1 (σ 14 a1.toNatClampNeg)).toNatClampNeg (-1)) tl) (zb_22 cs ad (zs (zs σ 14 a1.toNatClampNeg ((σ 14 a1.toNatClampNeg) + 1)) 21 (f_X5_stepPlace a1 (σ 14 a1.toNatClampNeg)).toNatClampNeg (-1)) tl) (vin_X4_isPlace c_3) dX4_appendStep_62 (fun H locs hP hD hS => ?_)
        refine lv_iload_n hx hb dX4_appendStep_63 rfl (lv_at hl 0 rfl) ?_
        obtain ⟨e1, e2⟩ := z2 hR.symm
        subst e1; subst e2
        exact W.iret (v := (f_X5_stepPlace a1 (σ 14 a1.toNatClampNeg))) hx hb hr (fun t ht hW => ⟨⟨_, (), rfl, rfl, by rw [ht]; exact hP, hD⟩, hS.F ht⟩) hS.2.2 dX4_appendStep_64
    · have hR := hR.trans (if_neg c_2)
      refine lv_iconst (v := (-1)) hx hb dX4_appendStep_19 (by decide) ?_
      obtain ⟨e1, e2⟩ := z2 hR.symm
      subst e1; subst e2
      exact W.iret (v := (-1)) hx hb hr (fun t ht hW => ⟨⟨_, (), rfl, rfl, by rw [ht]; exact hP, hD⟩, hS.F ht⟩) hS.2.2 dX4_appendStep_20
def f_X4_setNeed (σ : zS) (a1 : Int32) (a2 : Int32) (a3 : Int32) : zS := (if (f_X4_isPlace a1) = 0 then σ else (zs (zs σ 16 a1.toNatClampNeg a2) 17 a1.toNatClampNeg a3))
theorem iX4_setNeed : ∀ w ∈ u_ws RX4 TX4 10, w ∈ wsX4_setNeed := by decide +kernel
set_option maxRecDepth 100000 in
theorem c_X4_setNeed (l : Launch) (G : va_G) (cs : Nat → ClassId) (ad : Nat → Nat) (tl : va_W) (σ : zS) (a1 : Int32) (a2 : Int32) (a3 : Int32)  : zMv l yX4_setNeed wsX4_setNeed { frames := 1, cells := 0, slots := 0, locals := 20 } G cs [.ref (ad 13), .int a1, .int a2, .int a3] (zw cs ad σ tl) (zw cs ad (f_X4_setNeed σ a1 a2 a3) tl) 0 0 := by
  intro sz
  refine Met.ofW (cc := cX4_setNeed) (maxL := 4) (ret := none) (by decide) rfl ?_
  intro p e s m args below meth c s₁ B hml hv
  obtain ⟨rfl, hsz, hP, hD0, hE⟩ := hv
  have hx := B.exec
  have hb := B.bytes
  have hr := B.returns
  have hts := atoms_spec (ws := wsX4_setNeed) B.pre
  have hown : s.vm.findClass RX4 = some m.cls := findClass_of_methodNamed B.named
  have hlocks := B.notSynchronized
  subst hsz
  have hD := hD0.self (sz := s.heap.size)
  have hA : ∀ q : Nat, s.heap.size ≤ q → (va_A (zw cs ad σ tl) s.heap.size) q := fun q h => Or.inr h
  generalize va_A (zw cs ad σ tl) s.heap.size = A at hD hE hA ⊢
  have hS : va_S A s.heap s.heap [] := va_S.rf
  have hl := lv_entry ([.ref (ad 13), .int a1, .int a2, .int a3]) (n := 4) (Nat.le_of_ble_eq_true rfl)
  rw [lg_entry_eq]
  generalize (lg_sl ([.ref (ad 13), .int a1, .int a2, .int a3]) ++ List.replicate (4 - (lg_sl ([.ref (ad 13), .int a1, .int a2, .int a3])).length) Slot.unset).toArray = ls at hl ⊢
  have hl : lv_has ls 4 [(0, .ref (ad 13)), (1, .int a1), (2, .int a2), (3, .int a3)] := hl
  generalize hR : (f_X4_setNeed σ a1 a2 a3) = RV
  have hR := hR.symm
  unfold f_X4_setNeed at hR
  obtain ⟨H, hH⟩ : ∃ z, z = s.heap := ⟨_, rfl⟩
  obtain ⟨locs, hlocs⟩ : ∃ z : List Loc, z = [] := ⟨_, rfl⟩
  rw [← hH] at hP
  have hS : va_S A s.heap H locs := by rw [hH, hlocs]; exact hS
  show W _ _ _ _ _ _ _ _ _ _ s.heap [] _ _ _ _
  rw [← hH, ← hlocs]
  clear hlocs
  refine lv_iload_n hx hb dX4_setNeed_0 rfl (lv_at hl 1 rfl) ?_
  refine zai (va_runS (As := [.int a1]) (rest := []) ⟨hx, hb, hml, hown, hts⟩ (c_X4_isPlace l G cs ad tl σ a1  H.size) (va_cwS 1 hts gX4_setNeed_X4_isPlace rfl rfl rfl (by decide +kernel) ⟨Nat.le_of_ble_eq_true rfl, Nat.le_of_ble_eq_true rfl⟩) (zps hE hP hD hS hA) rfl rfl hl.1 rfl (lv_room (Nat.le_of_ble_eq_true rfl)) dX4_setNeed_1 ⟨Nat.le_of_ble_eq_true rfl, Nat.le_of_ble_eq_true rfl⟩) hD hS hA (fun H locs hP hD hS => ?_)
  refine lv_if_eq (tgt := 21) hx hb dX4_setNeed_4 (by decide) (fun c_1 => ?_) (fun c_1 => ?_)
  · have hR := hR.trans (if_pos c_1)
    have hR := hR.symm
    subst hR
    exact W.vret hx hb hr (fun t ht hW => ⟨⟨(), rfl, trivial, by rw [ht]; exact hP, hD⟩, hS.F ht⟩) hS.2.2 dX4_setNeed_21
  · have hR := hR.trans (if_neg c_1)
    refine lv_aload_n hx hb dX4_setNeed_7 rfl (lv_at hl 0 rfl) ?_
    refine va_get (D := G) (ci := 6) (v := .ref (ad 16)) (C := RX4) (T := TX4) (N := 10) hx hb hts iX4_setNeed hown hE.1 hP 13 (zg_13 cs ad σ tl) rfl 2 (by decide) (hts (.fieldLink RX4 18 "HandoverDeck$ProcedureBook" "needed" "[I") (by decide +kernel)) (fun _ h9 => h9) rfl dX4_setNeed_8 ?_
    refine lv_iload_n hx hb dX4_setNeed_11 rfl (lv_at hl 1 rfl) ?_
    refine lv_iload_n hx hb dX4_setNeed_12 rfl (lv_at hl 2 rfl) ?_
    refine z_iast hx hb hE hP hD hS (zg_16 cs ad σ tl) (zb_16 cs ad σ tl) (vin_X4_isPlace c_1) dX4_setNeed_13 (fun H locs hP hD hS => ?_)
    refine lv_aload_n hx hb dX4_setNeed_14 rfl (lv_at hl 0 rfl) ?_
    refine va_get (D := G) (ci := 6) (v := .ref (ad 17)) (C := RX4) (T := TX4) (N := 10) hx hb hts iX4_setNeed hown hE.1 hP 13 (zg_13 cs ad (zs σ 16 a1.toNatClampNeg a2) tl) rfl 3 (by decide) (hts (.fieldLink RX4 21 "HandoverDeck$ProcedureBook" "neededStates" "[I") (by decide +kernel)) (fun _ h9 => h9) rfl dX4_setNeed_15 ?_
    refine lv_iload_n hx hb dX4_setNeed_18 rfl (lv_at hl 1 rfl) ?_
    refine lv_iload_n hx hb dX4_setNeed_19 rfl (lv_at hl 3 rfl) ?_
    refine z_iast hx hb hE hP hD hS (zg_17 cs ad (zs σ 16 a1.toNatClampNeg a2) tl) (zb_17 cs ad (zs σ 16 a1.toNatClampNeg a2) tl) (vin_X4_isPlace c_1) dX4_setNeed_20 (fun H locs hP hD hS => ?_)
    have hR := hR.symm
    subst hR
    exact W.vret hx hb hr (fun t ht hW => ⟨⟨(), rfl, trivial, by rw [ht]; exact hP, hD⟩, hS.F ht⟩) hS.2.2 dX4_setNeed_21
def f_X4_setEffect (σ : zS) (a1 : Int32) (a2 : Int32) (a3 : Int32) : zS := (if (f_X4_isPlace a1) = 0 then σ else (zs (zs σ 18 a1.toNatClampNeg a2) 19 a1.toNatClampNeg a3))
theorem iX4_setEffect : ∀ w ∈ u_ws RX4 TX4 10, w ∈ wsX4_setEffect := by decide +kernel
set_option maxRecDepth 100000 in
theorem c_X4_setEffect (l : Launch) (G : va_G) (cs : Nat → ClassId) (ad : Nat → Nat) (tl : va_W) (σ : zS) (a1 : Int32) (a2 : Int32) (a3 : Int32)  : zMv l yX4_setEffect wsX4_setEffect { frames := 1, cells := 0, slots := 0, locals := 20 } G cs [.ref (ad 13), .int a1, .int a2, .int a3] (zw cs ad σ tl) (zw cs ad (f_X4_setEffect σ a1 a2 a3) tl) 0 0 := by
  intro sz
  refine Met.ofW (cc := cX4_setEffect) (maxL := 4) (ret := none) (by decide) rfl ?_
  intro p e s m args below meth c s₁ B hml hv
  obtain ⟨rfl, hsz, hP, hD0, hE⟩ := hv
  have hx := B.exec
  have hb := B.bytes
  have hr := B.returns
  have hts := atoms_spec (ws := wsX4_setEffect) B.pre
  have hown : s.vm.findClass RX4 = some m.cls := findClass_of_methodNamed B.named
  have hlocks := B.notSynchronized
  subst hsz
  have hD := hD0.self (sz := s.heap.size)
  have hA : ∀ q : Nat, s.heap.size ≤ q → (va_A (zw cs ad σ tl) s.heap.size) q := fun q h => Or.inr h
  generalize va_A (zw cs ad σ tl) s.heap.size = A at hD hE hA ⊢
  have hS : va_S A s.heap s.heap [] := va_S.rf
  have hl := lv_entry ([.ref (ad 13), .int a1, .int a2, .int a3]) (n := 4) (Nat.le_of_ble_eq_true rfl)
  rw [lg_entry_eq]
  generalize (lg_sl ([.ref (ad 13), .int a1, .int a2, .int a3]) ++ List.replicate (4 - (lg_sl ([.ref (ad 13), .int a1, .int a2, .int a3])).length) Slot.unset).toArray = ls at hl ⊢
  have hl : lv_has ls 4 [(0, .ref (ad 13)), (1, .int a1), (2, .int a2), (3, .int a3)] := hl
  generalize hR : (f_X4_setEffect σ a1 a2 a3) = RV
  have hR := hR.symm
  unfold f_X4_setEffect at hR
  obtain ⟨H, hH⟩ : ∃ z, z = s.heap := ⟨_, rfl⟩
  obtain ⟨locs, hlocs⟩ : ∃ z : List Loc, z = [] := ⟨_, rfl⟩
  rw [← hH] at hP
  have hS : va_S A s.heap H locs := by rw [hH, hlocs]; exact hS
  show W _ _ _ _ _ _ _ _ _ _ s.heap [] _ _ _ _
  rw [← hH, ← hlocs]
  clear hlocs
  refine lv_iload_n hx hb dX4_setEffect_0 rfl (lv_at hl 1 rfl) ?_
  refine zai (va_runS (As := [.int a1]) (rest := []) ⟨hx, hb, hml, hown, hts⟩ (c_X4_isPlace l G cs ad tl σ a1  H.size) (va_cwS 1 hts gX4_setEffect_X4_isPlace rfl rfl rfl (by decide +kernel) ⟨Nat.le_of_ble_eq_true rfl, Nat.le_of_ble_eq_true rfl⟩) (zps hE hP hD hS hA) rfl rfl hl.1 rfl (lv_room (Nat.le_of_ble_eq_true rfl)) dX4_setEffect_1 ⟨Nat.le_of_ble_eq_true rfl, Nat.le_of_ble_eq_true rfl⟩) hD hS hA (fun H locs hP hD hS => ?_)
  refine lv_if_eq (tgt := 21) hx hb dX4_setEffect_4 (by decide) (fun c_1 => ?_) (fun c_1 => ?_)
  · have hR := hR.trans (if_pos c_1)
    have hR := hR.symm
    subst hR
    exact W.vret hx hb hr (fun t ht hW => ⟨⟨(), rfl, trivial, by rw [ht]; exact hP, hD⟩, hS.F ht⟩) hS.2.2 dX4_setEffect_21
  · have hR := hR.trans (if_neg c_1)
    refine lv_aload_n hx hb dX4_setEffect_7 rfl (lv_at hl 0 rfl) ?_
    refine va_get (D := G) (ci := 6) (v := .ref (ad 18)) (C := RX4) (T := TX4) (N := 10) hx hb hts iX4_setEffect hown hE.1 hP 13 (zg_13 cs ad σ tl) rfl 4 (by decide) (hts (.fieldLink RX4 24 "HandoverDeck$ProcedureBook" "units" "[I") (by decide +kernel)) (fun _ h9 => h9) rfl dX4_setEffect_8 ?_
    refine lv_iload_n hx hb dX4_setEffect_11 rfl (lv_at hl 1 rfl) ?_
    refine lv_iload_n hx hb dX4_setEffect_12 rfl (lv_at hl 2 rfl) ?_
    refine z_iast hx hb hE hP hD hS (zg_18 cs ad σ tl) (zb_18 cs ad σ tl) (vin_X4_isPlace c_1) dX4_setEffect_13 (fun H locs hP hD hS => ?_)
    refine lv_aload_n hx hb dX4_setEffect_14 rfl (lv_at hl 0 rfl) ?_
    refine va_get (D := G) (ci := 6) (v := .ref (ad 19)) (C := RX4) (T := TX4) (N := 10) hx hb hts iX4_setEffect hown hE.1 hP 13 (zg_13 cs ad (zs σ 18 a1.toNatClampNeg a2) tl) rfl 5 (by decide) (hts (.fieldLink RX4 27 "HandoverDeck$ProcedureBook" "newStates" "[I") (by decide +kernel)) (fun _ h9 => h9) rfl dX4_setEffect_15 ?_
    refine lv_iload_n hx hb dX4_setEffect_18 rfl (lv_at hl 1 rfl) ?_
    refine lv_iload_n hx hb dX4_setEffect_19 rfl (lv_at hl 3 rfl) ?_
    refine z_iast hx hb hE hP hD hS (zg_19 cs ad (zs σ 18 a1.toNatClampNeg a2) tl) (zb_19 cs ad (zs σ 18 a1.toNatClampNeg a2) tl) (vin_X4_isPlace c_1) dX4_setEffect_20 (fun H locs hP hD hS => ?_)
    have hR := hR.symm
    subst hR
    exact W.vret hx hb hr (fun t ht hW => ⟨⟨(), rfl, trivial, by rw [ht]; exact hP, hD⟩, hS.F ht⟩) hS.2.2 dX4_setEffect_21
def f_X4_stepCount (σ : zS) (a1 : Int32) : Int32 := (if (f_X4_hasProcedure σ a1) = 0 then 0 else (σ 14 a1.toNatClampNeg))
theorem iX4_stepCount : ∀ w ∈ u_ws RX4 TX4 10, w ∈ wsX4_stepCount := by decide +kernel
set_option maxRecDepth 100000 in
theorem c_X4_stepCount (l : Launch) (G : va_G) (cs : Nat → ClassId) (ad : Nat → Nat) (tl : va_W) (σ : zS) (a1 : Int32)  : zMi l yX4_stepCount wsX4_stepCount { frames := 1, cells := 0, slots := 0, locals := 21 } G cs [.ref (ad 13), .int a1] (zw cs ad σ tl) (f_X4_stepCount σ a1) (zw cs ad σ tl) 0 0 := by
  intro sz
  refine Met.ofW (cc := cX4_stepCount) (maxL := 2) (ret := (some .int)) (by decide) rfl ?_
  intro p e s m args below meth c s₁ B hml hv
  obtain ⟨rfl, hsz, hP, hD0, hE⟩ := hv
  have hx := B.exec
  have hb := B.bytes
  have hr := B.returns
  have hts := atoms_spec (ws := wsX4_stepCount) B.pre
  have hown : s.vm.findClass RX4 = some m.cls := findClass_of_methodNamed B.named
  have hlocks := B.notSynchronized
  subst hsz
  have hD := hD0.self (sz := s.heap.size)
  have hA : ∀ q : Nat, s.heap.size ≤ q → (va_A (zw cs ad σ tl) s.heap.size) q := fun q h => Or.inr h
  generalize va_A (zw cs ad σ tl) s.heap.size = A at hD hE hA ⊢
  have hS : va_S A s.heap s.heap [] := va_S.rf
  have hl := lv_entry ([.ref (ad 13), .int a1]) (n := 2) (Nat.le_of_ble_eq_true rfl)
  rw [lg_entry_eq]
  generalize (lg_sl ([.ref (ad 13), .int a1]) ++ List.replicate (2 - (lg_sl ([.ref (ad 13), .int a1])).length) Slot.unset).toArray = ls at hl ⊢
  have hl : lv_has ls 2 [(0, .ref (ad 13)), (1, .int a1)] := hl
  generalize hR : (f_X4_stepCount σ a1) = RV
  have hR := hR.symm
  unfold f_X4_stepCount at hR
  obtain ⟨H, hH⟩ : ∃ z, z = s.heap := ⟨_, rfl⟩
  obtain ⟨locs, hlocs⟩ : ∃ z : List Loc, z = [] := ⟨_, rfl⟩
  rw [← hH] at hP
  have hS : va_S A s.heap H locs := by rw [hH, hlocs]; exact hS
  show W _ _ _ _ _ _ _ _ _ _ s.heap [] _ _ _ _
  rw [← hH, ← hlocs]
  clear hlocs
  refine lv_aload_n hx hb dX4_stepCount_0 rfl (lv_at hl 0 rfl) ?_
  refine lv_iload_n hx hb dX4_stepCount_1 rfl (lv_at hl 1 rfl) ?_
  refine zai (va_runV (As := [.int a1]) (rest := []) ⟨hx, hb, hml, hown, hts⟩ (c_X4_hasProcedure l G cs ad tl σ a1  H.size) (cwV 1 hts gX4_stepCount_X4_hasProcedure rfl rfl rfl (by decide +kernel) ⟨Nat.le_of_ble_eq_true rfl, Nat.le_of_ble_eq_true rfl⟩) (zpv hE hP hD hS hA (zg_13 cs ad σ tl) rfl) rfl rfl hl.1 rfl (lv_room (Nat.le_of_ble_eq_true rfl)) dX4_stepCount_2 ⟨Nat.le_of_ble_eq_true rfl, Nat.le_of_ble_eq_true rfl⟩) hD hS hA (fun H locs hP hD hS => ?_)
  refine lv_if_eq (tgt := 17) hx hb dX4_stepCount_5 (by decide) (fun c_1 => ?_) (fun c_1 => ?_)
  · have hR := hR.trans (if_pos c_1)
    refine lv_iconst (v := 0) hx hb dX4_stepCount_17 (by decide) ?_
    have hR := hR.symm
    subst hR
    exact W.iret (v := 0) hx hb hr (fun t ht hW => ⟨⟨_, (), rfl, rfl, by rw [ht]; exact hP, hD⟩, hS.F ht⟩) hS.2.2 dX4_stepCount_18
  · have hR := hR.trans (if_neg c_1)
    refine lv_aload_n hx hb dX4_stepCount_8 rfl (lv_at hl 0 rfl) ?_
    refine va_get (D := G) (ci := 6) (v := .ref (ad 14)) (C := RX4) (T := TX4) (N := 10) hx hb hts iX4_stepCount hown hE.1 hP 13 (zg_13 cs ad σ tl) rfl 0 (by decide) (hts (.fieldLink RX4 9 "HandoverDeck$ProcedureBook" "stepCounts" "[I") (by decide +kernel)) (fun _ h9 => h9) rfl dX4_stepCount_9 ?_
    refine lv_iload_n hx hb dX4_stepCount_12 rfl (lv_at hl 1 rfl) ?_
    refine z_iald (v := (σ 14 a1.toNatClampNeg)) hx hb hE hP (zg_14 cs ad σ tl) (vin_X4_hasProcedure c_1) rfl dX4_stepCount_13 ?_
    refine lv_goto (tgt := 18) hx hb dX4_stepCount_14 (by decide) ?_
    have hR := hR.symm
    subst hR
    exact W.iret (v := (σ 14 a1.toNatClampNeg)) hx hb hr (fun t ht hW => ⟨⟨_, (), rfl, rfl, by rw [ht]; exact hP, hD⟩, hS.F ht⟩) hS.2.2 dX4_stepCount_18
def f_X4_doneCount (σ : zS) (a1 : Int32) : Int32 := (if (f_X4_hasProcedure σ a1) = 0 then 0 else (σ 15 a1.toNatClampNeg))
theorem iX4_doneCount : ∀ w ∈ u_ws RX4 TX4 10, w ∈ wsX4_doneCount := by decide +kernel
set_option maxRecDepth 100000 in
theorem c_X4_doneCount (l : Launch) (G : va_G) (cs : Nat → ClassId) (ad : Nat → Nat) (tl : va_W) (σ : zS) (a1 : Int32)  : zMi l yX4_doneCount wsX4_doneCount { frames := 1, cells := 0, slots := 0, locals := 21 } G cs [.ref (ad 13), .int a1] (zw cs ad σ tl) (f_X4_doneCount σ a1) (zw cs ad σ tl) 0 0 := by
  intro sz
  refine Met.ofW (cc := cX4_doneCount) (maxL := 2) (ret := (some .int)) (by decide) rfl ?_
  intro p e s m args below meth c s₁ B hml hv
  obtain ⟨rfl, hsz, hP, hD0, hE⟩ := hv
  have hx := B.exec
  have hb := B.bytes
  have hr := B.returns
  have hts := atoms_spec (ws := wsX4_doneCount) B.pre
  have hown : s.vm.findClass RX4 = some m.cls := findClass_of_methodNamed B.named
  have hlocks := B.notSynchronized
  subst hsz
  have hD := hD0.self (sz := s.heap.size)
  have hA : ∀ q : Nat, s.heap.size ≤ q → (va_A (zw cs ad σ tl) s.heap.size) q := fun q h => Or.inr h
  generalize va_A (zw cs ad σ tl) s.heap.size = A at hD hE hA ⊢
  have hS : va_S A s.heap s.heap [] := va_S.rf
  have hl := lv_entry ([.ref (ad 13), .int a1]) (n := 2) (Nat.le_of_ble_eq_true rfl)
  rw [lg_entry_eq]
  generalize (lg_sl ([.ref (ad 13), .int a1]) ++ List.replicate (2 - (lg_sl ([.ref (ad 13), .int a1])).length) Slot.unset).toArray = ls at hl ⊢
  have hl : lv_has ls 2 [(0, .ref (ad 13)), (1, .int a1)] := hl
  generalize hR : (f_X4_doneCount σ a1) = RV
  have hR := hR.symm
  unfold f_X4_doneCount at hR
  obtain ⟨H, hH⟩ : ∃ z, z = s.heap := ⟨_, rfl⟩
  obtain ⟨locs, hlocs⟩ : ∃ z : List Loc, z = [] := ⟨_, rfl⟩
  rw [← hH] at hP
  have hS : va_S A s.heap H locs := by rw [hH, hlocs]; exact hS
  show W _ _ _ _ _ _ _ _ _ _ s.heap [] _ _ _ _
  rw [← hH, ← hlocs]
  clear hlocs
  refine lv_aload_n hx hb dX4_doneCount_0 rfl (lv_at hl 0 rfl) ?_
  refine lv_iload_n hx hb dX4_doneCount_1 rfl (lv_at hl 1 rfl) ?_
  refine zai (va_runV (As := [.int a1]) (rest := []) ⟨hx, hb, hml, hown, hts⟩ (c_X4_hasProcedure l G cs ad tl σ a1  H.size) (cwV 1 hts gX4_doneCount_X4_hasProcedure rfl rfl rfl (by decide +kernel) ⟨Nat.le_of_ble_eq_true rfl, Nat.le_of_ble_eq_true rfl⟩) (zpv hE hP hD hS hA (zg_13 cs ad σ tl) rfl) rfl rfl hl.1 rfl (lv_room (Nat.le_of_ble_eq_true rfl)) dX4_doneCount_2 ⟨Nat.le_of_ble_eq_true rfl, Nat.le_of_ble_eq_true rfl⟩) hD hS hA (fun H locs hP hD hS => ?_)
  refine lv_if_eq (tgt := 17) hx hb dX4_doneCount_5 (by decide) (fun c_1 => ?_) (fun c_1 => ?_)
  · have hR := hR.trans (if_pos c_1)
    refine lv_iconst (v := 0) hx hb dX4_doneCount_17 (by decide) ?_
    have hR := hR.symm
    subst hR
    exact W.iret (v := 0) hx hb hr (fun t ht hW => ⟨⟨_, (), rfl, rfl, by rw [ht]; exact hP, hD⟩, hS.F ht⟩) hS.2.2 dX4_doneCount_18
  · have hR := hR.trans (if_neg c_1)
    refine lv_aload_n hx hb dX4_doneCount_8 rfl (lv_at hl 0 rfl) ?_
    refine va_get (D := G) (ci := 6) (v := .ref (ad 15)) (C := RX4) (T := TX4) (N := 10) hx hb hts iX4_doneCount hown hE.1 hP 13 (zg_13 cs ad σ tl) rfl 1 (by decide) (hts (.fieldLink RX4 15 "HandoverDeck$ProcedureBook" "doneCounts" "[I") (by decide +kernel)) (fun _ h9 => h9) rfl dX4_doneCount_9 ?_
    refine lv_iload_n hx hb dX4_doneCount_12 rfl (lv_at hl 1 rfl) ?_
    refine z_iald (v := (σ 15 a1.toNatClampNeg)) hx hb hE hP (zg_15 cs ad σ tl) (vin_X4_hasProcedure c_1) rfl dX4_doneCount_13 ?_
    refine lv_goto (tgt := 18) hx hb dX4_doneCount_14 (by decide) ?_
    have hR := hR.symm
    subst hR
    exact W.iret (v := (σ 15 a1.toNatClampNeg)) hx hb hr (fun t ht hW => ⟨⟨_, (), rfl, rfl, by rw [ht]; exact hP, hD⟩, hS.F ht⟩) hS.2.2 dX4_doneCount_18
def f_X4_nextPlace (σ : zS) (a1 : Int32) : Int32 := (if (f_X4_stepCount σ a1) ≤ (f_X4_doneCount σ a1) then (-1) else (f_X5_stepPlace a1 (f_X4_doneCount σ a1)))
set_option maxRecDepth 100000 in
theorem c_X4_nextPlace (l : Launch) (G : va_G) (cs : Nat → ClassId) (ad : Nat → Nat) (tl : va_W) (σ : zS) (a1 : Int32)  : zMi l yX4_nextPlace wsX4_nextPlace { frames := 2, cells := 0, slots := 0, locals := 42 } G cs [.ref (ad 13), .int a1] (zw cs ad σ tl) (f_X4_nextPlace σ a1) (zw cs ad σ tl) 0 0 := by
  intro sz
  refine Met.ofW (cc := cX4_nextPlace) (maxL := 3) (ret := (some .int)) (by decide) rfl ?_
  intro p e s m args below meth c s₁ B hml hv
  obtain ⟨rfl, hsz, hP, hD0, hE⟩ := hv
  have hx := B.exec
  have hb := B.bytes
  have hr := B.returns
  have hts := atoms_spec (ws := wsX4_nextPlace) B.pre
  have hown : s.vm.findClass RX4 = some m.cls := findClass_of_methodNamed B.named
  have hlocks := B.notSynchronized
  subst hsz
  have hD := hD0.self (sz := s.heap.size)
  have hA : ∀ q : Nat, s.heap.size ≤ q → (va_A (zw cs ad σ tl) s.heap.size) q := fun q h => Or.inr h
  generalize va_A (zw cs ad σ tl) s.heap.size = A at hD hE hA ⊢
  have hS : va_S A s.heap s.heap [] := va_S.rf
  have hl := lv_entry ([.ref (ad 13), .int a1]) (n := 3) (Nat.le_of_ble_eq_true rfl)
  rw [lg_entry_eq]
  generalize (lg_sl ([.ref (ad 13), .int a1]) ++ List.replicate (3 - (lg_sl ([.ref (ad 13), .int a1])).length) Slot.unset).toArray = ls at hl ⊢
  have hl : lv_has ls 3 [(0, .ref (ad 13)), (1, .int a1)] := hl
  generalize hR : (f_X4_nextPlace σ a1) = RV
  have hR := hR.symm
  unfold f_X4_nextPlace at hR
  obtain ⟨H, hH⟩ : ∃ z, z = s.heap := ⟨_, rfl⟩
  obtain ⟨locs, hlocs⟩ : ∃ z : List Loc, z = [] := ⟨_, rfl⟩
  rw [← hH] at hP
  have hS : va_S A s.heap H locs := by rw [hH, hlocs]; exact hS
  show W _ _ _ _ _ _ _ _ _ _ s.heap [] _ _ _ _
  rw [← hH, ← hlocs]
  clear hlocs
  refine lv_aload_n hx hb dX4_nextPlace_0 rfl (lv_at hl 0 rfl) ?_
  refine lv_iload_n hx hb dX4_nextPlace_1 rfl (lv_at hl 1 rfl) ?_
  refine zai (va_runV (As := [.int a1]) (rest := []) ⟨hx, hb, hml, hown, hts⟩ (c_X4_doneCount l G cs ad tl σ a1  H.size) (cwV 1 hts gX4_nextPlace_X4_doneCount rfl rfl rfl (by decide +kernel) ⟨Nat.le_of_ble_eq_true rfl, Nat.le_of_ble_eq_true rfl⟩) (zpv hE hP hD hS hA (zg_13 cs ad σ tl) rfl) rfl rfl hl.1 rfl (lv_room (Nat.le_of_ble_eq_true rfl)) dX4_nextPlace_2 ⟨Nat.le_of_ble_eq_true rfl, Nat.le_of_ble_eq_true rfl⟩) hD hS hA (fun H locs hP hD hS => ?_)
  refine lv_istore_n (lv' := [(2, .int (f_X4_doneCount σ a1)), (0, .ref (ad 13)), (1, .int a1)]) hx hb dX4_nextPlace_5 rfl hl (by decide) rfl (fun ls hl => ?_)
  refine lv_iload_n hx hb dX4_nextPlace_6 rfl (lv_at hl 0 rfl) ?_
  refine lv_aload_n hx hb dX4_nextPlace_7 rfl (lv_at hl 1 rfl) ?_
  refine lv_iload_n hx hb dX4_nextPlace_8 rfl (lv_at hl 2 rfl) ?_
  refine zai (va_runV (As := [.int a1]) (rest := [.int (f_X4_doneCount σ a1)]) ⟨hx, hb, hml, hown, hts⟩ (c_X4_stepCount l G cs ad tl σ a1  H.size) (cwV 1 hts gX4_nextPlace_X4_stepCount rfl rfl rfl (by decide +kernel) ⟨Nat.le_of_ble_eq_true rfl, Nat.le_of_ble_eq_true rfl⟩) (zpv hE hP hD hS hA (zg_13 cs ad σ tl) rfl) rfl rfl hl.1 rfl (lv_room (Nat.le_of_ble_eq_true rfl)) dX4_nextPlace_9 ⟨Nat.le_of_ble_eq_true rfl, Nat.le_of_ble_eq_true rfl⟩) hD hS hA (fun H locs hP hD hS => ?_)
  refine lv_icmp_ge (tgt := 23) hx hb dX4_nextPlace_12 (by decide) (fun c_1 => ?_) (fun c_1 => ?_)
  · have hR := hR.trans (if_pos c_1)
    refine lv_iconst (v := (-1)) hx hb dX4_nextPlace_23 (by decide) ?_
    have hR := hR.symm
    subst hR
    exact W.iret (v := (-1)) hx hb hr (fun t ht hW => ⟨⟨_, (), rfl, rfl, by rw [ht]; exact hP, hD⟩, hS.F ht⟩) hS.2.2 dX4_nextPlace_24
  · have hR := hR.trans (if_neg c_1)
    refine lv_iload_n hx hb dX4_nextPlace_15 rfl (lv_at hl 2 rfl) ?_
    refine lv_iload_n hx hb dX4_nextPlace_16 rfl (lv_at hl 0 rfl) ?_
    refine zai (va_runSN (As := [.int a1, .int (f_X4_doneCount σ a1)]) (rest := []) ⟨hx, hb, hml, hown, hts⟩ (c_X5_stepPlace l G cs ad tl σ a1 (f_X4_doneCount σ a1)  H.size) ⟨va_cnB 2 hts gX4_nextPlace_X5_stepPlace_n47 rfl rfl rfl (hE.2.1 _ (List.mem_of_getElem? (i := 1) rfl)) (hts (.initialized RX5) (by decide +kernel)) (by decide +kernel) ⟨Nat.le_of_ble_eq_true rfl, Nat.le_of_ble_eq_true rfl⟩, hts (.static yX5_stepPlace) (by decide +kernel), trivial⟩ (zps hE hP hD hS hA) rfl rfl hl.1 rfl (lv_room (Nat.le_of_ble_eq_true rfl)) dX4_nextPlace_17 ⟨Nat.le_of_ble_eq_true rfl, Nat.le_of_ble_eq_true rfl⟩) hD hS hA (fun H locs hP hD hS => ?_)
    refine lv_goto (tgt := 24) hx hb dX4_nextPlace_20 (by decide) ?_
    have hR := hR.symm
    subst hR
    exact W.iret (v := (f_X5_stepPlace a1 (f_X4_doneCount σ a1))) hx hb hr (fun t ht hW => ⟨⟨_, (), rfl, rfl, by rw [ht]; exact hP, hD⟩, hS.F ht⟩) hS.2.2 dX4_nextPlace_24
def f_X4_lastDonePlace (σ : zS) (a1 : Int32) : Int32 := (if (f_X4_doneCount σ a1) ≤ 0 then (-1) else (f_X5_stepPlace a1 ((f_X4_doneCount σ a1) - 1)))
set_option maxRecDepth 100000 in
theorem c_X4_lastDonePlace (l : Launch) (G : va_G) (cs : Nat → ClassId) (ad : Nat → Nat) (tl : va_W) (σ : zS) (a1 : Int32)  : zMi l yX4_lastDonePlace wsX4_lastDonePlace { frames := 2, cells := 0, slots := 0, locals := 42 } G cs [.ref (ad 13), .int a1] (zw cs ad σ tl) (f_X4_lastDonePlace σ a1) (zw cs ad σ tl) 0 0 := by
  intro sz
  refine Met.ofW (cc := cX4_lastDonePlace) (maxL := 3) (ret := (some .int)) (by decide) rfl ?_
  intro p e s m args below meth c s₁ B hml hv
  obtain ⟨rfl, hsz, hP, hD0, hE⟩ := hv
  have hx := B.exec
  have hb := B.bytes
  have hr := B.returns
  have hts := atoms_spec (ws := wsX4_lastDonePlace) B.pre
  have hown : s.vm.findClass RX4 = some m.cls := findClass_of_methodNamed B.named
  have hlocks := B.notSynchronized
  subst hsz
  have hD := hD0.self (sz := s.heap.size)
  have hA : ∀ q : Nat, s.heap.size ≤ q → (va_A (zw cs ad σ tl) s.heap.size) q := fun q h => Or.inr h
  generalize va_A (zw cs ad σ tl) s.heap.size = A at hD hE hA ⊢
  have hS : va_S A s.heap s.heap [] := va_S.rf
  have hl := lv_entry ([.ref (ad 13), .int a1]) (n := 3) (Nat.le_of_ble_eq_true rfl)
  rw [lg_entry_eq]
  generalize (lg_sl ([.ref (ad 13), .int a1]) ++ List.replicate (3 - (lg_sl ([.ref (ad 13), .int a1])).length) Slot.unset).toArray = ls at hl ⊢
  have hl : lv_has ls 3 [(0, .ref (ad 13)), (1, .int a1)] := hl
  generalize hR : (f_X4_lastDonePlace σ a1) = RV
  have hR := hR.symm
  unfold f_X4_lastDonePlace at hR
  obtain ⟨H, hH⟩ : ∃ z, z = s.heap := ⟨_, rfl⟩
  obtain ⟨locs, hlocs⟩ : ∃ z : List Loc, z = [] := ⟨_, rfl⟩
  rw [← hH] at hP
  have hS : va_S A s.heap H locs := by rw [hH, hlocs]; exact hS
  show W _ _ _ _ _ _ _ _ _ _ s.heap [] _ _ _ _
  rw [← hH, ← hlocs]
  clear hlocs
  refine lv_aload_n hx hb dX4_lastDonePlace_0 rfl (lv_at hl 0 rfl) ?_
  refine lv_iload_n hx hb dX4_lastDonePlace_1 rfl (lv_at hl 1 rfl) ?_
  refine zai (va_runV (As := [.int a1]) (rest := []) ⟨hx, hb, hml, hown, hts⟩ (c_X4_doneCount l G cs ad tl σ a1  H.size) (cwV 1 hts gX4_lastDonePlace_X4_doneCount rfl rfl rfl (by decide +kernel) ⟨Nat.le_of_ble_eq_true rfl, Nat.le_of_ble_eq_true rfl⟩) (zpv hE hP hD hS hA (zg_13 cs ad σ tl) rfl) rfl rfl hl.1 rfl (lv_room (Nat.le_of_ble_eq_true rfl)) dX4_lastDonePlace_2 ⟨Nat.le_of_ble_eq_true rfl, Nat.le_of_ble_eq_true rfl⟩) hD hS hA (fun H locs hP hD hS => ?_)
  refine lv_istore_n (lv' := [(2, .int (f_X4_doneCount σ a1)), (0, .ref (ad 13)), (1, .int a1)]) hx hb dX4_lastDonePlace_5 rfl hl (by decide) rfl (fun ls hl => ?_)
  refine lv_iload_n hx hb dX4_lastDonePlace_6 rfl (lv_at hl 0 rfl) ?_
  refine lv_if_le (tgt := 20) hx hb dX4_lastDonePlace_7 (by decide) (fun c_1 => ?_) (fun c_1 => ?_)
  · have hR := hR.trans (if_pos c_1)
    refine lv_iconst (v := (-1)) hx hb dX4_lastDonePlace_20 (by decide) ?_
    have hR := hR.symm
    subst hR
    exact W.iret (v := (-1)) hx hb hr (fun t ht hW => ⟨⟨_, (), rfl, rfl, by rw [ht]; exact hP, hD⟩, hS.F ht⟩) hS.2.2 dX4_lastDonePlace_21
  · have hR := hR.trans (if_neg c_1)
    refine lv_iload_n hx hb dX4_lastDonePlace_10 rfl (lv_at hl 2 rfl) ?_
    refine lv_iload_n hx hb dX4_lastDonePlace_11 rfl (lv_at hl 0 rfl) ?_
    refine lv_iconst (v := 1) hx hb dX4_lastDonePlace_12 (by decide) ?_
    refine lv_isub hx hb dX4_lastDonePlace_13 ?_
    refine zai (va_runSN (As := [.int a1, .int ((f_X4_doneCount σ a1) - 1)]) (rest := []) ⟨hx, hb, hml, hown, hts⟩ (c_X5_stepPlace l G cs ad tl σ a1 ((f_X4_doneCount σ a1) - 1)  H.size) ⟨va_cnB 2 hts gX4_lastDonePlace_X5_stepPlace_n47 rfl rfl rfl (hE.2.1 _ (List.mem_of_getElem? (i := 1) rfl)) (hts (.initialized RX5) (by decide +kernel)) (by decide +kernel) ⟨Nat.le_of_ble_eq_true rfl, Nat.le_of_ble_eq_true rfl⟩, hts (.static yX5_stepPlace) (by decide +kernel), trivial⟩ (zps hE hP hD hS hA) rfl rfl hl.1 rfl (lv_room (Nat.le_of_ble_eq_true rfl)) dX4_lastDonePlace_14 ⟨Nat.le_of_ble_eq_true rfl, Nat.le_of_ble_eq_true rfl⟩) hD hS hA (fun H locs hP hD hS => ?_)
    refine lv_goto (tgt := 21) hx hb dX4_lastDonePlace_17 (by decide) ?_
    have hR := hR.symm
    subst hR
    exact W.iret (v := (f_X5_stepPlace a1 ((f_X4_doneCount σ a1) - 1))) hx hb hr (fun t ht hW => ⟨⟨_, (), rfl, rfl, by rw [ht]; exact hP, hD⟩, hS.F ht⟩) hS.2.2 dX4_lastDonePlace_21
def f_X4_markTaken (σ : zS) (a1 : Int32) (a2 : Int32) (a3 : Int32) : zS := (if (f_X4_hasProcedure σ a1) = 0 then σ else (if (f_X4_isPlace (f_X4_nextPlace σ a1)) = 0 then σ else (zs (zs (zs σ 15 a1.toNatClampNeg ((σ 15 a1.toNatClampNeg) + 1)) 20 (f_X4_nextPlace σ a1).toNatClampNeg a2) 21 (f_X4_nextPlace σ a1).toNatClampNeg a3)))
theorem iX4_markTaken : ∀ w ∈ u_ws RX4 TX4 10, w ∈ wsX4_markTaken := by decide +kernel
set_option maxRecDepth 100000 in
theorem c_X4_markTaken (l : Launch) (G : va_G) (cs : Nat → ClassId) (ad : Nat → Nat) (tl : va_W) (σ : zS) (a1 : Int32) (a2 : Int32) (a3 : Int32)  : zMv l yX4_markTaken wsX4_markTaken { frames := 3, cells := 0, slots := 0, locals := 64 } G cs [.ref (ad 13), .int a1, .int a2, .int a3] (zw cs ad σ tl) (zw cs ad (f_X4_markTaken σ a1 a2 a3) tl) 0 0 := by
  intro sz
  refine Met.ofW (cc := cX4_markTaken) (maxL := 5) (ret := none) (by decide) rfl ?_
  intro p e s m args below meth c s₁ B hml hv
  obtain ⟨rfl, hsz, hP, hD0, hE⟩ := hv
  have hx := B.exec
  have hb := B.bytes
  have hr := B.returns
  have hts := atoms_spec (ws := wsX4_markTaken) B.pre
  have hown : s.vm.findClass RX4 = some m.cls := findClass_of_methodNamed B.named
  have hlocks := B.notSynchronized
  subst hsz
  have hD := hD0.self (sz := s.heap.size)
  have hA : ∀ q : Nat, s.heap.size ≤ q → (va_A (zw cs ad σ tl) s.heap.size) q := fun q h => Or.inr h
  generalize va_A (zw cs ad σ tl) s.heap.size = A at hD hE hA ⊢
  have hS : va_S A s.heap s.heap [] := va_S.rf
  have hl := lv_entry ([.ref (ad 13), .int a1, .int a2, .int a3]) (n := 5) (Nat.le_of_ble_eq_true rfl)
  rw [lg_entry_eq]
  generalize (lg_sl ([.ref (ad 13), .int a1, .int a2, .int a3]) ++ List.replicate (5 - (lg_sl ([.ref (ad 13), .int a1, .int a2, .int a3])).length) Slot.unset).toArray = ls at hl ⊢
  have hl : lv_has ls 5 [(0, .ref (ad 13)), (1, .int a1), (2, .int a2), (3, .int a3)] := hl
  generalize hR : (f_X4_markTaken σ a1 a2 a3) = RV
  have hR := hR.symm
  unfold f_X4_markTaken at hR
  obtain ⟨H, hH⟩ : ∃ z, z = s.heap := ⟨_, rfl⟩
  obtain ⟨locs, hlocs⟩ : ∃ z : List Loc, z = [] := ⟨_, rfl⟩
  rw [← hH] at hP
  have hS : va_S A s.heap H locs := by rw [hH, hlocs]; exact hS
  show W _ _ _ _ _ _ _ _ _ _ s.heap [] _ _ _ _
  rw [← hH, ← hlocs]
  clear hlocs
  refine lv_aload_n hx hb dX4_markTaken_0 rfl (lv_at hl 0 rfl) ?_
  refine lv_iload_n hx hb dX4_markTaken_1 rfl (lv_at hl 1 rfl) ?_
  refine zai (va_runV (As := [.int a1]) (rest := []) ⟨hx, hb, hml, hown, hts⟩ (c_X4_nextPlace l G cs ad tl σ a1  H.size) (cwV 1 hts gX4_markTaken_X4_nextPlace rfl rfl rfl (by decide +kernel) ⟨Nat.le_of_ble_eq_true rfl, Nat.le_of_ble_eq_true rfl⟩) (zpv hE hP hD hS hA (zg_13 cs ad σ tl) rfl) rfl rfl hl.1 rfl (lv_room (Nat.le_of_ble_eq_true rfl)) dX4_markTaken_2 ⟨Nat.le_of_ble_eq_true rfl, Nat.le_of_ble_eq_true rfl⟩) hD hS hA (fun H locs hP hD hS => ?_)
  refine lv_istore (lv' := [(4, .int (f_X4_nextPlace σ a1)), (0, .ref (ad 13)), (1, .int a1), (2, .int a2), (3, .int a3)]) hx hb dX4_markTaken_5 hl (by decide) rfl (fun ls hl => ?_)
  refine lv_aload_n hx hb dX4_markTaken_7 rfl (lv_at hl 1 rfl) ?_
  refine lv_iload_n hx hb dX4_markTaken_8 rfl (lv_at hl 2 rfl) ?_
  refine zai (va_runV (As := [.int a1]) (rest := []) ⟨hx, hb, hml, hown, hts⟩ (c_X4_hasProcedure l G cs ad tl σ a1  H.size) (cwV 1 hts gX4_markTaken_X4_hasProcedure rfl rfl rfl (by decide +kernel) ⟨Nat.le_of_ble_eq_true rfl, Nat.le_of_ble_eq_true rfl⟩) (zpv hE hP hD hS hA (zg_13 cs ad σ tl) rfl) rfl rfl hl.1 rfl (lv_room (Nat.le_of_ble_eq_true rfl)) dX4_markTaken_9 ⟨Nat.le_of_ble_eq_true rfl, Nat.le_of_ble_eq_true rfl⟩) hD hS hA (fun H locs hP hD hS => ?_)
  refine lv_if_eq (tgt := 49) hx hb dX4_markTaken_12 (by decide) (fun c_1 => ?_) (fun c_1 => ?_)
  · have hR := hR.trans (if_pos c_1)
    have hR := hR.symm
    subst hR
    exact W.vret hx hb hr (fun t ht hW => ⟨⟨(), rfl, trivial, by rw [ht]; exact hP, hD⟩, hS.F ht⟩) hS.2.2 dX4_markTaken_49
  · have hR := hR.trans (if_neg c_1)
    refine lv_iload hx hb dX4_markTaken_15 (lv_at hl 0 rfl) ?_
    refine zai (va_runS (As := [.int (f_X4_nextPlace σ a1)]) (rest := []) ⟨hx, hb, hml, hown, hts⟩ (c_X4_isPlace l G cs ad tl σ (f_X4_nextPlace σ a1)  H.size) (va_cwS 1 hts gX4_markTaken_X4_isPlace rfl rfl rfl (by decide +kernel) ⟨Nat.le_of_ble_eq_true rfl, Nat.le_of_ble_eq_true rfl⟩) (zps hE hP hD hS hA) rfl rfl hl.1 rfl (lv_room (Nat.le_of_ble_eq_true rfl)) dX4_markTaken_17 ⟨Nat.le_of_ble_eq_true rfl, Nat.le_of_ble_eq_true rfl⟩) hD hS hA (fun H locs hP hD hS => ?_)
    refine lv_if_eq (tgt := 49) hx hb dX4_markTaken_20 (by decide) (fun c_2 => ?_) (fun c_2 => ?_)
    · have hR := hR.trans (if_pos c_2)
      have hR := hR.symm
      subst hR
      exact W.vret hx hb hr (fun t ht hW => ⟨⟨(), rfl, trivial, by rw [ht]; exact hP, hD⟩, hS.F ht⟩) hS.2.2 dX4_markTaken_49
    · have hR := hR.trans (if_neg c_2)
      refine lv_aload_n hx hb dX4_markTaken_23 rfl (lv_at hl 1 rfl) ?_
      refine va_get (D := G) (ci := 6) (v := .ref (ad 15)) (C := RX4) (T := TX4) (N := 10) hx hb hts iX4_markTaken hown hE.1 hP 13 (zg_13 cs ad σ tl) rfl 1 (by decide) (hts (.fieldLink RX4 15 "HandoverDeck$ProcedureBook" "doneCounts" "[I") (by decide +kernel)) (fun _ h9 => h9) rfl dX4_markTaken_24 ?_
      refine lv_iload_n hx hb dX4_markTaken_27 rfl (lv_at hl 2 rfl) ?_
      refine lv_dup2_11 hx hb dX4_markTaken_28 rfl rfl ?_
      refine z_iald (v := (σ 15 a1.toNatClampNeg)) hx hb hE hP (zg_15 cs ad σ tl) (vin_X4_hasProcedure c_1) rfl dX4_markTaken_29 ?_
      refine lv_iconst (v := 1) hx hb dX4_markTaken_30 (by decide) ?_
      refine lv_iadd hx hb dX4_markTaken_31 ?_
      refine z_iast hx hb hE hP hD hS (zg_15 cs ad σ tl) (zb_15 cs ad σ tl) (vin_X4_hasProcedure c_1) dX4_markTaken_32 (fun H locs hP hD hS => ?_)
      refine lv_aload_n hx hb dX4_markTaken_33 rfl (lv_at hl 1 rfl) ?_
      refine va_get (D := G) (ci := 6) (v := .ref (ad 20)) (C := RX4) (T := TX4) (N := 10) hx hb hts iX4_markTaken hown hE.1 hP 13 (zg_13 cs ad (zs σ 15 a1.toNatClampNeg ((σ 15 a1.toNatClampNeg) + 1)) tl) rfl 6 (by decide) (hts (.fieldLink RX4 30 "HandoverDeck$ProcedureBook" "notedStates" "[I") (by decide +kernel)) (fun _ h9 => h9) rfl dX4_markTaken_34 ?_
      refine lv_iload hx hb dX4_markTaken_37 (lv_at hl 0 rfl) ?_
      refine lv_iload_n hx hb dX4_markTaken_39 rfl (lv_at hl 3 rfl) ?_
      refine z_iast hx hb hE hP hD hS (zg_20 cs ad (zs σ 15 a1.toNatClampNeg ((σ 15 a1.toNatClampNeg) + 1)) tl) (zb_20 cs ad (zs σ 15 a1.toNatClampNeg ((σ 15 a1.toNatClampNeg) + 1)) tl) (vin_X4_isPlace c_2) dX4_markTaken_40 (fun H locs hP hD hS => ?_)
      refine lv_aload_n hx hb dX4_markTaken_41 rfl (lv_at hl 1 rfl) ?_
      refine va_get (D := G) (ci := 6) (v := .ref (ad 21)) (C := RX4) (T := TX4) (N := 10) hx hb hts iX4_markTaken hown hE.1 hP 13 (zg_13 cs ad (zs (zs σ 15 a1.toNatClampNeg ((σ 15 a1.toNatClampNeg) + 1)) 20 (f_X4_nextPlace σ a1).toNatClampNeg a2) tl) rfl 7 (by decide) (hts (.fieldLink RX4 33 "HandoverDeck$ProcedureBook" "takenAt" "[I") (by decide +kernel)) (fun _ h9 => h9) rfl dX4_markTaken_42 ?_
      refine lv_iload hx hb dX4_markTaken_45 (lv_at hl 0 rfl) ?_
      refine lv_iload_n hx hb dX4_markTaken_47 rfl (lv_at hl 4 rfl) ?_
      refine z_iast hx hb hE hP hD hS (zg_21 cs ad (zs (zs σ 15 a1.toNatClampNeg ((σ 15 a1.toNatClampNeg) + 1)) 20 (f_X4_nextPlace σ a1).toNatClampNeg a2) tl) (zb_21 cs ad (zs (zs σ 15 a1.toNatClampNeg ((σ 15 a1.toNatClampNeg) + 1)) 20 (f_X4_nextPlace σ a1).toNatClampNeg a2) tl) (vin_X4_isPlace c_2) dX4_markTaken_48 (fun H locs hP hD hS => ?_)
      have hR := hR.symm
      subst hR
      exact W.vret hx hb hr (fun t ht hW => ⟨⟨(), rfl, trivial, by rw [ht]; exact hP, hD⟩, hS.F ht⟩) hS.2.2 dX4_markTaken_49
def f_X4_markUndone (σ : zS) (a1 : Int32) (a2 : Int32) : zS := (if (f_X4_hasProcedure σ a1) = 0 then σ else (if (f_X4_isPlace (f_X4_lastDonePlace σ a1)) = 0 then σ else (zs (zs σ 15 a1.toNatClampNeg ((σ 15 a1.toNatClampNeg) - 1)) 22 (f_X4_lastDonePlace σ a1).toNatClampNeg a2)))
theorem iX4_markUndone : ∀ w ∈ u_ws RX4 TX4 10, w ∈ wsX4_markUndone := by decide +kernel
set_option maxRecDepth 100000 in
theorem c_X4_markUndone (l : Launch) (G : va_G) (cs : Nat → ClassId) (ad : Nat → Nat) (tl : va_W) (σ : zS) (a1 : Int32) (a2 : Int32)  : zMv l yX4_markUndone wsX4_markUndone { frames := 3, cells := 0, slots := 0, locals := 64 } G cs [.ref (ad 13), .int a1, .int a2] (zw cs ad σ tl) (zw cs ad (f_X4_markUndone σ a1 a2) tl) 0 0 := by
  intro sz
  refine Met.ofW (cc := cX4_markUndone) (maxL := 4) (ret := none) (by decide) rfl ?_
  intro p e s m args below meth c s₁ B hml hv
  obtain ⟨rfl, hsz, hP, hD0, hE⟩ := hv
  have hx := B.exec
  have hb := B.bytes
  have hr := B.returns
  have hts := atoms_spec (ws := wsX4_markUndone) B.pre
  have hown : s.vm.findClass RX4 = some m.cls := findClass_of_methodNamed B.named
  have hlocks := B.notSynchronized
  subst hsz
  have hD := hD0.self (sz := s.heap.size)
  have hA : ∀ q : Nat, s.heap.size ≤ q → (va_A (zw cs ad σ tl) s.heap.size) q := fun q h => Or.inr h
  generalize va_A (zw cs ad σ tl) s.heap.size = A at hD hE hA ⊢
  have hS : va_S A s.heap s.heap [] := va_S.rf
  have hl := lv_entry ([.ref (ad 13), .int a1, .int a2]) (n := 4) (Nat.le_of_ble_eq_true rfl)
  rw [lg_entry_eq]
  generalize (lg_sl ([.ref (ad 13), .int a1, .int a2]) ++ List.replicate (4 - (lg_sl ([.ref (ad 13), .int a1, .int a2])).length) Slot.unset).toArray = ls at hl ⊢
  have hl : lv_has ls 4 [(0, .ref (ad 13)), (1, .int a1), (2, .int a2)] := hl
  generalize hR : (f_X4_markUndone σ a1 a2) = RV
  have hR := hR.symm
  unfold f_X4_markUndone at hR
  obtain ⟨H, hH⟩ : ∃ z, z = s.heap := ⟨_, rfl⟩
  obtain ⟨locs, hlocs⟩ : ∃ z : List Loc, z = [] := ⟨_, rfl⟩
  rw [← hH] at hP
  have hS : va_S A s.heap H locs := by rw [hH, hlocs]; exact hS
  show W _ _ _ _ _ _ _ _ _ _ s.heap [] _ _ _ _
  rw [← hH, ← hlocs]
  clear hlocs
  refine lv_aload_n hx hb dX4_markUndone_0 rfl (lv_at hl 0 rfl) ?_
  refine lv_iload_n hx hb dX4_markUndone_1 rfl (lv_at hl 1 rfl) ?_
  refine zai (va_runV (As := [.int a1]) (rest := []) ⟨hx, hb, hml, hown, hts⟩ (c_X4_lastDonePlace l G cs ad tl σ a1  H.size) (cwV 1 hts gX4_markUndone_X4_lastDonePlace rfl rfl rfl (by decide +kernel) ⟨Nat.le_of_ble_eq_true rfl, Nat.le_of_ble_eq_true rfl⟩) (zpv hE hP hD hS hA (zg_13 cs ad σ tl) rfl) rfl rfl hl.1 rfl (lv_room (Nat.le_of_ble_eq_true rfl)) dX4_markUndone_2 ⟨Nat.le_of_ble_eq_true rfl, Nat.le_of_ble_eq_true rfl⟩) hD hS hA (fun H locs hP hD hS => ?_)
  refine lv_istore_n (lv' := [(3, .int (f_X4_lastDonePlace σ a1)), (0, .ref (ad 13)), (1, .int a1), (2, .int a2)]) hx hb dX4_markUndone_5 rfl hl (by decide) rfl (fun ls hl => ?_)
  refine lv_aload_n hx hb dX4_markUndone_6 rfl (lv_at hl 1 rfl) ?_
  refine lv_iload_n hx hb dX4_markUndone_7 rfl (lv_at hl 2 rfl) ?_
  refine zai (va_runV (As := [.int a1]) (rest := []) ⟨hx, hb, hml, hown, hts⟩ (c_X4_hasProcedure l G cs ad tl σ a1  H.size) (cwV 1 hts gX4_markUndone_X4_hasProcedure rfl rfl rfl (by decide +kernel) ⟨Nat.le_of_ble_eq_true rfl, Nat.le_of_ble_eq_true rfl⟩) (zpv hE hP hD hS hA (zg_13 cs ad σ tl) rfl) rfl rfl hl.1 rfl (lv_room (Nat.le_of_ble_eq_true rfl)) dX4_markUndone_8 ⟨Nat.le_of_ble_eq_true rfl, Nat.le_of_ble_eq_true rfl⟩) hD hS hA (fun H locs hP hD hS => ?_)
  refine lv_if_eq (tgt := 38) hx hb dX4_markUndone_11 (by decide) (fun c_1 => ?_) (fun c_1 => ?_)
  · have hR := hR.trans (if_pos c_1)
    have hR := hR.symm
    subst hR
    exact W.vret hx hb hr (fun t ht hW => ⟨⟨(), rfl, trivial, by rw [ht]; exact hP, hD⟩, hS.F ht⟩) hS.2.2 dX4_markUndone_38
  · have hR := hR.trans (if_neg c_1)
    refine lv_iload_n hx hb dX4_markUndone_14 rfl (lv_at hl 0 rfl) ?_
    refine zai (va_runS (As := [.int (f_X4_lastDonePlace σ a1)]) (rest := []) ⟨hx, hb, hml, hown, hts⟩ (c_X4_isPlace l G cs ad tl σ (f_X4_lastDonePlace σ a1)  H.size) (va_cwS 1 hts gX4_markUndone_X4_isPlace rfl rfl rfl (by decide +kernel) ⟨Nat.le_of_ble_eq_true rfl, Nat.le_of_ble_eq_true rfl⟩) (zps hE hP hD hS hA) rfl rfl hl.1 rfl (lv_room (Nat.le_of_ble_eq_true rfl)) dX4_markUndone_15 ⟨Nat.le_of_ble_eq_true rfl, Nat.le_of_ble_eq_true rfl⟩) hD hS hA (fun H locs hP hD hS => ?_)
    refine lv_if_eq (tgt := 38) hx hb dX4_markUndone_18 (by decide) (fun c_2 => ?_) (fun c_2 => ?_)
    · have hR := hR.trans (if_pos c_2)
      have hR := hR.symm
      subst hR
      exact W.vret hx hb hr (fun t ht hW => ⟨⟨(), rfl, trivial, by rw [ht]; exact hP, hD⟩, hS.F ht⟩) hS.2.2 dX4_markUndone_38
    · have hR := hR.trans (if_neg c_2)
      refine lv_aload_n hx hb dX4_markUndone_21 rfl (lv_at hl 1 rfl) ?_
      refine va_get (D := G) (ci := 6) (v := .ref (ad 15)) (C := RX4) (T := TX4) (N := 10) hx hb hts iX4_markUndone hown hE.1 hP 13 (zg_13 cs ad σ tl) rfl 1 (by decide) (hts (.fieldLink RX4 15 "HandoverDeck$ProcedureBook" "doneCounts" "[I") (by decide +kernel)) (fun _ h9 => h9) rfl dX4_markUndone_22 ?_
      refine lv_iload_n hx hb dX4_markUndone_25 rfl (lv_at hl 2 rfl) ?_
      refine lv_dup2_11 hx hb dX4_markUndone_26 rfl rfl ?_
      refine z_iald (v := (σ 15 a1.toNatClampNeg)) hx hb hE hP (zg_15 cs ad σ tl) (vin_X4_hasProcedure c_1) rfl dX4_markUndone_27 ?_
      refine lv_iconst (v := 1) hx hb dX4_markUndone_28 (by decide) ?_
      refine lv_isub hx hb dX4_markUndone_29 ?_
      refine z_iast hx hb hE hP hD hS (zg_15 cs ad σ tl) (zb_15 cs ad σ tl) (vin_X4_hasProcedure c_1) dX4_markUndone_30 (fun H locs hP hD hS => ?_)
      refine lv_aload_n hx hb dX4_markUndone_31 rfl (lv_at hl 1 rfl) ?_
      refine va_get (D := G) (ci := 6) (v := .ref (ad 22)) (C := RX4) (T := TX4) (N := 10) hx hb hts iX4_markUndone hown hE.1 hP 13 (zg_13 cs ad (zs σ 15 a1.toNatClampNeg ((σ 15 a1.toNatClampNeg) - 1)) tl) rfl 8 (by decide) (hts (.fieldLink RX4 36 "HandoverDeck$ProcedureBook" "undoneLines" "[I") (by decide +kernel)) (fun _ h9 => h9) rfl dX4_markUndone_32 ?_
      refine lv_iload_n hx hb dX4_markUndone_35 rfl (lv_at hl 0 rfl) ?_
      refine lv_iload_n hx hb dX4_markUndone_36 rfl (lv_at hl 3 rfl) ?_
      refine z_iast hx hb hE hP hD hS (zg_22 cs ad (zs σ 15 a1.toNatClampNeg ((σ 15 a1.toNatClampNeg) - 1)) tl) (zb_22 cs ad (zs σ 15 a1.toNatClampNeg ((σ 15 a1.toNatClampNeg) - 1)) tl) (vin_X4_isPlace c_2) dX4_markUndone_37 (fun H locs hP hD hS => ?_)
      have hR := hR.symm
      subst hR
      exact W.vret hx hb hr (fun t ht hW => ⟨⟨(), rfl, trivial, by rw [ht]; exact hP, hD⟩, hS.F ht⟩) hS.2.2 dX4_markUndone_38
def f_X4_markNoneDone (σ : zS) (a1 : Int32) : zS := (if (f_X4_hasProcedure σ a1) = 0 then σ else (zs σ 15 a1.toNatClampNeg 0))
theorem iX4_markNoneDone : ∀ w ∈ u_ws RX4 TX4 10, w ∈ wsX4_markNoneDone := by decide +kernel
set_option maxRecDepth 100000 in
theorem c_X4_markNoneDone (l : Launch) (G : va_G) (cs : Nat → ClassId) (ad : Nat → Nat) (tl : va_W) (σ : zS) (a1 : Int32)  : zMv l yX4_markNoneDone wsX4_markNoneDone { frames := 1, cells := 0, slots := 0, locals := 21 } G cs [.ref (ad 13), .int a1] (zw cs ad σ tl) (zw cs ad (f_X4_markNoneDone σ a1) tl) 0 0 := by
  intro sz
  refine Met.ofW (cc := cX4_markNoneDone) (maxL := 2) (ret := none) (by decide) rfl ?_
  intro p e s m args below meth c s₁ B hml hv
  obtain ⟨rfl, hsz, hP, hD0, hE⟩ := hv
  have hx := B.exec
  have hb := B.bytes
  have hr := B.returns
  have hts := atoms_spec (ws := wsX4_markNoneDone) B.pre
  have hown : s.vm.findClass RX4 = some m.cls := findClass_of_methodNamed B.named
  have hlocks := B.notSynchronized
  subst hsz
  have hD := hD0.self (sz := s.heap.size)
  have hA : ∀ q : Nat, s.heap.size ≤ q → (va_A (zw cs ad σ tl) s.heap.size) q := fun q h => Or.inr h
  generalize va_A (zw cs ad σ tl) s.heap.size = A at hD hE hA ⊢
  have hS : va_S A s.heap s.heap [] := va_S.rf
  have hl := lv_entry ([.ref (ad 13), .int a1]) (n := 2) (Nat.le_of_ble_eq_true rfl)
  rw [lg_entry_eq]
  generalize (lg_sl ([.ref (ad 13), .int a1]) ++ List.replicate (2 - (lg_sl ([.ref (ad 13), .int a1])).length) Slot.unset).toArray = ls at hl ⊢
  have hl : lv_has ls 2 [(0, .ref (ad 13)), (1, .int a1)] := hl
  generalize hR : (f_X4_markNoneDone σ a1) = RV
  have hR := hR.symm
  unfold f_X4_markNoneDone at hR
  obtain ⟨H, hH⟩ : ∃ z, z = s.heap := ⟨_, rfl⟩
  obtain ⟨locs, hlocs⟩ : ∃ z : List Loc, z = [] := ⟨_, rfl⟩
  rw [← hH] at hP
  have hS : va_S A s.heap H locs := by rw [hH, hlocs]; exact hS
  show W _ _ _ _ _ _ _ _ _ _ s.heap [] _ _ _ _
  rw [← hH, ← hlocs]
  clear hlocs
  refine lv_aload_n hx hb dX4_markNoneDone_0 rfl (lv_at hl 0 rfl) ?_
  refine lv_iload_n hx hb dX4_markNoneDone_1 rfl (lv_at hl 1 rfl) ?_
  refine zai (va_runV (As := [.int a1]) (rest := []) ⟨hx, hb, hml, hown, hts⟩ (c_X4_hasProcedure l G cs ad tl σ a1  H.size) (cwV 1 hts gX4_markNoneDone_X4_hasProcedure rfl rfl rfl (by decide +kernel) ⟨Nat.le_of_ble_eq_true rfl, Nat.le_of_ble_eq_true rfl⟩) (zpv hE hP hD hS hA (zg_13 cs ad σ tl) rfl) rfl rfl hl.1 rfl (lv_room (Nat.le_of_ble_eq_true rfl)) dX4_markNoneDone_2 ⟨Nat.le_of_ble_eq_true rfl, Nat.le_of_ble_eq_true rfl⟩) hD hS hA (fun H locs hP hD hS => ?_)
  refine lv_if_eq (tgt := 15) hx hb dX4_markNoneDone_5 (by decide) (fun c_1 => ?_) (fun c_1 => ?_)
  · have hR := hR.trans (if_pos c_1)
    have hR := hR.symm
    subst hR
    exact W.vret hx hb hr (fun t ht hW => ⟨⟨(), rfl, trivial, by rw [ht]; exact hP, hD⟩, hS.F ht⟩) hS.2.2 dX4_markNoneDone_15
  · have hR := hR.trans (if_neg c_1)
    refine lv_aload_n hx hb dX4_markNoneDone_8 rfl (lv_at hl 0 rfl) ?_
    refine va_get (D := G) (ci := 6) (v := .ref (ad 15)) (C := RX4) (T := TX4) (N := 10) hx hb hts iX4_markNoneDone hown hE.1 hP 13 (zg_13 cs ad σ tl) rfl 1 (by decide) (hts (.fieldLink RX4 15 "HandoverDeck$ProcedureBook" "doneCounts" "[I") (by decide +kernel)) (fun _ h9 => h9) rfl dX4_markNoneDone_9 ?_
    refine lv_iload_n hx hb dX4_markNoneDone_12 rfl (lv_at hl 1 rfl) ?_
    refine lv_iconst (v := 0) hx hb dX4_markNoneDone_13 (by decide) ?_
    refine z_iast hx hb hE hP hD hS (zg_15 cs ad σ tl) (zb_15 cs ad σ tl) (vin_X4_hasProcedure c_1) dX4_markNoneDone_14 (fun H locs hP hD hS => ?_)
    have hR := hR.symm
    subst hR
    exact W.vret hx hb hr (fun t ht hW => ⟨⟨(), rfl, trivial, by rw [ht]; exact hP, hD⟩, hS.F ht⟩) hS.2.2 dX4_markNoneDone_15
def f_X4_markNotUndone (σ : zS) (a1 : Int32) : zS := (if (f_X4_isPlace a1) = 0 then σ else (zs σ 22 a1.toNatClampNeg (-1)))
theorem iX4_markNotUndone : ∀ w ∈ u_ws RX4 TX4 10, w ∈ wsX4_markNotUndone := by decide +kernel
set_option maxRecDepth 100000 in
theorem c_X4_markNotUndone (l : Launch) (G : va_G) (cs : Nat → ClassId) (ad : Nat → Nat) (tl : va_W) (σ : zS) (a1 : Int32)  : zMv l yX4_markNotUndone wsX4_markNotUndone { frames := 1, cells := 0, slots := 0, locals := 20 } G cs [.ref (ad 13), .int a1] (zw cs ad σ tl) (zw cs ad (f_X4_markNotUndone σ a1) tl) 0 0 := by
  intro sz
  refine Met.ofW (cc := cX4_markNotUndone) (maxL := 2) (ret := none) (by decide) rfl ?_
  intro p e s m args below meth c s₁ B hml hv
  obtain ⟨rfl, hsz, hP, hD0, hE⟩ := hv
  have hx := B.exec
  have hb := B.bytes
  have hr := B.returns
  have hts := atoms_spec (ws := wsX4_markNotUndone) B.pre
  have hown : s.vm.findClass RX4 = some m.cls := findClass_of_methodNamed B.named
  have hlocks := B.notSynchronized
  subst hsz
  have hD := hD0.self (sz := s.heap.size)
  have hA : ∀ q : Nat, s.heap.size ≤ q → (va_A (zw cs ad σ tl) s.heap.size) q := fun q h => Or.inr h
  generalize va_A (zw cs ad σ tl) s.heap.size = A at hD hE hA ⊢
  have hS : va_S A s.heap s.heap [] := va_S.rf
  have hl := lv_entry ([.ref (ad 13), .int a1]) (n := 2) (Nat.le_of_ble_eq_true rfl)
  rw [lg_entry_eq]
  generalize (lg_sl ([.ref (ad 13), .int a1]) ++ List.replicate (2 - (lg_sl ([.ref (ad 13), .int a1])).length) Slot.unset).toArray = ls at hl ⊢
  have hl : lv_has ls 2 [(0, .ref (ad 13)), (1, .int a1)] := hl
  generalize hR : (f_X4_markNotUndone σ a1) = RV
  have hR := hR.symm
  unfold f_X4_markNotUndone at hR
  obtain ⟨H, hH⟩ : ∃ z, z = s.heap := ⟨_, rfl⟩
  obtain ⟨locs, hlocs⟩ : ∃ z : List Loc, z = [] := ⟨_, rfl⟩
  rw [← hH] at hP
  have hS : va_S A s.heap H locs := by rw [hH, hlocs]; exact hS
  show W _ _ _ _ _ _ _ _ _ _ s.heap [] _ _ _ _
  rw [← hH, ← hlocs]
  clear hlocs
  refine lv_iload_n hx hb dX4_markNotUndone_0 rfl (lv_at hl 1 rfl) ?_
  refine zai (va_runS (As := [.int a1]) (rest := []) ⟨hx, hb, hml, hown, hts⟩ (c_X4_isPlace l G cs ad tl σ a1  H.size) (va_cwS 1 hts gX4_markNotUndone_X4_isPlace rfl rfl rfl (by decide +kernel) ⟨Nat.le_of_ble_eq_true rfl, Nat.le_of_ble_eq_true rfl⟩) (zps hE hP hD hS hA) rfl rfl hl.1 rfl (lv_room (Nat.le_of_ble_eq_true rfl)) dX4_markNotUndone_1 ⟨Nat.le_of_ble_eq_true rfl, Nat.le_of_ble_eq_true rfl⟩) hD hS hA (fun H locs hP hD hS => ?_)
  refine lv_if_eq (tgt := 14) hx hb dX4_markNotUndone_4 (by decide) (fun c_1 => ?_) (fun c_1 => ?_)
  · have hR := hR.trans (if_pos c_1)
    have hR := hR.symm
    subst hR
    exact W.vret hx hb hr (fun t ht hW => ⟨⟨(), rfl, trivial, by rw [ht]; exact hP, hD⟩, hS.F ht⟩) hS.2.2 dX4_markNotUndone_14
  · have hR := hR.trans (if_neg c_1)
    refine lv_aload_n hx hb dX4_markNotUndone_7 rfl (lv_at hl 0 rfl) ?_
    refine va_get (D := G) (ci := 6) (v := .ref (ad 22)) (C := RX4) (T := TX4) (N := 10) hx hb hts iX4_markNotUndone hown hE.1 hP 13 (zg_13 cs ad σ tl) rfl 8 (by decide) (hts (.fieldLink RX4 36 "HandoverDeck$ProcedureBook" "undoneLines" "[I") (by decide +kernel)) (fun _ h9 => h9) rfl dX4_markNotUndone_8 ?_
    refine lv_iload_n hx hb dX4_markNotUndone_11 rfl (lv_at hl 1 rfl) ?_
    refine lv_iconst (v := (-1)) hx hb dX4_markNotUndone_12 (by decide) ?_
    refine z_iast hx hb hE hP hD hS (zg_22 cs ad σ tl) (zb_22 cs ad σ tl) (vin_X4_isPlace c_1) dX4_markNotUndone_13 (fun H locs hP hD hS => ?_)
    have hR := hR.symm
    subst hR
    exact W.vret hx hb hr (fun t ht hW => ⟨⟨(), rfl, trivial, by rw [ht]; exact hP, hD⟩, hS.F ht⟩) hS.2.2 dX4_markNotUndone_14
def f_X4_isStep (σ : zS) (a1 : Int32) : Int32 := (if (f_X4_isPlace a1) = 0 then 0 else (if (f_X4_stepCount σ (a1 / 8)) ≤ (f_X5_stepNumber a1) then 0 else 1))
set_option maxRecDepth 100000 in
theorem c_X4_isStep (l : Launch) (G : va_G) (cs : Nat → ClassId) (ad : Nat → Nat) (tl : va_W) (σ : zS) (a1 : Int32)  : zMi l yX4_isStep wsX4_isStep { frames := 2, cells := 0, slots := 0, locals := 42 } G cs [.ref (ad 13), .int a1] (zw cs ad σ tl) (f_X4_isStep σ a1) (zw cs ad σ tl) 0 0 := by
  intro sz
  refine Met.ofW (cc := cX4_isStep) (maxL := 2) (ret := (some .boolean)) (by decide) rfl ?_
  intro p e s m args below meth c s₁ B hml hv
  obtain ⟨rfl, hsz, hP, hD0, hE⟩ := hv
  have hx := B.exec
  have hb := B.bytes
  have hr := B.returns
  have hts := atoms_spec (ws := wsX4_isStep) B.pre
  have hown : s.vm.findClass RX4 = some m.cls := findClass_of_methodNamed B.named
  have hlocks := B.notSynchronized
  subst hsz
  have hD := hD0.self (sz := s.heap.size)
  have hA : ∀ q : Nat, s.heap.size ≤ q → (va_A (zw cs ad σ tl) s.heap.size) q := fun q h => Or.inr h
  generalize va_A (zw cs ad σ tl) s.heap.size = A at hD hE hA ⊢
  have hS : va_S A s.heap s.heap [] := va_S.rf
  have hl := lv_entry ([.ref (ad 13), .int a1]) (n := 2) (Nat.le_of_ble_eq_true rfl)
  rw [lg_entry_eq]
  generalize (lg_sl ([.ref (ad 13), .int a1]) ++ List.replicate (2 - (lg_sl ([.ref (ad 13), .int a1])).length) Slot.unset).toArray = ls at hl ⊢
  have hl : lv_has ls 2 [(0, .ref (ad 13)), (1, .int a1)] := hl
  generalize hR : (f_X4_isStep σ a1) = RV
  have hR := hR.symm
  unfold f_X4_isStep at hR
  obtain ⟨H, hH⟩ : ∃ z, z = s.heap := ⟨_, rfl⟩
  obtain ⟨locs, hlocs⟩ : ∃ z : List Loc, z = [] := ⟨_, rfl⟩
  rw [← hH] at hP
  have hS : va_S A s.heap H locs := by rw [hH, hlocs]; exact hS
  show W _ _ _ _ _ _ _ _ _ _ s.heap [] _ _ _ _
  rw [← hH, ← hlocs]
  clear hlocs
  refine lv_iload_n hx hb dX4_isStep_0 rfl (lv_at hl 1 rfl) ?_
  refine zai (va_runS (As := [.int a1]) (rest := []) ⟨hx, hb, hml, hown, hts⟩ (c_X4_isPlace l G cs ad tl σ a1  H.size) (va_cwS 1 hts gX4_isStep_X4_isPlace rfl rfl rfl (by decide +kernel) ⟨Nat.le_of_ble_eq_true rfl, Nat.le_of_ble_eq_true rfl⟩) (zps hE hP hD hS hA) rfl rfl hl.1 rfl (lv_room (Nat.le_of_ble_eq_true rfl)) dX4_isStep_1 ⟨Nat.le_of_ble_eq_true rfl, Nat.le_of_ble_eq_true rfl⟩) hD hS hA (fun H locs hP hD hS => ?_)
  refine lv_if_eq (tgt := 26) hx hb dX4_isStep_4 (by decide) (fun c_1 => ?_) (fun c_1 => ?_)
  · have hR := hR.trans (if_pos c_1)
    refine lv_iconst (v := 0) hx hb dX4_isStep_26 (by decide) ?_
    have hR := hR.symm
    subst hR
    exact W.zret (v := 0) hx hb hr rfl (fun t ht hW => ⟨⟨_, (), rfl, rfl, by rw [ht]; exact hP, hD⟩, hS.F ht⟩) hS.2.2 dX4_isStep_27
  · have hR := hR.trans (if_neg c_1)
    refine lv_iload_n hx hb dX4_isStep_7 rfl (lv_at hl 1 rfl) ?_
    refine zai (va_runSN (As := [.int a1]) (rest := []) ⟨hx, hb, hml, hown, hts⟩ (c_X5_stepNumber l G cs ad tl σ a1  H.size) ⟨va_cnB 1 hts gX4_isStep_X5_stepNumber_n70 rfl rfl rfl (hE.2.1 _ (List.mem_of_getElem? (i := 2) rfl)) (hts (.initialized RX5) (by decide +kernel)) (by decide +kernel) ⟨Nat.le_of_ble_eq_true rfl, Nat.le_of_ble_eq_true rfl⟩, hts (.static yX5_stepNumber) (by decide +kernel), trivial⟩ (zps hE hP hD hS hA) rfl rfl hl.1 rfl (lv_room (Nat.le_of_ble_eq_true rfl)) dX4_isStep_8 ⟨Nat.le_of_ble_eq_true rfl, Nat.le_of_ble_eq_true rfl⟩) hD hS hA (fun H locs hP hD hS => ?_)
    refine lv_aload_n hx hb dX4_isStep_11 rfl (lv_at hl 0 rfl) ?_
    refine lv_iload_n hx hb dX4_isStep_12 rfl (lv_at hl 1 rfl) ?_
    refine lv_bipush (v := 8) hx hb dX4_isStep_13 (by decide) ?_
    refine lv_idiv hx hb dX4_isStep_15 (by decide) ?_
    refine zai (va_runV (As := [.int (a1 / 8)]) (rest := [.int (f_X5_stepNumber a1)]) ⟨hx, hb, hml, hown, hts⟩ (c_X4_stepCount l G cs ad tl σ (a1 / 8)  H.size) (cwV 1 hts gX4_isStep_X4_stepCount rfl rfl rfl (by decide +kernel) ⟨Nat.le_of_ble_eq_true rfl, Nat.le_of_ble_eq_true rfl⟩) (zpv hE hP hD hS hA (zg_13 cs ad σ tl) rfl) rfl rfl hl.1 rfl (lv_room (Nat.le_of_ble_eq_true rfl)) dX4_isStep_16 ⟨Nat.le_of_ble_eq_true rfl, Nat.le_of_ble_eq_true rfl⟩) hD hS hA (fun H locs hP hD hS => ?_)
    refine lv_icmp_ge (tgt := 26) hx hb dX4_isStep_19 (by decide) (fun c_2 => ?_) (fun c_2 => ?_)
    · have hR := hR.trans (if_pos c_2)
      refine lv_iconst (v := 0) hx hb dX4_isStep_26 (by decide) ?_
      have hR := hR.symm
      subst hR
      exact W.zret (v := 0) hx hb hr rfl (fun t ht hW => ⟨⟨_, (), rfl, rfl, by rw [ht]; exact hP, hD⟩, hS.F ht⟩) hS.2.2 dX4_isStep_27
    · have hR := hR.trans (if_neg c_2)
      refine lv_iconst (v := 1) hx hb dX4_isStep_22 (by decide) ?_
      refine lv_goto (tgt := 27) hx hb dX4_isStep_23 (by decide) ?_
      have hR := hR.symm
      subst hR
      exact W.zret (v := 1) hx hb hr rfl (fun t ht hW => ⟨⟨_, (), rfl, rfl, by rw [ht]; exact hP, hD⟩, hS.F ht⟩) hS.2.2 dX4_isStep_27
theorem nar_X4_isStep (σ : zS) (a1 : Int32) : narrow .boolean (.int (f_X4_isStep σ a1)) = .int (f_X4_isStep σ a1) := by unfold f_X4_isStep; (repeat' split) <;> rfl
theorem vin_X4_isStep {σ : zS} {a1 : Int32} (h : ¬ (f_X4_isStep σ a1) = 0) : vp_in a1 48 := by
  unfold f_X4_isStep at h
  (repeat' split at h) <;> first | exact absurd rfl h | exact vin_rg (by assumption) (by assumption) (by decide) | exact vin_X4_isPlace (by assumption)
def f_X4_isUndone (σ : zS) (a1 : Int32) : Int32 := (if (f_X4_isStep σ a1) = 0 then 0 else (if (σ 22 a1.toNatClampNeg) = (-1) then 0 else 1))
theorem iX4_isUndone : ∀ w ∈ u_ws RX4 TX4 10, w ∈ wsX4_isUndone := by decide +kernel
set_option maxRecDepth 100000 in
theorem c_X4_isUndone (l : Launch) (G : va_G) (cs : Nat → ClassId) (ad : Nat → Nat) (tl : va_W) (σ : zS) (a1 : Int32)  : zMi l yX4_isUndone wsX4_isUndone { frames := 3, cells := 0, slots := 0, locals := 63 } G cs [.ref (ad 13), .int a1] (zw cs ad σ tl) (f_X4_isUndone σ a1) (zw cs ad σ tl) 0 0 := by
  intro sz
  refine Met.ofW (cc := cX4_isUndone) (maxL := 2) (ret := (some .boolean)) (by decide) rfl ?_
  intro p e s m args below meth c s₁ B hml hv
  obtain ⟨rfl, hsz, hP, hD0, hE⟩ := hv
  have hx := B.exec
  have hb := B.bytes
  have hr := B.returns
  have hts := atoms_spec (ws := wsX4_isUndone) B.pre
  have hown : s.vm.findClass RX4 = some m.cls := findClass_of_methodNamed B.named
  have hlocks := B.notSynchronized
  subst hsz
  have hD := hD0.self (sz := s.heap.size)
  have hA : ∀ q : Nat, s.heap.size ≤ q → (va_A (zw cs ad σ tl) s.heap.size) q := fun q h => Or.inr h
  generalize va_A (zw cs ad σ tl) s.heap.size = A at hD hE hA ⊢
  have hS : va_S A s.heap s.heap [] := va_S.rf
  have hl := lv_entry ([.ref (ad 13), .int a1]) (n := 2) (Nat.le_of_ble_eq_true rfl)
  rw [lg_entry_eq]
  generalize (lg_sl ([.ref (ad 13), .int a1]) ++ List.replicate (2 - (lg_sl ([.ref (ad 13), .int a1])).length) Slot.unset).toArray = ls at hl ⊢
  have hl : lv_has ls 2 [(0, .ref (ad 13)), (1, .int a1)] := hl
  generalize hR : (f_X4_isUndone σ a1) = RV
  have hR := hR.symm
  unfold f_X4_isUndone at hR
  obtain ⟨H, hH⟩ : ∃ z, z = s.heap := ⟨_, rfl⟩
  obtain ⟨locs, hlocs⟩ : ∃ z : List Loc, z = [] := ⟨_, rfl⟩
  rw [← hH] at hP
  have hS : va_S A s.heap H locs := by rw [hH, hlocs]; exact hS
  show W _ _ _ _ _ _ _ _ _ _ s.heap [] _ _ _ _
  rw [← hH, ← hlocs]
  clear hlocs
  refine lv_aload_n hx hb dX4_isUndone_0 rfl (lv_at hl 0 rfl) ?_
  refine lv_iload_n hx hb dX4_isUndone_1 rfl (lv_at hl 1 rfl) ?_
  refine zai (va_runV (As := [.int a1]) (rest := []) ⟨hx, hb, hml, hown, hts⟩ (c_X4_isStep l G cs ad tl σ a1  H.size) (cwV 1 hts gX4_isUndone_X4_isStep rfl rfl rfl (by decide +kernel) ⟨Nat.le_of_ble_eq_true rfl, Nat.le_of_ble_eq_true rfl⟩) (zpv hE hP hD hS hA (zg_13 cs ad σ tl) rfl) rfl rfl hl.1 rfl (lv_room (Nat.le_of_ble_eq_true rfl)) dX4_isUndone_2 ⟨Nat.le_of_ble_eq_true rfl, Nat.le_of_ble_eq_true rfl⟩) hD hS hA (fun H locs hP hD hS => ?_)
  refine lv_if_eq (tgt := 22) hx hb dX4_isUndone_5 (by decide) (fun c_1 => ?_) (fun c_1 => ?_)
  · have hR := hR.trans (if_pos c_1)
    refine lv_iconst (v := 0) hx hb dX4_isUndone_22 (by decide) ?_
    have hR := hR.symm
    subst hR
    exact W.zret (v := 0) hx hb hr rfl (fun t ht hW => ⟨⟨_, (), rfl, rfl, by rw [ht]; exact hP, hD⟩, hS.F ht⟩) hS.2.2 dX4_isUndone_23
  · have hR := hR.trans (if_neg c_1)
    refine lv_aload_n hx hb dX4_isUndone_8 rfl (lv_at hl 0 rfl) ?_
    refine va_get (D := G) (ci := 6) (v := .ref (ad 22)) (C := RX4) (T := TX4) (N := 10) hx hb hts iX4_isUndone hown hE.1 hP 13 (zg_13 cs ad σ tl) rfl 8 (by decide) (hts (.fieldLink RX4 36 "HandoverDeck$ProcedureBook" "undoneLines" "[I") (by decide +kernel)) (fun _ h9 => h9) rfl dX4_isUndone_9 ?_
    refine lv_iload_n hx hb dX4_isUndone_12 rfl (lv_at hl 1 rfl) ?_
    refine z_iald (v := (σ 22 a1.toNatClampNeg)) hx hb hE hP (zg_22 cs ad σ tl) (vin_X4_isStep c_1) rfl dX4_isUndone_13 ?_
    refine lv_iconst (v := (-1)) hx hb dX4_isUndone_14 (by decide) ?_
    refine lv_icmp_eq (tgt := 22) hx hb dX4_isUndone_15 (by decide) (fun c_2 => ?_) (fun c_2 => ?_)
    · have hR := hR.trans (if_pos c_2)
      refine lv_iconst (v := 0) hx hb dX4_isUndone_22 (by decide) ?_
      have hR := hR.symm
      subst hR
      exact W.zret (v := 0) hx hb hr rfl (fun t ht hW => ⟨⟨_, (), rfl, rfl, by rw [ht]; exact hP, hD⟩, hS.F ht⟩) hS.2.2 dX4_isUndone_23
    · have hR := hR.trans (if_neg c_2)
      refine lv_iconst (v := 1) hx hb dX4_isUndone_18 (by decide) ?_
      refine lv_goto (tgt := 23) hx hb dX4_isUndone_19 (by decide) ?_
      have hR := hR.symm
      subst hR
      exact W.zret (v := 1) hx hb hr rfl (fun t ht hW => ⟨⟨_, (), rfl, rfl, by rw [ht]; exact hP, hD⟩, hS.F ht⟩) hS.2.2 dX4_isUndone_23
theorem nar_X4_isUndone (σ : zS) (a1 : Int32) : narrow .boolean (.int (f_X4_isUndone σ a1)) = .int (f_X4_isUndone σ a1) := by unfold f_X4_isUndone; (repeat' split) <;> rfl
def f_X4_undoneLineOf (σ : zS) (a1 : Int32) : Int32 := (if (f_X4_isStep σ a1) = 0 then (-1) else (σ 22 a1.toNatClampNeg))
theorem iX4_undoneLineOf : ∀ w ∈ u_ws RX4 TX4 10, w ∈ wsX4_undoneLineOf := by decide +kernel
set_option maxRecDepth 100000 in
theorem c_X4_undoneLineOf (l : Launch) (G : va_G) (cs : Nat → ClassId) (ad : Nat → Nat) (tl : va_W) (σ : zS) (a1 : Int32)  : zMi l yX4_undoneLineOf wsX4_undoneLineOf { frames := 3, cells := 0, slots := 0, locals := 63 } G cs [.ref (ad 13), .int a1] (zw cs ad σ tl) (f_X4_undoneLineOf σ a1) (zw cs ad σ tl) 0 0 := by
  intro sz
  refine Met.ofW (cc := cX4_undoneLineOf) (maxL := 2) (ret := (some .int)) (by decide) rfl ?_
  intro p e s m args below meth c s₁ B hml hv
  obtain ⟨rfl, hsz, hP, hD0, hE⟩ := hv
  have hx := B.exec
  have hb := B.bytes
  have hr := B.returns
  have hts := atoms_spec (ws := wsX4_undoneLineOf) B.pre
  have hown : s.vm.findClass RX4 = some m.cls := findClass_of_methodNamed B.named
  have hlocks := B.notSynchronized
  subst hsz
  have hD := hD0.self (sz := s.heap.size)
  have hA : ∀ q : Nat, s.heap.size ≤ q → (va_A (zw cs ad σ tl) s.heap.size) q := fun q h => Or.inr h
  generalize va_A (zw cs ad σ tl) s.heap.size = A at hD hE hA ⊢
  have hS : va_S A s.heap s.heap [] := va_S.rf
  have hl := lv_entry ([.ref (ad 13), .int a1]) (n := 2) (Nat.le_of_ble_eq_true rfl)
  rw [lg_entry_eq]
  generalize (lg_sl ([.ref (ad 13), .int a1]) ++ List.replicate (2 - (lg_sl ([.ref (ad 13), .int a1])).length) Slot.unset).toArray = ls at hl ⊢
  have hl : lv_has ls 2 [(0, .ref (ad 13)), (1, .int a1)] := hl
  generalize hR : (f_X4_undoneLineOf σ a1) = RV
  have hR := hR.symm
  unfold f_X4_undoneLineOf at hR
  obtain ⟨H, hH⟩ : ∃ z, z = s.heap := ⟨_, rfl⟩
  obtain ⟨locs, hlocs⟩ : ∃ z : List Loc, z = [] := ⟨_, rfl⟩
  rw [← hH] at hP
  have hS : va_S A s.heap H locs := by rw [hH, hlocs]; exact hS
  show W _ _ _ _ _ _ _ _ _ _ s.heap [] _ _ _ _
  rw [← hH, ← hlocs]
  clear hlocs
  refine lv_aload_n hx hb dX4_undoneLineOf_0 rfl (lv_at hl 0 rfl) ?_
  refine lv_iload_n hx hb dX4_undoneLineOf_1 rfl (lv_at hl 1 rfl) ?_
  refine zai (va_runV (As := [.int a1]) (rest := []) ⟨hx, hb, hml, hown, hts⟩ (c_X4_isStep l G cs ad tl σ a1  H.size) (cwV 1 hts gX4_undoneLineOf_X4_isStep rfl rfl rfl (by decide +kernel) ⟨Nat.le_of_ble_eq_true rfl, Nat.le_of_ble_eq_true rfl⟩) (zpv hE hP hD hS hA (zg_13 cs ad σ tl) rfl) rfl rfl hl.1 rfl (lv_room (Nat.le_of_ble_eq_true rfl)) dX4_undoneLineOf_2 ⟨Nat.le_of_ble_eq_true rfl, Nat.le_of_ble_eq_true rfl⟩) hD hS hA (fun H locs hP hD hS => ?_)
  refine lv_if_eq (tgt := 17) hx hb dX4_undoneLineOf_5 (by decide) (fun c_1 => ?_) (fun c_1 => ?_)
  · have hR := hR.trans (if_pos c_1)
    refine lv_iconst (v := (-1)) hx hb dX4_undoneLineOf_17 (by decide) ?_
    have hR := hR.symm
    subst hR
    exact W.iret (v := (-1)) hx hb hr (fun t ht hW => ⟨⟨_, (), rfl, rfl, by rw [ht]; exact hP, hD⟩, hS.F ht⟩) hS.2.2 dX4_undoneLineOf_18
  · have hR := hR.trans (if_neg c_1)
    refine lv_aload_n hx hb dX4_undoneLineOf_8 rfl (lv_at hl 0 rfl) ?_
    refine va_get (D := G) (ci := 6) (v := .ref (ad 22)) (C := RX4) (T := TX4) (N := 10) hx hb hts iX4_undoneLineOf hown hE.1 hP 13 (zg_13 cs ad σ tl) rfl 8 (by decide) (hts (.fieldLink RX4 36 "HandoverDeck$ProcedureBook" "undoneLines" "[I") (by decide +kernel)) (fun _ h9 => h9) rfl dX4_undoneLineOf_9 ?_
    refine lv_iload_n hx hb dX4_undoneLineOf_12 rfl (lv_at hl 1 rfl) ?_
    refine z_iald (v := (σ 22 a1.toNatClampNeg)) hx hb hE hP (zg_22 cs ad σ tl) (vin_X4_isStep c_1) rfl dX4_undoneLineOf_13 ?_
    refine lv_goto (tgt := 18) hx hb dX4_undoneLineOf_14 (by decide) ?_
    have hR := hR.symm
    subst hR
    exact W.iret (v := (σ 22 a1.toNatClampNeg)) hx hb hr (fun t ht hW => ⟨⟨_, (), rfl, rfl, by rw [ht]; exact hP, hD⟩, hS.F ht⟩) hS.2.2 dX4_undoneLineOf_18
def f_X4_neededOf (σ : zS) (a1 : Int32) : Int32 := (if (f_X4_isPlace a1) = 0 then (-1) else (σ 16 a1.toNatClampNeg))
theorem iX4_neededOf : ∀ w ∈ u_ws RX4 TX4 10, w ∈ wsX4_neededOf := by decide +kernel
set_option maxRecDepth 100000 in
theorem c_X4_neededOf (l : Launch) (G : va_G) (cs : Nat → ClassId) (ad : Nat → Nat) (tl : va_W) (σ : zS) (a1 : Int32)  : zMi l yX4_neededOf wsX4_neededOf { frames := 1, cells := 0, slots := 0, locals := 20 } G cs [.ref (ad 13), .int a1] (zw cs ad σ tl) (f_X4_neededOf σ a1) (zw cs ad σ tl) 0 0 := by
  intro sz
  refine Met.ofW (cc := cX4_neededOf) (maxL := 2) (ret := (some .int)) (by decide) rfl ?_
  intro p e s m args below meth c s₁ B hml hv
  obtain ⟨rfl, hsz, hP, hD0, hE⟩ := hv
  have hx := B.exec
  have hb := B.bytes
  have hr := B.returns
  have hts := atoms_spec (ws := wsX4_neededOf) B.pre
  have hown : s.vm.findClass RX4 = some m.cls := findClass_of_methodNamed B.named
  have hlocks := B.notSynchronized
  subst hsz
  have hD := hD0.self (sz := s.heap.size)
  have hA : ∀ q : Nat, s.heap.size ≤ q → (va_A (zw cs ad σ tl) s.heap.size) q := fun q h => Or.inr h
  generalize va_A (zw cs ad σ tl) s.heap.size = A at hD hE hA ⊢
  have hS : va_S A s.heap s.heap [] := va_S.rf
  have hl := lv_entry ([.ref (ad 13), .int a1]) (n := 2) (Nat.le_of_ble_eq_true rfl)
  rw [lg_entry_eq]
  generalize (lg_sl ([.ref (ad 13), .int a1]) ++ List.replicate (2 - (lg_sl ([.ref (ad 13), .int a1])).length) Slot.unset).toArray = ls at hl ⊢
  have hl : lv_has ls 2 [(0, .ref (ad 13)), (1, .int a1)] := hl
  generalize hR : (f_X4_neededOf σ a1) = RV
  have hR := hR.symm
  unfold f_X4_neededOf at hR
  obtain ⟨H, hH⟩ : ∃ z, z = s.heap := ⟨_, rfl⟩
  obtain ⟨locs, hlocs⟩ : ∃ z : List Loc, z = [] := ⟨_, rfl⟩
  rw [← hH] at hP
  have hS : va_S A s.heap H locs := by rw [hH, hlocs]; exact hS
  show W _ _ _ _ _ _ _ _ _ _ s.heap [] _ _ _ _
  rw [← hH, ← hlocs]
  clear hlocs
  refine lv_iload_n hx hb dX4_neededOf_0 rfl (lv_at hl 1 rfl) ?_
  refine zai (va_runS (As := [.int a1]) (rest := []) ⟨hx, hb, hml, hown, hts⟩ (c_X4_isPlace l G cs ad tl σ a1  H.size) (va_cwS 1 hts gX4_neededOf_X4_isPlace rfl rfl rfl (by decide +kernel) ⟨Nat.le_of_ble_eq_true rfl, Nat.le_of_ble_eq_true rfl⟩) (zps hE hP hD hS hA) rfl rfl hl.1 rfl (lv_room (Nat.le_of_ble_eq_true rfl)) dX4_neededOf_1 ⟨Nat.le_of_ble_eq_true rfl, Nat.le_of_ble_eq_true rfl⟩) hD hS hA (fun H locs hP hD hS => ?_)
  refine lv_if_eq (tgt := 16) hx hb dX4_neededOf_4 (by decide) (fun c_1 => ?_) (fun c_1 => ?_)
  · have hR := hR.trans (if_pos c_1)
    refine lv_iconst (v := (-1)) hx hb dX4_neededOf_16 (by decide) ?_
    have hR := hR.symm
    subst hR
    exact W.iret (v := (-1)) hx hb hr (fun t ht hW => ⟨⟨_, (), rfl, rfl, by rw [ht]; exact hP, hD⟩, hS.F ht⟩) hS.2.2 dX4_neededOf_17
  · have hR := hR.trans (if_neg c_1)
    refine lv_aload_n hx hb dX4_neededOf_7 rfl (lv_at hl 0 rfl) ?_
    refine va_get (D := G) (ci := 6) (v := .ref (ad 16)) (C := RX4) (T := TX4) (N := 10) hx hb hts iX4_neededOf hown hE.1 hP 13 (zg_13 cs ad σ tl) rfl 2 (by decide) (hts (.fieldLink RX4 18 "HandoverDeck$ProcedureBook" "needed" "[I") (by decide +kernel)) (fun _ h9 => h9) rfl dX4_neededOf_8 ?_
    refine lv_iload_n hx hb dX4_neededOf_11 rfl (lv_at hl 1 rfl) ?_
    refine z_iald (v := (σ 16 a1.toNatClampNeg)) hx hb hE hP (zg_16 cs ad σ tl) (vin_X4_isPlace c_1) rfl dX4_neededOf_12 ?_
    refine lv_goto (tgt := 17) hx hb dX4_neededOf_13 (by decide) ?_
    have hR := hR.symm
    subst hR
    exact W.iret (v := (σ 16 a1.toNatClampNeg)) hx hb hr (fun t ht hW => ⟨⟨_, (), rfl, rfl, by rw [ht]; exact hP, hD⟩, hS.F ht⟩) hS.2.2 dX4_neededOf_17
def f_X4_neededStateOf (σ : zS) (a1 : Int32) : Int32 := (if (f_X4_isPlace a1) = 0 then (-1) else (σ 17 a1.toNatClampNeg))
theorem iX4_neededStateOf : ∀ w ∈ u_ws RX4 TX4 10, w ∈ wsX4_neededStateOf := by decide +kernel
set_option maxRecDepth 100000 in
theorem c_X4_neededStateOf (l : Launch) (G : va_G) (cs : Nat → ClassId) (ad : Nat → Nat) (tl : va_W) (σ : zS) (a1 : Int32)  : zMi l yX4_neededStateOf wsX4_neededStateOf { frames := 1, cells := 0, slots := 0, locals := 20 } G cs [.ref (ad 13), .int a1] (zw cs ad σ tl) (f_X4_neededStateOf σ a1) (zw cs ad σ tl) 0 0 := by
  intro sz
  refine Met.ofW (cc := cX4_neededStateOf) (maxL := 2) (ret := (some .int)) (by decide) rfl ?_
  intro p e s m args below meth c s₁ B hml hv
  obtain ⟨rfl, hsz, hP, hD0, hE⟩ := hv
  have hx := B.exec
  have hb := B.bytes
  have hr := B.returns
  have hts := atoms_spec (ws := wsX4_neededStateOf) B.pre
  have hown : s.vm.findClass RX4 = some m.cls := findClass_of_methodNamed B.named
  have hlocks := B.notSynchronized
  subst hsz
  have hD := hD0.self (sz := s.heap.size)
  have hA : ∀ q : Nat, s.heap.size ≤ q → (va_A (zw cs ad σ tl) s.heap.size) q := fun q h => Or.inr h
  generalize va_A (zw cs ad σ tl) s.heap.size = A at hD hE hA ⊢
  have hS : va_S A s.heap s.heap [] := va_S.rf
  have hl := lv_entry ([.ref (ad 13), .int a1]) (n := 2) (Nat.le_of_ble_eq_true rfl)
  rw [lg_entry_eq]
  generalize (lg_sl ([.ref (ad 13), .int a1]) ++ List.replicate (2 - (lg_sl ([.ref (ad 13), .int a1])).length) Slot.unset).toArray = ls at hl ⊢
  have hl : lv_has ls 2 [(0, .ref (ad 13)), (1, .int a1)] := hl
  generalize hR : (f_X4_neededStateOf σ a1) = RV
  have hR := hR.symm
  unfold f_X4_neededStateOf at hR
  obtain ⟨H, hH⟩ : ∃ z, z = s.heap := ⟨_, rfl⟩
  obtain ⟨locs, hlocs⟩ : ∃ z : List Loc, z = [] := ⟨_, rfl⟩
  rw [← hH] at hP
  have hS : va_S A s.heap H locs := by rw [hH, hlocs]; exact hS
  show W _ _ _ _ _ _ _ _ _ _ s.heap [] _ _ _ _
  rw [← hH, ← hlocs]
  clear hlocs
  refine lv_iload_n hx hb dX4_neededStateOf_0 rfl (lv_at hl 1 rfl) ?_
  refine zai (va_runS (As := [.int a1]) (rest := []) ⟨hx, hb, hml, hown, hts⟩ (c_X4_isPlace l G cs ad tl σ a1  H.size) (va_cwS 1 hts gX4_neededStateOf_X4_isPlace rfl rfl rfl (by decide +kernel) ⟨Nat.le_of_ble_eq_true rfl, Nat.le_of_ble_eq_true rfl⟩) (zps hE hP hD hS hA) rfl rfl hl.1 rfl (lv_room (Nat.le_of_ble_eq_true rfl)) dX4_neededStateOf_1 ⟨Nat.le_of_ble_eq_true rfl, Nat.le_of_ble_eq_true rfl⟩) hD hS hA (fun H locs hP hD hS => ?_)
  refine lv_if_eq (tgt := 16) hx hb dX4_neededStateOf_4 (by decide) (fun c_1 => ?_) (fun c_1 => ?_)
  · have hR := hR.trans (if_pos c_1)
    refine lv_iconst (v := (-1)) hx hb dX4_neededStateOf_16 (by decide) ?_
    have hR := hR.symm
    subst hR
    exact W.iret (v := (-1)) hx hb hr (fun t ht hW => ⟨⟨_, (), rfl, rfl, by rw [ht]; exact hP, hD⟩, hS.F ht⟩) hS.2.2 dX4_neededStateOf_17
  · have hR := hR.trans (if_neg c_1)
    refine lv_aload_n hx hb dX4_neededStateOf_7 rfl (lv_at hl 0 rfl) ?_
    refine va_get (D := G) (ci := 6) (v := .ref (ad 17)) (C := RX4) (T := TX4) (N := 10) hx hb hts iX4_neededStateOf hown hE.1 hP 13 (zg_13 cs ad σ tl) rfl 3 (by decide) (hts (.fieldLink RX4 21 "HandoverDeck$ProcedureBook" "neededStates" "[I") (by decide +kernel)) (fun _ h9 => h9) rfl dX4_neededStateOf_8 ?_
    refine lv_iload_n hx hb dX4_neededStateOf_11 rfl (lv_at hl 1 rfl) ?_
    refine z_iald (v := (σ 17 a1.toNatClampNeg)) hx hb hE hP (zg_17 cs ad σ tl) (vin_X4_isPlace c_1) rfl dX4_neededStateOf_12 ?_
    refine lv_goto (tgt := 17) hx hb dX4_neededStateOf_13 (by decide) ?_
    have hR := hR.symm
    subst hR
    exact W.iret (v := (σ 17 a1.toNatClampNeg)) hx hb hr (fun t ht hW => ⟨⟨_, (), rfl, rfl, by rw [ht]; exact hP, hD⟩, hS.F ht⟩) hS.2.2 dX4_neededStateOf_17
def f_X4_unitOf (σ : zS) (a1 : Int32) : Int32 := (if (f_X4_isPlace a1) = 0 then (-1) else (σ 18 a1.toNatClampNeg))
theorem iX4_unitOf : ∀ w ∈ u_ws RX4 TX4 10, w ∈ wsX4_unitOf := by decide +kernel
set_option maxRecDepth 100000 in
theorem c_X4_unitOf (l : Launch) (G : va_G) (cs : Nat → ClassId) (ad : Nat → Nat) (tl : va_W) (σ : zS) (a1 : Int32)  : zMi l yX4_unitOf wsX4_unitOf { frames := 1, cells := 0, slots := 0, locals := 20 } G cs [.ref (ad 13), .int a1] (zw cs ad σ tl) (f_X4_unitOf σ a1) (zw cs ad σ tl) 0 0 := by
  intro sz
  refine Met.ofW (cc := cX4_unitOf) (maxL := 2) (ret := (some .int)) (by decide) rfl ?_
  intro p e s m args below meth c s₁ B hml hv
  obtain ⟨rfl, hsz, hP, hD0, hE⟩ := hv
  have hx := B.exec
  have hb := B.bytes
  have hr := B.returns
  have hts := atoms_spec (ws := wsX4_unitOf) B.pre
  have hown : s.vm.findClass RX4 = some m.cls := findClass_of_methodNamed B.named
  have hlocks := B.notSynchronized
  subst hsz
  have hD := hD0.self (sz := s.heap.size)
  have hA : ∀ q : Nat, s.heap.size ≤ q → (va_A (zw cs ad σ tl) s.heap.size) q := fun q h => Or.inr h
  generalize va_A (zw cs ad σ tl) s.heap.size = A at hD hE hA ⊢
  have hS : va_S A s.heap s.heap [] := va_S.rf
  have hl := lv_entry ([.ref (ad 13), .int a1]) (n := 2) (Nat.le_of_ble_eq_true rfl)
  rw [lg_entry_eq]
  generalize (lg_sl ([.ref (ad 13), .int a1]) ++ List.replicate (2 - (lg_sl ([.ref (ad 13), .int a1])).length) Slot.unset).toArray = ls at hl ⊢
  have hl : lv_has ls 2 [(0, .ref (ad 13)), (1, .int a1)] := hl
  generalize hR : (f_X4_unitOf σ a1) = RV
  have hR := hR.symm
  unfold f_X4_unitOf at hR
  obtain ⟨H, hH⟩ : ∃ z, z = s.heap := ⟨_, rfl⟩
  obtain ⟨locs, hlocs⟩ : ∃ z : List Loc, z = [] := ⟨_, rfl⟩
  rw [← hH] at hP
  have hS : va_S A s.heap H locs := by rw [hH, hlocs]; exact hS
  show W _ _ _ _ _ _ _ _ _ _ s.heap [] _ _ _ _
  rw [← hH, ← hlocs]
  clear hlocs
  refine lv_iload_n hx hb dX4_unitOf_0 rfl (lv_at hl 1 rfl) ?_
  refine zai (va_runS (As := [.int a1]) (rest := []) ⟨hx, hb, hml, hown, hts⟩ (c_X4_isPlace l G cs ad tl σ a1  H.size) (va_cwS 1 hts gX4_unitOf_X4_isPlace rfl rfl rfl (by decide +kernel) ⟨Nat.le_of_ble_eq_true rfl, Nat.le_of_ble_eq_true rfl⟩) (zps hE hP hD hS hA) rfl rfl hl.1 rfl (lv_room (Nat.le_of_ble_eq_true rfl)) dX4_unitOf_1 ⟨Nat.le_of_ble_eq_true rfl, Nat.le_of_ble_eq_true rfl⟩) hD hS hA (fun H locs hP hD hS => ?_)
  refine lv_if_eq (tgt := 16) hx hb dX4_unitOf_4 (by decide) (fun c_1 => ?_) (fun c_1 => ?_)
  · have hR := hR.trans (if_pos c_1)
    refine lv_iconst (v := (-1)) hx hb dX4_unitOf_16 (by decide) ?_
    have hR := hR.symm
    subst hR
    exact W.iret (v := (-1)) hx hb hr (fun t ht hW => ⟨⟨_, (), rfl, rfl, by rw [ht]; exact hP, hD⟩, hS.F ht⟩) hS.2.2 dX4_unitOf_17
  · have hR := hR.trans (if_neg c_1)
    refine lv_aload_n hx hb dX4_unitOf_7 rfl (lv_at hl 0 rfl) ?_
    refine va_get (D := G) (ci := 6) (v := .ref (ad 18)) (C := RX4) (T := TX4) (N := 10) hx hb hts iX4_unitOf hown hE.1 hP 13 (zg_13 cs ad σ tl) rfl 4 (by decide) (hts (.fieldLink RX4 24 "HandoverDeck$ProcedureBook" "units" "[I") (by decide +kernel)) (fun _ h9 => h9) rfl dX4_unitOf_8 ?_
    refine lv_iload_n hx hb dX4_unitOf_11 rfl (lv_at hl 1 rfl) ?_
    refine z_iald (v := (σ 18 a1.toNatClampNeg)) hx hb hE hP (zg_18 cs ad σ tl) (vin_X4_isPlace c_1) rfl dX4_unitOf_12 ?_
    refine lv_goto (tgt := 17) hx hb dX4_unitOf_13 (by decide) ?_
    have hR := hR.symm
    subst hR
    exact W.iret (v := (σ 18 a1.toNatClampNeg)) hx hb hr (fun t ht hW => ⟨⟨_, (), rfl, rfl, by rw [ht]; exact hP, hD⟩, hS.F ht⟩) hS.2.2 dX4_unitOf_17
def f_X4_newStateOf (σ : zS) (a1 : Int32) : Int32 := (if (f_X4_isPlace a1) = 0 then (-1) else (σ 19 a1.toNatClampNeg))
theorem iX4_newStateOf : ∀ w ∈ u_ws RX4 TX4 10, w ∈ wsX4_newStateOf := by decide +kernel
set_option maxRecDepth 100000 in
theorem c_X4_newStateOf (l : Launch) (G : va_G) (cs : Nat → ClassId) (ad : Nat → Nat) (tl : va_W) (σ : zS) (a1 : Int32)  : zMi l yX4_newStateOf wsX4_newStateOf { frames := 1, cells := 0, slots := 0, locals := 20 } G cs [.ref (ad 13), .int a1] (zw cs ad σ tl) (f_X4_newStateOf σ a1) (zw cs ad σ tl) 0 0 := by
  intro sz
  refine Met.ofW (cc := cX4_newStateOf) (maxL := 2) (ret := (some .int)) (by decide) rfl ?_
  intro p e s m args below meth c s₁ B hml hv
  obtain ⟨rfl, hsz, hP, hD0, hE⟩ := hv
  have hx := B.exec
  have hb := B.bytes
  have hr := B.returns
  have hts := atoms_spec (ws := wsX4_newStateOf) B.pre
  have hown : s.vm.findClass RX4 = some m.cls := findClass_of_methodNamed B.named
  have hlocks := B.notSynchronized
  subst hsz
  have hD := hD0.self (sz := s.heap.size)
  have hA : ∀ q : Nat, s.heap.size ≤ q → (va_A (zw cs ad σ tl) s.heap.size) q := fun q h => Or.inr h
  generalize va_A (zw cs ad σ tl) s.heap.size = A at hD hE hA ⊢
  have hS : va_S A s.heap s.heap [] := va_S.rf
  have hl := lv_entry ([.ref (ad 13), .int a1]) (n := 2) (Nat.le_of_ble_eq_true rfl)
  rw [lg_entry_eq]
  generalize (lg_sl ([.ref (ad 13), .int a1]) ++ List.replicate (2 - (lg_sl ([.ref (ad 13), .int a1])).length) Slot.unset).toArray = ls at hl ⊢
  have hl : lv_has ls 2 [(0, .ref (ad 13)), (1, .int a1)] := hl
  generalize hR : (f_X4_newStateOf σ a1) = RV
  have hR := hR.symm
  unfold f_X4_newStateOf at hR
  obtain ⟨H, hH⟩ : ∃ z, z = s.heap := ⟨_, rfl⟩
  obtain ⟨locs, hlocs⟩ : ∃ z : List Loc, z = [] := ⟨_, rfl⟩
  rw [← hH] at hP
  have hS : va_S A s.heap H locs := by rw [hH, hlocs]; exact hS
  show W _ _ _ _ _ _ _ _ _ _ s.heap [] _ _ _ _
  rw [← hH, ← hlocs]
  clear hlocs
  refine lv_iload_n hx hb dX4_newStateOf_0 rfl (lv_at hl 1 rfl) ?_
  refine zai (va_runS (As := [.int a1]) (rest := []) ⟨hx, hb, hml, hown, hts⟩ (c_X4_isPlace l G cs ad tl σ a1  H.size) (va_cwS 1 hts gX4_newStateOf_X4_isPlace rfl rfl rfl (by decide +kernel) ⟨Nat.le_of_ble_eq_true rfl, Nat.le_of_ble_eq_true rfl⟩) (zps hE hP hD hS hA) rfl rfl hl.1 rfl (lv_room (Nat.le_of_ble_eq_true rfl)) dX4_newStateOf_1 ⟨Nat.le_of_ble_eq_true rfl, Nat.le_of_ble_eq_true rfl⟩) hD hS hA (fun H locs hP hD hS => ?_)
  refine lv_if_eq (tgt := 16) hx hb dX4_newStateOf_4 (by decide) (fun c_1 => ?_) (fun c_1 => ?_)
  · have hR := hR.trans (if_pos c_1)
    refine lv_iconst (v := (-1)) hx hb dX4_newStateOf_16 (by decide) ?_
    have hR := hR.symm
    subst hR
    exact W.iret (v := (-1)) hx hb hr (fun t ht hW => ⟨⟨_, (), rfl, rfl, by rw [ht]; exact hP, hD⟩, hS.F ht⟩) hS.2.2 dX4_newStateOf_17
  · have hR := hR.trans (if_neg c_1)
    refine lv_aload_n hx hb dX4_newStateOf_7 rfl (lv_at hl 0 rfl) ?_
    refine va_get (D := G) (ci := 6) (v := .ref (ad 19)) (C := RX4) (T := TX4) (N := 10) hx hb hts iX4_newStateOf hown hE.1 hP 13 (zg_13 cs ad σ tl) rfl 5 (by decide) (hts (.fieldLink RX4 27 "HandoverDeck$ProcedureBook" "newStates" "[I") (by decide +kernel)) (fun _ h9 => h9) rfl dX4_newStateOf_8 ?_
    refine lv_iload_n hx hb dX4_newStateOf_11 rfl (lv_at hl 1 rfl) ?_
    refine z_iald (v := (σ 19 a1.toNatClampNeg)) hx hb hE hP (zg_19 cs ad σ tl) (vin_X4_isPlace c_1) rfl dX4_newStateOf_12 ?_
    refine lv_goto (tgt := 17) hx hb dX4_newStateOf_13 (by decide) ?_
    have hR := hR.symm
    subst hR
    exact W.iret (v := (σ 19 a1.toNatClampNeg)) hx hb hr (fun t ht hW => ⟨⟨_, (), rfl, rfl, by rw [ht]; exact hP, hD⟩, hS.F ht⟩) hS.2.2 dX4_newStateOf_17
def f_X4_notedStateOf (σ : zS) (a1 : Int32) : Int32 := (if (f_X4_isPlace a1) = 0 then (-1) else (σ 20 a1.toNatClampNeg))
theorem iX4_notedStateOf : ∀ w ∈ u_ws RX4 TX4 10, w ∈ wsX4_notedStateOf := by decide +kernel
set_option maxRecDepth 100000 in
theorem c_X4_notedStateOf (l : Launch) (G : va_G) (cs : Nat → ClassId) (ad : Nat → Nat) (tl : va_W) (σ : zS) (a1 : Int32)  : zMi l yX4_notedStateOf wsX4_notedStateOf { frames := 1, cells := 0, slots := 0, locals := 20 } G cs [.ref (ad 13), .int a1] (zw cs ad σ tl) (f_X4_notedStateOf σ a1) (zw cs ad σ tl) 0 0 := by
  intro sz
  refine Met.ofW (cc := cX4_notedStateOf) (maxL := 2) (ret := (some .int)) (by decide) rfl ?_
  intro p e s m args below meth c s₁ B hml hv
  obtain ⟨rfl, hsz, hP, hD0, hE⟩ := hv
  have hx := B.exec
  have hb := B.bytes
  have hr := B.returns
  have hts := atoms_spec (ws := wsX4_notedStateOf) B.pre
  have hown : s.vm.findClass RX4 = some m.cls := findClass_of_methodNamed B.named
  have hlocks := B.notSynchronized
  subst hsz
  have hD := hD0.self (sz := s.heap.size)
  have hA : ∀ q : Nat, s.heap.size ≤ q → (va_A (zw cs ad σ tl) s.heap.size) q := fun q h => Or.inr h
  generalize va_A (zw cs ad σ tl) s.heap.size = A at hD hE hA ⊢
  have hS : va_S A s.heap s.heap [] := va_S.rf
  have hl := lv_entry ([.ref (ad 13), .int a1]) (n := 2) (Nat.le_of_ble_eq_true rfl)
  rw [lg_entry_eq]
  generalize (lg_sl ([.ref (ad 13), .int a1]) ++ List.replicate (2 - (lg_sl ([.ref (ad 13), .int a1])).length) Slot.unset).toArray = ls at hl ⊢
  have hl : lv_has ls 2 [(0, .ref (ad 13)), (1, .int a1)] := hl
  generalize hR : (f_X4_notedStateOf σ a1) = RV
  have hR := hR.symm
  unfold f_X4_notedStateOf at hR
  obtain ⟨H, hH⟩ : ∃ z, z = s.heap := ⟨_, rfl⟩
  obtain ⟨locs, hlocs⟩ : ∃ z : List Loc, z = [] := ⟨_, rfl⟩
  rw [← hH] at hP
  have hS : va_S A s.heap H locs := by rw [hH, hlocs]; exact hS
  show W _ _ _ _ _ _ _ _ _ _ s.heap [] _ _ _ _
  rw [← hH, ← hlocs]
  clear hlocs
  refine lv_iload_n hx hb dX4_notedStateOf_0 rfl (lv_at hl 1 rfl) ?_
  refine zai (va_runS (As := [.int a1]) (rest := []) ⟨hx, hb, hml, hown, hts⟩ (c_X4_isPlace l G cs ad tl σ a1  H.size) (va_cwS 1 hts gX4_notedStateOf_X4_isPlace rfl rfl rfl (by decide +kernel) ⟨Nat.le_of_ble_eq_true rfl, Nat.le_of_ble_eq_true rfl⟩) (zps hE hP hD hS hA) rfl rfl hl.1 rfl (lv_room (Nat.le_of_ble_eq_true rfl)) dX4_notedStateOf_1 ⟨Nat.le_of_ble_eq_true rfl, Nat.le_of_ble_eq_true rfl⟩) hD hS hA (fun H locs hP hD hS => ?_)
  refine lv_if_eq (tgt := 16) hx hb dX4_notedStateOf_4 (by decide) (fun c_1 => ?_) (fun c_1 => ?_)
  · have hR := hR.trans (if_pos c_1)
    refine lv_iconst (v := (-1)) hx hb dX4_notedStateOf_16 (by decide) ?_
    have hR := hR.symm
    subst hR
    exact W.iret (v := (-1)) hx hb hr (fun t ht hW => ⟨⟨_, (), rfl, rfl, by rw [ht]; exact hP, hD⟩, hS.F ht⟩) hS.2.2 dX4_notedStateOf_17
  · have hR := hR.trans (if_neg c_1)
    refine lv_aload_n hx hb dX4_notedStateOf_7 rfl (lv_at hl 0 rfl) ?_
    refine va_get (D := G) (ci := 6) (v := .ref (ad 20)) (C := RX4) (T := TX4) (N := 10) hx hb hts iX4_notedStateOf hown hE.1 hP 13 (zg_13 cs ad σ tl) rfl 6 (by decide) (hts (.fieldLink RX4 30 "HandoverDeck$ProcedureBook" "notedStates" "[I") (by decide +kernel)) (fun _ h9 => h9) rfl dX4_notedStateOf_8 ?_
    refine lv_iload_n hx hb dX4_notedStateOf_11 rfl (lv_at hl 1 rfl) ?_
    refine z_iald (v := (σ 20 a1.toNatClampNeg)) hx hb hE hP (zg_20 cs ad σ tl) (vin_X4_isPlace c_1) rfl dX4_notedStateOf_12 ?_
    refine lv_goto (tgt := 17) hx hb dX4_notedStateOf_13 (by decide) ?_
    have hR := hR.symm
    subst hR
    exact W.iret (v := (σ 20 a1.toNatClampNeg)) hx hb hr (fun t ht hW => ⟨⟨_, (), rfl, rfl, by rw [ht]; exact hP, hD⟩, hS.F ht⟩) hS.2.2 dX4_notedStateOf_17
def L_X4_longestNotTaken_4 (σ : zS)  : Nat → Int32 → Int32 → Int32
  | 0, _, _ => 0
  | n + 1, x1, x2 => (if 48 ≤ x2 then x1 else (if (f_X4_isStep σ x2) = 0 then (L_X4_longestNotTaken_4 σ  n x1 (x2 + 1)) else (if (f_X4_isPlace x1) = 0 then (L_X4_longestNotTaken_4 σ  n x2 (x2 + 1)) else (if (σ 21 x1.toNatClampNeg) ≤ (σ 21 x2.toNatClampNeg) then (L_X4_longestNotTaken_4 σ  n x1 (x2 + 1)) else (L_X4_longestNotTaken_4 σ  n x2 (x2 + 1))))))
def f_X4_longestNotTaken (σ : zS)  : Int32 := (L_X4_longestNotTaken_4 σ  49 (-1) 0)
theorem iX4_longestNotTaken : ∀ w ∈ u_ws RX4 TX4 10, w ∈ wsX4_longestNotTaken := by decide +kernel
set_option maxRecDepth 100000 in
theorem c_X4_longestNotTaken (l : Launch) (G : va_G) (cs : Nat → ClassId) (ad : Nat → Nat) (tl : va_W) (σ : zS)   : zMi l yX4_longestNotTaken wsX4_longestNotTaken { frames := 3, cells := 0, slots := 0, locals := 63 } G cs [.ref (ad 13)] (zw cs ad σ tl) (f_X4_longestNotTaken σ ) (zw cs ad σ tl) 0 0 := by
  intro sz
  refine Met.ofW (cc := cX4_longestNotTaken) (maxL := 3) (ret := (some .int)) (by decide) rfl ?_
  intro p e s m args below meth c s₁ B hml hv
  obtain ⟨rfl, hsz, hP, hD0, hE⟩ := hv
  have hx := B.exec
  have hb := B.bytes
  have hr := B.returns
  have hts := atoms_spec (ws := wsX4_longestNotTaken) B.pre
  have hown : s.vm.findClass RX4 = some m.cls := findClass_of_methodNamed B.named
  have hlocks := B.notSynchronized
  subst hsz
  have hD := hD0.self (sz := s.heap.size)
  have hA : ∀ q : Nat, s.heap.size ≤ q → (va_A (zw cs ad σ tl) s.heap.size) q := fun q h => Or.inr h
  generalize va_A (zw cs ad σ tl) s.heap.size = A at hD hE hA ⊢
  have hS : va_S A s.heap s.heap [] := va_S.rf
  have hl := lv_entry ([.ref (ad 13)]) (n := 3) (Nat.le_of_ble_eq_true rfl)
  rw [lg_entry_eq]
  generalize (lg_sl ([.ref (ad 13)]) ++ List.replicate (3 - (lg_sl ([.ref (ad 13)])).length) Slot.unset).toArray = ls at hl ⊢
  have hl : lv_has ls 3 [(0, .ref (ad 13))] := hl
  generalize hR : (f_X4_longestNotTaken σ ) = RV
  have hR := hR.symm
  unfold f_X4_longestNotTaken at hR
  obtain ⟨H, hH⟩ : ∃ z, z = s.heap := ⟨_, rfl⟩
  obtain ⟨locs, hlocs⟩ : ∃ z : List Loc, z = [] := ⟨_, rfl⟩
  rw [← hH] at hP
  have hS : va_S A s.heap H locs := by rw [hH, hlocs]; exact hS
  show W _ _ _ _ _ _ _ _ _ _ s.heap [] _ _ _ _
  rw [← hH, ← hlocs]
  clear hlocs
  refine lv_iconst (v := (-1)) hx hb dX4_longestNotTaken_0 (by decide) ?_
  refine lv_istore_n (lv' := [(1, .int (-1)), (0, .ref (ad 13))]) hx hb dX4_longestNotTaken_1 rfl hl (by decide) rfl (fun ls hl => ?_)
  refine lv_iconst (v := 0) hx hb dX4_longestNotTaken_2 (by decide) ?_
  refine lv_istore_n (lv' := [(2, .int 0), (1, .int (-1)), (0, .ref (ad 13))]) hx hb dX4_longestNotTaken_3 rfl hl (by decide) rfl (fun ls hl => ?_)
  have loop_5 : ∀ (n k : Nat) (x1 : Int32) (x2 : Int32), x2 = nI (k) → k ≤ 48 → k + n = 49 → RV = L_X4_longestNotTaken_4 σ  n x1 x2 → ∀ (H : Heap) (locs : List Loc), va_P G vwCl (zw cs ad σ tl) H → va_D A (zw cs ad σ tl) → va_S A s.heap H locs → ∀ ls : Array Slot, lv_has ls 3 [(0, .ref (ad 13)), (1, .int x1), (2, .int x2)] → W p l e (headSpec wsX4_longestNotTaken { frames := 3, cells := 0, slots := 0, locals := 63 }).room s m (List.toArray [.ref (ad 13)]) below meth c H locs 0 0 (MQ below (va_Qi (fun (r : Int32) (_ : Unit) => r = RV) (fun _ t => zPo G A (zw cs ad σ tl) t) A) (List.toArray [.ref (ad 13)]) s 0 0 A) (F0 m 4 ls []) := by
    intro n
    induction n with
    | zero => intro k  x1 x2 ex hk hn; omega
    | succ n ih =>
      intro k  x1 x2 ex hk hn hR H locs hP hD hS ls hl
      rw [L_X4_longestNotTaken_4] at hR
      refine lv_iload_n hx hb dX4_longestNotTaken_4 rfl (lv_at hl 2 rfl) ?_
      refine lv_bipush (v := 48) hx hb dX4_longestNotTaken_5 (by decide) ?_
      refine lv_icmp_ge (tgt := 48) hx hb dX4_longestNotTaken_7 (by decide) (fun c_1 => ?_) (fun c_1 => ?_)
      · have hR := hR.trans (if_pos c_1)
        refine lv_iload_n hx hb dX4_longestNotTaken_48 rfl (lv_at hl 1 rfl) ?_
        have hR := hR.symm
        subst hR
        exact W.iret (v := x1) hx hb hr (fun t ht hW => ⟨⟨_, (), rfl, rfl, by rw [ht]; exact hP, hD⟩, hS.F ht⟩) hS.2.2 dX4_longestNotTaken_49
      · have hR := hR.trans (if_neg c_1)
        have hkB : k < 48 := zlt ex (by omega) (by decide) c_1
        refine lv_aload_n hx hb dX4_longestNotTaken_10 rfl (lv_at hl 0 rfl) ?_
        refine lv_iload_n hx hb dX4_longestNotTaken_11 rfl (lv_at hl 2 rfl) ?_
        refine zai (va_runV (As := [.int x2]) (rest := []) ⟨hx, hb, hml, hown, hts⟩ (c_X4_isStep l G cs ad tl σ x2  H.size) (cwV 1 hts gX4_longestNotTaken_X4_isStep rfl rfl rfl (by decide +kernel) ⟨Nat.le_of_ble_eq_true rfl, Nat.le_of_ble_eq_true rfl⟩) (zpv hE hP hD hS hA (zg_13 cs ad σ tl) rfl) rfl rfl hl.1 rfl (lv_room (Nat.le_of_ble_eq_true rfl)) dX4_longestNotTaken_12 ⟨Nat.le_of_ble_eq_true rfl, Nat.le_of_ble_eq_true rfl⟩) hD hS hA (fun H locs hP hD hS => ?_)
        refine lv_if_eq (tgt := 42) hx hb dX4_longestNotTaken_15 (by decide) (fun c_2 => ?_) (fun c_2 => ?_)
        · have hR := hR.trans (if_pos c_2)
          refine lv_iinc (v := (x2 + 1)) (lv' := [(2, .int (x2 + 1)), (0, .ref (ad 13)), (1, .int x1)]) hx hb dX4_longestNotTaken_42 hl (k := 2) rfl rfl (by decide) rfl (fun ls hl => ?_)
          refine lv_goto (tgt := 4) hx hb dX4_longestNotTaken_45 (by decide) ?_
          exact ih (k + 1)  x1 (x2 + 1) (by rw [ex]; exact nI_1 _) (by omega) (by omega)  hR H locs hP hD hS ls (lv_sub hl [1, 2, 0] rfl)
        · have hR := hR.trans (if_neg c_2)
          refine lv_iload_n hx hb dX4_longestNotTaken_18 rfl (lv_at hl 1 rfl) ?_
          refine zai (va_runS (As := [.int x1]) (rest := []) ⟨hx, hb, hml, hown, hts⟩ (c_X4_isPlace l G cs ad tl σ x1  H.size) (va_cwS 1 hts gX4_longestNotTaken_X4_isPlace rfl rfl rfl (by decide +kernel) ⟨Nat.le_of_ble_eq_true rfl, Nat.le_of_ble_eq_true rfl⟩) (zps hE hP hD hS hA) rfl rfl hl.1 rfl (lv_room (Nat.le_of_ble_eq_true rfl)) dX4_longestNotTaken_19 ⟨Nat.le_of_ble_eq_true rfl, Nat.le_of_ble_eq_true rfl⟩) hD hS hA (fun H locs hP hD hS => ?_)
          refine lv_if_eq (tgt := 40) hx hb dX4_longestNotTaken_22 (by decide) (fun c_3 => ?_) (fun c_3 => ?_)
          · have hR := hR.trans (if_pos c_3)
            refine lv_iload_n hx hb dX4_longestNotTaken_40 rfl (lv_at hl 2 rfl) ?_
            refine lv_istore_n (lv' := [(1, .int x2), (0, .ref (ad 13)), (2, .int x2)]) hx hb dX4_longestNotTaken_41 rfl hl (by decide) rfl (fun ls hl => ?_)
            refine lv_iinc (v := (x2 + 1)) (lv' := [(2, .int (x2 + 1)), (1, .int x2), (0, .ref (ad 13))]) hx hb dX4_longestNotTaken_42 hl (k := 2) rfl rfl (by decide) rfl (fun ls hl => ?_)
            refine lv_goto (tgt := 4) hx hb dX4_longestNotTaken_45 (by decide) ?_
            exact ih (k + 1)  x2 (x2 + 1) (by rw [ex]; exact nI_1 _) (by omega) (by omega)  hR H locs hP hD hS ls (lv_sub hl [2, 1, 0] rfl)
          · have hR := hR.trans (if_neg c_3)
            refine lv_aload_n hx hb dX4_longestNotTaken_25 rfl (lv_at hl 0 rfl) ?_
            refine va_get (D := G) (ci := 6) (v := .ref (ad 21)) (C := RX4) (T := TX4) (N := 10) hx hb hts iX4_longestNotTaken hown hE.1 hP 13 (zg_13 cs ad σ tl) rfl 7 (by decide) (hts (.fieldLink RX4 33 "HandoverDeck$ProcedureBook" "takenAt" "[I") (by decide +kernel)) (fun _ h9 => h9) rfl dX4_longestNotTaken_26 ?_
            refine lv_iload_n hx hb dX4_longestNotTaken_29 rfl (lv_at hl 2 rfl) ?_
            refine z_iald (v := (σ 21 x2.toNatClampNeg)) hx hb hE hP (zg_21 cs ad σ tl) (vin_X4_isStep c_2) rfl dX4_longestNotTaken_30 ?_
            refine lv_aload_n hx hb dX4_longestNotTaken_31 rfl (lv_at hl 0 rfl) ?_
            refine va_get (D := G) (ci := 6) (v := .ref (ad 21)) (C := RX4) (T := TX4) (N := 10) hx hb hts iX4_longestNotTaken hown hE.1 hP 13 (zg_13 cs ad σ tl) rfl 7 (by decide) (hts (.fieldLink RX4 33 "HandoverDeck$ProcedureBook" "takenAt" "[I") (by decide +kernel)) (fun _ h9 => h9) rfl dX4_longestNotTaken_32 ?_
            refine lv_iload_n hx hb dX4_longestNotTaken_35 rfl (lv_at hl 1 rfl) ?_
            refine z_iald (v := (σ 21 x1.toNatClampNeg)) hx hb hE hP (zg_21 cs ad σ tl) (vin_X4_isPlace c_3) rfl dX4_longestNotTaken_36 ?_
            refine lv_icmp_ge (tgt := 42) hx hb dX4_longestNotTaken_37 (by decide) (fun c_4 => ?_) (fun c_4 => ?_)
            · have hR := hR.trans (if_pos c_4)
              refine lv_iinc (v := (x2 + 1)) (lv' := [(2, .int (x2 + 1)), (0, .ref (ad 13)), (1, .int x1)]) hx hb dX4_longestNotTaken_42 hl (k := 2) rfl rfl (by decide) rfl (fun ls hl => ?_)
              refine lv_goto (tgt := 4) hx hb dX4_longestNotTaken_45 (by decide) ?_
              exact ih (k + 1)  x1 (x2 + 1) (by rw [ex]; exact nI_1 _) (by omega) (by omega)  hR H locs hP hD hS ls (lv_sub hl [1, 2, 0] rfl)
            · have hR := hR.trans (if_neg c_4)
              refine lv_iload_n hx hb dX4_longestNotTaken_40 rfl (lv_at hl 2 rfl) ?_
              refine lv_istore_n (lv' := [(1, .int x2), (0, .ref (ad 13)), (2, .int x2)]) hx hb dX4_longestNotTaken_41 rfl hl (by decide) rfl (fun ls hl => ?_)
              refine lv_iinc (v := (x2 + 1)) (lv' := [(2, .int (x2 + 1)), (1, .int x2), (0, .ref (ad 13))]) hx hb dX4_longestNotTaken_42 hl (k := 2) rfl rfl (by decide) rfl (fun ls hl => ?_)
              refine lv_goto (tgt := 4) hx hb dX4_longestNotTaken_45 (by decide) ?_
              exact ih (k + 1)  x2 (x2 + 1) (by rw [ex]; exact nI_1 _) (by omega) (by omega)  hR H locs hP hD hS ls (lv_sub hl [2, 1, 0] rfl)
  exact loop_5 49 0  (-1) 0 nI_0.symm (by omega) (by omega)  hR H locs hP hD hS ls (lv_sub hl [2, 1, 0] rfl)
