def f_X6_state (σ : zS) (a1 : Int32) : Int32 × zS := (if (f_X6_isUnit a1) = 0 then ((-1), (zs σ 29 28 1)) else ((σ 30 a1.toNatClampNeg), (zs σ 29 28 0)))
theorem iX6_state : ∀ w ∈ u_ws RX6 TX6 29, w ∈ wsX6_state := by decide +kernel
set_option maxRecDepth 100000 in
theorem c_X6_state (l : Launch) (G : va_G) (cs : Nat → ClassId) (ad : Nat → Nat) (tl : va_W) (σ : zS) (a1 : Int32)  : zMi l yX6_state wsX6_state { frames := 2, cells := 0, slots := 0, locals := 45 } G cs [.ref (ad 29), .int a1] (zw cs ad σ tl) (f_X6_state σ a1).1 (zw cs ad (f_X6_state σ a1).2 tl) 0 0 := by
  intro sz
  refine Met.ofW (cc := cX6_state) (maxL := 2) (ret := (some .int)) (by decide) rfl ?_
  intro p e s m args below meth c s₁ B hml hv
  obtain ⟨rfl, hsz, hP, hD0, hE⟩ := hv
  have hx := B.exec
  have hb := B.bytes
  have hr := B.returns
  have hts := atoms_spec (ws := wsX6_state) B.pre
  have hown : s.vm.findClass RX6 = some m.cls := findClass_of_methodNamed B.named
  have hlocks := B.notSynchronized
  subst hsz
  have hD := hD0.self (sz := s.heap.size)
  have hA : ∀ q : Nat, s.heap.size ≤ q → (va_A (zw cs ad σ tl) s.heap.size) q := fun q h => Or.inr h
  generalize va_A (zw cs ad σ tl) s.heap.size = A at hD hE hA ⊢
  have hS : va_S A s.heap s.heap [] := va_S.rf
  have hl := lv_entry ([.ref (ad 29), .int a1]) (n := 2) (Nat.le_of_ble_eq_true rfl)
  rw [lg_entry_eq]
  generalize (lg_sl ([.ref (ad 29), .int a1]) ++ List.replicate (2 - (lg_sl ([.ref (ad 29), .int a1])).length) Slot.unset).toArray = ls at hl ⊢
  have hl : lv_has ls 2 [(0, .ref (ad 29)), (1, .int a1)] := hl
  generalize hR : (f_X6_state σ a1) = RV
  have hR := hR.symm
  unfold f_X6_state at hR
  obtain ⟨RVv, RVs⟩ := RV
  dsimp only
  obtain ⟨H, hH⟩ : ∃ z, z = s.heap := ⟨_, rfl⟩
  obtain ⟨locs, hlocs⟩ : ∃ z : List Loc, z = [] := ⟨_, rfl⟩
  rw [← hH] at hP
  have hS : va_S A s.heap H locs := by rw [hH, hlocs]; exact hS
  show W _ _ _ _ _ _ _ _ _ _ s.heap [] _ _ _ _
  rw [← hH, ← hlocs]
  clear hlocs
  refine lv_aload_n hx hb dX6_state_0 rfl (lv_at hl 0 rfl) ?_
  refine lv_iload_n hx hb dX6_state_1 rfl (lv_at hl 1 rfl) ?_
  refine zai (va_runS (As := [.int a1]) (rest := [.ref (ad 29)]) ⟨hx, hb, hml, hown, hts⟩ (c_X6_isUnit l G cs ad tl σ a1  H.size) (va_cwS 1 hts gX6_state_X6_isUnit rfl rfl rfl (by decide +kernel) ⟨Nat.le_of_ble_eq_true rfl, Nat.le_of_ble_eq_true rfl⟩) (zps hE hP hD hS hA) rfl rfl hl.1 rfl (lv_room (Nat.le_of_ble_eq_true rfl)) dX6_state_2 ⟨Nat.le_of_ble_eq_true rfl, Nat.le_of_ble_eq_true rfl⟩) hD hS hA (fun H locs hP hD hS => ?_)
  refine lv_if_eq (tgt := 12) hx hb dX6_state_5 (by decide) (fun c_1 => ?_) (fun c_1 => ?_)
  · have hR := hR.trans (if_pos c_1)
    refine lv_iconst (v := 1) hx hb dX6_state_12 (by decide) ?_
    refine va_put (D := G) (ci := 8) (v := .int 1) (ty := .int) (C := RX6) (T := TX6) (N := 29) hx hb hts iX6_state tyX6 tyX6_ok nmX6 hown hE.1 hP hD hS 29 (zg_29 cs ad σ tl) rfl 28 (by decide) (hts (.fieldLink RX6 82 "HandoverDeckModel" "thrown" "I") (by decide +kernel)) (fun _ h9 => h9) rfl (by decide +kernel) rfl rfl (Nat.le_of_ble_eq_true rfl) dX6_state_13 (fun H locs hP hD hS => ?_)
    rw [zb_29_28 cs ad σ tl] at hP hD
    refine lv_aload_n hx hb dX6_state_16 rfl (lv_at hl 0 rfl) ?_
    refine va_get (D := G) (ci := 8) (v := .int 1) (C := RX6) (T := TX6) (N := 29) hx hb hts iX6_state hown hE.1 hP 29 (zg_29 cs ad (zs σ 29 28 1) tl) rfl 28 (by decide) (hts (.fieldLink RX6 82 "HandoverDeckModel" "thrown" "I") (by decide +kernel)) (fun _ h9 => h9) rfl dX6_state_17 ?_
    refine lv_if_ne (tgt := 32) hx hb dX6_state_20 (by decide) (fun _ => ?_) (fun c => absurd c (by decide))
    refine lv_iconst (v := (-1)) hx hb dX6_state_32 (by decide) ?_
    obtain ⟨e1, e2⟩ := z2 hR.symm
    subst e1; subst e2
    exact W.iret (v := (-1)) hx hb hr (fun t ht hW => ⟨⟨_, (), rfl, rfl, by rw [ht]; exact hP, hD⟩, hS.F ht⟩) hS.2.2 dX6_state_33
  · have hR := hR.trans (if_neg c_1)
    refine lv_iconst (v := 0) hx hb dX6_state_8 (by decide) ?_
    refine lv_goto (tgt := 13) hx hb dX6_state_9 (by decide) ?_
    refine va_put (D := G) (ci := 8) (v := .int 0) (ty := .int) (C := RX6) (T := TX6) (N := 29) hx hb hts iX6_state tyX6 tyX6_ok nmX6 hown hE.1 hP hD hS 29 (zg_29 cs ad σ tl) rfl 28 (by decide) (hts (.fieldLink RX6 82 "HandoverDeckModel" "thrown" "I") (by decide +kernel)) (fun _ h9 => h9) rfl (by decide +kernel) rfl rfl (Nat.le_of_ble_eq_true rfl) dX6_state_13 (fun H locs hP hD hS => ?_)
    rw [zb_29_28 cs ad σ tl] at hP hD
    refine lv_aload_n hx hb dX6_state_16 rfl (lv_at hl 0 rfl) ?_
    refine va_get (D := G) (ci := 8) (v := .int 0) (C := RX6) (T := TX6) (N := 29) hx hb hts iX6_state hown hE.1 hP 29 (zg_29 cs ad (zs σ 29 28 0) tl) rfl 28 (by decide) (hts (.fieldLink RX6 82 "HandoverDeckModel" "thrown" "I") (by decide +kernel)) (fun _ h9 => h9) rfl dX6_state_17 ?_
    refine lv_if_ne (tgt := 32) hx hb dX6_state_20 (by decide) (fun c => absurd c (by decide)) (fun _ => ?_)
    refine lv_aload_n hx hb dX6_state_23 rfl (lv_at hl 0 rfl) ?_
    refine va_get (D := G) (ci := 8) (v := .ref (ad 30)) (C := RX6) (T := TX6) (N := 29) hx hb hts iX6_state hown hE.1 hP 29 (zg_29 cs ad (zs σ 29 28 0) tl) rfl 1 (by decide) (hts (.fieldLink RX6 7 "HandoverDeckModel" "states" "[I") (by decide +kernel)) (fun _ h9 => h9) rfl dX6_state_24 ?_
    refine lv_iload_n hx hb dX6_state_27 rfl (lv_at hl 1 rfl) ?_
    refine z_iald (v := (σ 30 a1.toNatClampNeg)) hx hb hE hP (zg_30 cs ad (zs σ 29 28 0) tl) (vin_X6_isUnit c_1) (by rw [zs_ne (k := 29) (k' := 30) (by decide)]) dX6_state_28 ?_
    refine lv_goto (tgt := 33) hx hb dX6_state_29 (by decide) ?_
    obtain ⟨e1, e2⟩ := z2 hR.symm
    subst e1; subst e2
    exact W.iret (v := (σ 30 a1.toNatClampNeg)) hx hb hr (fun t ht hW => ⟨⟨_, (), rfl, rfl, by rw [ht]; exact hP, hD⟩, hS.F ht⟩) hS.2.2 dX6_state_33
def f_X6_raise (σ : zS) (a1 : Int32) (a2 : Int32) (a3 : Int32) : Int32 × zS := (if (f_X6_isAlarm σ a1 a2) = 0 then ((-1), (zs σ 29 28 1)) else (if (f_X6_in a3.toInt64 1 5) = 0 then ((-1), (zs σ 29 28 2)) else (if (σ 36 ((4 * a1) + a2).toNatClampNeg) = (-1) then (if (σ 29 7) = 60 then ((-1), (zs σ 29 28 3)) else (((zs (f_X6_opens (zs σ 29 28 0) 97).2 36 ((4 * a1) + a2).toNatClampNeg (f_X6_opens (zs σ 29 28 0) 97).1) 36 ((4 * a1) + a2).toNatClampNeg), (zs (zs (zs (f_X6_opens (zs σ 29 28 0) 97).2 36 ((4 * a1) + a2).toNatClampNeg (f_X6_opens (zs σ 29 28 0) 97).1) 37 ((4 * a1) + a2).toNatClampNeg a3) 38 ((4 * a1) + a2).toNatClampNeg 0))) else ((-1), (zs σ 29 28 3)))))
theorem iX6_raise : ∀ w ∈ u_ws RX6 TX6 29, w ∈ wsX6_raise := by decide +kernel
set_option maxRecDepth 100000 in
theorem c_X6_raise (l : Launch) (G : va_G) (cs : Nat → ClassId) (ad : Nat → Nat) (tl : va_W) (σ : zS) (a1 : Int32) (a2 : Int32) (a3 : Int32) (hI : zI σ) : zMi l yX6_raise wsX6_raise { frames := 3, cells := 0, slots := 0, locals := 67 } G cs [.ref (ad 29), .int a1, .int a2, .int a3] (zw cs ad σ tl) (f_X6_raise σ a1 a2 a3).1 (zw cs ad (f_X6_raise σ a1 a2 a3).2 tl) 0 0 := by
  intro sz
  refine Met.ofW (cc := cX6_raise) (maxL := 5) (ret := (some .int)) (by decide) rfl ?_
  intro p e s m args below meth c s₁ B hml hv
  obtain ⟨rfl, hsz, hP, hD0, hE⟩ := hv
  have hx := B.exec
  have hb := B.bytes
  have hr := B.returns
  have hts := atoms_spec (ws := wsX6_raise) B.pre
  have hown : s.vm.findClass RX6 = some m.cls := findClass_of_methodNamed B.named
  have hlocks := B.notSynchronized
  subst hsz
  have hD := hD0.self (sz := s.heap.size)
  have hA : ∀ q : Nat, s.heap.size ≤ q → (va_A (zw cs ad σ tl) s.heap.size) q := fun q h => Or.inr h
  generalize va_A (zw cs ad σ tl) s.heap.size = A at hD hE hA ⊢
  have hS : va_S A s.heap s.heap [] := va_S.rf
  have hl := lv_entry ([.ref (ad 29), .int a1, .int a2, .int a3]) (n := 5) (Nat.le_of_ble_eq_true rfl)
  rw [lg_entry_eq]
  generalize (lg_sl ([.ref (ad 29), .int a1, .int a2, .int a3]) ++ List.replicate (5 - (lg_sl ([.ref (ad 29), .int a1, .int a2, .int a3])).length) Slot.unset).toArray = ls at hl ⊢
  have hl : lv_has ls 5 [(0, .ref (ad 29)), (1, .int a1), (2, .int a2), (3, .int a3)] := hl
  generalize hR : (f_X6_raise σ a1 a2 a3) = RV
  have hR := hR.symm
  unfold f_X6_raise at hR
  obtain ⟨RVv, RVs⟩ := RV
  dsimp only
  obtain ⟨H, hH⟩ : ∃ z, z = s.heap := ⟨_, rfl⟩
  obtain ⟨locs, hlocs⟩ : ∃ z : List Loc, z = [] := ⟨_, rfl⟩
  rw [← hH] at hP
  have hS : va_S A s.heap H locs := by rw [hH, hlocs]; exact hS
  show W _ _ _ _ _ _ _ _ _ _ s.heap [] _ _ _ _
  rw [← hH, ← hlocs]
  clear hlocs
  refine lv_aload_n hx hb dX6_raise_0 rfl (lv_at hl 0 rfl) ?_
  refine lv_iload_n hx hb dX6_raise_1 rfl (lv_at hl 1 rfl) ?_
  refine lv_iload_n hx hb dX6_raise_2 rfl (lv_at hl 2 rfl) ?_
  refine zai (va_runV (As := [.int a1, .int a2]) (rest := []) ⟨hx, hb, hml, hown, hts⟩ (c_X6_isAlarm l G cs ad tl σ a1 a2  H.size) (cwV 2 hts gX6_raise_X6_isAlarm rfl rfl rfl (by decide +kernel) ⟨Nat.le_of_ble_eq_true rfl, Nat.le_of_ble_eq_true rfl⟩) (zpv hE hP hD hS hA (zg_29 cs ad σ tl) rfl) rfl rfl hl.1 rfl (lv_room (Nat.le_of_ble_eq_true rfl)) dX6_raise_3 ⟨Nat.le_of_ble_eq_true rfl, Nat.le_of_ble_eq_true rfl⟩) hD hS hA (fun H locs hP hD hS => ?_)
  refine lv_if_eq (tgt := 21) hx hb dX6_raise_6 (by decide) (fun c_1 => ?_) (fun c_1 => ?_)
  · have hR := hR.trans (if_pos c_1)
    refine lv_aload_n hx hb dX6_raise_21 rfl (lv_at hl 0 rfl) ?_
    refine lv_aload_n hx hb dX6_raise_22 rfl (lv_at hl 0 rfl) ?_
    refine lv_iload_n hx hb dX6_raise_23 rfl (lv_at hl 1 rfl) ?_
    refine lv_iload_n hx hb dX6_raise_24 rfl (lv_at hl 2 rfl) ?_
    refine zai (va_runV (As := [.int a1, .int a2]) (rest := [.ref (ad 29)]) ⟨hx, hb, hml, hown, hts⟩ (c_X6_isAlarm l G cs ad tl σ a1 a2  H.size) (cwV 2 hts gX6_raise_X6_isAlarm rfl rfl rfl (by decide +kernel) ⟨Nat.le_of_ble_eq_true rfl, Nat.le_of_ble_eq_true rfl⟩) (zpv hE hP hD hS hA (zg_29 cs ad σ tl) rfl) rfl rfl hl.1 rfl (lv_room (Nat.le_of_ble_eq_true rfl)) dX6_raise_25 ⟨Nat.le_of_ble_eq_true rfl, Nat.le_of_ble_eq_true rfl⟩) hD hS hA (fun H locs hP hD hS => ?_)
    refine lv_if_ne (tgt := 35) hx hb dX6_raise_28 (by decide) (fun c => absurd c_1 c) (fun _ => ?_)
    refine lv_iconst (v := 1) hx hb dX6_raise_31 (by decide) ?_
    refine lv_goto (tgt := 36) hx hb dX6_raise_32 (by decide) ?_
    refine va_put (D := G) (ci := 8) (v := .int 1) (ty := .int) (C := RX6) (T := TX6) (N := 29) hx hb hts iX6_raise tyX6 tyX6_ok nmX6 hown hE.1 hP hD hS 29 (zg_29 cs ad σ tl) rfl 28 (by decide) (hts (.fieldLink RX6 82 "HandoverDeckModel" "thrown" "I") (by decide +kernel)) (fun _ h9 => h9) rfl (by decide +kernel) rfl rfl (Nat.le_of_ble_eq_true rfl) dX6_raise_36 (fun H locs hP hD hS => ?_)
    rw [zb_29_28 cs ad σ tl] at hP hD
    refine lv_iconst (v := (-1)) hx hb dX6_raise_39 (by decide) ?_
    obtain ⟨e1, e2⟩ := z2 hR.symm
    subst e1; subst e2
    exact W.iret (v := (-1)) hx hb hr (fun t ht hW => ⟨⟨_, (), rfl, rfl, by rw [ht]; exact hP, hD⟩, hS.F ht⟩) hS.2.2 dX6_raise_40
  · have hR := hR.trans (if_neg c_1)
    refine lv_iload_n hx hb dX6_raise_9 rfl (lv_at hl 3 rfl) ?_
    refine lv_i2l (v := a3.toInt64) hx hb dX6_raise_10 rfl ?_
    refine lv_lconst (v := 1) hx hb dX6_raise_11 (by decide) ?_
    refine lv_ldc2 (v := 5) hx hb hown (hts (.constantLong RX6 107 5) (by decide +kernel)) dX6_raise_12 ?_
    refine zai (va_runS (As := [.long a3.toInt64, .long 1, .long 5]) (rest := []) ⟨hx, hb, hml, hown, hts⟩ (c_X6_in l G cs ad tl σ a3.toInt64 1 5  H.size) (va_cwS 3 hts gX6_raise_X6_in rfl rfl rfl (by decide +kernel) ⟨Nat.le_of_ble_eq_true rfl, Nat.le_of_ble_eq_true rfl⟩) (zps hE hP hD hS hA) rfl rfl hl.1 rfl (lv_room (Nat.le_of_ble_eq_true rfl)) dX6_raise_15 ⟨Nat.le_of_ble_eq_true rfl, Nat.le_of_ble_eq_true rfl⟩) hD hS hA (fun H locs hP hD hS => ?_)
    refine lv_if_ne (tgt := 41) hx hb dX6_raise_18 (by decide) (fun c_2 => ?_) (fun c_2 => ?_)
    · have hR := hR.trans (if_neg c_2)
      refine lv_iconst (v := 4) hx hb dX6_raise_41 (by decide) ?_
      refine lv_iload_n hx hb dX6_raise_42 rfl (lv_at hl 1 rfl) ?_
      refine lv_imul hx hb dX6_raise_43 ?_
      refine lv_iload_n hx hb dX6_raise_44 rfl (lv_at hl 2 rfl) ?_
      refine lv_iadd hx hb dX6_raise_45 ?_
      refine lv_istore (lv' := [(4, .int ((4 * a1) + a2)), (0, .ref (ad 29)), (1, .int a1), (2, .int a2), (3, .int a3)]) hx hb dX6_raise_46 hl (by decide) rfl (fun ls hl => ?_)
      refine lv_aload_n hx hb dX6_raise_48 rfl (lv_at hl 1 rfl) ?_
      refine lv_aload_n hx hb dX6_raise_49 rfl (lv_at hl 1 rfl) ?_
      refine va_get (D := G) (ci := 8) (v := .ref (ad 36)) (C := RX6) (T := TX6) (N := 29) hx hb hts iX6_raise hown hE.1 hP 29 (zg_29 cs ad σ tl) rfl 8 (by decide) (hts (.fieldLink RX6 30 "HandoverDeckModel" "alarmLine" "[I") (by decide +kernel)) (fun _ h9 => h9) rfl dX6_raise_50 ?_
      refine lv_iload hx hb dX6_raise_53 (lv_at hl 0 rfl) ?_
      refine z_iald (v := (σ 36 ((4 * a1) + a2).toNatClampNeg)) hx hb hE hP (zg_36 cs ad σ tl) (vin_X6_isAlarm c_1) rfl dX6_raise_55 ?_
      refine lv_iconst (v := (-1)) hx hb dX6_raise_56 (by decide) ?_
      refine lv_icmp_ne (tgt := 69) hx hb dX6_raise_57 (by decide) (fun c_3 => ?_) (fun c_3 => ?_)
      · have hR := hR.trans (if_neg c_3)
        refine lv_iconst (v := 3) hx hb dX6_raise_69 (by decide) ?_
        refine lv_goto (tgt := 74) hx hb dX6_raise_70 (by decide) ?_
        refine va_put (D := G) (ci := 8) (v := .int 3) (ty := .int) (C := RX6) (T := TX6) (N := 29) hx hb hts iX6_raise tyX6 tyX6_ok nmX6 hown hE.1 hP hD hS 29 (zg_29 cs ad σ tl) rfl 28 (by decide) (hts (.fieldLink RX6 82 "HandoverDeckModel" "thrown" "I") (by decide +kernel)) (fun _ h9 => h9) rfl (by decide +kernel) rfl rfl (Nat.le_of_ble_eq_true rfl) dX6_raise_74 (fun H locs hP hD hS => ?_)
        rw [zb_29_28 cs ad σ tl] at hP hD
        refine lv_aload_n hx hb dX6_raise_77 rfl (lv_at hl 1 rfl) ?_
        refine va_get (D := G) (ci := 8) (v := .int 3) (C := RX6) (T := TX6) (N := 29) hx hb hts iX6_raise hown hE.1 hP 29 (zg_29 cs ad (zs σ 29 28 3) tl) rfl 28 (by decide) (hts (.fieldLink RX6 82 "HandoverDeckModel" "thrown" "I") (by decide +kernel)) (fun _ h9 => h9) rfl dX6_raise_78 ?_
        refine lv_if_le (tgt := 86) hx hb dX6_raise_81 (by decide) (fun c => absurd c (by decide)) (fun _ => ?_)
        refine lv_iconst (v := (-1)) hx hb dX6_raise_84 (by decide) ?_
        obtain ⟨e1, e2⟩ := z2 hR.symm
        subst e1; subst e2
        exact W.iret (v := (-1)) hx hb hr (fun t ht hW => ⟨⟨_, (), rfl, rfl, by rw [ht]; exact hP, hD⟩, hS.F ht⟩) hS.2.2 dX6_raise_85
      · have hR := hR.trans (if_pos c_3)
        refine lv_aload_n hx hb dX6_raise_60 rfl (lv_at hl 1 rfl) ?_
        refine va_get (D := G) (ci := 8) (v := .int (σ 29 7)) (C := RX6) (T := TX6) (N := 29) hx hb hts iX6_raise hown hE.1 hP 29 (zg_29 cs ad σ tl) rfl 7 (by decide) (hts (.fieldLink RX6 95 "HandoverDeckModel" "lines" "I") (by decide +kernel)) (fun _ h9 => h9) rfl dX6_raise_61 ?_
        refine lv_bipush (v := 60) hx hb dX6_raise_64 (by decide) ?_
        refine lv_icmp_ne (tgt := 73) hx hb dX6_raise_66 (by decide) (fun c_4 => ?_) (fun c_4 => ?_)
        · have hR := hR.trans (if_neg c_4)
          refine lv_iconst (v := 0) hx hb dX6_raise_73 (by decide) ?_
          refine va_put (D := G) (ci := 8) (v := .int 0) (ty := .int) (C := RX6) (T := TX6) (N := 29) hx hb hts iX6_raise tyX6 tyX6_ok nmX6 hown hE.1 hP hD hS 29 (zg_29 cs ad σ tl) rfl 28 (by decide) (hts (.fieldLink RX6 82 "HandoverDeckModel" "thrown" "I") (by decide +kernel)) (fun _ h9 => h9) rfl (by decide +kernel) rfl rfl (Nat.le_of_ble_eq_true rfl) dX6_raise_74 (fun H locs hP hD hS => ?_)
          rw [zb_29_28 cs ad σ tl] at hP hD
          refine lv_aload_n hx hb dX6_raise_77 rfl (lv_at hl 1 rfl) ?_
          refine va_get (D := G) (ci := 8) (v := .int 0) (C := RX6) (T := TX6) (N := 29) hx hb hts iX6_raise hown hE.1 hP 29 (zg_29 cs ad (zs σ 29 28 0) tl) rfl 28 (by decide) (hts (.fieldLink RX6 82 "HandoverDeckModel" "thrown" "I") (by decide +kernel)) (fun _ h9 => h9) rfl dX6_raise_78 ?_
          refine lv_if_le (tgt := 86) hx hb dX6_raise_81 (by decide) (fun _ => ?_) (fun c => absurd c (by decide))
          refine lv_aload_n hx hb dX6_raise_86 rfl (lv_at hl 1 rfl) ?_
          refine va_get (D := G) (ci := 8) (v := .ref (ad 36)) (C := RX6) (T := TX6) (N := 29) hx hb hts iX6_raise hown hE.1 hP 29 (zg_29 cs ad (zs σ 29 28 0) tl) rfl 8 (by decide) (hts (.fieldLink RX6 30 "HandoverDeckModel" "alarmLine" "[I") (by decide +kernel)) (fun _ h9 => h9) rfl dX6_raise_87 ?_
          refine lv_iload hx hb dX6_raise_90 (lv_at hl 0 rfl) ?_
          refine lv_aload_n hx hb dX6_raise_92 rfl (lv_at hl 1 rfl) ?_
          refine lv_bipush (v := 97) hx hb dX6_raise_93 (by decide) ?_
          refine zai (va_runV (As := [.int 97]) (rest := [.int ((4 * a1) + a2), .ref (ad 36)]) ⟨hx, hb, hml, hown, hts⟩ (c_X6_opens l G cs ad tl (zs σ 29 28 0) 97 (vi_lines (σ := σ) hI c_4) (by decide) H.size) (cwV 1 hts gX6_raise_X6_opens rfl rfl rfl (by decide +kernel) ⟨Nat.le_of_ble_eq_true rfl, Nat.le_of_ble_eq_true rfl⟩) (zpv hE hP hD hS hA (zg_29 cs ad (zs σ 29 28 0) tl) rfl) rfl rfl hl.1 rfl (lv_room (Nat.le_of_ble_eq_true rfl)) dX6_raise_95 ⟨Nat.le_of_ble_eq_true rfl, Nat.le_of_ble_eq_true rfl⟩) hD hS hA (fun H locs hP hD hS => ?_)
          refine z_iast hx hb hE hP hD hS (zg_36 cs ad (f_X6_opens (zs σ 29 28 0) 97).2 tl) (zb_36 cs ad (f_X6_opens (zs σ 29 28 0) 97).2 tl) (vin_X6_isAlarm c_1) dX6_raise_98 (fun H locs hP hD hS => ?_)
          refine lv_aload_n hx hb dX6_raise_99 rfl (lv_at hl 1 rfl) ?_
          refine va_get (D := G) (ci := 8) (v := .ref (ad 37)) (C := RX6) (T := TX6) (N := 29) hx hb hts iX6_raise hown hE.1 hP 29 (zg_29 cs ad (zs (f_X6_opens (zs σ 29 28 0) 97).2 36 ((4 * a1) + a2).toNatClampNeg (f_X6_opens (zs σ 29 28 0) 97).1) tl) rfl 9 (by decide) (hts (.fieldLink RX6 33 "HandoverDeckModel" "priority" "[I") (by decide +kernel)) (fun _ h9 => h9) rfl dX6_raise_100 ?_
          refine lv_iload hx hb dX6_raise_103 (lv_at hl 0 rfl) ?_
          refine lv_iload_n hx hb dX6_raise_105 rfl (lv_at hl 4 rfl) ?_
          refine z_iast hx hb hE hP hD hS (zg_37 cs ad (zs (f_X6_opens (zs σ 29 28 0) 97).2 36 ((4 * a1) + a2).toNatClampNeg (f_X6_opens (zs σ 29 28 0) 97).1) tl) (zb_37 cs ad (zs (f_X6_opens (zs σ 29 28 0) 97).2 36 ((4 * a1) + a2).toNatClampNeg (f_X6_opens (zs σ 29 28 0) 97).1) tl) (vin_X6_isAlarm c_1) dX6_raise_106 (fun H locs hP hD hS => ?_)
          refine lv_aload_n hx hb dX6_raise_107 rfl (lv_at hl 1 rfl) ?_
          refine va_get (D := G) (ci := 8) (v := .ref (ad 38)) (C := RX6) (T := TX6) (N := 29) hx hb hts iX6_raise hown hE.1 hP 29 (zg_29 cs ad (zs (zs (f_X6_opens (zs σ 29 28 0) 97).2 36 ((4 * a1) + a2).toNatClampNeg (f_X6_opens (zs σ 29 28 0) 97).1) 37 ((4 * a1) + a2).toNatClampNeg a3) tl) rfl 10 (by decide) (hts (.fieldLink RX6 36 "HandoverDeckModel" "shelvedTo" "[I") (by decide +kernel)) (fun _ h9 => h9) rfl dX6_raise_108 ?_
          refine lv_iload hx hb dX6_raise_111 (lv_at hl 0 rfl) ?_
          refine lv_iconst (v := 0) hx hb dX6_raise_113 (by decide) ?_
          refine z_iast hx hb hE hP hD hS (zg_38 cs ad (zs (zs (f_X6_opens (zs σ 29 28 0) 97).2 36 ((4 * a1) + a2).toNatClampNeg (f_X6_opens (zs σ 29 28 0) 97).1) 37 ((4 * a1) + a2).toNatClampNeg a3) tl) (zb_38 cs ad (zs (zs (f_X6_opens (zs σ 29 28 0) 97).2 36 ((4 * a1) + a2).toNatClampNeg (f_X6_opens (zs σ 29 28 0) 97).1) 37 ((4 * a1) + a2).toNatClampNeg a3) tl) (vin_X6_isAlarm c_1) dX6_raise_114 (fun H locs hP hD hS => ?_)
          refine lv_aload_n hx hb dX6_raise_115 rfl (lv_at hl 1 rfl) ?_
          refine va_get (D := G) (ci := 8) (v := .ref (ad 36)) (C := RX6) (T := TX6) (N := 29) hx hb hts iX6_raise hown hE.1 hP 29 (zg_29 cs ad (zs (zs (zs (f_X6_opens (zs σ 29 28 0) 97).2 36 ((4 * a1) + a2).toNatClampNeg (f_X6_opens (zs σ 29 28 0) 97).1) 37 ((4 * a1) + a2).toNatClampNeg a3) 38 ((4 * a1) + a2).toNatClampNeg 0) tl) rfl 8 (by decide) (hts (.fieldLink RX6 30 "HandoverDeckModel" "alarmLine" "[I") (by decide +kernel)) (fun _ h9 => h9) rfl dX6_raise_116 ?_
          refine lv_iload hx hb dX6_raise_119 (lv_at hl 0 rfl) ?_
          refine z_iald (v := ((zs (f_X6_opens (zs σ 29 28 0) 97).2 36 ((4 * a1) + a2).toNatClampNeg (f_X6_opens (zs σ 29 28 0) 97).1) 36 ((4 * a1) + a2).toNatClampNeg)) hx hb hE hP (zg_36 cs ad (zs (zs (zs (f_X6_opens (zs σ 29 28 0) 97).2 36 ((4 * a1) + a2).toNatClampNeg (f_X6_opens (zs σ 29 28 0) 97).1) 37 ((4 * a1) + a2).toNatClampNeg a3) 38 ((4 * a1) + a2).toNatClampNeg 0) tl) (vin_X6_isAlarm c_1) (by rw [zs_ne (k := 38) (k' := 36) (by decide), zs_ne (k := 37) (k' := 36) (by decide)]) dX6_raise_121 ?_
          obtain ⟨e1, e2⟩ := z2 hR.symm
          subst e1; subst e2
          exact W.iret (v := ((zs (f_X6_opens (zs σ 29 28 0) 97).2 36 ((4 * a1) + a2).toNatClampNeg (f_X6_opens (zs σ 29 28 0) 97).1) 36 ((4 * a1) + a2).toNatClampNeg)) hx hb hr (fun t ht hW => ⟨⟨_, (), rfl, rfl, by rw [ht]; exact hP, hD⟩, hS.F ht⟩) hS.2.2 dX6_raise_122
        · have hR := hR.trans (if_pos c_4)
          refine lv_iconst (v := 3) hx hb dX6_raise_69 (by decide) ?_
          refine lv_goto (tgt := 74) hx hb dX6_raise_70 (by decide) ?_
          refine va_put (D := G) (ci := 8) (v := .int 3) (ty := .int) (C := RX6) (T := TX6) (N := 29) hx hb hts iX6_raise tyX6 tyX6_ok nmX6 hown hE.1 hP hD hS 29 (zg_29 cs ad σ tl) rfl 28 (by decide) (hts (.fieldLink RX6 82 "HandoverDeckModel" "thrown" "I") (by decide +kernel)) (fun _ h9 => h9) rfl (by decide +kernel) rfl rfl (Nat.le_of_ble_eq_true rfl) dX6_raise_74 (fun H locs hP hD hS => ?_)
          rw [zb_29_28 cs ad σ tl] at hP hD
          refine lv_aload_n hx hb dX6_raise_77 rfl (lv_at hl 1 rfl) ?_
          refine va_get (D := G) (ci := 8) (v := .int 3) (C := RX6) (T := TX6) (N := 29) hx hb hts iX6_raise hown hE.1 hP 29 (zg_29 cs ad (zs σ 29 28 3) tl) rfl 28 (by decide) (hts (.fieldLink RX6 82 "HandoverDeckModel" "thrown" "I") (by decide +kernel)) (fun _ h9 => h9) rfl dX6_raise_78 ?_
          refine lv_if_le (tgt := 86) hx hb dX6_raise_81 (by decide) (fun c => absurd c (by decide)) (fun _ => ?_)
          refine lv_iconst (v := (-1)) hx hb dX6_raise_84 (by decide) ?_
          obtain ⟨e1, e2⟩ := z2 hR.symm
          subst e1; subst e2
          exact W.iret (v := (-1)) hx hb hr (fun t ht hW => ⟨⟨_, (), rfl, rfl, by rw [ht]; exact hP, hD⟩, hS.F ht⟩) hS.2.2 dX6_raise_85
    · have hR := hR.trans (if_pos c_2)
      refine lv_aload_n hx hb dX6_raise_21 rfl (lv_at hl 0 rfl) ?_
      refine lv_aload_n hx hb dX6_raise_22 rfl (lv_at hl 0 rfl) ?_
      refine lv_iload_n hx hb dX6_raise_23 rfl (lv_at hl 1 rfl) ?_
      refine lv_iload_n hx hb dX6_raise_24 rfl (lv_at hl 2 rfl) ?_
      refine zai (va_runV (As := [.int a1, .int a2]) (rest := [.ref (ad 29)]) ⟨hx, hb, hml, hown, hts⟩ (c_X6_isAlarm l G cs ad tl σ a1 a2  H.size) (cwV 2 hts gX6_raise_X6_isAlarm rfl rfl rfl (by decide +kernel) ⟨Nat.le_of_ble_eq_true rfl, Nat.le_of_ble_eq_true rfl⟩) (zpv hE hP hD hS hA (zg_29 cs ad σ tl) rfl) rfl rfl hl.1 rfl (lv_room (Nat.le_of_ble_eq_true rfl)) dX6_raise_25 ⟨Nat.le_of_ble_eq_true rfl, Nat.le_of_ble_eq_true rfl⟩) hD hS hA (fun H locs hP hD hS => ?_)
      refine lv_if_ne (tgt := 35) hx hb dX6_raise_28 (by decide) (fun _ => ?_) (fun c => absurd c c_1)
      refine lv_iconst (v := 2) hx hb dX6_raise_35 (by decide) ?_
      refine va_put (D := G) (ci := 8) (v := .int 2) (ty := .int) (C := RX6) (T := TX6) (N := 29) hx hb hts iX6_raise tyX6 tyX6_ok nmX6 hown hE.1 hP hD hS 29 (zg_29 cs ad σ tl) rfl 28 (by decide) (hts (.fieldLink RX6 82 "HandoverDeckModel" "thrown" "I") (by decide +kernel)) (fun _ h9 => h9) rfl (by decide +kernel) rfl rfl (Nat.le_of_ble_eq_true rfl) dX6_raise_36 (fun H locs hP hD hS => ?_)
      rw [zb_29_28 cs ad σ tl] at hP hD
      refine lv_iconst (v := (-1)) hx hb dX6_raise_39 (by decide) ?_
      obtain ⟨e1, e2⟩ := z2 hR.symm
      subst e1; subst e2
      exact W.iret (v := (-1)) hx hb hr (fun t ht hW => ⟨⟨_, (), rfl, rfl, by rw [ht]; exact hP, hD⟩, hS.F ht⟩) hS.2.2 dX6_raise_40
def f_X6_clear (σ : zS) (a1 : Int32) (a2 : Int32) : Int32 × zS := (if (f_X6_isAlarm σ a1 a2) = 0 then ((-1), (zs σ 29 28 1)) else (if (σ 36 ((4 * a1) + a2).toNatClampNeg) = (-1) then ((-1), (zs σ 29 28 2)) else ((σ 36 ((4 * a1) + a2).toNatClampNeg), (zs (zs (zs σ 29 28 0) 32 (σ 36 ((4 * a1) + a2).toNatClampNeg).toNatClampNeg 0) 36 ((4 * a1) + a2).toNatClampNeg (-1)))))
theorem iX6_clear : ∀ w ∈ u_ws RX6 TX6 29, w ∈ wsX6_clear := by decide +kernel
set_option maxRecDepth 100000 in
theorem c_X6_clear (l : Launch) (G : va_G) (cs : Nat → ClassId) (ad : Nat → Nat) (tl : va_W) (σ : zS) (a1 : Int32) (a2 : Int32) (hI : zI σ) : zMi l yX6_clear wsX6_clear { frames := 3, cells := 0, slots := 0, locals := 67 } G cs [.ref (ad 29), .int a1, .int a2] (zw cs ad σ tl) (f_X6_clear σ a1 a2).1 (zw cs ad (f_X6_clear σ a1 a2).2 tl) 0 0 := by
  intro sz
  refine Met.ofW (cc := cX6_clear) (maxL := 4) (ret := (some .int)) (by decide) rfl ?_
  intro p e s m args below meth c s₁ B hml hv
  obtain ⟨rfl, hsz, hP, hD0, hE⟩ := hv
  have hx := B.exec
  have hb := B.bytes
  have hr := B.returns
  have hts := atoms_spec (ws := wsX6_clear) B.pre
  have hown : s.vm.findClass RX6 = some m.cls := findClass_of_methodNamed B.named
  have hlocks := B.notSynchronized
  subst hsz
  have hD := hD0.self (sz := s.heap.size)
  have hA : ∀ q : Nat, s.heap.size ≤ q → (va_A (zw cs ad σ tl) s.heap.size) q := fun q h => Or.inr h
  generalize va_A (zw cs ad σ tl) s.heap.size = A at hD hE hA ⊢
  have hS : va_S A s.heap s.heap [] := va_S.rf
  have hl := lv_entry ([.ref (ad 29), .int a1, .int a2]) (n := 4) (Nat.le_of_ble_eq_true rfl)
  rw [lg_entry_eq]
  generalize (lg_sl ([.ref (ad 29), .int a1, .int a2]) ++ List.replicate (4 - (lg_sl ([.ref (ad 29), .int a1, .int a2])).length) Slot.unset).toArray = ls at hl ⊢
  have hl : lv_has ls 4 [(0, .ref (ad 29)), (1, .int a1), (2, .int a2)] := hl
  generalize hR : (f_X6_clear σ a1 a2) = RV
  have hR := hR.symm
  unfold f_X6_clear at hR
  obtain ⟨RVv, RVs⟩ := RV
  dsimp only
  obtain ⟨H, hH⟩ : ∃ z, z = s.heap := ⟨_, rfl⟩
  obtain ⟨locs, hlocs⟩ : ∃ z : List Loc, z = [] := ⟨_, rfl⟩
  rw [← hH] at hP
  have hS : va_S A s.heap H locs := by rw [hH, hlocs]; exact hS
  show W _ _ _ _ _ _ _ _ _ _ s.heap [] _ _ _ _
  rw [← hH, ← hlocs]
  clear hlocs
  refine lv_aload_n hx hb dX6_clear_0 rfl (lv_at hl 0 rfl) ?_
  refine lv_aload_n hx hb dX6_clear_1 rfl (lv_at hl 0 rfl) ?_
  refine lv_iload_n hx hb dX6_clear_2 rfl (lv_at hl 1 rfl) ?_
  refine lv_iload_n hx hb dX6_clear_3 rfl (lv_at hl 2 rfl) ?_
  refine zai (va_runV (As := [.int a1, .int a2]) (rest := [.ref (ad 29)]) ⟨hx, hb, hml, hown, hts⟩ (c_X6_isAlarm l G cs ad tl σ a1 a2  H.size) (cwV 2 hts gX6_clear_X6_isAlarm rfl rfl rfl (by decide +kernel) ⟨Nat.le_of_ble_eq_true rfl, Nat.le_of_ble_eq_true rfl⟩) (zpv hE hP hD hS hA (zg_29 cs ad σ tl) rfl) rfl rfl hl.1 rfl (lv_room (Nat.le_of_ble_eq_true rfl)) dX6_clear_4 ⟨Nat.le_of_ble_eq_true rfl, Nat.le_of_ble_eq_true rfl⟩) hD hS hA (fun H locs hP hD hS => ?_)
  refine lv_if_ne (tgt := 14) hx hb dX6_clear_7 (by decide) (fun c_1 => ?_) (fun c_1 => ?_)
  · have hR := hR.trans (if_neg c_1)
    refine lv_aload_n hx hb dX6_clear_14 rfl (lv_at hl 0 rfl) ?_
    refine va_get (D := G) (ci := 8) (v := .ref (ad 36)) (C := RX6) (T := TX6) (N := 29) hx hb hts iX6_clear hown hE.1 hP 29 (zg_29 cs ad σ tl) rfl 8 (by decide) (hts (.fieldLink RX6 30 "HandoverDeckModel" "alarmLine" "[I") (by decide +kernel)) (fun _ h9 => h9) rfl dX6_clear_15 ?_
    refine lv_iconst (v := 4) hx hb dX6_clear_18 (by decide) ?_
    refine lv_iload_n hx hb dX6_clear_19 rfl (lv_at hl 1 rfl) ?_
    refine lv_imul hx hb dX6_clear_20 ?_
    refine lv_iload_n hx hb dX6_clear_21 rfl (lv_at hl 2 rfl) ?_
    refine lv_iadd hx hb dX6_clear_22 ?_
    refine z_iald (v := (σ 36 ((4 * a1) + a2).toNatClampNeg)) hx hb hE hP (zg_36 cs ad σ tl) (vin_X6_isAlarm c_1) rfl dX6_clear_23 ?_
    refine lv_iconst (v := (-1)) hx hb dX6_clear_24 (by decide) ?_
    refine lv_icmp_ne (tgt := 32) hx hb dX6_clear_25 (by decide) (fun c_2 => ?_) (fun c_2 => ?_)
    · have hR := hR.trans (if_neg c_2)
      refine lv_iconst (v := 0) hx hb dX6_clear_32 (by decide) ?_
      refine va_put (D := G) (ci := 8) (v := .int 0) (ty := .int) (C := RX6) (T := TX6) (N := 29) hx hb hts iX6_clear tyX6 tyX6_ok nmX6 hown hE.1 hP hD hS 29 (zg_29 cs ad σ tl) rfl 28 (by decide) (hts (.fieldLink RX6 82 "HandoverDeckModel" "thrown" "I") (by decide +kernel)) (fun _ h9 => h9) rfl (by decide +kernel) rfl rfl (Nat.le_of_ble_eq_true rfl) dX6_clear_33 (fun H locs hP hD hS => ?_)
      rw [zb_29_28 cs ad σ tl] at hP hD
      refine lv_aload_n hx hb dX6_clear_36 rfl (lv_at hl 0 rfl) ?_
      refine va_get (D := G) (ci := 8) (v := .int 0) (C := RX6) (T := TX6) (N := 29) hx hb hts iX6_clear hown hE.1 hP 29 (zg_29 cs ad (zs σ 29 28 0) tl) rfl 28 (by decide) (hts (.fieldLink RX6 82 "HandoverDeckModel" "thrown" "I") (by decide +kernel)) (fun _ h9 => h9) rfl dX6_clear_37 ?_
      refine lv_if_le (tgt := 45) hx hb dX6_clear_40 (by decide) (fun _ => ?_) (fun c => absurd c (by decide))
      refine lv_aload_n hx hb dX6_clear_45 rfl (lv_at hl 0 rfl) ?_
      refine va_get (D := G) (ci := 8) (v := .ref (ad 36)) (C := RX6) (T := TX6) (N := 29) hx hb hts iX6_clear hown hE.1 hP 29 (zg_29 cs ad (zs σ 29 28 0) tl) rfl 8 (by decide) (hts (.fieldLink RX6 30 "HandoverDeckModel" "alarmLine" "[I") (by decide +kernel)) (fun _ h9 => h9) rfl dX6_clear_46 ?_
      refine lv_iconst (v := 4) hx hb dX6_clear_49 (by decide) ?_
      refine lv_iload_n hx hb dX6_clear_50 rfl (lv_at hl 1 rfl) ?_
      refine lv_imul hx hb dX6_clear_51 ?_
      refine lv_iload_n hx hb dX6_clear_52 rfl (lv_at hl 2 rfl) ?_
      refine lv_iadd hx hb dX6_clear_53 ?_
      refine z_iald (v := (σ 36 ((4 * a1) + a2).toNatClampNeg)) hx hb hE hP (zg_36 cs ad (zs σ 29 28 0) tl) (vin_X6_isAlarm c_1) (by rw [zs_ne (k := 29) (k' := 36) (by decide)]) dX6_clear_54 ?_
      refine lv_istore_n (lv' := [(3, .int (σ 36 ((4 * a1) + a2).toNatClampNeg)), (0, .ref (ad 29)), (1, .int a1), (2, .int a2)]) hx hb dX6_clear_55 rfl hl (by decide) rfl (fun ls hl => ?_)
      refine lv_aload_n hx hb dX6_clear_56 rfl (lv_at hl 1 rfl) ?_
      refine va_get (D := G) (ci := 8) (v := .ref (ad 32)) (C := RX6) (T := TX6) (N := 29) hx hb hts iX6_clear hown hE.1 hP 29 (zg_29 cs ad (zs σ 29 28 0) tl) rfl 3 (by decide) (hts (.fieldLink RX6 17 "HandoverDeckModel" "isOpen" "[Z") (by decide +kernel)) (fun _ h9 => h9) rfl dX6_clear_57 ?_
      refine lv_iload_n hx hb dX6_clear_60 rfl (lv_at hl 0 rfl) ?_
      refine lv_iconst (v := 0) hx hb dX6_clear_61 (by decide) ?_
      refine z_zast hx hb hE hP hD hS (zg_32 cs ad (zs σ 29 28 0) tl) (zb_32 cs ad (zs σ 29 28 0) tl) (vi_al hI (vin_X6_isAlarm c_1) c_2) rfl dX6_clear_62 (fun H locs hP hD hS => ?_)
      refine lv_aload_n hx hb dX6_clear_63 rfl (lv_at hl 1 rfl) ?_
      refine va_get (D := G) (ci := 8) (v := .ref (ad 36)) (C := RX6) (T := TX6) (N := 29) hx hb hts iX6_clear hown hE.1 hP 29 (zg_29 cs ad (zs (zs σ 29 28 0) 32 (σ 36 ((4 * a1) + a2).toNatClampNeg).toNatClampNeg 0) tl) rfl 8 (by decide) (hts (.fieldLink RX6 30 "HandoverDeckModel" "alarmLine" "[I") (by decide +kernel)) (fun _ h9 => h9) rfl dX6_clear_64 ?_
      refine lv_iconst (v := 4) hx hb dX6_clear_67 (by decide) ?_
      refine lv_iload_n hx hb dX6_clear_68 rfl (lv_at hl 2 rfl) ?_
      refine lv_imul hx hb dX6_clear_69 ?_
      refine lv_iload_n hx hb dX6_clear_70 rfl (lv_at hl 3 rfl) ?_
      refine lv_iadd hx hb dX6_clear_71 ?_
      refine lv_iconst (v := (-1)) hx hb dX6_clear_72 (by decide) ?_
      refine z_iast hx hb hE hP hD hS (zg_36 cs ad (zs (zs σ 29 28 0) 32 (σ 36 ((4 * a1) + a2).toNatClampNeg).toNatClampNeg 0) tl) (zb_36 cs ad (zs (zs σ 29 28 0) 32 (σ 36 ((4 * a1) + a2).toNatClampNeg).toNatClampNeg 0) tl) (vin_X6_isAlarm c_1) dX6_clear_73 (fun H locs hP hD hS => ?_)
      refine lv_iload_n hx hb dX6_clear_74 rfl (lv_at hl 0 rfl) ?_
      obtain ⟨e1, e2⟩ := z2 hR.symm
      subst e1; subst e2
      exact W.iret (v := (σ 36 ((4 * a1) + a2).toNatClampNeg)) hx hb hr (fun t ht hW => ⟨⟨_, (), rfl, rfl, by rw [ht]; exact hP, hD⟩, hS.F ht⟩) hS.2.2 dX6_clear_75
    · have hR := hR.trans (if_pos c_2)
      refine lv_iconst (v := 2) hx hb dX6_clear_28 (by decide) ?_
      refine lv_goto (tgt := 33) hx hb dX6_clear_29 (by decide) ?_
      refine va_put (D := G) (ci := 8) (v := .int 2) (ty := .int) (C := RX6) (T := TX6) (N := 29) hx hb hts iX6_clear tyX6 tyX6_ok nmX6 hown hE.1 hP hD hS 29 (zg_29 cs ad σ tl) rfl 28 (by decide) (hts (.fieldLink RX6 82 "HandoverDeckModel" "thrown" "I") (by decide +kernel)) (fun _ h9 => h9) rfl (by decide +kernel) rfl rfl (Nat.le_of_ble_eq_true rfl) dX6_clear_33 (fun H locs hP hD hS => ?_)
      rw [zb_29_28 cs ad σ tl] at hP hD
      refine lv_aload_n hx hb dX6_clear_36 rfl (lv_at hl 0 rfl) ?_
      refine va_get (D := G) (ci := 8) (v := .int 2) (C := RX6) (T := TX6) (N := 29) hx hb hts iX6_clear hown hE.1 hP 29 (zg_29 cs ad (zs σ 29 28 2) tl) rfl 28 (by decide) (hts (.fieldLink RX6 82 "HandoverDeckModel" "thrown" "I") (by decide +kernel)) (fun _ h9 => h9) rfl dX6_clear_37 ?_
      refine lv_if_le (tgt := 45) hx hb dX6_clear_40 (by decide) (fun c => absurd c (by decide)) (fun _ => ?_)
      refine lv_iconst (v := (-1)) hx hb dX6_clear_43 (by decide) ?_
      obtain ⟨e1, e2⟩ := z2 hR.symm
      subst e1; subst e2
      exact W.iret (v := (-1)) hx hb hr (fun t ht hW => ⟨⟨_, (), rfl, rfl, by rw [ht]; exact hP, hD⟩, hS.F ht⟩) hS.2.2 dX6_clear_44
  · have hR := hR.trans (if_pos c_1)
    refine lv_iconst (v := 1) hx hb dX6_clear_10 (by decide) ?_
    refine lv_goto (tgt := 33) hx hb dX6_clear_11 (by decide) ?_
    refine va_put (D := G) (ci := 8) (v := .int 1) (ty := .int) (C := RX6) (T := TX6) (N := 29) hx hb hts iX6_clear tyX6 tyX6_ok nmX6 hown hE.1 hP hD hS 29 (zg_29 cs ad σ tl) rfl 28 (by decide) (hts (.fieldLink RX6 82 "HandoverDeckModel" "thrown" "I") (by decide +kernel)) (fun _ h9 => h9) rfl (by decide +kernel) rfl rfl (Nat.le_of_ble_eq_true rfl) dX6_clear_33 (fun H locs hP hD hS => ?_)
    rw [zb_29_28 cs ad σ tl] at hP hD
    refine lv_aload_n hx hb dX6_clear_36 rfl (lv_at hl 0 rfl) ?_
    refine va_get (D := G) (ci := 8) (v := .int 1) (C := RX6) (T := TX6) (N := 29) hx hb hts iX6_clear hown hE.1 hP 29 (zg_29 cs ad (zs σ 29 28 1) tl) rfl 28 (by decide) (hts (.fieldLink RX6 82 "HandoverDeckModel" "thrown" "I") (by decide +kernel)) (fun _ h9 => h9) rfl dX6_clear_37 ?_
    refine lv_if_le (tgt := 45) hx hb dX6_clear_40 (by decide) (fun c => absurd c (by decide)) (fun _ => ?_)
    refine lv_iconst (v := (-1)) hx hb dX6_clear_43 (by decide) ?_
    obtain ⟨e1, e2⟩ := z2 hR.symm
    subst e1; subst e2
    exact W.iret (v := (-1)) hx hb hr (fun t ht hW => ⟨⟨_, (), rfl, rfl, by rw [ht]; exact hP, hD⟩, hS.F ht⟩) hS.2.2 dX6_clear_44
def f_X6_shelve (σ : zS) (a1 : Int32) (a2 : Int32) (a3 : Int32) : Int32 × zS := (if (f_X6_isAlarm σ a1 a2) = 0 then ((-1), (zs σ 29 28 1)) else (if (σ 36 ((4 * a1) + a2).toNatClampNeg) = (-1) then ((-1), (zs σ 29 28 2)) else (if (f_X6_in a3.toInt64 1 24) = 0 then ((-1), (zs σ 29 28 3)) else (if (f_X6_isShelved σ ((4 * a1) + a2)) = 0 then (((zs (zs σ 29 28 0) 38 ((4 * a1) + a2).toNatClampNeg ((σ 29 0) + a3)) 38 ((4 * a1) + a2).toNatClampNeg), (zs (zs σ 29 28 0) 38 ((4 * a1) + a2).toNatClampNeg ((σ 29 0) + a3))) else ((-1), (zs σ 29 28 4))))))
theorem iX6_shelve : ∀ w ∈ u_ws RX6 TX6 29, w ∈ wsX6_shelve := by decide +kernel
set_option maxRecDepth 100000 in
theorem c_X6_shelve (l : Launch) (G : va_G) (cs : Nat → ClassId) (ad : Nat → Nat) (tl : va_W) (σ : zS) (a1 : Int32) (a2 : Int32) (a3 : Int32) (hI : zI σ) : zMi l yX6_shelve wsX6_shelve { frames := 3, cells := 0, slots := 0, locals := 67 } G cs [.ref (ad 29), .int a1, .int a2, .int a3] (zw cs ad σ tl) (f_X6_shelve σ a1 a2 a3).1 (zw cs ad (f_X6_shelve σ a1 a2 a3).2 tl) 0 0 := by
  intro sz
  refine Met.ofW (cc := cX6_shelve) (maxL := 5) (ret := (some .int)) (by decide) rfl ?_
  intro p e s m args below meth c s₁ B hml hv
  obtain ⟨rfl, hsz, hP, hD0, hE⟩ := hv
  have hx := B.exec
  have hb := B.bytes
  have hr := B.returns
  have hts := atoms_spec (ws := wsX6_shelve) B.pre
  have hown : s.vm.findClass RX6 = some m.cls := findClass_of_methodNamed B.named
  have hlocks := B.notSynchronized
  subst hsz
  have hD := hD0.self (sz := s.heap.size)
  have hA : ∀ q : Nat, s.heap.size ≤ q → (va_A (zw cs ad σ tl) s.heap.size) q := fun q h => Or.inr h
  generalize va_A (zw cs ad σ tl) s.heap.size = A at hD hE hA ⊢
  have hS : va_S A s.heap s.heap [] := va_S.rf
  have hl := lv_entry ([.ref (ad 29), .int a1, .int a2, .int a3]) (n := 5) (Nat.le_of_ble_eq_true rfl)
  rw [lg_entry_eq]
  generalize (lg_sl ([.ref (ad 29), .int a1, .int a2, .int a3]) ++ List.replicate (5 - (lg_sl ([.ref (ad 29), .int a1, .int a2, .int a3])).length) Slot.unset).toArray = ls at hl ⊢
  have hl : lv_has ls 5 [(0, .ref (ad 29)), (1, .int a1), (2, .int a2), (3, .int a3)] := hl
  generalize hR : (f_X6_shelve σ a1 a2 a3) = RV
  have hR := hR.symm
  unfold f_X6_shelve at hR
  obtain ⟨RVv, RVs⟩ := RV
  dsimp only
  obtain ⟨H, hH⟩ : ∃ z, z = s.heap := ⟨_, rfl⟩
  obtain ⟨locs, hlocs⟩ : ∃ z : List Loc, z = [] := ⟨_, rfl⟩
  rw [← hH] at hP
  have hS : va_S A s.heap H locs := by rw [hH, hlocs]; exact hS
  show W _ _ _ _ _ _ _ _ _ _ s.heap [] _ _ _ _
  rw [← hH, ← hlocs]
  clear hlocs
  refine lv_aload_n hx hb dX6_shelve_0 rfl (lv_at hl 0 rfl) ?_
  refine lv_iload_n hx hb dX6_shelve_1 rfl (lv_at hl 1 rfl) ?_
  refine lv_iload_n hx hb dX6_shelve_2 rfl (lv_at hl 2 rfl) ?_
  refine zai (va_runV (As := [.int a1, .int a2]) (rest := []) ⟨hx, hb, hml, hown, hts⟩ (c_X6_isAlarm l G cs ad tl σ a1 a2  H.size) (cwV 2 hts gX6_shelve_X6_isAlarm rfl rfl rfl (by decide +kernel) ⟨Nat.le_of_ble_eq_true rfl, Nat.le_of_ble_eq_true rfl⟩) (zpv hE hP hD hS hA (zg_29 cs ad σ tl) rfl) rfl rfl hl.1 rfl (lv_room (Nat.le_of_ble_eq_true rfl)) dX6_shelve_3 ⟨Nat.le_of_ble_eq_true rfl, Nat.le_of_ble_eq_true rfl⟩) hD hS hA (fun H locs hP hD hS => ?_)
  refine lv_if_eq (tgt := 23) hx hb dX6_shelve_6 (by decide) (fun c_1 => ?_) (fun c_1 => ?_)
  · have hR := hR.trans (if_pos c_1)
    refine lv_aload_n hx hb dX6_shelve_23 rfl (lv_at hl 0 rfl) ?_
    refine lv_aload_n hx hb dX6_shelve_24 rfl (lv_at hl 0 rfl) ?_
    refine lv_iload_n hx hb dX6_shelve_25 rfl (lv_at hl 1 rfl) ?_
    refine lv_iload_n hx hb dX6_shelve_26 rfl (lv_at hl 2 rfl) ?_
    refine zai (va_runV (As := [.int a1, .int a2]) (rest := [.ref (ad 29)]) ⟨hx, hb, hml, hown, hts⟩ (c_X6_isAlarm l G cs ad tl σ a1 a2  H.size) (cwV 2 hts gX6_shelve_X6_isAlarm rfl rfl rfl (by decide +kernel) ⟨Nat.le_of_ble_eq_true rfl, Nat.le_of_ble_eq_true rfl⟩) (zpv hE hP hD hS hA (zg_29 cs ad σ tl) rfl) rfl rfl hl.1 rfl (lv_room (Nat.le_of_ble_eq_true rfl)) dX6_shelve_27 ⟨Nat.le_of_ble_eq_true rfl, Nat.le_of_ble_eq_true rfl⟩) hD hS hA (fun H locs hP hD hS => ?_)
    refine lv_if_ne (tgt := 37) hx hb dX6_shelve_30 (by decide) (fun c => absurd c_1 c) (fun _ => ?_)
    refine lv_iconst (v := 1) hx hb dX6_shelve_33 (by decide) ?_
    refine lv_goto (tgt := 38) hx hb dX6_shelve_34 (by decide) ?_
    refine va_put (D := G) (ci := 8) (v := .int 1) (ty := .int) (C := RX6) (T := TX6) (N := 29) hx hb hts iX6_shelve tyX6 tyX6_ok nmX6 hown hE.1 hP hD hS 29 (zg_29 cs ad σ tl) rfl 28 (by decide) (hts (.fieldLink RX6 82 "HandoverDeckModel" "thrown" "I") (by decide +kernel)) (fun _ h9 => h9) rfl (by decide +kernel) rfl rfl (Nat.le_of_ble_eq_true rfl) dX6_shelve_38 (fun H locs hP hD hS => ?_)
    rw [zb_29_28 cs ad σ tl] at hP hD
    refine lv_iconst (v := (-1)) hx hb dX6_shelve_41 (by decide) ?_
    obtain ⟨e1, e2⟩ := z2 hR.symm
    subst e1; subst e2
    exact W.iret (v := (-1)) hx hb hr (fun t ht hW => ⟨⟨_, (), rfl, rfl, by rw [ht]; exact hP, hD⟩, hS.F ht⟩) hS.2.2 dX6_shelve_42
  · have hR := hR.trans (if_neg c_1)
    refine lv_aload_n hx hb dX6_shelve_9 rfl (lv_at hl 0 rfl) ?_
    refine va_get (D := G) (ci := 8) (v := .ref (ad 36)) (C := RX6) (T := TX6) (N := 29) hx hb hts iX6_shelve hown hE.1 hP 29 (zg_29 cs ad σ tl) rfl 8 (by decide) (hts (.fieldLink RX6 30 "HandoverDeckModel" "alarmLine" "[I") (by decide +kernel)) (fun _ h9 => h9) rfl dX6_shelve_10 ?_
    refine lv_iconst (v := 4) hx hb dX6_shelve_13 (by decide) ?_
    refine lv_iload_n hx hb dX6_shelve_14 rfl (lv_at hl 1 rfl) ?_
    refine lv_imul hx hb dX6_shelve_15 ?_
    refine lv_iload_n hx hb dX6_shelve_16 rfl (lv_at hl 2 rfl) ?_
    refine lv_iadd hx hb dX6_shelve_17 ?_
    refine z_iald (v := (σ 36 ((4 * a1) + a2).toNatClampNeg)) hx hb hE hP (zg_36 cs ad σ tl) (vin_X6_isAlarm c_1) rfl dX6_shelve_18 ?_
    refine lv_iconst (v := (-1)) hx hb dX6_shelve_19 (by decide) ?_
    refine lv_icmp_ne (tgt := 43) hx hb dX6_shelve_20 (by decide) (fun c_2 => ?_) (fun c_2 => ?_)
    · have hR := hR.trans (if_neg c_2)
      refine lv_iconst (v := 4) hx hb dX6_shelve_43 (by decide) ?_
      refine lv_iload_n hx hb dX6_shelve_44 rfl (lv_at hl 1 rfl) ?_
      refine lv_imul hx hb dX6_shelve_45 ?_
      refine lv_iload_n hx hb dX6_shelve_46 rfl (lv_at hl 2 rfl) ?_
      refine lv_iadd hx hb dX6_shelve_47 ?_
      refine lv_istore (lv' := [(4, .int ((4 * a1) + a2)), (0, .ref (ad 29)), (1, .int a1), (2, .int a2), (3, .int a3)]) hx hb dX6_shelve_48 hl (by decide) rfl (fun ls hl => ?_)
      refine lv_aload_n hx hb dX6_shelve_50 rfl (lv_at hl 1 rfl) ?_
      refine lv_iload_n hx hb dX6_shelve_51 rfl (lv_at hl 4 rfl) ?_
      refine lv_i2l (v := a3.toInt64) hx hb dX6_shelve_52 rfl ?_
      refine lv_lconst (v := 1) hx hb dX6_shelve_53 (by decide) ?_
      refine lv_ldc2 (v := 24) hx hb hown (hts (.constantLong RX6 113 24) (by decide +kernel)) dX6_shelve_54 ?_
      refine zai (va_runS (As := [.long a3.toInt64, .long 1, .long 24]) (rest := [.ref (ad 29)]) ⟨hx, hb, hml, hown, hts⟩ (c_X6_in l G cs ad tl σ a3.toInt64 1 24  H.size) (va_cwS 3 hts gX6_shelve_X6_in rfl rfl rfl (by decide +kernel) ⟨Nat.le_of_ble_eq_true rfl, Nat.le_of_ble_eq_true rfl⟩) (zps hE hP hD hS hA) rfl rfl hl.1 rfl (lv_room (Nat.le_of_ble_eq_true rfl)) dX6_shelve_57 ⟨Nat.le_of_ble_eq_true rfl, Nat.le_of_ble_eq_true rfl⟩) hD hS hA (fun H locs hP hD hS => ?_)
      refine lv_if_ne (tgt := 67) hx hb dX6_shelve_60 (by decide) (fun c_3 => ?_) (fun c_3 => ?_)
      · have hR := hR.trans (if_neg c_3)
        refine lv_aload_n hx hb dX6_shelve_67 rfl (lv_at hl 1 rfl) ?_
        refine lv_iload hx hb dX6_shelve_68 (lv_at hl 0 rfl) ?_
        refine zai (va_runV (As := [.int ((4 * a1) + a2)]) (rest := [.ref (ad 29)]) ⟨hx, hb, hml, hown, hts⟩ (c_X6_isShelved l G cs ad tl σ ((4 * a1) + a2) (vin_X6_isAlarm c_1) H.size) (cwV 1 hts gX6_shelve_X6_isShelved rfl rfl rfl (by decide +kernel) ⟨Nat.le_of_ble_eq_true rfl, Nat.le_of_ble_eq_true rfl⟩) (zpv hE hP hD hS hA (zg_29 cs ad σ tl) rfl) rfl rfl hl.1 rfl (lv_room (Nat.le_of_ble_eq_true rfl)) dX6_shelve_70 ⟨Nat.le_of_ble_eq_true rfl, Nat.le_of_ble_eq_true rfl⟩) hD hS hA (fun H locs hP hD hS => ?_)
        refine lv_if_eq (tgt := 80) hx hb dX6_shelve_73 (by decide) (fun c_4 => ?_) (fun c_4 => ?_)
        · have hR := hR.trans (if_pos c_4)
          refine lv_iconst (v := 0) hx hb dX6_shelve_80 (by decide) ?_
          refine va_put (D := G) (ci := 8) (v := .int 0) (ty := .int) (C := RX6) (T := TX6) (N := 29) hx hb hts iX6_shelve tyX6 tyX6_ok nmX6 hown hE.1 hP hD hS 29 (zg_29 cs ad σ tl) rfl 28 (by decide) (hts (.fieldLink RX6 82 "HandoverDeckModel" "thrown" "I") (by decide +kernel)) (fun _ h9 => h9) rfl (by decide +kernel) rfl rfl (Nat.le_of_ble_eq_true rfl) dX6_shelve_81 (fun H locs hP hD hS => ?_)
          rw [zb_29_28 cs ad σ tl] at hP hD
          refine lv_aload_n hx hb dX6_shelve_84 rfl (lv_at hl 1 rfl) ?_
          refine va_get (D := G) (ci := 8) (v := .int 0) (C := RX6) (T := TX6) (N := 29) hx hb hts iX6_shelve hown hE.1 hP 29 (zg_29 cs ad (zs σ 29 28 0) tl) rfl 28 (by decide) (hts (.fieldLink RX6 82 "HandoverDeckModel" "thrown" "I") (by decide +kernel)) (fun _ h9 => h9) rfl dX6_shelve_85 ?_
          refine lv_if_le (tgt := 93) hx hb dX6_shelve_88 (by decide) (fun _ => ?_) (fun c => absurd c (by decide))
          refine lv_aload_n hx hb dX6_shelve_93 rfl (lv_at hl 1 rfl) ?_
          refine va_get (D := G) (ci := 8) (v := .ref (ad 38)) (C := RX6) (T := TX6) (N := 29) hx hb hts iX6_shelve hown hE.1 hP 29 (zg_29 cs ad (zs σ 29 28 0) tl) rfl 10 (by decide) (hts (.fieldLink RX6 36 "HandoverDeckModel" "shelvedTo" "[I") (by decide +kernel)) (fun _ h9 => h9) rfl dX6_shelve_94 ?_
          refine lv_iload hx hb dX6_shelve_97 (lv_at hl 0 rfl) ?_
          refine lv_aload_n hx hb dX6_shelve_99 rfl (lv_at hl 1 rfl) ?_
          refine va_get (D := G) (ci := 8) (v := .int (σ 29 0)) (C := RX6) (T := TX6) (N := 29) hx hb hts iX6_shelve hown hE.1 hP 29 (zg_29 cs ad (zs σ 29 28 0) tl) rfl 0 (by decide) (hts (.fieldLink RX6 98 "HandoverDeckModel" "hour" "I") (by decide +kernel)) (fun _ h9 => h9) rfl dX6_shelve_100 ?_
          refine lv_iload_n hx hb dX6_shelve_103 rfl (lv_at hl 4 rfl) ?_
          refine lv_iadd hx hb dX6_shelve_104 ?_
          refine z_iast hx hb hE hP hD hS (zg_38 cs ad (zs σ 29 28 0) tl) (zb_38 cs ad (zs σ 29 28 0) tl) (vin_X6_isAlarm c_1) dX6_shelve_105 (fun H locs hP hD hS => ?_)
          refine lv_aload_n hx hb dX6_shelve_106 rfl (lv_at hl 1 rfl) ?_
          refine va_get (D := G) (ci := 8) (v := .ref (ad 38)) (C := RX6) (T := TX6) (N := 29) hx hb hts iX6_shelve hown hE.1 hP 29 (zg_29 cs ad (zs (zs σ 29 28 0) 38 ((4 * a1) + a2).toNatClampNeg ((σ 29 0) + a3)) tl) rfl 10 (by decide) (hts (.fieldLink RX6 36 "HandoverDeckModel" "shelvedTo" "[I") (by decide +kernel)) (fun _ h9 => h9) rfl dX6_shelve_107 ?_
          refine lv_iload hx hb dX6_shelve_110 (lv_at hl 0 rfl) ?_
          refine z_iald (v := ((zs (zs σ 29 28 0) 38 ((4 * a1) + a2).toNatClampNeg ((σ 29 0) + a3)) 38 ((4 * a1) + a2).toNatClampNeg)) hx hb hE hP (zg_38 cs ad (zs (zs σ 29 28 0) 38 ((4 * a1) + a2).toNatClampNeg ((σ 29 0) + a3)) tl) (vin_X6_isAlarm c_1) rfl dX6_shelve_112 ?_
          obtain ⟨e1, e2⟩ := z2 hR.symm
          subst e1; subst e2
          exact W.iret (v := ((zs (zs σ 29 28 0) 38 ((4 * a1) + a2).toNatClampNeg ((σ 29 0) + a3)) 38 ((4 * a1) + a2).toNatClampNeg)) hx hb hr (fun t ht hW => ⟨⟨_, (), rfl, rfl, by rw [ht]; exact hP, hD⟩, hS.F ht⟩) hS.2.2 dX6_shelve_113
        · have hR := hR.trans (if_neg c_4)
          refine lv_iconst (v := 4) hx hb dX6_shelve_76 (by decide) ?_
          refine lv_goto (tgt := 81) hx hb dX6_shelve_77 (by decide) ?_
          refine va_put (D := G) (ci := 8) (v := .int 4) (ty := .int) (C := RX6) (T := TX6) (N := 29) hx hb hts iX6_shelve tyX6 tyX6_ok nmX6 hown hE.1 hP hD hS 29 (zg_29 cs ad σ tl) rfl 28 (by decide) (hts (.fieldLink RX6 82 "HandoverDeckModel" "thrown" "I") (by decide +kernel)) (fun _ h9 => h9) rfl (by decide +kernel) rfl rfl (Nat.le_of_ble_eq_true rfl) dX6_shelve_81 (fun H locs hP hD hS => ?_)
          rw [zb_29_28 cs ad σ tl] at hP hD
          refine lv_aload_n hx hb dX6_shelve_84 rfl (lv_at hl 1 rfl) ?_
          refine va_get (D := G) (ci := 8) (v := .int 4) (C := RX6) (T := TX6) (N := 29) hx hb hts iX6_shelve hown hE.1 hP 29 (zg_29 cs ad (zs σ 29 28 4) tl) rfl 28 (by decide) (hts (.fieldLink RX6 82 "HandoverDeckModel" "thrown" "I") (by decide +kernel)) (fun _ h9 => h9) rfl dX6_shelve_85 ?_
          refine lv_if_le (tgt := 93) hx hb dX6_shelve_88 (by decide) (fun c => absurd c (by decide)) (fun _ => ?_)
          refine lv_iconst (v := (-1)) hx hb dX6_shelve_91 (by decide) ?_
          obtain ⟨e1, e2⟩ := z2 hR.symm
          subst e1; subst e2
          exact W.iret (v := (-1)) hx hb hr (fun t ht hW => ⟨⟨_, (), rfl, rfl, by rw [ht]; exact hP, hD⟩, hS.F ht⟩) hS.2.2 dX6_shelve_92
      · have hR := hR.trans (if_pos c_3)
        refine lv_iconst (v := 3) hx hb dX6_shelve_63 (by decide) ?_
        refine lv_goto (tgt := 81) hx hb dX6_shelve_64 (by decide) ?_
        refine va_put (D := G) (ci := 8) (v := .int 3) (ty := .int) (C := RX6) (T := TX6) (N := 29) hx hb hts iX6_shelve tyX6 tyX6_ok nmX6 hown hE.1 hP hD hS 29 (zg_29 cs ad σ tl) rfl 28 (by decide) (hts (.fieldLink RX6 82 "HandoverDeckModel" "thrown" "I") (by decide +kernel)) (fun _ h9 => h9) rfl (by decide +kernel) rfl rfl (Nat.le_of_ble_eq_true rfl) dX6_shelve_81 (fun H locs hP hD hS => ?_)
        rw [zb_29_28 cs ad σ tl] at hP hD
        refine lv_aload_n hx hb dX6_shelve_84 rfl (lv_at hl 1 rfl) ?_
        refine va_get (D := G) (ci := 8) (v := .int 3) (C := RX6) (T := TX6) (N := 29) hx hb hts iX6_shelve hown hE.1 hP 29 (zg_29 cs ad (zs σ 29 28 3) tl) rfl 28 (by decide) (hts (.fieldLink RX6 82 "HandoverDeckModel" "thrown" "I") (by decide +kernel)) (fun _ h9 => h9) rfl dX6_shelve_85 ?_
        refine lv_if_le (tgt := 93) hx hb dX6_shelve_88 (by decide) (fun c => absurd c (by decide)) (fun _ => ?_)
        refine lv_iconst (v := (-1)) hx hb dX6_shelve_91 (by decide) ?_
        obtain ⟨e1, e2⟩ := z2 hR.symm
        subst e1; subst e2
        exact W.iret (v := (-1)) hx hb hr (fun t ht hW => ⟨⟨_, (), rfl, rfl, by rw [ht]; exact hP, hD⟩, hS.F ht⟩) hS.2.2 dX6_shelve_92
    · have hR := hR.trans (if_pos c_2)
      refine lv_aload_n hx hb dX6_shelve_23 rfl (lv_at hl 0 rfl) ?_
      refine lv_aload_n hx hb dX6_shelve_24 rfl (lv_at hl 0 rfl) ?_
      refine lv_iload_n hx hb dX6_shelve_25 rfl (lv_at hl 1 rfl) ?_
      refine lv_iload_n hx hb dX6_shelve_26 rfl (lv_at hl 2 rfl) ?_
      refine zai (va_runV (As := [.int a1, .int a2]) (rest := [.ref (ad 29)]) ⟨hx, hb, hml, hown, hts⟩ (c_X6_isAlarm l G cs ad tl σ a1 a2  H.size) (cwV 2 hts gX6_shelve_X6_isAlarm rfl rfl rfl (by decide +kernel) ⟨Nat.le_of_ble_eq_true rfl, Nat.le_of_ble_eq_true rfl⟩) (zpv hE hP hD hS hA (zg_29 cs ad σ tl) rfl) rfl rfl hl.1 rfl (lv_room (Nat.le_of_ble_eq_true rfl)) dX6_shelve_27 ⟨Nat.le_of_ble_eq_true rfl, Nat.le_of_ble_eq_true rfl⟩) hD hS hA (fun H locs hP hD hS => ?_)
      refine lv_if_ne (tgt := 37) hx hb dX6_shelve_30 (by decide) (fun _ => ?_) (fun c => absurd c c_1)
      refine lv_iconst (v := 2) hx hb dX6_shelve_37 (by decide) ?_
      refine va_put (D := G) (ci := 8) (v := .int 2) (ty := .int) (C := RX6) (T := TX6) (N := 29) hx hb hts iX6_shelve tyX6 tyX6_ok nmX6 hown hE.1 hP hD hS 29 (zg_29 cs ad σ tl) rfl 28 (by decide) (hts (.fieldLink RX6 82 "HandoverDeckModel" "thrown" "I") (by decide +kernel)) (fun _ h9 => h9) rfl (by decide +kernel) rfl rfl (Nat.le_of_ble_eq_true rfl) dX6_shelve_38 (fun H locs hP hD hS => ?_)
      rw [zb_29_28 cs ad σ tl] at hP hD
      refine lv_iconst (v := (-1)) hx hb dX6_shelve_41 (by decide) ?_
      obtain ⟨e1, e2⟩ := z2 hR.symm
      subst e1; subst e2
      exact W.iret (v := (-1)) hx hb hr (fun t ht hW => ⟨⟨_, (), rfl, rfl, by rw [ht]; exact hP, hD⟩, hS.F ht⟩) hS.2.2 dX6_shelve_42
def f_X6_isShelved_ (σ : zS) (a1 : Int32) (a2 : Int32) : Int32 × zS := (if (f_X6_isAlarm σ a1 a2) = 0 then (0, (zs σ 29 28 1)) else (if (f_X6_isShelved (zs σ 29 28 0) ((4 * a1) + a2)) = 0 then (0, (zs σ 29 28 0)) else (1, (zs σ 29 28 0))))
theorem iX6_isShelved_ : ∀ w ∈ u_ws RX6 TX6 29, w ∈ wsX6_isShelved_ := by decide +kernel
set_option maxRecDepth 100000 in
theorem c_X6_isShelved_ (l : Launch) (G : va_G) (cs : Nat → ClassId) (ad : Nat → Nat) (tl : va_W) (σ : zS) (a1 : Int32) (a2 : Int32)  : zMi l yX6_isShelved_ wsX6_isShelved_ { frames := 3, cells := 0, slots := 0, locals := 67 } G cs [.ref (ad 29), .int a1, .int a2] (zw cs ad σ tl) (f_X6_isShelved_ σ a1 a2).1 (zw cs ad (f_X6_isShelved_ σ a1 a2).2 tl) 0 0 := by
  intro sz
  refine Met.ofW (cc := cX6_isShelved_) (maxL := 3) (ret := (some .boolean)) (by decide) rfl ?_
  intro p e s m args below meth c s₁ B hml hv
  obtain ⟨rfl, hsz, hP, hD0, hE⟩ := hv
  have hx := B.exec
  have hb := B.bytes
  have hr := B.returns
  have hts := atoms_spec (ws := wsX6_isShelved_) B.pre
  have hown : s.vm.findClass RX6 = some m.cls := findClass_of_methodNamed B.named
  have hlocks := B.notSynchronized
  subst hsz
  have hD := hD0.self (sz := s.heap.size)
  have hA : ∀ q : Nat, s.heap.size ≤ q → (va_A (zw cs ad σ tl) s.heap.size) q := fun q h => Or.inr h
  generalize va_A (zw cs ad σ tl) s.heap.size = A at hD hE hA ⊢
  have hS : va_S A s.heap s.heap [] := va_S.rf
  have hl := lv_entry ([.ref (ad 29), .int a1, .int a2]) (n := 3) (Nat.le_of_ble_eq_true rfl)
  rw [lg_entry_eq]
  generalize (lg_sl ([.ref (ad 29), .int a1, .int a2]) ++ List.replicate (3 - (lg_sl ([.ref (ad 29), .int a1, .int a2])).length) Slot.unset).toArray = ls at hl ⊢
  have hl : lv_has ls 3 [(0, .ref (ad 29)), (1, .int a1), (2, .int a2)] := hl
  generalize hR : (f_X6_isShelved_ σ a1 a2) = RV
  have hR := hR.symm
  unfold f_X6_isShelved_ at hR
  obtain ⟨RVv, RVs⟩ := RV
  dsimp only
  obtain ⟨H, hH⟩ : ∃ z, z = s.heap := ⟨_, rfl⟩
  obtain ⟨locs, hlocs⟩ : ∃ z : List Loc, z = [] := ⟨_, rfl⟩
  rw [← hH] at hP
  have hS : va_S A s.heap H locs := by rw [hH, hlocs]; exact hS
  show W _ _ _ _ _ _ _ _ _ _ s.heap [] _ _ _ _
  rw [← hH, ← hlocs]
  clear hlocs
  refine lv_aload_n hx hb dX6_isShelved__0 rfl (lv_at hl 0 rfl) ?_
  refine lv_aload_n hx hb dX6_isShelved__1 rfl (lv_at hl 0 rfl) ?_
  refine lv_iload_n hx hb dX6_isShelved__2 rfl (lv_at hl 1 rfl) ?_
  refine lv_iload_n hx hb dX6_isShelved__3 rfl (lv_at hl 2 rfl) ?_
  refine zai (va_runV (As := [.int a1, .int a2]) (rest := [.ref (ad 29)]) ⟨hx, hb, hml, hown, hts⟩ (c_X6_isAlarm l G cs ad tl σ a1 a2  H.size) (cwV 2 hts gX6_isShelved__X6_isAlarm rfl rfl rfl (by decide +kernel) ⟨Nat.le_of_ble_eq_true rfl, Nat.le_of_ble_eq_true rfl⟩) (zpv hE hP hD hS hA (zg_29 cs ad σ tl) rfl) rfl rfl hl.1 rfl (lv_room (Nat.le_of_ble_eq_true rfl)) dX6_isShelved__4 ⟨Nat.le_of_ble_eq_true rfl, Nat.le_of_ble_eq_true rfl⟩) hD hS hA (fun H locs hP hD hS => ?_)
  refine lv_if_eq (tgt := 14) hx hb dX6_isShelved__7 (by decide) (fun c_1 => ?_) (fun c_1 => ?_)
  · have hR := hR.trans (if_pos c_1)
    refine lv_iconst (v := 1) hx hb dX6_isShelved__14 (by decide) ?_
    refine va_put (D := G) (ci := 8) (v := .int 1) (ty := .int) (C := RX6) (T := TX6) (N := 29) hx hb hts iX6_isShelved_ tyX6 tyX6_ok nmX6 hown hE.1 hP hD hS 29 (zg_29 cs ad σ tl) rfl 28 (by decide) (hts (.fieldLink RX6 82 "HandoverDeckModel" "thrown" "I") (by decide +kernel)) (fun _ h9 => h9) rfl (by decide +kernel) rfl rfl (Nat.le_of_ble_eq_true rfl) dX6_isShelved__15 (fun H locs hP hD hS => ?_)
    rw [zb_29_28 cs ad σ tl] at hP hD
    refine lv_aload_n hx hb dX6_isShelved__18 rfl (lv_at hl 0 rfl) ?_
    refine va_get (D := G) (ci := 8) (v := .int 1) (C := RX6) (T := TX6) (N := 29) hx hb hts iX6_isShelved_ hown hE.1 hP 29 (zg_29 cs ad (zs σ 29 28 1) tl) rfl 28 (by decide) (hts (.fieldLink RX6 82 "HandoverDeckModel" "thrown" "I") (by decide +kernel)) (fun _ h9 => h9) rfl dX6_isShelved__19 ?_
    refine lv_if_ne (tgt := 41) hx hb dX6_isShelved__22 (by decide) (fun _ => ?_) (fun c => absurd c (by decide))
    refine lv_iconst (v := 0) hx hb dX6_isShelved__41 (by decide) ?_
    obtain ⟨e1, e2⟩ := z2 hR.symm
    subst e1; subst e2
    exact W.zret (v := 0) hx hb hr rfl (fun t ht hW => ⟨⟨_, (), rfl, rfl, by rw [ht]; exact hP, hD⟩, hS.F ht⟩) hS.2.2 dX6_isShelved__42
  · have hR := hR.trans (if_neg c_1)
    refine lv_iconst (v := 0) hx hb dX6_isShelved__10 (by decide) ?_
    refine lv_goto (tgt := 15) hx hb dX6_isShelved__11 (by decide) ?_
    refine va_put (D := G) (ci := 8) (v := .int 0) (ty := .int) (C := RX6) (T := TX6) (N := 29) hx hb hts iX6_isShelved_ tyX6 tyX6_ok nmX6 hown hE.1 hP hD hS 29 (zg_29 cs ad σ tl) rfl 28 (by decide) (hts (.fieldLink RX6 82 "HandoverDeckModel" "thrown" "I") (by decide +kernel)) (fun _ h9 => h9) rfl (by decide +kernel) rfl rfl (Nat.le_of_ble_eq_true rfl) dX6_isShelved__15 (fun H locs hP hD hS => ?_)
    rw [zb_29_28 cs ad σ tl] at hP hD
    refine lv_aload_n hx hb dX6_isShelved__18 rfl (lv_at hl 0 rfl) ?_
    refine va_get (D := G) (ci := 8) (v := .int 0) (C := RX6) (T := TX6) (N := 29) hx hb hts iX6_isShelved_ hown hE.1 hP 29 (zg_29 cs ad (zs σ 29 28 0) tl) rfl 28 (by decide) (hts (.fieldLink RX6 82 "HandoverDeckModel" "thrown" "I") (by decide +kernel)) (fun _ h9 => h9) rfl dX6_isShelved__19 ?_
    refine lv_if_ne (tgt := 41) hx hb dX6_isShelved__22 (by decide) (fun c => absurd c (by decide)) (fun _ => ?_)
    refine lv_aload_n hx hb dX6_isShelved__25 rfl (lv_at hl 0 rfl) ?_
    refine lv_iconst (v := 4) hx hb dX6_isShelved__26 (by decide) ?_
    refine lv_iload_n hx hb dX6_isShelved__27 rfl (lv_at hl 1 rfl) ?_
    refine lv_imul hx hb dX6_isShelved__28 ?_
    refine lv_iload_n hx hb dX6_isShelved__29 rfl (lv_at hl 2 rfl) ?_
    refine lv_iadd hx hb dX6_isShelved__30 ?_
    refine zai (va_runV (As := [.int ((4 * a1) + a2)]) (rest := []) ⟨hx, hb, hml, hown, hts⟩ (c_X6_isShelved l G cs ad tl (zs σ 29 28 0) ((4 * a1) + a2) (vin_X6_isAlarm c_1) H.size) (cwV 1 hts gX6_isShelved__X6_isShelved rfl rfl rfl (by decide +kernel) ⟨Nat.le_of_ble_eq_true rfl, Nat.le_of_ble_eq_true rfl⟩) (zpv hE hP hD hS hA (zg_29 cs ad (zs σ 29 28 0) tl) rfl) rfl rfl hl.1 rfl (lv_room (Nat.le_of_ble_eq_true rfl)) dX6_isShelved__31 ⟨Nat.le_of_ble_eq_true rfl, Nat.le_of_ble_eq_true rfl⟩) hD hS hA (fun H locs hP hD hS => ?_)
    refine lv_if_eq (tgt := 41) hx hb dX6_isShelved__34 (by decide) (fun c_2 => ?_) (fun c_2 => ?_)
    · have hR := hR.trans (if_pos c_2)
      refine lv_iconst (v := 0) hx hb dX6_isShelved__41 (by decide) ?_
      obtain ⟨e1, e2⟩ := z2 hR.symm
      subst e1; subst e2
      exact W.zret (v := 0) hx hb hr rfl (fun t ht hW => ⟨⟨_, (), rfl, rfl, by rw [ht]; exact hP, hD⟩, hS.F ht⟩) hS.2.2 dX6_isShelved__42
    · have hR := hR.trans (if_neg c_2)
      refine lv_iconst (v := 1) hx hb dX6_isShelved__37 (by decide) ?_
      refine lv_goto (tgt := 42) hx hb dX6_isShelved__38 (by decide) ?_
      obtain ⟨e1, e2⟩ := z2 hR.symm
      subst e1; subst e2
      exact W.zret (v := 1) hx hb hr rfl (fun t ht hW => ⟨⟨_, (), rfl, rfl, by rw [ht]; exact hP, hD⟩, hS.F ht⟩) hS.2.2 dX6_isShelved__42
def L_X6_alarms_36 (σ : zS) (a1 : Int32) : Nat → Int32 → Int32 → Int32 × zS
  | 0, _, _ => (0, σ)
  | n + 1, x2, x3 => (if 32 ≤ x3 then (x2, (zs σ 29 28 0)) else (if (σ 36 x3.toNatClampNeg) = (-1) then (L_X6_alarms_36 σ a1 n (x2 + 0) (x3 + 1)) else (if (f_X6_isShelved (zs σ 29 28 0) x3) = 0 then (if (σ 37 x3.toNatClampNeg) < a1 then (L_X6_alarms_36 σ a1 n (x2 + 0) (x3 + 1)) else (L_X6_alarms_36 σ a1 n (x2 + 1) (x3 + 1))) else (L_X6_alarms_36 σ a1 n (x2 + 0) (x3 + 1)))))
def f_X6_alarms (σ : zS) (a1 : Int32) : Int32 × zS := (if (f_X6_in a1.toInt64 1 5) = 0 then ((-1), (zs σ 29 28 1)) else (L_X6_alarms_36 σ a1 33 0 0))
theorem iX6_alarms : ∀ w ∈ u_ws RX6 TX6 29, w ∈ wsX6_alarms := by decide +kernel
set_option maxRecDepth 100000 in
theorem c_X6_alarms (l : Launch) (G : va_G) (cs : Nat → ClassId) (ad : Nat → Nat) (tl : va_W) (σ : zS) (a1 : Int32)  : zMi l yX6_alarms wsX6_alarms { frames := 1, cells := 0, slots := 0, locals := 25 } G cs [.ref (ad 29), .int a1] (zw cs ad σ tl) (f_X6_alarms σ a1).1 (zw cs ad (f_X6_alarms σ a1).2 tl) 0 0 := by
  intro sz
  refine Met.ofW (cc := cX6_alarms) (maxL := 4) (ret := (some .int)) (by decide) rfl ?_
  intro p e s m args below meth c s₁ B hml hv
  obtain ⟨rfl, hsz, hP, hD0, hE⟩ := hv
  have hx := B.exec
  have hb := B.bytes
  have hr := B.returns
  have hts := atoms_spec (ws := wsX6_alarms) B.pre
  have hown : s.vm.findClass RX6 = some m.cls := findClass_of_methodNamed B.named
  have hlocks := B.notSynchronized
  subst hsz
  have hD := hD0.self (sz := s.heap.size)
  have hA : ∀ q : Nat, s.heap.size ≤ q → (va_A (zw cs ad σ tl) s.heap.size) q := fun q h => Or.inr h
  generalize va_A (zw cs ad σ tl) s.heap.size = A at hD hE hA ⊢
  have hS : va_S A s.heap s.heap [] := va_S.rf
  have hl := lv_entry ([.ref (ad 29), .int a1]) (n := 4) (Nat.le_of_ble_eq_true rfl)
  rw [lg_entry_eq]
  generalize (lg_sl ([.ref (ad 29), .int a1]) ++ List.replicate (4 - (lg_sl ([.ref (ad 29), .int a1])).length) Slot.unset).toArray = ls at hl ⊢
  have hl : lv_has ls 4 [(0, .ref (ad 29)), (1, .int a1)] := hl
  generalize hR : (f_X6_alarms σ a1) = RV
  have hR := hR.symm
  unfold f_X6_alarms at hR
  obtain ⟨RVv, RVs⟩ := RV
  dsimp only
  obtain ⟨H, hH⟩ : ∃ z, z = s.heap := ⟨_, rfl⟩
  obtain ⟨locs, hlocs⟩ : ∃ z : List Loc, z = [] := ⟨_, rfl⟩
  rw [← hH] at hP
  have hS : va_S A s.heap H locs := by rw [hH, hlocs]; exact hS
  show W _ _ _ _ _ _ _ _ _ _ s.heap [] _ _ _ _
  rw [← hH, ← hlocs]
  clear hlocs
  refine lv_aload_n hx hb dX6_alarms_0 rfl (lv_at hl 0 rfl) ?_
  refine lv_iload_n hx hb dX6_alarms_1 rfl (lv_at hl 1 rfl) ?_
  refine lv_i2l (v := a1.toInt64) hx hb dX6_alarms_2 rfl ?_
  refine lv_lconst (v := 1) hx hb dX6_alarms_3 (by decide) ?_
  refine lv_ldc2 (v := 5) hx hb hown (hts (.constantLong RX6 107 5) (by decide +kernel)) dX6_alarms_4 ?_
  refine zai (va_runS (As := [.long a1.toInt64, .long 1, .long 5]) (rest := [.ref (ad 29)]) ⟨hx, hb, hml, hown, hts⟩ (c_X6_in l G cs ad tl σ a1.toInt64 1 5  H.size) (va_cwS 3 hts gX6_alarms_X6_in rfl rfl rfl (by decide +kernel) ⟨Nat.le_of_ble_eq_true rfl, Nat.le_of_ble_eq_true rfl⟩) (zps hE hP hD hS hA) rfl rfl hl.1 rfl (lv_room (Nat.le_of_ble_eq_true rfl)) dX6_alarms_7 ⟨Nat.le_of_ble_eq_true rfl, Nat.le_of_ble_eq_true rfl⟩) hD hS hA (fun H locs hP hD hS => ?_)
  refine lv_if_eq (tgt := 17) hx hb dX6_alarms_10 (by decide) (fun c_1 => ?_) (fun c_1 => ?_)
  · have hR := hR.trans (if_pos c_1)
    refine lv_iconst (v := 1) hx hb dX6_alarms_17 (by decide) ?_
    refine va_put (D := G) (ci := 8) (v := .int 1) (ty := .int) (C := RX6) (T := TX6) (N := 29) hx hb hts iX6_alarms tyX6 tyX6_ok nmX6 hown hE.1 hP hD hS 29 (zg_29 cs ad σ tl) rfl 28 (by decide) (hts (.fieldLink RX6 82 "HandoverDeckModel" "thrown" "I") (by decide +kernel)) (fun _ h9 => h9) rfl (by decide +kernel) rfl rfl (Nat.le_of_ble_eq_true rfl) dX6_alarms_18 (fun H locs hP hD hS => ?_)
    rw [zb_29_28 cs ad σ tl] at hP hD
    refine lv_aload_n hx hb dX6_alarms_21 rfl (lv_at hl 0 rfl) ?_
    refine va_get (D := G) (ci := 8) (v := .int 1) (C := RX6) (T := TX6) (N := 29) hx hb hts iX6_alarms hown hE.1 hP 29 (zg_29 cs ad (zs σ 29 28 1) tl) rfl 28 (by decide) (hts (.fieldLink RX6 82 "HandoverDeckModel" "thrown" "I") (by decide +kernel)) (fun _ h9 => h9) rfl dX6_alarms_22 ?_
    refine lv_if_ne (tgt := 32) hx hb dX6_alarms_25 (by decide) (fun _ => ?_) (fun c => absurd c (by decide))
    refine lv_iconst (v := (-1)) hx hb dX6_alarms_32 (by decide) ?_
    refine lv_istore_n (lv' := [(2, .int (-1)), (0, .ref (ad 29)), (1, .int a1)]) hx hb dX6_alarms_33 rfl hl (by decide) rfl (fun ls hl => ?_)
    refine lv_iconst (v := 0) hx hb dX6_alarms_34 (by decide) ?_
    refine lv_istore_n (lv' := [(3, .int 0), (2, .int (-1)), (0, .ref (ad 29)), (1, .int a1)]) hx hb dX6_alarms_35 rfl hl (by decide) rfl (fun ls hl => ?_)
    refine lv_iload_n hx hb dX6_alarms_36 rfl (lv_at hl 0 rfl) ?_
    refine lv_bipush (v := 32) hx hb dX6_alarms_37 (by decide) ?_
    refine lv_icmp_ge (tgt := 91) hx hb dX6_alarms_39 (by decide) (fun c => absurd c (by decide)) (fun _ => ?_)
    refine lv_aload_n hx hb dX6_alarms_42 rfl (lv_at hl 2 rfl) ?_
    refine va_get (D := G) (ci := 8) (v := .int 1) (C := RX6) (T := TX6) (N := 29) hx hb hts iX6_alarms hown hE.1 hP 29 (zg_29 cs ad (zs σ 29 28 1) tl) rfl 28 (by decide) (hts (.fieldLink RX6 82 "HandoverDeckModel" "thrown" "I") (by decide +kernel)) (fun _ h9 => h9) rfl dX6_alarms_43 ?_
    refine lv_if_ne (tgt := 91) hx hb dX6_alarms_46 (by decide) (fun _ => ?_) (fun c => absurd c (by decide))
    refine lv_iload_n hx hb dX6_alarms_91 rfl (lv_at hl 1 rfl) ?_
    obtain ⟨e1, e2⟩ := z2 hR.symm
    subst e1; subst e2
    exact W.iret (v := (-1)) hx hb hr (fun t ht hW => ⟨⟨_, (), rfl, rfl, by rw [ht]; exact hP, hD⟩, hS.F ht⟩) hS.2.2 dX6_alarms_92
  · have hR := hR.trans (if_neg c_1)
    refine lv_iconst (v := 0) hx hb dX6_alarms_13 (by decide) ?_
    refine lv_goto (tgt := 18) hx hb dX6_alarms_14 (by decide) ?_
    refine va_put (D := G) (ci := 8) (v := .int 0) (ty := .int) (C := RX6) (T := TX6) (N := 29) hx hb hts iX6_alarms tyX6 tyX6_ok nmX6 hown hE.1 hP hD hS 29 (zg_29 cs ad σ tl) rfl 28 (by decide) (hts (.fieldLink RX6 82 "HandoverDeckModel" "thrown" "I") (by decide +kernel)) (fun _ h9 => h9) rfl (by decide +kernel) rfl rfl (Nat.le_of_ble_eq_true rfl) dX6_alarms_18 (fun H locs hP hD hS => ?_)
    rw [zb_29_28 cs ad σ tl] at hP hD
    refine lv_aload_n hx hb dX6_alarms_21 rfl (lv_at hl 0 rfl) ?_
    refine va_get (D := G) (ci := 8) (v := .int 0) (C := RX6) (T := TX6) (N := 29) hx hb hts iX6_alarms hown hE.1 hP 29 (zg_29 cs ad (zs σ 29 28 0) tl) rfl 28 (by decide) (hts (.fieldLink RX6 82 "HandoverDeckModel" "thrown" "I") (by decide +kernel)) (fun _ h9 => h9) rfl dX6_alarms_22 ?_
    refine lv_if_ne (tgt := 32) hx hb dX6_alarms_25 (by decide) (fun c => absurd c (by decide)) (fun _ => ?_)
    refine lv_iconst (v := 0) hx hb dX6_alarms_28 (by decide) ?_
    refine lv_goto (tgt := 33) hx hb dX6_alarms_29 (by decide) ?_
    refine lv_istore_n (lv' := [(2, .int 0), (0, .ref (ad 29)), (1, .int a1)]) hx hb dX6_alarms_33 rfl hl (by decide) rfl (fun ls hl => ?_)
    refine lv_iconst (v := 0) hx hb dX6_alarms_34 (by decide) ?_
    refine lv_istore_n (lv' := [(3, .int 0), (2, .int 0), (0, .ref (ad 29)), (1, .int a1)]) hx hb dX6_alarms_35 rfl hl (by decide) rfl (fun ls hl => ?_)
    have loop_6 : ∀ (n k : Nat) (x2 : Int32) (x3 : Int32), x3 = nI (k) → k ≤ 32 → k + n = 33 → (RVv, RVs) = L_X6_alarms_36 σ a1 n x2 x3 → ∀ (H : Heap) (locs : List Loc), va_P G vwCl (zw cs ad (zs σ 29 28 0) tl) H → va_D A (zw cs ad (zs σ 29 28 0) tl) → va_S A s.heap H locs → ∀ ls : Array Slot, lv_has ls 4 [(0, .ref (ad 29)), (1, .int a1), (2, .int x2), (3, .int x3)] → W p l e (headSpec wsX6_alarms { frames := 1, cells := 0, slots := 0, locals := 25 }).room s m (List.toArray [.ref (ad 29), .int a1]) below meth c H locs 0 0 (MQ below (va_Qi (fun (r : Int32) (_ : Unit) => r = RVv) (fun _ t => zPo G A (zw cs ad RVs tl) t) A) (List.toArray [.ref (ad 29), .int a1]) s 0 0 A) (F0 m 36 ls []) := by
      intro n
      induction n with
      | zero => intro k  x2 x3 ex hk hn; omega
      | succ n ih =>
        intro k  x2 x3 ex hk hn hR H locs hP hD hS ls hl
        rw [L_X6_alarms_36] at hR
        refine lv_iload_n hx hb dX6_alarms_36 rfl (lv_at hl 3 rfl) ?_
        refine lv_bipush (v := 32) hx hb dX6_alarms_37 (by decide) ?_
        refine lv_icmp_ge (tgt := 91) hx hb dX6_alarms_39 (by decide) (fun c_2 => ?_) (fun c_2 => ?_)
        · have hR := hR.trans (if_pos c_2)
          refine lv_iload_n hx hb dX6_alarms_91 rfl (lv_at hl 2 rfl) ?_
          obtain ⟨e1, e2⟩ := z2 hR.symm
          subst e1; subst e2
          exact W.iret (v := x2) hx hb hr (fun t ht hW => ⟨⟨_, (), rfl, rfl, by rw [ht]; exact hP, hD⟩, hS.F ht⟩) hS.2.2 dX6_alarms_92
        · have hR := hR.trans (if_neg c_2)
          have hkB : k < 32 := zlt ex (by omega) (by decide) c_2
          refine lv_aload_n hx hb dX6_alarms_42 rfl (lv_at hl 0 rfl) ?_
          refine va_get (D := G) (ci := 8) (v := .int 0) (C := RX6) (T := TX6) (N := 29) hx hb hts iX6_alarms hown hE.1 hP 29 (zg_29 cs ad (zs σ 29 28 0) tl) rfl 28 (by decide) (hts (.fieldLink RX6 82 "HandoverDeckModel" "thrown" "I") (by decide +kernel)) (fun _ h9 => h9) rfl dX6_alarms_43 ?_
          refine lv_if_ne (tgt := 91) hx hb dX6_alarms_46 (by decide) (fun c => absurd c (by decide)) (fun _ => ?_)
          refine lv_iload_n hx hb dX6_alarms_49 rfl (lv_at hl 2 rfl) ?_
          refine lv_aload_n hx hb dX6_alarms_50 rfl (lv_at hl 0 rfl) ?_
          refine va_get (D := G) (ci := 8) (v := .ref (ad 36)) (C := RX6) (T := TX6) (N := 29) hx hb hts iX6_alarms hown hE.1 hP 29 (zg_29 cs ad (zs σ 29 28 0) tl) rfl 8 (by decide) (hts (.fieldLink RX6 30 "HandoverDeckModel" "alarmLine" "[I") (by decide +kernel)) (fun _ h9 => h9) rfl dX6_alarms_51 ?_
          refine lv_iload_n hx hb dX6_alarms_54 rfl (lv_at hl 3 rfl) ?_
          refine z_iald (v := (σ 36 x3.toNatClampNeg)) hx hb hE hP (zg_36 cs ad (zs σ 29 28 0) tl) (by rw [ex]; exact vp_in_nI (by omega) (by decide)) (by rw [zs_ne (k := 29) (k' := 36) (by decide)]) dX6_alarms_55 ?_
          refine lv_iconst (v := (-1)) hx hb dX6_alarms_56 (by decide) ?_
          refine lv_icmp_eq (tgt := 82) hx hb dX6_alarms_57 (by decide) (fun c_3 => ?_) (fun c_3 => ?_)
          · have hR := hR.trans (if_pos c_3)
            refine lv_iconst (v := 0) hx hb dX6_alarms_82 (by decide) ?_
            refine lv_iadd hx hb dX6_alarms_83 ?_
            refine lv_istore_n (lv' := [(2, .int (x2 + 0)), (0, .ref (ad 29)), (1, .int a1), (3, .int x3)]) hx hb dX6_alarms_84 rfl hl (by decide) rfl (fun ls hl => ?_)
            refine lv_iinc (v := (x3 + 1)) (lv' := [(3, .int (x3 + 1)), (2, .int (x2 + 0)), (0, .ref (ad 29)), (1, .int a1)]) hx hb dX6_alarms_85 hl (k := 3) rfl rfl (by decide) rfl (fun ls hl => ?_)
            refine lv_goto (tgt := 36) hx hb dX6_alarms_88 (by decide) ?_
            exact ih (k + 1)  (x2 + 0) (x3 + 1) (by rw [ex]; exact nI_1 _) (by omega) (by omega)  hR H locs hP hD hS ls (lv_sub hl [2, 3, 1, 0] rfl)
          · have hR := hR.trans (if_neg c_3)
            refine lv_aload_n hx hb dX6_alarms_60 rfl (lv_at hl 0 rfl) ?_
            refine lv_iload_n hx hb dX6_alarms_61 rfl (lv_at hl 3 rfl) ?_
            refine zai (va_runV (As := [.int x3]) (rest := [.int x2]) ⟨hx, hb, hml, hown, hts⟩ (c_X6_isShelved l G cs ad tl (zs σ 29 28 0) x3 (by rw [ex]; exact vp_in_nI (by omega) (by decide)) H.size) (cwV 1 hts gX6_alarms_X6_isShelved rfl rfl rfl (by decide +kernel) ⟨Nat.le_of_ble_eq_true rfl, Nat.le_of_ble_eq_true rfl⟩) (zpv hE hP hD hS hA (zg_29 cs ad (zs σ 29 28 0) tl) rfl) rfl rfl hl.1 rfl (lv_room (Nat.le_of_ble_eq_true rfl)) dX6_alarms_62 ⟨Nat.le_of_ble_eq_true rfl, Nat.le_of_ble_eq_true rfl⟩) hD hS hA (fun H locs hP hD hS => ?_)
            refine lv_if_ne (tgt := 82) hx hb dX6_alarms_65 (by decide) (fun c_4 => ?_) (fun c_4 => ?_)
            · have hR := hR.trans (if_neg c_4)
              refine lv_iconst (v := 0) hx hb dX6_alarms_82 (by decide) ?_
              refine lv_iadd hx hb dX6_alarms_83 ?_
              refine lv_istore_n (lv' := [(2, .int (x2 + 0)), (0, .ref (ad 29)), (1, .int a1), (3, .int x3)]) hx hb dX6_alarms_84 rfl hl (by decide) rfl (fun ls hl => ?_)
              refine lv_iinc (v := (x3 + 1)) (lv' := [(3, .int (x3 + 1)), (2, .int (x2 + 0)), (0, .ref (ad 29)), (1, .int a1)]) hx hb dX6_alarms_85 hl (k := 3) rfl rfl (by decide) rfl (fun ls hl => ?_)
              refine lv_goto (tgt := 36) hx hb dX6_alarms_88 (by decide) ?_
              exact ih (k + 1)  (x2 + 0) (x3 + 1) (by rw [ex]; exact nI_1 _) (by omega) (by omega)  hR H locs hP hD hS ls (lv_sub hl [2, 3, 1, 0] rfl)
            · have hR := hR.trans (if_pos c_4)
              refine lv_aload_n hx hb dX6_alarms_68 rfl (lv_at hl 0 rfl) ?_
              refine va_get (D := G) (ci := 8) (v := .ref (ad 37)) (C := RX6) (T := TX6) (N := 29) hx hb hts iX6_alarms hown hE.1 hP 29 (zg_29 cs ad (zs σ 29 28 0) tl) rfl 9 (by decide) (hts (.fieldLink RX6 33 "HandoverDeckModel" "priority" "[I") (by decide +kernel)) (fun _ h9 => h9) rfl dX6_alarms_69 ?_
              refine lv_iload_n hx hb dX6_alarms_72 rfl (lv_at hl 3 rfl) ?_
              refine z_iald (v := (σ 37 x3.toNatClampNeg)) hx hb hE hP (zg_37 cs ad (zs σ 29 28 0) tl) (by rw [ex]; exact vp_in_nI (by omega) (by decide)) (by rw [zs_ne (k := 29) (k' := 37) (by decide)]) dX6_alarms_73 ?_
              refine lv_iload_n hx hb dX6_alarms_74 rfl (lv_at hl 1 rfl) ?_
              refine lv_icmp_lt (tgt := 82) hx hb dX6_alarms_75 (by decide) (fun c_5 => ?_) (fun c_5 => ?_)
              · have hR := hR.trans (if_pos c_5)
                refine lv_iconst (v := 0) hx hb dX6_alarms_82 (by decide) ?_
                refine lv_iadd hx hb dX6_alarms_83 ?_
                refine lv_istore_n (lv' := [(2, .int (x2 + 0)), (0, .ref (ad 29)), (1, .int a1), (3, .int x3)]) hx hb dX6_alarms_84 rfl hl (by decide) rfl (fun ls hl => ?_)
                refine lv_iinc (v := (x3 + 1)) (lv' := [(3, .int (x3 + 1)), (2, .int (x2 + 0)), (0, .ref (ad 29)), (1, .int a1)]) hx hb dX6_alarms_85 hl (k := 3) rfl rfl (by decide) rfl (fun ls hl => ?_)
                refine lv_goto (tgt := 36) hx hb dX6_alarms_88 (by decide) ?_
                exact ih (k + 1)  (x2 + 0) (x3 + 1) (by rw [ex]; exact nI_1 _) (by omega) (by omega)  hR H locs hP hD hS ls (lv_sub hl [2, 3, 1, 0] rfl)
              · have hR := hR.trans (if_neg c_5)
                refine lv_iconst (v := 1) hx hb dX6_alarms_78 (by decide) ?_
                refine lv_goto (tgt := 83) hx hb dX6_alarms_79 (by decide) ?_
                refine lv_iadd hx hb dX6_alarms_83 ?_
                refine lv_istore_n (lv' := [(2, .int (x2 + 1)), (0, .ref (ad 29)), (1, .int a1), (3, .int x3)]) hx hb dX6_alarms_84 rfl hl (by decide) rfl (fun ls hl => ?_)
                refine lv_iinc (v := (x3 + 1)) (lv' := [(3, .int (x3 + 1)), (2, .int (x2 + 1)), (0, .ref (ad 29)), (1, .int a1)]) hx hb dX6_alarms_85 hl (k := 3) rfl rfl (by decide) rfl (fun ls hl => ?_)
                refine lv_goto (tgt := 36) hx hb dX6_alarms_88 (by decide) ?_
                exact ih (k + 1)  (x2 + 1) (x3 + 1) (by rw [ex]; exact nI_1 _) (by omega) (by omega)  hR H locs hP hD hS ls (lv_sub hl [2, 3, 1, 0] rfl)
    exact loop_6 33 0  0 0 nI_0.symm (by omega) (by omega)  hR H locs hP hD hS ls (lv_sub hl [2, 3, 1, 0] rfl)
def L_X6_top_4 (σ : zS)  : Nat → Int32 → Int32 → Int32 × zS
  | 0, _, _ => (0, σ)
  | n + 1, x1, x2 => (if 32 ≤ x2 then (if x1 = (-1) then ((-1), (zs σ 29 28 1)) else ((σ 36 x1.toNatClampNeg), (zs σ 29 28 0))) else (if (σ 36 x2.toNatClampNeg) = (-1) then (L_X6_top_4 σ  n x1 (x2 + 1)) else (if (f_X6_isShelved σ x2) = 0 then (if x1 = (-1) then (L_X6_top_4 σ  n x2 (x2 + 1)) else (if (σ 37 x2.toNatClampNeg) ≤ (σ 37 x1.toNatClampNeg) then (if (σ 37 x2.toNatClampNeg) = (σ 37 x1.toNatClampNeg) then (if (σ 36 x1.toNatClampNeg) ≤ (σ 36 x2.toNatClampNeg) then (L_X6_top_4 σ  n x1 (x2 + 1)) else (L_X6_top_4 σ  n x2 (x2 + 1))) else (L_X6_top_4 σ  n x1 (x2 + 1))) else (L_X6_top_4 σ  n x2 (x2 + 1)))) else (L_X6_top_4 σ  n x1 (x2 + 1)))))
def f_X6_top (σ : zS)  : Int32 × zS := (L_X6_top_4 σ  33 (-1) 0)
theorem iX6_top : ∀ w ∈ u_ws RX6 TX6 29, w ∈ wsX6_top := by decide +kernel
set_option maxRecDepth 100000 in
theorem c_X6_top (l : Launch) (G : va_G) (cs : Nat → ClassId) (ad : Nat → Nat) (tl : va_W) (σ : zS)   : zMi l yX6_top wsX6_top { frames := 1, cells := 0, slots := 0, locals := 21 } G cs [.ref (ad 29)] (zw cs ad σ tl) (f_X6_top σ ).1 (zw cs ad (f_X6_top σ ).2 tl) 0 0 := by
  intro sz
  refine Met.ofW (cc := cX6_top) (maxL := 4) (ret := (some .int)) (by decide) rfl ?_
  intro p e s m args below meth c s₁ B hml hv
  obtain ⟨rfl, hsz, hP, hD0, hE⟩ := hv
  have hx := B.exec
  have hb := B.bytes
  have hr := B.returns
  have hts := atoms_spec (ws := wsX6_top) B.pre
  have hown : s.vm.findClass RX6 = some m.cls := findClass_of_methodNamed B.named
  have hlocks := B.notSynchronized
  subst hsz
  have hD := hD0.self (sz := s.heap.size)
  have hA : ∀ q : Nat, s.heap.size ≤ q → (va_A (zw cs ad σ tl) s.heap.size) q := fun q h => Or.inr h
  generalize va_A (zw cs ad σ tl) s.heap.size = A at hD hE hA ⊢
  have hS : va_S A s.heap s.heap [] := va_S.rf
  have hl := lv_entry ([.ref (ad 29)]) (n := 4) (Nat.le_of_ble_eq_true rfl)
  rw [lg_entry_eq]
  generalize (lg_sl ([.ref (ad 29)]) ++ List.replicate (4 - (lg_sl ([.ref (ad 29)])).length) Slot.unset).toArray = ls at hl ⊢
  have hl : lv_has ls 4 [(0, .ref (ad 29))] := hl
  generalize hR : (f_X6_top σ ) = RV
  have hR := hR.symm
  unfold f_X6_top at hR
  obtain ⟨RVv, RVs⟩ := RV
  dsimp only
  obtain ⟨H, hH⟩ : ∃ z, z = s.heap := ⟨_, rfl⟩
  obtain ⟨locs, hlocs⟩ : ∃ z : List Loc, z = [] := ⟨_, rfl⟩
  rw [← hH] at hP
  have hS : va_S A s.heap H locs := by rw [hH, hlocs]; exact hS
  show W _ _ _ _ _ _ _ _ _ _ s.heap [] _ _ _ _
  rw [← hH, ← hlocs]
  clear hlocs
  refine lv_iconst (v := (-1)) hx hb dX6_top_0 (by decide) ?_
  refine lv_istore_n (lv' := [(1, .int (-1)), (0, .ref (ad 29))]) hx hb dX6_top_1 rfl hl (by decide) rfl (fun ls hl => ?_)
  refine lv_iconst (v := 0) hx hb dX6_top_2 (by decide) ?_
  refine lv_istore_n (lv' := [(2, .int 0), (1, .int (-1)), (0, .ref (ad 29))]) hx hb dX6_top_3 rfl hl (by decide) rfl (fun ls hl => ?_)
  have loop_9 : ∀ (n k : Nat) (x1 : Int32) (x2 : Int32), x2 = nI (k) → k ≤ 32 → k + n = 33 → (x1 = (-1) ∨ vp_in x1 32) → (RVv, RVs) = L_X6_top_4 σ  n x1 x2 → ∀ (H : Heap) (locs : List Loc), va_P G vwCl (zw cs ad σ tl) H → va_D A (zw cs ad σ tl) → va_S A s.heap H locs → ∀ ls : Array Slot, lv_has ls 4 [(0, .ref (ad 29)), (1, .int x1), (2, .int x2)] → W p l e (headSpec wsX6_top { frames := 1, cells := 0, slots := 0, locals := 21 }).room s m (List.toArray [.ref (ad 29)]) below meth c H locs 0 0 (MQ below (va_Qi (fun (r : Int32) (_ : Unit) => r = RVv) (fun _ t => zPo G A (zw cs ad RVs tl) t) A) (List.toArray [.ref (ad 29)]) s 0 0 A) (F0 m 4 ls []) := by
    intro n
    induction n with
    | zero => intro k  x1 x2 ex hk hn; omega
    | succ n ih =>
      intro k  x1 x2 ex hk hn hbst hR H locs hP hD hS ls hl
      rw [L_X6_top_4] at hR
      refine lv_iload_n hx hb dX6_top_4 rfl (lv_at hl 2 rfl) ?_
      refine lv_bipush (v := 32) hx hb dX6_top_5 (by decide) ?_
      refine lv_icmp_ge (tgt := 110) hx hb dX6_top_7 (by decide) (fun c_1 => ?_) (fun c_1 => ?_)
      · have hR := hR.trans (if_pos c_1)
        refine lv_aload_n hx hb dX6_top_110 rfl (lv_at hl 0 rfl) ?_
        refine lv_iload_n hx hb dX6_top_111 rfl (lv_at hl 1 rfl) ?_
        refine lv_iconst (v := (-1)) hx hb dX6_top_112 (by decide) ?_
        refine lv_icmp_ne (tgt := 120) hx hb dX6_top_113 (by decide) (fun c_2 => ?_) (fun c_2 => ?_)
        · have hR := hR.trans (if_neg c_2)
          refine lv_iconst (v := 0) hx hb dX6_top_120 (by decide) ?_
          refine va_put (D := G) (ci := 8) (v := .int 0) (ty := .int) (C := RX6) (T := TX6) (N := 29) hx hb hts iX6_top tyX6 tyX6_ok nmX6 hown hE.1 hP hD hS 29 (zg_29 cs ad σ tl) rfl 28 (by decide) (hts (.fieldLink RX6 82 "HandoverDeckModel" "thrown" "I") (by decide +kernel)) (fun _ h9 => h9) rfl (by decide +kernel) rfl rfl (Nat.le_of_ble_eq_true rfl) dX6_top_121 (fun H locs hP hD hS => ?_)
          rw [zb_29_28 cs ad σ tl] at hP hD
          refine lv_aload_n hx hb dX6_top_124 rfl (lv_at hl 0 rfl) ?_
          refine va_get (D := G) (ci := 8) (v := .int 0) (C := RX6) (T := TX6) (N := 29) hx hb hts iX6_top hown hE.1 hP 29 (zg_29 cs ad (zs σ 29 28 0) tl) rfl 28 (by decide) (hts (.fieldLink RX6 82 "HandoverDeckModel" "thrown" "I") (by decide +kernel)) (fun _ h9 => h9) rfl dX6_top_125 ?_
          refine lv_if_ne (tgt := 140) hx hb dX6_top_128 (by decide) (fun c => absurd c (by decide)) (fun _ => ?_)
          refine lv_aload_n hx hb dX6_top_131 rfl (lv_at hl 0 rfl) ?_
          refine va_get (D := G) (ci := 8) (v := .ref (ad 36)) (C := RX6) (T := TX6) (N := 29) hx hb hts iX6_top hown hE.1 hP 29 (zg_29 cs ad (zs σ 29 28 0) tl) rfl 8 (by decide) (hts (.fieldLink RX6 30 "HandoverDeckModel" "alarmLine" "[I") (by decide +kernel)) (fun _ h9 => h9) rfl dX6_top_132 ?_
          refine lv_iload_n hx hb dX6_top_135 rfl (lv_at hl 1 rfl) ?_
          refine z_iald (v := (σ 36 x1.toNatClampNeg)) hx hb hE hP (zg_36 cs ad (zs σ 29 28 0) tl) (hbst.resolve_left c_2) (by rw [zs_ne (k := 29) (k' := 36) (by decide)]) dX6_top_136 ?_
          refine lv_goto (tgt := 141) hx hb dX6_top_137 (by decide) ?_
          obtain ⟨e1, e2⟩ := z2 hR.symm
          subst e1; subst e2
          exact W.iret (v := (σ 36 x1.toNatClampNeg)) hx hb hr (fun t ht hW => ⟨⟨_, (), rfl, rfl, by rw [ht]; exact hP, hD⟩, hS.F ht⟩) hS.2.2 dX6_top_141
        · have hR := hR.trans (if_pos c_2)
          refine lv_iconst (v := 1) hx hb dX6_top_116 (by decide) ?_
          refine lv_goto (tgt := 121) hx hb dX6_top_117 (by decide) ?_
          refine va_put (D := G) (ci := 8) (v := .int 1) (ty := .int) (C := RX6) (T := TX6) (N := 29) hx hb hts iX6_top tyX6 tyX6_ok nmX6 hown hE.1 hP hD hS 29 (zg_29 cs ad σ tl) rfl 28 (by decide) (hts (.fieldLink RX6 82 "HandoverDeckModel" "thrown" "I") (by decide +kernel)) (fun _ h9 => h9) rfl (by decide +kernel) rfl rfl (Nat.le_of_ble_eq_true rfl) dX6_top_121 (fun H locs hP hD hS => ?_)
          rw [zb_29_28 cs ad σ tl] at hP hD
          refine lv_aload_n hx hb dX6_top_124 rfl (lv_at hl 0 rfl) ?_
          refine va_get (D := G) (ci := 8) (v := .int 1) (C := RX6) (T := TX6) (N := 29) hx hb hts iX6_top hown hE.1 hP 29 (zg_29 cs ad (zs σ 29 28 1) tl) rfl 28 (by decide) (hts (.fieldLink RX6 82 "HandoverDeckModel" "thrown" "I") (by decide +kernel)) (fun _ h9 => h9) rfl dX6_top_125 ?_
          refine lv_if_ne (tgt := 140) hx hb dX6_top_128 (by decide) (fun _ => ?_) (fun c => absurd c (by decide))
          refine lv_iconst (v := (-1)) hx hb dX6_top_140 (by decide) ?_
          obtain ⟨e1, e2⟩ := z2 hR.symm
          subst e1; subst e2
          exact W.iret (v := (-1)) hx hb hr (fun t ht hW => ⟨⟨_, (), rfl, rfl, by rw [ht]; exact hP, hD⟩, hS.F ht⟩) hS.2.2 dX6_top_141
      · have hR := hR.trans (if_neg c_1)
        have hkB : k < 32 := zlt ex (by omega) (by decide) c_1
        refine lv_aload_n hx hb dX6_top_10 rfl (lv_at hl 0 rfl) ?_
        refine va_get (D := G) (ci := 8) (v := .ref (ad 36)) (C := RX6) (T := TX6) (N := 29) hx hb hts iX6_top hown hE.1 hP 29 (zg_29 cs ad σ tl) rfl 8 (by decide) (hts (.fieldLink RX6 30 "HandoverDeckModel" "alarmLine" "[I") (by decide +kernel)) (fun _ h9 => h9) rfl dX6_top_11 ?_
        refine lv_iload_n hx hb dX6_top_14 rfl (lv_at hl 2 rfl) ?_
        refine z_iald (v := (σ 36 x2.toNatClampNeg)) hx hb hE hP (zg_36 cs ad σ tl) (by rw [ex]; exact vp_in_nI (by omega) (by decide)) rfl dX6_top_15 ?_
        refine lv_iconst (v := (-1)) hx hb dX6_top_16 (by decide) ?_
        refine lv_icmp_eq (tgt := 104) hx hb dX6_top_17 (by decide) (fun c_3 => ?_) (fun c_3 => ?_)
        · have hR := hR.trans (if_pos c_3)
          refine lv_iinc (v := (x2 + 1)) (lv' := [(2, .int (x2 + 1)), (0, .ref (ad 29)), (1, .int x1)]) hx hb dX6_top_104 hl (k := 2) rfl rfl (by decide) rfl (fun ls hl => ?_)
          refine lv_goto (tgt := 4) hx hb dX6_top_107 (by decide) ?_
          exact ih (k + 1)  x1 (x2 + 1) (by rw [ex]; exact nI_1 _) (by omega) (by omega) (by first | exact hbst | exact Or.inr (by rw [ex]; exact vp_in_nI (by omega) (by decide))) hR H locs hP hD hS ls (lv_sub hl [1, 2, 0] rfl)
        · have hR := hR.trans (if_neg c_3)
          refine lv_aload_n hx hb dX6_top_20 rfl (lv_at hl 0 rfl) ?_
          refine lv_iload_n hx hb dX6_top_21 rfl (lv_at hl 2 rfl) ?_
          refine zai (va_runV (As := [.int x2]) (rest := []) ⟨hx, hb, hml, hown, hts⟩ (c_X6_isShelved l G cs ad tl σ x2 (by rw [ex]; exact vp_in_nI (by omega) (by decide)) H.size) (cwV 1 hts gX6_top_X6_isShelved rfl rfl rfl (by decide +kernel) ⟨Nat.le_of_ble_eq_true rfl, Nat.le_of_ble_eq_true rfl⟩) (zpv hE hP hD hS hA (zg_29 cs ad σ tl) rfl) rfl rfl hl.1 rfl (lv_room (Nat.le_of_ble_eq_true rfl)) dX6_top_22 ⟨Nat.le_of_ble_eq_true rfl, Nat.le_of_ble_eq_true rfl⟩) hD hS hA (fun H locs hP hD hS => ?_)
          refine lv_if_ne (tgt := 104) hx hb dX6_top_25 (by decide) (fun c_4 => ?_) (fun c_4 => ?_)
          · have hR := hR.trans (if_neg c_4)
            refine lv_iinc (v := (x2 + 1)) (lv' := [(2, .int (x2 + 1)), (0, .ref (ad 29)), (1, .int x1)]) hx hb dX6_top_104 hl (k := 2) rfl rfl (by decide) rfl (fun ls hl => ?_)
            refine lv_goto (tgt := 4) hx hb dX6_top_107 (by decide) ?_
            exact ih (k + 1)  x1 (x2 + 1) (by rw [ex]; exact nI_1 _) (by omega) (by omega) (by first | exact hbst | exact Or.inr (by rw [ex]; exact vp_in_nI (by omega) (by decide))) hR H locs hP hD hS ls (lv_sub hl [1, 2, 0] rfl)
          · have hR := hR.trans (if_pos c_4)
            refine lv_iload_n hx hb dX6_top_28 rfl (lv_at hl 1 rfl) ?_
            refine lv_iconst (v := (-1)) hx hb dX6_top_29 (by decide) ?_
            refine lv_icmp_eq (tgt := 48) hx hb dX6_top_30 (by decide) (fun c_5 => ?_) (fun c_5 => ?_)
            · have hR := hR.trans (if_pos c_5)
              refine lv_iconst (v := 1) hx hb dX6_top_48 (by decide) ?_
              refine lv_goto (tgt := 53) hx hb dX6_top_49 (by decide) ?_
              refine lv_istore_n (lv' := [(3, .int 1), (0, .ref (ad 29)), (1, .int x1), (2, .int x2)]) hx hb dX6_top_53 rfl hl (by decide) rfl (fun ls hl => ?_)
              refine lv_iload_n hx hb dX6_top_54 rfl (lv_at hl 0 rfl) ?_
              refine lv_if_ne (tgt := 88) hx hb dX6_top_55 (by decide) (fun _ => ?_) (fun c => absurd c (by decide))
              refine lv_iconst (v := 1) hx hb dX6_top_88 (by decide) ?_
              refine lv_goto (tgt := 93) hx hb dX6_top_89 (by decide) ?_
              refine lv_istore_n (lv' := [(3, .int 1), (0, .ref (ad 29)), (1, .int x1), (2, .int x2)]) hx hb dX6_top_93 rfl hl (by decide) rfl (fun ls hl => ?_)
              refine lv_iload_n hx hb dX6_top_94 rfl (lv_at hl 0 rfl) ?_
              refine lv_if_eq (tgt := 102) hx hb dX6_top_95 (by decide) (fun c => absurd c (by decide)) (fun _ => ?_)
              refine lv_iload_n hx hb dX6_top_98 rfl (lv_at hl 3 rfl) ?_
              refine lv_goto (tgt := 103) hx hb dX6_top_99 (by decide) ?_
              refine lv_istore_n (lv' := [(1, .int x2), (3, .int 1), (0, .ref (ad 29)), (2, .int x2)]) hx hb dX6_top_103 rfl hl (by decide) rfl (fun ls hl => ?_)
              refine lv_iinc (v := (x2 + 1)) (lv' := [(2, .int (x2 + 1)), (1, .int x2), (3, .int 1), (0, .ref (ad 29))]) hx hb dX6_top_104 hl (k := 3) rfl rfl (by decide) rfl (fun ls hl => ?_)
              refine lv_goto (tgt := 4) hx hb dX6_top_107 (by decide) ?_
              exact ih (k + 1)  x2 (x2 + 1) (by rw [ex]; exact nI_1 _) (by omega) (by omega) (by first | exact hbst | exact Or.inr (by rw [ex]; exact vp_in_nI (by omega) (by decide))) hR H locs hP hD hS ls (lv_sub hl [3, 1, 0] rfl)
            · have hR := hR.trans (if_neg c_5)
              refine lv_aload_n hx hb dX6_top_33 rfl (lv_at hl 0 rfl) ?_
              refine va_get (D := G) (ci := 8) (v := .ref (ad 37)) (C := RX6) (T := TX6) (N := 29) hx hb hts iX6_top hown hE.1 hP 29 (zg_29 cs ad σ tl) rfl 9 (by decide) (hts (.fieldLink RX6 33 "HandoverDeckModel" "priority" "[I") (by decide +kernel)) (fun _ h9 => h9) rfl dX6_top_34 ?_
              refine lv_iload_n hx hb dX6_top_37 rfl (lv_at hl 2 rfl) ?_
              refine z_iald (v := (σ 37 x2.toNatClampNeg)) hx hb hE hP (zg_37 cs ad σ tl) (by rw [ex]; exact vp_in_nI (by omega) (by decide)) rfl dX6_top_38 ?_
              refine lv_aload_n hx hb dX6_top_39 rfl (lv_at hl 0 rfl) ?_
              refine va_get (D := G) (ci := 8) (v := .ref (ad 37)) (C := RX6) (T := TX6) (N := 29) hx hb hts iX6_top hown hE.1 hP 29 (zg_29 cs ad σ tl) rfl 9 (by decide) (hts (.fieldLink RX6 33 "HandoverDeckModel" "priority" "[I") (by decide +kernel)) (fun _ h9 => h9) rfl dX6_top_40 ?_
              refine lv_iload_n hx hb dX6_top_43 rfl (lv_at hl 1 rfl) ?_
              refine z_iald (v := (σ 37 x1.toNatClampNeg)) hx hb hE hP (zg_37 cs ad σ tl) (hbst.resolve_left c_5) rfl dX6_top_44 ?_
              refine lv_icmp_le (tgt := 52) hx hb dX6_top_45 (by decide) (fun c_6 => ?_) (fun c_6 => ?_)
              · have hR := hR.trans (if_pos c_6)
                refine lv_iconst (v := 0) hx hb dX6_top_52 (by decide) ?_
                refine lv_istore_n (lv' := [(3, .int 0), (0, .ref (ad 29)), (1, .int x1), (2, .int x2)]) hx hb dX6_top_53 rfl hl (by decide) rfl (fun ls hl => ?_)
                refine lv_iload_n hx hb dX6_top_54 rfl (lv_at hl 0 rfl) ?_
                refine lv_if_ne (tgt := 88) hx hb dX6_top_55 (by decide) (fun c => absurd c (by decide)) (fun _ => ?_)
                refine lv_aload_n hx hb dX6_top_58 rfl (lv_at hl 1 rfl) ?_
                refine va_get (D := G) (ci := 8) (v := .ref (ad 37)) (C := RX6) (T := TX6) (N := 29) hx hb hts iX6_top hown hE.1 hP 29 (zg_29 cs ad σ tl) rfl 9 (by decide) (hts (.fieldLink RX6 33 "HandoverDeckModel" "priority" "[I") (by decide +kernel)) (fun _ h9 => h9) rfl dX6_top_59 ?_
                refine lv_iload_n hx hb dX6_top_62 rfl (lv_at hl 3 rfl) ?_
                refine z_iald (v := (σ 37 x2.toNatClampNeg)) hx hb hE hP (zg_37 cs ad σ tl) (by rw [ex]; exact vp_in_nI (by omega) (by decide)) rfl dX6_top_63 ?_
                refine lv_aload_n hx hb dX6_top_64 rfl (lv_at hl 1 rfl) ?_
                refine va_get (D := G) (ci := 8) (v := .ref (ad 37)) (C := RX6) (T := TX6) (N := 29) hx hb hts iX6_top hown hE.1 hP 29 (zg_29 cs ad σ tl) rfl 9 (by decide) (hts (.fieldLink RX6 33 "HandoverDeckModel" "priority" "[I") (by decide +kernel)) (fun _ h9 => h9) rfl dX6_top_65 ?_
                refine lv_iload_n hx hb dX6_top_68 rfl (lv_at hl 2 rfl) ?_
                refine z_iald (v := (σ 37 x1.toNatClampNeg)) hx hb hE hP (zg_37 cs ad σ tl) (hbst.resolve_left c_5) rfl dX6_top_69 ?_
                refine lv_icmp_ne (tgt := 92) hx hb dX6_top_70 (by decide) (fun c_7 => ?_) (fun c_7 => ?_)
                · have hR := hR.trans (if_neg c_7)
                  refine lv_iconst (v := 0) hx hb dX6_top_92 (by decide) ?_
                  refine lv_istore_n (lv' := [(3, .int 0), (0, .ref (ad 29)), (1, .int x1), (2, .int x2)]) hx hb dX6_top_93 rfl hl (by decide) rfl (fun ls hl => ?_)
                  refine lv_iload_n hx hb dX6_top_94 rfl (lv_at hl 0 rfl) ?_
                  refine lv_if_eq (tgt := 102) hx hb dX6_top_95 (by decide) (fun _ => ?_) (fun c => absurd c (by decide))
                  refine lv_iload_n hx hb dX6_top_102 rfl (lv_at hl 2 rfl) ?_
                  refine lv_istore_n (lv' := [(1, .int x1), (3, .int 0), (0, .ref (ad 29)), (2, .int x2)]) hx hb dX6_top_103 rfl hl (by decide) rfl (fun ls hl => ?_)
                  refine lv_iinc (v := (x2 + 1)) (lv' := [(2, .int (x2 + 1)), (1, .int x1), (3, .int 0), (0, .ref (ad 29))]) hx hb dX6_top_104 hl (k := 3) rfl rfl (by decide) rfl (fun ls hl => ?_)
                  refine lv_goto (tgt := 4) hx hb dX6_top_107 (by decide) ?_
                  exact ih (k + 1)  x1 (x2 + 1) (by rw [ex]; exact nI_1 _) (by omega) (by omega) (by first | exact hbst | exact Or.inr (by rw [ex]; exact vp_in_nI (by omega) (by decide))) hR H locs hP hD hS ls (lv_sub hl [3, 1, 0] rfl)
                · have hR := hR.trans (if_pos c_7)
                  refine lv_aload_n hx hb dX6_top_73 rfl (lv_at hl 1 rfl) ?_
                  refine va_get (D := G) (ci := 8) (v := .ref (ad 36)) (C := RX6) (T := TX6) (N := 29) hx hb hts iX6_top hown hE.1 hP 29 (zg_29 cs ad σ tl) rfl 8 (by decide) (hts (.fieldLink RX6 30 "HandoverDeckModel" "alarmLine" "[I") (by decide +kernel)) (fun _ h9 => h9) rfl dX6_top_74 ?_
                  refine lv_iload_n hx hb dX6_top_77 rfl (lv_at hl 3 rfl) ?_
                  refine z_iald (v := (σ 36 x2.toNatClampNeg)) hx hb hE hP (zg_36 cs ad σ tl) (by rw [ex]; exact vp_in_nI (by omega) (by decide)) rfl dX6_top_78 ?_
                  refine lv_aload_n hx hb dX6_top_79 rfl (lv_at hl 1 rfl) ?_
                  refine va_get (D := G) (ci := 8) (v := .ref (ad 36)) (C := RX6) (T := TX6) (N := 29) hx hb hts iX6_top hown hE.1 hP 29 (zg_29 cs ad σ tl) rfl 8 (by decide) (hts (.fieldLink RX6 30 "HandoverDeckModel" "alarmLine" "[I") (by decide +kernel)) (fun _ h9 => h9) rfl dX6_top_80 ?_
                  refine lv_iload_n hx hb dX6_top_83 rfl (lv_at hl 2 rfl) ?_
                  refine z_iald (v := (σ 36 x1.toNatClampNeg)) hx hb hE hP (zg_36 cs ad σ tl) (hbst.resolve_left c_5) rfl dX6_top_84 ?_
                  refine lv_icmp_ge (tgt := 92) hx hb dX6_top_85 (by decide) (fun c_8 => ?_) (fun c_8 => ?_)
                  · have hR := hR.trans (if_pos c_8)
                    refine lv_iconst (v := 0) hx hb dX6_top_92 (by decide) ?_
                    refine lv_istore_n (lv' := [(3, .int 0), (0, .ref (ad 29)), (1, .int x1), (2, .int x2)]) hx hb dX6_top_93 rfl hl (by decide) rfl (fun ls hl => ?_)
                    refine lv_iload_n hx hb dX6_top_94 rfl (lv_at hl 0 rfl) ?_
                    refine lv_if_eq (tgt := 102) hx hb dX6_top_95 (by decide) (fun _ => ?_) (fun c => absurd c (by decide))
                    refine lv_iload_n hx hb dX6_top_102 rfl (lv_at hl 2 rfl) ?_
                    refine lv_istore_n (lv' := [(1, .int x1), (3, .int 0), (0, .ref (ad 29)), (2, .int x2)]) hx hb dX6_top_103 rfl hl (by decide) rfl (fun ls hl => ?_)
                    refine lv_iinc (v := (x2 + 1)) (lv' := [(2, .int (x2 + 1)), (1, .int x1), (3, .int 0), (0, .ref (ad 29))]) hx hb dX6_top_104 hl (k := 3) rfl rfl (by decide) rfl (fun ls hl => ?_)
                    refine lv_goto (tgt := 4) hx hb dX6_top_107 (by decide) ?_
                    exact ih (k + 1)  x1 (x2 + 1) (by rw [ex]; exact nI_1 _) (by omega) (by omega) (by first | exact hbst | exact Or.inr (by rw [ex]; exact vp_in_nI (by omega) (by decide))) hR H locs hP hD hS ls (lv_sub hl [3, 1, 0] rfl)
                  · have hR := hR.trans (if_neg c_8)
                    refine lv_iconst (v := 1) hx hb dX6_top_88 (by decide) ?_
                    refine lv_goto (tgt := 93) hx hb dX6_top_89 (by decide) ?_
                    refine lv_istore_n (lv' := [(3, .int 1), (0, .ref (ad 29)), (1, .int x1), (2, .int x2)]) hx hb dX6_top_93 rfl hl (by decide) rfl (fun ls hl => ?_)
                    refine lv_iload_n hx hb dX6_top_94 rfl (lv_at hl 0 rfl) ?_
                    refine lv_if_eq (tgt := 102) hx hb dX6_top_95 (by decide) (fun c => absurd c (by decide)) (fun _ => ?_)
                    refine lv_iload_n hx hb dX6_top_98 rfl (lv_at hl 3 rfl) ?_
                    refine lv_goto (tgt := 103) hx hb dX6_top_99 (by decide) ?_
                    refine lv_istore_n (lv' := [(1, .int x2), (3, .int 1), (0, .ref (ad 29)), (2, .int x2)]) hx hb dX6_top_103 rfl hl (by decide) rfl (fun ls hl => ?_)
                    refine lv_iinc (v := (x2 + 1)) (lv' := [(2, .int (x2 + 1)), (1, .int x2), (3, .int 1), (0, .ref (ad 29))]) hx hb dX6_top_104 hl (k := 3) rfl rfl (by decide) rfl (fun ls hl => ?_)
                    refine lv_goto (tgt := 4) hx hb dX6_top_107 (by decide) ?_
                    exact ih (k + 1)  x2 (x2 + 1) (by rw [ex]; exact nI_1 _) (by omega) (by omega) (by first | exact hbst | exact Or.inr (by rw [ex]; exact vp_in_nI (by omega) (by decide))) hR H locs hP hD hS ls (lv_sub hl [3, 1, 0] rfl)
              · have hR := hR.trans (if_neg c_6)
                refine lv_iconst (v := 1) hx hb dX6_top_48 (by decide) ?_
                refine lv_goto (tgt := 53) hx hb dX6_top_49 (by decide) ?_
                refine lv_istore_n (lv' := [(3, .int 1), (0, .ref (ad 29)), (1, .int x1), (2, .int x2)]) hx hb dX6_top_53 rfl hl (by decide) rfl (fun ls hl => ?_)
                refine lv_iload_n hx hb dX6_top_54 rfl (lv_at hl 0 rfl) ?_
                refine lv_if_ne (tgt := 88) hx hb dX6_top_55 (by decide) (fun _ => ?_) (fun c => absurd c (by decide))
                refine lv_iconst (v := 1) hx hb dX6_top_88 (by decide) ?_
                refine lv_goto (tgt := 93) hx hb dX6_top_89 (by decide) ?_
                refine lv_istore_n (lv' := [(3, .int 1), (0, .ref (ad 29)), (1, .int x1), (2, .int x2)]) hx hb dX6_top_93 rfl hl (by decide) rfl (fun ls hl => ?_)
                refine lv_iload_n hx hb dX6_top_94 rfl (lv_at hl 0 rfl) ?_
                refine lv_if_eq (tgt := 102) hx hb dX6_top_95 (by decide) (fun c => absurd c (by decide)) (fun _ => ?_)
                refine lv_iload_n hx hb dX6_top_98 rfl (lv_at hl 3 rfl) ?_
                refine lv_goto (tgt := 103) hx hb dX6_top_99 (by decide) ?_
                refine lv_istore_n (lv' := [(1, .int x2), (3, .int 1), (0, .ref (ad 29)), (2, .int x2)]) hx hb dX6_top_103 rfl hl (by decide) rfl (fun ls hl => ?_)
                refine lv_iinc (v := (x2 + 1)) (lv' := [(2, .int (x2 + 1)), (1, .int x2), (3, .int 1), (0, .ref (ad 29))]) hx hb dX6_top_104 hl (k := 3) rfl rfl (by decide) rfl (fun ls hl => ?_)
                refine lv_goto (tgt := 4) hx hb dX6_top_107 (by decide) ?_
                exact ih (k + 1)  x2 (x2 + 1) (by rw [ex]; exact nI_1 _) (by omega) (by omega) (by first | exact hbst | exact Or.inr (by rw [ex]; exact vp_in_nI (by omega) (by decide))) hR H locs hP hD hS ls (lv_sub hl [3, 1, 0] rfl)
  exact loop_9 33 0  (-1) 0 nI_0.symm (by omega) (by omega) (Or.inl rfl) hR H locs hP hD hS ls (lv_sub hl [2, 1, 0] rfl)
def f_X6_addProcedure (σ : zS)  : Int32 × zS := (if (σ 29 20) = 6 then ((-1), (zs (zs σ 29 28 1) 29 20 ((σ 29 20) + 0))) else ((((σ 29 20) + 1) - 1), (zs (zs σ 29 28 0) 29 20 ((σ 29 20) + 1))))
theorem iX6_addProcedure : ∀ w ∈ u_ws RX6 TX6 29, w ∈ wsX6_addProcedure := by decide +kernel
set_option maxRecDepth 100000 in
theorem c_X6_addProcedure (l : Launch) (G : va_G) (cs : Nat → ClassId) (ad : Nat → Nat) (tl : va_W) (σ : zS)   : zMi l yX6_addProcedure wsX6_addProcedure { frames := 0, cells := 0, slots := 0, locals := 0 } G cs [.ref (ad 29)] (zw cs ad σ tl) (f_X6_addProcedure σ ).1 (zw cs ad (f_X6_addProcedure σ ).2 tl) 0 0 := by
  intro sz
  refine Met.ofW (cc := cX6_addProcedure) (maxL := 1) (ret := (some .int)) (by decide) rfl ?_
  intro p e s m args below meth c s₁ B hml hv
  obtain ⟨rfl, hsz, hP, hD0, hE⟩ := hv
  have hx := B.exec
  have hb := B.bytes
  have hr := B.returns
  have hts := atoms_spec (ws := wsX6_addProcedure) B.pre
  have hown : s.vm.findClass RX6 = some m.cls := findClass_of_methodNamed B.named
  have hlocks := B.notSynchronized
  subst hsz
  have hD := hD0.self (sz := s.heap.size)
  have hA : ∀ q : Nat, s.heap.size ≤ q → (va_A (zw cs ad σ tl) s.heap.size) q := fun q h => Or.inr h
  generalize va_A (zw cs ad σ tl) s.heap.size = A at hD hE hA ⊢
  have hS : va_S A s.heap s.heap [] := va_S.rf
  have hl := lv_entry ([.ref (ad 29)]) (n := 1) (Nat.le_of_ble_eq_true rfl)
  rw [lg_entry_eq]
  generalize (lg_sl ([.ref (ad 29)]) ++ List.replicate (1 - (lg_sl ([.ref (ad 29)])).length) Slot.unset).toArray = ls at hl ⊢
  have hl : lv_has ls 1 [(0, .ref (ad 29))] := hl
  generalize hR : (f_X6_addProcedure σ ) = RV
  have hR := hR.symm
  unfold f_X6_addProcedure at hR
  obtain ⟨RVv, RVs⟩ := RV
  dsimp only
  obtain ⟨H, hH⟩ : ∃ z, z = s.heap := ⟨_, rfl⟩
  obtain ⟨locs, hlocs⟩ : ∃ z : List Loc, z = [] := ⟨_, rfl⟩
  rw [← hH] at hP
  have hS : va_S A s.heap H locs := by rw [hH, hlocs]; exact hS
  show W _ _ _ _ _ _ _ _ _ _ s.heap [] _ _ _ _
  rw [← hH, ← hlocs]
  clear hlocs
  refine lv_aload_n hx hb dX6_addProcedure_0 rfl (lv_at hl 0 rfl) ?_
  refine lv_aload_n hx hb dX6_addProcedure_1 rfl (lv_at hl 0 rfl) ?_
  refine va_get (D := G) (ci := 8) (v := .int (σ 29 20)) (C := RX6) (T := TX6) (N := 29) hx hb hts iX6_addProcedure hown hE.1 hP 29 (zg_29 cs ad σ tl) rfl 20 (by decide) (hts (.fieldLink RX6 118 "HandoverDeckModel" "procedures" "I") (by decide +kernel)) (fun _ h9 => h9) rfl dX6_addProcedure_2 ?_
  refine lv_bipush (v := 6) hx hb dX6_addProcedure_5 (by decide) ?_
  refine lv_icmp_ne (tgt := 14) hx hb dX6_addProcedure_7 (by decide) (fun c_1 => ?_) (fun c_1 => ?_)
  · have hR := hR.trans (if_neg c_1)
    refine lv_iconst (v := 0) hx hb dX6_addProcedure_14 (by decide) ?_
    refine va_put (D := G) (ci := 8) (v := .int 0) (ty := .int) (C := RX6) (T := TX6) (N := 29) hx hb hts iX6_addProcedure tyX6 tyX6_ok nmX6 hown hE.1 hP hD hS 29 (zg_29 cs ad σ tl) rfl 28 (by decide) (hts (.fieldLink RX6 82 "HandoverDeckModel" "thrown" "I") (by decide +kernel)) (fun _ h9 => h9) rfl (by decide +kernel) rfl rfl (Nat.le_of_ble_eq_true rfl) dX6_addProcedure_15 (fun H locs hP hD hS => ?_)
    rw [zb_29_28 cs ad σ tl] at hP hD
    refine lv_aload_n hx hb dX6_addProcedure_18 rfl (lv_at hl 0 rfl) ?_
    refine lv_dup hx hb dX6_addProcedure_19 rfl ?_
    refine va_get (D := G) (ci := 8) (v := .int (σ 29 20)) (C := RX6) (T := TX6) (N := 29) hx hb hts iX6_addProcedure hown hE.1 hP 29 (zg_29 cs ad (zs σ 29 28 0) tl) rfl 20 (by decide) (hts (.fieldLink RX6 118 "HandoverDeckModel" "procedures" "I") (by decide +kernel)) (fun _ h9 => h9) rfl dX6_addProcedure_20 ?_
    refine lv_aload_n hx hb dX6_addProcedure_23 rfl (lv_at hl 0 rfl) ?_
    refine va_get (D := G) (ci := 8) (v := .int 0) (C := RX6) (T := TX6) (N := 29) hx hb hts iX6_addProcedure hown hE.1 hP 29 (zg_29 cs ad (zs σ 29 28 0) tl) rfl 28 (by decide) (hts (.fieldLink RX6 82 "HandoverDeckModel" "thrown" "I") (by decide +kernel)) (fun _ h9 => h9) rfl dX6_addProcedure_24 ?_
    refine lv_if_ne (tgt := 34) hx hb dX6_addProcedure_27 (by decide) (fun c => absurd c (by decide)) (fun _ => ?_)
    refine lv_iconst (v := 1) hx hb dX6_addProcedure_30 (by decide) ?_
    refine lv_goto (tgt := 35) hx hb dX6_addProcedure_31 (by decide) ?_
    refine lv_iadd hx hb dX6_addProcedure_35 ?_
    refine va_put (D := G) (ci := 8) (v := .int ((σ 29 20) + 1)) (ty := .int) (C := RX6) (T := TX6) (N := 29) hx hb hts iX6_addProcedure tyX6 tyX6_ok nmX6 hown hE.1 hP hD hS 29 (zg_29 cs ad (zs σ 29 28 0) tl) rfl 20 (by decide) (hts (.fieldLink RX6 118 "HandoverDeckModel" "procedures" "I") (by decide +kernel)) (fun _ h9 => h9) rfl (by decide +kernel) rfl rfl (Nat.le_of_ble_eq_true rfl) dX6_addProcedure_36 (fun H locs hP hD hS => ?_)
    rw [zb_29_20 cs ad (zs σ 29 28 0) tl] at hP hD
    refine lv_aload_n hx hb dX6_addProcedure_39 rfl (lv_at hl 0 rfl) ?_
    refine va_get (D := G) (ci := 8) (v := .int 0) (C := RX6) (T := TX6) (N := 29) hx hb hts iX6_addProcedure hown hE.1 hP 29 (zg_29 cs ad (zs (zs σ 29 28 0) 29 20 ((σ 29 20) + 1)) tl) rfl 28 (by decide) (hts (.fieldLink RX6 82 "HandoverDeckModel" "thrown" "I") (by decide +kernel)) (fun _ h9 => h9) rfl dX6_addProcedure_40 ?_
    refine lv_if_ne (tgt := 55) hx hb dX6_addProcedure_43 (by decide) (fun c => absurd c (by decide)) (fun _ => ?_)
    refine lv_aload_n hx hb dX6_addProcedure_46 rfl (lv_at hl 0 rfl) ?_
    refine va_get (D := G) (ci := 8) (v := .int ((σ 29 20) + 1)) (C := RX6) (T := TX6) (N := 29) hx hb hts iX6_addProcedure hown hE.1 hP 29 (zg_29 cs ad (zs (zs σ 29 28 0) 29 20 ((σ 29 20) + 1)) tl) rfl 20 (by decide) (hts (.fieldLink RX6 118 "HandoverDeckModel" "procedures" "I") (by decide +kernel)) (fun _ h9 => h9) rfl dX6_addProcedure_47 ?_
    refine lv_iconst (v := 1) hx hb dX6_addProcedure_50 (by decide) ?_
    refine lv_isub hx hb dX6_addProcedure_51 ?_
    refine lv_goto (tgt := 56) hx hb dX6_addProcedure_52 (by decide) ?_
    obtain ⟨e1, e2⟩ := z2 hR.symm
    subst e1; subst e2
    exact W.iret (v := (((σ 29 20) + 1) - 1)) hx hb hr (fun t ht hW => ⟨⟨_, (), rfl, rfl, by rw [ht]; exact hP, hD⟩, hS.F ht⟩) hS.2.2 dX6_addProcedure_56
  · have hR := hR.trans (if_pos c_1)
    refine lv_iconst (v := 1) hx hb dX6_addProcedure_10 (by decide) ?_
    refine lv_goto (tgt := 15) hx hb dX6_addProcedure_11 (by decide) ?_
    refine va_put (D := G) (ci := 8) (v := .int 1) (ty := .int) (C := RX6) (T := TX6) (N := 29) hx hb hts iX6_addProcedure tyX6 tyX6_ok nmX6 hown hE.1 hP hD hS 29 (zg_29 cs ad σ tl) rfl 28 (by decide) (hts (.fieldLink RX6 82 "HandoverDeckModel" "thrown" "I") (by decide +kernel)) (fun _ h9 => h9) rfl (by decide +kernel) rfl rfl (Nat.le_of_ble_eq_true rfl) dX6_addProcedure_15 (fun H locs hP hD hS => ?_)
    rw [zb_29_28 cs ad σ tl] at hP hD
    refine lv_aload_n hx hb dX6_addProcedure_18 rfl (lv_at hl 0 rfl) ?_
    refine lv_dup hx hb dX6_addProcedure_19 rfl ?_
    refine va_get (D := G) (ci := 8) (v := .int (σ 29 20)) (C := RX6) (T := TX6) (N := 29) hx hb hts iX6_addProcedure hown hE.1 hP 29 (zg_29 cs ad (zs σ 29 28 1) tl) rfl 20 (by decide) (hts (.fieldLink RX6 118 "HandoverDeckModel" "procedures" "I") (by decide +kernel)) (fun _ h9 => h9) rfl dX6_addProcedure_20 ?_
    refine lv_aload_n hx hb dX6_addProcedure_23 rfl (lv_at hl 0 rfl) ?_
    refine va_get (D := G) (ci := 8) (v := .int 1) (C := RX6) (T := TX6) (N := 29) hx hb hts iX6_addProcedure hown hE.1 hP 29 (zg_29 cs ad (zs σ 29 28 1) tl) rfl 28 (by decide) (hts (.fieldLink RX6 82 "HandoverDeckModel" "thrown" "I") (by decide +kernel)) (fun _ h9 => h9) rfl dX6_addProcedure_24 ?_
    refine lv_if_ne (tgt := 34) hx hb dX6_addProcedure_27 (by decide) (fun _ => ?_) (fun c => absurd c (by decide))
    refine lv_iconst (v := 0) hx hb dX6_addProcedure_34 (by decide) ?_
    refine lv_iadd hx hb dX6_addProcedure_35 ?_
    refine va_put (D := G) (ci := 8) (v := .int ((σ 29 20) + 0)) (ty := .int) (C := RX6) (T := TX6) (N := 29) hx hb hts iX6_addProcedure tyX6 tyX6_ok nmX6 hown hE.1 hP hD hS 29 (zg_29 cs ad (zs σ 29 28 1) tl) rfl 20 (by decide) (hts (.fieldLink RX6 118 "HandoverDeckModel" "procedures" "I") (by decide +kernel)) (fun _ h9 => h9) rfl (by decide +kernel) rfl rfl (Nat.le_of_ble_eq_true rfl) dX6_addProcedure_36 (fun H locs hP hD hS => ?_)
    rw [zb_29_20 cs ad (zs σ 29 28 1) tl] at hP hD
    refine lv_aload_n hx hb dX6_addProcedure_39 rfl (lv_at hl 0 rfl) ?_
    refine va_get (D := G) (ci := 8) (v := .int 1) (C := RX6) (T := TX6) (N := 29) hx hb hts iX6_addProcedure hown hE.1 hP 29 (zg_29 cs ad (zs (zs σ 29 28 1) 29 20 ((σ 29 20) + 0)) tl) rfl 28 (by decide) (hts (.fieldLink RX6 82 "HandoverDeckModel" "thrown" "I") (by decide +kernel)) (fun _ h9 => h9) rfl dX6_addProcedure_40 ?_
    refine lv_if_ne (tgt := 55) hx hb dX6_addProcedure_43 (by decide) (fun _ => ?_) (fun c => absurd c (by decide))
    refine lv_iconst (v := (-1)) hx hb dX6_addProcedure_55 (by decide) ?_
    obtain ⟨e1, e2⟩ := z2 hR.symm
    subst e1; subst e2
    exact W.iret (v := (-1)) hx hb hr (fun t ht hW => ⟨⟨_, (), rfl, rfl, by rw [ht]; exact hP, hD⟩, hS.F ht⟩) hS.2.2 dX6_addProcedure_56
def f_X6_addStep (σ : zS) (a1 : Int32) (a2 : Int32) (a3 : Int32) (a4 : Int32) (a5 : Int32) : Int32 × zS := (if (f_X6_isProcedure σ a1) = 0 then ((-1), (zs σ 29 28 1)) else (if (f_X6_isUnit a2) = 0 then ((-1), (zs σ 29 28 2)) else (if (f_X6_isUnit a4) = 0 then ((-1), (zs σ 29 28 2)) else (if (f_X6_in a3.toInt64 0 3) = 0 then ((-1), (zs σ 29 28 3)) else (if (f_X6_in a5.toInt64 0 3) = 0 then ((-1), (zs σ 29 28 3)) else (if (σ 46 a1.toNatClampNeg) = 8 then ((-1), (zs σ 29 28 4)) else ((((zs (zs (zs (zs (zs (zs (zs (zs σ 29 28 0) 39 ((8 * a1) + (σ 46 a1.toNatClampNeg)).toNatClampNeg a2) 40 ((8 * a1) + (σ 46 a1.toNatClampNeg)).toNatClampNeg a3) 41 ((8 * a1) + (σ 46 a1.toNatClampNeg)).toNatClampNeg a4) 42 ((8 * a1) + (σ 46 a1.toNatClampNeg)).toNatClampNeg a5) 44 ((8 * a1) + (σ 46 a1.toNatClampNeg)).toNatClampNeg (-1)) 45 ((8 * a1) + (σ 46 a1.toNatClampNeg)).toNatClampNeg (-1)) 46 a1.toNatClampNeg ((σ 46 a1.toNatClampNeg) + 1)) 46 a1.toNatClampNeg) - 1), (zs (zs (zs (zs (zs (zs (zs (zs σ 29 28 0) 39 ((8 * a1) + (σ 46 a1.toNatClampNeg)).toNatClampNeg a2) 40 ((8 * a1) + (σ 46 a1.toNatClampNeg)).toNatClampNeg a3) 41 ((8 * a1) + (σ 46 a1.toNatClampNeg)).toNatClampNeg a4) 42 ((8 * a1) + (σ 46 a1.toNatClampNeg)).toNatClampNeg a5) 44 ((8 * a1) + (σ 46 a1.toNatClampNeg)).toNatClampNeg (-1)) 45 ((8 * a1) + (σ 46 a1.toNatClampNeg)).toNatClampNeg (-1)) 46 a1.toNatClampNeg ((σ 46 a1.toNatClampNeg) + 1)))))))))
theorem iX6_addStep : ∀ w ∈ u_ws RX6 TX6 29, w ∈ wsX6_addStep := by decide +kernel
set_option maxRecDepth 100000 in
theorem c_X6_addStep (l : Launch) (G : va_G) (cs : Nat → ClassId) (ad : Nat → Nat) (tl : va_W) (σ : zS) (a1 : Int32) (a2 : Int32) (a3 : Int32) (a4 : Int32) (a5 : Int32) (hI : zI σ) : zMi l yX6_addStep wsX6_addStep { frames := 2, cells := 0, slots := 0, locals := 46 } G cs [.ref (ad 29), .int a1, .int a2, .int a3, .int a4, .int a5] (zw cs ad σ tl) (f_X6_addStep σ a1 a2 a3 a4 a5).1 (zw cs ad (f_X6_addStep σ a1 a2 a3 a4 a5).2 tl) 0 0 := by
  intro sz
  refine Met.ofW (cc := cX6_addStep) (maxL := 8) (ret := (some .int)) (by decide) rfl ?_
  intro p e s m args below meth c s₁ B hml hv
  obtain ⟨rfl, hsz, hP, hD0, hE⟩ := hv
  have hx := B.exec
  have hb := B.bytes
  have hr := B.returns
  have hts := atoms_spec (ws := wsX6_addStep) B.pre
  have hown : s.vm.findClass RX6 = some m.cls := findClass_of_methodNamed B.named
  have hlocks := B.notSynchronized
  subst hsz
  have hD := hD0.self (sz := s.heap.size)
  have hA : ∀ q : Nat, s.heap.size ≤ q → (va_A (zw cs ad σ tl) s.heap.size) q := fun q h => Or.inr h
  generalize va_A (zw cs ad σ tl) s.heap.size = A at hD hE hA ⊢
  have hS : va_S A s.heap s.heap [] := va_S.rf
  have hl := lv_entry ([.ref (ad 29), .int a1, .int a2, .int a3, .int a4, .int a5]) (n := 8) (Nat.le_of_ble_eq_true rfl)
  rw [lg_entry_eq]
  generalize (lg_sl ([.ref (ad 29), .int a1, .int a2, .int a3, .int a4, .int a5]) ++ List.replicate (8 - (lg_sl ([.ref (ad 29), .int a1, .int a2, .int a3, .int a4, .int a5])).length) Slot.unset).toArray = ls at hl ⊢
  have hl : lv_has ls 8 [(0, .ref (ad 29)), (1, .int a1), (2, .int a2), (3, .int a3), (4, .int a4), (5, .int a5)] := hl
  generalize hR : (f_X6_addStep σ a1 a2 a3 a4 a5) = RV
  have hR := hR.symm
  unfold f_X6_addStep at hR
  obtain ⟨RVv, RVs⟩ := RV
  dsimp only
  obtain ⟨H, hH⟩ : ∃ z, z = s.heap := ⟨_, rfl⟩
  obtain ⟨locs, hlocs⟩ : ∃ z : List Loc, z = [] := ⟨_, rfl⟩
  rw [← hH] at hP
  have hS : va_S A s.heap H locs := by rw [hH, hlocs]; exact hS
  show W _ _ _ _ _ _ _ _ _ _ s.heap [] _ _ _ _
  rw [← hH, ← hlocs]
  clear hlocs
  refine lv_aload_n hx hb dX6_addStep_0 rfl (lv_at hl 0 rfl) ?_
  refine lv_iload_n hx hb dX6_addStep_1 rfl (lv_at hl 1 rfl) ?_
  refine zai (va_runV (As := [.int a1]) (rest := []) ⟨hx, hb, hml, hown, hts⟩ (c_X6_isProcedure l G cs ad tl σ a1  H.size) (cwV 1 hts gX6_addStep_X6_isProcedure rfl rfl rfl (by decide +kernel) ⟨Nat.le_of_ble_eq_true rfl, Nat.le_of_ble_eq_true rfl⟩) (zpv hE hP hD hS hA (zg_29 cs ad σ tl) rfl) rfl rfl hl.1 rfl (lv_room (Nat.le_of_ble_eq_true rfl)) dX6_addStep_2 ⟨Nat.le_of_ble_eq_true rfl, Nat.le_of_ble_eq_true rfl⟩) hD hS hA (fun H locs hP hD hS => ?_)
  refine lv_if_eq (tgt := 23) hx hb dX6_addStep_5 (by decide) (fun c_1 => ?_) (fun c_1 => ?_)
  · have hR := hR.trans (if_pos c_1)
    refine lv_aload_n hx hb dX6_addStep_23 rfl (lv_at hl 0 rfl) ?_
    refine lv_aload_n hx hb dX6_addStep_24 rfl (lv_at hl 0 rfl) ?_
    refine lv_iload_n hx hb dX6_addStep_25 rfl (lv_at hl 1 rfl) ?_
    refine zai (va_runV (As := [.int a1]) (rest := [.ref (ad 29)]) ⟨hx, hb, hml, hown, hts⟩ (c_X6_isProcedure l G cs ad tl σ a1  H.size) (cwV 1 hts gX6_addStep_X6_isProcedure rfl rfl rfl (by decide +kernel) ⟨Nat.le_of_ble_eq_true rfl, Nat.le_of_ble_eq_true rfl⟩) (zpv hE hP hD hS hA (zg_29 cs ad σ tl) rfl) rfl rfl hl.1 rfl (lv_room (Nat.le_of_ble_eq_true rfl)) dX6_addStep_26 ⟨Nat.le_of_ble_eq_true rfl, Nat.le_of_ble_eq_true rfl⟩) hD hS hA (fun H locs hP hD hS => ?_)
    refine lv_if_ne (tgt := 36) hx hb dX6_addStep_29 (by decide) (fun c => absurd c_1 c) (fun _ => ?_)
    refine lv_iconst (v := 1) hx hb dX6_addStep_32 (by decide) ?_
    refine lv_goto (tgt := 37) hx hb dX6_addStep_33 (by decide) ?_
    refine va_put (D := G) (ci := 8) (v := .int 1) (ty := .int) (C := RX6) (T := TX6) (N := 29) hx hb hts iX6_addStep tyX6 tyX6_ok nmX6 hown hE.1 hP hD hS 29 (zg_29 cs ad σ tl) rfl 28 (by decide) (hts (.fieldLink RX6 82 "HandoverDeckModel" "thrown" "I") (by decide +kernel)) (fun _ h9 => h9) rfl (by decide +kernel) rfl rfl (Nat.le_of_ble_eq_true rfl) dX6_addStep_37 (fun H locs hP hD hS => ?_)
    rw [zb_29_28 cs ad σ tl] at hP hD
    refine lv_iconst (v := (-1)) hx hb dX6_addStep_40 (by decide) ?_
    obtain ⟨e1, e2⟩ := z2 hR.symm
    subst e1; subst e2
    exact W.iret (v := (-1)) hx hb hr (fun t ht hW => ⟨⟨_, (), rfl, rfl, by rw [ht]; exact hP, hD⟩, hS.F ht⟩) hS.2.2 dX6_addStep_41
  · have hR := hR.trans (if_neg c_1)
    refine lv_iload_n hx hb dX6_addStep_8 rfl (lv_at hl 2 rfl) ?_
    refine zai (va_runS (As := [.int a2]) (rest := []) ⟨hx, hb, hml, hown, hts⟩ (c_X6_isUnit l G cs ad tl σ a2  H.size) (va_cwS 1 hts gX6_addStep_X6_isUnit rfl rfl rfl (by decide +kernel) ⟨Nat.le_of_ble_eq_true rfl, Nat.le_of_ble_eq_true rfl⟩) (zps hE hP hD hS hA) rfl rfl hl.1 rfl (lv_room (Nat.le_of_ble_eq_true rfl)) dX6_addStep_9 ⟨Nat.le_of_ble_eq_true rfl, Nat.le_of_ble_eq_true rfl⟩) hD hS hA (fun H locs hP hD hS => ?_)
    refine lv_if_eq (tgt := 23) hx hb dX6_addStep_12 (by decide) (fun c_2 => ?_) (fun c_2 => ?_)
    · have hR := hR.trans (if_pos c_2)
      refine lv_aload_n hx hb dX6_addStep_23 rfl (lv_at hl 0 rfl) ?_
      refine lv_aload_n hx hb dX6_addStep_24 rfl (lv_at hl 0 rfl) ?_
      refine lv_iload_n hx hb dX6_addStep_25 rfl (lv_at hl 1 rfl) ?_
      refine zai (va_runV (As := [.int a1]) (rest := [.ref (ad 29)]) ⟨hx, hb, hml, hown, hts⟩ (c_X6_isProcedure l G cs ad tl σ a1  H.size) (cwV 1 hts gX6_addStep_X6_isProcedure rfl rfl rfl (by decide +kernel) ⟨Nat.le_of_ble_eq_true rfl, Nat.le_of_ble_eq_true rfl⟩) (zpv hE hP hD hS hA (zg_29 cs ad σ tl) rfl) rfl rfl hl.1 rfl (lv_room (Nat.le_of_ble_eq_true rfl)) dX6_addStep_26 ⟨Nat.le_of_ble_eq_true rfl, Nat.le_of_ble_eq_true rfl⟩) hD hS hA (fun H locs hP hD hS => ?_)
      refine lv_if_ne (tgt := 36) hx hb dX6_addStep_29 (by decide) (fun _ => ?_) (fun c => absurd c c_1)
      refine lv_iconst (v := 2) hx hb dX6_addStep_36 (by decide) ?_
      refine va_put (D := G) (ci := 8) (v := .int 2) (ty := .int) (C := RX6) (T := TX6) (N := 29) hx hb hts iX6_addStep tyX6 tyX6_ok nmX6 hown hE.1 hP hD hS 29 (zg_29 cs ad σ tl) rfl 28 (by decide) (hts (.fieldLink RX6 82 "HandoverDeckModel" "thrown" "I") (by decide +kernel)) (fun _ h9 => h9) rfl (by decide +kernel) rfl rfl (Nat.le_of_ble_eq_true rfl) dX6_addStep_37 (fun H locs hP hD hS => ?_)
      rw [zb_29_28 cs ad σ tl] at hP hD
      refine lv_iconst (v := (-1)) hx hb dX6_addStep_40 (by decide) ?_
      obtain ⟨e1, e2⟩ := z2 hR.symm
      subst e1; subst e2
      exact W.iret (v := (-1)) hx hb hr (fun t ht hW => ⟨⟨_, (), rfl, rfl, by rw [ht]; exact hP, hD⟩, hS.F ht⟩) hS.2.2 dX6_addStep_41
    · have hR := hR.trans (if_neg c_2)
      refine lv_iload hx hb dX6_addStep_15 (lv_at hl 4 rfl) ?_
      refine zai (va_runS (As := [.int a4]) (rest := []) ⟨hx, hb, hml, hown, hts⟩ (c_X6_isUnit l G cs ad tl σ a4  H.size) (va_cwS 1 hts gX6_addStep_X6_isUnit rfl rfl rfl (by decide +kernel) ⟨Nat.le_of_ble_eq_true rfl, Nat.le_of_ble_eq_true rfl⟩) (zps hE hP hD hS hA) rfl rfl hl.1 rfl (lv_room (Nat.le_of_ble_eq_true rfl)) dX6_addStep_17 ⟨Nat.le_of_ble_eq_true rfl, Nat.le_of_ble_eq_true rfl⟩) hD hS hA (fun H locs hP hD hS => ?_)
      refine lv_if_ne (tgt := 42) hx hb dX6_addStep_20 (by decide) (fun c_3 => ?_) (fun c_3 => ?_)
      · have hR := hR.trans (if_neg c_3)
        refine lv_iload_n hx hb dX6_addStep_42 rfl (lv_at hl 3 rfl) ?_
        refine lv_i2l (v := a3.toInt64) hx hb dX6_addStep_43 rfl ?_
        refine lv_lconst (v := 0) hx hb dX6_addStep_44 (by decide) ?_
        refine lv_ldc2 (v := 3) hx hb hown (hts (.constantLong RX6 101 3) (by decide +kernel)) dX6_addStep_45 ?_
        refine zai (va_runS (As := [.long a3.toInt64, .long 0, .long 3]) (rest := []) ⟨hx, hb, hml, hown, hts⟩ (c_X6_in l G cs ad tl σ a3.toInt64 0 3  H.size) (va_cwS 3 hts gX6_addStep_X6_in rfl rfl rfl (by decide +kernel) ⟨Nat.le_of_ble_eq_true rfl, Nat.le_of_ble_eq_true rfl⟩) (zps hE hP hD hS hA) rfl rfl hl.1 rfl (lv_room (Nat.le_of_ble_eq_true rfl)) dX6_addStep_48 ⟨Nat.le_of_ble_eq_true rfl, Nat.le_of_ble_eq_true rfl⟩) hD hS hA (fun H locs hP hD hS => ?_)
        refine lv_if_eq (tgt := 71) hx hb dX6_addStep_51 (by decide) (fun c_4 => ?_) (fun c_4 => ?_)
        · have hR := hR.trans (if_pos c_4)
          refine lv_iconst (v := 0) hx hb dX6_addStep_71 (by decide) ?_
          refine lv_istore (lv' := [(6, .int 0), (0, .ref (ad 29)), (1, .int a1), (2, .int a2), (3, .int a3), (4, .int a4), (5, .int a5)]) hx hb dX6_addStep_72 hl (by decide) rfl (fun ls hl => ?_)
          refine lv_aload_n hx hb dX6_addStep_74 rfl (lv_at hl 1 rfl) ?_
          refine lv_iload hx hb dX6_addStep_75 (lv_at hl 0 rfl) ?_
          refine lv_if_ne (tgt := 84) hx hb dX6_addStep_77 (by decide) (fun c => absurd c (by decide)) (fun _ => ?_)
          refine lv_iconst (v := 3) hx hb dX6_addStep_80 (by decide) ?_
          refine lv_goto (tgt := 100) hx hb dX6_addStep_81 (by decide) ?_
          refine va_put (D := G) (ci := 8) (v := .int 3) (ty := .int) (C := RX6) (T := TX6) (N := 29) hx hb hts iX6_addStep tyX6 tyX6_ok nmX6 hown hE.1 hP hD hS 29 (zg_29 cs ad σ tl) rfl 28 (by decide) (hts (.fieldLink RX6 82 "HandoverDeckModel" "thrown" "I") (by decide +kernel)) (fun _ h9 => h9) rfl (by decide +kernel) rfl rfl (Nat.le_of_ble_eq_true rfl) dX6_addStep_100 (fun H locs hP hD hS => ?_)
          rw [zb_29_28 cs ad σ tl] at hP hD
          refine lv_aload_n hx hb dX6_addStep_103 rfl (lv_at hl 1 rfl) ?_
          refine va_get (D := G) (ci := 8) (v := .int 3) (C := RX6) (T := TX6) (N := 29) hx hb hts iX6_addStep hown hE.1 hP 29 (zg_29 cs ad (zs σ 29 28 3) tl) rfl 28 (by decide) (hts (.fieldLink RX6 82 "HandoverDeckModel" "thrown" "I") (by decide +kernel)) (fun _ h9 => h9) rfl dX6_addStep_104 ?_
          refine lv_if_le (tgt := 112) hx hb dX6_addStep_107 (by decide) (fun c => absurd c (by decide)) (fun _ => ?_)
          refine lv_iconst (v := (-1)) hx hb dX6_addStep_110 (by decide) ?_
          obtain ⟨e1, e2⟩ := z2 hR.symm
          subst e1; subst e2
          exact W.iret (v := (-1)) hx hb hr (fun t ht hW => ⟨⟨_, (), rfl, rfl, by rw [ht]; exact hP, hD⟩, hS.F ht⟩) hS.2.2 dX6_addStep_111
        · have hR := hR.trans (if_neg c_4)
          refine lv_iload hx hb dX6_addStep_54 (lv_at hl 5 rfl) ?_
          refine lv_i2l (v := a5.toInt64) hx hb dX6_addStep_56 rfl ?_
          refine lv_lconst (v := 0) hx hb dX6_addStep_57 (by decide) ?_
          refine lv_ldc2 (v := 3) hx hb hown (hts (.constantLong RX6 101 3) (by decide +kernel)) dX6_addStep_58 ?_
          refine zai (va_runS (As := [.long a5.toInt64, .long 0, .long 3]) (rest := []) ⟨hx, hb, hml, hown, hts⟩ (c_X6_in l G cs ad tl σ a5.toInt64 0 3  H.size) (va_cwS 3 hts gX6_addStep_X6_in rfl rfl rfl (by decide +kernel) ⟨Nat.le_of_ble_eq_true rfl, Nat.le_of_ble_eq_true rfl⟩) (zps hE hP hD hS hA) rfl rfl hl.1 rfl (lv_room (Nat.le_of_ble_eq_true rfl)) dX6_addStep_61 ⟨Nat.le_of_ble_eq_true rfl, Nat.le_of_ble_eq_true rfl⟩) hD hS hA (fun H locs hP hD hS => ?_)
          refine lv_if_eq (tgt := 71) hx hb dX6_addStep_64 (by decide) (fun c_5 => ?_) (fun c_5 => ?_)
          · have hR := hR.trans (if_pos c_5)
            refine lv_iconst (v := 0) hx hb dX6_addStep_71 (by decide) ?_
            refine lv_istore (lv' := [(6, .int 0), (0, .ref (ad 29)), (1, .int a1), (2, .int a2), (3, .int a3), (4, .int a4), (5, .int a5)]) hx hb dX6_addStep_72 hl (by decide) rfl (fun ls hl => ?_)
            refine lv_aload_n hx hb dX6_addStep_74 rfl (lv_at hl 1 rfl) ?_
            refine lv_iload hx hb dX6_addStep_75 (lv_at hl 0 rfl) ?_
            refine lv_if_ne (tgt := 84) hx hb dX6_addStep_77 (by decide) (fun c => absurd c (by decide)) (fun _ => ?_)
            refine lv_iconst (v := 3) hx hb dX6_addStep_80 (by decide) ?_
            refine lv_goto (tgt := 100) hx hb dX6_addStep_81 (by decide) ?_
            refine va_put (D := G) (ci := 8) (v := .int 3) (ty := .int) (C := RX6) (T := TX6) (N := 29) hx hb hts iX6_addStep tyX6 tyX6_ok nmX6 hown hE.1 hP hD hS 29 (zg_29 cs ad σ tl) rfl 28 (by decide) (hts (.fieldLink RX6 82 "HandoverDeckModel" "thrown" "I") (by decide +kernel)) (fun _ h9 => h9) rfl (by decide +kernel) rfl rfl (Nat.le_of_ble_eq_true rfl) dX6_addStep_100 (fun H locs hP hD hS => ?_)
            rw [zb_29_28 cs ad σ tl] at hP hD
            refine lv_aload_n hx hb dX6_addStep_103 rfl (lv_at hl 1 rfl) ?_
            refine va_get (D := G) (ci := 8) (v := .int 3) (C := RX6) (T := TX6) (N := 29) hx hb hts iX6_addStep hown hE.1 hP 29 (zg_29 cs ad (zs σ 29 28 3) tl) rfl 28 (by decide) (hts (.fieldLink RX6 82 "HandoverDeckModel" "thrown" "I") (by decide +kernel)) (fun _ h9 => h9) rfl dX6_addStep_104 ?_
            refine lv_if_le (tgt := 112) hx hb dX6_addStep_107 (by decide) (fun c => absurd c (by decide)) (fun _ => ?_)
            refine lv_iconst (v := (-1)) hx hb dX6_addStep_110 (by decide) ?_
            obtain ⟨e1, e2⟩ := z2 hR.symm
            subst e1; subst e2
            exact W.iret (v := (-1)) hx hb hr (fun t ht hW => ⟨⟨_, (), rfl, rfl, by rw [ht]; exact hP, hD⟩, hS.F ht⟩) hS.2.2 dX6_addStep_111
          · have hR := hR.trans (if_neg c_5)
            refine lv_iconst (v := 1) hx hb dX6_addStep_67 (by decide) ?_
            refine lv_goto (tgt := 72) hx hb dX6_addStep_68 (by decide) ?_
            refine lv_istore (lv' := [(6, .int 1), (0, .ref (ad 29)), (1, .int a1), (2, .int a2), (3, .int a3), (4, .int a4), (5, .int a5)]) hx hb dX6_addStep_72 hl (by decide) rfl (fun ls hl => ?_)
            refine lv_aload_n hx hb dX6_addStep_74 rfl (lv_at hl 1 rfl) ?_
            refine lv_iload hx hb dX6_addStep_75 (lv_at hl 0 rfl) ?_
            refine lv_if_ne (tgt := 84) hx hb dX6_addStep_77 (by decide) (fun _ => ?_) (fun c => absurd c (by decide))
            refine lv_aload_n hx hb dX6_addStep_84 rfl (lv_at hl 1 rfl) ?_
            refine va_get (D := G) (ci := 8) (v := .ref (ad 46)) (C := RX6) (T := TX6) (N := 29) hx hb hts iX6_addStep hown hE.1 hP 29 (zg_29 cs ad σ tl) rfl 18 (by decide) (hts (.fieldLink RX6 60 "HandoverDeckModel" "stepsOf" "[I") (by decide +kernel)) (fun _ h9 => h9) rfl dX6_addStep_85 ?_
            refine lv_iload_n hx hb dX6_addStep_88 rfl (lv_at hl 2 rfl) ?_
            refine z_iald (v := (σ 46 a1.toNatClampNeg)) hx hb hE hP (zg_46 cs ad σ tl) (vin_X6_isProcedure hI c_1) rfl dX6_addStep_89 ?_
            refine lv_bipush (v := 8) hx hb dX6_addStep_90 (by decide) ?_
            refine lv_icmp_ne (tgt := 99) hx hb dX6_addStep_92 (by decide) (fun c_6 => ?_) (fun c_6 => ?_)
            · have hR := hR.trans (if_neg c_6)
              refine lv_iconst (v := 0) hx hb dX6_addStep_99 (by decide) ?_
              refine va_put (D := G) (ci := 8) (v := .int 0) (ty := .int) (C := RX6) (T := TX6) (N := 29) hx hb hts iX6_addStep tyX6 tyX6_ok nmX6 hown hE.1 hP hD hS 29 (zg_29 cs ad σ tl) rfl 28 (by decide) (hts (.fieldLink RX6 82 "HandoverDeckModel" "thrown" "I") (by decide +kernel)) (fun _ h9 => h9) rfl (by decide +kernel) rfl rfl (Nat.le_of_ble_eq_true rfl) dX6_addStep_100 (fun H locs hP hD hS => ?_)
              rw [zb_29_28 cs ad σ tl] at hP hD
              refine lv_aload_n hx hb dX6_addStep_103 rfl (lv_at hl 1 rfl) ?_
              refine va_get (D := G) (ci := 8) (v := .int 0) (C := RX6) (T := TX6) (N := 29) hx hb hts iX6_addStep hown hE.1 hP 29 (zg_29 cs ad (zs σ 29 28 0) tl) rfl 28 (by decide) (hts (.fieldLink RX6 82 "HandoverDeckModel" "thrown" "I") (by decide +kernel)) (fun _ h9 => h9) rfl dX6_addStep_104 ?_
              refine lv_if_le (tgt := 112) hx hb dX6_addStep_107 (by decide) (fun _ => ?_) (fun c => absurd c (by decide))
              refine lv_bipush (v := 8) hx hb dX6_addStep_112 (by decide) ?_
              refine lv_iload_n hx hb dX6_addStep_114 rfl (lv_at hl 2 rfl) ?_
              refine lv_imul hx hb dX6_addStep_115 ?_
              refine lv_aload_n hx hb dX6_addStep_116 rfl (lv_at hl 1 rfl) ?_
              refine va_get (D := G) (ci := 8) (v := .ref (ad 46)) (C := RX6) (T := TX6) (N := 29) hx hb hts iX6_addStep hown hE.1 hP 29 (zg_29 cs ad (zs σ 29 28 0) tl) rfl 18 (by decide) (hts (.fieldLink RX6 60 "HandoverDeckModel" "stepsOf" "[I") (by decide +kernel)) (fun _ h9 => h9) rfl dX6_addStep_117 ?_
              refine lv_iload_n hx hb dX6_addStep_120 rfl (lv_at hl 2 rfl) ?_
              refine z_iald (v := (σ 46 a1.toNatClampNeg)) hx hb hE hP (zg_46 cs ad (zs σ 29 28 0) tl) (vin_X6_isProcedure hI c_1) (by rw [zs_ne (k := 29) (k' := 46) (by decide)]) dX6_addStep_121 ?_
              refine lv_iadd hx hb dX6_addStep_122 ?_
              refine lv_istore (lv' := [(7, .int ((8 * a1) + (σ 46 a1.toNatClampNeg))), (6, .int 1), (0, .ref (ad 29)), (1, .int a1), (2, .int a2), (3, .int a3), (4, .int a4), (5, .int a5)]) hx hb dX6_addStep_123 hl (by decide) rfl (fun ls hl => ?_)
              refine lv_aload_n hx hb dX6_addStep_125 rfl (lv_at hl 2 rfl) ?_
              refine va_get (D := G) (ci := 8) (v := .ref (ad 39)) (C := RX6) (T := TX6) (N := 29) hx hb hts iX6_addStep hown hE.1 hP 29 (zg_29 cs ad (zs σ 29 28 0) tl) rfl 11 (by decide) (hts (.fieldLink RX6 39 "HandoverDeckModel" "needUnit" "[I") (by decide +kernel)) (fun _ h9 => h9) rfl dX6_addStep_126 ?_
              refine lv_iload hx hb dX6_addStep_129 (lv_at hl 0 rfl) ?_
              refine lv_iload_n hx hb dX6_addStep_131 rfl (lv_at hl 4 rfl) ?_
              refine z_iast hx hb hE hP hD hS (zg_39 cs ad (zs σ 29 28 0) tl) (zb_39 cs ad (zs σ 29 28 0) tl) (vi_stepidx hI (vin_X6_isProcedure hI c_1) c_6) dX6_addStep_132 (fun H locs hP hD hS => ?_)
              refine lv_aload_n hx hb dX6_addStep_133 rfl (lv_at hl 2 rfl) ?_
              refine va_get (D := G) (ci := 8) (v := .ref (ad 40)) (C := RX6) (T := TX6) (N := 29) hx hb hts iX6_addStep hown hE.1 hP 29 (zg_29 cs ad (zs (zs σ 29 28 0) 39 ((8 * a1) + (σ 46 a1.toNatClampNeg)).toNatClampNeg a2) tl) rfl 12 (by decide) (hts (.fieldLink RX6 42 "HandoverDeckModel" "needState" "[I") (by decide +kernel)) (fun _ h9 => h9) rfl dX6_addStep_134 ?_
              refine lv_iload hx hb dX6_addStep_137 (lv_at hl 0 rfl) ?_
              refine lv_iload_n hx hb dX6_addStep_139 rfl (lv_at hl 5 rfl) ?_
              refine z_iast hx hb hE hP hD hS (zg_40 cs ad (zs (zs σ 29 28 0) 39 ((8 * a1) + (σ 46 a1.toNatClampNeg)).toNatClampNeg a2) tl) (zb_40 cs ad (zs (zs σ 29 28 0) 39 ((8 * a1) + (σ 46 a1.toNatClampNeg)).toNatClampNeg a2) tl) (vi_stepidx hI (vin_X6_isProcedure hI c_1) c_6) dX6_addStep_140 (fun H locs hP hD hS => ?_)
              refine lv_aload_n hx hb dX6_addStep_141 rfl (lv_at hl 2 rfl) ?_
              refine va_get (D := G) (ci := 8) (v := .ref (ad 41)) (C := RX6) (T := TX6) (N := 29) hx hb hts iX6_addStep hown hE.1 hP 29 (zg_29 cs ad (zs (zs (zs σ 29 28 0) 39 ((8 * a1) + (σ 46 a1.toNatClampNeg)).toNatClampNeg a2) 40 ((8 * a1) + (σ 46 a1.toNatClampNeg)).toNatClampNeg a3) tl) rfl 13 (by decide) (hts (.fieldLink RX6 45 "HandoverDeckModel" "setUnit" "[I") (by decide +kernel)) (fun _ h9 => h9) rfl dX6_addStep_142 ?_
              refine lv_iload hx hb dX6_addStep_145 (lv_at hl 0 rfl) ?_
              refine lv_iload hx hb dX6_addStep_147 (lv_at hl 6 rfl) ?_
              refine z_iast hx hb hE hP hD hS (zg_41 cs ad (zs (zs (zs σ 29 28 0) 39 ((8 * a1) + (σ 46 a1.toNatClampNeg)).toNatClampNeg a2) 40 ((8 * a1) + (σ 46 a1.toNatClampNeg)).toNatClampNeg a3) tl) (zb_41 cs ad (zs (zs (zs σ 29 28 0) 39 ((8 * a1) + (σ 46 a1.toNatClampNeg)).toNatClampNeg a2) 40 ((8 * a1) + (σ 46 a1.toNatClampNeg)).toNatClampNeg a3) tl) (vi_stepidx hI (vin_X6_isProcedure hI c_1) c_6) dX6_addStep_149 (fun H locs hP hD hS => ?_)
              refine lv_aload_n hx hb dX6_addStep_150 rfl (lv_at hl 2 rfl) ?_
              refine va_get (D := G) (ci := 8) (v := .ref (ad 42)) (C := RX6) (T := TX6) (N := 29) hx hb hts iX6_addStep hown hE.1 hP 29 (zg_29 cs ad (zs (zs (zs (zs σ 29 28 0) 39 ((8 * a1) + (σ 46 a1.toNatClampNeg)).toNatClampNeg a2) 40 ((8 * a1) + (σ 46 a1.toNatClampNeg)).toNatClampNeg a3) 41 ((8 * a1) + (σ 46 a1.toNatClampNeg)).toNatClampNeg a4) tl) rfl 14 (by decide) (hts (.fieldLink RX6 48 "HandoverDeckModel" "setState" "[I") (by decide +kernel)) (fun _ h9 => h9) rfl dX6_addStep_151 ?_
              refine lv_iload hx hb dX6_addStep_154 (lv_at hl 0 rfl) ?_
              refine lv_iload hx hb dX6_addStep_156 (lv_at hl 7 rfl) ?_
              refine z_iast hx hb hE hP hD hS (zg_42 cs ad (zs (zs (zs (zs σ 29 28 0) 39 ((8 * a1) + (σ 46 a1.toNatClampNeg)).toNatClampNeg a2) 40 ((8 * a1) + (σ 46 a1.toNatClampNeg)).toNatClampNeg a3) 41 ((8 * a1) + (σ 46 a1.toNatClampNeg)).toNatClampNeg a4) tl) (zb_42 cs ad (zs (zs (zs (zs σ 29 28 0) 39 ((8 * a1) + (σ 46 a1.toNatClampNeg)).toNatClampNeg a2) 40 ((8 * a1) + (σ 46 a1.toNatClampNeg)).toNatClampNeg a3) 41 ((8 * a1) + (σ 46 a1.toNatClampNeg)).toNatClampNeg a4) tl) (vi_stepidx hI (vin_X6_isProcedure hI c_1) c_6) dX6_addStep_158 (fun H locs hP hD hS => ?_)
              refine lv_aload_n hx hb dX6_addStep_159 rfl (lv_at hl 2 rfl) ?_
              refine va_get (D := G) (ci := 8) (v := .ref (ad 44)) (C := RX6) (T := TX6) (N := 29) hx hb hts iX6_addStep hown hE.1 hP 29 (zg_29 cs ad (zs (zs (zs (zs (zs σ 29 28 0) 39 ((8 * a1) + (σ 46 a1.toNatClampNeg)).toNatClampNeg a2) 40 ((8 * a1) + (σ 46 a1.toNatClampNeg)).toNatClampNeg a3) 41 ((8 * a1) + (σ 46 a1.toNatClampNeg)).toNatClampNeg a4) 42 ((8 * a1) + (σ 46 a1.toNatClampNeg)).toNatClampNeg a5) tl) rfl 16 (by decide) (hts (.fieldLink RX6 54 "HandoverDeckModel" "takenAt" "[I") (by decide +kernel)) (fun _ h9 => h9) rfl dX6_addStep_160 ?_
              refine lv_iload hx hb dX6_addStep_163 (lv_at hl 0 rfl) ?_
              refine lv_iconst (v := (-1)) hx hb dX6_addStep_165 (by decide) ?_
              refine z_iast hx hb hE hP hD hS (zg_44 cs ad (zs (zs (zs (zs (zs σ 29 28 0) 39 ((8 * a1) + (σ 46 a1.toNatClampNeg)).toNatClampNeg a2) 40 ((8 * a1) + (σ 46 a1.toNatClampNeg)).toNatClampNeg a3) 41 ((8 * a1) + (σ 46 a1.toNatClampNeg)).toNatClampNeg a4) 42 ((8 * a1) + (σ 46 a1.toNatClampNeg)).toNatClampNeg a5) tl) (zb_44 cs ad (zs (zs (zs (zs (zs σ 29 28 0) 39 ((8 * a1) + (σ 46 a1.toNatClampNeg)).toNatClampNeg a2) 40 ((8 * a1) + (σ 46 a1.toNatClampNeg)).toNatClampNeg a3) 41 ((8 * a1) + (σ 46 a1.toNatClampNeg)).toNatClampNeg a4) 42 ((8 * a1) + (σ 46 a1.toNatClampNeg)).toNatClampNeg a5) tl) (vi_stepidx hI (vin_X6_isProcedure hI c_1) c_6) dX6_addStep_166 (fun H locs hP hD hS => ?_)
              refine lv_aload_n hx hb dX6_addStep_167 rfl (lv_at hl 2 rfl) ?_
              refine va_get (D := G) (ci := 8) (v := .ref (ad 45)) (C := RX6) (T := TX6) (N := 29) hx hb hts iX6_addStep hown hE.1 hP 29 (zg_29 cs ad (zs (zs (zs (zs (zs (zs σ 29 28 0) 39 ((8 * a1) + (σ 46 a1.toNatClampNeg)).toNatClampNeg a2) 40 ((8 * a1) + (σ 46 a1.toNatClampNeg)).toNatClampNeg a3) 41 ((8 * a1) + (σ 46 a1.toNatClampNeg)).toNatClampNeg a4) 42 ((8 * a1) + (σ 46 a1.toNatClampNeg)).toNatClampNeg a5) 44 ((8 * a1) + (σ 46 a1.toNatClampNeg)).toNatClampNeg (-1)) tl) rfl 17 (by decide) (hts (.fieldLink RX6 57 "HandoverDeckModel" "undoneLine" "[I") (by decide +kernel)) (fun _ h9 => h9) rfl dX6_addStep_168 ?_
              refine lv_iload hx hb dX6_addStep_171 (lv_at hl 0 rfl) ?_
              refine lv_iconst (v := (-1)) hx hb dX6_addStep_173 (by decide) ?_
              refine z_iast hx hb hE hP hD hS (zg_45 cs ad (zs (zs (zs (zs (zs (zs σ 29 28 0) 39 ((8 * a1) + (σ 46 a1.toNatClampNeg)).toNatClampNeg a2) 40 ((8 * a1) + (σ 46 a1.toNatClampNeg)).toNatClampNeg a3) 41 ((8 * a1) + (σ 46 a1.toNatClampNeg)).toNatClampNeg a4) 42 ((8 * a1) + (σ 46 a1.toNatClampNeg)).toNatClampNeg a5) 44 ((8 * a1) + (σ 46 a1.toNatClampNeg)).toNatClampNeg (-1)) tl) (zb_45 cs ad (zs (zs (zs (zs (zs (zs σ 29 28 0) 39 ((8 * a1) + (σ 46 a1.toNatClampNeg)).toNatClampNeg a2) 40 ((8 * a1) + (σ 46 a1.toNatClampNeg)).toNatClampNeg a3) 41 ((8 * a1) + (σ 46 a1.toNatClampNeg)).toNatClampNeg a4) 42 ((8 * a1) + (σ 46 a1.toNatClampNeg)).toNatClampNeg a5) 44 ((8 * a1) + (σ 46 a1.toNatClampNeg)).toNatClampNeg (-1)) tl) (vi_stepidx hI (vin_X6_isProcedure hI c_1) c_6) dX6_addStep_174 (fun H locs hP hD hS => ?_)
              refine lv_aload_n hx hb dX6_addStep_175 rfl (lv_at hl 2 rfl) ?_
              refine va_get (D := G) (ci := 8) (v := .ref (ad 46)) (C := RX6) (T := TX6) (N := 29) hx hb hts iX6_addStep hown hE.1 hP 29 (zg_29 cs ad (zs (zs (zs (zs (zs (zs (zs σ 29 28 0) 39 ((8 * a1) + (σ 46 a1.toNatClampNeg)).toNatClampNeg a2) 40 ((8 * a1) + (σ 46 a1.toNatClampNeg)).toNatClampNeg a3) 41 ((8 * a1) + (σ 46 a1.toNatClampNeg)).toNatClampNeg a4) 42 ((8 * a1) + (σ 46 a1.toNatClampNeg)).toNatClampNeg a5) 44 ((8 * a1) + (σ 46 a1.toNatClampNeg)).toNatClampNeg (-1)) 45 ((8 * a1) + (σ 46 a1.toNatClampNeg)).toNatClampNeg (-1)) tl) rfl 18 (by decide) (hts (.fieldLink RX6 60 "HandoverDeckModel" "stepsOf" "[I") (by decide +kernel)) (fun _ h9 => h9) rfl dX6_addStep_176 ?_
              refine lv_iload_n hx hb dX6_addStep_179 rfl (lv_at hl 3 rfl) ?_
              refine lv_dup2_11 hx hb dX6_addStep_180 rfl rfl ?_
              refine z_iald (v := (σ 46 a1.toNatClampNeg)) hx hb hE hP (zg_46 cs ad (zs (zs (zs (zs (zs (zs (zs σ 29 28 0) 39 ((8 * a1) + (σ 46 a1.toNatClampNeg)).toNatClampNeg a2) 40 ((8 * a1) + (σ 46 a1.toNatClampNeg)).toNatClampNeg a3) 41 ((8 * a1) + (σ 46 a1.toNatClampNeg)).toNatClampNeg a4) 42 ((8 * a1) + (σ 46 a1.toNatClampNeg)).toNatClampNeg a5) 44 ((8 * a1) + (σ 46 a1.toNatClampNeg)).toNatClampNeg (-1)) 45 ((8 * a1) + (σ 46 a1.toNatClampNeg)).toNatClampNeg (-1)) tl) (vin_X6_isProcedure hI c_1) (by rw [zs_ne (k := 45) (k' := 46) (by decide), zs_ne (k := 44) (k' := 46) (by decide), zs_ne (k := 42) (k' := 46) (by decide), zs_ne (k := 41) (k' := 46) (by decide), zs_ne (k := 40) (k' := 46) (by decide), zs_ne (k := 39) (k' := 46) (by decide), zs_ne (k := 29) (k' := 46) (by decide)]) dX6_addStep_181 ?_
              refine lv_iconst (v := 1) hx hb dX6_addStep_182 (by decide) ?_
              refine lv_iadd hx hb dX6_addStep_183 ?_
              refine z_iast hx hb hE hP hD hS (zg_46 cs ad (zs (zs (zs (zs (zs (zs (zs σ 29 28 0) 39 ((8 * a1) + (σ 46 a1.toNatClampNeg)).toNatClampNeg a2) 40 ((8 * a1) + (σ 46 a1.toNatClampNeg)).toNatClampNeg a3) 41 ((8 * a1) + (σ 46 a1.toNatClampNeg)).toNatClampNeg a4) 42 ((8 * a1) + (σ 46 a1.toNatClampNeg)).toNatClampNeg a5) 44 ((8 * a1) + (σ 46 a1.toNatClampNeg)).toNatClampNeg (-1)) 45 ((8 * a1) + (σ 46 a1.toNatClampNeg)).toNatClampNeg (-1)) tl) (zb_46 cs ad (zs (zs (zs (zs (zs (zs (zs σ 29 28 0) 39 ((8 * a1) + (σ 46 a1.toNatClampNeg)).toNatClampNeg a2) 40 ((8 * a1) + (σ 46 a1.toNatClampNeg)).toNatClampNeg a3) 41 ((8 * a1) + (σ 46 a1.toNatClampNeg)).toNatClampNeg a4) 42 ((8 * a1) + (σ 46 a1.toNatClampNeg)).toNatClampNeg a5) 44 ((8 * a1) + (σ 46 a1.toNatClampNeg)).toNatClampNeg (-1)) 45 ((8 * a1) + (σ 46 a1.toNatClampNeg)).toNatClampNeg (-1)) tl) (vin_X6_isProcedure hI c_1) dX6_addStep_184 (fun H locs hP hD hS => ?_)
              refine lv_aload_n hx hb dX6_addStep_185 rfl (lv_at hl 2 rfl) ?_
              refine va_get (D := G) (ci := 8) (v := .ref (ad 46)) (C := RX6) (T := TX6) (N := 29) hx hb hts iX6_addStep hown hE.1 hP 29 (zg_29 cs ad (zs (zs (zs (zs (zs (zs (zs (zs σ 29 28 0) 39 ((8 * a1) + (σ 46 a1.toNatClampNeg)).toNatClampNeg a2) 40 ((8 * a1) + (σ 46 a1.toNatClampNeg)).toNatClampNeg a3) 41 ((8 * a1) + (σ 46 a1.toNatClampNeg)).toNatClampNeg a4) 42 ((8 * a1) + (σ 46 a1.toNatClampNeg)).toNatClampNeg a5) 44 ((8 * a1) + (σ 46 a1.toNatClampNeg)).toNatClampNeg (-1)) 45 ((8 * a1) + (σ 46 a1.toNatClampNeg)).toNatClampNeg (-1)) 46 a1.toNatClampNeg ((σ 46 a1.toNatClampNeg) + 1)) tl) rfl 18 (by decide) (hts (.fieldLink RX6 60 "HandoverDeckModel" "stepsOf" "[I") (by decide +kernel)) (fun _ h9 => h9) rfl dX6_addStep_186 ?_
              refine lv_iload_n hx hb dX6_addStep_189 rfl (lv_at hl 3 rfl) ?_
              refine z_iald (v := ((zs (zs (zs (zs (zs (zs (zs (zs σ 29 28 0) 39 ((8 * a1) + (σ 46 a1.toNatClampNeg)).toNatClampNeg a2) 40 ((8 * a1) + (σ 46 a1.toNatClampNeg)).toNatClampNeg a3) 41 ((8 * a1) + (σ 46 a1.toNatClampNeg)).toNatClampNeg a4) 42 ((8 * a1) + (σ 46 a1.toNatClampNeg)).toNatClampNeg a5) 44 ((8 * a1) + (σ 46 a1.toNatClampNeg)).toNatClampNeg (-1)) 45 ((8 * a1) + (σ 46 a1.toNatClampNeg)).toNatClampNeg (-1)) 46 a1.toNatClampNeg ((σ 46 a1.toNatClampNeg) + 1)) 46 a1.toNatClampNeg)) hx hb hE hP (zg_46 cs ad (zs (zs (zs (zs (zs (zs (zs (zs σ 29 28 0) 39 ((8 * a1) + (σ 46 a1.toNatClampNeg)).toNatClampNeg a2) 40 ((8 * a1) + (σ 46 a1.toNatClampNeg)).toNatClampNeg a3) 41 ((8 * a1) + (σ 46 a1.toNatClampNeg)).toNatClampNeg a4) 42 ((8 * a1) + (σ 46 a1.toNatClampNeg)).toNatClampNeg a5) 44 ((8 * a1) + (σ 46 a1.toNatClampNeg)).toNatClampNeg (-1)) 45 ((8 * a1) + (σ 46 a1.toNatClampNeg)).toNatClampNeg (-1)) 46 a1.toNatClampNeg ((σ 46 a1.toNatClampNeg) + 1)) tl) (vin_X6_isProcedure hI c_1) rfl dX6_addStep_190 ?_
              refine lv_iconst (v := 1) hx hb dX6_addStep_191 (by decide) ?_
              refine lv_isub hx hb dX6_addStep_192 ?_
              obtain ⟨e1, e2⟩ := z2 hR.symm
              subst e1; subst e2
              exact W.iret (v := (((zs (zs (zs (zs (zs (zs (zs (zs σ 29 28 0) 39 ((8 * a1) + (σ 46 a1.toNatClampNeg)).toNatClampNeg a2) 40 ((8 * a1) + (σ 46 a1.toNatClampNeg)).toNatClampNeg a3) 41 ((8 * a1) + (σ 46 a1.toNatClampNeg)).toNatClampNeg a4) 42 ((8 * a1) + (σ 46 a1.toNatClampNeg)).toNatClampNeg a5) 44 ((8 * a1) + (σ 46 a1.toNatClampNeg)).toNatClampNeg (-1)) 45 ((8 * a1) + (σ 46 a1.toNatClampNeg)).toNatClampNeg (-1)) 46 a1.toNatClampNeg ((σ 46 a1.toNatClampNeg) + 1)) 46 a1.toNatClampNeg) - 1)) hx hb hr (fun t ht hW => ⟨⟨_, (), rfl, rfl, by rw [ht]; exact hP, hD⟩, hS.F ht⟩) hS.2.2 dX6_addStep_193
            · have hR := hR.trans (if_pos c_6)
              refine lv_iconst (v := 4) hx hb dX6_addStep_95 (by decide) ?_
              refine lv_goto (tgt := 100) hx hb dX6_addStep_96 (by decide) ?_
              refine va_put (D := G) (ci := 8) (v := .int 4) (ty := .int) (C := RX6) (T := TX6) (N := 29) hx hb hts iX6_addStep tyX6 tyX6_ok nmX6 hown hE.1 hP hD hS 29 (zg_29 cs ad σ tl) rfl 28 (by decide) (hts (.fieldLink RX6 82 "HandoverDeckModel" "thrown" "I") (by decide +kernel)) (fun _ h9 => h9) rfl (by decide +kernel) rfl rfl (Nat.le_of_ble_eq_true rfl) dX6_addStep_100 (fun H locs hP hD hS => ?_)
              rw [zb_29_28 cs ad σ tl] at hP hD
              refine lv_aload_n hx hb dX6_addStep_103 rfl (lv_at hl 1 rfl) ?_
              refine va_get (D := G) (ci := 8) (v := .int 4) (C := RX6) (T := TX6) (N := 29) hx hb hts iX6_addStep hown hE.1 hP 29 (zg_29 cs ad (zs σ 29 28 4) tl) rfl 28 (by decide) (hts (.fieldLink RX6 82 "HandoverDeckModel" "thrown" "I") (by decide +kernel)) (fun _ h9 => h9) rfl dX6_addStep_104 ?_
              refine lv_if_le (tgt := 112) hx hb dX6_addStep_107 (by decide) (fun c => absurd c (by decide)) (fun _ => ?_)
              refine lv_iconst (v := (-1)) hx hb dX6_addStep_110 (by decide) ?_
              obtain ⟨e1, e2⟩ := z2 hR.symm
              subst e1; subst e2
              exact W.iret (v := (-1)) hx hb hr (fun t ht hW => ⟨⟨_, (), rfl, rfl, by rw [ht]; exact hP, hD⟩, hS.F ht⟩) hS.2.2 dX6_addStep_111
      · have hR := hR.trans (if_pos c_3)
        refine lv_aload_n hx hb dX6_addStep_23 rfl (lv_at hl 0 rfl) ?_
        refine lv_aload_n hx hb dX6_addStep_24 rfl (lv_at hl 0 rfl) ?_
        refine lv_iload_n hx hb dX6_addStep_25 rfl (lv_at hl 1 rfl) ?_
        refine zai (va_runV (As := [.int a1]) (rest := [.ref (ad 29)]) ⟨hx, hb, hml, hown, hts⟩ (c_X6_isProcedure l G cs ad tl σ a1  H.size) (cwV 1 hts gX6_addStep_X6_isProcedure rfl rfl rfl (by decide +kernel) ⟨Nat.le_of_ble_eq_true rfl, Nat.le_of_ble_eq_true rfl⟩) (zpv hE hP hD hS hA (zg_29 cs ad σ tl) rfl) rfl rfl hl.1 rfl (lv_room (Nat.le_of_ble_eq_true rfl)) dX6_addStep_26 ⟨Nat.le_of_ble_eq_true rfl, Nat.le_of_ble_eq_true rfl⟩) hD hS hA (fun H locs hP hD hS => ?_)
        refine lv_if_ne (tgt := 36) hx hb dX6_addStep_29 (by decide) (fun _ => ?_) (fun c => absurd c c_1)
        refine lv_iconst (v := 2) hx hb dX6_addStep_36 (by decide) ?_
        refine va_put (D := G) (ci := 8) (v := .int 2) (ty := .int) (C := RX6) (T := TX6) (N := 29) hx hb hts iX6_addStep tyX6 tyX6_ok nmX6 hown hE.1 hP hD hS 29 (zg_29 cs ad σ tl) rfl 28 (by decide) (hts (.fieldLink RX6 82 "HandoverDeckModel" "thrown" "I") (by decide +kernel)) (fun _ h9 => h9) rfl (by decide +kernel) rfl rfl (Nat.le_of_ble_eq_true rfl) dX6_addStep_37 (fun H locs hP hD hS => ?_)
        rw [zb_29_28 cs ad σ tl] at hP hD
        refine lv_iconst (v := (-1)) hx hb dX6_addStep_40 (by decide) ?_
        obtain ⟨e1, e2⟩ := z2 hR.symm
        subst e1; subst e2
        exact W.iret (v := (-1)) hx hb hr (fun t ht hW => ⟨⟨_, (), rfl, rfl, by rw [ht]; exact hP, hD⟩, hS.F ht⟩) hS.2.2 dX6_addStep_41
def f_X6_done (σ : zS) (a1 : Int32) : Int32 × zS := (if (f_X6_asks σ a1).1 = 0 then ((-1), (f_X6_asks σ a1).2) else (((f_X6_asks σ a1).2 47 a1.toNatClampNeg), (f_X6_asks σ a1).2))
theorem iX6_done : ∀ w ∈ u_ws RX6 TX6 29, w ∈ wsX6_done := by decide +kernel
set_option maxRecDepth 100000 in
theorem c_X6_done (l : Launch) (G : va_G) (cs : Nat → ClassId) (ad : Nat → Nat) (tl : va_W) (σ : zS) (a1 : Int32) (hI : zI σ) : zMi l yX6_done wsX6_done { frames := 3, cells := 0, slots := 0, locals := 67 } G cs [.ref (ad 29), .int a1] (zw cs ad σ tl) (f_X6_done σ a1).1 (zw cs ad (f_X6_done σ a1).2 tl) 0 0 := by
  intro sz
  refine Met.ofW (cc := cX6_done) (maxL := 2) (ret := (some .int)) (by decide) rfl ?_
  intro p e s m args below meth c s₁ B hml hv
  obtain ⟨rfl, hsz, hP, hD0, hE⟩ := hv
  have hx := B.exec
  have hb := B.bytes
  have hr := B.returns
  have hts := atoms_spec (ws := wsX6_done) B.pre
  have hown : s.vm.findClass RX6 = some m.cls := findClass_of_methodNamed B.named
  have hlocks := B.notSynchronized
  subst hsz
  have hD := hD0.self (sz := s.heap.size)
  have hA : ∀ q : Nat, s.heap.size ≤ q → (va_A (zw cs ad σ tl) s.heap.size) q := fun q h => Or.inr h
  generalize va_A (zw cs ad σ tl) s.heap.size = A at hD hE hA ⊢
  have hS : va_S A s.heap s.heap [] := va_S.rf
  have hl := lv_entry ([.ref (ad 29), .int a1]) (n := 2) (Nat.le_of_ble_eq_true rfl)
  rw [lg_entry_eq]
  generalize (lg_sl ([.ref (ad 29), .int a1]) ++ List.replicate (2 - (lg_sl ([.ref (ad 29), .int a1])).length) Slot.unset).toArray = ls at hl ⊢
  have hl : lv_has ls 2 [(0, .ref (ad 29)), (1, .int a1)] := hl
  generalize hR : (f_X6_done σ a1) = RV
  have hR := hR.symm
  unfold f_X6_done at hR
  obtain ⟨RVv, RVs⟩ := RV
  dsimp only
  obtain ⟨H, hH⟩ : ∃ z, z = s.heap := ⟨_, rfl⟩
  obtain ⟨locs, hlocs⟩ : ∃ z : List Loc, z = [] := ⟨_, rfl⟩
  rw [← hH] at hP
  have hS : va_S A s.heap H locs := by rw [hH, hlocs]; exact hS
  show W _ _ _ _ _ _ _ _ _ _ s.heap [] _ _ _ _
  rw [← hH, ← hlocs]
  clear hlocs
  refine lv_aload_n hx hb dX6_done_0 rfl (lv_at hl 0 rfl) ?_
  refine lv_iload_n hx hb dX6_done_1 rfl (lv_at hl 1 rfl) ?_
  refine zai (va_runV (As := [.int a1]) (rest := []) ⟨hx, hb, hml, hown, hts⟩ (c_X6_asks l G cs ad tl σ a1  H.size) (cwV 1 hts gX6_done_X6_asks rfl rfl rfl (by decide +kernel) ⟨Nat.le_of_ble_eq_true rfl, Nat.le_of_ble_eq_true rfl⟩) (zpv hE hP hD hS hA (zg_29 cs ad σ tl) rfl) rfl rfl hl.1 rfl (lv_room (Nat.le_of_ble_eq_true rfl)) dX6_done_2 ⟨Nat.le_of_ble_eq_true rfl, Nat.le_of_ble_eq_true rfl⟩) hD hS hA (fun H locs hP hD hS => ?_)
  refine lv_if_eq (tgt := 17) hx hb dX6_done_5 (by decide) (fun c_1 => ?_) (fun c_1 => ?_)
  · have hR := hR.trans (if_pos c_1)
    refine lv_iconst (v := (-1)) hx hb dX6_done_17 (by decide) ?_
    obtain ⟨e1, e2⟩ := z2 hR.symm
    subst e1; subst e2
    exact W.iret (v := (-1)) hx hb hr (fun t ht hW => ⟨⟨_, (), rfl, rfl, by rw [ht]; exact hP, hD⟩, hS.F ht⟩) hS.2.2 dX6_done_18
  · have hR := hR.trans (if_neg c_1)
    refine lv_aload_n hx hb dX6_done_8 rfl (lv_at hl 0 rfl) ?_
    refine va_get (D := G) (ci := 8) (v := .ref (ad 47)) (C := RX6) (T := TX6) (N := 29) hx hb hts iX6_done hown hE.1 hP 29 (zg_29 cs ad (f_X6_asks σ a1).2 tl) rfl 19 (by decide) (hts (.fieldLink RX6 63 "HandoverDeckModel" "doneOf" "[I") (by decide +kernel)) (fun _ h9 => h9) rfl dX6_done_9 ?_
    refine lv_iload_n hx hb dX6_done_12 rfl (lv_at hl 1 rfl) ?_
    refine z_iald (v := ((f_X6_asks σ a1).2 47 a1.toNatClampNeg)) hx hb hE hP (zg_47 cs ad (f_X6_asks σ a1).2 tl) (vin_X6_asks hI c_1) rfl dX6_done_13 ?_
    refine lv_goto (tgt := 18) hx hb dX6_done_14 (by decide) ?_
    obtain ⟨e1, e2⟩ := z2 hR.symm
    subst e1; subst e2
    exact W.iret (v := ((f_X6_asks σ a1).2 47 a1.toNatClampNeg)) hx hb hr (fun t ht hW => ⟨⟨_, (), rfl, rfl, by rw [ht]; exact hP, hD⟩, hS.F ht⟩) hS.2.2 dX6_done_18
def f_X6_reason (σ : zS) (a1 : Int32) : Int32 × zS := (if (f_X6_asks σ a1).1 = 0 then (32, (f_X6_asks σ a1).2) else ((f_X6_reasonOf (f_X6_asks σ a1).2 a1), (f_X6_asks σ a1).2))
set_option maxRecDepth 100000 in
theorem c_X6_reason (l : Launch) (G : va_G) (cs : Nat → ClassId) (ad : Nat → Nat) (tl : va_W) (σ : zS) (a1 : Int32) (hI : zI σ) : zMi l yX6_reason wsX6_reason { frames := 3, cells := 0, slots := 0, locals := 67 } G cs [.ref (ad 29), .int a1] (zw cs ad σ tl) (f_X6_reason σ a1).1 (zw cs ad (f_X6_reason σ a1).2 tl) 0 0 := by
  intro sz
  refine Met.ofW (cc := cX6_reason) (maxL := 2) (ret := (some .char)) (by decide) rfl ?_
  intro p e s m args below meth c s₁ B hml hv
  obtain ⟨rfl, hsz, hP, hD0, hE⟩ := hv
  have hx := B.exec
  have hb := B.bytes
  have hr := B.returns
  have hts := atoms_spec (ws := wsX6_reason) B.pre
  have hown : s.vm.findClass RX6 = some m.cls := findClass_of_methodNamed B.named
  have hlocks := B.notSynchronized
  subst hsz
  have hD := hD0.self (sz := s.heap.size)
  have hA : ∀ q : Nat, s.heap.size ≤ q → (va_A (zw cs ad σ tl) s.heap.size) q := fun q h => Or.inr h
  generalize va_A (zw cs ad σ tl) s.heap.size = A at hD hE hA ⊢
  have hS : va_S A s.heap s.heap [] := va_S.rf
  have hl := lv_entry ([.ref (ad 29), .int a1]) (n := 2) (Nat.le_of_ble_eq_true rfl)
  rw [lg_entry_eq]
  generalize (lg_sl ([.ref (ad 29), .int a1]) ++ List.replicate (2 - (lg_sl ([.ref (ad 29), .int a1])).length) Slot.unset).toArray = ls at hl ⊢
  have hl : lv_has ls 2 [(0, .ref (ad 29)), (1, .int a1)] := hl
  generalize hR : (f_X6_reason σ a1) = RV
  have hR := hR.symm
  unfold f_X6_reason at hR
  obtain ⟨RVv, RVs⟩ := RV
  dsimp only
  obtain ⟨H, hH⟩ : ∃ z, z = s.heap := ⟨_, rfl⟩
  obtain ⟨locs, hlocs⟩ : ∃ z : List Loc, z = [] := ⟨_, rfl⟩
  rw [← hH] at hP
  have hS : va_S A s.heap H locs := by rw [hH, hlocs]; exact hS
  show W _ _ _ _ _ _ _ _ _ _ s.heap [] _ _ _ _
  rw [← hH, ← hlocs]
  clear hlocs
  refine lv_aload_n hx hb dX6_reason_0 rfl (lv_at hl 0 rfl) ?_
  refine lv_iload_n hx hb dX6_reason_1 rfl (lv_at hl 1 rfl) ?_
  refine zai (va_runV (As := [.int a1]) (rest := []) ⟨hx, hb, hml, hown, hts⟩ (c_X6_asks l G cs ad tl σ a1  H.size) (cwV 1 hts gX6_reason_X6_asks rfl rfl rfl (by decide +kernel) ⟨Nat.le_of_ble_eq_true rfl, Nat.le_of_ble_eq_true rfl⟩) (zpv hE hP hD hS hA (zg_29 cs ad σ tl) rfl) rfl rfl hl.1 rfl (lv_room (Nat.le_of_ble_eq_true rfl)) dX6_reason_2 ⟨Nat.le_of_ble_eq_true rfl, Nat.le_of_ble_eq_true rfl⟩) hD hS hA (fun H locs hP hD hS => ?_)
  refine lv_if_eq (tgt := 16) hx hb dX6_reason_5 (by decide) (fun c_1 => ?_) (fun c_1 => ?_)
  · have hR := hR.trans (if_pos c_1)
    refine lv_bipush (v := 32) hx hb dX6_reason_16 (by decide) ?_
    obtain ⟨e1, e2⟩ := z2 hR.symm
    subst e1; subst e2
    exact W.zret (v := 32) hx hb hr rfl (fun t ht hW => ⟨⟨_, (), rfl, rfl, by rw [ht]; exact hP, hD⟩, hS.F ht⟩) hS.2.2 dX6_reason_18
  · have hR := hR.trans (if_neg c_1)
    refine lv_aload_n hx hb dX6_reason_8 rfl (lv_at hl 0 rfl) ?_
    refine lv_iload_n hx hb dX6_reason_9 rfl (lv_at hl 1 rfl) ?_
    refine zai (va_runV (As := [.int a1]) (rest := []) ⟨hx, hb, hml, hown, hts⟩ (c_X6_reasonOf l G cs ad tl (f_X6_asks σ a1).2 a1 (zI_asks hI) (vin_X6_asks hI c_1) H.size) (cwV 1 hts gX6_reason_X6_reasonOf rfl rfl rfl (by decide +kernel) ⟨Nat.le_of_ble_eq_true rfl, Nat.le_of_ble_eq_true rfl⟩) (zpv hE hP hD hS hA (zg_29 cs ad (f_X6_asks σ a1).2 tl) rfl) rfl rfl hl.1 rfl (lv_room (Nat.le_of_ble_eq_true rfl)) dX6_reason_10 ⟨Nat.le_of_ble_eq_true rfl, Nat.le_of_ble_eq_true rfl⟩) hD hS hA (fun H locs hP hD hS => ?_)
    refine lv_goto (tgt := 18) hx hb dX6_reason_13 (by decide) ?_
    obtain ⟨e1, e2⟩ := z2 hR.symm
    subst e1; subst e2
    exact W.zret (v := (f_X6_reasonOf (f_X6_asks σ a1).2 a1)) hx hb hr (nar_X6_reasonOf (f_X6_asks σ a1).2 a1) (fun t ht hW => ⟨⟨_, (), rfl, rfl, by rw [ht]; exact hP, hD⟩, hS.F ht⟩) hS.2.2 dX6_reason_18
def f_X6_barredBy (σ : zS) (a1 : Int32) : Int32 × zS := (if (f_X6_asks σ a1).1 = 0 then ((-1), (f_X6_asks σ a1).2) else (if ((f_X6_asks σ a1).2 47 a1.toNatClampNeg) = ((f_X6_asks σ a1).2 46 a1.toNatClampNeg) then ((-1), (zs (f_X6_asks σ a1).2 29 28 1)) else (if (f_X6_barring (f_X6_asks σ a1).2 ((f_X6_asks σ a1).2 41 ((8 * a1) + ((f_X6_asks σ a1).2 47 a1.toNatClampNeg)).toNatClampNeg)) = (-1) then ((f_X6_barring (f_X6_asks σ a1).2 ((f_X6_asks σ a1).2 41 ((8 * a1) + ((f_X6_asks σ a1).2 47 a1.toNatClampNeg)).toNatClampNeg)), (zs (f_X6_asks σ a1).2 29 28 1)) else ((f_X6_barring (f_X6_asks σ a1).2 ((f_X6_asks σ a1).2 41 ((8 * a1) + ((f_X6_asks σ a1).2 47 a1.toNatClampNeg)).toNatClampNeg)), (zs (f_X6_asks σ a1).2 29 28 0)))))
theorem iX6_barredBy : ∀ w ∈ u_ws RX6 TX6 29, w ∈ wsX6_barredBy := by decide +kernel
set_option maxRecDepth 100000 in
theorem c_X6_barredBy (l : Launch) (G : va_G) (cs : Nat → ClassId) (ad : Nat → Nat) (tl : va_W) (σ : zS) (a1 : Int32) (hI : zI σ) : zMi l yX6_barredBy wsX6_barredBy { frames := 3, cells := 0, slots := 0, locals := 67 } G cs [.ref (ad 29), .int a1] (zw cs ad σ tl) (f_X6_barredBy σ a1).1 (zw cs ad (f_X6_barredBy σ a1).2 tl) 0 0 := by
  intro sz
  refine Met.ofW (cc := cX6_barredBy) (maxL := 4) (ret := (some .int)) (by decide) rfl ?_
  intro p e s m args below meth c s₁ B hml hv
  obtain ⟨rfl, hsz, hP, hD0, hE⟩ := hv
  have hx := B.exec
  have hb := B.bytes
  have hr := B.returns
  have hts := atoms_spec (ws := wsX6_barredBy) B.pre
  have hown : s.vm.findClass RX6 = some m.cls := findClass_of_methodNamed B.named
  have hlocks := B.notSynchronized
  subst hsz
  have hD := hD0.self (sz := s.heap.size)
  have hA : ∀ q : Nat, s.heap.size ≤ q → (va_A (zw cs ad σ tl) s.heap.size) q := fun q h => Or.inr h
  generalize va_A (zw cs ad σ tl) s.heap.size = A at hD hE hA ⊢
  have hS : va_S A s.heap s.heap [] := va_S.rf
  have hl := lv_entry ([.ref (ad 29), .int a1]) (n := 4) (Nat.le_of_ble_eq_true rfl)
  rw [lg_entry_eq]
  generalize (lg_sl ([.ref (ad 29), .int a1]) ++ List.replicate (4 - (lg_sl ([.ref (ad 29), .int a1])).length) Slot.unset).toArray = ls at hl ⊢
  have hl : lv_has ls 4 [(0, .ref (ad 29)), (1, .int a1)] := hl
  generalize hR : (f_X6_barredBy σ a1) = RV
  have hR := hR.symm
  unfold f_X6_barredBy at hR
  obtain ⟨RVv, RVs⟩ := RV
  dsimp only
  obtain ⟨H, hH⟩ : ∃ z, z = s.heap := ⟨_, rfl⟩
  obtain ⟨locs, hlocs⟩ : ∃ z : List Loc, z = [] := ⟨_, rfl⟩
  rw [← hH] at hP
  have hS : va_S A s.heap H locs := by rw [hH, hlocs]; exact hS
  show W _ _ _ _ _ _ _ _ _ _ s.heap [] _ _ _ _
  rw [← hH, ← hlocs]
  clear hlocs
  refine lv_aload_n hx hb dX6_barredBy_0 rfl (lv_at hl 0 rfl) ?_
  refine lv_iload_n hx hb dX6_barredBy_1 rfl (lv_at hl 1 rfl) ?_
  refine zai (va_runV (As := [.int a1]) (rest := []) ⟨hx, hb, hml, hown, hts⟩ (c_X6_asks l G cs ad tl σ a1  H.size) (cwV 1 hts gX6_barredBy_X6_asks rfl rfl rfl (by decide +kernel) ⟨Nat.le_of_ble_eq_true rfl, Nat.le_of_ble_eq_true rfl⟩) (zpv hE hP hD hS hA (zg_29 cs ad σ tl) rfl) rfl rfl hl.1 rfl (lv_room (Nat.le_of_ble_eq_true rfl)) dX6_barredBy_2 ⟨Nat.le_of_ble_eq_true rfl, Nat.le_of_ble_eq_true rfl⟩) hD hS hA (fun H locs hP hD hS => ?_)
  refine lv_if_ne (tgt := 10) hx hb dX6_barredBy_5 (by decide) (fun c_1 => ?_) (fun c_1 => ?_)
  · have hR := hR.trans (if_neg c_1)
    refine lv_aload_n hx hb dX6_barredBy_10 rfl (lv_at hl 0 rfl) ?_
    refine va_get (D := G) (ci := 8) (v := .ref (ad 47)) (C := RX6) (T := TX6) (N := 29) hx hb hts iX6_barredBy hown hE.1 hP 29 (zg_29 cs ad (f_X6_asks σ a1).2 tl) rfl 19 (by decide) (hts (.fieldLink RX6 63 "HandoverDeckModel" "doneOf" "[I") (by decide +kernel)) (fun _ h9 => h9) rfl dX6_barredBy_11 ?_
    refine lv_iload_n hx hb dX6_barredBy_14 rfl (lv_at hl 1 rfl) ?_
    refine z_iald (v := ((f_X6_asks σ a1).2 47 a1.toNatClampNeg)) hx hb hE hP (zg_47 cs ad (f_X6_asks σ a1).2 tl) (vin_X6_asks hI c_1) rfl dX6_barredBy_15 ?_
    refine lv_aload_n hx hb dX6_barredBy_16 rfl (lv_at hl 0 rfl) ?_
    refine va_get (D := G) (ci := 8) (v := .ref (ad 46)) (C := RX6) (T := TX6) (N := 29) hx hb hts iX6_barredBy hown hE.1 hP 29 (zg_29 cs ad (f_X6_asks σ a1).2 tl) rfl 18 (by decide) (hts (.fieldLink RX6 60 "HandoverDeckModel" "stepsOf" "[I") (by decide +kernel)) (fun _ h9 => h9) rfl dX6_barredBy_17 ?_
    refine lv_iload_n hx hb dX6_barredBy_20 rfl (lv_at hl 1 rfl) ?_
    refine z_iald (v := ((f_X6_asks σ a1).2 46 a1.toNatClampNeg)) hx hb hE hP (zg_46 cs ad (f_X6_asks σ a1).2 tl) (vin_X6_asks hI c_1) rfl dX6_barredBy_21 ?_
    refine lv_icmp_ne (tgt := 29) hx hb dX6_barredBy_22 (by decide) (fun c_2 => ?_) (fun c_2 => ?_)
    · have hR := hR.trans (if_neg c_2)
      refine lv_iconst (v := 0) hx hb dX6_barredBy_29 (by decide) ?_
      refine lv_istore_n (lv' := [(2, .int 0), (0, .ref (ad 29)), (1, .int a1)]) hx hb dX6_barredBy_30 rfl hl (by decide) rfl (fun ls hl => ?_)
      refine lv_iload_n hx hb dX6_barredBy_31 rfl (lv_at hl 0 rfl) ?_
      refine lv_if_eq (tgt := 39) hx hb dX6_barredBy_32 (by decide) (fun _ => ?_) (fun c => absurd c (by decide))
      refine lv_aload_n hx hb dX6_barredBy_39 rfl (lv_at hl 1 rfl) ?_
      refine lv_aload_n hx hb dX6_barredBy_40 rfl (lv_at hl 1 rfl) ?_
      refine va_get (D := G) (ci := 8) (v := .ref (ad 41)) (C := RX6) (T := TX6) (N := 29) hx hb hts iX6_barredBy hown hE.1 hP 29 (zg_29 cs ad (f_X6_asks σ a1).2 tl) rfl 13 (by decide) (hts (.fieldLink RX6 45 "HandoverDeckModel" "setUnit" "[I") (by decide +kernel)) (fun _ h9 => h9) rfl dX6_barredBy_41 ?_
      refine lv_bipush (v := 8) hx hb dX6_barredBy_44 (by decide) ?_
      refine lv_iload_n hx hb dX6_barredBy_46 rfl (lv_at hl 2 rfl) ?_
      refine lv_imul hx hb dX6_barredBy_47 ?_
      refine lv_aload_n hx hb dX6_barredBy_48 rfl (lv_at hl 1 rfl) ?_
      refine va_get (D := G) (ci := 8) (v := .ref (ad 47)) (C := RX6) (T := TX6) (N := 29) hx hb hts iX6_barredBy hown hE.1 hP 29 (zg_29 cs ad (f_X6_asks σ a1).2 tl) rfl 19 (by decide) (hts (.fieldLink RX6 63 "HandoverDeckModel" "doneOf" "[I") (by decide +kernel)) (fun _ h9 => h9) rfl dX6_barredBy_49 ?_
      refine lv_iload_n hx hb dX6_barredBy_52 rfl (lv_at hl 2 rfl) ?_
      refine z_iald (v := ((f_X6_asks σ a1).2 47 a1.toNatClampNeg)) hx hb hE hP (zg_47 cs ad (f_X6_asks σ a1).2 tl) (vin_X6_asks hI c_1) rfl dX6_barredBy_53 ?_
      refine lv_iadd hx hb dX6_barredBy_54 ?_
      refine z_iald (v := ((f_X6_asks σ a1).2 41 ((8 * a1) + ((f_X6_asks σ a1).2 47 a1.toNatClampNeg)).toNatClampNeg)) hx hb hE hP (zg_41 cs ad (f_X6_asks σ a1).2 tl) (vi_doneidx (zI_asks hI) (vin_X6_asks hI c_1) c_2) rfl dX6_barredBy_55 ?_
      refine zai (va_runV (As := [.int ((f_X6_asks σ a1).2 41 ((8 * a1) + ((f_X6_asks σ a1).2 47 a1.toNatClampNeg)).toNatClampNeg)]) (rest := []) ⟨hx, hb, hml, hown, hts⟩ (c_X6_barring l G cs ad tl (f_X6_asks σ a1).2 ((f_X6_asks σ a1).2 41 ((8 * a1) + ((f_X6_asks σ a1).2 47 a1.toNatClampNeg)).toNatClampNeg) (zI_asks hI) H.size) (cwV 1 hts gX6_barredBy_X6_barring rfl rfl rfl (by decide +kernel) ⟨Nat.le_of_ble_eq_true rfl, Nat.le_of_ble_eq_true rfl⟩) (zpv hE hP hD hS hA (zg_29 cs ad (f_X6_asks σ a1).2 tl) rfl) rfl rfl hl.1 rfl (lv_room (Nat.le_of_ble_eq_true rfl)) dX6_barredBy_56 ⟨Nat.le_of_ble_eq_true rfl, Nat.le_of_ble_eq_true rfl⟩) hD hS hA (fun H locs hP hD hS => ?_)
      refine lv_istore_n (lv' := [(3, .int (f_X6_barring (f_X6_asks σ a1).2 ((f_X6_asks σ a1).2 41 ((8 * a1) + ((f_X6_asks σ a1).2 47 a1.toNatClampNeg)).toNatClampNeg))), (2, .int 0), (0, .ref (ad 29)), (1, .int a1)]) hx hb dX6_barredBy_59 rfl hl (by decide) rfl (fun ls hl => ?_)
      refine lv_aload_n hx hb dX6_barredBy_60 rfl (lv_at hl 2 rfl) ?_
      refine lv_iload_n hx hb dX6_barredBy_61 rfl (lv_at hl 0 rfl) ?_
      refine lv_iconst (v := (-1)) hx hb dX6_barredBy_62 (by decide) ?_
      refine lv_icmp_ne (tgt := 70) hx hb dX6_barredBy_63 (by decide) (fun c_3 => ?_) (fun c_3 => ?_)
      · have hR := hR.trans (if_neg c_3)
        refine lv_iconst (v := 0) hx hb dX6_barredBy_70 (by decide) ?_
        refine va_put (D := G) (ci := 8) (v := .int 0) (ty := .int) (C := RX6) (T := TX6) (N := 29) hx hb hts iX6_barredBy tyX6 tyX6_ok nmX6 hown hE.1 hP hD hS 29 (zg_29 cs ad (f_X6_asks σ a1).2 tl) rfl 28 (by decide) (hts (.fieldLink RX6 82 "HandoverDeckModel" "thrown" "I") (by decide +kernel)) (fun _ h9 => h9) rfl (by decide +kernel) rfl rfl (Nat.le_of_ble_eq_true rfl) dX6_barredBy_71 (fun H locs hP hD hS => ?_)
        rw [zb_29_28 cs ad (f_X6_asks σ a1).2 tl] at hP hD
        refine lv_iload_n hx hb dX6_barredBy_74 rfl (lv_at hl 0 rfl) ?_
        obtain ⟨e1, e2⟩ := z2 hR.symm
        subst e1; subst e2
        exact W.iret (v := (f_X6_barring (f_X6_asks σ a1).2 ((f_X6_asks σ a1).2 41 ((8 * a1) + ((f_X6_asks σ a1).2 47 a1.toNatClampNeg)).toNatClampNeg))) hx hb hr (fun t ht hW => ⟨⟨_, (), rfl, rfl, by rw [ht]; exact hP, hD⟩, hS.F ht⟩) hS.2.2 dX6_barredBy_75
      · have hR := hR.trans (if_pos c_3)
        refine lv_iconst (v := 1) hx hb dX6_barredBy_66 (by decide) ?_
        refine lv_goto (tgt := 71) hx hb dX6_barredBy_67 (by decide) ?_
        refine va_put (D := G) (ci := 8) (v := .int 1) (ty := .int) (C := RX6) (T := TX6) (N := 29) hx hb hts iX6_barredBy tyX6 tyX6_ok nmX6 hown hE.1 hP hD hS 29 (zg_29 cs ad (f_X6_asks σ a1).2 tl) rfl 28 (by decide) (hts (.fieldLink RX6 82 "HandoverDeckModel" "thrown" "I") (by decide +kernel)) (fun _ h9 => h9) rfl (by decide +kernel) rfl rfl (Nat.le_of_ble_eq_true rfl) dX6_barredBy_71 (fun H locs hP hD hS => ?_)
        rw [zb_29_28 cs ad (f_X6_asks σ a1).2 tl] at hP hD
        refine lv_iload_n hx hb dX6_barredBy_74 rfl (lv_at hl 0 rfl) ?_
        obtain ⟨e1, e2⟩ := z2 hR.symm
        subst e1; subst e2
        exact W.iret (v := (f_X6_barring (f_X6_asks σ a1).2 ((f_X6_asks σ a1).2 41 ((8 * a1) + ((f_X6_asks σ a1).2 47 a1.toNatClampNeg)).toNatClampNeg))) hx hb hr (fun t ht hW => ⟨⟨_, (), rfl, rfl, by rw [ht]; exact hP, hD⟩, hS.F ht⟩) hS.2.2 dX6_barredBy_75
    · have hR := hR.trans (if_pos c_2)
      refine lv_iconst (v := 1) hx hb dX6_barredBy_25 (by decide) ?_
      refine lv_goto (tgt := 30) hx hb dX6_barredBy_26 (by decide) ?_
      refine lv_istore_n (lv' := [(2, .int 1), (0, .ref (ad 29)), (1, .int a1)]) hx hb dX6_barredBy_30 rfl hl (by decide) rfl (fun ls hl => ?_)
      refine lv_iload_n hx hb dX6_barredBy_31 rfl (lv_at hl 0 rfl) ?_
      refine lv_if_eq (tgt := 39) hx hb dX6_barredBy_32 (by decide) (fun c => absurd c (by decide)) (fun _ => ?_)
      refine lv_iconst (v := (-1)) hx hb dX6_barredBy_35 (by decide) ?_
      refine lv_goto (tgt := 59) hx hb dX6_barredBy_36 (by decide) ?_
      refine lv_istore_n (lv' := [(3, .int (-1)), (2, .int 1), (0, .ref (ad 29)), (1, .int a1)]) hx hb dX6_barredBy_59 rfl hl (by decide) rfl (fun ls hl => ?_)
      refine lv_aload_n hx hb dX6_barredBy_60 rfl (lv_at hl 2 rfl) ?_
      refine lv_iload_n hx hb dX6_barredBy_61 rfl (lv_at hl 0 rfl) ?_
      refine lv_iconst (v := (-1)) hx hb dX6_barredBy_62 (by decide) ?_
      refine lv_icmp_ne (tgt := 70) hx hb dX6_barredBy_63 (by decide) (fun c => absurd c (by decide)) (fun _ => ?_)
      refine lv_iconst (v := 1) hx hb dX6_barredBy_66 (by decide) ?_
      refine lv_goto (tgt := 71) hx hb dX6_barredBy_67 (by decide) ?_
      refine va_put (D := G) (ci := 8) (v := .int 1) (ty := .int) (C := RX6) (T := TX6) (N := 29) hx hb hts iX6_barredBy tyX6 tyX6_ok nmX6 hown hE.1 hP hD hS 29 (zg_29 cs ad (f_X6_asks σ a1).2 tl) rfl 28 (by decide) (hts (.fieldLink RX6 82 "HandoverDeckModel" "thrown" "I") (by decide +kernel)) (fun _ h9 => h9) rfl (by decide +kernel) rfl rfl (Nat.le_of_ble_eq_true rfl) dX6_barredBy_71 (fun H locs hP hD hS => ?_)
      rw [zb_29_28 cs ad (f_X6_asks σ a1).2 tl] at hP hD
      refine lv_iload_n hx hb dX6_barredBy_74 rfl (lv_at hl 0 rfl) ?_
      obtain ⟨e1, e2⟩ := z2 hR.symm
      subst e1; subst e2
      exact W.iret (v := (-1)) hx hb hr (fun t ht hW => ⟨⟨_, (), rfl, rfl, by rw [ht]; exact hP, hD⟩, hS.F ht⟩) hS.2.2 dX6_barredBy_75
  · have hR := hR.trans (if_pos c_1)
    refine lv_iconst (v := (-1)) hx hb dX6_barredBy_8 (by decide) ?_
    obtain ⟨e1, e2⟩ := z2 hR.symm
    subst e1; subst e2
    exact W.iret (v := (-1)) hx hb hr (fun t ht hW => ⟨⟨_, (), rfl, rfl, by rw [ht]; exact hP, hD⟩, hS.F ht⟩) hS.2.2 dX6_barredBy_9
def f_X6_step (σ : zS) (a1 : Int32) : Int32 × zS := (if (f_X6_isProcedure σ a1) = 0 then ((-1), (zs σ 29 28 1)) else (if (f_X6_reasonOf σ a1) = 45 then ((((zs (f_X6_closesUndone (zs (zs (zs (zs σ 29 28 0) 43 ((8 * a1) + (σ 47 a1.toNatClampNeg)).toNatClampNeg (σ 30 (σ 41 ((8 * a1) + (σ 47 a1.toNatClampNeg)).toNatClampNeg).toNatClampNeg)) 30 (σ 41 ((8 * a1) + (σ 47 a1.toNatClampNeg)).toNatClampNeg).toNatClampNeg (σ 42 ((8 * a1) + (σ 47 a1.toNatClampNeg)).toNatClampNeg)) 44 ((8 * a1) + (σ 47 a1.toNatClampNeg)).toNatClampNeg (σ 29 0)) ((8 * a1) + (σ 47 a1.toNatClampNeg))).2 47 a1.toNatClampNeg (((f_X6_closesUndone (zs (zs (zs (zs σ 29 28 0) 43 ((8 * a1) + (σ 47 a1.toNatClampNeg)).toNatClampNeg (σ 30 (σ 41 ((8 * a1) + (σ 47 a1.toNatClampNeg)).toNatClampNeg).toNatClampNeg)) 30 (σ 41 ((8 * a1) + (σ 47 a1.toNatClampNeg)).toNatClampNeg).toNatClampNeg (σ 42 ((8 * a1) + (σ 47 a1.toNatClampNeg)).toNatClampNeg)) 44 ((8 * a1) + (σ 47 a1.toNatClampNeg)).toNatClampNeg (σ 29 0)) ((8 * a1) + (σ 47 a1.toNatClampNeg))).2 47 a1.toNatClampNeg) + 1)) 47 a1.toNatClampNeg) - 1), (zs (f_X6_closesUndone (zs (zs (zs (zs σ 29 28 0) 43 ((8 * a1) + (σ 47 a1.toNatClampNeg)).toNatClampNeg (σ 30 (σ 41 ((8 * a1) + (σ 47 a1.toNatClampNeg)).toNatClampNeg).toNatClampNeg)) 30 (σ 41 ((8 * a1) + (σ 47 a1.toNatClampNeg)).toNatClampNeg).toNatClampNeg (σ 42 ((8 * a1) + (σ 47 a1.toNatClampNeg)).toNatClampNeg)) 44 ((8 * a1) + (σ 47 a1.toNatClampNeg)).toNatClampNeg (σ 29 0)) ((8 * a1) + (σ 47 a1.toNatClampNeg))).2 47 a1.toNatClampNeg (((f_X6_closesUndone (zs (zs (zs (zs σ 29 28 0) 43 ((8 * a1) + (σ 47 a1.toNatClampNeg)).toNatClampNeg (σ 30 (σ 41 ((8 * a1) + (σ 47 a1.toNatClampNeg)).toNatClampNeg).toNatClampNeg)) 30 (σ 41 ((8 * a1) + (σ 47 a1.toNatClampNeg)).toNatClampNeg).toNatClampNeg (σ 42 ((8 * a1) + (σ 47 a1.toNatClampNeg)).toNatClampNeg)) 44 ((8 * a1) + (σ 47 a1.toNatClampNeg)).toNatClampNeg (σ 29 0)) ((8 * a1) + (σ 47 a1.toNatClampNeg))).2 47 a1.toNatClampNeg) + 1))) else ((-1), (zs σ 29 28 2))))
theorem iX6_step : ∀ w ∈ u_ws RX6 TX6 29, w ∈ wsX6_step := by decide +kernel
set_option maxRecDepth 100000 in
theorem c_X6_step (l : Launch) (G : va_G) (cs : Nat → ClassId) (ad : Nat → Nat) (tl : va_W) (σ : zS) (a1 : Int32) (hI : zI σ) : zMi l yX6_step wsX6_step { frames := 2, cells := 0, slots := 0, locals := 46 } G cs [.ref (ad 29), .int a1] (zw cs ad σ tl) (f_X6_step σ a1).1 (zw cs ad (f_X6_step σ a1).2 tl) 0 0 := by
  intro sz
  refine Met.ofW (cc := cX6_step) (maxL := 3) (ret := (some .int)) (by decide) rfl ?_
  intro p e s m args below meth c s₁ B hml hv
  obtain ⟨rfl, hsz, hP, hD0, hE⟩ := hv
  have hx := B.exec
  have hb := B.bytes
  have hr := B.returns
  have hts := atoms_spec (ws := wsX6_step) B.pre
  have hown : s.vm.findClass RX6 = some m.cls := findClass_of_methodNamed B.named
  have hlocks := B.notSynchronized
  subst hsz
  have hD := hD0.self (sz := s.heap.size)
  have hA : ∀ q : Nat, s.heap.size ≤ q → (va_A (zw cs ad σ tl) s.heap.size) q := fun q h => Or.inr h
  generalize va_A (zw cs ad σ tl) s.heap.size = A at hD hE hA ⊢
  have hS : va_S A s.heap s.heap [] := va_S.rf
  have hl := lv_entry ([.ref (ad 29), .int a1]) (n := 3) (Nat.le_of_ble_eq_true rfl)
  rw [lg_entry_eq]
  generalize (lg_sl ([.ref (ad 29), .int a1]) ++ List.replicate (3 - (lg_sl ([.ref (ad 29), .int a1])).length) Slot.unset).toArray = ls at hl ⊢
  have hl : lv_has ls 3 [(0, .ref (ad 29)), (1, .int a1)] := hl
  generalize hR : (f_X6_step σ a1) = RV
  have hR := hR.symm
  unfold f_X6_step at hR
  obtain ⟨RVv, RVs⟩ := RV
  dsimp only
  obtain ⟨H, hH⟩ : ∃ z, z = s.heap := ⟨_, rfl⟩
  obtain ⟨locs, hlocs⟩ : ∃ z : List Loc, z = [] := ⟨_, rfl⟩
  rw [← hH] at hP
  have hS : va_S A s.heap H locs := by rw [hH, hlocs]; exact hS
  show W _ _ _ _ _ _ _ _ _ _ s.heap [] _ _ _ _
  rw [← hH, ← hlocs]
  clear hlocs
  refine lv_aload_n hx hb dX6_step_0 rfl (lv_at hl 0 rfl) ?_
  refine lv_aload_n hx hb dX6_step_1 rfl (lv_at hl 0 rfl) ?_
  refine lv_iload_n hx hb dX6_step_2 rfl (lv_at hl 1 rfl) ?_
  refine zai (va_runV (As := [.int a1]) (rest := [.ref (ad 29)]) ⟨hx, hb, hml, hown, hts⟩ (c_X6_isProcedure l G cs ad tl σ a1  H.size) (cwV 1 hts gX6_step_X6_isProcedure rfl rfl rfl (by decide +kernel) ⟨Nat.le_of_ble_eq_true rfl, Nat.le_of_ble_eq_true rfl⟩) (zpv hE hP hD hS hA (zg_29 cs ad σ tl) rfl) rfl rfl hl.1 rfl (lv_room (Nat.le_of_ble_eq_true rfl)) dX6_step_3 ⟨Nat.le_of_ble_eq_true rfl, Nat.le_of_ble_eq_true rfl⟩) hD hS hA (fun H locs hP hD hS => ?_)
  refine lv_if_ne (tgt := 13) hx hb dX6_step_6 (by decide) (fun c_1 => ?_) (fun c_1 => ?_)
  · have hR := hR.trans (if_neg c_1)
    refine lv_aload_n hx hb dX6_step_13 rfl (lv_at hl 0 rfl) ?_
    refine lv_iload_n hx hb dX6_step_14 rfl (lv_at hl 1 rfl) ?_
    refine zai (va_runV (As := [.int a1]) (rest := [.ref (ad 29)]) ⟨hx, hb, hml, hown, hts⟩ (c_X6_reasonOf l G cs ad tl σ a1 hI (vin_X6_isProcedure hI c_1) H.size) (cwV 1 hts gX6_step_X6_reasonOf rfl rfl rfl (by decide +kernel) ⟨Nat.le_of_ble_eq_true rfl, Nat.le_of_ble_eq_true rfl⟩) (zpv hE hP hD hS hA (zg_29 cs ad σ tl) rfl) rfl rfl hl.1 rfl (lv_room (Nat.le_of_ble_eq_true rfl)) dX6_step_15 ⟨Nat.le_of_ble_eq_true rfl, Nat.le_of_ble_eq_true rfl⟩) hD hS hA (fun H locs hP hD hS => ?_)
    refine lv_bipush (v := 45) hx hb dX6_step_18 (by decide) ?_
    refine lv_icmp_eq (tgt := 27) hx hb dX6_step_20 (by decide) (fun c_2 => ?_) (fun c_2 => ?_)
    · have hR := hR.trans (if_pos c_2)
      refine lv_iconst (v := 0) hx hb dX6_step_27 (by decide) ?_
      refine va_put (D := G) (ci := 8) (v := .int 0) (ty := .int) (C := RX6) (T := TX6) (N := 29) hx hb hts iX6_step tyX6 tyX6_ok nmX6 hown hE.1 hP hD hS 29 (zg_29 cs ad σ tl) rfl 28 (by decide) (hts (.fieldLink RX6 82 "HandoverDeckModel" "thrown" "I") (by decide +kernel)) (fun _ h9 => h9) rfl (by decide +kernel) rfl rfl (Nat.le_of_ble_eq_true rfl) dX6_step_28 (fun H locs hP hD hS => ?_)
      rw [zb_29_28 cs ad σ tl] at hP hD
      refine lv_aload_n hx hb dX6_step_31 rfl (lv_at hl 0 rfl) ?_
      refine va_get (D := G) (ci := 8) (v := .int 0) (C := RX6) (T := TX6) (N := 29) hx hb hts iX6_step hown hE.1 hP 29 (zg_29 cs ad (zs σ 29 28 0) tl) rfl 28 (by decide) (hts (.fieldLink RX6 82 "HandoverDeckModel" "thrown" "I") (by decide +kernel)) (fun _ h9 => h9) rfl dX6_step_32 ?_
      refine lv_if_le (tgt := 40) hx hb dX6_step_35 (by decide) (fun _ => ?_) (fun c => absurd c (by decide))
      refine lv_bipush (v := 8) hx hb dX6_step_40 (by decide) ?_
      refine lv_iload_n hx hb dX6_step_42 rfl (lv_at hl 1 rfl) ?_
      refine lv_imul hx hb dX6_step_43 ?_
      refine lv_aload_n hx hb dX6_step_44 rfl (lv_at hl 0 rfl) ?_
      refine va_get (D := G) (ci := 8) (v := .ref (ad 47)) (C := RX6) (T := TX6) (N := 29) hx hb hts iX6_step hown hE.1 hP 29 (zg_29 cs ad (zs σ 29 28 0) tl) rfl 19 (by decide) (hts (.fieldLink RX6 63 "HandoverDeckModel" "doneOf" "[I") (by decide +kernel)) (fun _ h9 => h9) rfl dX6_step_45 ?_
      refine lv_iload_n hx hb dX6_step_48 rfl (lv_at hl 1 rfl) ?_
      refine z_iald (v := (σ 47 a1.toNatClampNeg)) hx hb hE hP (zg_47 cs ad (zs σ 29 28 0) tl) (vin_X6_isProcedure hI c_1) (by rw [zs_ne (k := 29) (k' := 47) (by decide)]) dX6_step_49 ?_
      refine lv_iadd hx hb dX6_step_50 ?_
      refine lv_istore_n (lv' := [(2, .int ((8 * a1) + (σ 47 a1.toNatClampNeg))), (0, .ref (ad 29)), (1, .int a1)]) hx hb dX6_step_51 rfl hl (by decide) rfl (fun ls hl => ?_)
      refine lv_aload_n hx hb dX6_step_52 rfl (lv_at hl 1 rfl) ?_
      refine va_get (D := G) (ci := 8) (v := .ref (ad 43)) (C := RX6) (T := TX6) (N := 29) hx hb hts iX6_step hown hE.1 hP 29 (zg_29 cs ad (zs σ 29 28 0) tl) rfl 15 (by decide) (hts (.fieldLink RX6 51 "HandoverDeckModel" "noted" "[I") (by decide +kernel)) (fun _ h9 => h9) rfl dX6_step_53 ?_
      refine lv_iload_n hx hb dX6_step_56 rfl (lv_at hl 0 rfl) ?_
      refine lv_aload_n hx hb dX6_step_57 rfl (lv_at hl 1 rfl) ?_
      refine va_get (D := G) (ci := 8) (v := .ref (ad 30)) (C := RX6) (T := TX6) (N := 29) hx hb hts iX6_step hown hE.1 hP 29 (zg_29 cs ad (zs σ 29 28 0) tl) rfl 1 (by decide) (hts (.fieldLink RX6 7 "HandoverDeckModel" "states" "[I") (by decide +kernel)) (fun _ h9 => h9) rfl dX6_step_58 ?_
      refine lv_aload_n hx hb dX6_step_61 rfl (lv_at hl 1 rfl) ?_
      refine va_get (D := G) (ci := 8) (v := .ref (ad 41)) (C := RX6) (T := TX6) (N := 29) hx hb hts iX6_step hown hE.1 hP 29 (zg_29 cs ad (zs σ 29 28 0) tl) rfl 13 (by decide) (hts (.fieldLink RX6 45 "HandoverDeckModel" "setUnit" "[I") (by decide +kernel)) (fun _ h9 => h9) rfl dX6_step_62 ?_
      refine lv_iload_n hx hb dX6_step_65 rfl (lv_at hl 0 rfl) ?_
      refine z_iald (v := (σ 41 ((8 * a1) + (σ 47 a1.toNatClampNeg)).toNatClampNeg)) hx hb hE hP (zg_41 cs ad (zs σ 29 28 0) tl) (vi_doneidx hI (vin_X6_isProcedure hI c_1) (vi_stepok hI c_2)) (by rw [zs_ne (k := 29) (k' := 41) (by decide)]) dX6_step_66 ?_
      refine z_iald (v := (σ 30 (σ 41 ((8 * a1) + (σ 47 a1.toNatClampNeg)).toNatClampNeg).toNatClampNeg)) hx hb hE hP (zg_30 cs ad (zs σ 29 28 0) tl) (vi_set hI (vi_doneidx hI (vin_X6_isProcedure hI c_1) (vi_stepok hI c_2))) (by rw [zs_ne (k := 29) (k' := 30) (by decide)]) dX6_step_67 ?_
      refine z_iast hx hb hE hP hD hS (zg_43 cs ad (zs σ 29 28 0) tl) (zb_43 cs ad (zs σ 29 28 0) tl) (vi_doneidx hI (vin_X6_isProcedure hI c_1) (vi_stepok hI c_2)) dX6_step_68 (fun H locs hP hD hS => ?_)
      refine lv_aload_n hx hb dX6_step_69 rfl (lv_at hl 1 rfl) ?_
      refine va_get (D := G) (ci := 8) (v := .ref (ad 30)) (C := RX6) (T := TX6) (N := 29) hx hb hts iX6_step hown hE.1 hP 29 (zg_29 cs ad (zs (zs σ 29 28 0) 43 ((8 * a1) + (σ 47 a1.toNatClampNeg)).toNatClampNeg (σ 30 (σ 41 ((8 * a1) + (σ 47 a1.toNatClampNeg)).toNatClampNeg).toNatClampNeg)) tl) rfl 1 (by decide) (hts (.fieldLink RX6 7 "HandoverDeckModel" "states" "[I") (by decide +kernel)) (fun _ h9 => h9) rfl dX6_step_70 ?_
      refine lv_aload_n hx hb dX6_step_73 rfl (lv_at hl 1 rfl) ?_
      refine va_get (D := G) (ci := 8) (v := .ref (ad 41)) (C := RX6) (T := TX6) (N := 29) hx hb hts iX6_step hown hE.1 hP 29 (zg_29 cs ad (zs (zs σ 29 28 0) 43 ((8 * a1) + (σ 47 a1.toNatClampNeg)).toNatClampNeg (σ 30 (σ 41 ((8 * a1) + (σ 47 a1.toNatClampNeg)).toNatClampNeg).toNatClampNeg)) tl) rfl 13 (by decide) (hts (.fieldLink RX6 45 "HandoverDeckModel" "setUnit" "[I") (by decide +kernel)) (fun _ h9 => h9) rfl dX6_step_74 ?_
      refine lv_iload_n hx hb dX6_step_77 rfl (lv_at hl 0 rfl) ?_
      refine z_iald (v := (σ 41 ((8 * a1) + (σ 47 a1.toNatClampNeg)).toNatClampNeg)) hx hb hE hP (zg_41 cs ad (zs (zs σ 29 28 0) 43 ((8 * a1) + (σ 47 a1.toNatClampNeg)).toNatClampNeg (σ 30 (σ 41 ((8 * a1) + (σ 47 a1.toNatClampNeg)).toNatClampNeg).toNatClampNeg)) tl) (vi_doneidx hI (vin_X6_isProcedure hI c_1) (vi_stepok hI c_2)) (by rw [zs_ne (k := 43) (k' := 41) (by decide), zs_ne (k := 29) (k' := 41) (by decide)]) dX6_step_78 ?_
      refine lv_aload_n hx hb dX6_step_79 rfl (lv_at hl 1 rfl) ?_
      refine va_get (D := G) (ci := 8) (v := .ref (ad 42)) (C := RX6) (T := TX6) (N := 29) hx hb hts iX6_step hown hE.1 hP 29 (zg_29 cs ad (zs (zs σ 29 28 0) 43 ((8 * a1) + (σ 47 a1.toNatClampNeg)).toNatClampNeg (σ 30 (σ 41 ((8 * a1) + (σ 47 a1.toNatClampNeg)).toNatClampNeg).toNatClampNeg)) tl) rfl 14 (by decide) (hts (.fieldLink RX6 48 "HandoverDeckModel" "setState" "[I") (by decide +kernel)) (fun _ h9 => h9) rfl dX6_step_80 ?_
      refine lv_iload_n hx hb dX6_step_83 rfl (lv_at hl 0 rfl) ?_
      refine z_iald (v := (σ 42 ((8 * a1) + (σ 47 a1.toNatClampNeg)).toNatClampNeg)) hx hb hE hP (zg_42 cs ad (zs (zs σ 29 28 0) 43 ((8 * a1) + (σ 47 a1.toNatClampNeg)).toNatClampNeg (σ 30 (σ 41 ((8 * a1) + (σ 47 a1.toNatClampNeg)).toNatClampNeg).toNatClampNeg)) tl) (vi_doneidx hI (vin_X6_isProcedure hI c_1) (vi_stepok hI c_2)) (by rw [zs_ne (k := 43) (k' := 42) (by decide), zs_ne (k := 29) (k' := 42) (by decide)]) dX6_step_84 ?_
      refine z_iast hx hb hE hP hD hS (zg_30 cs ad (zs (zs σ 29 28 0) 43 ((8 * a1) + (σ 47 a1.toNatClampNeg)).toNatClampNeg (σ 30 (σ 41 ((8 * a1) + (σ 47 a1.toNatClampNeg)).toNatClampNeg).toNatClampNeg)) tl) (zb_30 cs ad (zs (zs σ 29 28 0) 43 ((8 * a1) + (σ 47 a1.toNatClampNeg)).toNatClampNeg (σ 30 (σ 41 ((8 * a1) + (σ 47 a1.toNatClampNeg)).toNatClampNeg).toNatClampNeg)) tl) (vi_set hI (vi_doneidx hI (vin_X6_isProcedure hI c_1) (vi_stepok hI c_2))) dX6_step_85 (fun H locs hP hD hS => ?_)
      refine lv_aload_n hx hb dX6_step_86 rfl (lv_at hl 1 rfl) ?_
      refine va_get (D := G) (ci := 8) (v := .ref (ad 44)) (C := RX6) (T := TX6) (N := 29) hx hb hts iX6_step hown hE.1 hP 29 (zg_29 cs ad (zs (zs (zs σ 29 28 0) 43 ((8 * a1) + (σ 47 a1.toNatClampNeg)).toNatClampNeg (σ 30 (σ 41 ((8 * a1) + (σ 47 a1.toNatClampNeg)).toNatClampNeg).toNatClampNeg)) 30 (σ 41 ((8 * a1) + (σ 47 a1.toNatClampNeg)).toNatClampNeg).toNatClampNeg (σ 42 ((8 * a1) + (σ 47 a1.toNatClampNeg)).toNatClampNeg)) tl) rfl 16 (by decide) (hts (.fieldLink RX6 54 "HandoverDeckModel" "takenAt" "[I") (by decide +kernel)) (fun _ h9 => h9) rfl dX6_step_87 ?_
      refine lv_iload_n hx hb dX6_step_90 rfl (lv_at hl 0 rfl) ?_
      refine lv_aload_n hx hb dX6_step_91 rfl (lv_at hl 1 rfl) ?_
      refine va_get (D := G) (ci := 8) (v := .int (σ 29 0)) (C := RX6) (T := TX6) (N := 29) hx hb hts iX6_step hown hE.1 hP 29 (zg_29 cs ad (zs (zs (zs σ 29 28 0) 43 ((8 * a1) + (σ 47 a1.toNatClampNeg)).toNatClampNeg (σ 30 (σ 41 ((8 * a1) + (σ 47 a1.toNatClampNeg)).toNatClampNeg).toNatClampNeg)) 30 (σ 41 ((8 * a1) + (σ 47 a1.toNatClampNeg)).toNatClampNeg).toNatClampNeg (σ 42 ((8 * a1) + (σ 47 a1.toNatClampNeg)).toNatClampNeg)) tl) rfl 0 (by decide) (hts (.fieldLink RX6 98 "HandoverDeckModel" "hour" "I") (by decide +kernel)) (fun _ h9 => h9) rfl dX6_step_92 ?_
      refine z_iast hx hb hE hP hD hS (zg_44 cs ad (zs (zs (zs σ 29 28 0) 43 ((8 * a1) + (σ 47 a1.toNatClampNeg)).toNatClampNeg (σ 30 (σ 41 ((8 * a1) + (σ 47 a1.toNatClampNeg)).toNatClampNeg).toNatClampNeg)) 30 (σ 41 ((8 * a1) + (σ 47 a1.toNatClampNeg)).toNatClampNeg).toNatClampNeg (σ 42 ((8 * a1) + (σ 47 a1.toNatClampNeg)).toNatClampNeg)) tl) (zb_44 cs ad (zs (zs (zs σ 29 28 0) 43 ((8 * a1) + (σ 47 a1.toNatClampNeg)).toNatClampNeg (σ 30 (σ 41 ((8 * a1) + (σ 47 a1.toNatClampNeg)).toNatClampNeg).toNatClampNeg)) 30 (σ 41 ((8 * a1) + (σ 47 a1.toNatClampNeg)).toNatClampNeg).toNatClampNeg (σ 42 ((8 * a1) + (σ 47 a1.toNatClampNeg)).toNatClampNeg)) tl) (vi_doneidx hI (vin_X6_isProcedure hI c_1) (vi_stepok hI c_2)) dX6_step_95 (fun H locs hP hD hS => ?_)
      refine lv_aload_n hx hb dX6_step_96 rfl (lv_at hl 1 rfl) ?_
      refine lv_iload_n hx hb dX6_step_97 rfl (lv_at hl 0 rfl) ?_
      refine zai (va_runV (As := [.int ((8 * a1) + (σ 47 a1.toNatClampNeg))]) (rest := []) ⟨hx, hb, hml, hown, hts⟩ (c_X6_closesUndone l G cs ad tl (zs (zs (zs (zs σ 29 28 0) 43 ((8 * a1) + (σ 47 a1.toNatClampNeg)).toNatClampNeg (σ 30 (σ 41 ((8 * a1) + (σ 47 a1.toNatClampNeg)).toNatClampNeg).toNatClampNeg)) 30 (σ 41 ((8 * a1) + (σ 47 a1.toNatClampNeg)).toNatClampNeg).toNatClampNeg (σ 42 ((8 * a1) + (σ 47 a1.toNatClampNeg)).toNatClampNeg)) 44 ((8 * a1) + (σ 47 a1.toNatClampNeg)).toNatClampNeg (σ 29 0)) ((8 * a1) + (σ 47 a1.toNatClampNeg)) (vi_doneidx hI (vin_X6_isProcedure hI c_1) (vi_stepok hI c_2)) (vi_un hI (vi_doneidx hI (vin_X6_isProcedure hI c_1) (vi_stepok hI c_2))) H.size) (cwV 1 hts gX6_step_X6_closesUndone rfl rfl rfl (by decide +kernel) ⟨Nat.le_of_ble_eq_true rfl, Nat.le_of_ble_eq_true rfl⟩) (zpv hE hP hD hS hA (zg_29 cs ad (zs (zs (zs (zs σ 29 28 0) 43 ((8 * a1) + (σ 47 a1.toNatClampNeg)).toNatClampNeg (σ 30 (σ 41 ((8 * a1) + (σ 47 a1.toNatClampNeg)).toNatClampNeg).toNatClampNeg)) 30 (σ 41 ((8 * a1) + (σ 47 a1.toNatClampNeg)).toNatClampNeg).toNatClampNeg (σ 42 ((8 * a1) + (σ 47 a1.toNatClampNeg)).toNatClampNeg)) 44 ((8 * a1) + (σ 47 a1.toNatClampNeg)).toNatClampNeg (σ 29 0)) tl) rfl) rfl rfl hl.1 rfl (lv_room (Nat.le_of_ble_eq_true rfl)) dX6_step_98 ⟨Nat.le_of_ble_eq_true rfl, Nat.le_of_ble_eq_true rfl⟩) hD hS hA (fun H locs hP hD hS => ?_)
      refine lv_pop hx hb dX6_step_101 rfl ?_
      refine lv_aload_n hx hb dX6_step_102 rfl (lv_at hl 1 rfl) ?_
      refine va_get (D := G) (ci := 8) (v := .ref (ad 47)) (C := RX6) (T := TX6) (N := 29) hx hb hts iX6_step hown hE.1 hP 29 (zg_29 cs ad (f_X6_closesUndone (zs (zs (zs (zs σ 29 28 0) 43 ((8 * a1) + (σ 47 a1.toNatClampNeg)).toNatClampNeg (σ 30 (σ 41 ((8 * a1) + (σ 47 a1.toNatClampNeg)).toNatClampNeg).toNatClampNeg)) 30 (σ 41 ((8 * a1) + (σ 47 a1.toNatClampNeg)).toNatClampNeg).toNatClampNeg (σ 42 ((8 * a1) + (σ 47 a1.toNatClampNeg)).toNatClampNeg)) 44 ((8 * a1) + (σ 47 a1.toNatClampNeg)).toNatClampNeg (σ 29 0)) ((8 * a1) + (σ 47 a1.toNatClampNeg))).2 tl) rfl 19 (by decide) (hts (.fieldLink RX6 63 "HandoverDeckModel" "doneOf" "[I") (by decide +kernel)) (fun _ h9 => h9) rfl dX6_step_103 ?_
      refine lv_iload_n hx hb dX6_step_106 rfl (lv_at hl 2 rfl) ?_
      refine lv_dup2_11 hx hb dX6_step_107 rfl rfl ?_
      refine z_iald (v := ((f_X6_closesUndone (zs (zs (zs (zs σ 29 28 0) 43 ((8 * a1) + (σ 47 a1.toNatClampNeg)).toNatClampNeg (σ 30 (σ 41 ((8 * a1) + (σ 47 a1.toNatClampNeg)).toNatClampNeg).toNatClampNeg)) 30 (σ 41 ((8 * a1) + (σ 47 a1.toNatClampNeg)).toNatClampNeg).toNatClampNeg (σ 42 ((8 * a1) + (σ 47 a1.toNatClampNeg)).toNatClampNeg)) 44 ((8 * a1) + (σ 47 a1.toNatClampNeg)).toNatClampNeg (σ 29 0)) ((8 * a1) + (σ 47 a1.toNatClampNeg))).2 47 a1.toNatClampNeg)) hx hb hE hP (zg_47 cs ad (f_X6_closesUndone (zs (zs (zs (zs σ 29 28 0) 43 ((8 * a1) + (σ 47 a1.toNatClampNeg)).toNatClampNeg (σ 30 (σ 41 ((8 * a1) + (σ 47 a1.toNatClampNeg)).toNatClampNeg).toNatClampNeg)) 30 (σ 41 ((8 * a1) + (σ 47 a1.toNatClampNeg)).toNatClampNeg).toNatClampNeg (σ 42 ((8 * a1) + (σ 47 a1.toNatClampNeg)).toNatClampNeg)) 44 ((8 * a1) + (σ 47 a1.toNatClampNeg)).toNatClampNeg (σ 29 0)) ((8 * a1) + (σ 47 a1.toNatClampNeg))).2 tl) (vin_X6_isProcedure hI c_1) rfl dX6_step_108 ?_
      refine lv_iconst (v := 1) hx hb dX6_step_109 (by decide) ?_
      refine lv_iadd hx hb dX6_step_110 ?_
      refine z_iast hx hb hE hP hD hS (zg_47 cs ad (f_X6_closesUndone (zs (zs (zs (zs σ 29 28 0) 43 ((8 * a1) + (σ 47 a1.toNatClampNeg)).toNatClampNeg (σ 30 (σ 41 ((8 * a1) + (σ 47 a1.toNatClampNeg)).toNatClampNeg).toNatClampNeg)) 30 (σ 41 ((8 * a1) + (σ 47 a1.toNatClampNeg)).toNatClampNeg).toNatClampNeg (σ 42 ((8 * a1) + (σ 47 a1.toNatClampNeg)).toNatClampNeg)) 44 ((8 * a1) + (σ 47 a1.toNatClampNeg)).toNatClampNeg (σ 29 0)) ((8 * a1) + (σ 47 a1.toNatClampNeg))).2 tl) (zb_47 cs ad (f_X6_closesUndone (zs (zs (zs (zs σ 29 28 0) 43 ((8 * a1) + (σ 47 a1.toNatClampNeg)).toNatClampNeg (σ 30 (σ 41 ((8 * a1) + (σ 47 a1.toNatClampNeg)).toNatClampNeg).toNatClampNeg)) 30 (σ 41 ((8 * a1) + (σ 47 a1.toNatClampNeg)).toNatClampNeg).toNatClampNeg (σ 42 ((8 * a1) + (σ 47 a1.toNatClampNeg)).toNatClampNeg)) 44 ((8 * a1) + (σ 47 a1.toNatClampNeg)).toNatClampNeg (σ 29 0)) ((8 * a1) + (σ 47 a1.toNatClampNeg))).2 tl) (vin_X6_isProcedure hI c_1) dX6_step_111 (fun H locs hP hD hS => ?_)
      refine lv_aload_n hx hb dX6_step_112 rfl (lv_at hl 1 rfl) ?_
      refine va_get (D := G) (ci := 8) (v := .ref (ad 47)) (C := RX6) (T := TX6) (N := 29) hx hb hts iX6_step hown hE.1 hP 29 (zg_29 cs ad (zs (f_X6_closesUndone (zs (zs (zs (zs σ 29 28 0) 43 ((8 * a1) + (σ 47 a1.toNatClampNeg)).toNatClampNeg (σ 30 (σ 41 ((8 * a1) + (σ 47 a1.toNatClampNeg)).toNatClampNeg).toNatClampNeg)) 30 (σ 41 ((8 * a1) + (σ 47 a1.toNatClampNeg)).toNatClampNeg).toNatClampNeg (σ 42 ((8 * a1) + (σ 47 a1.toNatClampNeg)).toNatClampNeg)) 44 ((8 * a1) + (σ 47 a1.toNatClampNeg)).toNatClampNeg (σ 29 0)) ((8 * a1) + (σ 47 a1.toNatClampNeg))).2 47 a1.toNatClampNeg (((f_X6_closesUndone (zs (zs (zs (zs σ 29 28 0) 43 ((8 * a1) + (σ 47 a1.toNatClampNeg)).toNatClampNeg (σ 30 (σ 41 ((8 * a1) + (σ 47 a1.toNatClampNeg)).toNatClampNeg).toNatClampNeg)) 30 (σ 41 ((8 * a1) + (σ 47 a1.toNatClampNeg)).toNatClampNeg).toNatClampNeg (σ 42 ((8 * a1) + (σ 47 a1.toNatClampNeg)).toNatClampNeg)) 44 ((8 * a1) + (σ 47 a1.toNatClampNeg)).toNatClampNeg (σ 29 0)) ((8 * a1) + (σ 47 a1.toNatClampNeg))).2 47 a1.toNatClampNeg) + 1)) tl) rfl 19 (by decide) (hts (.fieldLink RX6 63 "HandoverDeckModel" "doneOf" "[I") (by decide +kernel)) (fun _ h9 => h9) rfl dX6_step_113 ?_
      refine lv_iload_n hx hb dX6_step_116 rfl (lv_at hl 2 rfl) ?_
      refine z_iald (v := ((zs (f_X6_closesUndone (zs (zs (zs (zs σ 29 28 0) 43 ((8 * a1) + (σ 47 a1.toNatClampNeg)).toNatClampNeg (σ 30 (σ 41 ((8 * a1) + (σ 47 a1.toNatClampNeg)).toNatClampNeg).toNatClampNeg)) 30 (σ 41 ((8 * a1) + (σ 47 a1.toNatClampNeg)).toNatClampNeg).toNatClampNeg (σ 42 ((8 * a1) + (σ 47 a1.toNatClampNeg)).toNatClampNeg)) 44 ((8 * a1) + (σ 47 a1.toNatClampNeg)).toNatClampNeg (σ 29 0)) ((8 * a1) + (σ 47 a1.toNatClampNeg))).2 47 a1.toNatClampNeg (((f_X6_closesUndone (zs (zs (zs (zs σ 29 28 0) 43 ((8 * a1) + (σ 47 a1.toNatClampNeg)).toNatClampNeg (σ 30 (σ 41 ((8 * a1) + (σ 47 a1.toNatClampNeg)).toNatClampNeg).toNatClampNeg)) 30 (σ 41 ((8 * a1) + (σ 47 a1.toNatClampNeg)).toNatClampNeg).toNatClampNeg (σ 42 ((8 * a1) + (σ 47 a1.toNatClampNeg)).toNatClampNeg)) 44 ((8 * a1) + (σ 47 a1.toNatClampNeg)).toNatClampNeg (σ 29 0)) ((8 * a1) + (σ 47 a1.toNatClampNeg))).2 47 a1.toNatClampNeg) + 1)) 47 a1.toNatClampNeg)) hx hb hE hP (zg_47 cs ad (zs (f_X6_closesUndone (zs (zs (zs (zs σ 29 28 0) 43 ((8 * a1) + (σ 47 a1.toNatClampNeg)).toNatClampNeg (σ 30 (σ 41 ((8 * a1) + (σ 47 a1.toNatClampNeg)).toNatClampNeg).toNatClampNeg)) 30 (σ 41 ((8 * a1) + (σ 47 a1.toNatClampNeg)).toNatClampNeg).toNatClampNeg (σ 42 ((8 * a1) + (σ 47 a1.toNatClampNeg)).toNatClampNeg)) 44 ((8 * a1) + (σ 47 a1.toNatClampNeg)).toNatClampNeg (σ 29 0)) ((8 * a1) + (σ 47 a1.toNatClampNeg))).2 47 a1.toNatClampNeg (((f_X6_closesUndone (zs (zs (zs (zs σ 29 28 0) 43 ((8 * a1) + (σ 47 a1.toNatClampNeg)).toNatClampNeg (σ 30 (σ 41 ((8 * a1) + (σ 47 a1.toNatClampNeg)).toNatClampNeg).toNatClampNeg)) 30 (σ 41 ((8 * a1) + (σ 47 a1.toNatClampNeg)).toNatClampNeg).toNatClampNeg (σ 42 ((8 * a1) + (σ 47 a1.toNatClampNeg)).toNatClampNeg)) 44 ((8 * a1) + (σ 47 a1.toNatClampNeg)).toNatClampNeg (σ 29 0)) ((8 * a1) + (σ 47 a1.toNatClampNeg))).2 47 a1.toNatClampNeg) + 1)) tl) (vin_X6_isProcedure hI c_1) rfl dX6_step_117 ?_
      refine lv_iconst (v := 1) hx hb dX6_step_118 (by decide) ?_
      refine lv_isub hx hb dX6_step_119 ?_
      obtain ⟨e1, e2⟩ := z2 hR.symm
      subst e1; subst e2
      exact W.iret (v := (((zs (f_X6_closesUndone (zs (zs (zs (zs σ 29 28 0) 43 ((8 * a1) + (σ 47 a1.toNatClampNeg)).toNatClampNeg (σ 30 (σ 41 ((8 * a1) + (σ 47 a1.toNatClampNeg)).toNatClampNeg).toNatClampNeg)) 30 (σ 41 ((8 * a1) + (σ 47 a1.toNatClampNeg)).toNatClampNeg).toNatClampNeg (σ 42 ((8 * a1) + (σ 47 a1.toNatClampNeg)).toNatClampNeg)) 44 ((8 * a1) + (σ 47 a1.toNatClampNeg)).toNatClampNeg (σ 29 0)) ((8 * a1) + (σ 47 a1.toNatClampNeg))).2 47 a1.toNatClampNeg (((f_X6_closesUndone (zs (zs (zs (zs σ 29 28 0) 43 ((8 * a1) + (σ 47 a1.toNatClampNeg)).toNatClampNeg (σ 30 (σ 41 ((8 * a1) + (σ 47 a1.toNatClampNeg)).toNatClampNeg).toNatClampNeg)) 30 (σ 41 ((8 * a1) + (σ 47 a1.toNatClampNeg)).toNatClampNeg).toNatClampNeg (σ 42 ((8 * a1) + (σ 47 a1.toNatClampNeg)).toNatClampNeg)) 44 ((8 * a1) + (σ 47 a1.toNatClampNeg)).toNatClampNeg (σ 29 0)) ((8 * a1) + (σ 47 a1.toNatClampNeg))).2 47 a1.toNatClampNeg) + 1)) 47 a1.toNatClampNeg) - 1)) hx hb hr (fun t ht hW => ⟨⟨_, (), rfl, rfl, by rw [ht]; exact hP, hD⟩, hS.F ht⟩) hS.2.2 dX6_step_120
    · have hR := hR.trans (if_neg c_2)
      refine lv_iconst (v := 2) hx hb dX6_step_23 (by decide) ?_
      refine lv_goto (tgt := 28) hx hb dX6_step_24 (by decide) ?_
      refine va_put (D := G) (ci := 8) (v := .int 2) (ty := .int) (C := RX6) (T := TX6) (N := 29) hx hb hts iX6_step tyX6 tyX6_ok nmX6 hown hE.1 hP hD hS 29 (zg_29 cs ad σ tl) rfl 28 (by decide) (hts (.fieldLink RX6 82 "HandoverDeckModel" "thrown" "I") (by decide +kernel)) (fun _ h9 => h9) rfl (by decide +kernel) rfl rfl (Nat.le_of_ble_eq_true rfl) dX6_step_28 (fun H locs hP hD hS => ?_)
      rw [zb_29_28 cs ad σ tl] at hP hD
      refine lv_aload_n hx hb dX6_step_31 rfl (lv_at hl 0 rfl) ?_
      refine va_get (D := G) (ci := 8) (v := .int 2) (C := RX6) (T := TX6) (N := 29) hx hb hts iX6_step hown hE.1 hP 29 (zg_29 cs ad (zs σ 29 28 2) tl) rfl 28 (by decide) (hts (.fieldLink RX6 82 "HandoverDeckModel" "thrown" "I") (by decide +kernel)) (fun _ h9 => h9) rfl dX6_step_32 ?_
      refine lv_if_le (tgt := 40) hx hb dX6_step_35 (by decide) (fun c => absurd c (by decide)) (fun _ => ?_)
      refine lv_iconst (v := (-1)) hx hb dX6_step_38 (by decide) ?_
      obtain ⟨e1, e2⟩ := z2 hR.symm
      subst e1; subst e2
      exact W.iret (v := (-1)) hx hb hr (fun t ht hW => ⟨⟨_, (), rfl, rfl, by rw [ht]; exact hP, hD⟩, hS.F ht⟩) hS.2.2 dX6_step_39
  · have hR := hR.trans (if_pos c_1)
    refine lv_iconst (v := 1) hx hb dX6_step_9 (by decide) ?_
    refine lv_goto (tgt := 28) hx hb dX6_step_10 (by decide) ?_
    refine va_put (D := G) (ci := 8) (v := .int 1) (ty := .int) (C := RX6) (T := TX6) (N := 29) hx hb hts iX6_step tyX6 tyX6_ok nmX6 hown hE.1 hP hD hS 29 (zg_29 cs ad σ tl) rfl 28 (by decide) (hts (.fieldLink RX6 82 "HandoverDeckModel" "thrown" "I") (by decide +kernel)) (fun _ h9 => h9) rfl (by decide +kernel) rfl rfl (Nat.le_of_ble_eq_true rfl) dX6_step_28 (fun H locs hP hD hS => ?_)
    rw [zb_29_28 cs ad σ tl] at hP hD
    refine lv_aload_n hx hb dX6_step_31 rfl (lv_at hl 0 rfl) ?_
    refine va_get (D := G) (ci := 8) (v := .int 1) (C := RX6) (T := TX6) (N := 29) hx hb hts iX6_step hown hE.1 hP 29 (zg_29 cs ad (zs σ 29 28 1) tl) rfl 28 (by decide) (hts (.fieldLink RX6 82 "HandoverDeckModel" "thrown" "I") (by decide +kernel)) (fun _ h9 => h9) rfl dX6_step_32 ?_
    refine lv_if_le (tgt := 40) hx hb dX6_step_35 (by decide) (fun c => absurd c (by decide)) (fun _ => ?_)
    refine lv_iconst (v := (-1)) hx hb dX6_step_38 (by decide) ?_
    obtain ⟨e1, e2⟩ := z2 hR.symm
    subst e1; subst e2
    exact W.iret (v := (-1)) hx hb hr (fun t ht hW => ⟨⟨_, (), rfl, rfl, by rw [ht]; exact hP, hD⟩, hS.F ht⟩) hS.2.2 dX6_step_39
def f_X6_undo (σ : zS) (a1 : Int32) : Int32 × zS := (if (f_X6_isProcedure σ a1) = 0 then ((-1), (zs σ 29 28 1)) else (if (σ 47 a1.toNatClampNeg) = 0 then ((-1), (zs σ 29 28 2)) else (if (f_X6_acts σ ) = 0 then ((-1), (zs σ 29 28 2)) else (if (σ 29 7) = 60 then ((-1), (zs σ 29 28 2)) else (if (σ 30 (σ 41 (((8 * a1) + (σ 47 a1.toNatClampNeg)) - 1).toNatClampNeg).toNatClampNeg) = (σ 42 (((8 * a1) + (σ 47 a1.toNatClampNeg)) - 1).toNatClampNeg) then (if (f_X6_barring σ (σ 41 (((8 * a1) + (σ 47 a1.toNatClampNeg)) - 1).toNatClampNeg)) = (-1) then (((zs (f_X6_opens (zs (zs (zs σ 29 28 0) 30 (σ 41 (((8 * a1) + (σ 47 a1.toNatClampNeg)) - 1).toNatClampNeg).toNatClampNeg (σ 43 (((8 * a1) + (σ 47 a1.toNatClampNeg)) - 1).toNatClampNeg)) 47 a1.toNatClampNeg ((σ 47 a1.toNatClampNeg) - 1)) 115).2 45 (((8 * a1) + (σ 47 a1.toNatClampNeg)) - 1).toNatClampNeg (f_X6_opens (zs (zs (zs σ 29 28 0) 30 (σ 41 (((8 * a1) + (σ 47 a1.toNatClampNeg)) - 1).toNatClampNeg).toNatClampNeg (σ 43 (((8 * a1) + (σ 47 a1.toNatClampNeg)) - 1).toNatClampNeg)) 47 a1.toNatClampNeg ((σ 47 a1.toNatClampNeg) - 1)) 115).1) 45 (((8 * a1) + (σ 47 a1.toNatClampNeg)) - 1).toNatClampNeg), (zs (f_X6_opens (zs (zs (zs σ 29 28 0) 30 (σ 41 (((8 * a1) + (σ 47 a1.toNatClampNeg)) - 1).toNatClampNeg).toNatClampNeg (σ 43 (((8 * a1) + (σ 47 a1.toNatClampNeg)) - 1).toNatClampNeg)) 47 a1.toNatClampNeg ((σ 47 a1.toNatClampNeg) - 1)) 115).2 45 (((8 * a1) + (σ 47 a1.toNatClampNeg)) - 1).toNatClampNeg (f_X6_opens (zs (zs (zs σ 29 28 0) 30 (σ 41 (((8 * a1) + (σ 47 a1.toNatClampNeg)) - 1).toNatClampNeg).toNatClampNeg (σ 43 (((8 * a1) + (σ 47 a1.toNatClampNeg)) - 1).toNatClampNeg)) 47 a1.toNatClampNeg ((σ 47 a1.toNatClampNeg) - 1)) 115).1)) else ((-1), (zs σ 29 28 3))) else ((-1), (zs σ 29 28 3)))))))
theorem iX6_undo : ∀ w ∈ u_ws RX6 TX6 29, w ∈ wsX6_undo := by decide +kernel
set_option maxRecDepth 100000 in
theorem c_X6_undo (l : Launch) (G : va_G) (cs : Nat → ClassId) (ad : Nat → Nat) (tl : va_W) (σ : zS) (a1 : Int32) (hI : zI σ) : zMi l yX6_undo wsX6_undo { frames := 2, cells := 0, slots := 0, locals := 46 } G cs [.ref (ad 29), .int a1] (zw cs ad σ tl) (f_X6_undo σ a1).1 (zw cs ad (f_X6_undo σ a1).2 tl) 0 0 := by
  intro sz
  refine Met.ofW (cc := cX6_undo) (maxL := 3) (ret := (some .int)) (by decide) rfl ?_
  intro p e s m args below meth c s₁ B hml hv
  obtain ⟨rfl, hsz, hP, hD0, hE⟩ := hv
  have hx := B.exec
  have hb := B.bytes
  have hr := B.returns
  have hts := atoms_spec (ws := wsX6_undo) B.pre
  have hown : s.vm.findClass RX6 = some m.cls := findClass_of_methodNamed B.named
  have hlocks := B.notSynchronized
  subst hsz
  have hD := hD0.self (sz := s.heap.size)
  have hA : ∀ q : Nat, s.heap.size ≤ q → (va_A (zw cs ad σ tl) s.heap.size) q := fun q h => Or.inr h
  generalize va_A (zw cs ad σ tl) s.heap.size = A at hD hE hA ⊢
  have hS : va_S A s.heap s.heap [] := va_S.rf
  have hl := lv_entry ([.ref (ad 29), .int a1]) (n := 3) (Nat.le_of_ble_eq_true rfl)
  rw [lg_entry_eq]
  generalize (lg_sl ([.ref (ad 29), .int a1]) ++ List.replicate (3 - (lg_sl ([.ref (ad 29), .int a1])).length) Slot.unset).toArray = ls at hl ⊢
  have hl : lv_has ls 3 [(0, .ref (ad 29)), (1, .int a1)] := hl
  generalize hR : (f_X6_undo σ a1) = RV
  have hR := hR.symm
  unfold f_X6_undo at hR
  obtain ⟨RVv, RVs⟩ := RV
  dsimp only
  obtain ⟨H, hH⟩ : ∃ z, z = s.heap := ⟨_, rfl⟩
  obtain ⟨locs, hlocs⟩ : ∃ z : List Loc, z = [] := ⟨_, rfl⟩
  rw [← hH] at hP
  have hS : va_S A s.heap H locs := by rw [hH, hlocs]; exact hS
  show W _ _ _ _ _ _ _ _ _ _ s.heap [] _ _ _ _
  rw [← hH, ← hlocs]
  clear hlocs
  refine lv_aload_n hx hb dX6_undo_0 rfl (lv_at hl 0 rfl) ?_
  refine lv_iload_n hx hb dX6_undo_1 rfl (lv_at hl 1 rfl) ?_
  refine zai (va_runV (As := [.int a1]) (rest := []) ⟨hx, hb, hml, hown, hts⟩ (c_X6_isProcedure l G cs ad tl σ a1  H.size) (cwV 1 hts gX6_undo_X6_isProcedure rfl rfl rfl (by decide +kernel) ⟨Nat.le_of_ble_eq_true rfl, Nat.le_of_ble_eq_true rfl⟩) (zpv hE hP hD hS hA (zg_29 cs ad σ tl) rfl) rfl rfl hl.1 rfl (lv_room (Nat.le_of_ble_eq_true rfl)) dX6_undo_2 ⟨Nat.le_of_ble_eq_true rfl, Nat.le_of_ble_eq_true rfl⟩) hD hS hA (fun H locs hP hD hS => ?_)
  refine lv_if_eq (tgt := 33) hx hb dX6_undo_5 (by decide) (fun c_1 => ?_) (fun c_1 => ?_)
  · have hR := hR.trans (if_pos c_1)
    refine lv_aload_n hx hb dX6_undo_33 rfl (lv_at hl 0 rfl) ?_
    refine lv_aload_n hx hb dX6_undo_34 rfl (lv_at hl 0 rfl) ?_
    refine lv_iload_n hx hb dX6_undo_35 rfl (lv_at hl 1 rfl) ?_
    refine zai (va_runV (As := [.int a1]) (rest := [.ref (ad 29)]) ⟨hx, hb, hml, hown, hts⟩ (c_X6_isProcedure l G cs ad tl σ a1  H.size) (cwV 1 hts gX6_undo_X6_isProcedure rfl rfl rfl (by decide +kernel) ⟨Nat.le_of_ble_eq_true rfl, Nat.le_of_ble_eq_true rfl⟩) (zpv hE hP hD hS hA (zg_29 cs ad σ tl) rfl) rfl rfl hl.1 rfl (lv_room (Nat.le_of_ble_eq_true rfl)) dX6_undo_36 ⟨Nat.le_of_ble_eq_true rfl, Nat.le_of_ble_eq_true rfl⟩) hD hS hA (fun H locs hP hD hS => ?_)
    refine lv_if_ne (tgt := 46) hx hb dX6_undo_39 (by decide) (fun c => absurd c_1 c) (fun _ => ?_)
    refine lv_iconst (v := 1) hx hb dX6_undo_42 (by decide) ?_
    refine lv_goto (tgt := 47) hx hb dX6_undo_43 (by decide) ?_
    refine va_put (D := G) (ci := 8) (v := .int 1) (ty := .int) (C := RX6) (T := TX6) (N := 29) hx hb hts iX6_undo tyX6 tyX6_ok nmX6 hown hE.1 hP hD hS 29 (zg_29 cs ad σ tl) rfl 28 (by decide) (hts (.fieldLink RX6 82 "HandoverDeckModel" "thrown" "I") (by decide +kernel)) (fun _ h9 => h9) rfl (by decide +kernel) rfl rfl (Nat.le_of_ble_eq_true rfl) dX6_undo_47 (fun H locs hP hD hS => ?_)
    rw [zb_29_28 cs ad σ tl] at hP hD
    refine lv_iconst (v := (-1)) hx hb dX6_undo_50 (by decide) ?_
    obtain ⟨e1, e2⟩ := z2 hR.symm
    subst e1; subst e2
    exact W.iret (v := (-1)) hx hb hr (fun t ht hW => ⟨⟨_, (), rfl, rfl, by rw [ht]; exact hP, hD⟩, hS.F ht⟩) hS.2.2 dX6_undo_51
  · have hR := hR.trans (if_neg c_1)
    refine lv_aload_n hx hb dX6_undo_8 rfl (lv_at hl 0 rfl) ?_
    refine va_get (D := G) (ci := 8) (v := .ref (ad 47)) (C := RX6) (T := TX6) (N := 29) hx hb hts iX6_undo hown hE.1 hP 29 (zg_29 cs ad σ tl) rfl 19 (by decide) (hts (.fieldLink RX6 63 "HandoverDeckModel" "doneOf" "[I") (by decide +kernel)) (fun _ h9 => h9) rfl dX6_undo_9 ?_
    refine lv_iload_n hx hb dX6_undo_12 rfl (lv_at hl 1 rfl) ?_
    refine z_iald (v := (σ 47 a1.toNatClampNeg)) hx hb hE hP (zg_47 cs ad σ tl) (vin_X6_isProcedure hI c_1) rfl dX6_undo_13 ?_
    refine lv_if_eq (tgt := 33) hx hb dX6_undo_14 (by decide) (fun c_2 => ?_) (fun c_2 => ?_)
    · have hR := hR.trans (if_pos c_2)
      refine lv_aload_n hx hb dX6_undo_33 rfl (lv_at hl 0 rfl) ?_
      refine lv_aload_n hx hb dX6_undo_34 rfl (lv_at hl 0 rfl) ?_
      refine lv_iload_n hx hb dX6_undo_35 rfl (lv_at hl 1 rfl) ?_
      refine zai (va_runV (As := [.int a1]) (rest := [.ref (ad 29)]) ⟨hx, hb, hml, hown, hts⟩ (c_X6_isProcedure l G cs ad tl σ a1  H.size) (cwV 1 hts gX6_undo_X6_isProcedure rfl rfl rfl (by decide +kernel) ⟨Nat.le_of_ble_eq_true rfl, Nat.le_of_ble_eq_true rfl⟩) (zpv hE hP hD hS hA (zg_29 cs ad σ tl) rfl) rfl rfl hl.1 rfl (lv_room (Nat.le_of_ble_eq_true rfl)) dX6_undo_36 ⟨Nat.le_of_ble_eq_true rfl, Nat.le_of_ble_eq_true rfl⟩) hD hS hA (fun H locs hP hD hS => ?_)
      refine lv_if_ne (tgt := 46) hx hb dX6_undo_39 (by decide) (fun _ => ?_) (fun c => absurd c c_1)
      refine lv_iconst (v := 2) hx hb dX6_undo_46 (by decide) ?_
      refine va_put (D := G) (ci := 8) (v := .int 2) (ty := .int) (C := RX6) (T := TX6) (N := 29) hx hb hts iX6_undo tyX6 tyX6_ok nmX6 hown hE.1 hP hD hS 29 (zg_29 cs ad σ tl) rfl 28 (by decide) (hts (.fieldLink RX6 82 "HandoverDeckModel" "thrown" "I") (by decide +kernel)) (fun _ h9 => h9) rfl (by decide +kernel) rfl rfl (Nat.le_of_ble_eq_true rfl) dX6_undo_47 (fun H locs hP hD hS => ?_)
      rw [zb_29_28 cs ad σ tl] at hP hD
      refine lv_iconst (v := (-1)) hx hb dX6_undo_50 (by decide) ?_
      obtain ⟨e1, e2⟩ := z2 hR.symm
      subst e1; subst e2
      exact W.iret (v := (-1)) hx hb hr (fun t ht hW => ⟨⟨_, (), rfl, rfl, by rw [ht]; exact hP, hD⟩, hS.F ht⟩) hS.2.2 dX6_undo_51
    · have hR := hR.trans (if_neg c_2)
      refine lv_aload_n hx hb dX6_undo_17 rfl (lv_at hl 0 rfl) ?_
      refine zai (va_runV (As := []) (rest := []) ⟨hx, hb, hml, hown, hts⟩ (c_X6_acts l G cs ad tl σ   H.size) (cwV 0 hts gX6_undo_X6_acts rfl rfl rfl (by decide +kernel) ⟨Nat.le_of_ble_eq_true rfl, Nat.le_of_ble_eq_true rfl⟩) (zpv hE hP hD hS hA (zg_29 cs ad σ tl) rfl) rfl rfl hl.1 rfl (lv_room (Nat.le_of_ble_eq_true rfl)) dX6_undo_18 ⟨Nat.le_of_ble_eq_true rfl, Nat.le_of_ble_eq_true rfl⟩) hD hS hA (fun H locs hP hD hS => ?_)
      refine lv_if_eq (tgt := 33) hx hb dX6_undo_21 (by decide) (fun c_3 => ?_) (fun c_3 => ?_)
      · have hR := hR.trans (if_pos c_3)
        refine lv_aload_n hx hb dX6_undo_33 rfl (lv_at hl 0 rfl) ?_
        refine lv_aload_n hx hb dX6_undo_34 rfl (lv_at hl 0 rfl) ?_
        refine lv_iload_n hx hb dX6_undo_35 rfl (lv_at hl 1 rfl) ?_
        refine zai (va_runV (As := [.int a1]) (rest := [.ref (ad 29)]) ⟨hx, hb, hml, hown, hts⟩ (c_X6_isProcedure l G cs ad tl σ a1  H.size) (cwV 1 hts gX6_undo_X6_isProcedure rfl rfl rfl (by decide +kernel) ⟨Nat.le_of_ble_eq_true rfl, Nat.le_of_ble_eq_true rfl⟩) (zpv hE hP hD hS hA (zg_29 cs ad σ tl) rfl) rfl rfl hl.1 rfl (lv_room (Nat.le_of_ble_eq_true rfl)) dX6_undo_36 ⟨Nat.le_of_ble_eq_true rfl, Nat.le_of_ble_eq_true rfl⟩) hD hS hA (fun H locs hP hD hS => ?_)
        refine lv_if_ne (tgt := 46) hx hb dX6_undo_39 (by decide) (fun _ => ?_) (fun c => absurd c c_1)
        refine lv_iconst (v := 2) hx hb dX6_undo_46 (by decide) ?_
        refine va_put (D := G) (ci := 8) (v := .int 2) (ty := .int) (C := RX6) (T := TX6) (N := 29) hx hb hts iX6_undo tyX6 tyX6_ok nmX6 hown hE.1 hP hD hS 29 (zg_29 cs ad σ tl) rfl 28 (by decide) (hts (.fieldLink RX6 82 "HandoverDeckModel" "thrown" "I") (by decide +kernel)) (fun _ h9 => h9) rfl (by decide +kernel) rfl rfl (Nat.le_of_ble_eq_true rfl) dX6_undo_47 (fun H locs hP hD hS => ?_)
        rw [zb_29_28 cs ad σ tl] at hP hD
        refine lv_iconst (v := (-1)) hx hb dX6_undo_50 (by decide) ?_
        obtain ⟨e1, e2⟩ := z2 hR.symm
        subst e1; subst e2
        exact W.iret (v := (-1)) hx hb hr (fun t ht hW => ⟨⟨_, (), rfl, rfl, by rw [ht]; exact hP, hD⟩, hS.F ht⟩) hS.2.2 dX6_undo_51
      · have hR := hR.trans (if_neg c_3)
        refine lv_aload_n hx hb dX6_undo_24 rfl (lv_at hl 0 rfl) ?_
        refine va_get (D := G) (ci := 8) (v := .int (σ 29 7)) (C := RX6) (T := TX6) (N := 29) hx hb hts iX6_undo hown hE.1 hP 29 (zg_29 cs ad σ tl) rfl 7 (by decide) (hts (.fieldLink RX6 95 "HandoverDeckModel" "lines" "I") (by decide +kernel)) (fun _ h9 => h9) rfl dX6_undo_25 ?_
        refine lv_bipush (v := 60) hx hb dX6_undo_28 (by decide) ?_
        refine lv_icmp_ne (tgt := 52) hx hb dX6_undo_30 (by decide) (fun c_4 => ?_) (fun c_4 => ?_)
        · have hR := hR.trans (if_neg c_4)
          refine lv_bipush (v := 8) hx hb dX6_undo_52 (by decide) ?_
          refine lv_iload_n hx hb dX6_undo_54 rfl (lv_at hl 1 rfl) ?_
          refine lv_imul hx hb dX6_undo_55 ?_
          refine lv_aload_n hx hb dX6_undo_56 rfl (lv_at hl 0 rfl) ?_
          refine va_get (D := G) (ci := 8) (v := .ref (ad 47)) (C := RX6) (T := TX6) (N := 29) hx hb hts iX6_undo hown hE.1 hP 29 (zg_29 cs ad σ tl) rfl 19 (by decide) (hts (.fieldLink RX6 63 "HandoverDeckModel" "doneOf" "[I") (by decide +kernel)) (fun _ h9 => h9) rfl dX6_undo_57 ?_
          refine lv_iload_n hx hb dX6_undo_60 rfl (lv_at hl 1 rfl) ?_
          refine z_iald (v := (σ 47 a1.toNatClampNeg)) hx hb hE hP (zg_47 cs ad σ tl) (vin_X6_isProcedure hI c_1) rfl dX6_undo_61 ?_
          refine lv_iadd hx hb dX6_undo_62 ?_
          refine lv_iconst (v := 1) hx hb dX6_undo_63 (by decide) ?_
          refine lv_isub hx hb dX6_undo_64 ?_
          refine lv_istore_n (lv' := [(2, .int (((8 * a1) + (σ 47 a1.toNatClampNeg)) - 1)), (0, .ref (ad 29)), (1, .int a1)]) hx hb dX6_undo_65 rfl hl (by decide) rfl (fun ls hl => ?_)
          refine lv_aload_n hx hb dX6_undo_66 rfl (lv_at hl 1 rfl) ?_
          refine lv_aload_n hx hb dX6_undo_67 rfl (lv_at hl 1 rfl) ?_
          refine va_get (D := G) (ci := 8) (v := .ref (ad 30)) (C := RX6) (T := TX6) (N := 29) hx hb hts iX6_undo hown hE.1 hP 29 (zg_29 cs ad σ tl) rfl 1 (by decide) (hts (.fieldLink RX6 7 "HandoverDeckModel" "states" "[I") (by decide +kernel)) (fun _ h9 => h9) rfl dX6_undo_68 ?_
          refine lv_aload_n hx hb dX6_undo_71 rfl (lv_at hl 1 rfl) ?_
          refine va_get (D := G) (ci := 8) (v := .ref (ad 41)) (C := RX6) (T := TX6) (N := 29) hx hb hts iX6_undo hown hE.1 hP 29 (zg_29 cs ad σ tl) rfl 13 (by decide) (hts (.fieldLink RX6 45 "HandoverDeckModel" "setUnit" "[I") (by decide +kernel)) (fun _ h9 => h9) rfl dX6_undo_72 ?_
          refine lv_iload_n hx hb dX6_undo_75 rfl (lv_at hl 0 rfl) ?_
          refine z_iald (v := (σ 41 (((8 * a1) + (σ 47 a1.toNatClampNeg)) - 1).toNatClampNeg)) hx hb hE hP (zg_41 cs ad σ tl) (vi_undoidx hI (vin_X6_isProcedure hI c_1) c_2) rfl dX6_undo_76 ?_
          refine z_iald (v := (σ 30 (σ 41 (((8 * a1) + (σ 47 a1.toNatClampNeg)) - 1).toNatClampNeg).toNatClampNeg)) hx hb hE hP (zg_30 cs ad σ tl) (vi_set hI (vi_undoidx hI (vin_X6_isProcedure hI c_1) c_2)) rfl dX6_undo_77 ?_
          refine lv_aload_n hx hb dX6_undo_78 rfl (lv_at hl 1 rfl) ?_
          refine va_get (D := G) (ci := 8) (v := .ref (ad 42)) (C := RX6) (T := TX6) (N := 29) hx hb hts iX6_undo hown hE.1 hP 29 (zg_29 cs ad σ tl) rfl 14 (by decide) (hts (.fieldLink RX6 48 "HandoverDeckModel" "setState" "[I") (by decide +kernel)) (fun _ h9 => h9) rfl dX6_undo_79 ?_
          refine lv_iload_n hx hb dX6_undo_82 rfl (lv_at hl 0 rfl) ?_
          refine z_iald (v := (σ 42 (((8 * a1) + (σ 47 a1.toNatClampNeg)) - 1).toNatClampNeg)) hx hb hE hP (zg_42 cs ad σ tl) (vi_undoidx hI (vin_X6_isProcedure hI c_1) c_2) rfl dX6_undo_83 ?_
          refine lv_icmp_ne (tgt := 101) hx hb dX6_undo_84 (by decide) (fun c_5 => ?_) (fun c_5 => ?_)
          · have hR := hR.trans (if_neg c_5)
            refine lv_iconst (v := 3) hx hb dX6_undo_101 (by decide) ?_
            refine lv_goto (tgt := 106) hx hb dX6_undo_102 (by decide) ?_
            refine va_put (D := G) (ci := 8) (v := .int 3) (ty := .int) (C := RX6) (T := TX6) (N := 29) hx hb hts iX6_undo tyX6 tyX6_ok nmX6 hown hE.1 hP hD hS 29 (zg_29 cs ad σ tl) rfl 28 (by decide) (hts (.fieldLink RX6 82 "HandoverDeckModel" "thrown" "I") (by decide +kernel)) (fun _ h9 => h9) rfl (by decide +kernel) rfl rfl (Nat.le_of_ble_eq_true rfl) dX6_undo_106 (fun H locs hP hD hS => ?_)
            rw [zb_29_28 cs ad σ tl] at hP hD
            refine lv_aload_n hx hb dX6_undo_109 rfl (lv_at hl 1 rfl) ?_
            refine va_get (D := G) (ci := 8) (v := .int 3) (C := RX6) (T := TX6) (N := 29) hx hb hts iX6_undo hown hE.1 hP 29 (zg_29 cs ad (zs σ 29 28 3) tl) rfl 28 (by decide) (hts (.fieldLink RX6 82 "HandoverDeckModel" "thrown" "I") (by decide +kernel)) (fun _ h9 => h9) rfl dX6_undo_110 ?_
            refine lv_if_le (tgt := 118) hx hb dX6_undo_113 (by decide) (fun c => absurd c (by decide)) (fun _ => ?_)
            refine lv_iconst (v := (-1)) hx hb dX6_undo_116 (by decide) ?_
            obtain ⟨e1, e2⟩ := z2 hR.symm
            subst e1; subst e2
            exact W.iret (v := (-1)) hx hb hr (fun t ht hW => ⟨⟨_, (), rfl, rfl, by rw [ht]; exact hP, hD⟩, hS.F ht⟩) hS.2.2 dX6_undo_117
          · have hR := hR.trans (if_pos c_5)
            refine lv_aload_n hx hb dX6_undo_87 rfl (lv_at hl 1 rfl) ?_
            refine lv_aload_n hx hb dX6_undo_88 rfl (lv_at hl 1 rfl) ?_
            refine va_get (D := G) (ci := 8) (v := .ref (ad 41)) (C := RX6) (T := TX6) (N := 29) hx hb hts iX6_undo hown hE.1 hP 29 (zg_29 cs ad σ tl) rfl 13 (by decide) (hts (.fieldLink RX6 45 "HandoverDeckModel" "setUnit" "[I") (by decide +kernel)) (fun _ h9 => h9) rfl dX6_undo_89 ?_
            refine lv_iload_n hx hb dX6_undo_92 rfl (lv_at hl 0 rfl) ?_
            refine z_iald (v := (σ 41 (((8 * a1) + (σ 47 a1.toNatClampNeg)) - 1).toNatClampNeg)) hx hb hE hP (zg_41 cs ad σ tl) (vi_undoidx hI (vin_X6_isProcedure hI c_1) c_2) rfl dX6_undo_93 ?_
            refine zai (va_runV (As := [.int (σ 41 (((8 * a1) + (σ 47 a1.toNatClampNeg)) - 1).toNatClampNeg)]) (rest := [.ref (ad 29)]) ⟨hx, hb, hml, hown, hts⟩ (c_X6_barring l G cs ad tl σ (σ 41 (((8 * a1) + (σ 47 a1.toNatClampNeg)) - 1).toNatClampNeg) hI H.size) (cwV 1 hts gX6_undo_X6_barring rfl rfl rfl (by decide +kernel) ⟨Nat.le_of_ble_eq_true rfl, Nat.le_of_ble_eq_true rfl⟩) (zpv hE hP hD hS hA (zg_29 cs ad σ tl) rfl) rfl rfl hl.1 rfl (lv_room (Nat.le_of_ble_eq_true rfl)) dX6_undo_94 ⟨Nat.le_of_ble_eq_true rfl, Nat.le_of_ble_eq_true rfl⟩) hD hS hA (fun H locs hP hD hS => ?_)
            refine lv_iconst (v := (-1)) hx hb dX6_undo_97 (by decide) ?_
            refine lv_icmp_eq (tgt := 105) hx hb dX6_undo_98 (by decide) (fun c_6 => ?_) (fun c_6 => ?_)
            · have hR := hR.trans (if_pos c_6)
              refine lv_iconst (v := 0) hx hb dX6_undo_105 (by decide) ?_
              refine va_put (D := G) (ci := 8) (v := .int 0) (ty := .int) (C := RX6) (T := TX6) (N := 29) hx hb hts iX6_undo tyX6 tyX6_ok nmX6 hown hE.1 hP hD hS 29 (zg_29 cs ad σ tl) rfl 28 (by decide) (hts (.fieldLink RX6 82 "HandoverDeckModel" "thrown" "I") (by decide +kernel)) (fun _ h9 => h9) rfl (by decide +kernel) rfl rfl (Nat.le_of_ble_eq_true rfl) dX6_undo_106 (fun H locs hP hD hS => ?_)
              rw [zb_29_28 cs ad σ tl] at hP hD
              refine lv_aload_n hx hb dX6_undo_109 rfl (lv_at hl 1 rfl) ?_
              refine va_get (D := G) (ci := 8) (v := .int 0) (C := RX6) (T := TX6) (N := 29) hx hb hts iX6_undo hown hE.1 hP 29 (zg_29 cs ad (zs σ 29 28 0) tl) rfl 28 (by decide) (hts (.fieldLink RX6 82 "HandoverDeckModel" "thrown" "I") (by decide +kernel)) (fun _ h9 => h9) rfl dX6_undo_110 ?_
              refine lv_if_le (tgt := 118) hx hb dX6_undo_113 (by decide) (fun _ => ?_) (fun c => absurd c (by decide))
              refine lv_aload_n hx hb dX6_undo_118 rfl (lv_at hl 1 rfl) ?_
              refine va_get (D := G) (ci := 8) (v := .ref (ad 30)) (C := RX6) (T := TX6) (N := 29) hx hb hts iX6_undo hown hE.1 hP 29 (zg_29 cs ad (zs σ 29 28 0) tl) rfl 1 (by decide) (hts (.fieldLink RX6 7 "HandoverDeckModel" "states" "[I") (by decide +kernel)) (fun _ h9 => h9) rfl dX6_undo_119 ?_
              refine lv_aload_n hx hb dX6_undo_122 rfl (lv_at hl 1 rfl) ?_
              refine va_get (D := G) (ci := 8) (v := .ref (ad 41)) (C := RX6) (T := TX6) (N := 29) hx hb hts iX6_undo hown hE.1 hP 29 (zg_29 cs ad (zs σ 29 28 0) tl) rfl 13 (by decide) (hts (.fieldLink RX6 45 "HandoverDeckModel" "setUnit" "[I") (by decide +kernel)) (fun _ h9 => h9) rfl dX6_undo_123 ?_
              refine lv_iload_n hx hb dX6_undo_126 rfl (lv_at hl 0 rfl) ?_
              refine z_iald (v := (σ 41 (((8 * a1) + (σ 47 a1.toNatClampNeg)) - 1).toNatClampNeg)) hx hb hE hP (zg_41 cs ad (zs σ 29 28 0) tl) (vi_undoidx hI (vin_X6_isProcedure hI c_1) c_2) (by rw [zs_ne (k := 29) (k' := 41) (by decide)]) dX6_undo_127 ?_
              refine lv_aload_n hx hb dX6_undo_128 rfl (lv_at hl 1 rfl) ?_
              refine va_get (D := G) (ci := 8) (v := .ref (ad 43)) (C := RX6) (T := TX6) (N := 29) hx hb hts iX6_undo hown hE.1 hP 29 (zg_29 cs ad (zs σ 29 28 0) tl) rfl 15 (by decide) (hts (.fieldLink RX6 51 "HandoverDeckModel" "noted" "[I") (by decide +kernel)) (fun _ h9 => h9) rfl dX6_undo_129 ?_
              refine lv_iload_n hx hb dX6_undo_132 rfl (lv_at hl 0 rfl) ?_
              refine z_iald (v := (σ 43 (((8 * a1) + (σ 47 a1.toNatClampNeg)) - 1).toNatClampNeg)) hx hb hE hP (zg_43 cs ad (zs σ 29 28 0) tl) (vi_undoidx hI (vin_X6_isProcedure hI c_1) c_2) (by rw [zs_ne (k := 29) (k' := 43) (by decide)]) dX6_undo_133 ?_
              refine z_iast hx hb hE hP hD hS (zg_30 cs ad (zs σ 29 28 0) tl) (zb_30 cs ad (zs σ 29 28 0) tl) (vi_set hI (vi_undoidx hI (vin_X6_isProcedure hI c_1) c_2)) dX6_undo_134 (fun H locs hP hD hS => ?_)
              refine lv_aload_n hx hb dX6_undo_135 rfl (lv_at hl 1 rfl) ?_
              refine va_get (D := G) (ci := 8) (v := .ref (ad 47)) (C := RX6) (T := TX6) (N := 29) hx hb hts iX6_undo hown hE.1 hP 29 (zg_29 cs ad (zs (zs σ 29 28 0) 30 (σ 41 (((8 * a1) + (σ 47 a1.toNatClampNeg)) - 1).toNatClampNeg).toNatClampNeg (σ 43 (((8 * a1) + (σ 47 a1.toNatClampNeg)) - 1).toNatClampNeg)) tl) rfl 19 (by decide) (hts (.fieldLink RX6 63 "HandoverDeckModel" "doneOf" "[I") (by decide +kernel)) (fun _ h9 => h9) rfl dX6_undo_136 ?_
              refine lv_iload_n hx hb dX6_undo_139 rfl (lv_at hl 2 rfl) ?_
              refine lv_dup2_11 hx hb dX6_undo_140 rfl rfl ?_
              refine z_iald (v := (σ 47 a1.toNatClampNeg)) hx hb hE hP (zg_47 cs ad (zs (zs σ 29 28 0) 30 (σ 41 (((8 * a1) + (σ 47 a1.toNatClampNeg)) - 1).toNatClampNeg).toNatClampNeg (σ 43 (((8 * a1) + (σ 47 a1.toNatClampNeg)) - 1).toNatClampNeg)) tl) (vin_X6_isProcedure hI c_1) (by rw [zs_ne (k := 30) (k' := 47) (by decide), zs_ne (k := 29) (k' := 47) (by decide)]) dX6_undo_141 ?_
              refine lv_iconst (v := 1) hx hb dX6_undo_142 (by decide) ?_
              refine lv_isub hx hb dX6_undo_143 ?_
              refine z_iast hx hb hE hP hD hS (zg_47 cs ad (zs (zs σ 29 28 0) 30 (σ 41 (((8 * a1) + (σ 47 a1.toNatClampNeg)) - 1).toNatClampNeg).toNatClampNeg (σ 43 (((8 * a1) + (σ 47 a1.toNatClampNeg)) - 1).toNatClampNeg)) tl) (zb_47 cs ad (zs (zs σ 29 28 0) 30 (σ 41 (((8 * a1) + (σ 47 a1.toNatClampNeg)) - 1).toNatClampNeg).toNatClampNeg (σ 43 (((8 * a1) + (σ 47 a1.toNatClampNeg)) - 1).toNatClampNeg)) tl) (vin_X6_isProcedure hI c_1) dX6_undo_144 (fun H locs hP hD hS => ?_)
              refine lv_aload_n hx hb dX6_undo_145 rfl (lv_at hl 1 rfl) ?_
              refine va_get (D := G) (ci := 8) (v := .ref (ad 45)) (C := RX6) (T := TX6) (N := 29) hx hb hts iX6_undo hown hE.1 hP 29 (zg_29 cs ad (zs (zs (zs σ 29 28 0) 30 (σ 41 (((8 * a1) + (σ 47 a1.toNatClampNeg)) - 1).toNatClampNeg).toNatClampNeg (σ 43 (((8 * a1) + (σ 47 a1.toNatClampNeg)) - 1).toNatClampNeg)) 47 a1.toNatClampNeg ((σ 47 a1.toNatClampNeg) - 1)) tl) rfl 17 (by decide) (hts (.fieldLink RX6 57 "HandoverDeckModel" "undoneLine" "[I") (by decide +kernel)) (fun _ h9 => h9) rfl dX6_undo_146 ?_
              refine lv_iload_n hx hb dX6_undo_149 rfl (lv_at hl 0 rfl) ?_
              refine lv_aload_n hx hb dX6_undo_150 rfl (lv_at hl 1 rfl) ?_
              refine lv_bipush (v := 115) hx hb dX6_undo_151 (by decide) ?_
              refine zai (va_runV (As := [.int 115]) (rest := [.int (((8 * a1) + (σ 47 a1.toNatClampNeg)) - 1), .ref (ad 45)]) ⟨hx, hb, hml, hown, hts⟩ (c_X6_opens l G cs ad tl (zs (zs (zs σ 29 28 0) 30 (σ 41 (((8 * a1) + (σ 47 a1.toNatClampNeg)) - 1).toNatClampNeg).toNatClampNeg (σ 43 (((8 * a1) + (σ 47 a1.toNatClampNeg)) - 1).toNatClampNeg)) 47 a1.toNatClampNeg ((σ 47 a1.toNatClampNeg) - 1)) 115 (vi_lines (σ := σ) hI c_4) (by decide) H.size) (cwV 1 hts gX6_undo_X6_opens rfl rfl rfl (by decide +kernel) ⟨Nat.le_of_ble_eq_true rfl, Nat.le_of_ble_eq_true rfl⟩) (zpv hE hP hD hS hA (zg_29 cs ad (zs (zs (zs σ 29 28 0) 30 (σ 41 (((8 * a1) + (σ 47 a1.toNatClampNeg)) - 1).toNatClampNeg).toNatClampNeg (σ 43 (((8 * a1) + (σ 47 a1.toNatClampNeg)) - 1).toNatClampNeg)) 47 a1.toNatClampNeg ((σ 47 a1.toNatClampNeg) - 1)) tl) rfl) rfl rfl hl.1 rfl (lv_room (Nat.le_of_ble_eq_true rfl)) dX6_undo_153 ⟨Nat.le_of_ble_eq_true rfl, Nat.le_of_ble_eq_true rfl⟩) hD hS hA (fun H locs hP hD hS => ?_)
              refine z_iast hx hb hE hP hD hS (zg_45 cs ad (f_X6_opens (zs (zs (zs σ 29 28 0) 30 (σ 41 (((8 * a1) + (σ 47 a1.toNatClampNeg)) - 1).toNatClampNeg).toNatClampNeg (σ 43 (((8 * a1) + (σ 47 a1.toNatClampNeg)) - 1).toNatClampNeg)) 47 a1.toNatClampNeg ((σ 47 a1.toNatClampNeg) - 1)) 115).2 tl) (zb_45 cs ad (f_X6_opens (zs (zs (zs σ 29 28 0) 30 (σ 41 (((8 * a1) + (σ 47 a1.toNatClampNeg)) - 1).toNatClampNeg).toNatClampNeg (σ 43 (((8 * a1) + (σ 47 a1.toNatClampNeg)) - 1).toNatClampNeg)) 47 a1.toNatClampNeg ((σ 47 a1.toNatClampNeg) - 1)) 115).2 tl) (vi_undoidx hI (vin_X6_isProcedure hI c_1) c_2) dX6_undo_156 (fun H locs hP hD hS => ?_)
              refine lv_aload_n hx hb dX6_undo_157 rfl (lv_at hl 1 rfl) ?_
              refine va_get (D := G) (ci := 8) (v := .ref (ad 45)) (C := RX6) (T := TX6) (N := 29) hx hb hts iX6_undo hown hE.1 hP 29 (zg_29 cs ad (zs (f_X6_opens (zs (zs (zs σ 29 28 0) 30 (σ 41 (((8 * a1) + (σ 47 a1.toNatClampNeg)) - 1).toNatClampNeg).toNatClampNeg (σ 43 (((8 * a1) + (σ 47 a1.toNatClampNeg)) - 1).toNatClampNeg)) 47 a1.toNatClampNeg ((σ 47 a1.toNatClampNeg) - 1)) 115).2 45 (((8 * a1) + (σ 47 a1.toNatClampNeg)) - 1).toNatClampNeg (f_X6_opens (zs (zs (zs σ 29 28 0) 30 (σ 41 (((8 * a1) + (σ 47 a1.toNatClampNeg)) - 1).toNatClampNeg).toNatClampNeg (σ 43 (((8 * a1) + (σ 47 a1.toNatClampNeg)) - 1).toNatClampNeg)) 47 a1.toNatClampNeg ((σ 47 a1.toNatClampNeg) - 1)) 115).1) tl) rfl 17 (by decide) (hts (.fieldLink RX6 57 "HandoverDeckModel" "undoneLine" "[I") (by decide +kernel)) (fun _ h9 => h9) rfl dX6_undo_158 ?_
              refine lv_iload_n hx hb dX6_undo_161 rfl (lv_at hl 0 rfl) ?_
              refine z_iald (v := ((zs (f_X6_opens (zs (zs (zs σ 29 28 0) 30 (σ 41 (((8 * a1) + (σ 47 a1.toNatClampNeg)) - 1).toNatClampNeg).toNatClampNeg (σ 43 (((8 * a1) + (σ 47 a1.toNatClampNeg)) - 1).toNatClampNeg)) 47 a1.toNatClampNeg ((σ 47 a1.toNatClampNeg) - 1)) 115).2 45 (((8 * a1) + (σ 47 a1.toNatClampNeg)) - 1).toNatClampNeg (f_X6_opens (zs (zs (zs σ 29 28 0) 30 (σ 41 (((8 * a1) + (σ 47 a1.toNatClampNeg)) - 1).toNatClampNeg).toNatClampNeg (σ 43 (((8 * a1) + (σ 47 a1.toNatClampNeg)) - 1).toNatClampNeg)) 47 a1.toNatClampNeg ((σ 47 a1.toNatClampNeg) - 1)) 115).1) 45 (((8 * a1) + (σ 47 a1.toNatClampNeg)) - 1).toNatClampNeg)) hx hb hE hP (zg_45 cs ad (zs (f_X6_opens (zs (zs (zs σ 29 28 0) 30 (σ 41 (((8 * a1) + (σ 47 a1.toNatClampNeg)) - 1).toNatClampNeg).toNatClampNeg (σ 43 (((8 * a1) + (σ 47 a1.toNatClampNeg)) - 1).toNatClampNeg)) 47 a1.toNatClampNeg ((σ 47 a1.toNatClampNeg) - 1)) 115).2 45 (((8 * a1) + (σ 47 a1.toNatClampNeg)) - 1).toNatClampNeg (f_X6_opens (zs (zs (zs σ 29 28 0) 30 (σ 41 (((8 * a1) + (σ 47 a1.toNatClampNeg)) - 1).toNatClampNeg).toNatClampNeg (σ 43 (((8 * a1) + (σ 47 a1.toNatClampNeg)) - 1).toNatClampNeg)) 47 a1.toNatClampNeg ((σ 47 a1.toNatClampNeg) - 1)) 115).1) tl) (vi_undoidx hI (vin_X6_isProcedure hI c_1) c_2) rfl dX6_undo_162 ?_
              obtain ⟨e1, e2⟩ := z2 hR.symm
              subst e1; subst e2
              exact W.iret (v := ((zs (f_X6_opens (zs (zs (zs σ 29 28 0) 30 (σ 41 (((8 * a1) + (σ 47 a1.toNatClampNeg)) - 1).toNatClampNeg).toNatClampNeg (σ 43 (((8 * a1) + (σ 47 a1.toNatClampNeg)) - 1).toNatClampNeg)) 47 a1.toNatClampNeg ((σ 47 a1.toNatClampNeg) - 1)) 115).2 45 (((8 * a1) + (σ 47 a1.toNatClampNeg)) - 1).toNatClampNeg (f_X6_opens (zs (zs (zs σ 29 28 0) 30 (σ 41 (((8 * a1) + (σ 47 a1.toNatClampNeg)) - 1).toNatClampNeg).toNatClampNeg (σ 43 (((8 * a1) + (σ 47 a1.toNatClampNeg)) - 1).toNatClampNeg)) 47 a1.toNatClampNeg ((σ 47 a1.toNatClampNeg) - 1)) 115).1) 45 (((8 * a1) + (σ 47 a1.toNatClampNeg)) - 1).toNatClampNeg)) hx hb hr (fun t ht hW => ⟨⟨_, (), rfl, rfl, by rw [ht]; exact hP, hD⟩, hS.F ht⟩) hS.2.2 dX6_undo_163
            · have hR := hR.trans (if_neg c_6)
              refine lv_iconst (v := 3) hx hb dX6_undo_101 (by decide) ?_
              refine lv_goto (tgt := 106) hx hb dX6_undo_102 (by decide) ?_
              refine va_put (D := G) (ci := 8) (v := .int 3) (ty := .int) (C := RX6) (T := TX6) (N := 29) hx hb hts iX6_undo tyX6 tyX6_ok nmX6 hown hE.1 hP hD hS 29 (zg_29 cs ad σ tl) rfl 28 (by decide) (hts (.fieldLink RX6 82 "HandoverDeckModel" "thrown" "I") (by decide +kernel)) (fun _ h9 => h9) rfl (by decide +kernel) rfl rfl (Nat.le_of_ble_eq_true rfl) dX6_undo_106 (fun H locs hP hD hS => ?_)
              rw [zb_29_28 cs ad σ tl] at hP hD
              refine lv_aload_n hx hb dX6_undo_109 rfl (lv_at hl 1 rfl) ?_
              refine va_get (D := G) (ci := 8) (v := .int 3) (C := RX6) (T := TX6) (N := 29) hx hb hts iX6_undo hown hE.1 hP 29 (zg_29 cs ad (zs σ 29 28 3) tl) rfl 28 (by decide) (hts (.fieldLink RX6 82 "HandoverDeckModel" "thrown" "I") (by decide +kernel)) (fun _ h9 => h9) rfl dX6_undo_110 ?_
              refine lv_if_le (tgt := 118) hx hb dX6_undo_113 (by decide) (fun c => absurd c (by decide)) (fun _ => ?_)
              refine lv_iconst (v := (-1)) hx hb dX6_undo_116 (by decide) ?_
              obtain ⟨e1, e2⟩ := z2 hR.symm
              subst e1; subst e2
              exact W.iret (v := (-1)) hx hb hr (fun t ht hW => ⟨⟨_, (), rfl, rfl, by rw [ht]; exact hP, hD⟩, hS.F ht⟩) hS.2.2 dX6_undo_117
        · have hR := hR.trans (if_pos c_4)
          refine lv_aload_n hx hb dX6_undo_33 rfl (lv_at hl 0 rfl) ?_
          refine lv_aload_n hx hb dX6_undo_34 rfl (lv_at hl 0 rfl) ?_
          refine lv_iload_n hx hb dX6_undo_35 rfl (lv_at hl 1 rfl) ?_
          refine zai (va_runV (As := [.int a1]) (rest := [.ref (ad 29)]) ⟨hx, hb, hml, hown, hts⟩ (c_X6_isProcedure l G cs ad tl σ a1  H.size) (cwV 1 hts gX6_undo_X6_isProcedure rfl rfl rfl (by decide +kernel) ⟨Nat.le_of_ble_eq_true rfl, Nat.le_of_ble_eq_true rfl⟩) (zpv hE hP hD hS hA (zg_29 cs ad σ tl) rfl) rfl rfl hl.1 rfl (lv_room (Nat.le_of_ble_eq_true rfl)) dX6_undo_36 ⟨Nat.le_of_ble_eq_true rfl, Nat.le_of_ble_eq_true rfl⟩) hD hS hA (fun H locs hP hD hS => ?_)
          refine lv_if_ne (tgt := 46) hx hb dX6_undo_39 (by decide) (fun _ => ?_) (fun c => absurd c c_1)
          refine lv_iconst (v := 2) hx hb dX6_undo_46 (by decide) ?_
          refine va_put (D := G) (ci := 8) (v := .int 2) (ty := .int) (C := RX6) (T := TX6) (N := 29) hx hb hts iX6_undo tyX6 tyX6_ok nmX6 hown hE.1 hP hD hS 29 (zg_29 cs ad σ tl) rfl 28 (by decide) (hts (.fieldLink RX6 82 "HandoverDeckModel" "thrown" "I") (by decide +kernel)) (fun _ h9 => h9) rfl (by decide +kernel) rfl rfl (Nat.le_of_ble_eq_true rfl) dX6_undo_47 (fun H locs hP hD hS => ?_)
          rw [zb_29_28 cs ad σ tl] at hP hD
          refine lv_iconst (v := (-1)) hx hb dX6_undo_50 (by decide) ?_
          obtain ⟨e1, e2⟩ := z2 hR.symm
          subst e1; subst e2
          exact W.iret (v := (-1)) hx hb hr (fun t ht hW => ⟨⟨_, (), rfl, rfl, by rw [ht]; exact hP, hD⟩, hS.F ht⟩) hS.2.2 dX6_undo_51
def L_X6_reset_43 (σ : zS) (a1 : Int32) : Nat → zS → Int32 → Int32 → Int32 × zS
  | 0, _, _, _ => (0, σ)
  | n + 1, τ, x2, x3 => (if (τ 29 28) = 0 then (if (τ 46 a1.toNatClampNeg) ≤ x3 then (x2, (zs τ 47 a1.toNatClampNeg 0)) else (L_X6_reset_43 σ a1 n (f_X6_closesUndone τ ((8 * a1) + x3)).2 (x2 + (f_X6_closesUndone τ ((8 * a1) + x3)).1) (x3 + 1))) else (x2, τ))
def f_X6_reset (σ : zS) (a1 : Int32) : Int32 × zS := (if (f_X6_isProcedure σ a1) = 0 then ((-1), (zs σ 29 28 1)) else (if (f_X6_acts σ ) = 0 then ((-1), (zs σ 29 28 2)) else (L_X6_reset_43 σ a1 9 (zs σ 29 28 0) 0 0)))
theorem iX6_reset : ∀ w ∈ u_ws RX6 TX6 29, w ∈ wsX6_reset := by decide +kernel
set_option maxRecDepth 100000 in
theorem c_X6_reset (l : Launch) (G : va_G) (cs : Nat → ClassId) (ad : Nat → Nat) (tl : va_W) (σ : zS) (a1 : Int32) (hI : zI σ) : zMi l yX6_reset wsX6_reset { frames := 2, cells := 0, slots := 0, locals := 46 } G cs [.ref (ad 29), .int a1] (zw cs ad σ tl) (f_X6_reset σ a1).1 (zw cs ad (f_X6_reset σ a1).2 tl) 0 0 := by
  intro sz
  refine Met.ofW (cc := cX6_reset) (maxL := 4) (ret := (some .int)) (by decide) rfl ?_
  intro p e s m args below meth c s₁ B hml hv
  obtain ⟨rfl, hsz, hP, hD0, hE⟩ := hv
  have hx := B.exec
  have hb := B.bytes
  have hr := B.returns
  have hts := atoms_spec (ws := wsX6_reset) B.pre
  have hown : s.vm.findClass RX6 = some m.cls := findClass_of_methodNamed B.named
  have hlocks := B.notSynchronized
  subst hsz
  have hD := hD0.self (sz := s.heap.size)
  have hA : ∀ q : Nat, s.heap.size ≤ q → (va_A (zw cs ad σ tl) s.heap.size) q := fun q h => Or.inr h
  generalize va_A (zw cs ad σ tl) s.heap.size = A at hD hE hA ⊢
  have hS : va_S A s.heap s.heap [] := va_S.rf
  have hl := lv_entry ([.ref (ad 29), .int a1]) (n := 4) (Nat.le_of_ble_eq_true rfl)
  rw [lg_entry_eq]
  generalize (lg_sl ([.ref (ad 29), .int a1]) ++ List.replicate (4 - (lg_sl ([.ref (ad 29), .int a1])).length) Slot.unset).toArray = ls at hl ⊢
  have hl : lv_has ls 4 [(0, .ref (ad 29)), (1, .int a1)] := hl
  generalize hR : (f_X6_reset σ a1) = RV
  have hR := hR.symm
  unfold f_X6_reset at hR
  obtain ⟨RVv, RVs⟩ := RV
  dsimp only
  obtain ⟨H, hH⟩ : ∃ z, z = s.heap := ⟨_, rfl⟩
  obtain ⟨locs, hlocs⟩ : ∃ z : List Loc, z = [] := ⟨_, rfl⟩
  rw [← hH] at hP
  have hS : va_S A s.heap H locs := by rw [hH, hlocs]; exact hS
  show W _ _ _ _ _ _ _ _ _ _ s.heap [] _ _ _ _
  rw [← hH, ← hlocs]
  clear hlocs
  refine lv_aload_n hx hb dX6_reset_0 rfl (lv_at hl 0 rfl) ?_
  refine lv_aload_n hx hb dX6_reset_1 rfl (lv_at hl 0 rfl) ?_
  refine lv_iload_n hx hb dX6_reset_2 rfl (lv_at hl 1 rfl) ?_
  refine zai (va_runV (As := [.int a1]) (rest := [.ref (ad 29)]) ⟨hx, hb, hml, hown, hts⟩ (c_X6_isProcedure l G cs ad tl σ a1  H.size) (cwV 1 hts gX6_reset_X6_isProcedure rfl rfl rfl (by decide +kernel) ⟨Nat.le_of_ble_eq_true rfl, Nat.le_of_ble_eq_true rfl⟩) (zpv hE hP hD hS hA (zg_29 cs ad σ tl) rfl) rfl rfl hl.1 rfl (lv_room (Nat.le_of_ble_eq_true rfl)) dX6_reset_3 ⟨Nat.le_of_ble_eq_true rfl, Nat.le_of_ble_eq_true rfl⟩) hD hS hA (fun H locs hP hD hS => ?_)
  refine lv_if_ne (tgt := 13) hx hb dX6_reset_6 (by decide) (fun c_1 => ?_) (fun c_1 => ?_)
  · have hR := hR.trans (if_neg c_1)
    refine lv_aload_n hx hb dX6_reset_13 rfl (lv_at hl 0 rfl) ?_
    refine zai (va_runV (As := []) (rest := [.ref (ad 29)]) ⟨hx, hb, hml, hown, hts⟩ (c_X6_acts l G cs ad tl σ   H.size) (cwV 0 hts gX6_reset_X6_acts rfl rfl rfl (by decide +kernel) ⟨Nat.le_of_ble_eq_true rfl, Nat.le_of_ble_eq_true rfl⟩) (zpv hE hP hD hS hA (zg_29 cs ad σ tl) rfl) rfl rfl hl.1 rfl (lv_room (Nat.le_of_ble_eq_true rfl)) dX6_reset_14 ⟨Nat.le_of_ble_eq_true rfl, Nat.le_of_ble_eq_true rfl⟩) hD hS hA (fun H locs hP hD hS => ?_)
    refine lv_if_ne (tgt := 24) hx hb dX6_reset_17 (by decide) (fun c_2 => ?_) (fun c_2 => ?_)
    · have hR := hR.trans (if_neg c_2)
      refine lv_iconst (v := 0) hx hb dX6_reset_24 (by decide) ?_
      refine va_put (D := G) (ci := 8) (v := .int 0) (ty := .int) (C := RX6) (T := TX6) (N := 29) hx hb hts iX6_reset tyX6 tyX6_ok nmX6 hown hE.1 hP hD hS 29 (zg_29 cs ad σ tl) rfl 28 (by decide) (hts (.fieldLink RX6 82 "HandoverDeckModel" "thrown" "I") (by decide +kernel)) (fun _ h9 => h9) rfl (by decide +kernel) rfl rfl (Nat.le_of_ble_eq_true rfl) dX6_reset_25 (fun H locs hP hD hS => ?_)
      rw [zb_29_28 cs ad σ tl] at hP hD
      refine lv_aload_n hx hb dX6_reset_28 rfl (lv_at hl 0 rfl) ?_
      refine va_get (D := G) (ci := 8) (v := .int 0) (C := RX6) (T := TX6) (N := 29) hx hb hts iX6_reset hown hE.1 hP 29 (zg_29 cs ad (zs σ 29 28 0) tl) rfl 28 (by decide) (hts (.fieldLink RX6 82 "HandoverDeckModel" "thrown" "I") (by decide +kernel)) (fun _ h9 => h9) rfl dX6_reset_29 ?_
      refine lv_if_ne (tgt := 39) hx hb dX6_reset_32 (by decide) (fun c => absurd c (by decide)) (fun _ => ?_)
      refine lv_iconst (v := 0) hx hb dX6_reset_35 (by decide) ?_
      refine lv_goto (tgt := 40) hx hb dX6_reset_36 (by decide) ?_
      refine lv_istore_n (lv' := [(2, .int 0), (0, .ref (ad 29)), (1, .int a1)]) hx hb dX6_reset_40 rfl hl (by decide) rfl (fun ls hl => ?_)
      refine lv_iconst (v := 0) hx hb dX6_reset_41 (by decide) ?_
      refine lv_istore_n (lv' := [(3, .int 0), (2, .int 0), (0, .ref (ad 29)), (1, .int a1)]) hx hb dX6_reset_42 rfl hl (by decide) rfl (fun ls hl => ?_)
      obtain ⟨Sn, hSn8, hSn⟩ := vi_steps hI (vin_X6_isProcedure hI c_1)
      have loop_5 : ∀ (n k : Nat) (τ : zS) (x2 : Int32) (x3 : Int32), x3 = nI (k) → k ≤ Sn → k + n = 9 → (τ 46 = σ 46) → (∀ j : Nat, j < 48 → τ 45 j = (-1) ∨ vp_in (τ 45 j) 60) → (RVv, RVs) = L_X6_reset_43 σ a1 n τ x2 x3 → ∀ (H : Heap) (locs : List Loc), va_P G vwCl (zw cs ad τ tl) H → va_D A (zw cs ad τ tl) → va_S A s.heap H locs → ∀ ls : Array Slot, lv_has ls 4 [(0, .ref (ad 29)), (1, .int a1), (2, .int x2), (3, .int x3)] → W p l e (headSpec wsX6_reset { frames := 2, cells := 0, slots := 0, locals := 46 }).room s m (List.toArray [.ref (ad 29), .int a1]) below meth c H locs 0 0 (MQ below (va_Qi (fun (r : Int32) (_ : Unit) => r = RVv) (fun _ t => zPo G A (zw cs ad RVs tl) t) A) (List.toArray [.ref (ad 29), .int a1]) s 0 0 A) (F0 m 43 ls []) := by
        intro n
        induction n with
        | zero => intro k τ x2 x3 ex hk hn; omega
        | succ n ih =>
          intro k τ x2 x3 ex hk hn hτ46 hτu hR H locs hP hD hS ls hl
          rw [L_X6_reset_43] at hR
          refine lv_aload_n hx hb dX6_reset_43 rfl (lv_at hl 0 rfl) ?_
          refine va_get (D := G) (ci := 8) (v := .int (τ 29 28)) (C := RX6) (T := TX6) (N := 29) hx hb hts iX6_reset hown hE.1 hP 29 (zg_29 cs ad τ tl) rfl 28 (by decide) (hts (.fieldLink RX6 82 "HandoverDeckModel" "thrown" "I") (by decide +kernel)) (fun _ h9 => h9) rfl dX6_reset_44 ?_
          refine lv_if_ne (tgt := 79) hx hb dX6_reset_47 (by decide) (fun c_3 => ?_) (fun c_3 => ?_)
          · have hR := hR.trans (if_neg c_3)
            refine lv_aload_n hx hb dX6_reset_79 rfl (lv_at hl 0 rfl) ?_
            refine va_get (D := G) (ci := 8) (v := .int (τ 29 28)) (C := RX6) (T := TX6) (N := 29) hx hb hts iX6_reset hown hE.1 hP 29 (zg_29 cs ad τ tl) rfl 28 (by decide) (hts (.fieldLink RX6 82 "HandoverDeckModel" "thrown" "I") (by decide +kernel)) (fun _ h9 => h9) rfl dX6_reset_80 ?_
            refine lv_if_ne (tgt := 93) hx hb dX6_reset_83 (by decide) (fun _ => ?_) (fun c => absurd c c_3)
            refine lv_iload_n hx hb dX6_reset_93 rfl (lv_at hl 2 rfl) ?_
            obtain ⟨e1, e2⟩ := z2 hR.symm
            subst e1; subst e2
            exact W.iret (v := x2) hx hb hr (fun t ht hW => ⟨⟨_, (), rfl, rfl, by rw [ht]; exact hP, hD⟩, hS.F ht⟩) hS.2.2 dX6_reset_94
          · have hR := hR.trans (if_pos c_3)
            refine lv_iload_n hx hb dX6_reset_50 rfl (lv_at hl 3 rfl) ?_
            refine lv_aload_n hx hb dX6_reset_51 rfl (lv_at hl 0 rfl) ?_
            refine va_get (D := G) (ci := 8) (v := .ref (ad 46)) (C := RX6) (T := TX6) (N := 29) hx hb hts iX6_reset hown hE.1 hP 29 (zg_29 cs ad τ tl) rfl 18 (by decide) (hts (.fieldLink RX6 60 "HandoverDeckModel" "stepsOf" "[I") (by decide +kernel)) (fun _ h9 => h9) rfl dX6_reset_52 ?_
            refine lv_iload_n hx hb dX6_reset_55 rfl (lv_at hl 1 rfl) ?_
            refine z_iald (v := (τ 46 a1.toNatClampNeg)) hx hb hE hP (zg_46 cs ad τ tl) (vin_X6_isProcedure hI c_1) rfl dX6_reset_56 ?_
            refine lv_icmp_ge (tgt := 79) hx hb dX6_reset_57 (by decide) (fun c_4 => ?_) (fun c_4 => ?_)
            · have hR := hR.trans (if_pos c_4)
              refine lv_aload_n hx hb dX6_reset_79 rfl (lv_at hl 0 rfl) ?_
              refine va_get (D := G) (ci := 8) (v := .int (τ 29 28)) (C := RX6) (T := TX6) (N := 29) hx hb hts iX6_reset hown hE.1 hP 29 (zg_29 cs ad τ tl) rfl 28 (by decide) (hts (.fieldLink RX6 82 "HandoverDeckModel" "thrown" "I") (by decide +kernel)) (fun _ h9 => h9) rfl dX6_reset_80 ?_
              refine lv_if_ne (tgt := 93) hx hb dX6_reset_83 (by decide) (fun c => absurd c_3 c) (fun _ => ?_)
              refine lv_aload_n hx hb dX6_reset_86 rfl (lv_at hl 0 rfl) ?_
              refine va_get (D := G) (ci := 8) (v := .ref (ad 47)) (C := RX6) (T := TX6) (N := 29) hx hb hts iX6_reset hown hE.1 hP 29 (zg_29 cs ad τ tl) rfl 19 (by decide) (hts (.fieldLink RX6 63 "HandoverDeckModel" "doneOf" "[I") (by decide +kernel)) (fun _ h9 => h9) rfl dX6_reset_87 ?_
              refine lv_iload_n hx hb dX6_reset_90 rfl (lv_at hl 1 rfl) ?_
              refine lv_iconst (v := 0) hx hb dX6_reset_91 (by decide) ?_
              refine z_iast hx hb hE hP hD hS (zg_47 cs ad τ tl) (zb_47 cs ad τ tl) (vin_X6_isProcedure hI c_1) dX6_reset_92 (fun H locs hP hD hS => ?_)
              refine lv_iload_n hx hb dX6_reset_93 rfl (lv_at hl 2 rfl) ?_
              obtain ⟨e1, e2⟩ := z2 hR.symm
              subst e1; subst e2
              exact W.iret (v := x2) hx hb hr (fun t ht hW => ⟨⟨_, (), rfl, rfl, by rw [ht]; exact hP, hD⟩, hS.F ht⟩) hS.2.2 dX6_reset_94
            · have hR := hR.trans (if_neg c_4)
              have hkB : k < Sn := zlt ex (by omega) ⟨by rw [hτ46]; exact hSn, by omega⟩ c_4
              refine lv_iload_n hx hb dX6_reset_60 rfl (lv_at hl 2 rfl) ?_
              refine lv_aload_n hx hb dX6_reset_61 rfl (lv_at hl 0 rfl) ?_
              refine lv_bipush (v := 8) hx hb dX6_reset_62 (by decide) ?_
              refine lv_iload_n hx hb dX6_reset_64 rfl (lv_at hl 1 rfl) ?_
              refine lv_imul hx hb dX6_reset_65 ?_
              refine lv_iload_n hx hb dX6_reset_66 rfl (lv_at hl 3 rfl) ?_
              refine lv_iadd hx hb dX6_reset_67 ?_
              refine zai (va_runV (As := [.int ((8 * a1) + x3)]) (rest := [.int x2]) ⟨hx, hb, hml, hown, hts⟩ (c_X6_closesUndone l G cs ad tl τ ((8 * a1) + x3) (vi_ps (vin_X6_isProcedure hI c_1) ex (by omega)) (hτu _ (vp_lt (vi_ps (vin_X6_isProcedure hI c_1) ex (by omega)))) H.size) (cwV 1 hts gX6_reset_X6_closesUndone rfl rfl rfl (by decide +kernel) ⟨Nat.le_of_ble_eq_true rfl, Nat.le_of_ble_eq_true rfl⟩) (zpv hE hP hD hS hA (zg_29 cs ad τ tl) rfl) rfl rfl hl.1 rfl (lv_room (Nat.le_of_ble_eq_true rfl)) dX6_reset_68 ⟨Nat.le_of_ble_eq_true rfl, Nat.le_of_ble_eq_true rfl⟩) hD hS hA (fun H locs hP hD hS => ?_)
              refine lv_iadd hx hb dX6_reset_71 ?_
              refine lv_istore_n (lv' := [(2, .int (x2 + (f_X6_closesUndone τ ((8 * a1) + x3)).1)), (0, .ref (ad 29)), (1, .int a1), (3, .int x3)]) hx hb dX6_reset_72 rfl hl (by decide) rfl (fun ls hl => ?_)
              refine lv_iinc (v := (x3 + 1)) (lv' := [(3, .int (x3 + 1)), (2, .int (x2 + (f_X6_closesUndone τ ((8 * a1) + x3)).1)), (0, .ref (ad 29)), (1, .int a1)]) hx hb dX6_reset_73 hl (k := 3) rfl rfl (by decide) rfl (fun ls hl => ?_)
              refine lv_goto (tgt := 43) hx hb dX6_reset_76 (by decide) ?_
              exact ih (k + 1) (f_X6_closesUndone τ ((8 * a1) + x3)).2 (x2 + (f_X6_closesUndone τ ((8 * a1) + x3)).1) (x3 + 1) (by rw [ex]; exact nI_1 _) (by omega) (by omega) (by rw [cu_46]; exact hτ46) (cu_45 hτu) hR H locs hP hD hS ls (lv_sub hl [2, 3, 1, 0] rfl)
      exact loop_5 9 0 (zs σ 29 28 0) 0 0 nI_0.symm (by omega) (by omega) rfl (vi_unA hI) hR H locs hP hD hS ls (lv_sub hl [2, 3, 1, 0] rfl)
    · have hR := hR.trans (if_pos c_2)
      refine lv_iconst (v := 2) hx hb dX6_reset_20 (by decide) ?_
      refine lv_goto (tgt := 25) hx hb dX6_reset_21 (by decide) ?_
      refine va_put (D := G) (ci := 8) (v := .int 2) (ty := .int) (C := RX6) (T := TX6) (N := 29) hx hb hts iX6_reset tyX6 tyX6_ok nmX6 hown hE.1 hP hD hS 29 (zg_29 cs ad σ tl) rfl 28 (by decide) (hts (.fieldLink RX6 82 "HandoverDeckModel" "thrown" "I") (by decide +kernel)) (fun _ h9 => h9) rfl (by decide +kernel) rfl rfl (Nat.le_of_ble_eq_true rfl) dX6_reset_25 (fun H locs hP hD hS => ?_)
      rw [zb_29_28 cs ad σ tl] at hP hD
      refine lv_aload_n hx hb dX6_reset_28 rfl (lv_at hl 0 rfl) ?_
      refine va_get (D := G) (ci := 8) (v := .int 2) (C := RX6) (T := TX6) (N := 29) hx hb hts iX6_reset hown hE.1 hP 29 (zg_29 cs ad (zs σ 29 28 2) tl) rfl 28 (by decide) (hts (.fieldLink RX6 82 "HandoverDeckModel" "thrown" "I") (by decide +kernel)) (fun _ h9 => h9) rfl dX6_reset_29 ?_
      refine lv_if_ne (tgt := 39) hx hb dX6_reset_32 (by decide) (fun _ => ?_) (fun c => absurd c (by decide))
      refine lv_iconst (v := (-1)) hx hb dX6_reset_39 (by decide) ?_
      refine lv_istore_n (lv' := [(2, .int (-1)), (0, .ref (ad 29)), (1, .int a1)]) hx hb dX6_reset_40 rfl hl (by decide) rfl (fun ls hl => ?_)
      refine lv_iconst (v := 0) hx hb dX6_reset_41 (by decide) ?_
      refine lv_istore_n (lv' := [(3, .int 0), (2, .int (-1)), (0, .ref (ad 29)), (1, .int a1)]) hx hb dX6_reset_42 rfl hl (by decide) rfl (fun ls hl => ?_)
      refine lv_aload_n hx hb dX6_reset_43 rfl (lv_at hl 2 rfl) ?_
      refine va_get (D := G) (ci := 8) (v := .int 2) (C := RX6) (T := TX6) (N := 29) hx hb hts iX6_reset hown hE.1 hP 29 (zg_29 cs ad (zs σ 29 28 2) tl) rfl 28 (by decide) (hts (.fieldLink RX6 82 "HandoverDeckModel" "thrown" "I") (by decide +kernel)) (fun _ h9 => h9) rfl dX6_reset_44 ?_
      refine lv_if_ne (tgt := 79) hx hb dX6_reset_47 (by decide) (fun _ => ?_) (fun c => absurd c (by decide))
      refine lv_aload_n hx hb dX6_reset_79 rfl (lv_at hl 2 rfl) ?_
      refine va_get (D := G) (ci := 8) (v := .int 2) (C := RX6) (T := TX6) (N := 29) hx hb hts iX6_reset hown hE.1 hP 29 (zg_29 cs ad (zs σ 29 28 2) tl) rfl 28 (by decide) (hts (.fieldLink RX6 82 "HandoverDeckModel" "thrown" "I") (by decide +kernel)) (fun _ h9 => h9) rfl dX6_reset_80 ?_
      refine lv_if_ne (tgt := 93) hx hb dX6_reset_83 (by decide) (fun _ => ?_) (fun c => absurd c (by decide))
      refine lv_iload_n hx hb dX6_reset_93 rfl (lv_at hl 1 rfl) ?_
      obtain ⟨e1, e2⟩ := z2 hR.symm
      subst e1; subst e2
      exact W.iret (v := (-1)) hx hb hr (fun t ht hW => ⟨⟨_, (), rfl, rfl, by rw [ht]; exact hP, hD⟩, hS.F ht⟩) hS.2.2 dX6_reset_94
  · have hR := hR.trans (if_pos c_1)
    refine lv_iconst (v := 1) hx hb dX6_reset_9 (by decide) ?_
    refine lv_goto (tgt := 25) hx hb dX6_reset_10 (by decide) ?_
    refine va_put (D := G) (ci := 8) (v := .int 1) (ty := .int) (C := RX6) (T := TX6) (N := 29) hx hb hts iX6_reset tyX6 tyX6_ok nmX6 hown hE.1 hP hD hS 29 (zg_29 cs ad σ tl) rfl 28 (by decide) (hts (.fieldLink RX6 82 "HandoverDeckModel" "thrown" "I") (by decide +kernel)) (fun _ h9 => h9) rfl (by decide +kernel) rfl rfl (Nat.le_of_ble_eq_true rfl) dX6_reset_25 (fun H locs hP hD hS => ?_)
    rw [zb_29_28 cs ad σ tl] at hP hD
    refine lv_aload_n hx hb dX6_reset_28 rfl (lv_at hl 0 rfl) ?_
    refine va_get (D := G) (ci := 8) (v := .int 1) (C := RX6) (T := TX6) (N := 29) hx hb hts iX6_reset hown hE.1 hP 29 (zg_29 cs ad (zs σ 29 28 1) tl) rfl 28 (by decide) (hts (.fieldLink RX6 82 "HandoverDeckModel" "thrown" "I") (by decide +kernel)) (fun _ h9 => h9) rfl dX6_reset_29 ?_
    refine lv_if_ne (tgt := 39) hx hb dX6_reset_32 (by decide) (fun _ => ?_) (fun c => absurd c (by decide))
    refine lv_iconst (v := (-1)) hx hb dX6_reset_39 (by decide) ?_
    refine lv_istore_n (lv' := [(2, .int (-1)), (0, .ref (ad 29)), (1, .int a1)]) hx hb dX6_reset_40 rfl hl (by decide) rfl (fun ls hl => ?_)
    refine lv_iconst (v := 0) hx hb dX6_reset_41 (by decide) ?_
    refine lv_istore_n (lv' := [(3, .int 0), (2, .int (-1)), (0, .ref (ad 29)), (1, .int a1)]) hx hb dX6_reset_42 rfl hl (by decide) rfl (fun ls hl => ?_)
    refine lv_aload_n hx hb dX6_reset_43 rfl (lv_at hl 2 rfl) ?_
    refine va_get (D := G) (ci := 8) (v := .int 1) (C := RX6) (T := TX6) (N := 29) hx hb hts iX6_reset hown hE.1 hP 29 (zg_29 cs ad (zs σ 29 28 1) tl) rfl 28 (by decide) (hts (.fieldLink RX6 82 "HandoverDeckModel" "thrown" "I") (by decide +kernel)) (fun _ h9 => h9) rfl dX6_reset_44 ?_
    refine lv_if_ne (tgt := 79) hx hb dX6_reset_47 (by decide) (fun _ => ?_) (fun c => absurd c (by decide))
    refine lv_aload_n hx hb dX6_reset_79 rfl (lv_at hl 2 rfl) ?_
    refine va_get (D := G) (ci := 8) (v := .int 1) (C := RX6) (T := TX6) (N := 29) hx hb hts iX6_reset hown hE.1 hP 29 (zg_29 cs ad (zs σ 29 28 1) tl) rfl 28 (by decide) (hts (.fieldLink RX6 82 "HandoverDeckModel" "thrown" "I") (by decide +kernel)) (fun _ h9 => h9) rfl dX6_reset_80 ?_
    refine lv_if_ne (tgt := 93) hx hb dX6_reset_83 (by decide) (fun _ => ?_) (fun c => absurd c (by decide))
    refine lv_iload_n hx hb dX6_reset_93 rfl (lv_at hl 1 rfl) ?_
    obtain ⟨e1, e2⟩ := z2 hR.symm
    subst e1; subst e2
    exact W.iret (v := (-1)) hx hb hr (fun t ht hW => ⟨⟨_, (), rfl, rfl, by rw [ht]; exact hP, hD⟩, hS.F ht⟩) hS.2.2 dX6_reset_94
def L_X6_openPermit_55 (σ : zS) (a1 : Int32) : Nat → Int32 → Int32 → Int32 × zS
  | 0, _, _ => (0, σ)
  | n + 1, x3, x4 => (if 8 ≤ x4 then ((-1), (zs σ 29 28 2)) else (if x3 = 0 then (if ((a1 >>> (x4 &&& 31)) &&& 1) = 1 then (if (f_X6_barring σ x4) = (-1) then (L_X6_openPermit_55 σ a1 n 0 (x4 + 1)) else (L_X6_openPermit_55 σ a1 n 1 (x4 + 1))) else (L_X6_openPermit_55 σ a1 n 0 (x4 + 1))) else (L_X6_openPermit_55 σ a1 n 1 (x4 + 1))))
def L_X6_openPermit_55_1 (σ : zS) (a1 : Int32) : Nat → Int32 → Int32 → Int32 × zS
  | 0, _, _ => (0, σ)
  | n + 1, x3, x4 => (if 8 ≤ x4 then ((-1), (zs σ 29 28 2)) else (if x3 = 0 then (if ((a1 >>> (x4 &&& 31)) &&& 1) = 1 then (if (f_X6_barring σ x4) = (-1) then (L_X6_openPermit_55_1 σ a1 n 0 (x4 + 1)) else (L_X6_openPermit_55_1 σ a1 n 1 (x4 + 1))) else (L_X6_openPermit_55_1 σ a1 n 0 (x4 + 1))) else (L_X6_openPermit_55_1 σ a1 n 1 (x4 + 1))))
def L_X6_openPermit_55_2 (σ : zS) (a1 : Int32) : Nat → Int32 → Int32 → Int32 × zS
  | 0, _, _ => (0, σ)
  | n + 1, x3, x4 => (if 8 ≤ x4 then (if x3 = 0 then (if (f_X6_tired σ ) = 0 then (((((f_X6_opens (zs (zs σ 29 28 0) 48 (σ 29 23).toNatClampNeg a1) 112).2 29 23) + 1) - 1), (zs (zs (f_X6_opens (zs (zs σ 29 28 0) 48 (σ 29 23).toNatClampNeg a1) 112).2 49 (σ 29 23).toNatClampNeg (f_X6_opens (zs (zs σ 29 28 0) 48 (σ 29 23).toNatClampNeg a1) 112).1) 29 23 (((f_X6_opens (zs (zs σ 29 28 0) 48 (σ 29 23).toNatClampNeg a1) 112).2 29 23) + 1))) else ((-1), (zs σ 29 28 3))) else ((-1), (zs σ 29 28 3))) else (if x3 = 0 then (if ((a1 >>> (x4 &&& 31)) &&& 1) = 1 then (if (f_X6_barring σ x4) = (-1) then (L_X6_openPermit_55_2 σ a1 n 0 (x4 + 1)) else (L_X6_openPermit_55_2 σ a1 n 1 (x4 + 1))) else (L_X6_openPermit_55_2 σ a1 n 0 (x4 + 1))) else (L_X6_openPermit_55_2 σ a1 n 1 (x4 + 1))))
def L_X6_openPermit_55_3 (σ : zS) (a1 : Int32) : Nat → Int32 → Int32 → Int32 × zS
  | 0, _, _ => (0, σ)
  | n + 1, x3, x4 => (if 8 ≤ x4 then ((-1), (zs σ 29 28 2)) else (if x3 = 0 then (if ((a1 >>> (x4 &&& 31)) &&& 1) = 1 then (if (f_X6_barring σ x4) = (-1) then (L_X6_openPermit_55_3 σ a1 n 0 (x4 + 1)) else (L_X6_openPermit_55_3 σ a1 n 1 (x4 + 1))) else (L_X6_openPermit_55_3 σ a1 n 0 (x4 + 1))) else (L_X6_openPermit_55_3 σ a1 n 1 (x4 + 1))))
def f_X6_openPermit (σ : zS) (a1 : Int32) : Int32 × zS := (if (f_X6_in a1.toInt64 1 255) = 0 then ((-1), (zs σ 29 28 1)) else (if (f_X6_acts σ ) = 0 then (L_X6_openPermit_55 σ a1 9 0 0) else (if (σ 29 23) = 8 then (L_X6_openPermit_55_1 σ a1 9 0 0) else (if (σ 29 7) = 60 then (L_X6_openPermit_55_3 σ a1 9 0 0) else (L_X6_openPermit_55_2 σ a1 9 0 0)))))
theorem iX6_openPermit : ∀ w ∈ u_ws RX6 TX6 29, w ∈ wsX6_openPermit := by decide +kernel
set_option maxRecDepth 100000 in
theorem c_X6_openPermit (l : Launch) (G : va_G) (cs : Nat → ClassId) (ad : Nat → Nat) (tl : va_W) (σ : zS) (a1 : Int32) (hI : zI σ) : zMi l yX6_openPermit wsX6_openPermit { frames := 1, cells := 0, slots := 0, locals := 25 } G cs [.ref (ad 29), .int a1] (zw cs ad σ tl) (f_X6_openPermit σ a1).1 (zw cs ad (f_X6_openPermit σ a1).2 tl) 0 0 := by
  intro sz
  refine Met.ofW (cc := cX6_openPermit) (maxL := 5) (ret := (some .int)) (by decide) rfl ?_
  intro p e s m args below meth c s₁ B hml hv
  obtain ⟨rfl, hsz, hP, hD0, hE⟩ := hv
  have hx := B.exec
  have hb := B.bytes
  have hr := B.returns
  have hts := atoms_spec (ws := wsX6_openPermit) B.pre
  have hown : s.vm.findClass RX6 = some m.cls := findClass_of_methodNamed B.named
  have hlocks := B.notSynchronized
  subst hsz
  have hD := hD0.self (sz := s.heap.size)
  have hA : ∀ q : Nat, s.heap.size ≤ q → (va_A (zw cs ad σ tl) s.heap.size) q := fun q h => Or.inr h
  generalize va_A (zw cs ad σ tl) s.heap.size = A at hD hE hA ⊢
  have hS : va_S A s.heap s.heap [] := va_S.rf
  have hl := lv_entry ([.ref (ad 29), .int a1]) (n := 5) (Nat.le_of_ble_eq_true rfl)
  rw [lg_entry_eq]
  generalize (lg_sl ([.ref (ad 29), .int a1]) ++ List.replicate (5 - (lg_sl ([.ref (ad 29), .int a1])).length) Slot.unset).toArray = ls at hl ⊢
  have hl : lv_has ls 5 [(0, .ref (ad 29)), (1, .int a1)] := hl
  generalize hR : (f_X6_openPermit σ a1) = RV
  have hR := hR.symm
  unfold f_X6_openPermit at hR
  obtain ⟨RVv, RVs⟩ := RV
  dsimp only
  obtain ⟨H, hH⟩ : ∃ z, z = s.heap := ⟨_, rfl⟩
  obtain ⟨locs, hlocs⟩ : ∃ z : List Loc, z = [] := ⟨_, rfl⟩
  rw [← hH] at hP
  have hS : va_S A s.heap H locs := by rw [hH, hlocs]; exact hS
  show W _ _ _ _ _ _ _ _ _ _ s.heap [] _ _ _ _
  rw [← hH, ← hlocs]
  clear hlocs
  refine lv_iload_n hx hb dX6_openPermit_0 rfl (lv_at hl 1 rfl) ?_
  refine lv_i2l (v := a1.toInt64) hx hb dX6_openPermit_1 rfl ?_
  refine lv_lconst (v := 1) hx hb dX6_openPermit_2 (by decide) ?_
  refine lv_ldc2 (v := 255) hx hb hown (hts (.constantLong RX6 151 255) (by decide +kernel)) dX6_openPermit_3 ?_
  refine zai (va_runS (As := [.long a1.toInt64, .long 1, .long 255]) (rest := []) ⟨hx, hb, hml, hown, hts⟩ (c_X6_in l G cs ad tl σ a1.toInt64 1 255  H.size) (va_cwS 3 hts gX6_openPermit_X6_in rfl rfl rfl (by decide +kernel) ⟨Nat.le_of_ble_eq_true rfl, Nat.le_of_ble_eq_true rfl⟩) (zps hE hP hD hS hA) rfl rfl hl.1 rfl (lv_room (Nat.le_of_ble_eq_true rfl)) dX6_openPermit_6 ⟨Nat.le_of_ble_eq_true rfl, Nat.le_of_ble_eq_true rfl⟩) hD hS hA (fun H locs hP hD hS => ?_)
  refine lv_if_ne (tgt := 19) hx hb dX6_openPermit_9 (by decide) (fun c_1 => ?_) (fun c_1 => ?_)
  · have hR := hR.trans (if_neg c_1)
    refine lv_aload_n hx hb dX6_openPermit_19 rfl (lv_at hl 0 rfl) ?_
    refine zai (va_runV (As := []) (rest := []) ⟨hx, hb, hml, hown, hts⟩ (c_X6_acts l G cs ad tl σ   H.size) (cwV 0 hts gX6_openPermit_X6_acts rfl rfl rfl (by decide +kernel) ⟨Nat.le_of_ble_eq_true rfl, Nat.le_of_ble_eq_true rfl⟩) (zpv hE hP hD hS hA (zg_29 cs ad σ tl) rfl) rfl rfl hl.1 rfl (lv_room (Nat.le_of_ble_eq_true rfl)) dX6_openPermit_20 ⟨Nat.le_of_ble_eq_true rfl, Nat.le_of_ble_eq_true rfl⟩) hD hS hA (fun H locs hP hD hS => ?_)
    refine lv_if_eq (tgt := 44) hx hb dX6_openPermit_23 (by decide) (fun c_2 => ?_) (fun c_2 => ?_)
    · have hR := hR.trans (if_pos c_2)
      refine lv_iconst (v := 1) hx hb dX6_openPermit_44 (by decide) ?_
      refine lv_goto (tgt := 49) hx hb dX6_openPermit_45 (by decide) ?_
      refine lv_istore_n (lv' := [(2, .int 1), (0, .ref (ad 29)), (1, .int a1)]) hx hb dX6_openPermit_49 rfl hl (by decide) rfl (fun ls hl => ?_)
      refine lv_iconst (v := 0) hx hb dX6_openPermit_50 (by decide) ?_
      refine lv_istore_n (lv' := [(3, .int 0), (2, .int 1), (0, .ref (ad 29)), (1, .int a1)]) hx hb dX6_openPermit_51 rfl hl (by decide) rfl (fun ls hl => ?_)
      refine lv_iconst (v := 0) hx hb dX6_openPermit_52 (by decide) ?_
      refine lv_istore (lv' := [(4, .int 0), (3, .int 0), (2, .int 1), (0, .ref (ad 29)), (1, .int a1)]) hx hb dX6_openPermit_53 hl (by decide) rfl (fun ls hl => ?_)
      have loop_7 : ∀ (n k : Nat) (x3 : Int32) (x4 : Int32), x4 = nI (k) → k ≤ 8 → k + n = 9 → (RVv, RVs) = L_X6_openPermit_55 σ a1 n x3 x4 → ∀ (H : Heap) (locs : List Loc), va_P G vwCl (zw cs ad σ tl) H → va_D A (zw cs ad σ tl) → va_S A s.heap H locs → ∀ ls : Array Slot, lv_has ls 5 [(0, .ref (ad 29)), (1, .int a1), (2, .int 1), (3, .int x3), (4, .int x4)] → W p l e (headSpec wsX6_openPermit { frames := 1, cells := 0, slots := 0, locals := 25 }).room s m (List.toArray [.ref (ad 29), .int a1]) below meth c H locs 0 0 (MQ below (va_Qi (fun (r : Int32) (_ : Unit) => r = RVv) (fun _ t => zPo G A (zw cs ad RVs tl) t) A) (List.toArray [.ref (ad 29), .int a1]) s 0 0 A) (F0 m 55 ls []) := by
        intro n
        induction n with
        | zero => intro k  x3 x4 ex hk hn; omega
        | succ n ih =>
          intro k  x3 x4 ex hk hn hR H locs hP hD hS ls hl
          rw [L_X6_openPermit_55] at hR
          refine lv_iload hx hb dX6_openPermit_55 (lv_at hl 4 rfl) ?_
          refine lv_bipush (v := 8) hx hb dX6_openPermit_57 (by decide) ?_
          refine lv_icmp_ge (tgt := 98) hx hb dX6_openPermit_59 (by decide) (fun c_3 => ?_) (fun c_3 => ?_)
          · have hR := hR.trans (if_pos c_3)
            refine lv_aload_n hx hb dX6_openPermit_98 rfl (lv_at hl 0 rfl) ?_
            refine lv_iload_n hx hb dX6_openPermit_99 rfl (lv_at hl 2 rfl) ?_
            refine lv_if_eq (tgt := 107) hx hb dX6_openPermit_100 (by decide) (fun c => absurd c (by decide)) (fun _ => ?_)
            refine lv_iconst (v := 2) hx hb dX6_openPermit_103 (by decide) ?_
            refine lv_goto (tgt := 123) hx hb dX6_openPermit_104 (by decide) ?_
            refine va_put (D := G) (ci := 8) (v := .int 2) (ty := .int) (C := RX6) (T := TX6) (N := 29) hx hb hts iX6_openPermit tyX6 tyX6_ok nmX6 hown hE.1 hP hD hS 29 (zg_29 cs ad σ tl) rfl 28 (by decide) (hts (.fieldLink RX6 82 "HandoverDeckModel" "thrown" "I") (by decide +kernel)) (fun _ h9 => h9) rfl (by decide +kernel) rfl rfl (Nat.le_of_ble_eq_true rfl) dX6_openPermit_123 (fun H locs hP hD hS => ?_)
            rw [zb_29_28 cs ad σ tl] at hP hD
            refine lv_aload_n hx hb dX6_openPermit_126 rfl (lv_at hl 0 rfl) ?_
            refine va_get (D := G) (ci := 8) (v := .int 2) (C := RX6) (T := TX6) (N := 29) hx hb hts iX6_openPermit hown hE.1 hP 29 (zg_29 cs ad (zs σ 29 28 2) tl) rfl 28 (by decide) (hts (.fieldLink RX6 82 "HandoverDeckModel" "thrown" "I") (by decide +kernel)) (fun _ h9 => h9) rfl dX6_openPermit_127 ?_
            refine lv_if_le (tgt := 135) hx hb dX6_openPermit_130 (by decide) (fun c => absurd c (by decide)) (fun _ => ?_)
            refine lv_iconst (v := (-1)) hx hb dX6_openPermit_133 (by decide) ?_
            obtain ⟨e1, e2⟩ := z2 hR.symm
            subst e1; subst e2
            exact W.iret (v := (-1)) hx hb hr (fun t ht hW => ⟨⟨_, (), rfl, rfl, by rw [ht]; exact hP, hD⟩, hS.F ht⟩) hS.2.2 dX6_openPermit_134
          · have hR := hR.trans (if_neg c_3)
            have hkB : k < 8 := zlt ex (by omega) (by decide) c_3
            refine lv_iload_n hx hb dX6_openPermit_62 rfl (lv_at hl 3 rfl) ?_
            refine lv_if_ne (tgt := 86) hx hb dX6_openPermit_63 (by decide) (fun c_4 => ?_) (fun c_4 => ?_)
            · have hR := hR.trans (if_neg c_4)
              refine lv_iconst (v := 1) hx hb dX6_openPermit_86 (by decide) ?_
              refine lv_goto (tgt := 91) hx hb dX6_openPermit_87 (by decide) ?_
              refine lv_istore_n (lv' := [(3, .int 1), (0, .ref (ad 29)), (1, .int a1), (2, .int 1), (4, .int x4)]) hx hb dX6_openPermit_91 rfl hl (by decide) rfl (fun ls hl => ?_)
              refine lv_iinc (v := (x4 + 1)) (lv' := [(4, .int (x4 + 1)), (3, .int 1), (0, .ref (ad 29)), (1, .int a1), (2, .int 1)]) hx hb dX6_openPermit_92 hl (k := 4) rfl rfl (by decide) rfl (fun ls hl => ?_)
              refine lv_goto (tgt := 55) hx hb dX6_openPermit_95 (by decide) ?_
              exact ih (k + 1)  1 (x4 + 1) (by rw [ex]; exact nI_1 _) (by omega) (by omega)  hR H locs hP hD hS ls (lv_sub hl [2, 3, 4, 1, 0] rfl)
            · have hR := hR.trans (if_pos c_4)
              refine lv_iload_n hx hb dX6_openPermit_66 rfl (lv_at hl 1 rfl) ?_
              refine lv_iload hx hb dX6_openPermit_67 (lv_at hl 4 rfl) ?_
              refine lv_ishr hx hb dX6_openPermit_69 ?_
              refine lv_iconst (v := 1) hx hb dX6_openPermit_70 (by decide) ?_
              refine lv_iand hx hb dX6_openPermit_71 ?_
              refine lv_iconst (v := 1) hx hb dX6_openPermit_72 (by decide) ?_
              refine lv_icmp_ne (tgt := 90) hx hb dX6_openPermit_73 (by decide) (fun c_5 => ?_) (fun c_5 => ?_)
              · have hR := hR.trans (if_neg c_5)
                refine lv_iconst (v := 0) hx hb dX6_openPermit_90 (by decide) ?_
                refine lv_istore_n (lv' := [(3, .int 0), (0, .ref (ad 29)), (1, .int a1), (2, .int 1), (4, .int x4)]) hx hb dX6_openPermit_91 rfl hl (by decide) rfl (fun ls hl => ?_)
                refine lv_iinc (v := (x4 + 1)) (lv' := [(4, .int (x4 + 1)), (3, .int 0), (0, .ref (ad 29)), (1, .int a1), (2, .int 1)]) hx hb dX6_openPermit_92 hl (k := 4) rfl rfl (by decide) rfl (fun ls hl => ?_)
                refine lv_goto (tgt := 55) hx hb dX6_openPermit_95 (by decide) ?_
                exact ih (k + 1)  0 (x4 + 1) (by rw [ex]; exact nI_1 _) (by omega) (by omega)  hR H locs hP hD hS ls (lv_sub hl [2, 3, 4, 1, 0] rfl)
              · have hR := hR.trans (if_pos c_5)
                refine lv_aload_n hx hb dX6_openPermit_76 rfl (lv_at hl 0 rfl) ?_
                refine lv_iload hx hb dX6_openPermit_77 (lv_at hl 4 rfl) ?_
                refine zai (va_runV (As := [.int x4]) (rest := []) ⟨hx, hb, hml, hown, hts⟩ (c_X6_barring l G cs ad tl σ x4 hI H.size) (cwV 1 hts gX6_openPermit_X6_barring rfl rfl rfl (by decide +kernel) ⟨Nat.le_of_ble_eq_true rfl, Nat.le_of_ble_eq_true rfl⟩) (zpv hE hP hD hS hA (zg_29 cs ad σ tl) rfl) rfl rfl hl.1 rfl (lv_room (Nat.le_of_ble_eq_true rfl)) dX6_openPermit_79 ⟨Nat.le_of_ble_eq_true rfl, Nat.le_of_ble_eq_true rfl⟩) hD hS hA (fun H locs hP hD hS => ?_)
                refine lv_iconst (v := (-1)) hx hb dX6_openPermit_82 (by decide) ?_
                refine lv_icmp_eq (tgt := 90) hx hb dX6_openPermit_83 (by decide) (fun c_6 => ?_) (fun c_6 => ?_)
                · have hR := hR.trans (if_pos c_6)
                  refine lv_iconst (v := 0) hx hb dX6_openPermit_90 (by decide) ?_
                  refine lv_istore_n (lv' := [(3, .int 0), (0, .ref (ad 29)), (1, .int a1), (2, .int 1), (4, .int x4)]) hx hb dX6_openPermit_91 rfl hl (by decide) rfl (fun ls hl => ?_)
                  refine lv_iinc (v := (x4 + 1)) (lv' := [(4, .int (x4 + 1)), (3, .int 0), (0, .ref (ad 29)), (1, .int a1), (2, .int 1)]) hx hb dX6_openPermit_92 hl (k := 4) rfl rfl (by decide) rfl (fun ls hl => ?_)
                  refine lv_goto (tgt := 55) hx hb dX6_openPermit_95 (by decide) ?_
                  exact ih (k + 1)  0 (x4 + 1) (by rw [ex]; exact nI_1 _) (by omega) (by omega)  hR H locs hP hD hS ls (lv_sub hl [2, 3, 4, 1, 0] rfl)
                · have hR := hR.trans (if_neg c_6)
                  refine lv_iconst (v := 1) hx hb dX6_openPermit_86 (by decide) ?_
                  refine lv_goto (tgt := 91) hx hb dX6_openPermit_87 (by decide) ?_
                  refine lv_istore_n (lv' := [(3, .int 1), (0, .ref (ad 29)), (1, .int a1), (2, .int 1), (4, .int x4)]) hx hb dX6_openPermit_91 rfl hl (by decide) rfl (fun ls hl => ?_)
                  refine lv_iinc (v := (x4 + 1)) (lv' := [(4, .int (x4 + 1)), (3, .int 1), (0, .ref (ad 29)), (1, .int a1), (2, .int 1)]) hx hb dX6_openPermit_92 hl (k := 4) rfl rfl (by decide) rfl (fun ls hl => ?_)
                  refine lv_goto (tgt := 55) hx hb dX6_openPermit_95 (by decide) ?_
                  exact ih (k + 1)  1 (x4 + 1) (by rw [ex]; exact nI_1 _) (by omega) (by omega)  hR H locs hP hD hS ls (lv_sub hl [2, 3, 4, 1, 0] rfl)
      exact loop_7 9 0  0 0 nI_0.symm (by omega) (by omega)  hR H locs hP hD hS ls (lv_sub hl [3, 4, 2, 1, 0] rfl)
    · have hR := hR.trans (if_neg c_2)
      refine lv_aload_n hx hb dX6_openPermit_26 rfl (lv_at hl 0 rfl) ?_
      refine va_get (D := G) (ci := 8) (v := .int (σ 29 23)) (C := RX6) (T := TX6) (N := 29) hx hb hts iX6_openPermit hown hE.1 hP 29 (zg_29 cs ad σ tl) rfl 23 (by decide) (hts (.fieldLink RX6 130 "HandoverDeckModel" "permits" "I") (by decide +kernel)) (fun _ h9 => h9) rfl dX6_openPermit_27 ?_
      refine lv_bipush (v := 8) hx hb dX6_openPermit_30 (by decide) ?_
      refine lv_icmp_eq (tgt := 44) hx hb dX6_openPermit_32 (by decide) (fun c_8 => ?_) (fun c_8 => ?_)
      · have hR := hR.trans (if_pos c_8)
        refine lv_iconst (v := 1) hx hb dX6_openPermit_44 (by decide) ?_
        refine lv_goto (tgt := 49) hx hb dX6_openPermit_45 (by decide) ?_
        refine lv_istore_n (lv' := [(2, .int 1), (0, .ref (ad 29)), (1, .int a1)]) hx hb dX6_openPermit_49 rfl hl (by decide) rfl (fun ls hl => ?_)
        refine lv_iconst (v := 0) hx hb dX6_openPermit_50 (by decide) ?_
        refine lv_istore_n (lv' := [(3, .int 0), (2, .int 1), (0, .ref (ad 29)), (1, .int a1)]) hx hb dX6_openPermit_51 rfl hl (by decide) rfl (fun ls hl => ?_)
        refine lv_iconst (v := 0) hx hb dX6_openPermit_52 (by decide) ?_
        refine lv_istore (lv' := [(4, .int 0), (3, .int 0), (2, .int 1), (0, .ref (ad 29)), (1, .int a1)]) hx hb dX6_openPermit_53 hl (by decide) rfl (fun ls hl => ?_)
        have loop_13 : ∀ (n k : Nat) (x3 : Int32) (x4 : Int32), x4 = nI (k) → k ≤ 8 → k + n = 9 → (RVv, RVs) = L_X6_openPermit_55_1 σ a1 n x3 x4 → ∀ (H : Heap) (locs : List Loc), va_P G vwCl (zw cs ad σ tl) H → va_D A (zw cs ad σ tl) → va_S A s.heap H locs → ∀ ls : Array Slot, lv_has ls 5 [(0, .ref (ad 29)), (1, .int a1), (2, .int 1), (3, .int x3), (4, .int x4)] → W p l e (headSpec wsX6_openPermit { frames := 1, cells := 0, slots := 0, locals := 25 }).room s m (List.toArray [.ref (ad 29), .int a1]) below meth c H locs 0 0 (MQ below (va_Qi (fun (r : Int32) (_ : Unit) => r = RVv) (fun _ t => zPo G A (zw cs ad RVs tl) t) A) (List.toArray [.ref (ad 29), .int a1]) s 0 0 A) (F0 m 55 ls []) := by
          intro n
          induction n with
          | zero => intro k  x3 x4 ex hk hn; omega
          | succ n ih =>
            intro k  x3 x4 ex hk hn hR H locs hP hD hS ls hl
            rw [L_X6_openPermit_55_1] at hR
            refine lv_iload hx hb dX6_openPermit_55 (lv_at hl 4 rfl) ?_
            refine lv_bipush (v := 8) hx hb dX6_openPermit_57 (by decide) ?_
            refine lv_icmp_ge (tgt := 98) hx hb dX6_openPermit_59 (by decide) (fun c_9 => ?_) (fun c_9 => ?_)
            · have hR := hR.trans (if_pos c_9)
              refine lv_aload_n hx hb dX6_openPermit_98 rfl (lv_at hl 0 rfl) ?_
              refine lv_iload_n hx hb dX6_openPermit_99 rfl (lv_at hl 2 rfl) ?_
              refine lv_if_eq (tgt := 107) hx hb dX6_openPermit_100 (by decide) (fun c => absurd c (by decide)) (fun _ => ?_)
              refine lv_iconst (v := 2) hx hb dX6_openPermit_103 (by decide) ?_
              refine lv_goto (tgt := 123) hx hb dX6_openPermit_104 (by decide) ?_
              refine va_put (D := G) (ci := 8) (v := .int 2) (ty := .int) (C := RX6) (T := TX6) (N := 29) hx hb hts iX6_openPermit tyX6 tyX6_ok nmX6 hown hE.1 hP hD hS 29 (zg_29 cs ad σ tl) rfl 28 (by decide) (hts (.fieldLink RX6 82 "HandoverDeckModel" "thrown" "I") (by decide +kernel)) (fun _ h9 => h9) rfl (by decide +kernel) rfl rfl (Nat.le_of_ble_eq_true rfl) dX6_openPermit_123 (fun H locs hP hD hS => ?_)
              rw [zb_29_28 cs ad σ tl] at hP hD
              refine lv_aload_n hx hb dX6_openPermit_126 rfl (lv_at hl 0 rfl) ?_
              refine va_get (D := G) (ci := 8) (v := .int 2) (C := RX6) (T := TX6) (N := 29) hx hb hts iX6_openPermit hown hE.1 hP 29 (zg_29 cs ad (zs σ 29 28 2) tl) rfl 28 (by decide) (hts (.fieldLink RX6 82 "HandoverDeckModel" "thrown" "I") (by decide +kernel)) (fun _ h9 => h9) rfl dX6_openPermit_127 ?_
              refine lv_if_le (tgt := 135) hx hb dX6_openPermit_130 (by decide) (fun c => absurd c (by decide)) (fun _ => ?_)
              refine lv_iconst (v := (-1)) hx hb dX6_openPermit_133 (by decide) ?_
              obtain ⟨e1, e2⟩ := z2 hR.symm
              subst e1; subst e2
              exact W.iret (v := (-1)) hx hb hr (fun t ht hW => ⟨⟨_, (), rfl, rfl, by rw [ht]; exact hP, hD⟩, hS.F ht⟩) hS.2.2 dX6_openPermit_134
            · have hR := hR.trans (if_neg c_9)
              have hkB : k < 8 := zlt ex (by omega) (by decide) c_9
              refine lv_iload_n hx hb dX6_openPermit_62 rfl (lv_at hl 3 rfl) ?_
              refine lv_if_ne (tgt := 86) hx hb dX6_openPermit_63 (by decide) (fun c_10 => ?_) (fun c_10 => ?_)
              · have hR := hR.trans (if_neg c_10)
                refine lv_iconst (v := 1) hx hb dX6_openPermit_86 (by decide) ?_
                refine lv_goto (tgt := 91) hx hb dX6_openPermit_87 (by decide) ?_
                refine lv_istore_n (lv' := [(3, .int 1), (0, .ref (ad 29)), (1, .int a1), (2, .int 1), (4, .int x4)]) hx hb dX6_openPermit_91 rfl hl (by decide) rfl (fun ls hl => ?_)
                refine lv_iinc (v := (x4 + 1)) (lv' := [(4, .int (x4 + 1)), (3, .int 1), (0, .ref (ad 29)), (1, .int a1), (2, .int 1)]) hx hb dX6_openPermit_92 hl (k := 4) rfl rfl (by decide) rfl (fun ls hl => ?_)
                refine lv_goto (tgt := 55) hx hb dX6_openPermit_95 (by decide) ?_
                exact ih (k + 1)  1 (x4 + 1) (by rw [ex]; exact nI_1 _) (by omega) (by omega)  hR H locs hP hD hS ls (lv_sub hl [2, 3, 4, 1, 0] rfl)
              · have hR := hR.trans (if_pos c_10)
                refine lv_iload_n hx hb dX6_openPermit_66 rfl (lv_at hl 1 rfl) ?_
                refine lv_iload hx hb dX6_openPermit_67 (lv_at hl 4 rfl) ?_
                refine lv_ishr hx hb dX6_openPermit_69 ?_
                refine lv_iconst (v := 1) hx hb dX6_openPermit_70 (by decide) ?_
                refine lv_iand hx hb dX6_openPermit_71 ?_
                refine lv_iconst (v := 1) hx hb dX6_openPermit_72 (by decide) ?_
                refine lv_icmp_ne (tgt := 90) hx hb dX6_openPermit_73 (by decide) (fun c_11 => ?_) (fun c_11 => ?_)
                · have hR := hR.trans (if_neg c_11)
                  refine lv_iconst (v := 0) hx hb dX6_openPermit_90 (by decide) ?_
                  refine lv_istore_n (lv' := [(3, .int 0), (0, .ref (ad 29)), (1, .int a1), (2, .int 1), (4, .int x4)]) hx hb dX6_openPermit_91 rfl hl (by decide) rfl (fun ls hl => ?_)
                  refine lv_iinc (v := (x4 + 1)) (lv' := [(4, .int (x4 + 1)), (3, .int 0), (0, .ref (ad 29)), (1, .int a1), (2, .int 1)]) hx hb dX6_openPermit_92 hl (k := 4) rfl rfl (by decide) rfl (fun ls hl => ?_)
                  refine lv_goto (tgt := 55) hx hb dX6_openPermit_95 (by decide) ?_
                  exact ih (k + 1)  0 (x4 + 1) (by rw [ex]; exact nI_1 _) (by omega) (by omega)  hR H locs hP hD hS ls (lv_sub hl [2, 3, 4, 1, 0] rfl)
                · have hR := hR.trans (if_pos c_11)
                  refine lv_aload_n hx hb dX6_openPermit_76 rfl (lv_at hl 0 rfl) ?_
                  refine lv_iload hx hb dX6_openPermit_77 (lv_at hl 4 rfl) ?_
                  refine zai (va_runV (As := [.int x4]) (rest := []) ⟨hx, hb, hml, hown, hts⟩ (c_X6_barring l G cs ad tl σ x4 hI H.size) (cwV 1 hts gX6_openPermit_X6_barring rfl rfl rfl (by decide +kernel) ⟨Nat.le_of_ble_eq_true rfl, Nat.le_of_ble_eq_true rfl⟩) (zpv hE hP hD hS hA (zg_29 cs ad σ tl) rfl) rfl rfl hl.1 rfl (lv_room (Nat.le_of_ble_eq_true rfl)) dX6_openPermit_79 ⟨Nat.le_of_ble_eq_true rfl, Nat.le_of_ble_eq_true rfl⟩) hD hS hA (fun H locs hP hD hS => ?_)
                  refine lv_iconst (v := (-1)) hx hb dX6_openPermit_82 (by decide) ?_
                  refine lv_icmp_eq (tgt := 90) hx hb dX6_openPermit_83 (by decide) (fun c_12 => ?_) (fun c_12 => ?_)
                  · have hR := hR.trans (if_pos c_12)
                    refine lv_iconst (v := 0) hx hb dX6_openPermit_90 (by decide) ?_
                    refine lv_istore_n (lv' := [(3, .int 0), (0, .ref (ad 29)), (1, .int a1), (2, .int 1), (4, .int x4)]) hx hb dX6_openPermit_91 rfl hl (by decide) rfl (fun ls hl => ?_)
                    refine lv_iinc (v := (x4 + 1)) (lv' := [(4, .int (x4 + 1)), (3, .int 0), (0, .ref (ad 29)), (1, .int a1), (2, .int 1)]) hx hb dX6_openPermit_92 hl (k := 4) rfl rfl (by decide) rfl (fun ls hl => ?_)
                    refine lv_goto (tgt := 55) hx hb dX6_openPermit_95 (by decide) ?_
                    exact ih (k + 1)  0 (x4 + 1) (by rw [ex]; exact nI_1 _) (by omega) (by omega)  hR H locs hP hD hS ls (lv_sub hl [2, 3, 4, 1, 0] rfl)
                  · have hR := hR.trans (if_neg c_12)
                    refine lv_iconst (v := 1) hx hb dX6_openPermit_86 (by decide) ?_
                    refine lv_goto (tgt := 91) hx hb dX6_openPermit_87 (by decide) ?_
                    refine lv_istore_n (lv' := [(3, .int 1), (0, .ref (ad 29)), (1, .int a1), (2, .int 1), (4, .int x4)]) hx hb dX6_openPermit_91 rfl hl (by decide) rfl (fun ls hl => ?_)
                    refine lv_iinc (v := (x4 + 1)) (lv' := [(4, .int (x4 + 1)), (3, .int 1), (0, .ref (ad 29)), (1, .int a1), (2, .int 1)]) hx hb dX6_openPermit_92 hl (k := 4) rfl rfl (by decide) rfl (fun ls hl => ?_)
                    refine lv_goto (tgt := 55) hx hb dX6_openPermit_95 (by decide) ?_
                    exact ih (k + 1)  1 (x4 + 1) (by rw [ex]; exact nI_1 _) (by omega) (by omega)  hR H locs hP hD hS ls (lv_sub hl [2, 3, 4, 1, 0] rfl)
        exact loop_13 9 0  0 0 nI_0.symm (by omega) (by omega)  hR H locs hP hD hS ls (lv_sub hl [3, 4, 2, 1, 0] rfl)
      · have hR := hR.trans (if_neg c_8)
        refine lv_aload_n hx hb dX6_openPermit_35 rfl (lv_at hl 0 rfl) ?_
        refine va_get (D := G) (ci := 8) (v := .int (σ 29 7)) (C := RX6) (T := TX6) (N := 29) hx hb hts iX6_openPermit hown hE.1 hP 29 (zg_29 cs ad σ tl) rfl 7 (by decide) (hts (.fieldLink RX6 95 "HandoverDeckModel" "lines" "I") (by decide +kernel)) (fun _ h9 => h9) rfl dX6_openPermit_36 ?_
        refine lv_bipush (v := 60) hx hb dX6_openPermit_39 (by decide) ?_
        refine lv_icmp_ne (tgt := 48) hx hb dX6_openPermit_41 (by decide) (fun c_14 => ?_) (fun c_14 => ?_)
        · have hR := hR.trans (if_neg c_14)
          refine lv_iconst (v := 0) hx hb dX6_openPermit_48 (by decide) ?_
          refine lv_istore_n (lv' := [(2, .int 0), (0, .ref (ad 29)), (1, .int a1)]) hx hb dX6_openPermit_49 rfl hl (by decide) rfl (fun ls hl => ?_)
          refine lv_iconst (v := 0) hx hb dX6_openPermit_50 (by decide) ?_
          refine lv_istore_n (lv' := [(3, .int 0), (2, .int 0), (0, .ref (ad 29)), (1, .int a1)]) hx hb dX6_openPermit_51 rfl hl (by decide) rfl (fun ls hl => ?_)
          refine lv_iconst (v := 0) hx hb dX6_openPermit_52 (by decide) ?_
          refine lv_istore (lv' := [(4, .int 0), (3, .int 0), (2, .int 0), (0, .ref (ad 29)), (1, .int a1)]) hx hb dX6_openPermit_53 hl (by decide) rfl (fun ls hl => ?_)
          have loop_21 : ∀ (n k : Nat) (x3 : Int32) (x4 : Int32), x4 = nI (k) → k ≤ 8 → k + n = 9 → (RVv, RVs) = L_X6_openPermit_55_2 σ a1 n x3 x4 → ∀ (H : Heap) (locs : List Loc), va_P G vwCl (zw cs ad σ tl) H → va_D A (zw cs ad σ tl) → va_S A s.heap H locs → ∀ ls : Array Slot, lv_has ls 5 [(0, .ref (ad 29)), (1, .int a1), (2, .int 0), (3, .int x3), (4, .int x4)] → W p l e (headSpec wsX6_openPermit { frames := 1, cells := 0, slots := 0, locals := 25 }).room s m (List.toArray [.ref (ad 29), .int a1]) below meth c H locs 0 0 (MQ below (va_Qi (fun (r : Int32) (_ : Unit) => r = RVv) (fun _ t => zPo G A (zw cs ad RVs tl) t) A) (List.toArray [.ref (ad 29), .int a1]) s 0 0 A) (F0 m 55 ls []) := by
            intro n
            induction n with
            | zero => intro k  x3 x4 ex hk hn; omega
            | succ n ih =>
              intro k  x3 x4 ex hk hn hR H locs hP hD hS ls hl
              rw [L_X6_openPermit_55_2] at hR
              refine lv_iload hx hb dX6_openPermit_55 (lv_at hl 4 rfl) ?_
              refine lv_bipush (v := 8) hx hb dX6_openPermit_57 (by decide) ?_
              refine lv_icmp_ge (tgt := 98) hx hb dX6_openPermit_59 (by decide) (fun c_15 => ?_) (fun c_15 => ?_)
              · have hR := hR.trans (if_pos c_15)
                refine lv_aload_n hx hb dX6_openPermit_98 rfl (lv_at hl 0 rfl) ?_
                refine lv_iload_n hx hb dX6_openPermit_99 rfl (lv_at hl 2 rfl) ?_
                refine lv_if_eq (tgt := 107) hx hb dX6_openPermit_100 (by decide) (fun _ => ?_) (fun c => absurd c (by decide))
                refine lv_iload_n hx hb dX6_openPermit_107 rfl (lv_at hl 3 rfl) ?_
                refine lv_if_ne (tgt := 118) hx hb dX6_openPermit_108 (by decide) (fun c_16 => ?_) (fun c_16 => ?_)
                · have hR := hR.trans (if_neg c_16)
                  refine lv_iconst (v := 3) hx hb dX6_openPermit_118 (by decide) ?_
                  refine lv_goto (tgt := 123) hx hb dX6_openPermit_119 (by decide) ?_
                  refine va_put (D := G) (ci := 8) (v := .int 3) (ty := .int) (C := RX6) (T := TX6) (N := 29) hx hb hts iX6_openPermit tyX6 tyX6_ok nmX6 hown hE.1 hP hD hS 29 (zg_29 cs ad σ tl) rfl 28 (by decide) (hts (.fieldLink RX6 82 "HandoverDeckModel" "thrown" "I") (by decide +kernel)) (fun _ h9 => h9) rfl (by decide +kernel) rfl rfl (Nat.le_of_ble_eq_true rfl) dX6_openPermit_123 (fun H locs hP hD hS => ?_)
                  rw [zb_29_28 cs ad σ tl] at hP hD
                  refine lv_aload_n hx hb dX6_openPermit_126 rfl (lv_at hl 0 rfl) ?_
                  refine va_get (D := G) (ci := 8) (v := .int 3) (C := RX6) (T := TX6) (N := 29) hx hb hts iX6_openPermit hown hE.1 hP 29 (zg_29 cs ad (zs σ 29 28 3) tl) rfl 28 (by decide) (hts (.fieldLink RX6 82 "HandoverDeckModel" "thrown" "I") (by decide +kernel)) (fun _ h9 => h9) rfl dX6_openPermit_127 ?_
                  refine lv_if_le (tgt := 135) hx hb dX6_openPermit_130 (by decide) (fun c => absurd c (by decide)) (fun _ => ?_)
                  refine lv_iconst (v := (-1)) hx hb dX6_openPermit_133 (by decide) ?_
                  obtain ⟨e1, e2⟩ := z2 hR.symm
                  subst e1; subst e2
                  exact W.iret (v := (-1)) hx hb hr (fun t ht hW => ⟨⟨_, (), rfl, rfl, by rw [ht]; exact hP, hD⟩, hS.F ht⟩) hS.2.2 dX6_openPermit_134
                · have hR := hR.trans (if_pos c_16)
                  refine lv_aload_n hx hb dX6_openPermit_111 rfl (lv_at hl 0 rfl) ?_
                  refine zai (va_runV (As := []) (rest := [.ref (ad 29)]) ⟨hx, hb, hml, hown, hts⟩ (c_X6_tired l G cs ad tl σ   H.size) (cwV 0 hts gX6_openPermit_X6_tired rfl rfl rfl (by decide +kernel) ⟨Nat.le_of_ble_eq_true rfl, Nat.le_of_ble_eq_true rfl⟩) (zpv hE hP hD hS hA (zg_29 cs ad σ tl) rfl) rfl rfl hl.1 rfl (lv_room (Nat.le_of_ble_eq_true rfl)) dX6_openPermit_112 ⟨Nat.le_of_ble_eq_true rfl, Nat.le_of_ble_eq_true rfl⟩) hD hS hA (fun H locs hP hD hS => ?_)
                  refine lv_if_eq (tgt := 122) hx hb dX6_openPermit_115 (by decide) (fun c_17 => ?_) (fun c_17 => ?_)
                  · have hR := hR.trans (if_pos c_17)
                    refine lv_iconst (v := 0) hx hb dX6_openPermit_122 (by decide) ?_
                    refine va_put (D := G) (ci := 8) (v := .int 0) (ty := .int) (C := RX6) (T := TX6) (N := 29) hx hb hts iX6_openPermit tyX6 tyX6_ok nmX6 hown hE.1 hP hD hS 29 (zg_29 cs ad σ tl) rfl 28 (by decide) (hts (.fieldLink RX6 82 "HandoverDeckModel" "thrown" "I") (by decide +kernel)) (fun _ h9 => h9) rfl (by decide +kernel) rfl rfl (Nat.le_of_ble_eq_true rfl) dX6_openPermit_123 (fun H locs hP hD hS => ?_)
                    rw [zb_29_28 cs ad σ tl] at hP hD
                    refine lv_aload_n hx hb dX6_openPermit_126 rfl (lv_at hl 0 rfl) ?_
                    refine va_get (D := G) (ci := 8) (v := .int 0) (C := RX6) (T := TX6) (N := 29) hx hb hts iX6_openPermit hown hE.1 hP 29 (zg_29 cs ad (zs σ 29 28 0) tl) rfl 28 (by decide) (hts (.fieldLink RX6 82 "HandoverDeckModel" "thrown" "I") (by decide +kernel)) (fun _ h9 => h9) rfl dX6_openPermit_127 ?_
                    refine lv_if_le (tgt := 135) hx hb dX6_openPermit_130 (by decide) (fun _ => ?_) (fun c => absurd c (by decide))
                    refine lv_aload_n hx hb dX6_openPermit_135 rfl (lv_at hl 0 rfl) ?_
                    refine va_get (D := G) (ci := 8) (v := .ref (ad 48)) (C := RX6) (T := TX6) (N := 29) hx hb hts iX6_openPermit hown hE.1 hP 29 (zg_29 cs ad (zs σ 29 28 0) tl) rfl 21 (by decide) (hts (.fieldLink RX6 66 "HandoverDeckModel" "permitUnits" "[I") (by decide +kernel)) (fun _ h9 => h9) rfl dX6_openPermit_136 ?_
                    refine lv_aload_n hx hb dX6_openPermit_139 rfl (lv_at hl 0 rfl) ?_
                    refine va_get (D := G) (ci := 8) (v := .int (σ 29 23)) (C := RX6) (T := TX6) (N := 29) hx hb hts iX6_openPermit hown hE.1 hP 29 (zg_29 cs ad (zs σ 29 28 0) tl) rfl 23 (by decide) (hts (.fieldLink RX6 130 "HandoverDeckModel" "permits" "I") (by decide +kernel)) (fun _ h9 => h9) rfl dX6_openPermit_140 ?_
                    refine lv_iload_n hx hb dX6_openPermit_143 rfl (lv_at hl 1 rfl) ?_
                    refine z_iast hx hb hE hP hD hS (zg_48 cs ad (zs σ 29 28 0) tl) (zb_48 cs ad (zs σ 29 28 0) tl) (vi_prm hI c_8) dX6_openPermit_144 (fun H locs hP hD hS => ?_)
                    refine lv_aload_n hx hb dX6_openPermit_145 rfl (lv_at hl 0 rfl) ?_
                    refine va_get (D := G) (ci := 8) (v := .ref (ad 49)) (C := RX6) (T := TX6) (N := 29) hx hb hts iX6_openPermit hown hE.1 hP 29 (zg_29 cs ad (zs (zs σ 29 28 0) 48 (σ 29 23).toNatClampNeg a1) tl) rfl 22 (by decide) (hts (.fieldLink RX6 69 "HandoverDeckModel" "permitLine" "[I") (by decide +kernel)) (fun _ h9 => h9) rfl dX6_openPermit_146 ?_
                    refine lv_aload_n hx hb dX6_openPermit_149 rfl (lv_at hl 0 rfl) ?_
                    refine va_get (D := G) (ci := 8) (v := .int (σ 29 23)) (C := RX6) (T := TX6) (N := 29) hx hb hts iX6_openPermit hown hE.1 hP 29 (zg_29 cs ad (zs (zs σ 29 28 0) 48 (σ 29 23).toNatClampNeg a1) tl) rfl 23 (by decide) (hts (.fieldLink RX6 130 "HandoverDeckModel" "permits" "I") (by decide +kernel)) (fun _ h9 => h9) rfl dX6_openPermit_150 ?_
                    refine lv_aload_n hx hb dX6_openPermit_153 rfl (lv_at hl 0 rfl) ?_
                    refine lv_bipush (v := 112) hx hb dX6_openPermit_154 (by decide) ?_
                    refine zai (va_runV (As := [.int 112]) (rest := [.int (σ 29 23), .ref (ad 49)]) ⟨hx, hb, hml, hown, hts⟩ (c_X6_opens l G cs ad tl (zs (zs σ 29 28 0) 48 (σ 29 23).toNatClampNeg a1) 112 (vi_lines (σ := σ) hI c_14) (by decide) H.size) (cwV 1 hts gX6_openPermit_X6_opens rfl rfl rfl (by decide +kernel) ⟨Nat.le_of_ble_eq_true rfl, Nat.le_of_ble_eq_true rfl⟩) (zpv hE hP hD hS hA (zg_29 cs ad (zs (zs σ 29 28 0) 48 (σ 29 23).toNatClampNeg a1) tl) rfl) rfl rfl hl.1 rfl (lv_room (Nat.le_of_ble_eq_true rfl)) dX6_openPermit_156 ⟨Nat.le_of_ble_eq_true rfl, Nat.le_of_ble_eq_true rfl⟩) hD hS hA (fun H locs hP hD hS => ?_)
                    refine z_iast hx hb hE hP hD hS (zg_49 cs ad (f_X6_opens (zs (zs σ 29 28 0) 48 (σ 29 23).toNatClampNeg a1) 112).2 tl) (zb_49 cs ad (f_X6_opens (zs (zs σ 29 28 0) 48 (σ 29 23).toNatClampNeg a1) 112).2 tl) (vi_prm hI c_8) dX6_openPermit_159 (fun H locs hP hD hS => ?_)
                    refine lv_aload_n hx hb dX6_openPermit_160 rfl (lv_at hl 0 rfl) ?_
                    refine lv_dup hx hb dX6_openPermit_161 rfl ?_
                    refine va_get (D := G) (ci := 8) (v := .int ((f_X6_opens (zs (zs σ 29 28 0) 48 (σ 29 23).toNatClampNeg a1) 112).2 29 23)) (C := RX6) (T := TX6) (N := 29) hx hb hts iX6_openPermit hown hE.1 hP 29 (zg_29 cs ad (zs (f_X6_opens (zs (zs σ 29 28 0) 48 (σ 29 23).toNatClampNeg a1) 112).2 49 (σ 29 23).toNatClampNeg (f_X6_opens (zs (zs σ 29 28 0) 48 (σ 29 23).toNatClampNeg a1) 112).1) tl) rfl 23 (by decide) (hts (.fieldLink RX6 130 "HandoverDeckModel" "permits" "I") (by decide +kernel)) (fun _ h9 => h9) (congrArg (fun z => some (Value.int z)) (show (zs (f_X6_opens (zs (zs σ 29 28 0) 48 (σ 29 23).toNatClampNeg a1) 112).2 49 (σ 29 23).toNatClampNeg (f_X6_opens (zs (zs σ 29 28 0) 48 (σ 29 23).toNatClampNeg a1) 112).1) 29 23 = ((f_X6_opens (zs (zs σ 29 28 0) 48 (σ 29 23).toNatClampNeg a1) 112).2 29 23) by rw [zs_ne (k := 49) (k' := 29) (by decide)])) dX6_openPermit_162 ?_
                    refine lv_iconst (v := 1) hx hb dX6_openPermit_165 (by decide) ?_
                    refine lv_iadd hx hb dX6_openPermit_166 ?_
                    refine va_put (D := G) (ci := 8) (v := .int (((f_X6_opens (zs (zs σ 29 28 0) 48 (σ 29 23).toNatClampNeg a1) 112).2 29 23) + 1)) (ty := .int) (C := RX6) (T := TX6) (N := 29) hx hb hts iX6_openPermit tyX6 tyX6_ok nmX6 hown hE.1 hP hD hS 29 (zg_29 cs ad (zs (f_X6_opens (zs (zs σ 29 28 0) 48 (σ 29 23).toNatClampNeg a1) 112).2 49 (σ 29 23).toNatClampNeg (f_X6_opens (zs (zs σ 29 28 0) 48 (σ 29 23).toNatClampNeg a1) 112).1) tl) rfl 23 (by decide) (hts (.fieldLink RX6 130 "HandoverDeckModel" "permits" "I") (by decide +kernel)) (fun _ h9 => h9) rfl (by decide +kernel) rfl rfl (Nat.le_of_ble_eq_true rfl) dX6_openPermit_167 (fun H locs hP hD hS => ?_)
                    rw [zb_29_23 cs ad (zs (f_X6_opens (zs (zs σ 29 28 0) 48 (σ 29 23).toNatClampNeg a1) 112).2 49 (σ 29 23).toNatClampNeg (f_X6_opens (zs (zs σ 29 28 0) 48 (σ 29 23).toNatClampNeg a1) 112).1) tl] at hP hD
                    refine lv_aload_n hx hb dX6_openPermit_170 rfl (lv_at hl 0 rfl) ?_
                    refine va_get (D := G) (ci := 8) (v := .int (((f_X6_opens (zs (zs σ 29 28 0) 48 (σ 29 23).toNatClampNeg a1) 112).2 29 23) + 1)) (C := RX6) (T := TX6) (N := 29) hx hb hts iX6_openPermit hown hE.1 hP 29 (zg_29 cs ad (zs (zs (f_X6_opens (zs (zs σ 29 28 0) 48 (σ 29 23).toNatClampNeg a1) 112).2 49 (σ 29 23).toNatClampNeg (f_X6_opens (zs (zs σ 29 28 0) 48 (σ 29 23).toNatClampNeg a1) 112).1) 29 23 (((f_X6_opens (zs (zs σ 29 28 0) 48 (σ 29 23).toNatClampNeg a1) 112).2 29 23) + 1)) tl) rfl 23 (by decide) (hts (.fieldLink RX6 130 "HandoverDeckModel" "permits" "I") (by decide +kernel)) (fun _ h9 => h9) (congrArg (fun z => some (Value.int z)) (show (zs (zs (f_X6_opens (zs (zs σ 29 28 0) 48 (σ 29 23).toNatClampNeg a1) 112).2 49 (σ 29 23).toNatClampNeg (f_X6_opens (zs (zs σ 29 28 0) 48 (σ 29 23).toNatClampNeg a1) 112).1) 29 23 (((f_X6_opens (zs (zs σ 29 28 0) 48 (σ 29 23).toNatClampNeg a1) 112).2 29 23) + 1)) 29 23 = (((f_X6_opens (zs (zs σ 29 28 0) 48 (σ 29 23).toNatClampNeg a1) 112).2 29 23) + 1) by rw [zs_eq])) dX6_openPermit_171 ?_
                    refine lv_iconst (v := 1) hx hb dX6_openPermit_174 (by decide) ?_
                    refine lv_isub hx hb dX6_openPermit_175 ?_
                    obtain ⟨e1, e2⟩ := z2 hR.symm
                    subst e1; subst e2
                    exact W.iret (v := ((((f_X6_opens (zs (zs σ 29 28 0) 48 (σ 29 23).toNatClampNeg a1) 112).2 29 23) + 1) - 1)) hx hb hr (fun t ht hW => ⟨⟨_, (), rfl, rfl, by rw [ht]; exact hP, hD⟩, hS.F ht⟩) hS.2.2 dX6_openPermit_176
                  · have hR := hR.trans (if_neg c_17)
                    refine lv_iconst (v := 3) hx hb dX6_openPermit_118 (by decide) ?_
                    refine lv_goto (tgt := 123) hx hb dX6_openPermit_119 (by decide) ?_
                    refine va_put (D := G) (ci := 8) (v := .int 3) (ty := .int) (C := RX6) (T := TX6) (N := 29) hx hb hts iX6_openPermit tyX6 tyX6_ok nmX6 hown hE.1 hP hD hS 29 (zg_29 cs ad σ tl) rfl 28 (by decide) (hts (.fieldLink RX6 82 "HandoverDeckModel" "thrown" "I") (by decide +kernel)) (fun _ h9 => h9) rfl (by decide +kernel) rfl rfl (Nat.le_of_ble_eq_true rfl) dX6_openPermit_123 (fun H locs hP hD hS => ?_)
                    rw [zb_29_28 cs ad σ tl] at hP hD
                    refine lv_aload_n hx hb dX6_openPermit_126 rfl (lv_at hl 0 rfl) ?_
                    refine va_get (D := G) (ci := 8) (v := .int 3) (C := RX6) (T := TX6) (N := 29) hx hb hts iX6_openPermit hown hE.1 hP 29 (zg_29 cs ad (zs σ 29 28 3) tl) rfl 28 (by decide) (hts (.fieldLink RX6 82 "HandoverDeckModel" "thrown" "I") (by decide +kernel)) (fun _ h9 => h9) rfl dX6_openPermit_127 ?_
                    refine lv_if_le (tgt := 135) hx hb dX6_openPermit_130 (by decide) (fun c => absurd c (by decide)) (fun _ => ?_)
                    refine lv_iconst (v := (-1)) hx hb dX6_openPermit_133 (by decide) ?_
                    obtain ⟨e1, e2⟩ := z2 hR.symm
                    subst e1; subst e2
                    exact W.iret (v := (-1)) hx hb hr (fun t ht hW => ⟨⟨_, (), rfl, rfl, by rw [ht]; exact hP, hD⟩, hS.F ht⟩) hS.2.2 dX6_openPermit_134
              · have hR := hR.trans (if_neg c_15)
                have hkB : k < 8 := zlt ex (by omega) (by decide) c_15
                refine lv_iload_n hx hb dX6_openPermit_62 rfl (lv_at hl 3 rfl) ?_
                refine lv_if_ne (tgt := 86) hx hb dX6_openPermit_63 (by decide) (fun c_18 => ?_) (fun c_18 => ?_)
                · have hR := hR.trans (if_neg c_18)
                  refine lv_iconst (v := 1) hx hb dX6_openPermit_86 (by decide) ?_
                  refine lv_goto (tgt := 91) hx hb dX6_openPermit_87 (by decide) ?_
                  refine lv_istore_n (lv' := [(3, .int 1), (0, .ref (ad 29)), (1, .int a1), (2, .int 0), (4, .int x4)]) hx hb dX6_openPermit_91 rfl hl (by decide) rfl (fun ls hl => ?_)
                  refine lv_iinc (v := (x4 + 1)) (lv' := [(4, .int (x4 + 1)), (3, .int 1), (0, .ref (ad 29)), (1, .int a1), (2, .int 0)]) hx hb dX6_openPermit_92 hl (k := 4) rfl rfl (by decide) rfl (fun ls hl => ?_)
                  refine lv_goto (tgt := 55) hx hb dX6_openPermit_95 (by decide) ?_
                  exact ih (k + 1)  1 (x4 + 1) (by rw [ex]; exact nI_1 _) (by omega) (by omega)  hR H locs hP hD hS ls (lv_sub hl [2, 3, 4, 1, 0] rfl)
                · have hR := hR.trans (if_pos c_18)
                  refine lv_iload_n hx hb dX6_openPermit_66 rfl (lv_at hl 1 rfl) ?_
                  refine lv_iload hx hb dX6_openPermit_67 (lv_at hl 4 rfl) ?_
                  refine lv_ishr hx hb dX6_openPermit_69 ?_
                  refine lv_iconst (v := 1) hx hb dX6_openPermit_70 (by decide) ?_
                  refine lv_iand hx hb dX6_openPermit_71 ?_
                  refine lv_iconst (v := 1) hx hb dX6_openPermit_72 (by decide) ?_
                  refine lv_icmp_ne (tgt := 90) hx hb dX6_openPermit_73 (by decide) (fun c_19 => ?_) (fun c_19 => ?_)
                  · have hR := hR.trans (if_neg c_19)
                    refine lv_iconst (v := 0) hx hb dX6_openPermit_90 (by decide) ?_
                    refine lv_istore_n (lv' := [(3, .int 0), (0, .ref (ad 29)), (1, .int a1), (2, .int 0), (4, .int x4)]) hx hb dX6_openPermit_91 rfl hl (by decide) rfl (fun ls hl => ?_)
                    refine lv_iinc (v := (x4 + 1)) (lv' := [(4, .int (x4 + 1)), (3, .int 0), (0, .ref (ad 29)), (1, .int a1), (2, .int 0)]) hx hb dX6_openPermit_92 hl (k := 4) rfl rfl (by decide) rfl (fun ls hl => ?_)
                    refine lv_goto (tgt := 55) hx hb dX6_openPermit_95 (by decide) ?_
                    exact ih (k + 1)  0 (x4 + 1) (by rw [ex]; exact nI_1 _) (by omega) (by omega)  hR H locs hP hD hS ls (lv_sub hl [2, 3, 4, 1, 0] rfl)
                  · have hR := hR.trans (if_pos c_19)
                    refine lv_aload_n hx hb dX6_openPermit_76 rfl (lv_at hl 0 rfl) ?_
                    refine lv_iload hx hb dX6_openPermit_77 (lv_at hl 4 rfl) ?_
                    refine zai (va_runV (As := [.int x4]) (rest := []) ⟨hx, hb, hml, hown, hts⟩ (c_X6_barring l G cs ad tl σ x4 hI H.size) (cwV 1 hts gX6_openPermit_X6_barring rfl rfl rfl (by decide +kernel) ⟨Nat.le_of_ble_eq_true rfl, Nat.le_of_ble_eq_true rfl⟩) (zpv hE hP hD hS hA (zg_29 cs ad σ tl) rfl) rfl rfl hl.1 rfl (lv_room (Nat.le_of_ble_eq_true rfl)) dX6_openPermit_79 ⟨Nat.le_of_ble_eq_true rfl, Nat.le_of_ble_eq_true rfl⟩) hD hS hA (fun H locs hP hD hS => ?_)
                    refine lv_iconst (v := (-1)) hx hb dX6_openPermit_82 (by decide) ?_
                    refine lv_icmp_eq (tgt := 90) hx hb dX6_openPermit_83 (by decide) (fun c_20 => ?_) (fun c_20 => ?_)
                    · have hR := hR.trans (if_pos c_20)
                      refine lv_iconst (v := 0) hx hb dX6_openPermit_90 (by decide) ?_
                      refine lv_istore_n (lv' := [(3, .int 0), (0, .ref (ad 29)), (1, .int a1), (2, .int 0), (4, .int x4)]) hx hb dX6_openPermit_91 rfl hl (by decide) rfl (fun ls hl => ?_)
                      refine lv_iinc (v := (x4 + 1)) (lv' := [(4, .int (x4 + 1)), (3, .int 0), (0, .ref (ad 29)), (1, .int a1), (2, .int 0)]) hx hb dX6_openPermit_92 hl (k := 4) rfl rfl (by decide) rfl (fun ls hl => ?_)
                      refine lv_goto (tgt := 55) hx hb dX6_openPermit_95 (by decide) ?_
                      exact ih (k + 1)  0 (x4 + 1) (by rw [ex]; exact nI_1 _) (by omega) (by omega)  hR H locs hP hD hS ls (lv_sub hl [2, 3, 4, 1, 0] rfl)
                    · have hR := hR.trans (if_neg c_20)
                      refine lv_iconst (v := 1) hx hb dX6_openPermit_86 (by decide) ?_
                      refine lv_goto (tgt := 91) hx hb dX6_openPermit_87 (by decide) ?_
                      refine lv_istore_n (lv' := [(3, .int 1), (0, .ref (ad 29)), (1, .int a1), (2, .int 0), (4, .int x4)]) hx hb dX6_openPermit_91 rfl hl (by decide) rfl (fun ls hl => ?_)
                      refine lv_iinc (v := (x4 + 1)) (lv' := [(4, .int (x4 + 1)), (3, .int 1), (0, .ref (ad 29)), (1, .int a1), (2, .int 0)]) hx hb dX6_openPermit_92 hl (k := 4) rfl rfl (by decide) rfl (fun ls hl => ?_)
                      refine lv_goto (tgt := 55) hx hb dX6_openPermit_95 (by decide) ?_
                      exact ih (k + 1)  1 (x4 + 1) (by rw [ex]; exact nI_1 _) (by omega) (by omega)  hR H locs hP hD hS ls (lv_sub hl [2, 3, 4, 1, 0] rfl)
          exact loop_21 9 0  0 0 nI_0.symm (by omega) (by omega)  hR H locs hP hD hS ls (lv_sub hl [3, 4, 2, 1, 0] rfl)
        · have hR := hR.trans (if_pos c_14)
          refine lv_iconst (v := 1) hx hb dX6_openPermit_44 (by decide) ?_
          refine lv_goto (tgt := 49) hx hb dX6_openPermit_45 (by decide) ?_
          refine lv_istore_n (lv' := [(2, .int 1), (0, .ref (ad 29)), (1, .int a1)]) hx hb dX6_openPermit_49 rfl hl (by decide) rfl (fun ls hl => ?_)
          refine lv_iconst (v := 0) hx hb dX6_openPermit_50 (by decide) ?_
          refine lv_istore_n (lv' := [(3, .int 0), (2, .int 1), (0, .ref (ad 29)), (1, .int a1)]) hx hb dX6_openPermit_51 rfl hl (by decide) rfl (fun ls hl => ?_)
          refine lv_iconst (v := 0) hx hb dX6_openPermit_52 (by decide) ?_
          refine lv_istore (lv' := [(4, .int 0), (3, .int 0), (2, .int 1), (0, .ref (ad 29)), (1, .int a1)]) hx hb dX6_openPermit_53 hl (by decide) rfl (fun ls hl => ?_)
          have loop_26 : ∀ (n k : Nat) (x3 : Int32) (x4 : Int32), x4 = nI (k) → k ≤ 8 → k + n = 9 → (RVv, RVs) = L_X6_openPermit_55_3 σ a1 n x3 x4 → ∀ (H : Heap) (locs : List Loc), va_P G vwCl (zw cs ad σ tl) H → va_D A (zw cs ad σ tl) → va_S A s.heap H locs → ∀ ls : Array Slot, lv_has ls 5 [(0, .ref (ad 29)), (1, .int a1), (2, .int 1), (3, .int x3), (4, .int x4)] → W p l e (headSpec wsX6_openPermit { frames := 1, cells := 0, slots := 0, locals := 25 }).room s m (List.toArray [.ref (ad 29), .int a1]) below meth c H locs 0 0 (MQ below (va_Qi (fun (r : Int32) (_ : Unit) => r = RVv) (fun _ t => zPo G A (zw cs ad RVs tl) t) A) (List.toArray [.ref (ad 29), .int a1]) s 0 0 A) (F0 m 55 ls []) := by
            intro n
            induction n with
            | zero => intro k  x3 x4 ex hk hn; omega
            | succ n ih =>
              intro k  x3 x4 ex hk hn hR H locs hP hD hS ls hl
              rw [L_X6_openPermit_55_3] at hR
              refine lv_iload hx hb dX6_openPermit_55 (lv_at hl 4 rfl) ?_
              refine lv_bipush (v := 8) hx hb dX6_openPermit_57 (by decide) ?_
              refine lv_icmp_ge (tgt := 98) hx hb dX6_openPermit_59 (by decide) (fun c_22 => ?_) (fun c_22 => ?_)
              · have hR := hR.trans (if_pos c_22)
                refine lv_aload_n hx hb dX6_openPermit_98 rfl (lv_at hl 0 rfl) ?_
                refine lv_iload_n hx hb dX6_openPermit_99 rfl (lv_at hl 2 rfl) ?_
                refine lv_if_eq (tgt := 107) hx hb dX6_openPermit_100 (by decide) (fun c => absurd c (by decide)) (fun _ => ?_)
                refine lv_iconst (v := 2) hx hb dX6_openPermit_103 (by decide) ?_
                refine lv_goto (tgt := 123) hx hb dX6_openPermit_104 (by decide) ?_
                refine va_put (D := G) (ci := 8) (v := .int 2) (ty := .int) (C := RX6) (T := TX6) (N := 29) hx hb hts iX6_openPermit tyX6 tyX6_ok nmX6 hown hE.1 hP hD hS 29 (zg_29 cs ad σ tl) rfl 28 (by decide) (hts (.fieldLink RX6 82 "HandoverDeckModel" "thrown" "I") (by decide +kernel)) (fun _ h9 => h9) rfl (by decide +kernel) rfl rfl (Nat.le_of_ble_eq_true rfl) dX6_openPermit_123 (fun H locs hP hD hS => ?_)
                rw [zb_29_28 cs ad σ tl] at hP hD
                refine lv_aload_n hx hb dX6_openPermit_126 rfl (lv_at hl 0 rfl) ?_
                refine va_get (D := G) (ci := 8) (v := .int 2) (C := RX6) (T := TX6) (N := 29) hx hb hts iX6_openPermit hown hE.1 hP 29 (zg_29 cs ad (zs σ 29 28 2) tl) rfl 28 (by decide) (hts (.fieldLink RX6 82 "HandoverDeckModel" "thrown" "I") (by decide +kernel)) (fun _ h9 => h9) rfl dX6_openPermit_127 ?_
                refine lv_if_le (tgt := 135) hx hb dX6_openPermit_130 (by decide) (fun c => absurd c (by decide)) (fun _ => ?_)
                refine lv_iconst (v := (-1)) hx hb dX6_openPermit_133 (by decide) ?_
                obtain ⟨e1, e2⟩ := z2 hR.symm
                subst e1; subst e2
                exact W.iret (v := (-1)) hx hb hr (fun t ht hW => ⟨⟨_, (), rfl, rfl, by rw [ht]; exact hP, hD⟩, hS.F ht⟩) hS.2.2 dX6_openPermit_134
              · have hR := hR.trans (if_neg c_22)
                have hkB : k < 8 := zlt ex (by omega) (by decide) c_22
                refine lv_iload_n hx hb dX6_openPermit_62 rfl (lv_at hl 3 rfl) ?_
                refine lv_if_ne (tgt := 86) hx hb dX6_openPermit_63 (by decide) (fun c_23 => ?_) (fun c_23 => ?_)
                · have hR := hR.trans (if_neg c_23)
                  refine lv_iconst (v := 1) hx hb dX6_openPermit_86 (by decide) ?_
                  refine lv_goto (tgt := 91) hx hb dX6_openPermit_87 (by decide) ?_
                  refine lv_istore_n (lv' := [(3, .int 1), (0, .ref (ad 29)), (1, .int a1), (2, .int 1), (4, .int x4)]) hx hb dX6_openPermit_91 rfl hl (by decide) rfl (fun ls hl => ?_)
                  refine lv_iinc (v := (x4 + 1)) (lv' := [(4, .int (x4 + 1)), (3, .int 1), (0, .ref (ad 29)), (1, .int a1), (2, .int 1)]) hx hb dX6_openPermit_92 hl (k := 4) rfl rfl (by decide) rfl (fun ls hl => ?_)
                  refine lv_goto (tgt := 55) hx hb dX6_openPermit_95 (by decide) ?_
                  exact ih (k + 1)  1 (x4 + 1) (by rw [ex]; exact nI_1 _) (by omega) (by omega)  hR H locs hP hD hS ls (lv_sub hl [2, 3, 4, 1, 0] rfl)
                · have hR := hR.trans (if_pos c_23)
                  refine lv_iload_n hx hb dX6_openPermit_66 rfl (lv_at hl 1 rfl) ?_
                  refine lv_iload hx hb dX6_openPermit_67 (lv_at hl 4 rfl) ?_
                  refine lv_ishr hx hb dX6_openPermit_69 ?_
                  refine lv_iconst (v := 1) hx hb dX6_openPermit_70 (by decide) ?_
                  refine lv_iand hx hb dX6_openPermit_71 ?_
                  refine lv_iconst (v := 1) hx hb dX6_openPermit_72 (by decide) ?_
                  refine lv_icmp_ne (tgt := 90) hx hb dX6_openPermit_73 (by decide) (fun c_24 => ?_) (fun c_24 => ?_)
                  · have hR := hR.trans (if_neg c_24)
                    refine lv_iconst (v := 0) hx hb dX6_openPermit_90 (by decide) ?_
                    refine lv_istore_n (lv' := [(3, .int 0), (0, .ref (ad 29)), (1, .int a1), (2, .int 1), (4, .int x4)]) hx hb dX6_openPermit_91 rfl hl (by decide) rfl (fun ls hl => ?_)
                    refine lv_iinc (v := (x4 + 1)) (lv' := [(4, .int (x4 + 1)), (3, .int 0), (0, .ref (ad 29)), (1, .int a1), (2, .int 1)]) hx hb dX6_openPermit_92 hl (k := 4) rfl rfl (by decide) rfl (fun ls hl => ?_)
                    refine lv_goto (tgt := 55) hx hb dX6_openPermit_95 (by decide) ?_
                    exact ih (k + 1)  0 (x4 + 1) (by rw [ex]; exact nI_1 _) (by omega) (by omega)  hR H locs hP hD hS ls (lv_sub hl [2, 3, 4, 1, 0] rfl)
                  · have hR := hR.trans (if_pos c_24)
                    refine lv_aload_n hx hb dX6_openPermit_76 rfl (lv_at hl 0 rfl) ?_
                    refine lv_iload hx hb dX6_openPermit_77 (lv_at hl 4 rfl) ?_
                    refine zai (va_runV (As := [.int x4]) (rest := []) ⟨hx, hb, hml, hown, hts⟩ (c_X6_barring l G cs ad tl σ x4 hI H.size) (cwV 1 hts gX6_openPermit_X6_barring rfl rfl rfl (by decide +kernel) ⟨Nat.le_of_ble_eq_true rfl, Nat.le_of_ble_eq_true rfl⟩) (zpv hE hP hD hS hA (zg_29 cs ad σ tl) rfl) rfl rfl hl.1 rfl (lv_room (Nat.le_of_ble_eq_true rfl)) dX6_openPermit_79 ⟨Nat.le_of_ble_eq_true rfl, Nat.le_of_ble_eq_true rfl⟩) hD hS hA (fun H locs hP hD hS => ?_)
                    refine lv_iconst (v := (-1)) hx hb dX6_openPermit_82 (by decide) ?_
                    refine lv_icmp_eq (tgt := 90) hx hb dX6_openPermit_83 (by decide) (fun c_25 => ?_) (fun c_25 => ?_)
                    · have hR := hR.trans (if_pos c_25)
                      refine lv_iconst (v := 0) hx hb dX6_openPermit_90 (by decide) ?_
                      refine lv_istore_n (lv' := [(3, .int 0), (0, .ref (ad 29)), (1, .int a1), (2, .int 1), (4, .int x4)]) hx hb dX6_openPermit_91 rfl hl (by decide) rfl (fun ls hl => ?_)
                      refine lv_iinc (v := (x4 + 1)) (lv' := [(4, .int (x4 + 1)), (3, .int 0), (0, .ref (ad 29)), (1, .int a1), (2, .int 1)]) hx hb dX6_openPermit_92 hl (k := 4) rfl rfl (by decide) rfl (fun ls hl => ?_)
                      refine lv_goto (tgt := 55) hx hb dX6_openPermit_95 (by decide) ?_
                      exact ih (k + 1)  0 (x4 + 1) (by rw [ex]; exact nI_1 _) (by omega) (by omega)  hR H locs hP hD hS ls (lv_sub hl [2, 3, 4, 1, 0] rfl)
                    · have hR := hR.trans (if_neg c_25)
                      refine lv_iconst (v := 1) hx hb dX6_openPermit_86 (by decide) ?_
                      refine lv_goto (tgt := 91) hx hb dX6_openPermit_87 (by decide) ?_
                      refine lv_istore_n (lv' := [(3, .int 1), (0, .ref (ad 29)), (1, .int a1), (2, .int 1), (4, .int x4)]) hx hb dX6_openPermit_91 rfl hl (by decide) rfl (fun ls hl => ?_)
                      refine lv_iinc (v := (x4 + 1)) (lv' := [(4, .int (x4 + 1)), (3, .int 1), (0, .ref (ad 29)), (1, .int a1), (2, .int 1)]) hx hb dX6_openPermit_92 hl (k := 4) rfl rfl (by decide) rfl (fun ls hl => ?_)
                      refine lv_goto (tgt := 55) hx hb dX6_openPermit_95 (by decide) ?_
                      exact ih (k + 1)  1 (x4 + 1) (by rw [ex]; exact nI_1 _) (by omega) (by omega)  hR H locs hP hD hS ls (lv_sub hl [2, 3, 4, 1, 0] rfl)
          exact loop_26 9 0  0 0 nI_0.symm (by omega) (by omega)  hR H locs hP hD hS ls (lv_sub hl [3, 4, 2, 1, 0] rfl)
  · have hR := hR.trans (if_pos c_1)
    refine lv_aload_n hx hb dX6_openPermit_12 rfl (lv_at hl 0 rfl) ?_
    refine lv_iconst (v := 1) hx hb dX6_openPermit_13 (by decide) ?_
    refine va_put (D := G) (ci := 8) (v := .int 1) (ty := .int) (C := RX6) (T := TX6) (N := 29) hx hb hts iX6_openPermit tyX6 tyX6_ok nmX6 hown hE.1 hP hD hS 29 (zg_29 cs ad σ tl) rfl 28 (by decide) (hts (.fieldLink RX6 82 "HandoverDeckModel" "thrown" "I") (by decide +kernel)) (fun _ h9 => h9) rfl (by decide +kernel) rfl rfl (Nat.le_of_ble_eq_true rfl) dX6_openPermit_14 (fun H locs hP hD hS => ?_)
    rw [zb_29_28 cs ad σ tl] at hP hD
    refine lv_iconst (v := (-1)) hx hb dX6_openPermit_17 (by decide) ?_
    obtain ⟨e1, e2⟩ := z2 hR.symm
    subst e1; subst e2
    exact W.iret (v := (-1)) hx hb hr (fun t ht hW => ⟨⟨_, (), rfl, rfl, by rw [ht]; exact hP, hD⟩, hS.F ht⟩) hS.2.2 dX6_openPermit_18
def f_X6_closePermit (σ : zS) (a1 : Int32) : Int32 × zS := (if (f_X6_isPermit σ a1) = 0 then ((-1), (zs σ 29 28 1)) else (if (σ 32 (σ 49 a1.toNatClampNeg).toNatClampNeg) = 0 then ((-1), (zs σ 29 28 2)) else (if (f_X6_acts σ ) = 0 then ((-1), (zs σ 29 28 2)) else ((σ 49 a1.toNatClampNeg), (zs (zs σ 29 28 0) 32 (σ 49 a1.toNatClampNeg).toNatClampNeg 0)))))
theorem iX6_closePermit : ∀ w ∈ u_ws RX6 TX6 29, w ∈ wsX6_closePermit := by decide +kernel
set_option maxRecDepth 100000 in
theorem c_X6_closePermit (l : Launch) (G : va_G) (cs : Nat → ClassId) (ad : Nat → Nat) (tl : va_W) (σ : zS) (a1 : Int32) (hI : zI σ) : zMi l yX6_closePermit wsX6_closePermit { frames := 2, cells := 0, slots := 0, locals := 46 } G cs [.ref (ad 29), .int a1] (zw cs ad σ tl) (f_X6_closePermit σ a1).1 (zw cs ad (f_X6_closePermit σ a1).2 tl) 0 0 := by
  intro sz
  refine Met.ofW (cc := cX6_closePermit) (maxL := 2) (ret := (some .int)) (by decide) rfl ?_
  intro p e s m args below meth c s₁ B hml hv
  obtain ⟨rfl, hsz, hP, hD0, hE⟩ := hv
  have hx := B.exec
  have hb := B.bytes
  have hr := B.returns
  have hts := atoms_spec (ws := wsX6_closePermit) B.pre
  have hown : s.vm.findClass RX6 = some m.cls := findClass_of_methodNamed B.named
  have hlocks := B.notSynchronized
  subst hsz
  have hD := hD0.self (sz := s.heap.size)
  have hA : ∀ q : Nat, s.heap.size ≤ q → (va_A (zw cs ad σ tl) s.heap.size) q := fun q h => Or.inr h
  generalize va_A (zw cs ad σ tl) s.heap.size = A at hD hE hA ⊢
  have hS : va_S A s.heap s.heap [] := va_S.rf
  have hl := lv_entry ([.ref (ad 29), .int a1]) (n := 2) (Nat.le_of_ble_eq_true rfl)
  rw [lg_entry_eq]
  generalize (lg_sl ([.ref (ad 29), .int a1]) ++ List.replicate (2 - (lg_sl ([.ref (ad 29), .int a1])).length) Slot.unset).toArray = ls at hl ⊢
  have hl : lv_has ls 2 [(0, .ref (ad 29)), (1, .int a1)] := hl
  generalize hR : (f_X6_closePermit σ a1) = RV
  have hR := hR.symm
  unfold f_X6_closePermit at hR
  obtain ⟨RVv, RVs⟩ := RV
  dsimp only
  obtain ⟨H, hH⟩ : ∃ z, z = s.heap := ⟨_, rfl⟩
  obtain ⟨locs, hlocs⟩ : ∃ z : List Loc, z = [] := ⟨_, rfl⟩
  rw [← hH] at hP
  have hS : va_S A s.heap H locs := by rw [hH, hlocs]; exact hS
  show W _ _ _ _ _ _ _ _ _ _ s.heap [] _ _ _ _
  rw [← hH, ← hlocs]
  clear hlocs
  refine lv_aload_n hx hb dX6_closePermit_0 rfl (lv_at hl 0 rfl) ?_
  refine lv_aload_n hx hb dX6_closePermit_1 rfl (lv_at hl 0 rfl) ?_
  refine lv_iload_n hx hb dX6_closePermit_2 rfl (lv_at hl 1 rfl) ?_
  refine zai (va_runV (As := [.int a1]) (rest := [.ref (ad 29)]) ⟨hx, hb, hml, hown, hts⟩ (c_X6_isPermit l G cs ad tl σ a1  H.size) (cwV 1 hts gX6_closePermit_X6_isPermit rfl rfl rfl (by decide +kernel) ⟨Nat.le_of_ble_eq_true rfl, Nat.le_of_ble_eq_true rfl⟩) (zpv hE hP hD hS hA (zg_29 cs ad σ tl) rfl) rfl rfl hl.1 rfl (lv_room (Nat.le_of_ble_eq_true rfl)) dX6_closePermit_3 ⟨Nat.le_of_ble_eq_true rfl, Nat.le_of_ble_eq_true rfl⟩) hD hS hA (fun H locs hP hD hS => ?_)
  refine lv_if_ne (tgt := 13) hx hb dX6_closePermit_6 (by decide) (fun c_1 => ?_) (fun c_1 => ?_)
  · have hR := hR.trans (if_neg c_1)
    refine lv_aload_n hx hb dX6_closePermit_13 rfl (lv_at hl 0 rfl) ?_
    refine va_get (D := G) (ci := 8) (v := .ref (ad 32)) (C := RX6) (T := TX6) (N := 29) hx hb hts iX6_closePermit hown hE.1 hP 29 (zg_29 cs ad σ tl) rfl 3 (by decide) (hts (.fieldLink RX6 17 "HandoverDeckModel" "isOpen" "[Z") (by decide +kernel)) (fun _ h9 => h9) rfl dX6_closePermit_14 ?_
    refine lv_aload_n hx hb dX6_closePermit_17 rfl (lv_at hl 0 rfl) ?_
    refine va_get (D := G) (ci := 8) (v := .ref (ad 49)) (C := RX6) (T := TX6) (N := 29) hx hb hts iX6_closePermit hown hE.1 hP 29 (zg_29 cs ad σ tl) rfl 22 (by decide) (hts (.fieldLink RX6 69 "HandoverDeckModel" "permitLine" "[I") (by decide +kernel)) (fun _ h9 => h9) rfl dX6_closePermit_18 ?_
    refine lv_iload_n hx hb dX6_closePermit_21 rfl (lv_at hl 1 rfl) ?_
    refine z_iald (v := (σ 49 a1.toNatClampNeg)) hx hb hE hP (zg_49 cs ad σ tl) (vin_X6_isPermit hI c_1) rfl dX6_closePermit_22 ?_
    refine z_zald (v := (σ 32 (σ 49 a1.toNatClampNeg).toNatClampNeg)) hx hb hE hP (zg_32 cs ad σ tl) (vi_pl hI (vin_X6_isPermit hI c_1)) rfl dX6_closePermit_23 ?_
    refine lv_if_eq (tgt := 34) hx hb dX6_closePermit_24 (by decide) (fun c_2 => ?_) (fun c_2 => ?_)
    · have hR := hR.trans (if_pos c_2)
      refine lv_iconst (v := 2) hx hb dX6_closePermit_34 (by decide) ?_
      refine lv_goto (tgt := 39) hx hb dX6_closePermit_35 (by decide) ?_
      refine va_put (D := G) (ci := 8) (v := .int 2) (ty := .int) (C := RX6) (T := TX6) (N := 29) hx hb hts iX6_closePermit tyX6 tyX6_ok nmX6 hown hE.1 hP hD hS 29 (zg_29 cs ad σ tl) rfl 28 (by decide) (hts (.fieldLink RX6 82 "HandoverDeckModel" "thrown" "I") (by decide +kernel)) (fun _ h9 => h9) rfl (by decide +kernel) rfl rfl (Nat.le_of_ble_eq_true rfl) dX6_closePermit_39 (fun H locs hP hD hS => ?_)
      rw [zb_29_28 cs ad σ tl] at hP hD
      refine lv_aload_n hx hb dX6_closePermit_42 rfl (lv_at hl 0 rfl) ?_
      refine va_get (D := G) (ci := 8) (v := .int 2) (C := RX6) (T := TX6) (N := 29) hx hb hts iX6_closePermit hown hE.1 hP 29 (zg_29 cs ad (zs σ 29 28 2) tl) rfl 28 (by decide) (hts (.fieldLink RX6 82 "HandoverDeckModel" "thrown" "I") (by decide +kernel)) (fun _ h9 => h9) rfl dX6_closePermit_43 ?_
      refine lv_if_le (tgt := 51) hx hb dX6_closePermit_46 (by decide) (fun c => absurd c (by decide)) (fun _ => ?_)
      refine lv_iconst (v := (-1)) hx hb dX6_closePermit_49 (by decide) ?_
      obtain ⟨e1, e2⟩ := z2 hR.symm
      subst e1; subst e2
      exact W.iret (v := (-1)) hx hb hr (fun t ht hW => ⟨⟨_, (), rfl, rfl, by rw [ht]; exact hP, hD⟩, hS.F ht⟩) hS.2.2 dX6_closePermit_50
    · have hR := hR.trans (if_neg c_2)
      refine lv_aload_n hx hb dX6_closePermit_27 rfl (lv_at hl 0 rfl) ?_
      refine zai (va_runV (As := []) (rest := [.ref (ad 29)]) ⟨hx, hb, hml, hown, hts⟩ (c_X6_acts l G cs ad tl σ   H.size) (cwV 0 hts gX6_closePermit_X6_acts rfl rfl rfl (by decide +kernel) ⟨Nat.le_of_ble_eq_true rfl, Nat.le_of_ble_eq_true rfl⟩) (zpv hE hP hD hS hA (zg_29 cs ad σ tl) rfl) rfl rfl hl.1 rfl (lv_room (Nat.le_of_ble_eq_true rfl)) dX6_closePermit_28 ⟨Nat.le_of_ble_eq_true rfl, Nat.le_of_ble_eq_true rfl⟩) hD hS hA (fun H locs hP hD hS => ?_)
      refine lv_if_ne (tgt := 38) hx hb dX6_closePermit_31 (by decide) (fun c_3 => ?_) (fun c_3 => ?_)
      · have hR := hR.trans (if_neg c_3)
        refine lv_iconst (v := 0) hx hb dX6_closePermit_38 (by decide) ?_
        refine va_put (D := G) (ci := 8) (v := .int 0) (ty := .int) (C := RX6) (T := TX6) (N := 29) hx hb hts iX6_closePermit tyX6 tyX6_ok nmX6 hown hE.1 hP hD hS 29 (zg_29 cs ad σ tl) rfl 28 (by decide) (hts (.fieldLink RX6 82 "HandoverDeckModel" "thrown" "I") (by decide +kernel)) (fun _ h9 => h9) rfl (by decide +kernel) rfl rfl (Nat.le_of_ble_eq_true rfl) dX6_closePermit_39 (fun H locs hP hD hS => ?_)
        rw [zb_29_28 cs ad σ tl] at hP hD
        refine lv_aload_n hx hb dX6_closePermit_42 rfl (lv_at hl 0 rfl) ?_
        refine va_get (D := G) (ci := 8) (v := .int 0) (C := RX6) (T := TX6) (N := 29) hx hb hts iX6_closePermit hown hE.1 hP 29 (zg_29 cs ad (zs σ 29 28 0) tl) rfl 28 (by decide) (hts (.fieldLink RX6 82 "HandoverDeckModel" "thrown" "I") (by decide +kernel)) (fun _ h9 => h9) rfl dX6_closePermit_43 ?_
        refine lv_if_le (tgt := 51) hx hb dX6_closePermit_46 (by decide) (fun _ => ?_) (fun c => absurd c (by decide))
        refine lv_aload_n hx hb dX6_closePermit_51 rfl (lv_at hl 0 rfl) ?_
        refine va_get (D := G) (ci := 8) (v := .ref (ad 32)) (C := RX6) (T := TX6) (N := 29) hx hb hts iX6_closePermit hown hE.1 hP 29 (zg_29 cs ad (zs σ 29 28 0) tl) rfl 3 (by decide) (hts (.fieldLink RX6 17 "HandoverDeckModel" "isOpen" "[Z") (by decide +kernel)) (fun _ h9 => h9) rfl dX6_closePermit_52 ?_
        refine lv_aload_n hx hb dX6_closePermit_55 rfl (lv_at hl 0 rfl) ?_
        refine va_get (D := G) (ci := 8) (v := .ref (ad 49)) (C := RX6) (T := TX6) (N := 29) hx hb hts iX6_closePermit hown hE.1 hP 29 (zg_29 cs ad (zs σ 29 28 0) tl) rfl 22 (by decide) (hts (.fieldLink RX6 69 "HandoverDeckModel" "permitLine" "[I") (by decide +kernel)) (fun _ h9 => h9) rfl dX6_closePermit_56 ?_
        refine lv_iload_n hx hb dX6_closePermit_59 rfl (lv_at hl 1 rfl) ?_
        refine z_iald (v := (σ 49 a1.toNatClampNeg)) hx hb hE hP (zg_49 cs ad (zs σ 29 28 0) tl) (vin_X6_isPermit hI c_1) (by rw [zs_ne (k := 29) (k' := 49) (by decide)]) dX6_closePermit_60 ?_
        refine lv_iconst (v := 0) hx hb dX6_closePermit_61 (by decide) ?_
        refine z_zast hx hb hE hP hD hS (zg_32 cs ad (zs σ 29 28 0) tl) (zb_32 cs ad (zs σ 29 28 0) tl) (vi_pl hI (vin_X6_isPermit hI c_1)) rfl dX6_closePermit_62 (fun H locs hP hD hS => ?_)
        refine lv_aload_n hx hb dX6_closePermit_63 rfl (lv_at hl 0 rfl) ?_
        refine va_get (D := G) (ci := 8) (v := .ref (ad 49)) (C := RX6) (T := TX6) (N := 29) hx hb hts iX6_closePermit hown hE.1 hP 29 (zg_29 cs ad (zs (zs σ 29 28 0) 32 (σ 49 a1.toNatClampNeg).toNatClampNeg 0) tl) rfl 22 (by decide) (hts (.fieldLink RX6 69 "HandoverDeckModel" "permitLine" "[I") (by decide +kernel)) (fun _ h9 => h9) rfl dX6_closePermit_64 ?_
        refine lv_iload_n hx hb dX6_closePermit_67 rfl (lv_at hl 1 rfl) ?_
        refine z_iald (v := (σ 49 a1.toNatClampNeg)) hx hb hE hP (zg_49 cs ad (zs (zs σ 29 28 0) 32 (σ 49 a1.toNatClampNeg).toNatClampNeg 0) tl) (vin_X6_isPermit hI c_1) (by rw [zs_ne (k := 32) (k' := 49) (by decide), zs_ne (k := 29) (k' := 49) (by decide)]) dX6_closePermit_68 ?_
        obtain ⟨e1, e2⟩ := z2 hR.symm
        subst e1; subst e2
        exact W.iret (v := (σ 49 a1.toNatClampNeg)) hx hb hr (fun t ht hW => ⟨⟨_, (), rfl, rfl, by rw [ht]; exact hP, hD⟩, hS.F ht⟩) hS.2.2 dX6_closePermit_69
      · have hR := hR.trans (if_pos c_3)
        refine lv_iconst (v := 2) hx hb dX6_closePermit_34 (by decide) ?_
        refine lv_goto (tgt := 39) hx hb dX6_closePermit_35 (by decide) ?_
        refine va_put (D := G) (ci := 8) (v := .int 2) (ty := .int) (C := RX6) (T := TX6) (N := 29) hx hb hts iX6_closePermit tyX6 tyX6_ok nmX6 hown hE.1 hP hD hS 29 (zg_29 cs ad σ tl) rfl 28 (by decide) (hts (.fieldLink RX6 82 "HandoverDeckModel" "thrown" "I") (by decide +kernel)) (fun _ h9 => h9) rfl (by decide +kernel) rfl rfl (Nat.le_of_ble_eq_true rfl) dX6_closePermit_39 (fun H locs hP hD hS => ?_)
        rw [zb_29_28 cs ad σ tl] at hP hD
        refine lv_aload_n hx hb dX6_closePermit_42 rfl (lv_at hl 0 rfl) ?_
        refine va_get (D := G) (ci := 8) (v := .int 2) (C := RX6) (T := TX6) (N := 29) hx hb hts iX6_closePermit hown hE.1 hP 29 (zg_29 cs ad (zs σ 29 28 2) tl) rfl 28 (by decide) (hts (.fieldLink RX6 82 "HandoverDeckModel" "thrown" "I") (by decide +kernel)) (fun _ h9 => h9) rfl dX6_closePermit_43 ?_
        refine lv_if_le (tgt := 51) hx hb dX6_closePermit_46 (by decide) (fun c => absurd c (by decide)) (fun _ => ?_)
        refine lv_iconst (v := (-1)) hx hb dX6_closePermit_49 (by decide) ?_
        obtain ⟨e1, e2⟩ := z2 hR.symm
        subst e1; subst e2
        exact W.iret (v := (-1)) hx hb hr (fun t ht hW => ⟨⟨_, (), rfl, rfl, by rw [ht]; exact hP, hD⟩, hS.F ht⟩) hS.2.2 dX6_closePermit_50
  · have hR := hR.trans (if_pos c_1)
    refine lv_iconst (v := 1) hx hb dX6_closePermit_9 (by decide) ?_
    refine lv_goto (tgt := 39) hx hb dX6_closePermit_10 (by decide) ?_
    refine va_put (D := G) (ci := 8) (v := .int 1) (ty := .int) (C := RX6) (T := TX6) (N := 29) hx hb hts iX6_closePermit tyX6 tyX6_ok nmX6 hown hE.1 hP hD hS 29 (zg_29 cs ad σ tl) rfl 28 (by decide) (hts (.fieldLink RX6 82 "HandoverDeckModel" "thrown" "I") (by decide +kernel)) (fun _ h9 => h9) rfl (by decide +kernel) rfl rfl (Nat.le_of_ble_eq_true rfl) dX6_closePermit_39 (fun H locs hP hD hS => ?_)
    rw [zb_29_28 cs ad σ tl] at hP hD
    refine lv_aload_n hx hb dX6_closePermit_42 rfl (lv_at hl 0 rfl) ?_
    refine va_get (D := G) (ci := 8) (v := .int 1) (C := RX6) (T := TX6) (N := 29) hx hb hts iX6_closePermit hown hE.1 hP 29 (zg_29 cs ad (zs σ 29 28 1) tl) rfl 28 (by decide) (hts (.fieldLink RX6 82 "HandoverDeckModel" "thrown" "I") (by decide +kernel)) (fun _ h9 => h9) rfl dX6_closePermit_43 ?_
    refine lv_if_le (tgt := 51) hx hb dX6_closePermit_46 (by decide) (fun c => absurd c (by decide)) (fun _ => ?_)
    refine lv_iconst (v := (-1)) hx hb dX6_closePermit_49 (by decide) ?_
    obtain ⟨e1, e2⟩ := z2 hR.symm
    subst e1; subst e2
    exact W.iret (v := (-1)) hx hb hr (fun t ht hW => ⟨⟨_, (), rfl, rfl, by rw [ht]; exact hP, hD⟩, hS.F ht⟩) hS.2.2 dX6_closePermit_50
def f_X6_isPermitOpen (σ : zS) (a1 : Int32) : Int32 × zS := (if (f_X6_isPermit σ a1) = 0 then (0, (zs σ 29 28 1)) else (if (σ 32 (σ 49 a1.toNatClampNeg).toNatClampNeg) = 0 then (0, (zs σ 29 28 0)) else (1, (zs σ 29 28 0))))
theorem iX6_isPermitOpen : ∀ w ∈ u_ws RX6 TX6 29, w ∈ wsX6_isPermitOpen := by decide +kernel
set_option maxRecDepth 100000 in
theorem c_X6_isPermitOpen (l : Launch) (G : va_G) (cs : Nat → ClassId) (ad : Nat → Nat) (tl : va_W) (σ : zS) (a1 : Int32) (hI : zI σ) : zMi l yX6_isPermitOpen wsX6_isPermitOpen { frames := 2, cells := 0, slots := 0, locals := 46 } G cs [.ref (ad 29), .int a1] (zw cs ad σ tl) (f_X6_isPermitOpen σ a1).1 (zw cs ad (f_X6_isPermitOpen σ a1).2 tl) 0 0 := by
  intro sz
  refine Met.ofW (cc := cX6_isPermitOpen) (maxL := 2) (ret := (some .boolean)) (by decide) rfl ?_
  intro p e s m args below meth c s₁ B hml hv
  obtain ⟨rfl, hsz, hP, hD0, hE⟩ := hv
  have hx := B.exec
  have hb := B.bytes
  have hr := B.returns
  have hts := atoms_spec (ws := wsX6_isPermitOpen) B.pre
  have hown : s.vm.findClass RX6 = some m.cls := findClass_of_methodNamed B.named
  have hlocks := B.notSynchronized
  subst hsz
  have hD := hD0.self (sz := s.heap.size)
  have hA : ∀ q : Nat, s.heap.size ≤ q → (va_A (zw cs ad σ tl) s.heap.size) q := fun q h => Or.inr h
  generalize va_A (zw cs ad σ tl) s.heap.size = A at hD hE hA ⊢
  have hS : va_S A s.heap s.heap [] := va_S.rf
  have hl := lv_entry ([.ref (ad 29), .int a1]) (n := 2) (Nat.le_of_ble_eq_true rfl)
  rw [lg_entry_eq]
  generalize (lg_sl ([.ref (ad 29), .int a1]) ++ List.replicate (2 - (lg_sl ([.ref (ad 29), .int a1])).length) Slot.unset).toArray = ls at hl ⊢
  have hl : lv_has ls 2 [(0, .ref (ad 29)), (1, .int a1)] := hl
  generalize hR : (f_X6_isPermitOpen σ a1) = RV
  have hR := hR.symm
  unfold f_X6_isPermitOpen at hR
  obtain ⟨RVv, RVs⟩ := RV
  dsimp only
  obtain ⟨H, hH⟩ : ∃ z, z = s.heap := ⟨_, rfl⟩
  obtain ⟨locs, hlocs⟩ : ∃ z : List Loc, z = [] := ⟨_, rfl⟩
  rw [← hH] at hP
  have hS : va_S A s.heap H locs := by rw [hH, hlocs]; exact hS
  show W _ _ _ _ _ _ _ _ _ _ s.heap [] _ _ _ _
  rw [← hH, ← hlocs]
  clear hlocs
  refine lv_aload_n hx hb dX6_isPermitOpen_0 rfl (lv_at hl 0 rfl) ?_
  refine lv_aload_n hx hb dX6_isPermitOpen_1 rfl (lv_at hl 0 rfl) ?_
  refine lv_iload_n hx hb dX6_isPermitOpen_2 rfl (lv_at hl 1 rfl) ?_
  refine zai (va_runV (As := [.int a1]) (rest := [.ref (ad 29)]) ⟨hx, hb, hml, hown, hts⟩ (c_X6_isPermit l G cs ad tl σ a1  H.size) (cwV 1 hts gX6_isPermitOpen_X6_isPermit rfl rfl rfl (by decide +kernel) ⟨Nat.le_of_ble_eq_true rfl, Nat.le_of_ble_eq_true rfl⟩) (zpv hE hP hD hS hA (zg_29 cs ad σ tl) rfl) rfl rfl hl.1 rfl (lv_room (Nat.le_of_ble_eq_true rfl)) dX6_isPermitOpen_3 ⟨Nat.le_of_ble_eq_true rfl, Nat.le_of_ble_eq_true rfl⟩) hD hS hA (fun H locs hP hD hS => ?_)
  refine lv_if_eq (tgt := 13) hx hb dX6_isPermitOpen_6 (by decide) (fun c_1 => ?_) (fun c_1 => ?_)
  · have hR := hR.trans (if_pos c_1)
    refine lv_iconst (v := 1) hx hb dX6_isPermitOpen_13 (by decide) ?_
    refine va_put (D := G) (ci := 8) (v := .int 1) (ty := .int) (C := RX6) (T := TX6) (N := 29) hx hb hts iX6_isPermitOpen tyX6 tyX6_ok nmX6 hown hE.1 hP hD hS 29 (zg_29 cs ad σ tl) rfl 28 (by decide) (hts (.fieldLink RX6 82 "HandoverDeckModel" "thrown" "I") (by decide +kernel)) (fun _ h9 => h9) rfl (by decide +kernel) rfl rfl (Nat.le_of_ble_eq_true rfl) dX6_isPermitOpen_14 (fun H locs hP hD hS => ?_)
    rw [zb_29_28 cs ad σ tl] at hP hD
    refine lv_aload_n hx hb dX6_isPermitOpen_17 rfl (lv_at hl 0 rfl) ?_
    refine va_get (D := G) (ci := 8) (v := .int 1) (C := RX6) (T := TX6) (N := 29) hx hb hts iX6_isPermitOpen hown hE.1 hP 29 (zg_29 cs ad (zs σ 29 28 1) tl) rfl 28 (by decide) (hts (.fieldLink RX6 82 "HandoverDeckModel" "thrown" "I") (by decide +kernel)) (fun _ h9 => h9) rfl dX6_isPermitOpen_18 ?_
    refine lv_if_ne (tgt := 42) hx hb dX6_isPermitOpen_21 (by decide) (fun _ => ?_) (fun c => absurd c (by decide))
    refine lv_iconst (v := 0) hx hb dX6_isPermitOpen_42 (by decide) ?_
    obtain ⟨e1, e2⟩ := z2 hR.symm
    subst e1; subst e2
    exact W.zret (v := 0) hx hb hr rfl (fun t ht hW => ⟨⟨_, (), rfl, rfl, by rw [ht]; exact hP, hD⟩, hS.F ht⟩) hS.2.2 dX6_isPermitOpen_43
  · have hR := hR.trans (if_neg c_1)
    refine lv_iconst (v := 0) hx hb dX6_isPermitOpen_9 (by decide) ?_
    refine lv_goto (tgt := 14) hx hb dX6_isPermitOpen_10 (by decide) ?_
    refine va_put (D := G) (ci := 8) (v := .int 0) (ty := .int) (C := RX6) (T := TX6) (N := 29) hx hb hts iX6_isPermitOpen tyX6 tyX6_ok nmX6 hown hE.1 hP hD hS 29 (zg_29 cs ad σ tl) rfl 28 (by decide) (hts (.fieldLink RX6 82 "HandoverDeckModel" "thrown" "I") (by decide +kernel)) (fun _ h9 => h9) rfl (by decide +kernel) rfl rfl (Nat.le_of_ble_eq_true rfl) dX6_isPermitOpen_14 (fun H locs hP hD hS => ?_)
    rw [zb_29_28 cs ad σ tl] at hP hD
    refine lv_aload_n hx hb dX6_isPermitOpen_17 rfl (lv_at hl 0 rfl) ?_
    refine va_get (D := G) (ci := 8) (v := .int 0) (C := RX6) (T := TX6) (N := 29) hx hb hts iX6_isPermitOpen hown hE.1 hP 29 (zg_29 cs ad (zs σ 29 28 0) tl) rfl 28 (by decide) (hts (.fieldLink RX6 82 "HandoverDeckModel" "thrown" "I") (by decide +kernel)) (fun _ h9 => h9) rfl dX6_isPermitOpen_18 ?_
    refine lv_if_ne (tgt := 42) hx hb dX6_isPermitOpen_21 (by decide) (fun c => absurd c (by decide)) (fun _ => ?_)
    refine lv_aload_n hx hb dX6_isPermitOpen_24 rfl (lv_at hl 0 rfl) ?_
    refine va_get (D := G) (ci := 8) (v := .ref (ad 32)) (C := RX6) (T := TX6) (N := 29) hx hb hts iX6_isPermitOpen hown hE.1 hP 29 (zg_29 cs ad (zs σ 29 28 0) tl) rfl 3 (by decide) (hts (.fieldLink RX6 17 "HandoverDeckModel" "isOpen" "[Z") (by decide +kernel)) (fun _ h9 => h9) rfl dX6_isPermitOpen_25 ?_
    refine lv_aload_n hx hb dX6_isPermitOpen_28 rfl (lv_at hl 0 rfl) ?_
    refine va_get (D := G) (ci := 8) (v := .ref (ad 49)) (C := RX6) (T := TX6) (N := 29) hx hb hts iX6_isPermitOpen hown hE.1 hP 29 (zg_29 cs ad (zs σ 29 28 0) tl) rfl 22 (by decide) (hts (.fieldLink RX6 69 "HandoverDeckModel" "permitLine" "[I") (by decide +kernel)) (fun _ h9 => h9) rfl dX6_isPermitOpen_29 ?_
    refine lv_iload_n hx hb dX6_isPermitOpen_32 rfl (lv_at hl 1 rfl) ?_
    refine z_iald (v := (σ 49 a1.toNatClampNeg)) hx hb hE hP (zg_49 cs ad (zs σ 29 28 0) tl) (vin_X6_isPermit hI c_1) (by rw [zs_ne (k := 29) (k' := 49) (by decide)]) dX6_isPermitOpen_33 ?_
    refine z_zald (v := (σ 32 (σ 49 a1.toNatClampNeg).toNatClampNeg)) hx hb hE hP (zg_32 cs ad (zs σ 29 28 0) tl) (vi_pl hI (vin_X6_isPermit hI c_1)) (by rw [zs_ne (k := 29) (k' := 32) (by decide)]) dX6_isPermitOpen_34 ?_
    refine lv_if_eq (tgt := 42) hx hb dX6_isPermitOpen_35 (by decide) (fun c_2 => ?_) (fun c_2 => ?_)
    · have hR := hR.trans (if_pos c_2)
      refine lv_iconst (v := 0) hx hb dX6_isPermitOpen_42 (by decide) ?_
      obtain ⟨e1, e2⟩ := z2 hR.symm
      subst e1; subst e2
      exact W.zret (v := 0) hx hb hr rfl (fun t ht hW => ⟨⟨_, (), rfl, rfl, by rw [ht]; exact hP, hD⟩, hS.F ht⟩) hS.2.2 dX6_isPermitOpen_43
    · have hR := hR.trans (if_neg c_2)
      refine lv_iconst (v := 1) hx hb dX6_isPermitOpen_38 (by decide) ?_
      refine lv_goto (tgt := 43) hx hb dX6_isPermitOpen_39 (by decide) ?_
      obtain ⟨e1, e2⟩ := z2 hR.symm
      subst e1; subst e2
      exact W.zret (v := 1) hx hb hr rfl (fun t ht hW => ⟨⟨_, (), rfl, rfl, by rw [ht]; exact hP, hD⟩, hS.F ht⟩) hS.2.2 dX6_isPermitOpen_43
def f_X6_note (σ : zS)  : Int32 × zS := (if (σ 29 7) = 60 then ((-1), (zs σ 29 28 1)) else ((f_X6_opens (zs σ 29 28 0) 110).1, (f_X6_opens (zs σ 29 28 0) 110).2))
theorem iX6_note : ∀ w ∈ u_ws RX6 TX6 29, w ∈ wsX6_note := by decide +kernel
set_option maxRecDepth 100000 in
theorem c_X6_note (l : Launch) (G : va_G) (cs : Nat → ClassId) (ad : Nat → Nat) (tl : va_W) (σ : zS)  (hI : zI σ) : zMi l yX6_note wsX6_note { frames := 1, cells := 0, slots := 0, locals := 21 } G cs [.ref (ad 29)] (zw cs ad σ tl) (f_X6_note σ ).1 (zw cs ad (f_X6_note σ ).2 tl) 0 0 := by
  intro sz
  refine Met.ofW (cc := cX6_note) (maxL := 1) (ret := (some .int)) (by decide) rfl ?_
  intro p e s m args below meth c s₁ B hml hv
  obtain ⟨rfl, hsz, hP, hD0, hE⟩ := hv
  have hx := B.exec
  have hb := B.bytes
  have hr := B.returns
  have hts := atoms_spec (ws := wsX6_note) B.pre
  have hown : s.vm.findClass RX6 = some m.cls := findClass_of_methodNamed B.named
  have hlocks := B.notSynchronized
  subst hsz
  have hD := hD0.self (sz := s.heap.size)
  have hA : ∀ q : Nat, s.heap.size ≤ q → (va_A (zw cs ad σ tl) s.heap.size) q := fun q h => Or.inr h
  generalize va_A (zw cs ad σ tl) s.heap.size = A at hD hE hA ⊢
  have hS : va_S A s.heap s.heap [] := va_S.rf
  have hl := lv_entry ([.ref (ad 29)]) (n := 1) (Nat.le_of_ble_eq_true rfl)
  rw [lg_entry_eq]
  generalize (lg_sl ([.ref (ad 29)]) ++ List.replicate (1 - (lg_sl ([.ref (ad 29)])).length) Slot.unset).toArray = ls at hl ⊢
  have hl : lv_has ls 1 [(0, .ref (ad 29))] := hl
  generalize hR : (f_X6_note σ ) = RV
  have hR := hR.symm
  unfold f_X6_note at hR
  obtain ⟨RVv, RVs⟩ := RV
  dsimp only
  obtain ⟨H, hH⟩ : ∃ z, z = s.heap := ⟨_, rfl⟩
  obtain ⟨locs, hlocs⟩ : ∃ z : List Loc, z = [] := ⟨_, rfl⟩
  rw [← hH] at hP
  have hS : va_S A s.heap H locs := by rw [hH, hlocs]; exact hS
  show W _ _ _ _ _ _ _ _ _ _ s.heap [] _ _ _ _
  rw [← hH, ← hlocs]
  clear hlocs
  refine lv_aload_n hx hb dX6_note_0 rfl (lv_at hl 0 rfl) ?_
  refine lv_aload_n hx hb dX6_note_1 rfl (lv_at hl 0 rfl) ?_
  refine va_get (D := G) (ci := 8) (v := .int (σ 29 7)) (C := RX6) (T := TX6) (N := 29) hx hb hts iX6_note hown hE.1 hP 29 (zg_29 cs ad σ tl) rfl 7 (by decide) (hts (.fieldLink RX6 95 "HandoverDeckModel" "lines" "I") (by decide +kernel)) (fun _ h9 => h9) rfl dX6_note_2 ?_
  refine lv_bipush (v := 60) hx hb dX6_note_5 (by decide) ?_
  refine lv_icmp_ne (tgt := 14) hx hb dX6_note_7 (by decide) (fun c_1 => ?_) (fun c_1 => ?_)
  · have hR := hR.trans (if_neg c_1)
    refine lv_iconst (v := 0) hx hb dX6_note_14 (by decide) ?_
    refine va_put (D := G) (ci := 8) (v := .int 0) (ty := .int) (C := RX6) (T := TX6) (N := 29) hx hb hts iX6_note tyX6 tyX6_ok nmX6 hown hE.1 hP hD hS 29 (zg_29 cs ad σ tl) rfl 28 (by decide) (hts (.fieldLink RX6 82 "HandoverDeckModel" "thrown" "I") (by decide +kernel)) (fun _ h9 => h9) rfl (by decide +kernel) rfl rfl (Nat.le_of_ble_eq_true rfl) dX6_note_15 (fun H locs hP hD hS => ?_)
    rw [zb_29_28 cs ad σ tl] at hP hD
    refine lv_aload_n hx hb dX6_note_18 rfl (lv_at hl 0 rfl) ?_
    refine va_get (D := G) (ci := 8) (v := .int 0) (C := RX6) (T := TX6) (N := 29) hx hb hts iX6_note hown hE.1 hP 29 (zg_29 cs ad (zs σ 29 28 0) tl) rfl 28 (by decide) (hts (.fieldLink RX6 82 "HandoverDeckModel" "thrown" "I") (by decide +kernel)) (fun _ h9 => h9) rfl dX6_note_19 ?_
    refine lv_if_ne (tgt := 34) hx hb dX6_note_22 (by decide) (fun c => absurd c (by decide)) (fun _ => ?_)
    refine lv_aload_n hx hb dX6_note_25 rfl (lv_at hl 0 rfl) ?_
    refine lv_bipush (v := 110) hx hb dX6_note_26 (by decide) ?_
    refine zai (va_runV (As := [.int 110]) (rest := []) ⟨hx, hb, hml, hown, hts⟩ (c_X6_opens l G cs ad tl (zs σ 29 28 0) 110 (vi_lines (σ := σ) hI c_1) (by decide) H.size) (cwV 1 hts gX6_note_X6_opens rfl rfl rfl (by decide +kernel) ⟨Nat.le_of_ble_eq_true rfl, Nat.le_of_ble_eq_true rfl⟩) (zpv hE hP hD hS hA (zg_29 cs ad (zs σ 29 28 0) tl) rfl) rfl rfl hl.1 rfl (lv_room (Nat.le_of_ble_eq_true rfl)) dX6_note_28 ⟨Nat.le_of_ble_eq_true rfl, Nat.le_of_ble_eq_true rfl⟩) hD hS hA (fun H locs hP hD hS => ?_)
    refine lv_goto (tgt := 35) hx hb dX6_note_31 (by decide) ?_
    obtain ⟨e1, e2⟩ := z2 hR.symm
    subst e1; subst e2
    exact W.iret (v := (f_X6_opens (zs σ 29 28 0) 110).1) hx hb hr (fun t ht hW => ⟨⟨_, (), rfl, rfl, by rw [ht]; exact hP, hD⟩, hS.F ht⟩) hS.2.2 dX6_note_35
  · have hR := hR.trans (if_pos c_1)
    refine lv_iconst (v := 1) hx hb dX6_note_10 (by decide) ?_
    refine lv_goto (tgt := 15) hx hb dX6_note_11 (by decide) ?_
    refine va_put (D := G) (ci := 8) (v := .int 1) (ty := .int) (C := RX6) (T := TX6) (N := 29) hx hb hts iX6_note tyX6 tyX6_ok nmX6 hown hE.1 hP hD hS 29 (zg_29 cs ad σ tl) rfl 28 (by decide) (hts (.fieldLink RX6 82 "HandoverDeckModel" "thrown" "I") (by decide +kernel)) (fun _ h9 => h9) rfl (by decide +kernel) rfl rfl (Nat.le_of_ble_eq_true rfl) dX6_note_15 (fun H locs hP hD hS => ?_)
    rw [zb_29_28 cs ad σ tl] at hP hD
    refine lv_aload_n hx hb dX6_note_18 rfl (lv_at hl 0 rfl) ?_
    refine va_get (D := G) (ci := 8) (v := .int 1) (C := RX6) (T := TX6) (N := 29) hx hb hts iX6_note hown hE.1 hP 29 (zg_29 cs ad (zs σ 29 28 1) tl) rfl 28 (by decide) (hts (.fieldLink RX6 82 "HandoverDeckModel" "thrown" "I") (by decide +kernel)) (fun _ h9 => h9) rfl dX6_note_19 ?_
    refine lv_if_ne (tgt := 34) hx hb dX6_note_22 (by decide) (fun _ => ?_) (fun c => absurd c (by decide))
    refine lv_iconst (v := (-1)) hx hb dX6_note_34 (by decide) ?_
    obtain ⟨e1, e2⟩ := z2 hR.symm
    subst e1; subst e2
    exact W.iret (v := (-1)) hx hb hr (fun t ht hW => ⟨⟨_, (), rfl, rfl, by rw [ht]; exact hP, hD⟩, hS.F ht⟩) hS.2.2 dX6_note_35
def f_X6_close (σ : zS) (a1 : Int32) : Int32 × zS := (if (f_X6_isLine σ a1) = 0 then ((-1), (zs σ 29 28 1)) else (if (σ 31 a1.toNatClampNeg) = 110 then (if (σ 32 a1.toNatClampNeg) = 0 then ((-1), (zs σ 29 28 3)) else ((f_X6_open (zs (zs σ 29 28 0) 32 a1.toNatClampNeg 0) ), (zs (zs σ 29 28 0) 32 a1.toNatClampNeg 0))) else ((-1), (zs σ 29 28 2))))
theorem iX6_close : ∀ w ∈ u_ws RX6 TX6 29, w ∈ wsX6_close := by decide +kernel
set_option maxRecDepth 100000 in
theorem c_X6_close (l : Launch) (G : va_G) (cs : Nat → ClassId) (ad : Nat → Nat) (tl : va_W) (σ : zS) (a1 : Int32) (hI : zI σ) : zMi l yX6_close wsX6_close { frames := 2, cells := 0, slots := 0, locals := 46 } G cs [.ref (ad 29), .int a1] (zw cs ad σ tl) (f_X6_close σ a1).1 (zw cs ad (f_X6_close σ a1).2 tl) 0 0 := by
  intro sz
  refine Met.ofW (cc := cX6_close) (maxL := 2) (ret := (some .int)) (by decide) rfl ?_
  intro p e s m args below meth c s₁ B hml hv
  obtain ⟨rfl, hsz, hP, hD0, hE⟩ := hv
  have hx := B.exec
  have hb := B.bytes
  have hr := B.returns
  have hts := atoms_spec (ws := wsX6_close) B.pre
  have hown : s.vm.findClass RX6 = some m.cls := findClass_of_methodNamed B.named
  have hlocks := B.notSynchronized
  subst hsz
  have hD := hD0.self (sz := s.heap.size)
  have hA : ∀ q : Nat, s.heap.size ≤ q → (va_A (zw cs ad σ tl) s.heap.size) q := fun q h => Or.inr h
  generalize va_A (zw cs ad σ tl) s.heap.size = A at hD hE hA ⊢
  have hS : va_S A s.heap s.heap [] := va_S.rf
  have hl := lv_entry ([.ref (ad 29), .int a1]) (n := 2) (Nat.le_of_ble_eq_true rfl)
  rw [lg_entry_eq]
  generalize (lg_sl ([.ref (ad 29), .int a1]) ++ List.replicate (2 - (lg_sl ([.ref (ad 29), .int a1])).length) Slot.unset).toArray = ls at hl ⊢
  have hl : lv_has ls 2 [(0, .ref (ad 29)), (1, .int a1)] := hl
  generalize hR : (f_X6_close σ a1) = RV
  have hR := hR.symm
  unfold f_X6_close at hR
  obtain ⟨RVv, RVs⟩ := RV
  dsimp only
  obtain ⟨H, hH⟩ : ∃ z, z = s.heap := ⟨_, rfl⟩
  obtain ⟨locs, hlocs⟩ : ∃ z : List Loc, z = [] := ⟨_, rfl⟩
  rw [← hH] at hP
  have hS : va_S A s.heap H locs := by rw [hH, hlocs]; exact hS
  show W _ _ _ _ _ _ _ _ _ _ s.heap [] _ _ _ _
  rw [← hH, ← hlocs]
  clear hlocs
  refine lv_aload_n hx hb dX6_close_0 rfl (lv_at hl 0 rfl) ?_
  refine lv_aload_n hx hb dX6_close_1 rfl (lv_at hl 0 rfl) ?_
  refine lv_iload_n hx hb dX6_close_2 rfl (lv_at hl 1 rfl) ?_
  refine zai (va_runV (As := [.int a1]) (rest := [.ref (ad 29)]) ⟨hx, hb, hml, hown, hts⟩ (c_X6_isLine l G cs ad tl σ a1  H.size) (cwV 1 hts gX6_close_X6_isLine rfl rfl rfl (by decide +kernel) ⟨Nat.le_of_ble_eq_true rfl, Nat.le_of_ble_eq_true rfl⟩) (zpv hE hP hD hS hA (zg_29 cs ad σ tl) rfl) rfl rfl hl.1 rfl (lv_room (Nat.le_of_ble_eq_true rfl)) dX6_close_3 ⟨Nat.le_of_ble_eq_true rfl, Nat.le_of_ble_eq_true rfl⟩) hD hS hA (fun H locs hP hD hS => ?_)
  refine lv_if_ne (tgt := 13) hx hb dX6_close_6 (by decide) (fun c_1 => ?_) (fun c_1 => ?_)
  · have hR := hR.trans (if_neg c_1)
    refine lv_aload_n hx hb dX6_close_13 rfl (lv_at hl 0 rfl) ?_
    refine va_get (D := G) (ci := 8) (v := .ref (ad 31)) (C := RX6) (T := TX6) (N := 29) hx hb hts iX6_close hown hE.1 hP 29 (zg_29 cs ad σ tl) rfl 2 (by decide) (hts (.fieldLink RX6 13 "HandoverDeckModel" "kinds" "[C") (by decide +kernel)) (fun _ h9 => h9) rfl dX6_close_14 ?_
    refine lv_iload_n hx hb dX6_close_17 rfl (lv_at hl 1 rfl) ?_
    refine z_cald (v := (σ 31 a1.toNatClampNeg)) hx hb hE hP (zg_31 cs ad σ tl) (vin_X6_isLine hI c_1) rfl dX6_close_18 ?_
    refine lv_bipush (v := 110) hx hb dX6_close_19 (by decide) ?_
    refine lv_icmp_eq (tgt := 28) hx hb dX6_close_21 (by decide) (fun c_2 => ?_) (fun c_2 => ?_)
    · have hR := hR.trans (if_pos c_2)
      refine lv_aload_n hx hb dX6_close_28 rfl (lv_at hl 0 rfl) ?_
      refine va_get (D := G) (ci := 8) (v := .ref (ad 32)) (C := RX6) (T := TX6) (N := 29) hx hb hts iX6_close hown hE.1 hP 29 (zg_29 cs ad σ tl) rfl 3 (by decide) (hts (.fieldLink RX6 17 "HandoverDeckModel" "isOpen" "[Z") (by decide +kernel)) (fun _ h9 => h9) rfl dX6_close_29 ?_
      refine lv_iload_n hx hb dX6_close_32 rfl (lv_at hl 1 rfl) ?_
      refine z_zald (v := (σ 32 a1.toNatClampNeg)) hx hb hE hP (zg_32 cs ad σ tl) (vin_X6_isLine hI c_1) rfl dX6_close_33 ?_
      refine lv_if_ne (tgt := 41) hx hb dX6_close_34 (by decide) (fun c_3 => ?_) (fun c_3 => ?_)
      · have hR := hR.trans (if_neg c_3)
        refine lv_iconst (v := 0) hx hb dX6_close_41 (by decide) ?_
        refine va_put (D := G) (ci := 8) (v := .int 0) (ty := .int) (C := RX6) (T := TX6) (N := 29) hx hb hts iX6_close tyX6 tyX6_ok nmX6 hown hE.1 hP hD hS 29 (zg_29 cs ad σ tl) rfl 28 (by decide) (hts (.fieldLink RX6 82 "HandoverDeckModel" "thrown" "I") (by decide +kernel)) (fun _ h9 => h9) rfl (by decide +kernel) rfl rfl (Nat.le_of_ble_eq_true rfl) dX6_close_42 (fun H locs hP hD hS => ?_)
        rw [zb_29_28 cs ad σ tl] at hP hD
        refine lv_aload_n hx hb dX6_close_45 rfl (lv_at hl 0 rfl) ?_
        refine va_get (D := G) (ci := 8) (v := .int 0) (C := RX6) (T := TX6) (N := 29) hx hb hts iX6_close hown hE.1 hP 29 (zg_29 cs ad (zs σ 29 28 0) tl) rfl 28 (by decide) (hts (.fieldLink RX6 82 "HandoverDeckModel" "thrown" "I") (by decide +kernel)) (fun _ h9 => h9) rfl dX6_close_46 ?_
        refine lv_if_le (tgt := 54) hx hb dX6_close_49 (by decide) (fun _ => ?_) (fun c => absurd c (by decide))
        refine lv_aload_n hx hb dX6_close_54 rfl (lv_at hl 0 rfl) ?_
        refine va_get (D := G) (ci := 8) (v := .ref (ad 32)) (C := RX6) (T := TX6) (N := 29) hx hb hts iX6_close hown hE.1 hP 29 (zg_29 cs ad (zs σ 29 28 0) tl) rfl 3 (by decide) (hts (.fieldLink RX6 17 "HandoverDeckModel" "isOpen" "[Z") (by decide +kernel)) (fun _ h9 => h9) rfl dX6_close_55 ?_
        refine lv_iload_n hx hb dX6_close_58 rfl (lv_at hl 1 rfl) ?_
        refine lv_iconst (v := 0) hx hb dX6_close_59 (by decide) ?_
        refine z_zast hx hb hE hP hD hS (zg_32 cs ad (zs σ 29 28 0) tl) (zb_32 cs ad (zs σ 29 28 0) tl) (vin_X6_isLine hI c_1) rfl dX6_close_60 (fun H locs hP hD hS => ?_)
        refine lv_aload_n hx hb dX6_close_61 rfl (lv_at hl 0 rfl) ?_
        refine zai (va_runV (As := []) (rest := []) ⟨hx, hb, hml, hown, hts⟩ (c_X6_open l G cs ad tl (zs (zs σ 29 28 0) 32 a1.toNatClampNeg 0)  hI.1 H.size) (cwV 0 hts gX6_close_X6_open rfl rfl rfl (by decide +kernel) ⟨Nat.le_of_ble_eq_true rfl, Nat.le_of_ble_eq_true rfl⟩) (zpv hE hP hD hS hA (zg_29 cs ad (zs (zs σ 29 28 0) 32 a1.toNatClampNeg 0) tl) rfl) rfl rfl hl.1 rfl (lv_room (Nat.le_of_ble_eq_true rfl)) dX6_close_62 ⟨Nat.le_of_ble_eq_true rfl, Nat.le_of_ble_eq_true rfl⟩) hD hS hA (fun H locs hP hD hS => ?_)
        obtain ⟨e1, e2⟩ := z2 hR.symm
        subst e1; subst e2
        exact W.iret (v := (f_X6_open (zs (zs σ 29 28 0) 32 a1.toNatClampNeg 0) )) hx hb hr (fun t ht hW => ⟨⟨_, (), rfl, rfl, by rw [ht]; exact hP, hD⟩, hS.F ht⟩) hS.2.2 dX6_close_65
      · have hR := hR.trans (if_pos c_3)
        refine lv_iconst (v := 3) hx hb dX6_close_37 (by decide) ?_
        refine lv_goto (tgt := 42) hx hb dX6_close_38 (by decide) ?_
        refine va_put (D := G) (ci := 8) (v := .int 3) (ty := .int) (C := RX6) (T := TX6) (N := 29) hx hb hts iX6_close tyX6 tyX6_ok nmX6 hown hE.1 hP hD hS 29 (zg_29 cs ad σ tl) rfl 28 (by decide) (hts (.fieldLink RX6 82 "HandoverDeckModel" "thrown" "I") (by decide +kernel)) (fun _ h9 => h9) rfl (by decide +kernel) rfl rfl (Nat.le_of_ble_eq_true rfl) dX6_close_42 (fun H locs hP hD hS => ?_)
        rw [zb_29_28 cs ad σ tl] at hP hD
        refine lv_aload_n hx hb dX6_close_45 rfl (lv_at hl 0 rfl) ?_
        refine va_get (D := G) (ci := 8) (v := .int 3) (C := RX6) (T := TX6) (N := 29) hx hb hts iX6_close hown hE.1 hP 29 (zg_29 cs ad (zs σ 29 28 3) tl) rfl 28 (by decide) (hts (.fieldLink RX6 82 "HandoverDeckModel" "thrown" "I") (by decide +kernel)) (fun _ h9 => h9) rfl dX6_close_46 ?_
        refine lv_if_le (tgt := 54) hx hb dX6_close_49 (by decide) (fun c => absurd c (by decide)) (fun _ => ?_)
        refine lv_iconst (v := (-1)) hx hb dX6_close_52 (by decide) ?_
        obtain ⟨e1, e2⟩ := z2 hR.symm
        subst e1; subst e2
        exact W.iret (v := (-1)) hx hb hr (fun t ht hW => ⟨⟨_, (), rfl, rfl, by rw [ht]; exact hP, hD⟩, hS.F ht⟩) hS.2.2 dX6_close_53
    · have hR := hR.trans (if_neg c_2)
      refine lv_iconst (v := 2) hx hb dX6_close_24 (by decide) ?_
      refine lv_goto (tgt := 42) hx hb dX6_close_25 (by decide) ?_
      refine va_put (D := G) (ci := 8) (v := .int 2) (ty := .int) (C := RX6) (T := TX6) (N := 29) hx hb hts iX6_close tyX6 tyX6_ok nmX6 hown hE.1 hP hD hS 29 (zg_29 cs ad σ tl) rfl 28 (by decide) (hts (.fieldLink RX6 82 "HandoverDeckModel" "thrown" "I") (by decide +kernel)) (fun _ h9 => h9) rfl (by decide +kernel) rfl rfl (Nat.le_of_ble_eq_true rfl) dX6_close_42 (fun H locs hP hD hS => ?_)
      rw [zb_29_28 cs ad σ tl] at hP hD
      refine lv_aload_n hx hb dX6_close_45 rfl (lv_at hl 0 rfl) ?_
      refine va_get (D := G) (ci := 8) (v := .int 2) (C := RX6) (T := TX6) (N := 29) hx hb hts iX6_close hown hE.1 hP 29 (zg_29 cs ad (zs σ 29 28 2) tl) rfl 28 (by decide) (hts (.fieldLink RX6 82 "HandoverDeckModel" "thrown" "I") (by decide +kernel)) (fun _ h9 => h9) rfl dX6_close_46 ?_
      refine lv_if_le (tgt := 54) hx hb dX6_close_49 (by decide) (fun c => absurd c (by decide)) (fun _ => ?_)
      refine lv_iconst (v := (-1)) hx hb dX6_close_52 (by decide) ?_
      obtain ⟨e1, e2⟩ := z2 hR.symm
      subst e1; subst e2
      exact W.iret (v := (-1)) hx hb hr (fun t ht hW => ⟨⟨_, (), rfl, rfl, by rw [ht]; exact hP, hD⟩, hS.F ht⟩) hS.2.2 dX6_close_53
  · have hR := hR.trans (if_pos c_1)
    refine lv_iconst (v := 1) hx hb dX6_close_9 (by decide) ?_
    refine lv_goto (tgt := 42) hx hb dX6_close_10 (by decide) ?_
    refine va_put (D := G) (ci := 8) (v := .int 1) (ty := .int) (C := RX6) (T := TX6) (N := 29) hx hb hts iX6_close tyX6 tyX6_ok nmX6 hown hE.1 hP hD hS 29 (zg_29 cs ad σ tl) rfl 28 (by decide) (hts (.fieldLink RX6 82 "HandoverDeckModel" "thrown" "I") (by decide +kernel)) (fun _ h9 => h9) rfl (by decide +kernel) rfl rfl (Nat.le_of_ble_eq_true rfl) dX6_close_42 (fun H locs hP hD hS => ?_)
    rw [zb_29_28 cs ad σ tl] at hP hD
    refine lv_aload_n hx hb dX6_close_45 rfl (lv_at hl 0 rfl) ?_
    refine va_get (D := G) (ci := 8) (v := .int 1) (C := RX6) (T := TX6) (N := 29) hx hb hts iX6_close hown hE.1 hP 29 (zg_29 cs ad (zs σ 29 28 1) tl) rfl 28 (by decide) (hts (.fieldLink RX6 82 "HandoverDeckModel" "thrown" "I") (by decide +kernel)) (fun _ h9 => h9) rfl dX6_close_46 ?_
    refine lv_if_le (tgt := 54) hx hb dX6_close_49 (by decide) (fun c => absurd c (by decide)) (fun _ => ?_)
    refine lv_iconst (v := (-1)) hx hb dX6_close_52 (by decide) ?_
    obtain ⟨e1, e2⟩ := z2 hR.symm
    subst e1; subst e2
    exact W.iret (v := (-1)) hx hb hr (fun t ht hW => ⟨⟨_, (), rfl, rfl, by rw [ht]; exact hP, hD⟩, hS.F ht⟩) hS.2.2 dX6_close_53
def f_X6_begin (σ : zS) (a1 : Int32) : Int32 × zS := (if (f_X6_isCrew a1) = 0 then ((-1), (zs σ 29 28 1)) else (if (σ 29 24) = (-1) then ((σ 29 0), (zs (zs (zs σ 29 28 0) 29 24 a1) 29 25 (σ 29 0))) else ((-1), (zs σ 29 28 2))))
theorem iX6_begin : ∀ w ∈ u_ws RX6 TX6 29, w ∈ wsX6_begin := by decide +kernel
set_option maxRecDepth 100000 in
theorem c_X6_begin (l : Launch) (G : va_G) (cs : Nat → ClassId) (ad : Nat → Nat) (tl : va_W) (σ : zS) (a1 : Int32)  : zMi l yX6_begin wsX6_begin { frames := 2, cells := 0, slots := 0, locals := 45 } G cs [.ref (ad 29), .int a1] (zw cs ad σ tl) (f_X6_begin σ a1).1 (zw cs ad (f_X6_begin σ a1).2 tl) 0 0 := by
  intro sz
  refine Met.ofW (cc := cX6_begin) (maxL := 2) (ret := (some .int)) (by decide) rfl ?_
  intro p e s m args below meth c s₁ B hml hv
  obtain ⟨rfl, hsz, hP, hD0, hE⟩ := hv
  have hx := B.exec
  have hb := B.bytes
  have hr := B.returns
  have hts := atoms_spec (ws := wsX6_begin) B.pre
  have hown : s.vm.findClass RX6 = some m.cls := findClass_of_methodNamed B.named
  have hlocks := B.notSynchronized
  subst hsz
  have hD := hD0.self (sz := s.heap.size)
  have hA : ∀ q : Nat, s.heap.size ≤ q → (va_A (zw cs ad σ tl) s.heap.size) q := fun q h => Or.inr h
  generalize va_A (zw cs ad σ tl) s.heap.size = A at hD hE hA ⊢
  have hS : va_S A s.heap s.heap [] := va_S.rf
  have hl := lv_entry ([.ref (ad 29), .int a1]) (n := 2) (Nat.le_of_ble_eq_true rfl)
  rw [lg_entry_eq]
  generalize (lg_sl ([.ref (ad 29), .int a1]) ++ List.replicate (2 - (lg_sl ([.ref (ad 29), .int a1])).length) Slot.unset).toArray = ls at hl ⊢
  have hl : lv_has ls 2 [(0, .ref (ad 29)), (1, .int a1)] := hl
  generalize hR : (f_X6_begin σ a1) = RV
  have hR := hR.symm
  unfold f_X6_begin at hR
  obtain ⟨RVv, RVs⟩ := RV
  dsimp only
  obtain ⟨H, hH⟩ : ∃ z, z = s.heap := ⟨_, rfl⟩
  obtain ⟨locs, hlocs⟩ : ∃ z : List Loc, z = [] := ⟨_, rfl⟩
  rw [← hH] at hP
  have hS : va_S A s.heap H locs := by rw [hH, hlocs]; exact hS
  show W _ _ _ _ _ _ _ _ _ _ s.heap [] _ _ _ _
  rw [← hH, ← hlocs]
  clear hlocs
  refine lv_aload_n hx hb dX6_begin_0 rfl (lv_at hl 0 rfl) ?_
  refine lv_iload_n hx hb dX6_begin_1 rfl (lv_at hl 1 rfl) ?_
  refine zai (va_runS (As := [.int a1]) (rest := [.ref (ad 29)]) ⟨hx, hb, hml, hown, hts⟩ (c_X6_isCrew l G cs ad tl σ a1  H.size) (va_cwS 1 hts gX6_begin_X6_isCrew rfl rfl rfl (by decide +kernel) ⟨Nat.le_of_ble_eq_true rfl, Nat.le_of_ble_eq_true rfl⟩) (zps hE hP hD hS hA) rfl rfl hl.1 rfl (lv_room (Nat.le_of_ble_eq_true rfl)) dX6_begin_2 ⟨Nat.le_of_ble_eq_true rfl, Nat.le_of_ble_eq_true rfl⟩) hD hS hA (fun H locs hP hD hS => ?_)
  refine lv_if_ne (tgt := 12) hx hb dX6_begin_5 (by decide) (fun c_1 => ?_) (fun c_1 => ?_)
  · have hR := hR.trans (if_neg c_1)
    refine lv_aload_n hx hb dX6_begin_12 rfl (lv_at hl 0 rfl) ?_
    refine va_get (D := G) (ci := 8) (v := .int (σ 29 24)) (C := RX6) (T := TX6) (N := 29) hx hb hts iX6_begin hown hE.1 hP 29 (zg_29 cs ad σ tl) rfl 24 (by decide) (hts (.fieldLink RX6 72 "HandoverDeckModel" "crew" "I") (by decide +kernel)) (fun _ h9 => h9) rfl dX6_begin_13 ?_
    refine lv_iconst (v := (-1)) hx hb dX6_begin_16 (by decide) ?_
    refine lv_icmp_eq (tgt := 24) hx hb dX6_begin_17 (by decide) (fun c_2 => ?_) (fun c_2 => ?_)
    · have hR := hR.trans (if_pos c_2)
      refine lv_iconst (v := 0) hx hb dX6_begin_24 (by decide) ?_
      refine va_put (D := G) (ci := 8) (v := .int 0) (ty := .int) (C := RX6) (T := TX6) (N := 29) hx hb hts iX6_begin tyX6 tyX6_ok nmX6 hown hE.1 hP hD hS 29 (zg_29 cs ad σ tl) rfl 28 (by decide) (hts (.fieldLink RX6 82 "HandoverDeckModel" "thrown" "I") (by decide +kernel)) (fun _ h9 => h9) rfl (by decide +kernel) rfl rfl (Nat.le_of_ble_eq_true rfl) dX6_begin_25 (fun H locs hP hD hS => ?_)
      rw [zb_29_28 cs ad σ tl] at hP hD
      refine lv_aload_n hx hb dX6_begin_28 rfl (lv_at hl 0 rfl) ?_
      refine va_get (D := G) (ci := 8) (v := .int 0) (C := RX6) (T := TX6) (N := 29) hx hb hts iX6_begin hown hE.1 hP 29 (zg_29 cs ad (zs σ 29 28 0) tl) rfl 28 (by decide) (hts (.fieldLink RX6 82 "HandoverDeckModel" "thrown" "I") (by decide +kernel)) (fun _ h9 => h9) rfl dX6_begin_29 ?_
      refine lv_if_le (tgt := 37) hx hb dX6_begin_32 (by decide) (fun _ => ?_) (fun c => absurd c (by decide))
      refine lv_aload_n hx hb dX6_begin_37 rfl (lv_at hl 0 rfl) ?_
      refine lv_iload_n hx hb dX6_begin_38 rfl (lv_at hl 1 rfl) ?_
      refine va_put (D := G) (ci := 8) (v := .int a1) (ty := .int) (C := RX6) (T := TX6) (N := 29) hx hb hts iX6_begin tyX6 tyX6_ok nmX6 hown hE.1 hP hD hS 29 (zg_29 cs ad (zs σ 29 28 0) tl) rfl 24 (by decide) (hts (.fieldLink RX6 72 "HandoverDeckModel" "crew" "I") (by decide +kernel)) (fun _ h9 => h9) rfl (by decide +kernel) rfl rfl (Nat.le_of_ble_eq_true rfl) dX6_begin_39 (fun H locs hP hD hS => ?_)
      rw [zb_29_24 cs ad (zs σ 29 28 0) tl] at hP hD
      refine lv_aload_n hx hb dX6_begin_42 rfl (lv_at hl 0 rfl) ?_
      refine lv_aload_n hx hb dX6_begin_43 rfl (lv_at hl 0 rfl) ?_
      refine va_get (D := G) (ci := 8) (v := .int (σ 29 0)) (C := RX6) (T := TX6) (N := 29) hx hb hts iX6_begin hown hE.1 hP 29 (zg_29 cs ad (zs (zs σ 29 28 0) 29 24 a1) tl) rfl 0 (by decide) (hts (.fieldLink RX6 98 "HandoverDeckModel" "hour" "I") (by decide +kernel)) (fun _ h9 => h9) rfl dX6_begin_44 ?_
      refine va_put (D := G) (ci := 8) (v := .int (σ 29 0)) (ty := .int) (C := RX6) (T := TX6) (N := 29) hx hb hts iX6_begin tyX6 tyX6_ok nmX6 hown hE.1 hP hD hS 29 (zg_29 cs ad (zs (zs σ 29 28 0) 29 24 a1) tl) rfl 25 (by decide) (hts (.fieldLink RX6 127 "HandoverDeckModel" "since" "I") (by decide +kernel)) (fun _ h9 => h9) rfl (by decide +kernel) rfl rfl (Nat.le_of_ble_eq_true rfl) dX6_begin_47 (fun H locs hP hD hS => ?_)
      rw [zb_29_25 cs ad (zs (zs σ 29 28 0) 29 24 a1) tl] at hP hD
      refine lv_aload_n hx hb dX6_begin_50 rfl (lv_at hl 0 rfl) ?_
      refine va_get (D := G) (ci := 8) (v := .int (σ 29 0)) (C := RX6) (T := TX6) (N := 29) hx hb hts iX6_begin hown hE.1 hP 29 (zg_29 cs ad (zs (zs (zs σ 29 28 0) 29 24 a1) 29 25 (σ 29 0)) tl) rfl 0 (by decide) (hts (.fieldLink RX6 98 "HandoverDeckModel" "hour" "I") (by decide +kernel)) (fun _ h9 => h9) rfl dX6_begin_51 ?_
      obtain ⟨e1, e2⟩ := z2 hR.symm
      subst e1; subst e2
      exact W.iret (v := (σ 29 0)) hx hb hr (fun t ht hW => ⟨⟨_, (), rfl, rfl, by rw [ht]; exact hP, hD⟩, hS.F ht⟩) hS.2.2 dX6_begin_54
    · have hR := hR.trans (if_neg c_2)
      refine lv_iconst (v := 2) hx hb dX6_begin_20 (by decide) ?_
      refine lv_goto (tgt := 25) hx hb dX6_begin_21 (by decide) ?_
      refine va_put (D := G) (ci := 8) (v := .int 2) (ty := .int) (C := RX6) (T := TX6) (N := 29) hx hb hts iX6_begin tyX6 tyX6_ok nmX6 hown hE.1 hP hD hS 29 (zg_29 cs ad σ tl) rfl 28 (by decide) (hts (.fieldLink RX6 82 "HandoverDeckModel" "thrown" "I") (by decide +kernel)) (fun _ h9 => h9) rfl (by decide +kernel) rfl rfl (Nat.le_of_ble_eq_true rfl) dX6_begin_25 (fun H locs hP hD hS => ?_)
      rw [zb_29_28 cs ad σ tl] at hP hD
      refine lv_aload_n hx hb dX6_begin_28 rfl (lv_at hl 0 rfl) ?_
      refine va_get (D := G) (ci := 8) (v := .int 2) (C := RX6) (T := TX6) (N := 29) hx hb hts iX6_begin hown hE.1 hP 29 (zg_29 cs ad (zs σ 29 28 2) tl) rfl 28 (by decide) (hts (.fieldLink RX6 82 "HandoverDeckModel" "thrown" "I") (by decide +kernel)) (fun _ h9 => h9) rfl dX6_begin_29 ?_
      refine lv_if_le (tgt := 37) hx hb dX6_begin_32 (by decide) (fun c => absurd c (by decide)) (fun _ => ?_)
      refine lv_iconst (v := (-1)) hx hb dX6_begin_35 (by decide) ?_
      obtain ⟨e1, e2⟩ := z2 hR.symm
      subst e1; subst e2
      exact W.iret (v := (-1)) hx hb hr (fun t ht hW => ⟨⟨_, (), rfl, rfl, by rw [ht]; exact hP, hD⟩, hS.F ht⟩) hS.2.2 dX6_begin_36
  · have hR := hR.trans (if_pos c_1)
    refine lv_iconst (v := 1) hx hb dX6_begin_8 (by decide) ?_
    refine lv_goto (tgt := 25) hx hb dX6_begin_9 (by decide) ?_
    refine va_put (D := G) (ci := 8) (v := .int 1) (ty := .int) (C := RX6) (T := TX6) (N := 29) hx hb hts iX6_begin tyX6 tyX6_ok nmX6 hown hE.1 hP hD hS 29 (zg_29 cs ad σ tl) rfl 28 (by decide) (hts (.fieldLink RX6 82 "HandoverDeckModel" "thrown" "I") (by decide +kernel)) (fun _ h9 => h9) rfl (by decide +kernel) rfl rfl (Nat.le_of_ble_eq_true rfl) dX6_begin_25 (fun H locs hP hD hS => ?_)
    rw [zb_29_28 cs ad σ tl] at hP hD
    refine lv_aload_n hx hb dX6_begin_28 rfl (lv_at hl 0 rfl) ?_
    refine va_get (D := G) (ci := 8) (v := .int 1) (C := RX6) (T := TX6) (N := 29) hx hb hts iX6_begin hown hE.1 hP 29 (zg_29 cs ad (zs σ 29 28 1) tl) rfl 28 (by decide) (hts (.fieldLink RX6 82 "HandoverDeckModel" "thrown" "I") (by decide +kernel)) (fun _ h9 => h9) rfl dX6_begin_29 ?_
    refine lv_if_le (tgt := 37) hx hb dX6_begin_32 (by decide) (fun c => absurd c (by decide)) (fun _ => ?_)
    refine lv_iconst (v := (-1)) hx hb dX6_begin_35 (by decide) ?_
    obtain ⟨e1, e2⟩ := z2 hR.symm
    subst e1; subst e2
    exact W.iret (v := (-1)) hx hb hr (fun t ht hW => ⟨⟨_, (), rfl, rfl, by rw [ht]; exact hP, hD⟩, hS.F ht⟩) hS.2.2 dX6_begin_36
def L_X6_handOver_66 (σ : zS) (a1 : Int32) : Nat → zS → Int32 → Int32 × zS
  | 0, _, _ => (0, σ)
  | n + 1, τ, x2 => (if (τ 29 7) ≤ x2 then ((f_X6_open τ ), τ) else (L_X6_handOver_66 σ a1 n (zs τ 35 x2.toNatClampNeg 0) (x2 + 1)))
def f_X6_handOver (σ : zS) (a1 : Int32) : Int32 × zS := (if (f_X6_isCrew a1) = 0 then ((-1), (zs σ 29 28 1)) else (if (f_X6_acts σ ) = 0 then ((-1), (zs σ 29 28 2)) else (if (σ 29 24) = a1 then ((-1), (zs σ 29 28 2)) else (if (f_X6_restOf σ a1) ≤ 0 then (L_X6_handOver_66 σ a1 61 (zs (zs σ 29 28 0) 29 26 a1) 0) else ((-1), (zs σ 29 28 3))))))
theorem iX6_handOver : ∀ w ∈ u_ws RX6 TX6 29, w ∈ wsX6_handOver := by decide +kernel
set_option maxRecDepth 100000 in
theorem c_X6_handOver (l : Launch) (G : va_G) (cs : Nat → ClassId) (ad : Nat → Nat) (tl : va_W) (σ : zS) (a1 : Int32) (hI : zI σ) : zMi l yX6_handOver wsX6_handOver { frames := 2, cells := 0, slots := 0, locals := 45 } G cs [.ref (ad 29), .int a1] (zw cs ad σ tl) (f_X6_handOver σ a1).1 (zw cs ad (f_X6_handOver σ a1).2 tl) 0 0 := by
  intro sz
  refine Met.ofW (cc := cX6_handOver) (maxL := 3) (ret := (some .int)) (by decide) rfl ?_
  intro p e s m args below meth c s₁ B hml hv
  obtain ⟨rfl, hsz, hP, hD0, hE⟩ := hv
  have hx := B.exec
  have hb := B.bytes
  have hr := B.returns
  have hts := atoms_spec (ws := wsX6_handOver) B.pre
  have hown : s.vm.findClass RX6 = some m.cls := findClass_of_methodNamed B.named
  have hlocks := B.notSynchronized
  subst hsz
  have hD := hD0.self (sz := s.heap.size)
  have hA : ∀ q : Nat, s.heap.size ≤ q → (va_A (zw cs ad σ tl) s.heap.size) q := fun q h => Or.inr h
  generalize va_A (zw cs ad σ tl) s.heap.size = A at hD hE hA ⊢
  have hS : va_S A s.heap s.heap [] := va_S.rf
  have hl := lv_entry ([.ref (ad 29), .int a1]) (n := 3) (Nat.le_of_ble_eq_true rfl)
  rw [lg_entry_eq]
  generalize (lg_sl ([.ref (ad 29), .int a1]) ++ List.replicate (3 - (lg_sl ([.ref (ad 29), .int a1])).length) Slot.unset).toArray = ls at hl ⊢
  have hl : lv_has ls 3 [(0, .ref (ad 29)), (1, .int a1)] := hl
  generalize hR : (f_X6_handOver σ a1) = RV
  have hR := hR.symm
  unfold f_X6_handOver at hR
  obtain ⟨RVv, RVs⟩ := RV
  dsimp only
  obtain ⟨H, hH⟩ : ∃ z, z = s.heap := ⟨_, rfl⟩
  obtain ⟨locs, hlocs⟩ : ∃ z : List Loc, z = [] := ⟨_, rfl⟩
  rw [← hH] at hP
  have hS : va_S A s.heap H locs := by rw [hH, hlocs]; exact hS
  show W _ _ _ _ _ _ _ _ _ _ s.heap [] _ _ _ _
  rw [← hH, ← hlocs]
  clear hlocs
  obtain ⟨Ln, hLn60, hLn⟩ := hI.1
  refine lv_iload_n hx hb dX6_handOver_0 rfl (lv_at hl 1 rfl) ?_
  refine zai (va_runS (As := [.int a1]) (rest := []) ⟨hx, hb, hml, hown, hts⟩ (c_X6_isCrew l G cs ad tl σ a1  H.size) (va_cwS 1 hts gX6_handOver_X6_isCrew rfl rfl rfl (by decide +kernel) ⟨Nat.le_of_ble_eq_true rfl, Nat.le_of_ble_eq_true rfl⟩) (zps hE hP hD hS hA) rfl rfl hl.1 rfl (lv_room (Nat.le_of_ble_eq_true rfl)) dX6_handOver_1 ⟨Nat.le_of_ble_eq_true rfl, Nat.le_of_ble_eq_true rfl⟩) hD hS hA (fun H locs hP hD hS => ?_)
  refine lv_if_ne (tgt := 14) hx hb dX6_handOver_4 (by decide) (fun c_1 => ?_) (fun c_1 => ?_)
  · have hR := hR.trans (if_neg c_1)
    refine lv_aload_n hx hb dX6_handOver_14 rfl (lv_at hl 0 rfl) ?_
    refine lv_aload_n hx hb dX6_handOver_15 rfl (lv_at hl 0 rfl) ?_
    refine zai (va_runV (As := []) (rest := [.ref (ad 29)]) ⟨hx, hb, hml, hown, hts⟩ (c_X6_acts l G cs ad tl σ   H.size) (cwV 0 hts gX6_handOver_X6_acts rfl rfl rfl (by decide +kernel) ⟨Nat.le_of_ble_eq_true rfl, Nat.le_of_ble_eq_true rfl⟩) (zpv hE hP hD hS hA (zg_29 cs ad σ tl) rfl) rfl rfl hl.1 rfl (lv_room (Nat.le_of_ble_eq_true rfl)) dX6_handOver_16 ⟨Nat.le_of_ble_eq_true rfl, Nat.le_of_ble_eq_true rfl⟩) hD hS hA (fun H locs hP hD hS => ?_)
    refine lv_if_eq (tgt := 30) hx hb dX6_handOver_19 (by decide) (fun c_2 => ?_) (fun c_2 => ?_)
    · have hR := hR.trans (if_pos c_2)
      refine lv_iconst (v := 2) hx hb dX6_handOver_30 (by decide) ?_
      refine lv_goto (tgt := 47) hx hb dX6_handOver_31 (by decide) ?_
      refine va_put (D := G) (ci := 8) (v := .int 2) (ty := .int) (C := RX6) (T := TX6) (N := 29) hx hb hts iX6_handOver tyX6 tyX6_ok nmX6 hown hE.1 hP hD hS 29 (zg_29 cs ad σ tl) rfl 28 (by decide) (hts (.fieldLink RX6 82 "HandoverDeckModel" "thrown" "I") (by decide +kernel)) (fun _ h9 => h9) rfl (by decide +kernel) rfl rfl (Nat.le_of_ble_eq_true rfl) dX6_handOver_47 (fun H locs hP hD hS => ?_)
      rw [zb_29_28 cs ad σ tl] at hP hD
      refine lv_aload_n hx hb dX6_handOver_50 rfl (lv_at hl 0 rfl) ?_
      refine va_get (D := G) (ci := 8) (v := .int 2) (C := RX6) (T := TX6) (N := 29) hx hb hts iX6_handOver hown hE.1 hP 29 (zg_29 cs ad (zs σ 29 28 2) tl) rfl 28 (by decide) (hts (.fieldLink RX6 82 "HandoverDeckModel" "thrown" "I") (by decide +kernel)) (fun _ h9 => h9) rfl dX6_handOver_51 ?_
      refine lv_if_le (tgt := 59) hx hb dX6_handOver_54 (by decide) (fun c => absurd c (by decide)) (fun _ => ?_)
      refine lv_iconst (v := (-1)) hx hb dX6_handOver_57 (by decide) ?_
      obtain ⟨e1, e2⟩ := z2 hR.symm
      subst e1; subst e2
      exact W.iret (v := (-1)) hx hb hr (fun t ht hW => ⟨⟨_, (), rfl, rfl, by rw [ht]; exact hP, hD⟩, hS.F ht⟩) hS.2.2 dX6_handOver_58
    · have hR := hR.trans (if_neg c_2)
      refine lv_aload_n hx hb dX6_handOver_22 rfl (lv_at hl 0 rfl) ?_
      refine va_get (D := G) (ci := 8) (v := .int (σ 29 24)) (C := RX6) (T := TX6) (N := 29) hx hb hts iX6_handOver hown hE.1 hP 29 (zg_29 cs ad σ tl) rfl 24 (by decide) (hts (.fieldLink RX6 72 "HandoverDeckModel" "crew" "I") (by decide +kernel)) (fun _ h9 => h9) rfl dX6_handOver_23 ?_
      refine lv_iload_n hx hb dX6_handOver_26 rfl (lv_at hl 1 rfl) ?_
      refine lv_icmp_ne (tgt := 34) hx hb dX6_handOver_27 (by decide) (fun c_3 => ?_) (fun c_3 => ?_)
      · have hR := hR.trans (if_neg c_3)
        refine lv_aload_n hx hb dX6_handOver_34 rfl (lv_at hl 0 rfl) ?_
        refine lv_iload_n hx hb dX6_handOver_35 rfl (lv_at hl 1 rfl) ?_
        refine zai (va_runV (As := [.int a1]) (rest := [.ref (ad 29)]) ⟨hx, hb, hml, hown, hts⟩ (c_X6_restOf l G cs ad tl σ a1 (vin_X6_isCrew c_1) H.size) (cwV 1 hts gX6_handOver_X6_restOf rfl rfl rfl (by decide +kernel) ⟨Nat.le_of_ble_eq_true rfl, Nat.le_of_ble_eq_true rfl⟩) (zpv hE hP hD hS hA (zg_29 cs ad σ tl) rfl) rfl rfl hl.1 rfl (lv_room (Nat.le_of_ble_eq_true rfl)) dX6_handOver_36 ⟨Nat.le_of_ble_eq_true rfl, Nat.le_of_ble_eq_true rfl⟩) hD hS hA (fun H locs hP hD hS => ?_)
        refine lv_if_le (tgt := 46) hx hb dX6_handOver_39 (by decide) (fun c_4 => ?_) (fun c_4 => ?_)
        · have hR := hR.trans (if_pos c_4)
          refine lv_iconst (v := 0) hx hb dX6_handOver_46 (by decide) ?_
          refine va_put (D := G) (ci := 8) (v := .int 0) (ty := .int) (C := RX6) (T := TX6) (N := 29) hx hb hts iX6_handOver tyX6 tyX6_ok nmX6 hown hE.1 hP hD hS 29 (zg_29 cs ad σ tl) rfl 28 (by decide) (hts (.fieldLink RX6 82 "HandoverDeckModel" "thrown" "I") (by decide +kernel)) (fun _ h9 => h9) rfl (by decide +kernel) rfl rfl (Nat.le_of_ble_eq_true rfl) dX6_handOver_47 (fun H locs hP hD hS => ?_)
          rw [zb_29_28 cs ad σ tl] at hP hD
          refine lv_aload_n hx hb dX6_handOver_50 rfl (lv_at hl 0 rfl) ?_
          refine va_get (D := G) (ci := 8) (v := .int 0) (C := RX6) (T := TX6) (N := 29) hx hb hts iX6_handOver hown hE.1 hP 29 (zg_29 cs ad (zs σ 29 28 0) tl) rfl 28 (by decide) (hts (.fieldLink RX6 82 "HandoverDeckModel" "thrown" "I") (by decide +kernel)) (fun _ h9 => h9) rfl dX6_handOver_51 ?_
          refine lv_if_le (tgt := 59) hx hb dX6_handOver_54 (by decide) (fun _ => ?_) (fun c => absurd c (by decide))
          refine lv_aload_n hx hb dX6_handOver_59 rfl (lv_at hl 0 rfl) ?_
          refine lv_iload_n hx hb dX6_handOver_60 rfl (lv_at hl 1 rfl) ?_
          refine va_put (D := G) (ci := 8) (v := .int a1) (ty := .int) (C := RX6) (T := TX6) (N := 29) hx hb hts iX6_handOver tyX6 tyX6_ok nmX6 hown hE.1 hP hD hS 29 (zg_29 cs ad (zs σ 29 28 0) tl) rfl 26 (by decide) (hts (.fieldLink RX6 76 "HandoverDeckModel" "next" "I") (by decide +kernel)) (fun _ h9 => h9) rfl (by decide +kernel) rfl rfl (Nat.le_of_ble_eq_true rfl) dX6_handOver_61 (fun H locs hP hD hS => ?_)
          rw [zb_29_26 cs ad (zs σ 29 28 0) tl] at hP hD
          refine lv_iconst (v := 0) hx hb dX6_handOver_64 (by decide) ?_
          refine lv_istore_n (lv' := [(2, .int 0), (0, .ref (ad 29)), (1, .int a1)]) hx hb dX6_handOver_65 rfl hl (by decide) rfl (fun ls hl => ?_)
          have loop_6 : ∀ (n k : Nat) (τ : zS) (x2 : Int32), x2 = nI (k) → k ≤ Ln → k + n = 61 → (τ 29 7 = nI Ln) → (RVv, RVs) = L_X6_handOver_66 σ a1 n τ x2 → ∀ (H : Heap) (locs : List Loc), va_P G vwCl (zw cs ad τ tl) H → va_D A (zw cs ad τ tl) → va_S A s.heap H locs → ∀ ls : Array Slot, lv_has ls 3 [(0, .ref (ad 29)), (1, .int a1), (2, .int x2)] → W p l e (headSpec wsX6_handOver { frames := 2, cells := 0, slots := 0, locals := 45 }).room s m (List.toArray [.ref (ad 29), .int a1]) below meth c H locs 0 0 (MQ below (va_Qi (fun (r : Int32) (_ : Unit) => r = RVv) (fun _ t => zPo G A (zw cs ad RVs tl) t) A) (List.toArray [.ref (ad 29), .int a1]) s 0 0 A) (F0 m 66 ls []) := by
            intro n
            induction n with
            | zero => intro k τ x2 ex hk hn; omega
            | succ n ih =>
              intro k τ x2 ex hk hn hτ hR H locs hP hD hS ls hl
              rw [L_X6_handOver_66] at hR
              refine lv_iload_n hx hb dX6_handOver_66 rfl (lv_at hl 2 rfl) ?_
              refine lv_aload_n hx hb dX6_handOver_67 rfl (lv_at hl 0 rfl) ?_
              refine va_get (D := G) (ci := 8) (v := .int (τ 29 7)) (C := RX6) (T := TX6) (N := 29) hx hb hts iX6_handOver hown hE.1 hP 29 (zg_29 cs ad τ tl) rfl 7 (by decide) (hts (.fieldLink RX6 95 "HandoverDeckModel" "lines" "I") (by decide +kernel)) (fun _ h9 => h9) rfl dX6_handOver_68 ?_
              refine lv_icmp_ge (tgt := 87) hx hb dX6_handOver_71 (by decide) (fun c_5 => ?_) (fun c_5 => ?_)
              · have hR := hR.trans (if_pos c_5)
                refine lv_aload_n hx hb dX6_handOver_87 rfl (lv_at hl 0 rfl) ?_
                refine zai (va_runV (As := []) (rest := []) ⟨hx, hb, hml, hown, hts⟩ (c_X6_open l G cs ad tl τ  ⟨Ln, hLn60, hτ⟩ H.size) (cwV 0 hts gX6_handOver_X6_open rfl rfl rfl (by decide +kernel) ⟨Nat.le_of_ble_eq_true rfl, Nat.le_of_ble_eq_true rfl⟩) (zpv hE hP hD hS hA (zg_29 cs ad τ tl) rfl) rfl rfl hl.1 rfl (lv_room (Nat.le_of_ble_eq_true rfl)) dX6_handOver_88 ⟨Nat.le_of_ble_eq_true rfl, Nat.le_of_ble_eq_true rfl⟩) hD hS hA (fun H locs hP hD hS => ?_)
                obtain ⟨e1, e2⟩ := z2 hR.symm
                subst e1; subst e2
                exact W.iret (v := (f_X6_open τ )) hx hb hr (fun t ht hW => ⟨⟨_, (), rfl, rfl, by rw [ht]; exact hP, hD⟩, hS.F ht⟩) hS.2.2 dX6_handOver_91
              · have hR := hR.trans (if_neg c_5)
                have hkB : k < Ln := zlt ex (by omega) ⟨hτ, by omega⟩ c_5
                refine lv_aload_n hx hb dX6_handOver_74 rfl (lv_at hl 0 rfl) ?_
                refine va_get (D := G) (ci := 8) (v := .ref (ad 35)) (C := RX6) (T := TX6) (N := 29) hx hb hts iX6_handOver hown hE.1 hP 29 (zg_29 cs ad τ tl) rfl 6 (by decide) (hts (.fieldLink RX6 27 "HandoverDeckModel" "isKnown" "[Z") (by decide +kernel)) (fun _ h9 => h9) rfl dX6_handOver_75 ?_
                refine lv_iload_n hx hb dX6_handOver_78 rfl (lv_at hl 2 rfl) ?_
                refine lv_iconst (v := 0) hx hb dX6_handOver_79 (by decide) ?_
                refine z_zast hx hb hE hP hD hS (zg_35 cs ad τ tl) (zb_35 cs ad τ tl) (by rw [ex]; exact vp_in_nI (by omega) (by decide)) rfl dX6_handOver_80 (fun H locs hP hD hS => ?_)
                refine lv_iinc (v := (x2 + 1)) (lv' := [(2, .int (x2 + 1)), (0, .ref (ad 29)), (1, .int a1)]) hx hb dX6_handOver_81 hl (k := 2) rfl rfl (by decide) rfl (fun ls hl => ?_)
                refine lv_goto (tgt := 66) hx hb dX6_handOver_84 (by decide) ?_
                exact ih (k + 1) (zs τ 35 x2.toNatClampNeg 0) (x2 + 1) (by rw [ex]; exact nI_1 _) (by omega) (by omega) hτ hR H locs hP hD hS ls (lv_sub hl [1, 2, 0] rfl)
          exact loop_6 61 0 (zs (zs σ 29 28 0) 29 26 a1) 0 nI_0.symm (by omega) (by omega) hLn hR H locs hP hD hS ls (lv_sub hl [1, 2, 0] rfl)
        · have hR := hR.trans (if_neg c_4)
          refine lv_iconst (v := 3) hx hb dX6_handOver_42 (by decide) ?_
          refine lv_goto (tgt := 47) hx hb dX6_handOver_43 (by decide) ?_
          refine va_put (D := G) (ci := 8) (v := .int 3) (ty := .int) (C := RX6) (T := TX6) (N := 29) hx hb hts iX6_handOver tyX6 tyX6_ok nmX6 hown hE.1 hP hD hS 29 (zg_29 cs ad σ tl) rfl 28 (by decide) (hts (.fieldLink RX6 82 "HandoverDeckModel" "thrown" "I") (by decide +kernel)) (fun _ h9 => h9) rfl (by decide +kernel) rfl rfl (Nat.le_of_ble_eq_true rfl) dX6_handOver_47 (fun H locs hP hD hS => ?_)
          rw [zb_29_28 cs ad σ tl] at hP hD
          refine lv_aload_n hx hb dX6_handOver_50 rfl (lv_at hl 0 rfl) ?_
          refine va_get (D := G) (ci := 8) (v := .int 3) (C := RX6) (T := TX6) (N := 29) hx hb hts iX6_handOver hown hE.1 hP 29 (zg_29 cs ad (zs σ 29 28 3) tl) rfl 28 (by decide) (hts (.fieldLink RX6 82 "HandoverDeckModel" "thrown" "I") (by decide +kernel)) (fun _ h9 => h9) rfl dX6_handOver_51 ?_
          refine lv_if_le (tgt := 59) hx hb dX6_handOver_54 (by decide) (fun c => absurd c (by decide)) (fun _ => ?_)
          refine lv_iconst (v := (-1)) hx hb dX6_handOver_57 (by decide) ?_
          obtain ⟨e1, e2⟩ := z2 hR.symm
          subst e1; subst e2
          exact W.iret (v := (-1)) hx hb hr (fun t ht hW => ⟨⟨_, (), rfl, rfl, by rw [ht]; exact hP, hD⟩, hS.F ht⟩) hS.2.2 dX6_handOver_58
      · have hR := hR.trans (if_pos c_3)
        refine lv_iconst (v := 2) hx hb dX6_handOver_30 (by decide) ?_
        refine lv_goto (tgt := 47) hx hb dX6_handOver_31 (by decide) ?_
        refine va_put (D := G) (ci := 8) (v := .int 2) (ty := .int) (C := RX6) (T := TX6) (N := 29) hx hb hts iX6_handOver tyX6 tyX6_ok nmX6 hown hE.1 hP hD hS 29 (zg_29 cs ad σ tl) rfl 28 (by decide) (hts (.fieldLink RX6 82 "HandoverDeckModel" "thrown" "I") (by decide +kernel)) (fun _ h9 => h9) rfl (by decide +kernel) rfl rfl (Nat.le_of_ble_eq_true rfl) dX6_handOver_47 (fun H locs hP hD hS => ?_)
        rw [zb_29_28 cs ad σ tl] at hP hD
        refine lv_aload_n hx hb dX6_handOver_50 rfl (lv_at hl 0 rfl) ?_
        refine va_get (D := G) (ci := 8) (v := .int 2) (C := RX6) (T := TX6) (N := 29) hx hb hts iX6_handOver hown hE.1 hP 29 (zg_29 cs ad (zs σ 29 28 2) tl) rfl 28 (by decide) (hts (.fieldLink RX6 82 "HandoverDeckModel" "thrown" "I") (by decide +kernel)) (fun _ h9 => h9) rfl dX6_handOver_51 ?_
        refine lv_if_le (tgt := 59) hx hb dX6_handOver_54 (by decide) (fun c => absurd c (by decide)) (fun _ => ?_)
        refine lv_iconst (v := (-1)) hx hb dX6_handOver_57 (by decide) ?_
        obtain ⟨e1, e2⟩ := z2 hR.symm
        subst e1; subst e2
        exact W.iret (v := (-1)) hx hb hr (fun t ht hW => ⟨⟨_, (), rfl, rfl, by rw [ht]; exact hP, hD⟩, hS.F ht⟩) hS.2.2 dX6_handOver_58
  · have hR := hR.trans (if_pos c_1)
    refine lv_aload_n hx hb dX6_handOver_7 rfl (lv_at hl 0 rfl) ?_
    refine lv_iconst (v := 1) hx hb dX6_handOver_8 (by decide) ?_
    refine va_put (D := G) (ci := 8) (v := .int 1) (ty := .int) (C := RX6) (T := TX6) (N := 29) hx hb hts iX6_handOver tyX6 tyX6_ok nmX6 hown hE.1 hP hD hS 29 (zg_29 cs ad σ tl) rfl 28 (by decide) (hts (.fieldLink RX6 82 "HandoverDeckModel" "thrown" "I") (by decide +kernel)) (fun _ h9 => h9) rfl (by decide +kernel) rfl rfl (Nat.le_of_ble_eq_true rfl) dX6_handOver_9 (fun H locs hP hD hS => ?_)
    rw [zb_29_28 cs ad σ tl] at hP hD
    refine lv_iconst (v := (-1)) hx hb dX6_handOver_12 (by decide) ?_
    obtain ⟨e1, e2⟩ := z2 hR.symm
    subst e1; subst e2
    exact W.iret (v := (-1)) hx hb hr (fun t ht hW => ⟨⟨_, (), rfl, rfl, by rw [ht]; exact hP, hD⟩, hS.F ht⟩) hS.2.2 dX6_handOver_13
def f_X6_acknowledge (σ : zS) (a1 : Int32) : Int32 × zS := (if (f_X6_isLine σ a1) = 0 then ((-1), (zs σ 29 28 1)) else (if (σ 29 26) = (-1) then ((-1), (zs σ 29 28 2)) else (if (σ 32 a1.toNatClampNeg) = 0 then ((-1), (zs σ 29 28 2)) else (if (σ 35 a1.toNatClampNeg) = 0 then ((f_X6_unknown (zs (zs σ 29 28 0) 35 a1.toNatClampNeg 1) ), (zs (zs σ 29 28 0) 35 a1.toNatClampNeg 1)) else ((-1), (zs σ 29 28 2))))))
theorem iX6_acknowledge : ∀ w ∈ u_ws RX6 TX6 29, w ∈ wsX6_acknowledge := by decide +kernel
set_option maxRecDepth 100000 in
theorem c_X6_acknowledge (l : Launch) (G : va_G) (cs : Nat → ClassId) (ad : Nat → Nat) (tl : va_W) (σ : zS) (a1 : Int32) (hI : zI σ) : zMi l yX6_acknowledge wsX6_acknowledge { frames := 2, cells := 0, slots := 0, locals := 46 } G cs [.ref (ad 29), .int a1] (zw cs ad σ tl) (f_X6_acknowledge σ a1).1 (zw cs ad (f_X6_acknowledge σ a1).2 tl) 0 0 := by
  intro sz
  refine Met.ofW (cc := cX6_acknowledge) (maxL := 2) (ret := (some .int)) (by decide) rfl ?_
  intro p e s m args below meth c s₁ B hml hv
  obtain ⟨rfl, hsz, hP, hD0, hE⟩ := hv
  have hx := B.exec
  have hb := B.bytes
  have hr := B.returns
  have hts := atoms_spec (ws := wsX6_acknowledge) B.pre
  have hown : s.vm.findClass RX6 = some m.cls := findClass_of_methodNamed B.named
  have hlocks := B.notSynchronized
  subst hsz
  have hD := hD0.self (sz := s.heap.size)
  have hA : ∀ q : Nat, s.heap.size ≤ q → (va_A (zw cs ad σ tl) s.heap.size) q := fun q h => Or.inr h
  generalize va_A (zw cs ad σ tl) s.heap.size = A at hD hE hA ⊢
  have hS : va_S A s.heap s.heap [] := va_S.rf
  have hl := lv_entry ([.ref (ad 29), .int a1]) (n := 2) (Nat.le_of_ble_eq_true rfl)
  rw [lg_entry_eq]
  generalize (lg_sl ([.ref (ad 29), .int a1]) ++ List.replicate (2 - (lg_sl ([.ref (ad 29), .int a1])).length) Slot.unset).toArray = ls at hl ⊢
  have hl : lv_has ls 2 [(0, .ref (ad 29)), (1, .int a1)] := hl
  generalize hR : (f_X6_acknowledge σ a1) = RV
  have hR := hR.symm
  unfold f_X6_acknowledge at hR
  obtain ⟨RVv, RVs⟩ := RV
  dsimp only
  obtain ⟨H, hH⟩ : ∃ z, z = s.heap := ⟨_, rfl⟩
  obtain ⟨locs, hlocs⟩ : ∃ z : List Loc, z = [] := ⟨_, rfl⟩
  rw [← hH] at hP
  have hS : va_S A s.heap H locs := by rw [hH, hlocs]; exact hS
  show W _ _ _ _ _ _ _ _ _ _ s.heap [] _ _ _ _
  rw [← hH, ← hlocs]
  clear hlocs
  refine lv_aload_n hx hb dX6_acknowledge_0 rfl (lv_at hl 0 rfl) ?_
  refine lv_aload_n hx hb dX6_acknowledge_1 rfl (lv_at hl 0 rfl) ?_
  refine lv_iload_n hx hb dX6_acknowledge_2 rfl (lv_at hl 1 rfl) ?_
  refine zai (va_runV (As := [.int a1]) (rest := [.ref (ad 29)]) ⟨hx, hb, hml, hown, hts⟩ (c_X6_isLine l G cs ad tl σ a1  H.size) (cwV 1 hts gX6_acknowledge_X6_isLine rfl rfl rfl (by decide +kernel) ⟨Nat.le_of_ble_eq_true rfl, Nat.le_of_ble_eq_true rfl⟩) (zpv hE hP hD hS hA (zg_29 cs ad σ tl) rfl) rfl rfl hl.1 rfl (lv_room (Nat.le_of_ble_eq_true rfl)) dX6_acknowledge_3 ⟨Nat.le_of_ble_eq_true rfl, Nat.le_of_ble_eq_true rfl⟩) hD hS hA (fun H locs hP hD hS => ?_)
  refine lv_if_ne (tgt := 13) hx hb dX6_acknowledge_6 (by decide) (fun c_1 => ?_) (fun c_1 => ?_)
  · have hR := hR.trans (if_neg c_1)
    refine lv_aload_n hx hb dX6_acknowledge_13 rfl (lv_at hl 0 rfl) ?_
    refine va_get (D := G) (ci := 8) (v := .int (σ 29 26)) (C := RX6) (T := TX6) (N := 29) hx hb hts iX6_acknowledge hown hE.1 hP 29 (zg_29 cs ad σ tl) rfl 26 (by decide) (hts (.fieldLink RX6 76 "HandoverDeckModel" "next" "I") (by decide +kernel)) (fun _ h9 => h9) rfl dX6_acknowledge_14 ?_
    refine lv_iconst (v := (-1)) hx hb dX6_acknowledge_17 (by decide) ?_
    refine lv_icmp_eq (tgt := 39) hx hb dX6_acknowledge_18 (by decide) (fun c_2 => ?_) (fun c_2 => ?_)
    · have hR := hR.trans (if_pos c_2)
      refine lv_iconst (v := 2) hx hb dX6_acknowledge_39 (by decide) ?_
      refine lv_goto (tgt := 44) hx hb dX6_acknowledge_40 (by decide) ?_
      refine va_put (D := G) (ci := 8) (v := .int 2) (ty := .int) (C := RX6) (T := TX6) (N := 29) hx hb hts iX6_acknowledge tyX6 tyX6_ok nmX6 hown hE.1 hP hD hS 29 (zg_29 cs ad σ tl) rfl 28 (by decide) (hts (.fieldLink RX6 82 "HandoverDeckModel" "thrown" "I") (by decide +kernel)) (fun _ h9 => h9) rfl (by decide +kernel) rfl rfl (Nat.le_of_ble_eq_true rfl) dX6_acknowledge_44 (fun H locs hP hD hS => ?_)
      rw [zb_29_28 cs ad σ tl] at hP hD
      refine lv_aload_n hx hb dX6_acknowledge_47 rfl (lv_at hl 0 rfl) ?_
      refine va_get (D := G) (ci := 8) (v := .int 2) (C := RX6) (T := TX6) (N := 29) hx hb hts iX6_acknowledge hown hE.1 hP 29 (zg_29 cs ad (zs σ 29 28 2) tl) rfl 28 (by decide) (hts (.fieldLink RX6 82 "HandoverDeckModel" "thrown" "I") (by decide +kernel)) (fun _ h9 => h9) rfl dX6_acknowledge_48 ?_
      refine lv_if_le (tgt := 56) hx hb dX6_acknowledge_51 (by decide) (fun c => absurd c (by decide)) (fun _ => ?_)
      refine lv_iconst (v := (-1)) hx hb dX6_acknowledge_54 (by decide) ?_
      obtain ⟨e1, e2⟩ := z2 hR.symm
      subst e1; subst e2
      exact W.iret (v := (-1)) hx hb hr (fun t ht hW => ⟨⟨_, (), rfl, rfl, by rw [ht]; exact hP, hD⟩, hS.F ht⟩) hS.2.2 dX6_acknowledge_55
    · have hR := hR.trans (if_neg c_2)
      refine lv_aload_n hx hb dX6_acknowledge_21 rfl (lv_at hl 0 rfl) ?_
      refine va_get (D := G) (ci := 8) (v := .ref (ad 32)) (C := RX6) (T := TX6) (N := 29) hx hb hts iX6_acknowledge hown hE.1 hP 29 (zg_29 cs ad σ tl) rfl 3 (by decide) (hts (.fieldLink RX6 17 "HandoverDeckModel" "isOpen" "[Z") (by decide +kernel)) (fun _ h9 => h9) rfl dX6_acknowledge_22 ?_
      refine lv_iload_n hx hb dX6_acknowledge_25 rfl (lv_at hl 1 rfl) ?_
      refine z_zald (v := (σ 32 a1.toNatClampNeg)) hx hb hE hP (zg_32 cs ad σ tl) (vin_X6_isLine hI c_1) rfl dX6_acknowledge_26 ?_
      refine lv_if_eq (tgt := 39) hx hb dX6_acknowledge_27 (by decide) (fun c_3 => ?_) (fun c_3 => ?_)
      · have hR := hR.trans (if_pos c_3)
        refine lv_iconst (v := 2) hx hb dX6_acknowledge_39 (by decide) ?_
        refine lv_goto (tgt := 44) hx hb dX6_acknowledge_40 (by decide) ?_
        refine va_put (D := G) (ci := 8) (v := .int 2) (ty := .int) (C := RX6) (T := TX6) (N := 29) hx hb hts iX6_acknowledge tyX6 tyX6_ok nmX6 hown hE.1 hP hD hS 29 (zg_29 cs ad σ tl) rfl 28 (by decide) (hts (.fieldLink RX6 82 "HandoverDeckModel" "thrown" "I") (by decide +kernel)) (fun _ h9 => h9) rfl (by decide +kernel) rfl rfl (Nat.le_of_ble_eq_true rfl) dX6_acknowledge_44 (fun H locs hP hD hS => ?_)
        rw [zb_29_28 cs ad σ tl] at hP hD
        refine lv_aload_n hx hb dX6_acknowledge_47 rfl (lv_at hl 0 rfl) ?_
        refine va_get (D := G) (ci := 8) (v := .int 2) (C := RX6) (T := TX6) (N := 29) hx hb hts iX6_acknowledge hown hE.1 hP 29 (zg_29 cs ad (zs σ 29 28 2) tl) rfl 28 (by decide) (hts (.fieldLink RX6 82 "HandoverDeckModel" "thrown" "I") (by decide +kernel)) (fun _ h9 => h9) rfl dX6_acknowledge_48 ?_
        refine lv_if_le (tgt := 56) hx hb dX6_acknowledge_51 (by decide) (fun c => absurd c (by decide)) (fun _ => ?_)
        refine lv_iconst (v := (-1)) hx hb dX6_acknowledge_54 (by decide) ?_
        obtain ⟨e1, e2⟩ := z2 hR.symm
        subst e1; subst e2
        exact W.iret (v := (-1)) hx hb hr (fun t ht hW => ⟨⟨_, (), rfl, rfl, by rw [ht]; exact hP, hD⟩, hS.F ht⟩) hS.2.2 dX6_acknowledge_55
      · have hR := hR.trans (if_neg c_3)
        refine lv_aload_n hx hb dX6_acknowledge_30 rfl (lv_at hl 0 rfl) ?_
        refine va_get (D := G) (ci := 8) (v := .ref (ad 35)) (C := RX6) (T := TX6) (N := 29) hx hb hts iX6_acknowledge hown hE.1 hP 29 (zg_29 cs ad σ tl) rfl 6 (by decide) (hts (.fieldLink RX6 27 "HandoverDeckModel" "isKnown" "[Z") (by decide +kernel)) (fun _ h9 => h9) rfl dX6_acknowledge_31 ?_
        refine lv_iload_n hx hb dX6_acknowledge_34 rfl (lv_at hl 1 rfl) ?_
        refine z_zald (v := (σ 35 a1.toNatClampNeg)) hx hb hE hP (zg_35 cs ad σ tl) (vin_X6_isLine hI c_1) rfl dX6_acknowledge_35 ?_
        refine lv_if_eq (tgt := 43) hx hb dX6_acknowledge_36 (by decide) (fun c_4 => ?_) (fun c_4 => ?_)
        · have hR := hR.trans (if_pos c_4)
          refine lv_iconst (v := 0) hx hb dX6_acknowledge_43 (by decide) ?_
          refine va_put (D := G) (ci := 8) (v := .int 0) (ty := .int) (C := RX6) (T := TX6) (N := 29) hx hb hts iX6_acknowledge tyX6 tyX6_ok nmX6 hown hE.1 hP hD hS 29 (zg_29 cs ad σ tl) rfl 28 (by decide) (hts (.fieldLink RX6 82 "HandoverDeckModel" "thrown" "I") (by decide +kernel)) (fun _ h9 => h9) rfl (by decide +kernel) rfl rfl (Nat.le_of_ble_eq_true rfl) dX6_acknowledge_44 (fun H locs hP hD hS => ?_)
          rw [zb_29_28 cs ad σ tl] at hP hD
          refine lv_aload_n hx hb dX6_acknowledge_47 rfl (lv_at hl 0 rfl) ?_
          refine va_get (D := G) (ci := 8) (v := .int 0) (C := RX6) (T := TX6) (N := 29) hx hb hts iX6_acknowledge hown hE.1 hP 29 (zg_29 cs ad (zs σ 29 28 0) tl) rfl 28 (by decide) (hts (.fieldLink RX6 82 "HandoverDeckModel" "thrown" "I") (by decide +kernel)) (fun _ h9 => h9) rfl dX6_acknowledge_48 ?_
          refine lv_if_le (tgt := 56) hx hb dX6_acknowledge_51 (by decide) (fun _ => ?_) (fun c => absurd c (by decide))
          refine lv_aload_n hx hb dX6_acknowledge_56 rfl (lv_at hl 0 rfl) ?_
          refine va_get (D := G) (ci := 8) (v := .ref (ad 35)) (C := RX6) (T := TX6) (N := 29) hx hb hts iX6_acknowledge hown hE.1 hP 29 (zg_29 cs ad (zs σ 29 28 0) tl) rfl 6 (by decide) (hts (.fieldLink RX6 27 "HandoverDeckModel" "isKnown" "[Z") (by decide +kernel)) (fun _ h9 => h9) rfl dX6_acknowledge_57 ?_
          refine lv_iload_n hx hb dX6_acknowledge_60 rfl (lv_at hl 1 rfl) ?_
          refine lv_iconst (v := 1) hx hb dX6_acknowledge_61 (by decide) ?_
          refine z_zast hx hb hE hP hD hS (zg_35 cs ad (zs σ 29 28 0) tl) (zb_35 cs ad (zs σ 29 28 0) tl) (vin_X6_isLine hI c_1) rfl dX6_acknowledge_62 (fun H locs hP hD hS => ?_)
          refine lv_aload_n hx hb dX6_acknowledge_63 rfl (lv_at hl 0 rfl) ?_
          refine zai (va_runV (As := []) (rest := []) ⟨hx, hb, hml, hown, hts⟩ (c_X6_unknown l G cs ad tl (zs (zs σ 29 28 0) 35 a1.toNatClampNeg 1)  hI.1 H.size) (cwV 0 hts gX6_acknowledge_X6_unknown rfl rfl rfl (by decide +kernel) ⟨Nat.le_of_ble_eq_true rfl, Nat.le_of_ble_eq_true rfl⟩) (zpv hE hP hD hS hA (zg_29 cs ad (zs (zs σ 29 28 0) 35 a1.toNatClampNeg 1) tl) rfl) rfl rfl hl.1 rfl (lv_room (Nat.le_of_ble_eq_true rfl)) dX6_acknowledge_64 ⟨Nat.le_of_ble_eq_true rfl, Nat.le_of_ble_eq_true rfl⟩) hD hS hA (fun H locs hP hD hS => ?_)
          obtain ⟨e1, e2⟩ := z2 hR.symm
          subst e1; subst e2
          exact W.iret (v := (f_X6_unknown (zs (zs σ 29 28 0) 35 a1.toNatClampNeg 1) )) hx hb hr (fun t ht hW => ⟨⟨_, (), rfl, rfl, by rw [ht]; exact hP, hD⟩, hS.F ht⟩) hS.2.2 dX6_acknowledge_67
        · have hR := hR.trans (if_neg c_4)
          refine lv_iconst (v := 2) hx hb dX6_acknowledge_39 (by decide) ?_
          refine lv_goto (tgt := 44) hx hb dX6_acknowledge_40 (by decide) ?_
          refine va_put (D := G) (ci := 8) (v := .int 2) (ty := .int) (C := RX6) (T := TX6) (N := 29) hx hb hts iX6_acknowledge tyX6 tyX6_ok nmX6 hown hE.1 hP hD hS 29 (zg_29 cs ad σ tl) rfl 28 (by decide) (hts (.fieldLink RX6 82 "HandoverDeckModel" "thrown" "I") (by decide +kernel)) (fun _ h9 => h9) rfl (by decide +kernel) rfl rfl (Nat.le_of_ble_eq_true rfl) dX6_acknowledge_44 (fun H locs hP hD hS => ?_)
          rw [zb_29_28 cs ad σ tl] at hP hD
          refine lv_aload_n hx hb dX6_acknowledge_47 rfl (lv_at hl 0 rfl) ?_
          refine va_get (D := G) (ci := 8) (v := .int 2) (C := RX6) (T := TX6) (N := 29) hx hb hts iX6_acknowledge hown hE.1 hP 29 (zg_29 cs ad (zs σ 29 28 2) tl) rfl 28 (by decide) (hts (.fieldLink RX6 82 "HandoverDeckModel" "thrown" "I") (by decide +kernel)) (fun _ h9 => h9) rfl dX6_acknowledge_48 ?_
          refine lv_if_le (tgt := 56) hx hb dX6_acknowledge_51 (by decide) (fun c => absurd c (by decide)) (fun _ => ?_)
          refine lv_iconst (v := (-1)) hx hb dX6_acknowledge_54 (by decide) ?_
          obtain ⟨e1, e2⟩ := z2 hR.symm
          subst e1; subst e2
          exact W.iret (v := (-1)) hx hb hr (fun t ht hW => ⟨⟨_, (), rfl, rfl, by rw [ht]; exact hP, hD⟩, hS.F ht⟩) hS.2.2 dX6_acknowledge_55
  · have hR := hR.trans (if_pos c_1)
    refine lv_iconst (v := 1) hx hb dX6_acknowledge_9 (by decide) ?_
    refine lv_goto (tgt := 44) hx hb dX6_acknowledge_10 (by decide) ?_
    refine va_put (D := G) (ci := 8) (v := .int 1) (ty := .int) (C := RX6) (T := TX6) (N := 29) hx hb hts iX6_acknowledge tyX6 tyX6_ok nmX6 hown hE.1 hP hD hS 29 (zg_29 cs ad σ tl) rfl 28 (by decide) (hts (.fieldLink RX6 82 "HandoverDeckModel" "thrown" "I") (by decide +kernel)) (fun _ h9 => h9) rfl (by decide +kernel) rfl rfl (Nat.le_of_ble_eq_true rfl) dX6_acknowledge_44 (fun H locs hP hD hS => ?_)
    rw [zb_29_28 cs ad σ tl] at hP hD
    refine lv_aload_n hx hb dX6_acknowledge_47 rfl (lv_at hl 0 rfl) ?_
    refine va_get (D := G) (ci := 8) (v := .int 1) (C := RX6) (T := TX6) (N := 29) hx hb hts iX6_acknowledge hown hE.1 hP 29 (zg_29 cs ad (zs σ 29 28 1) tl) rfl 28 (by decide) (hts (.fieldLink RX6 82 "HandoverDeckModel" "thrown" "I") (by decide +kernel)) (fun _ h9 => h9) rfl dX6_acknowledge_48 ?_
    refine lv_if_le (tgt := 56) hx hb dX6_acknowledge_51 (by decide) (fun c => absurd c (by decide)) (fun _ => ?_)
    refine lv_iconst (v := (-1)) hx hb dX6_acknowledge_54 (by decide) ?_
    obtain ⟨e1, e2⟩ := z2 hR.symm
    subst e1; subst e2
    exact W.iret (v := (-1)) hx hb hr (fun t ht hW => ⟨⟨_, (), rfl, rfl, by rw [ht]; exact hP, hD⟩, hS.F ht⟩) hS.2.2 dX6_acknowledge_55
def L_X6_take_39 (σ : zS)  : Nat → zS → Int32 → Int32 × zS
  | 0, _, _ => (0, σ)
  | n + 1, τ, x1 => (if (τ 29 7) ≤ x1 then ((f_X6_open (zs (zs (zs (zs τ 50 (τ 29 24).toNatClampNeg (τ 29 0)) 29 24 (τ 29 26)) 29 25 (τ 29 0)) 29 26 (-1)) ), (zs (zs (zs (zs τ 50 (τ 29 24).toNatClampNeg (τ 29 0)) 29 24 (τ 29 26)) 29 25 (τ 29 0)) 29 26 (-1))) else (if (τ 32 x1.toNatClampNeg) = 0 then (L_X6_take_39 σ  n (zs τ 34 x1.toNatClampNeg ((τ 34 x1.toNatClampNeg) + 0)) (x1 + 1)) else (L_X6_take_39 σ  n (zs τ 34 x1.toNatClampNeg ((τ 34 x1.toNatClampNeg) + 1)) (x1 + 1))))
def f_X6_take (σ : zS)  : Int32 × zS := (if (σ 29 26) = (-1) then ((-1), (zs σ 29 28 1)) else (if (f_X6_unknown σ ) ≤ 0 then (L_X6_take_39 σ  61 (zs σ 29 28 0) 0) else ((-1), (zs σ 29 28 2))))
theorem iX6_take : ∀ w ∈ u_ws RX6 TX6 29, w ∈ wsX6_take := by decide +kernel
set_option maxRecDepth 100000 in
theorem c_X6_take (l : Launch) (G : va_G) (cs : Nat → ClassId) (ad : Nat → Nat) (tl : va_W) (σ : zS)  (hI : zI σ) : zMi l yX6_take wsX6_take { frames := 1, cells := 0, slots := 0, locals := 22 } G cs [.ref (ad 29)] (zw cs ad σ tl) (f_X6_take σ ).1 (zw cs ad (f_X6_take σ ).2 tl) 0 0 := by
  intro sz
  refine Met.ofW (cc := cX6_take) (maxL := 2) (ret := (some .int)) (by decide) rfl ?_
  intro p e s m args below meth c s₁ B hml hv
  obtain ⟨rfl, hsz, hP, hD0, hE⟩ := hv
  have hx := B.exec
  have hb := B.bytes
  have hr := B.returns
  have hts := atoms_spec (ws := wsX6_take) B.pre
  have hown : s.vm.findClass RX6 = some m.cls := findClass_of_methodNamed B.named
  have hlocks := B.notSynchronized
  subst hsz
  have hD := hD0.self (sz := s.heap.size)
  have hA : ∀ q : Nat, s.heap.size ≤ q → (va_A (zw cs ad σ tl) s.heap.size) q := fun q h => Or.inr h
  generalize va_A (zw cs ad σ tl) s.heap.size = A at hD hE hA ⊢
  have hS : va_S A s.heap s.heap [] := va_S.rf
  have hl := lv_entry ([.ref (ad 29)]) (n := 2) (Nat.le_of_ble_eq_true rfl)
  rw [lg_entry_eq]
  generalize (lg_sl ([.ref (ad 29)]) ++ List.replicate (2 - (lg_sl ([.ref (ad 29)])).length) Slot.unset).toArray = ls at hl ⊢
  have hl : lv_has ls 2 [(0, .ref (ad 29))] := hl
  generalize hR : (f_X6_take σ ) = RV
  have hR := hR.symm
  unfold f_X6_take at hR
  obtain ⟨RVv, RVs⟩ := RV
  dsimp only
  obtain ⟨H, hH⟩ : ∃ z, z = s.heap := ⟨_, rfl⟩
  obtain ⟨locs, hlocs⟩ : ∃ z : List Loc, z = [] := ⟨_, rfl⟩
  rw [← hH] at hP
  have hS : va_S A s.heap H locs := by rw [hH, hlocs]; exact hS
  show W _ _ _ _ _ _ _ _ _ _ s.heap [] _ _ _ _
  rw [← hH, ← hlocs]
  clear hlocs
  obtain ⟨Ln, hLn60, hLn⟩ := hI.1
  refine lv_aload_n hx hb dX6_take_0 rfl (lv_at hl 0 rfl) ?_
  refine lv_aload_n hx hb dX6_take_1 rfl (lv_at hl 0 rfl) ?_
  refine va_get (D := G) (ci := 8) (v := .int (σ 29 26)) (C := RX6) (T := TX6) (N := 29) hx hb hts iX6_take hown hE.1 hP 29 (zg_29 cs ad σ tl) rfl 26 (by decide) (hts (.fieldLink RX6 76 "HandoverDeckModel" "next" "I") (by decide +kernel)) (fun _ h9 => h9) rfl dX6_take_2 ?_
  refine lv_iconst (v := (-1)) hx hb dX6_take_5 (by decide) ?_
  refine lv_icmp_ne (tgt := 13) hx hb dX6_take_6 (by decide) (fun c_1 => ?_) (fun c_1 => ?_)
  · have hR := hR.trans (if_neg c_1)
    refine lv_aload_n hx hb dX6_take_13 rfl (lv_at hl 0 rfl) ?_
    refine zai (va_runV (As := []) (rest := [.ref (ad 29)]) ⟨hx, hb, hml, hown, hts⟩ (c_X6_unknown l G cs ad tl σ  hI.1 H.size) (cwV 0 hts gX6_take_X6_unknown rfl rfl rfl (by decide +kernel) ⟨Nat.le_of_ble_eq_true rfl, Nat.le_of_ble_eq_true rfl⟩) (zpv hE hP hD hS hA (zg_29 cs ad σ tl) rfl) rfl rfl hl.1 rfl (lv_room (Nat.le_of_ble_eq_true rfl)) dX6_take_14 ⟨Nat.le_of_ble_eq_true rfl, Nat.le_of_ble_eq_true rfl⟩) hD hS hA (fun H locs hP hD hS => ?_)
    refine lv_if_le (tgt := 24) hx hb dX6_take_17 (by decide) (fun c_2 => ?_) (fun c_2 => ?_)
    · have hR := hR.trans (if_pos c_2)
      refine lv_iconst (v := 0) hx hb dX6_take_24 (by decide) ?_
      refine va_put (D := G) (ci := 8) (v := .int 0) (ty := .int) (C := RX6) (T := TX6) (N := 29) hx hb hts iX6_take tyX6 tyX6_ok nmX6 hown hE.1 hP hD hS 29 (zg_29 cs ad σ tl) rfl 28 (by decide) (hts (.fieldLink RX6 82 "HandoverDeckModel" "thrown" "I") (by decide +kernel)) (fun _ h9 => h9) rfl (by decide +kernel) rfl rfl (Nat.le_of_ble_eq_true rfl) dX6_take_25 (fun H locs hP hD hS => ?_)
      rw [zb_29_28 cs ad σ tl] at hP hD
      refine lv_aload_n hx hb dX6_take_28 rfl (lv_at hl 0 rfl) ?_
      refine va_get (D := G) (ci := 8) (v := .int 0) (C := RX6) (T := TX6) (N := 29) hx hb hts iX6_take hown hE.1 hP 29 (zg_29 cs ad (zs σ 29 28 0) tl) rfl 28 (by decide) (hts (.fieldLink RX6 82 "HandoverDeckModel" "thrown" "I") (by decide +kernel)) (fun _ h9 => h9) rfl dX6_take_29 ?_
      refine lv_if_le (tgt := 37) hx hb dX6_take_32 (by decide) (fun _ => ?_) (fun c => absurd c (by decide))
      refine lv_iconst (v := 0) hx hb dX6_take_37 (by decide) ?_
      refine lv_istore_n (lv' := [(1, .int 0), (0, .ref (ad 29))]) hx hb dX6_take_38 rfl hl (by decide) rfl (fun ls hl => ?_)
      have loop_5 : ∀ (n k : Nat) (τ : zS) (x1 : Int32), x1 = nI (k) → k ≤ Ln → k + n = 61 → (τ 29 7 = nI Ln) → (τ 29 24 = σ 29 24) → (RVv, RVs) = L_X6_take_39 σ  n τ x1 → ∀ (H : Heap) (locs : List Loc), va_P G vwCl (zw cs ad τ tl) H → va_D A (zw cs ad τ tl) → va_S A s.heap H locs → ∀ ls : Array Slot, lv_has ls 2 [(0, .ref (ad 29)), (1, .int x1)] → W p l e (headSpec wsX6_take { frames := 1, cells := 0, slots := 0, locals := 22 }).room s m (List.toArray [.ref (ad 29)]) below meth c H locs 0 0 (MQ below (va_Qi (fun (r : Int32) (_ : Unit) => r = RVv) (fun _ t => zPo G A (zw cs ad RVs tl) t) A) (List.toArray [.ref (ad 29)]) s 0 0 A) (F0 m 39 ls []) := by
        intro n
        induction n with
        | zero => intro k τ x1 ex hk hn; omega
        | succ n ih =>
          intro k τ x1 ex hk hn hτ hτc hR H locs hP hD hS ls hl
          rw [L_X6_take_39] at hR
          refine lv_iload_n hx hb dX6_take_39 rfl (lv_at hl 1 rfl) ?_
          refine lv_aload_n hx hb dX6_take_40 rfl (lv_at hl 0 rfl) ?_
          refine va_get (D := G) (ci := 8) (v := .int (τ 29 7)) (C := RX6) (T := TX6) (N := 29) hx hb hts iX6_take hown hE.1 hP 29 (zg_29 cs ad τ tl) rfl 7 (by decide) (hts (.fieldLink RX6 95 "HandoverDeckModel" "lines" "I") (by decide +kernel)) (fun _ h9 => h9) rfl dX6_take_41 ?_
          refine lv_icmp_ge (tgt := 76) hx hb dX6_take_44 (by decide) (fun c_3 => ?_) (fun c_3 => ?_)
          · have hR := hR.trans (if_pos c_3)
            refine lv_aload_n hx hb dX6_take_76 rfl (lv_at hl 0 rfl) ?_
            refine va_get (D := G) (ci := 8) (v := .ref (ad 50)) (C := RX6) (T := TX6) (N := 29) hx hb hts iX6_take hown hE.1 hP 29 (zg_29 cs ad τ tl) rfl 27 (by decide) (hts (.fieldLink RX6 79 "HandoverDeckModel" "endedAt" "[I") (by decide +kernel)) (fun _ h9 => h9) rfl dX6_take_77 ?_
            refine lv_aload_n hx hb dX6_take_80 rfl (lv_at hl 0 rfl) ?_
            refine va_get (D := G) (ci := 8) (v := .int (τ 29 24)) (C := RX6) (T := TX6) (N := 29) hx hb hts iX6_take hown hE.1 hP 29 (zg_29 cs ad τ tl) rfl 24 (by decide) (hts (.fieldLink RX6 72 "HandoverDeckModel" "crew" "I") (by decide +kernel)) (fun _ h9 => h9) rfl dX6_take_81 ?_
            refine lv_aload_n hx hb dX6_take_84 rfl (lv_at hl 0 rfl) ?_
            refine va_get (D := G) (ci := 8) (v := .int (τ 29 0)) (C := RX6) (T := TX6) (N := 29) hx hb hts iX6_take hown hE.1 hP 29 (zg_29 cs ad τ tl) rfl 0 (by decide) (hts (.fieldLink RX6 98 "HandoverDeckModel" "hour" "I") (by decide +kernel)) (fun _ h9 => h9) rfl dX6_take_85 ?_
            refine z_iast hx hb hE hP hD hS (zg_50 cs ad τ tl) (zb_50 cs ad τ tl) (by rw [hτc]; exact vi_crew hI c_1) dX6_take_88 (fun H locs hP hD hS => ?_)
            refine lv_aload_n hx hb dX6_take_89 rfl (lv_at hl 0 rfl) ?_
            refine lv_aload_n hx hb dX6_take_90 rfl (lv_at hl 0 rfl) ?_
            refine va_get (D := G) (ci := 8) (v := .int (τ 29 26)) (C := RX6) (T := TX6) (N := 29) hx hb hts iX6_take hown hE.1 hP 29 (zg_29 cs ad (zs τ 50 (τ 29 24).toNatClampNeg (τ 29 0)) tl) rfl 26 (by decide) (hts (.fieldLink RX6 76 "HandoverDeckModel" "next" "I") (by decide +kernel)) (fun _ h9 => h9) rfl dX6_take_91 ?_
            refine va_put (D := G) (ci := 8) (v := .int (τ 29 26)) (ty := .int) (C := RX6) (T := TX6) (N := 29) hx hb hts iX6_take tyX6 tyX6_ok nmX6 hown hE.1 hP hD hS 29 (zg_29 cs ad (zs τ 50 (τ 29 24).toNatClampNeg (τ 29 0)) tl) rfl 24 (by decide) (hts (.fieldLink RX6 72 "HandoverDeckModel" "crew" "I") (by decide +kernel)) (fun _ h9 => h9) rfl (by decide +kernel) rfl rfl (Nat.le_of_ble_eq_true rfl) dX6_take_94 (fun H locs hP hD hS => ?_)
            rw [zb_29_24 cs ad (zs τ 50 (τ 29 24).toNatClampNeg (τ 29 0)) tl] at hP hD
            refine lv_aload_n hx hb dX6_take_97 rfl (lv_at hl 0 rfl) ?_
            refine lv_aload_n hx hb dX6_take_98 rfl (lv_at hl 0 rfl) ?_
            refine va_get (D := G) (ci := 8) (v := .int (τ 29 0)) (C := RX6) (T := TX6) (N := 29) hx hb hts iX6_take hown hE.1 hP 29 (zg_29 cs ad (zs (zs τ 50 (τ 29 24).toNatClampNeg (τ 29 0)) 29 24 (τ 29 26)) tl) rfl 0 (by decide) (hts (.fieldLink RX6 98 "HandoverDeckModel" "hour" "I") (by decide +kernel)) (fun _ h9 => h9) rfl dX6_take_99 ?_
            refine va_put (D := G) (ci := 8) (v := .int (τ 29 0)) (ty := .int) (C := RX6) (T := TX6) (N := 29) hx hb hts iX6_take tyX6 tyX6_ok nmX6 hown hE.1 hP hD hS 29 (zg_29 cs ad (zs (zs τ 50 (τ 29 24).toNatClampNeg (τ 29 0)) 29 24 (τ 29 26)) tl) rfl 25 (by decide) (hts (.fieldLink RX6 127 "HandoverDeckModel" "since" "I") (by decide +kernel)) (fun _ h9 => h9) rfl (by decide +kernel) rfl rfl (Nat.le_of_ble_eq_true rfl) dX6_take_102 (fun H locs hP hD hS => ?_)
            rw [zb_29_25 cs ad (zs (zs τ 50 (τ 29 24).toNatClampNeg (τ 29 0)) 29 24 (τ 29 26)) tl] at hP hD
            refine lv_aload_n hx hb dX6_take_105 rfl (lv_at hl 0 rfl) ?_
            refine lv_iconst (v := (-1)) hx hb dX6_take_106 (by decide) ?_
            refine va_put (D := G) (ci := 8) (v := .int (-1)) (ty := .int) (C := RX6) (T := TX6) (N := 29) hx hb hts iX6_take tyX6 tyX6_ok nmX6 hown hE.1 hP hD hS 29 (zg_29 cs ad (zs (zs (zs τ 50 (τ 29 24).toNatClampNeg (τ 29 0)) 29 24 (τ 29 26)) 29 25 (τ 29 0)) tl) rfl 26 (by decide) (hts (.fieldLink RX6 76 "HandoverDeckModel" "next" "I") (by decide +kernel)) (fun _ h9 => h9) rfl (by decide +kernel) rfl rfl (Nat.le_of_ble_eq_true rfl) dX6_take_107 (fun H locs hP hD hS => ?_)
            rw [zb_29_26 cs ad (zs (zs (zs τ 50 (τ 29 24).toNatClampNeg (τ 29 0)) 29 24 (τ 29 26)) 29 25 (τ 29 0)) tl] at hP hD
            refine lv_aload_n hx hb dX6_take_110 rfl (lv_at hl 0 rfl) ?_
            refine zai (va_runV (As := []) (rest := []) ⟨hx, hb, hml, hown, hts⟩ (c_X6_open l G cs ad tl (zs (zs (zs (zs τ 50 (τ 29 24).toNatClampNeg (τ 29 0)) 29 24 (τ 29 26)) 29 25 (τ 29 0)) 29 26 (-1))  ⟨Ln, hLn60, hτ⟩ H.size) (cwV 0 hts gX6_take_X6_open rfl rfl rfl (by decide +kernel) ⟨Nat.le_of_ble_eq_true rfl, Nat.le_of_ble_eq_true rfl⟩) (zpv hE hP hD hS hA (zg_29 cs ad (zs (zs (zs (zs τ 50 (τ 29 24).toNatClampNeg (τ 29 0)) 29 24 (τ 29 26)) 29 25 (τ 29 0)) 29 26 (-1)) tl) rfl) rfl rfl hl.1 rfl (lv_room (Nat.le_of_ble_eq_true rfl)) dX6_take_111 ⟨Nat.le_of_ble_eq_true rfl, Nat.le_of_ble_eq_true rfl⟩) hD hS hA (fun H locs hP hD hS => ?_)
            obtain ⟨e1, e2⟩ := z2 hR.symm
            subst e1; subst e2
            exact W.iret (v := (f_X6_open (zs (zs (zs (zs τ 50 (τ 29 24).toNatClampNeg (τ 29 0)) 29 24 (τ 29 26)) 29 25 (τ 29 0)) 29 26 (-1)) )) hx hb hr (fun t ht hW => ⟨⟨_, (), rfl, rfl, by rw [ht]; exact hP, hD⟩, hS.F ht⟩) hS.2.2 dX6_take_114
          · have hR := hR.trans (if_neg c_3)
            have hkB : k < Ln := zlt ex (by omega) ⟨hτ, by omega⟩ c_3
            refine lv_aload_n hx hb dX6_take_47 rfl (lv_at hl 0 rfl) ?_
            refine va_get (D := G) (ci := 8) (v := .ref (ad 34)) (C := RX6) (T := TX6) (N := 29) hx hb hts iX6_take hown hE.1 hP 29 (zg_29 cs ad τ tl) rfl 5 (by decide) (hts (.fieldLink RX6 24 "HandoverDeckModel" "passed" "[I") (by decide +kernel)) (fun _ h9 => h9) rfl dX6_take_48 ?_
            refine lv_iload_n hx hb dX6_take_51 rfl (lv_at hl 1 rfl) ?_
            refine lv_dup2_11 hx hb dX6_take_52 rfl rfl ?_
            refine z_iald (v := (τ 34 x1.toNatClampNeg)) hx hb hE hP (zg_34 cs ad τ tl) (by rw [ex]; exact vp_in_nI (by omega) (by decide)) rfl dX6_take_53 ?_
            refine lv_aload_n hx hb dX6_take_54 rfl (lv_at hl 0 rfl) ?_
            refine va_get (D := G) (ci := 8) (v := .ref (ad 32)) (C := RX6) (T := TX6) (N := 29) hx hb hts iX6_take hown hE.1 hP 29 (zg_29 cs ad τ tl) rfl 3 (by decide) (hts (.fieldLink RX6 17 "HandoverDeckModel" "isOpen" "[Z") (by decide +kernel)) (fun _ h9 => h9) rfl dX6_take_55 ?_
            refine lv_iload_n hx hb dX6_take_58 rfl (lv_at hl 1 rfl) ?_
            refine z_zald (v := (τ 32 x1.toNatClampNeg)) hx hb hE hP (zg_32 cs ad τ tl) (by rw [ex]; exact vp_in_nI (by omega) (by decide)) rfl dX6_take_59 ?_
            refine lv_if_eq (tgt := 67) hx hb dX6_take_60 (by decide) (fun c_4 => ?_) (fun c_4 => ?_)
            · have hR := hR.trans (if_pos c_4)
              refine lv_iconst (v := 0) hx hb dX6_take_67 (by decide) ?_
              refine lv_iadd hx hb dX6_take_68 ?_
              refine z_iast hx hb hE hP hD hS (zg_34 cs ad τ tl) (zb_34 cs ad τ tl) (by rw [ex]; exact vp_in_nI (by omega) (by decide)) dX6_take_69 (fun H locs hP hD hS => ?_)
              refine lv_iinc (v := (x1 + 1)) (lv' := [(1, .int (x1 + 1)), (0, .ref (ad 29))]) hx hb dX6_take_70 hl (k := 1) rfl rfl (by decide) rfl (fun ls hl => ?_)
              refine lv_goto (tgt := 39) hx hb dX6_take_73 (by decide) ?_
              exact ih (k + 1) (zs τ 34 x1.toNatClampNeg ((τ 34 x1.toNatClampNeg) + 0)) (x1 + 1) (by rw [ex]; exact nI_1 _) (by omega) (by omega) hτ hτc hR H locs hP hD hS ls (lv_sub hl [1, 0] rfl)
            · have hR := hR.trans (if_neg c_4)
              refine lv_iconst (v := 1) hx hb dX6_take_63 (by decide) ?_
              refine lv_goto (tgt := 68) hx hb dX6_take_64 (by decide) ?_
              refine lv_iadd hx hb dX6_take_68 ?_
              refine z_iast hx hb hE hP hD hS (zg_34 cs ad τ tl) (zb_34 cs ad τ tl) (by rw [ex]; exact vp_in_nI (by omega) (by decide)) dX6_take_69 (fun H locs hP hD hS => ?_)
              refine lv_iinc (v := (x1 + 1)) (lv' := [(1, .int (x1 + 1)), (0, .ref (ad 29))]) hx hb dX6_take_70 hl (k := 1) rfl rfl (by decide) rfl (fun ls hl => ?_)
              refine lv_goto (tgt := 39) hx hb dX6_take_73 (by decide) ?_
              exact ih (k + 1) (zs τ 34 x1.toNatClampNeg ((τ 34 x1.toNatClampNeg) + 1)) (x1 + 1) (by rw [ex]; exact nI_1 _) (by omega) (by omega) hτ hτc hR H locs hP hD hS ls (lv_sub hl [1, 0] rfl)
      exact loop_5 61 0 (zs σ 29 28 0) 0 nI_0.symm (by omega) (by omega) hLn rfl hR H locs hP hD hS ls (lv_sub hl [1, 0] rfl)
    · have hR := hR.trans (if_neg c_2)
      refine lv_iconst (v := 2) hx hb dX6_take_20 (by decide) ?_
      refine lv_goto (tgt := 25) hx hb dX6_take_21 (by decide) ?_
      refine va_put (D := G) (ci := 8) (v := .int 2) (ty := .int) (C := RX6) (T := TX6) (N := 29) hx hb hts iX6_take tyX6 tyX6_ok nmX6 hown hE.1 hP hD hS 29 (zg_29 cs ad σ tl) rfl 28 (by decide) (hts (.fieldLink RX6 82 "HandoverDeckModel" "thrown" "I") (by decide +kernel)) (fun _ h9 => h9) rfl (by decide +kernel) rfl rfl (Nat.le_of_ble_eq_true rfl) dX6_take_25 (fun H locs hP hD hS => ?_)
      rw [zb_29_28 cs ad σ tl] at hP hD
      refine lv_aload_n hx hb dX6_take_28 rfl (lv_at hl 0 rfl) ?_
      refine va_get (D := G) (ci := 8) (v := .int 2) (C := RX6) (T := TX6) (N := 29) hx hb hts iX6_take hown hE.1 hP 29 (zg_29 cs ad (zs σ 29 28 2) tl) rfl 28 (by decide) (hts (.fieldLink RX6 82 "HandoverDeckModel" "thrown" "I") (by decide +kernel)) (fun _ h9 => h9) rfl dX6_take_29 ?_
      refine lv_if_le (tgt := 37) hx hb dX6_take_32 (by decide) (fun c => absurd c (by decide)) (fun _ => ?_)
      refine lv_iconst (v := (-1)) hx hb dX6_take_35 (by decide) ?_
      obtain ⟨e1, e2⟩ := z2 hR.symm
      subst e1; subst e2
      exact W.iret (v := (-1)) hx hb hr (fun t ht hW => ⟨⟨_, (), rfl, rfl, by rw [ht]; exact hP, hD⟩, hS.F ht⟩) hS.2.2 dX6_take_36
  · have hR := hR.trans (if_pos c_1)
    refine lv_iconst (v := 1) hx hb dX6_take_9 (by decide) ?_
    refine lv_goto (tgt := 25) hx hb dX6_take_10 (by decide) ?_
    refine va_put (D := G) (ci := 8) (v := .int 1) (ty := .int) (C := RX6) (T := TX6) (N := 29) hx hb hts iX6_take tyX6 tyX6_ok nmX6 hown hE.1 hP hD hS 29 (zg_29 cs ad σ tl) rfl 28 (by decide) (hts (.fieldLink RX6 82 "HandoverDeckModel" "thrown" "I") (by decide +kernel)) (fun _ h9 => h9) rfl (by decide +kernel) rfl rfl (Nat.le_of_ble_eq_true rfl) dX6_take_25 (fun H locs hP hD hS => ?_)
    rw [zb_29_28 cs ad σ tl] at hP hD
    refine lv_aload_n hx hb dX6_take_28 rfl (lv_at hl 0 rfl) ?_
    refine va_get (D := G) (ci := 8) (v := .int 1) (C := RX6) (T := TX6) (N := 29) hx hb hts iX6_take hown hE.1 hP 29 (zg_29 cs ad (zs σ 29 28 1) tl) rfl 28 (by decide) (hts (.fieldLink RX6 82 "HandoverDeckModel" "thrown" "I") (by decide +kernel)) (fun _ h9 => h9) rfl dX6_take_29 ?_
    refine lv_if_le (tgt := 37) hx hb dX6_take_32 (by decide) (fun c => absurd c (by decide)) (fun _ => ?_)
    refine lv_iconst (v := (-1)) hx hb dX6_take_35 (by decide) ?_
    obtain ⟨e1, e2⟩ := z2 hR.symm
    subst e1; subst e2
    exact W.iret (v := (-1)) hx hb hr (fun t ht hW => ⟨⟨_, (), rfl, rfl, by rw [ht]; exact hP, hD⟩, hS.F ht⟩) hS.2.2 dX6_take_36
def f_X6_cancel (σ : zS)  : Int32 × zS := (if (σ 29 26) = (-1) then ((-1), (zs σ 29 28 1)) else (((f_X6_open (zs (zs σ 29 28 0) 29 26 (-1)) ) - (f_X6_unknown (zs (zs σ 29 28 0) 29 26 (-1)) )), (zs (zs σ 29 28 0) 29 26 (-1))))
theorem iX6_cancel : ∀ w ∈ u_ws RX6 TX6 29, w ∈ wsX6_cancel := by decide +kernel
set_option maxRecDepth 100000 in
theorem c_X6_cancel (l : Launch) (G : va_G) (cs : Nat → ClassId) (ad : Nat → Nat) (tl : va_W) (σ : zS)  (hI : zI σ) : zMi l yX6_cancel wsX6_cancel { frames := 1, cells := 0, slots := 0, locals := 22 } G cs [.ref (ad 29)] (zw cs ad σ tl) (f_X6_cancel σ ).1 (zw cs ad (f_X6_cancel σ ).2 tl) 0 0 := by
  intro sz
  refine Met.ofW (cc := cX6_cancel) (maxL := 1) (ret := (some .int)) (by decide) rfl ?_
  intro p e s m args below meth c s₁ B hml hv
  obtain ⟨rfl, hsz, hP, hD0, hE⟩ := hv
  have hx := B.exec
  have hb := B.bytes
  have hr := B.returns
  have hts := atoms_spec (ws := wsX6_cancel) B.pre
  have hown : s.vm.findClass RX6 = some m.cls := findClass_of_methodNamed B.named
  have hlocks := B.notSynchronized
  subst hsz
  have hD := hD0.self (sz := s.heap.size)
  have hA : ∀ q : Nat, s.heap.size ≤ q → (va_A (zw cs ad σ tl) s.heap.size) q := fun q h => Or.inr h
  generalize va_A (zw cs ad σ tl) s.heap.size = A at hD hE hA ⊢
  have hS : va_S A s.heap s.heap [] := va_S.rf
  have hl := lv_entry ([.ref (ad 29)]) (n := 1) (Nat.le_of_ble_eq_true rfl)
  rw [lg_entry_eq]
  generalize (lg_sl ([.ref (ad 29)]) ++ List.replicate (1 - (lg_sl ([.ref (ad 29)])).length) Slot.unset).toArray = ls at hl ⊢
  have hl : lv_has ls 1 [(0, .ref (ad 29))] := hl
  generalize hR : (f_X6_cancel σ ) = RV
  have hR := hR.symm
  unfold f_X6_cancel at hR
  obtain ⟨RVv, RVs⟩ := RV
  dsimp only
  obtain ⟨H, hH⟩ : ∃ z, z = s.heap := ⟨_, rfl⟩
  obtain ⟨locs, hlocs⟩ : ∃ z : List Loc, z = [] := ⟨_, rfl⟩
  rw [← hH] at hP
  have hS : va_S A s.heap H locs := by rw [hH, hlocs]; exact hS
  show W _ _ _ _ _ _ _ _ _ _ s.heap [] _ _ _ _
  rw [← hH, ← hlocs]
  clear hlocs
  refine lv_aload_n hx hb dX6_cancel_0 rfl (lv_at hl 0 rfl) ?_
  refine lv_aload_n hx hb dX6_cancel_1 rfl (lv_at hl 0 rfl) ?_
  refine va_get (D := G) (ci := 8) (v := .int (σ 29 26)) (C := RX6) (T := TX6) (N := 29) hx hb hts iX6_cancel hown hE.1 hP 29 (zg_29 cs ad σ tl) rfl 26 (by decide) (hts (.fieldLink RX6 76 "HandoverDeckModel" "next" "I") (by decide +kernel)) (fun _ h9 => h9) rfl dX6_cancel_2 ?_
  refine lv_iconst (v := (-1)) hx hb dX6_cancel_5 (by decide) ?_
  refine lv_icmp_ne (tgt := 13) hx hb dX6_cancel_6 (by decide) (fun c_1 => ?_) (fun c_1 => ?_)
  · have hR := hR.trans (if_neg c_1)
    refine lv_iconst (v := 0) hx hb dX6_cancel_13 (by decide) ?_
    refine va_put (D := G) (ci := 8) (v := .int 0) (ty := .int) (C := RX6) (T := TX6) (N := 29) hx hb hts iX6_cancel tyX6 tyX6_ok nmX6 hown hE.1 hP hD hS 29 (zg_29 cs ad σ tl) rfl 28 (by decide) (hts (.fieldLink RX6 82 "HandoverDeckModel" "thrown" "I") (by decide +kernel)) (fun _ h9 => h9) rfl (by decide +kernel) rfl rfl (Nat.le_of_ble_eq_true rfl) dX6_cancel_14 (fun H locs hP hD hS => ?_)
    rw [zb_29_28 cs ad σ tl] at hP hD
    refine lv_aload_n hx hb dX6_cancel_17 rfl (lv_at hl 0 rfl) ?_
    refine va_get (D := G) (ci := 8) (v := .int 0) (C := RX6) (T := TX6) (N := 29) hx hb hts iX6_cancel hown hE.1 hP 29 (zg_29 cs ad (zs σ 29 28 0) tl) rfl 28 (by decide) (hts (.fieldLink RX6 82 "HandoverDeckModel" "thrown" "I") (by decide +kernel)) (fun _ h9 => h9) rfl dX6_cancel_18 ?_
    refine lv_if_le (tgt := 26) hx hb dX6_cancel_21 (by decide) (fun _ => ?_) (fun c => absurd c (by decide))
    refine lv_aload_n hx hb dX6_cancel_26 rfl (lv_at hl 0 rfl) ?_
    refine lv_iconst (v := (-1)) hx hb dX6_cancel_27 (by decide) ?_
    refine va_put (D := G) (ci := 8) (v := .int (-1)) (ty := .int) (C := RX6) (T := TX6) (N := 29) hx hb hts iX6_cancel tyX6 tyX6_ok nmX6 hown hE.1 hP hD hS 29 (zg_29 cs ad (zs σ 29 28 0) tl) rfl 26 (by decide) (hts (.fieldLink RX6 76 "HandoverDeckModel" "next" "I") (by decide +kernel)) (fun _ h9 => h9) rfl (by decide +kernel) rfl rfl (Nat.le_of_ble_eq_true rfl) dX6_cancel_28 (fun H locs hP hD hS => ?_)
    rw [zb_29_26 cs ad (zs σ 29 28 0) tl] at hP hD
    refine lv_aload_n hx hb dX6_cancel_31 rfl (lv_at hl 0 rfl) ?_
    refine zai (va_runV (As := []) (rest := []) ⟨hx, hb, hml, hown, hts⟩ (c_X6_open l G cs ad tl (zs (zs σ 29 28 0) 29 26 (-1))  hI.1 H.size) (cwV 0 hts gX6_cancel_X6_open rfl rfl rfl (by decide +kernel) ⟨Nat.le_of_ble_eq_true rfl, Nat.le_of_ble_eq_true rfl⟩) (zpv hE hP hD hS hA (zg_29 cs ad (zs (zs σ 29 28 0) 29 26 (-1)) tl) rfl) rfl rfl hl.1 rfl (lv_room (Nat.le_of_ble_eq_true rfl)) dX6_cancel_32 ⟨Nat.le_of_ble_eq_true rfl, Nat.le_of_ble_eq_true rfl⟩) hD hS hA (fun H locs hP hD hS => ?_)
    refine lv_aload_n hx hb dX6_cancel_35 rfl (lv_at hl 0 rfl) ?_
    refine zai (va_runV (As := []) (rest := [.int (f_X6_open (zs (zs σ 29 28 0) 29 26 (-1)) )]) ⟨hx, hb, hml, hown, hts⟩ (c_X6_unknown l G cs ad tl (zs (zs σ 29 28 0) 29 26 (-1))  hI.1 H.size) (cwV 0 hts gX6_cancel_X6_unknown rfl rfl rfl (by decide +kernel) ⟨Nat.le_of_ble_eq_true rfl, Nat.le_of_ble_eq_true rfl⟩) (zpv hE hP hD hS hA (zg_29 cs ad (zs (zs σ 29 28 0) 29 26 (-1)) tl) rfl) rfl rfl hl.1 rfl (lv_room (Nat.le_of_ble_eq_true rfl)) dX6_cancel_36 ⟨Nat.le_of_ble_eq_true rfl, Nat.le_of_ble_eq_true rfl⟩) hD hS hA (fun H locs hP hD hS => ?_)
    refine lv_isub hx hb dX6_cancel_39 ?_
    obtain ⟨e1, e2⟩ := z2 hR.symm
    subst e1; subst e2
    exact W.iret (v := ((f_X6_open (zs (zs σ 29 28 0) 29 26 (-1)) ) - (f_X6_unknown (zs (zs σ 29 28 0) 29 26 (-1)) ))) hx hb hr (fun t ht hW => ⟨⟨_, (), rfl, rfl, by rw [ht]; exact hP, hD⟩, hS.F ht⟩) hS.2.2 dX6_cancel_40
  · have hR := hR.trans (if_pos c_1)
    refine lv_iconst (v := 1) hx hb dX6_cancel_9 (by decide) ?_
    refine lv_goto (tgt := 14) hx hb dX6_cancel_10 (by decide) ?_
    refine va_put (D := G) (ci := 8) (v := .int 1) (ty := .int) (C := RX6) (T := TX6) (N := 29) hx hb hts iX6_cancel tyX6 tyX6_ok nmX6 hown hE.1 hP hD hS 29 (zg_29 cs ad σ tl) rfl 28 (by decide) (hts (.fieldLink RX6 82 "HandoverDeckModel" "thrown" "I") (by decide +kernel)) (fun _ h9 => h9) rfl (by decide +kernel) rfl rfl (Nat.le_of_ble_eq_true rfl) dX6_cancel_14 (fun H locs hP hD hS => ?_)
    rw [zb_29_28 cs ad σ tl] at hP hD
    refine lv_aload_n hx hb dX6_cancel_17 rfl (lv_at hl 0 rfl) ?_
    refine va_get (D := G) (ci := 8) (v := .int 1) (C := RX6) (T := TX6) (N := 29) hx hb hts iX6_cancel hown hE.1 hP 29 (zg_29 cs ad (zs σ 29 28 1) tl) rfl 28 (by decide) (hts (.fieldLink RX6 82 "HandoverDeckModel" "thrown" "I") (by decide +kernel)) (fun _ h9 => h9) rfl dX6_cancel_18 ?_
    refine lv_if_le (tgt := 26) hx hb dX6_cancel_21 (by decide) (fun c => absurd c (by decide)) (fun _ => ?_)
    refine lv_iconst (v := (-1)) hx hb dX6_cancel_24 (by decide) ?_
    obtain ⟨e1, e2⟩ := z2 hR.symm
    subst e1; subst e2
    exact W.iret (v := (-1)) hx hb hr (fun t ht hW => ⟨⟨_, (), rfl, rfl, by rw [ht]; exact hP, hD⟩, hS.F ht⟩) hS.2.2 dX6_cancel_25
def L_X6_pass_34 (σ : zS) (a1 : Int32) : Nat → Int32 → Int32 → Int32 × zS
  | 0, _, _ => (0, σ)
  | n + 1, x2, x3 => (if 32 ≤ x3 then (x2, (zs (zs σ 29 28 0) 29 0 ((σ 29 0) + a1))) else (if (f_X6_isShelved (zs σ 29 28 0) x3) = 0 then (L_X6_pass_34 σ a1 n (x2 + 0) (x3 + 1)) else (if ((σ 29 0) + a1) < (σ 38 x3.toNatClampNeg) then (L_X6_pass_34 σ a1 n (x2 + 0) (x3 + 1)) else (L_X6_pass_34 σ a1 n (x2 + 1) (x3 + 1)))))
def f_X6_pass (σ : zS) (a1 : Int32) : Int32 × zS := (if (f_X6_in a1.toInt64 1 48) = 0 then ((-1), (zs σ 29 28 1)) else (L_X6_pass_34 σ a1 33 0 0))
theorem iX6_pass : ∀ w ∈ u_ws RX6 TX6 29, w ∈ wsX6_pass := by decide +kernel
set_option maxRecDepth 100000 in
theorem c_X6_pass (l : Launch) (G : va_G) (cs : Nat → ClassId) (ad : Nat → Nat) (tl : va_W) (σ : zS) (a1 : Int32)  : zMi l yX6_pass wsX6_pass { frames := 1, cells := 0, slots := 0, locals := 25 } G cs [.ref (ad 29), .int a1] (zw cs ad σ tl) (f_X6_pass σ a1).1 (zw cs ad (f_X6_pass σ a1).2 tl) 0 0 := by
  intro sz
  refine Met.ofW (cc := cX6_pass) (maxL := 4) (ret := (some .int)) (by decide) rfl ?_
  intro p e s m args below meth c s₁ B hml hv
  obtain ⟨rfl, hsz, hP, hD0, hE⟩ := hv
  have hx := B.exec
  have hb := B.bytes
  have hr := B.returns
  have hts := atoms_spec (ws := wsX6_pass) B.pre
  have hown : s.vm.findClass RX6 = some m.cls := findClass_of_methodNamed B.named
  have hlocks := B.notSynchronized
  subst hsz
  have hD := hD0.self (sz := s.heap.size)
  have hA : ∀ q : Nat, s.heap.size ≤ q → (va_A (zw cs ad σ tl) s.heap.size) q := fun q h => Or.inr h
  generalize va_A (zw cs ad σ tl) s.heap.size = A at hD hE hA ⊢
  have hS : va_S A s.heap s.heap [] := va_S.rf
  have hl := lv_entry ([.ref (ad 29), .int a1]) (n := 4) (Nat.le_of_ble_eq_true rfl)
  rw [lg_entry_eq]
  generalize (lg_sl ([.ref (ad 29), .int a1]) ++ List.replicate (4 - (lg_sl ([.ref (ad 29), .int a1])).length) Slot.unset).toArray = ls at hl ⊢
  have hl : lv_has ls 4 [(0, .ref (ad 29)), (1, .int a1)] := hl
  generalize hR : (f_X6_pass σ a1) = RV
  have hR := hR.symm
  unfold f_X6_pass at hR
  obtain ⟨RVv, RVs⟩ := RV
  dsimp only
  obtain ⟨H, hH⟩ : ∃ z, z = s.heap := ⟨_, rfl⟩
  obtain ⟨locs, hlocs⟩ : ∃ z : List Loc, z = [] := ⟨_, rfl⟩
  rw [← hH] at hP
  have hS : va_S A s.heap H locs := by rw [hH, hlocs]; exact hS
  show W _ _ _ _ _ _ _ _ _ _ s.heap [] _ _ _ _
  rw [← hH, ← hlocs]
  clear hlocs
  refine lv_aload_n hx hb dX6_pass_0 rfl (lv_at hl 0 rfl) ?_
  refine lv_iload_n hx hb dX6_pass_1 rfl (lv_at hl 1 rfl) ?_
  refine lv_i2l (v := a1.toInt64) hx hb dX6_pass_2 rfl ?_
  refine lv_lconst (v := 1) hx hb dX6_pass_3 (by decide) ?_
  refine lv_ldc2 (v := 48) hx hb hown (hts (.constantLong RX6 172 48) (by decide +kernel)) dX6_pass_4 ?_
  refine zai (va_runS (As := [.long a1.toInt64, .long 1, .long 48]) (rest := [.ref (ad 29)]) ⟨hx, hb, hml, hown, hts⟩ (c_X6_in l G cs ad tl σ a1.toInt64 1 48  H.size) (va_cwS 3 hts gX6_pass_X6_in rfl rfl rfl (by decide +kernel) ⟨Nat.le_of_ble_eq_true rfl, Nat.le_of_ble_eq_true rfl⟩) (zps hE hP hD hS hA) rfl rfl hl.1 rfl (lv_room (Nat.le_of_ble_eq_true rfl)) dX6_pass_7 ⟨Nat.le_of_ble_eq_true rfl, Nat.le_of_ble_eq_true rfl⟩) hD hS hA (fun H locs hP hD hS => ?_)
  refine lv_if_eq (tgt := 17) hx hb dX6_pass_10 (by decide) (fun c_1 => ?_) (fun c_1 => ?_)
  · have hR := hR.trans (if_pos c_1)
    refine lv_iconst (v := 1) hx hb dX6_pass_17 (by decide) ?_
    refine va_put (D := G) (ci := 8) (v := .int 1) (ty := .int) (C := RX6) (T := TX6) (N := 29) hx hb hts iX6_pass tyX6 tyX6_ok nmX6 hown hE.1 hP hD hS 29 (zg_29 cs ad σ tl) rfl 28 (by decide) (hts (.fieldLink RX6 82 "HandoverDeckModel" "thrown" "I") (by decide +kernel)) (fun _ h9 => h9) rfl (by decide +kernel) rfl rfl (Nat.le_of_ble_eq_true rfl) dX6_pass_18 (fun H locs hP hD hS => ?_)
    rw [zb_29_28 cs ad σ tl] at hP hD
    refine lv_aload_n hx hb dX6_pass_21 rfl (lv_at hl 0 rfl) ?_
    refine va_get (D := G) (ci := 8) (v := .int 1) (C := RX6) (T := TX6) (N := 29) hx hb hts iX6_pass hown hE.1 hP 29 (zg_29 cs ad (zs σ 29 28 1) tl) rfl 28 (by decide) (hts (.fieldLink RX6 82 "HandoverDeckModel" "thrown" "I") (by decide +kernel)) (fun _ h9 => h9) rfl dX6_pass_22 ?_
    refine lv_if_le (tgt := 30) hx hb dX6_pass_25 (by decide) (fun c => absurd c (by decide)) (fun _ => ?_)
    refine lv_iconst (v := (-1)) hx hb dX6_pass_28 (by decide) ?_
    obtain ⟨e1, e2⟩ := z2 hR.symm
    subst e1; subst e2
    exact W.iret (v := (-1)) hx hb hr (fun t ht hW => ⟨⟨_, (), rfl, rfl, by rw [ht]; exact hP, hD⟩, hS.F ht⟩) hS.2.2 dX6_pass_29
  · have hR := hR.trans (if_neg c_1)
    refine lv_iconst (v := 0) hx hb dX6_pass_13 (by decide) ?_
    refine lv_goto (tgt := 18) hx hb dX6_pass_14 (by decide) ?_
    refine va_put (D := G) (ci := 8) (v := .int 0) (ty := .int) (C := RX6) (T := TX6) (N := 29) hx hb hts iX6_pass tyX6 tyX6_ok nmX6 hown hE.1 hP hD hS 29 (zg_29 cs ad σ tl) rfl 28 (by decide) (hts (.fieldLink RX6 82 "HandoverDeckModel" "thrown" "I") (by decide +kernel)) (fun _ h9 => h9) rfl (by decide +kernel) rfl rfl (Nat.le_of_ble_eq_true rfl) dX6_pass_18 (fun H locs hP hD hS => ?_)
    rw [zb_29_28 cs ad σ tl] at hP hD
    refine lv_aload_n hx hb dX6_pass_21 rfl (lv_at hl 0 rfl) ?_
    refine va_get (D := G) (ci := 8) (v := .int 0) (C := RX6) (T := TX6) (N := 29) hx hb hts iX6_pass hown hE.1 hP 29 (zg_29 cs ad (zs σ 29 28 0) tl) rfl 28 (by decide) (hts (.fieldLink RX6 82 "HandoverDeckModel" "thrown" "I") (by decide +kernel)) (fun _ h9 => h9) rfl dX6_pass_22 ?_
    refine lv_if_le (tgt := 30) hx hb dX6_pass_25 (by decide) (fun _ => ?_) (fun c => absurd c (by decide))
    refine lv_iconst (v := 0) hx hb dX6_pass_30 (by decide) ?_
    refine lv_istore_n (lv' := [(2, .int 0), (0, .ref (ad 29)), (1, .int a1)]) hx hb dX6_pass_31 rfl hl (by decide) rfl (fun ls hl => ?_)
    refine lv_iconst (v := 0) hx hb dX6_pass_32 (by decide) ?_
    refine lv_istore_n (lv' := [(3, .int 0), (2, .int 0), (0, .ref (ad 29)), (1, .int a1)]) hx hb dX6_pass_33 rfl hl (by decide) rfl (fun ls hl => ?_)
    have loop_5 : ∀ (n k : Nat) (x2 : Int32) (x3 : Int32), x3 = nI (k) → k ≤ 32 → k + n = 33 → (RVv, RVs) = L_X6_pass_34 σ a1 n x2 x3 → ∀ (H : Heap) (locs : List Loc), va_P G vwCl (zw cs ad (zs σ 29 28 0) tl) H → va_D A (zw cs ad (zs σ 29 28 0) tl) → va_S A s.heap H locs → ∀ ls : Array Slot, lv_has ls 4 [(0, .ref (ad 29)), (1, .int a1), (2, .int x2), (3, .int x3)] → W p l e (headSpec wsX6_pass { frames := 1, cells := 0, slots := 0, locals := 25 }).room s m (List.toArray [.ref (ad 29), .int a1]) below meth c H locs 0 0 (MQ below (va_Qi (fun (r : Int32) (_ : Unit) => r = RVv) (fun _ t => zPo G A (zw cs ad RVs tl) t) A) (List.toArray [.ref (ad 29), .int a1]) s 0 0 A) (F0 m 34 ls []) := by
      intro n
      induction n with
      | zero => intro k  x2 x3 ex hk hn; omega
      | succ n ih =>
        intro k  x2 x3 ex hk hn hR H locs hP hD hS ls hl
        rw [L_X6_pass_34] at hR
        refine lv_iload_n hx hb dX6_pass_34 rfl (lv_at hl 3 rfl) ?_
        refine lv_bipush (v := 32) hx hb dX6_pass_35 (by decide) ?_
        refine lv_icmp_ge (tgt := 77) hx hb dX6_pass_37 (by decide) (fun c_2 => ?_) (fun c_2 => ?_)
        · have hR := hR.trans (if_pos c_2)
          refine lv_aload_n hx hb dX6_pass_77 rfl (lv_at hl 0 rfl) ?_
          refine lv_dup hx hb dX6_pass_78 rfl ?_
          refine va_get (D := G) (ci := 8) (v := .int (σ 29 0)) (C := RX6) (T := TX6) (N := 29) hx hb hts iX6_pass hown hE.1 hP 29 (zg_29 cs ad (zs σ 29 28 0) tl) rfl 0 (by decide) (hts (.fieldLink RX6 98 "HandoverDeckModel" "hour" "I") (by decide +kernel)) (fun _ h9 => h9) rfl dX6_pass_79 ?_
          refine lv_iload_n hx hb dX6_pass_82 rfl (lv_at hl 1 rfl) ?_
          refine lv_iadd hx hb dX6_pass_83 ?_
          refine va_put (D := G) (ci := 8) (v := .int ((σ 29 0) + a1)) (ty := .int) (C := RX6) (T := TX6) (N := 29) hx hb hts iX6_pass tyX6 tyX6_ok nmX6 hown hE.1 hP hD hS 29 (zg_29 cs ad (zs σ 29 28 0) tl) rfl 0 (by decide) (hts (.fieldLink RX6 98 "HandoverDeckModel" "hour" "I") (by decide +kernel)) (fun _ h9 => h9) rfl (by decide +kernel) rfl rfl (Nat.le_of_ble_eq_true rfl) dX6_pass_84 (fun H locs hP hD hS => ?_)
          rw [zb_29_0 cs ad (zs σ 29 28 0) tl] at hP hD
          refine lv_iload_n hx hb dX6_pass_87 rfl (lv_at hl 2 rfl) ?_
          obtain ⟨e1, e2⟩ := z2 hR.symm
          subst e1; subst e2
          exact W.iret (v := x2) hx hb hr (fun t ht hW => ⟨⟨_, (), rfl, rfl, by rw [ht]; exact hP, hD⟩, hS.F ht⟩) hS.2.2 dX6_pass_88
        · have hR := hR.trans (if_neg c_2)
          have hkB : k < 32 := zlt ex (by omega) (by decide) c_2
          refine lv_iload_n hx hb dX6_pass_40 rfl (lv_at hl 2 rfl) ?_
          refine lv_aload_n hx hb dX6_pass_41 rfl (lv_at hl 0 rfl) ?_
          refine lv_iload_n hx hb dX6_pass_42 rfl (lv_at hl 3 rfl) ?_
          refine zai (va_runV (As := [.int x3]) (rest := [.int x2]) ⟨hx, hb, hml, hown, hts⟩ (c_X6_isShelved l G cs ad tl (zs σ 29 28 0) x3 (by rw [ex]; exact vp_in_nI (by omega) (by decide)) H.size) (cwV 1 hts gX6_pass_X6_isShelved rfl rfl rfl (by decide +kernel) ⟨Nat.le_of_ble_eq_true rfl, Nat.le_of_ble_eq_true rfl⟩) (zpv hE hP hD hS hA (zg_29 cs ad (zs σ 29 28 0) tl) rfl) rfl rfl hl.1 rfl (lv_room (Nat.le_of_ble_eq_true rfl)) dX6_pass_43 ⟨Nat.le_of_ble_eq_true rfl, Nat.le_of_ble_eq_true rfl⟩) hD hS hA (fun H locs hP hD hS => ?_)
          refine lv_if_eq (tgt := 68) hx hb dX6_pass_46 (by decide) (fun c_3 => ?_) (fun c_3 => ?_)
          · have hR := hR.trans (if_pos c_3)
            refine lv_iconst (v := 0) hx hb dX6_pass_68 (by decide) ?_
            refine lv_iadd hx hb dX6_pass_69 ?_
            refine lv_istore_n (lv' := [(2, .int (x2 + 0)), (0, .ref (ad 29)), (1, .int a1), (3, .int x3)]) hx hb dX6_pass_70 rfl hl (by decide) rfl (fun ls hl => ?_)
            refine lv_iinc (v := (x3 + 1)) (lv' := [(3, .int (x3 + 1)), (2, .int (x2 + 0)), (0, .ref (ad 29)), (1, .int a1)]) hx hb dX6_pass_71 hl (k := 3) rfl rfl (by decide) rfl (fun ls hl => ?_)
            refine lv_goto (tgt := 34) hx hb dX6_pass_74 (by decide) ?_
            exact ih (k + 1)  (x2 + 0) (x3 + 1) (by rw [ex]; exact nI_1 _) (by omega) (by omega)  hR H locs hP hD hS ls (lv_sub hl [2, 3, 1, 0] rfl)
          · have hR := hR.trans (if_neg c_3)
            refine lv_aload_n hx hb dX6_pass_49 rfl (lv_at hl 0 rfl) ?_
            refine va_get (D := G) (ci := 8) (v := .int (σ 29 0)) (C := RX6) (T := TX6) (N := 29) hx hb hts iX6_pass hown hE.1 hP 29 (zg_29 cs ad (zs σ 29 28 0) tl) rfl 0 (by decide) (hts (.fieldLink RX6 98 "HandoverDeckModel" "hour" "I") (by decide +kernel)) (fun _ h9 => h9) rfl dX6_pass_50 ?_
            refine lv_iload_n hx hb dX6_pass_53 rfl (lv_at hl 1 rfl) ?_
            refine lv_iadd hx hb dX6_pass_54 ?_
            refine lv_aload_n hx hb dX6_pass_55 rfl (lv_at hl 0 rfl) ?_
            refine va_get (D := G) (ci := 8) (v := .ref (ad 38)) (C := RX6) (T := TX6) (N := 29) hx hb hts iX6_pass hown hE.1 hP 29 (zg_29 cs ad (zs σ 29 28 0) tl) rfl 10 (by decide) (hts (.fieldLink RX6 36 "HandoverDeckModel" "shelvedTo" "[I") (by decide +kernel)) (fun _ h9 => h9) rfl dX6_pass_56 ?_
            refine lv_iload_n hx hb dX6_pass_59 rfl (lv_at hl 3 rfl) ?_
            refine z_iald (v := (σ 38 x3.toNatClampNeg)) hx hb hE hP (zg_38 cs ad (zs σ 29 28 0) tl) (by rw [ex]; exact vp_in_nI (by omega) (by decide)) (by rw [zs_ne (k := 29) (k' := 38) (by decide)]) dX6_pass_60 ?_
            refine lv_icmp_lt (tgt := 68) hx hb dX6_pass_61 (by decide) (fun c_4 => ?_) (fun c_4 => ?_)
            · have hR := hR.trans (if_pos c_4)
              refine lv_iconst (v := 0) hx hb dX6_pass_68 (by decide) ?_
              refine lv_iadd hx hb dX6_pass_69 ?_
              refine lv_istore_n (lv' := [(2, .int (x2 + 0)), (0, .ref (ad 29)), (1, .int a1), (3, .int x3)]) hx hb dX6_pass_70 rfl hl (by decide) rfl (fun ls hl => ?_)
              refine lv_iinc (v := (x3 + 1)) (lv' := [(3, .int (x3 + 1)), (2, .int (x2 + 0)), (0, .ref (ad 29)), (1, .int a1)]) hx hb dX6_pass_71 hl (k := 3) rfl rfl (by decide) rfl (fun ls hl => ?_)
              refine lv_goto (tgt := 34) hx hb dX6_pass_74 (by decide) ?_
              exact ih (k + 1)  (x2 + 0) (x3 + 1) (by rw [ex]; exact nI_1 _) (by omega) (by omega)  hR H locs hP hD hS ls (lv_sub hl [2, 3, 1, 0] rfl)
            · have hR := hR.trans (if_neg c_4)
              refine lv_iconst (v := 1) hx hb dX6_pass_64 (by decide) ?_
              refine lv_goto (tgt := 69) hx hb dX6_pass_65 (by decide) ?_
              refine lv_iadd hx hb dX6_pass_69 ?_
              refine lv_istore_n (lv' := [(2, .int (x2 + 1)), (0, .ref (ad 29)), (1, .int a1), (3, .int x3)]) hx hb dX6_pass_70 rfl hl (by decide) rfl (fun ls hl => ?_)
              refine lv_iinc (v := (x3 + 1)) (lv' := [(3, .int (x3 + 1)), (2, .int (x2 + 1)), (0, .ref (ad 29)), (1, .int a1)]) hx hb dX6_pass_71 hl (k := 3) rfl rfl (by decide) rfl (fun ls hl => ?_)
              refine lv_goto (tgt := 34) hx hb dX6_pass_74 (by decide) ?_
              exact ih (k + 1)  (x2 + 1) (x3 + 1) (by rw [ex]; exact nI_1 _) (by omega) (by omega)  hR H locs hP hD hS ls (lv_sub hl [2, 3, 1, 0] rfl)
    exact loop_5 33 0  0 0 nI_0.symm (by omega) (by omega)  hR H locs hP hD hS ls (lv_sub hl [2, 3, 1, 0] rfl)
def f_X6_hour (σ : zS)  : Int32 × zS := ((σ 29 0), (zs σ 29 28 0))
theorem iX6_hour : ∀ w ∈ u_ws RX6 TX6 29, w ∈ wsX6_hour := by decide +kernel
set_option maxRecDepth 100000 in
theorem c_X6_hour (l : Launch) (G : va_G) (cs : Nat → ClassId) (ad : Nat → Nat) (tl : va_W) (σ : zS)   : zMi l yX6_hour wsX6_hour { frames := 0, cells := 0, slots := 0, locals := 0 } G cs [.ref (ad 29)] (zw cs ad σ tl) (f_X6_hour σ ).1 (zw cs ad (f_X6_hour σ ).2 tl) 0 0 := by
  intro sz
  refine Met.ofW (cc := cX6_hour) (maxL := 1) (ret := (some .int)) (by decide) rfl ?_
  intro p e s m args below meth c s₁ B hml hv
  obtain ⟨rfl, hsz, hP, hD0, hE⟩ := hv
  have hx := B.exec
  have hb := B.bytes
  have hr := B.returns
  have hts := atoms_spec (ws := wsX6_hour) B.pre
  have hown : s.vm.findClass RX6 = some m.cls := findClass_of_methodNamed B.named
  have hlocks := B.notSynchronized
  subst hsz
  have hD := hD0.self (sz := s.heap.size)
  have hA : ∀ q : Nat, s.heap.size ≤ q → (va_A (zw cs ad σ tl) s.heap.size) q := fun q h => Or.inr h
  generalize va_A (zw cs ad σ tl) s.heap.size = A at hD hE hA ⊢
  have hS : va_S A s.heap s.heap [] := va_S.rf
  have hl := lv_entry ([.ref (ad 29)]) (n := 1) (Nat.le_of_ble_eq_true rfl)
  rw [lg_entry_eq]
  generalize (lg_sl ([.ref (ad 29)]) ++ List.replicate (1 - (lg_sl ([.ref (ad 29)])).length) Slot.unset).toArray = ls at hl ⊢
  have hl : lv_has ls 1 [(0, .ref (ad 29))] := hl
  generalize hR : (f_X6_hour σ ) = RV
  have hR := hR.symm
  unfold f_X6_hour at hR
  obtain ⟨RVv, RVs⟩ := RV
  dsimp only
  obtain ⟨H, hH⟩ : ∃ z, z = s.heap := ⟨_, rfl⟩
  obtain ⟨locs, hlocs⟩ : ∃ z : List Loc, z = [] := ⟨_, rfl⟩
  rw [← hH] at hP
  have hS : va_S A s.heap H locs := by rw [hH, hlocs]; exact hS
  show W _ _ _ _ _ _ _ _ _ _ s.heap [] _ _ _ _
  rw [← hH, ← hlocs]
  clear hlocs
  refine lv_aload_n hx hb dX6_hour_0 rfl (lv_at hl 0 rfl) ?_
  refine lv_iconst (v := 0) hx hb dX6_hour_1 (by decide) ?_
  refine va_put (D := G) (ci := 8) (v := .int 0) (ty := .int) (C := RX6) (T := TX6) (N := 29) hx hb hts iX6_hour tyX6 tyX6_ok nmX6 hown hE.1 hP hD hS 29 (zg_29 cs ad σ tl) rfl 28 (by decide) (hts (.fieldLink RX6 82 "HandoverDeckModel" "thrown" "I") (by decide +kernel)) (fun _ h9 => h9) rfl (by decide +kernel) rfl rfl (Nat.le_of_ble_eq_true rfl) dX6_hour_2 (fun H locs hP hD hS => ?_)
  rw [zb_29_28 cs ad σ tl] at hP hD
  refine lv_aload_n hx hb dX6_hour_5 rfl (lv_at hl 0 rfl) ?_
  refine va_get (D := G) (ci := 8) (v := .int (σ 29 0)) (C := RX6) (T := TX6) (N := 29) hx hb hts iX6_hour hown hE.1 hP 29 (zg_29 cs ad (zs σ 29 28 0) tl) rfl 0 (by decide) (hts (.fieldLink RX6 98 "HandoverDeckModel" "hour" "I") (by decide +kernel)) (fun _ h9 => h9) rfl dX6_hour_6 ?_
  obtain ⟨e1, e2⟩ := z2 hR.symm
  subst e1; subst e2
  exact W.iret (v := (σ 29 0)) hx hb hr (fun t ht hW => ⟨⟨_, (), rfl, rfl, by rw [ht]; exact hP, hD⟩, hS.F ht⟩) hS.2.2 dX6_hour_9
def f_X6_onDuty (σ : zS)  : Int32 × zS := (if (σ 29 24) = (-1) then ((σ 29 24), (zs σ 29 28 1)) else ((σ 29 24), (zs σ 29 28 0)))
theorem iX6_onDuty : ∀ w ∈ u_ws RX6 TX6 29, w ∈ wsX6_onDuty := by decide +kernel
set_option maxRecDepth 100000 in
theorem c_X6_onDuty (l : Launch) (G : va_G) (cs : Nat → ClassId) (ad : Nat → Nat) (tl : va_W) (σ : zS)   : zMi l yX6_onDuty wsX6_onDuty { frames := 0, cells := 0, slots := 0, locals := 0 } G cs [.ref (ad 29)] (zw cs ad σ tl) (f_X6_onDuty σ ).1 (zw cs ad (f_X6_onDuty σ ).2 tl) 0 0 := by
  intro sz
  refine Met.ofW (cc := cX6_onDuty) (maxL := 1) (ret := (some .int)) (by decide) rfl ?_
  intro p e s m args below meth c s₁ B hml hv
  obtain ⟨rfl, hsz, hP, hD0, hE⟩ := hv
  have hx := B.exec
  have hb := B.bytes
  have hr := B.returns
  have hts := atoms_spec (ws := wsX6_onDuty) B.pre
  have hown : s.vm.findClass RX6 = some m.cls := findClass_of_methodNamed B.named
  have hlocks := B.notSynchronized
  subst hsz
  have hD := hD0.self (sz := s.heap.size)
  have hA : ∀ q : Nat, s.heap.size ≤ q → (va_A (zw cs ad σ tl) s.heap.size) q := fun q h => Or.inr h
  generalize va_A (zw cs ad σ tl) s.heap.size = A at hD hE hA ⊢
  have hS : va_S A s.heap s.heap [] := va_S.rf
  have hl := lv_entry ([.ref (ad 29)]) (n := 1) (Nat.le_of_ble_eq_true rfl)
  rw [lg_entry_eq]
  generalize (lg_sl ([.ref (ad 29)]) ++ List.replicate (1 - (lg_sl ([.ref (ad 29)])).length) Slot.unset).toArray = ls at hl ⊢
  have hl : lv_has ls 1 [(0, .ref (ad 29))] := hl
  generalize hR : (f_X6_onDuty σ ) = RV
  have hR := hR.symm
  unfold f_X6_onDuty at hR
  obtain ⟨RVv, RVs⟩ := RV
  dsimp only
  obtain ⟨H, hH⟩ : ∃ z, z = s.heap := ⟨_, rfl⟩
  obtain ⟨locs, hlocs⟩ : ∃ z : List Loc, z = [] := ⟨_, rfl⟩
  rw [← hH] at hP
  have hS : va_S A s.heap H locs := by rw [hH, hlocs]; exact hS
  show W _ _ _ _ _ _ _ _ _ _ s.heap [] _ _ _ _
  rw [← hH, ← hlocs]
  clear hlocs
  refine lv_aload_n hx hb dX6_onDuty_0 rfl (lv_at hl 0 rfl) ?_
  refine lv_aload_n hx hb dX6_onDuty_1 rfl (lv_at hl 0 rfl) ?_
  refine va_get (D := G) (ci := 8) (v := .int (σ 29 24)) (C := RX6) (T := TX6) (N := 29) hx hb hts iX6_onDuty hown hE.1 hP 29 (zg_29 cs ad σ tl) rfl 24 (by decide) (hts (.fieldLink RX6 72 "HandoverDeckModel" "crew" "I") (by decide +kernel)) (fun _ h9 => h9) rfl dX6_onDuty_2 ?_
  refine lv_iconst (v := (-1)) hx hb dX6_onDuty_5 (by decide) ?_
  refine lv_icmp_ne (tgt := 13) hx hb dX6_onDuty_6 (by decide) (fun c_1 => ?_) (fun c_1 => ?_)
  · have hR := hR.trans (if_neg c_1)
    refine lv_iconst (v := 0) hx hb dX6_onDuty_13 (by decide) ?_
    refine va_put (D := G) (ci := 8) (v := .int 0) (ty := .int) (C := RX6) (T := TX6) (N := 29) hx hb hts iX6_onDuty tyX6 tyX6_ok nmX6 hown hE.1 hP hD hS 29 (zg_29 cs ad σ tl) rfl 28 (by decide) (hts (.fieldLink RX6 82 "HandoverDeckModel" "thrown" "I") (by decide +kernel)) (fun _ h9 => h9) rfl (by decide +kernel) rfl rfl (Nat.le_of_ble_eq_true rfl) dX6_onDuty_14 (fun H locs hP hD hS => ?_)
    rw [zb_29_28 cs ad σ tl] at hP hD
    refine lv_aload_n hx hb dX6_onDuty_17 rfl (lv_at hl 0 rfl) ?_
    refine va_get (D := G) (ci := 8) (v := .int (σ 29 24)) (C := RX6) (T := TX6) (N := 29) hx hb hts iX6_onDuty hown hE.1 hP 29 (zg_29 cs ad (zs σ 29 28 0) tl) rfl 24 (by decide) (hts (.fieldLink RX6 72 "HandoverDeckModel" "crew" "I") (by decide +kernel)) (fun _ h9 => h9) rfl dX6_onDuty_18 ?_
    obtain ⟨e1, e2⟩ := z2 hR.symm
    subst e1; subst e2
    exact W.iret (v := (σ 29 24)) hx hb hr (fun t ht hW => ⟨⟨_, (), rfl, rfl, by rw [ht]; exact hP, hD⟩, hS.F ht⟩) hS.2.2 dX6_onDuty_21
  · have hR := hR.trans (if_pos c_1)
    refine lv_iconst (v := 1) hx hb dX6_onDuty_9 (by decide) ?_
    refine lv_goto (tgt := 14) hx hb dX6_onDuty_10 (by decide) ?_
    refine va_put (D := G) (ci := 8) (v := .int 1) (ty := .int) (C := RX6) (T := TX6) (N := 29) hx hb hts iX6_onDuty tyX6 tyX6_ok nmX6 hown hE.1 hP hD hS 29 (zg_29 cs ad σ tl) rfl 28 (by decide) (hts (.fieldLink RX6 82 "HandoverDeckModel" "thrown" "I") (by decide +kernel)) (fun _ h9 => h9) rfl (by decide +kernel) rfl rfl (Nat.le_of_ble_eq_true rfl) dX6_onDuty_14 (fun H locs hP hD hS => ?_)
    rw [zb_29_28 cs ad σ tl] at hP hD
    refine lv_aload_n hx hb dX6_onDuty_17 rfl (lv_at hl 0 rfl) ?_
    refine va_get (D := G) (ci := 8) (v := .int (σ 29 24)) (C := RX6) (T := TX6) (N := 29) hx hb hts iX6_onDuty hown hE.1 hP 29 (zg_29 cs ad (zs σ 29 28 1) tl) rfl 24 (by decide) (hts (.fieldLink RX6 72 "HandoverDeckModel" "crew" "I") (by decide +kernel)) (fun _ h9 => h9) rfl dX6_onDuty_18 ?_
    obtain ⟨e1, e2⟩ := z2 hR.symm
    subst e1; subst e2
    exact W.iret (v := (σ 29 24)) hx hb hr (fun t ht hW => ⟨⟨_, (), rfl, rfl, by rw [ht]; exact hP, hD⟩, hS.F ht⟩) hS.2.2 dX6_onDuty_21
def f_X6_isTired (σ : zS)  : Int32 × zS := ((f_X6_tired (zs σ 29 28 0) ), (zs σ 29 28 0))
theorem iX6_isTired : ∀ w ∈ u_ws RX6 TX6 29, w ∈ wsX6_isTired := by decide +kernel
set_option maxRecDepth 100000 in
theorem c_X6_isTired (l : Launch) (G : va_G) (cs : Nat → ClassId) (ad : Nat → Nat) (tl : va_W) (σ : zS)   : zMi l yX6_isTired wsX6_isTired { frames := 1, cells := 0, slots := 0, locals := 20 } G cs [.ref (ad 29)] (zw cs ad σ tl) (f_X6_isTired σ ).1 (zw cs ad (f_X6_isTired σ ).2 tl) 0 0 := by
  intro sz
  refine Met.ofW (cc := cX6_isTired) (maxL := 1) (ret := (some .boolean)) (by decide) rfl ?_
  intro p e s m args below meth c s₁ B hml hv
  obtain ⟨rfl, hsz, hP, hD0, hE⟩ := hv
  have hx := B.exec
  have hb := B.bytes
  have hr := B.returns
  have hts := atoms_spec (ws := wsX6_isTired) B.pre
  have hown : s.vm.findClass RX6 = some m.cls := findClass_of_methodNamed B.named
  have hlocks := B.notSynchronized
  subst hsz
  have hD := hD0.self (sz := s.heap.size)
  have hA : ∀ q : Nat, s.heap.size ≤ q → (va_A (zw cs ad σ tl) s.heap.size) q := fun q h => Or.inr h
  generalize va_A (zw cs ad σ tl) s.heap.size = A at hD hE hA ⊢
  have hS : va_S A s.heap s.heap [] := va_S.rf
  have hl := lv_entry ([.ref (ad 29)]) (n := 1) (Nat.le_of_ble_eq_true rfl)
  rw [lg_entry_eq]
  generalize (lg_sl ([.ref (ad 29)]) ++ List.replicate (1 - (lg_sl ([.ref (ad 29)])).length) Slot.unset).toArray = ls at hl ⊢
  have hl : lv_has ls 1 [(0, .ref (ad 29))] := hl
  generalize hR : (f_X6_isTired σ ) = RV
  have hR := hR.symm
  unfold f_X6_isTired at hR
  obtain ⟨RVv, RVs⟩ := RV
  dsimp only
  obtain ⟨H, hH⟩ : ∃ z, z = s.heap := ⟨_, rfl⟩
  obtain ⟨locs, hlocs⟩ : ∃ z : List Loc, z = [] := ⟨_, rfl⟩
  rw [← hH] at hP
  have hS : va_S A s.heap H locs := by rw [hH, hlocs]; exact hS
  show W _ _ _ _ _ _ _ _ _ _ s.heap [] _ _ _ _
  rw [← hH, ← hlocs]
  clear hlocs
  refine lv_aload_n hx hb dX6_isTired_0 rfl (lv_at hl 0 rfl) ?_
  refine lv_iconst (v := 0) hx hb dX6_isTired_1 (by decide) ?_
  refine va_put (D := G) (ci := 8) (v := .int 0) (ty := .int) (C := RX6) (T := TX6) (N := 29) hx hb hts iX6_isTired tyX6 tyX6_ok nmX6 hown hE.1 hP hD hS 29 (zg_29 cs ad σ tl) rfl 28 (by decide) (hts (.fieldLink RX6 82 "HandoverDeckModel" "thrown" "I") (by decide +kernel)) (fun _ h9 => h9) rfl (by decide +kernel) rfl rfl (Nat.le_of_ble_eq_true rfl) dX6_isTired_2 (fun H locs hP hD hS => ?_)
  rw [zb_29_28 cs ad σ tl] at hP hD
  refine lv_aload_n hx hb dX6_isTired_5 rfl (lv_at hl 0 rfl) ?_
  refine zai (va_runV (As := []) (rest := []) ⟨hx, hb, hml, hown, hts⟩ (c_X6_tired l G cs ad tl (zs σ 29 28 0)   H.size) (cwV 0 hts gX6_isTired_X6_tired rfl rfl rfl (by decide +kernel) ⟨Nat.le_of_ble_eq_true rfl, Nat.le_of_ble_eq_true rfl⟩) (zpv hE hP hD hS hA (zg_29 cs ad (zs σ 29 28 0) tl) rfl) rfl rfl hl.1 rfl (lv_room (Nat.le_of_ble_eq_true rfl)) dX6_isTired_6 ⟨Nat.le_of_ble_eq_true rfl, Nat.le_of_ble_eq_true rfl⟩) hD hS hA (fun H locs hP hD hS => ?_)
  obtain ⟨e1, e2⟩ := z2 hR.symm
  subst e1; subst e2
  exact W.zret (v := (f_X6_tired (zs σ 29 28 0) )) hx hb hr (nar_X6_tired (zs σ 29 28 0) ) (fun t ht hW => ⟨⟨_, (), rfl, rfl, by rw [ht]; exact hP, hD⟩, hS.F ht⟩) hS.2.2 dX6_isTired_9
def f_X6_restLeft (σ : zS) (a1 : Int32) : Int32 × zS := (if (f_X6_isCrew a1) = 0 then ((-1), (zs σ 29 28 1)) else ((f_X6_restOf (zs σ 29 28 0) a1), (zs σ 29 28 0)))
theorem iX6_restLeft : ∀ w ∈ u_ws RX6 TX6 29, w ∈ wsX6_restLeft := by decide +kernel
set_option maxRecDepth 100000 in
theorem c_X6_restLeft (l : Launch) (G : va_G) (cs : Nat → ClassId) (ad : Nat → Nat) (tl : va_W) (σ : zS) (a1 : Int32)  : zMi l yX6_restLeft wsX6_restLeft { frames := 2, cells := 0, slots := 0, locals := 45 } G cs [.ref (ad 29), .int a1] (zw cs ad σ tl) (f_X6_restLeft σ a1).1 (zw cs ad (f_X6_restLeft σ a1).2 tl) 0 0 := by
  intro sz
  refine Met.ofW (cc := cX6_restLeft) (maxL := 2) (ret := (some .int)) (by decide) rfl ?_
  intro p e s m args below meth c s₁ B hml hv
  obtain ⟨rfl, hsz, hP, hD0, hE⟩ := hv
  have hx := B.exec
  have hb := B.bytes
  have hr := B.returns
  have hts := atoms_spec (ws := wsX6_restLeft) B.pre
  have hown : s.vm.findClass RX6 = some m.cls := findClass_of_methodNamed B.named
  have hlocks := B.notSynchronized
  subst hsz
  have hD := hD0.self (sz := s.heap.size)
  have hA : ∀ q : Nat, s.heap.size ≤ q → (va_A (zw cs ad σ tl) s.heap.size) q := fun q h => Or.inr h
  generalize va_A (zw cs ad σ tl) s.heap.size = A at hD hE hA ⊢
  have hS : va_S A s.heap s.heap [] := va_S.rf
  have hl := lv_entry ([.ref (ad 29), .int a1]) (n := 2) (Nat.le_of_ble_eq_true rfl)
  rw [lg_entry_eq]
  generalize (lg_sl ([.ref (ad 29), .int a1]) ++ List.replicate (2 - (lg_sl ([.ref (ad 29), .int a1])).length) Slot.unset).toArray = ls at hl ⊢
  have hl : lv_has ls 2 [(0, .ref (ad 29)), (1, .int a1)] := hl
  generalize hR : (f_X6_restLeft σ a1) = RV
  have hR := hR.symm
  unfold f_X6_restLeft at hR
  obtain ⟨RVv, RVs⟩ := RV
  dsimp only
  obtain ⟨H, hH⟩ : ∃ z, z = s.heap := ⟨_, rfl⟩
  obtain ⟨locs, hlocs⟩ : ∃ z : List Loc, z = [] := ⟨_, rfl⟩
  rw [← hH] at hP
  have hS : va_S A s.heap H locs := by rw [hH, hlocs]; exact hS
  show W _ _ _ _ _ _ _ _ _ _ s.heap [] _ _ _ _
  rw [← hH, ← hlocs]
  clear hlocs
  refine lv_aload_n hx hb dX6_restLeft_0 rfl (lv_at hl 0 rfl) ?_
  refine lv_iload_n hx hb dX6_restLeft_1 rfl (lv_at hl 1 rfl) ?_
  refine zai (va_runS (As := [.int a1]) (rest := [.ref (ad 29)]) ⟨hx, hb, hml, hown, hts⟩ (c_X6_isCrew l G cs ad tl σ a1  H.size) (va_cwS 1 hts gX6_restLeft_X6_isCrew rfl rfl rfl (by decide +kernel) ⟨Nat.le_of_ble_eq_true rfl, Nat.le_of_ble_eq_true rfl⟩) (zps hE hP hD hS hA) rfl rfl hl.1 rfl (lv_room (Nat.le_of_ble_eq_true rfl)) dX6_restLeft_2 ⟨Nat.le_of_ble_eq_true rfl, Nat.le_of_ble_eq_true rfl⟩) hD hS hA (fun H locs hP hD hS => ?_)
  refine lv_if_eq (tgt := 12) hx hb dX6_restLeft_5 (by decide) (fun c_1 => ?_) (fun c_1 => ?_)
  · have hR := hR.trans (if_pos c_1)
    refine lv_iconst (v := 1) hx hb dX6_restLeft_12 (by decide) ?_
    refine va_put (D := G) (ci := 8) (v := .int 1) (ty := .int) (C := RX6) (T := TX6) (N := 29) hx hb hts iX6_restLeft tyX6 tyX6_ok nmX6 hown hE.1 hP hD hS 29 (zg_29 cs ad σ tl) rfl 28 (by decide) (hts (.fieldLink RX6 82 "HandoverDeckModel" "thrown" "I") (by decide +kernel)) (fun _ h9 => h9) rfl (by decide +kernel) rfl rfl (Nat.le_of_ble_eq_true rfl) dX6_restLeft_13 (fun H locs hP hD hS => ?_)
    rw [zb_29_28 cs ad σ tl] at hP hD
    refine lv_aload_n hx hb dX6_restLeft_16 rfl (lv_at hl 0 rfl) ?_
    refine va_get (D := G) (ci := 8) (v := .int 1) (C := RX6) (T := TX6) (N := 29) hx hb hts iX6_restLeft hown hE.1 hP 29 (zg_29 cs ad (zs σ 29 28 1) tl) rfl 28 (by decide) (hts (.fieldLink RX6 82 "HandoverDeckModel" "thrown" "I") (by decide +kernel)) (fun _ h9 => h9) rfl dX6_restLeft_17 ?_
    refine lv_if_ne (tgt := 31) hx hb dX6_restLeft_20 (by decide) (fun _ => ?_) (fun c => absurd c (by decide))
    refine lv_iconst (v := (-1)) hx hb dX6_restLeft_31 (by decide) ?_
    obtain ⟨e1, e2⟩ := z2 hR.symm
    subst e1; subst e2
    exact W.iret (v := (-1)) hx hb hr (fun t ht hW => ⟨⟨_, (), rfl, rfl, by rw [ht]; exact hP, hD⟩, hS.F ht⟩) hS.2.2 dX6_restLeft_32
  · have hR := hR.trans (if_neg c_1)
    refine lv_iconst (v := 0) hx hb dX6_restLeft_8 (by decide) ?_
    refine lv_goto (tgt := 13) hx hb dX6_restLeft_9 (by decide) ?_
    refine va_put (D := G) (ci := 8) (v := .int 0) (ty := .int) (C := RX6) (T := TX6) (N := 29) hx hb hts iX6_restLeft tyX6 tyX6_ok nmX6 hown hE.1 hP hD hS 29 (zg_29 cs ad σ tl) rfl 28 (by decide) (hts (.fieldLink RX6 82 "HandoverDeckModel" "thrown" "I") (by decide +kernel)) (fun _ h9 => h9) rfl (by decide +kernel) rfl rfl (Nat.le_of_ble_eq_true rfl) dX6_restLeft_13 (fun H locs hP hD hS => ?_)
    rw [zb_29_28 cs ad σ tl] at hP hD
    refine lv_aload_n hx hb dX6_restLeft_16 rfl (lv_at hl 0 rfl) ?_
    refine va_get (D := G) (ci := 8) (v := .int 0) (C := RX6) (T := TX6) (N := 29) hx hb hts iX6_restLeft hown hE.1 hP 29 (zg_29 cs ad (zs σ 29 28 0) tl) rfl 28 (by decide) (hts (.fieldLink RX6 82 "HandoverDeckModel" "thrown" "I") (by decide +kernel)) (fun _ h9 => h9) rfl dX6_restLeft_17 ?_
    refine lv_if_ne (tgt := 31) hx hb dX6_restLeft_20 (by decide) (fun c => absurd c (by decide)) (fun _ => ?_)
    refine lv_aload_n hx hb dX6_restLeft_23 rfl (lv_at hl 0 rfl) ?_
    refine lv_iload_n hx hb dX6_restLeft_24 rfl (lv_at hl 1 rfl) ?_
    refine zai (va_runV (As := [.int a1]) (rest := []) ⟨hx, hb, hml, hown, hts⟩ (c_X6_restOf l G cs ad tl (zs σ 29 28 0) a1 (vin_X6_isCrew c_1) H.size) (cwV 1 hts gX6_restLeft_X6_restOf rfl rfl rfl (by decide +kernel) ⟨Nat.le_of_ble_eq_true rfl, Nat.le_of_ble_eq_true rfl⟩) (zpv hE hP hD hS hA (zg_29 cs ad (zs σ 29 28 0) tl) rfl) rfl rfl hl.1 rfl (lv_room (Nat.le_of_ble_eq_true rfl)) dX6_restLeft_25 ⟨Nat.le_of_ble_eq_true rfl, Nat.le_of_ble_eq_true rfl⟩) hD hS hA (fun H locs hP hD hS => ?_)
    refine lv_goto (tgt := 32) hx hb dX6_restLeft_28 (by decide) ?_
    obtain ⟨e1, e2⟩ := z2 hR.symm
    subst e1; subst e2
    exact W.iret (v := (f_X6_restOf (zs σ 29 28 0) a1)) hx hb hr (fun t ht hW => ⟨⟨_, (), rfl, rfl, by rw [ht]; exact hP, hD⟩, hS.F ht⟩) hS.2.2 dX6_restLeft_32
def f_X6_openLines (σ : zS)  : Int32 × zS := ((f_X6_open (zs σ 29 28 0) ), (zs σ 29 28 0))
theorem iX6_openLines : ∀ w ∈ u_ws RX6 TX6 29, w ∈ wsX6_openLines := by decide +kernel
set_option maxRecDepth 100000 in
theorem c_X6_openLines (l : Launch) (G : va_G) (cs : Nat → ClassId) (ad : Nat → Nat) (tl : va_W) (σ : zS)  (hI : zI σ) : zMi l yX6_openLines wsX6_openLines { frames := 1, cells := 0, slots := 0, locals := 22 } G cs [.ref (ad 29)] (zw cs ad σ tl) (f_X6_openLines σ ).1 (zw cs ad (f_X6_openLines σ ).2 tl) 0 0 := by
  intro sz
  refine Met.ofW (cc := cX6_openLines) (maxL := 1) (ret := (some .int)) (by decide) rfl ?_
  intro p e s m args below meth c s₁ B hml hv
  obtain ⟨rfl, hsz, hP, hD0, hE⟩ := hv
  have hx := B.exec
  have hb := B.bytes
  have hr := B.returns
  have hts := atoms_spec (ws := wsX6_openLines) B.pre
  have hown : s.vm.findClass RX6 = some m.cls := findClass_of_methodNamed B.named
  have hlocks := B.notSynchronized
  subst hsz
  have hD := hD0.self (sz := s.heap.size)
  have hA : ∀ q : Nat, s.heap.size ≤ q → (va_A (zw cs ad σ tl) s.heap.size) q := fun q h => Or.inr h
  generalize va_A (zw cs ad σ tl) s.heap.size = A at hD hE hA ⊢
  have hS : va_S A s.heap s.heap [] := va_S.rf
  have hl := lv_entry ([.ref (ad 29)]) (n := 1) (Nat.le_of_ble_eq_true rfl)
  rw [lg_entry_eq]
  generalize (lg_sl ([.ref (ad 29)]) ++ List.replicate (1 - (lg_sl ([.ref (ad 29)])).length) Slot.unset).toArray = ls at hl ⊢
  have hl : lv_has ls 1 [(0, .ref (ad 29))] := hl
  generalize hR : (f_X6_openLines σ ) = RV
  have hR := hR.symm
  unfold f_X6_openLines at hR
  obtain ⟨RVv, RVs⟩ := RV
  dsimp only
  obtain ⟨H, hH⟩ : ∃ z, z = s.heap := ⟨_, rfl⟩
  obtain ⟨locs, hlocs⟩ : ∃ z : List Loc, z = [] := ⟨_, rfl⟩
  rw [← hH] at hP
  have hS : va_S A s.heap H locs := by rw [hH, hlocs]; exact hS
  show W _ _ _ _ _ _ _ _ _ _ s.heap [] _ _ _ _
  rw [← hH, ← hlocs]
  clear hlocs
  refine lv_aload_n hx hb dX6_openLines_0 rfl (lv_at hl 0 rfl) ?_
  refine lv_iconst (v := 0) hx hb dX6_openLines_1 (by decide) ?_
  refine va_put (D := G) (ci := 8) (v := .int 0) (ty := .int) (C := RX6) (T := TX6) (N := 29) hx hb hts iX6_openLines tyX6 tyX6_ok nmX6 hown hE.1 hP hD hS 29 (zg_29 cs ad σ tl) rfl 28 (by decide) (hts (.fieldLink RX6 82 "HandoverDeckModel" "thrown" "I") (by decide +kernel)) (fun _ h9 => h9) rfl (by decide +kernel) rfl rfl (Nat.le_of_ble_eq_true rfl) dX6_openLines_2 (fun H locs hP hD hS => ?_)
  rw [zb_29_28 cs ad σ tl] at hP hD
  refine lv_aload_n hx hb dX6_openLines_5 rfl (lv_at hl 0 rfl) ?_
  refine zai (va_runV (As := []) (rest := []) ⟨hx, hb, hml, hown, hts⟩ (c_X6_open l G cs ad tl (zs σ 29 28 0)  hI.1 H.size) (cwV 0 hts gX6_openLines_X6_open rfl rfl rfl (by decide +kernel) ⟨Nat.le_of_ble_eq_true rfl, Nat.le_of_ble_eq_true rfl⟩) (zpv hE hP hD hS hA (zg_29 cs ad (zs σ 29 28 0) tl) rfl) rfl rfl hl.1 rfl (lv_room (Nat.le_of_ble_eq_true rfl)) dX6_openLines_6 ⟨Nat.le_of_ble_eq_true rfl, Nat.le_of_ble_eq_true rfl⟩) hD hS hA (fun H locs hP hD hS => ?_)
  obtain ⟨e1, e2⟩ := z2 hR.symm
  subst e1; subst e2
  exact W.iret (v := (f_X6_open (zs σ 29 28 0) )) hx hb hr (fun t ht hW => ⟨⟨_, (), rfl, rfl, by rw [ht]; exact hP, hD⟩, hS.F ht⟩) hS.2.2 dX6_openLines_9
def f_X6_openByLog (σ : zS)  : Int32 × zS := ((f_X6_openLines σ ).1, (f_X6_openLines σ ).2)
set_option maxRecDepth 100000 in
theorem c_X6_openByLog (l : Launch) (G : va_G) (cs : Nat → ClassId) (ad : Nat → Nat) (tl : va_W) (σ : zS)  (hI : zI σ) : zMi l yX6_openByLog wsX6_openByLog { frames := 2, cells := 0, slots := 0, locals := 42 } G cs [.ref (ad 29)] (zw cs ad σ tl) (f_X6_openByLog σ ).1 (zw cs ad (f_X6_openByLog σ ).2 tl) 0 0 := by
  intro sz
  refine Met.ofW (cc := cX6_openByLog) (maxL := 1) (ret := (some .int)) (by decide) rfl ?_
  intro p e s m args below meth c s₁ B hml hv
  obtain ⟨rfl, hsz, hP, hD0, hE⟩ := hv
  have hx := B.exec
  have hb := B.bytes
  have hr := B.returns
  have hts := atoms_spec (ws := wsX6_openByLog) B.pre
  have hown : s.vm.findClass RX6 = some m.cls := findClass_of_methodNamed B.named
  have hlocks := B.notSynchronized
  subst hsz
  have hD := hD0.self (sz := s.heap.size)
  have hA : ∀ q : Nat, s.heap.size ≤ q → (va_A (zw cs ad σ tl) s.heap.size) q := fun q h => Or.inr h
  generalize va_A (zw cs ad σ tl) s.heap.size = A at hD hE hA ⊢
  have hS : va_S A s.heap s.heap [] := va_S.rf
  have hl := lv_entry ([.ref (ad 29)]) (n := 1) (Nat.le_of_ble_eq_true rfl)
  rw [lg_entry_eq]
  generalize (lg_sl ([.ref (ad 29)]) ++ List.replicate (1 - (lg_sl ([.ref (ad 29)])).length) Slot.unset).toArray = ls at hl ⊢
  have hl : lv_has ls 1 [(0, .ref (ad 29))] := hl
  generalize hR : (f_X6_openByLog σ ) = RV
  have hR := hR.symm
  unfold f_X6_openByLog at hR
  obtain ⟨RVv, RVs⟩ := RV
  dsimp only
  obtain ⟨H, hH⟩ : ∃ z, z = s.heap := ⟨_, rfl⟩
  obtain ⟨locs, hlocs⟩ : ∃ z : List Loc, z = [] := ⟨_, rfl⟩
  rw [← hH] at hP
  have hS : va_S A s.heap H locs := by rw [hH, hlocs]; exact hS
  show W _ _ _ _ _ _ _ _ _ _ s.heap [] _ _ _ _
  rw [← hH, ← hlocs]
  clear hlocs
  refine lv_aload_n hx hb dX6_openByLog_0 rfl (lv_at hl 0 rfl) ?_
  refine zai (va_runV (As := []) (rest := []) ⟨hx, hb, hml, hown, hts⟩ (c_X6_openLines l G cs ad tl σ  hI H.size) (cwV 0 hts gX6_openByLog_X6_openLines rfl rfl rfl (by decide +kernel) ⟨Nat.le_of_ble_eq_true rfl, Nat.le_of_ble_eq_true rfl⟩) (zpv hE hP hD hS hA (zg_29 cs ad σ tl) rfl) rfl rfl hl.1 rfl (lv_room (Nat.le_of_ble_eq_true rfl)) dX6_openByLog_1 ⟨Nat.le_of_ble_eq_true rfl, Nat.le_of_ble_eq_true rfl⟩) hD hS hA (fun H locs hP hD hS => ?_)
  obtain ⟨e1, e2⟩ := z2 hR.symm
  subst e1; subst e2
  exact W.iret (v := (f_X6_openLines σ ).1) hx hb hr (fun t ht hW => ⟨⟨_, (), rfl, rfl, by rw [ht]; exact hP, hD⟩, hS.F ht⟩) hS.2.2 dX6_openByLog_4
def L_X6_openAt_4 (σ : zS) (a1 : Int32) : Nat → Int32 → Int32 → Int32 × zS
  | 0, _, _ => (0, σ)
  | n + 1, x2, x3 => (if (σ 29 7) ≤ x3 then ((-1), (zs σ 29 28 1)) else (if (σ 32 x3.toNatClampNeg) = 0 then (L_X6_openAt_4 σ a1 n (x2 + 0) (x3 + 1)) else (if x2 = a1 then (x3, (zs σ 29 28 0)) else (L_X6_openAt_4 σ a1 n (x2 + 1) (x3 + 1)))))
def f_X6_openAt (σ : zS) (a1 : Int32) : Int32 × zS := (L_X6_openAt_4 σ a1 61 0 0)
theorem iX6_openAt : ∀ w ∈ u_ws RX6 TX6 29, w ∈ wsX6_openAt := by decide +kernel
set_option maxRecDepth 100000 in
theorem c_X6_openAt (l : Launch) (G : va_G) (cs : Nat → ClassId) (ad : Nat → Nat) (tl : va_W) (σ : zS) (a1 : Int32) (hI : zI σ) : zMi l yX6_openAt wsX6_openAt { frames := 0, cells := 0, slots := 0, locals := 0 } G cs [.ref (ad 29), .int a1] (zw cs ad σ tl) (f_X6_openAt σ a1).1 (zw cs ad (f_X6_openAt σ a1).2 tl) 0 0 := by
  intro sz
  refine Met.ofW (cc := cX6_openAt) (maxL := 4) (ret := (some .int)) (by decide) rfl ?_
  intro p e s m args below meth c s₁ B hml hv
  obtain ⟨rfl, hsz, hP, hD0, hE⟩ := hv
  have hx := B.exec
  have hb := B.bytes
  have hr := B.returns
  have hts := atoms_spec (ws := wsX6_openAt) B.pre
  have hown : s.vm.findClass RX6 = some m.cls := findClass_of_methodNamed B.named
  have hlocks := B.notSynchronized
  subst hsz
  have hD := hD0.self (sz := s.heap.size)
  have hA : ∀ q : Nat, s.heap.size ≤ q → (va_A (zw cs ad σ tl) s.heap.size) q := fun q h => Or.inr h
  generalize va_A (zw cs ad σ tl) s.heap.size = A at hD hE hA ⊢
  have hS : va_S A s.heap s.heap [] := va_S.rf
  have hl := lv_entry ([.ref (ad 29), .int a1]) (n := 4) (Nat.le_of_ble_eq_true rfl)
  rw [lg_entry_eq]
  generalize (lg_sl ([.ref (ad 29), .int a1]) ++ List.replicate (4 - (lg_sl ([.ref (ad 29), .int a1])).length) Slot.unset).toArray = ls at hl ⊢
  have hl : lv_has ls 4 [(0, .ref (ad 29)), (1, .int a1)] := hl
  generalize hR : (f_X6_openAt σ a1) = RV
  have hR := hR.symm
  unfold f_X6_openAt at hR
  obtain ⟨RVv, RVs⟩ := RV
  dsimp only
  obtain ⟨H, hH⟩ : ∃ z, z = s.heap := ⟨_, rfl⟩
  obtain ⟨locs, hlocs⟩ : ∃ z : List Loc, z = [] := ⟨_, rfl⟩
  rw [← hH] at hP
  have hS : va_S A s.heap H locs := by rw [hH, hlocs]; exact hS
  show W _ _ _ _ _ _ _ _ _ _ s.heap [] _ _ _ _
  rw [← hH, ← hlocs]
  clear hlocs
  obtain ⟨Ln, hLn60, hLn⟩ := hI.1
  refine lv_iconst (v := 0) hx hb dX6_openAt_0 (by decide) ?_
  refine lv_istore_n (lv' := [(2, .int 0), (0, .ref (ad 29)), (1, .int a1)]) hx hb dX6_openAt_1 rfl hl (by decide) rfl (fun ls hl => ?_)
  refine lv_iconst (v := 0) hx hb dX6_openAt_2 (by decide) ?_
  refine lv_istore_n (lv' := [(3, .int 0), (2, .int 0), (0, .ref (ad 29)), (1, .int a1)]) hx hb dX6_openAt_3 rfl hl (by decide) rfl (fun ls hl => ?_)
  have loop_4 : ∀ (n k : Nat) (x2 : Int32) (x3 : Int32), x3 = nI (k) → k ≤ Ln → k + n = 61 → (RVv, RVs) = L_X6_openAt_4 σ a1 n x2 x3 → ∀ (H : Heap) (locs : List Loc), va_P G vwCl (zw cs ad σ tl) H → va_D A (zw cs ad σ tl) → va_S A s.heap H locs → ∀ ls : Array Slot, lv_has ls 4 [(0, .ref (ad 29)), (1, .int a1), (2, .int x2), (3, .int x3)] → W p l e (headSpec wsX6_openAt { frames := 0, cells := 0, slots := 0, locals := 0 }).room s m (List.toArray [.ref (ad 29), .int a1]) below meth c H locs 0 0 (MQ below (va_Qi (fun (r : Int32) (_ : Unit) => r = RVv) (fun _ t => zPo G A (zw cs ad RVs tl) t) A) (List.toArray [.ref (ad 29), .int a1]) s 0 0 A) (F0 m 4 ls []) := by
    intro n
    induction n with
    | zero => intro k  x2 x3 ex hk hn; omega
    | succ n ih =>
      intro k  x2 x3 ex hk hn hR H locs hP hD hS ls hl
      rw [L_X6_openAt_4] at hR
      refine lv_iload_n hx hb dX6_openAt_4 rfl (lv_at hl 3 rfl) ?_
      refine lv_aload_n hx hb dX6_openAt_5 rfl (lv_at hl 0 rfl) ?_
      refine va_get (D := G) (ci := 8) (v := .int (σ 29 7)) (C := RX6) (T := TX6) (N := 29) hx hb hts iX6_openAt hown hE.1 hP 29 (zg_29 cs ad σ tl) rfl 7 (by decide) (hts (.fieldLink RX6 95 "HandoverDeckModel" "lines" "I") (by decide +kernel)) (fun _ h9 => h9) rfl dX6_openAt_6 ?_
      refine lv_icmp_ge (tgt := 56) hx hb dX6_openAt_9 (by decide) (fun c_1 => ?_) (fun c_1 => ?_)
      · have hR := hR.trans (if_pos c_1)
        refine lv_aload_n hx hb dX6_openAt_56 rfl (lv_at hl 0 rfl) ?_
        refine lv_iconst (v := 1) hx hb dX6_openAt_57 (by decide) ?_
        refine va_put (D := G) (ci := 8) (v := .int 1) (ty := .int) (C := RX6) (T := TX6) (N := 29) hx hb hts iX6_openAt tyX6 tyX6_ok nmX6 hown hE.1 hP hD hS 29 (zg_29 cs ad σ tl) rfl 28 (by decide) (hts (.fieldLink RX6 82 "HandoverDeckModel" "thrown" "I") (by decide +kernel)) (fun _ h9 => h9) rfl (by decide +kernel) rfl rfl (Nat.le_of_ble_eq_true rfl) dX6_openAt_58 (fun H locs hP hD hS => ?_)
        rw [zb_29_28 cs ad σ tl] at hP hD
        refine lv_iconst (v := (-1)) hx hb dX6_openAt_61 (by decide) ?_
        obtain ⟨e1, e2⟩ := z2 hR.symm
        subst e1; subst e2
        exact W.iret (v := (-1)) hx hb hr (fun t ht hW => ⟨⟨_, (), rfl, rfl, by rw [ht]; exact hP, hD⟩, hS.F ht⟩) hS.2.2 dX6_openAt_62
      · have hR := hR.trans (if_neg c_1)
        have hkB : k < Ln := zlt ex (by omega) ⟨hLn, by omega⟩ c_1
        refine lv_aload_n hx hb dX6_openAt_12 rfl (lv_at hl 0 rfl) ?_
        refine va_get (D := G) (ci := 8) (v := .ref (ad 32)) (C := RX6) (T := TX6) (N := 29) hx hb hts iX6_openAt hown hE.1 hP 29 (zg_29 cs ad σ tl) rfl 3 (by decide) (hts (.fieldLink RX6 17 "HandoverDeckModel" "isOpen" "[Z") (by decide +kernel)) (fun _ h9 => h9) rfl dX6_openAt_13 ?_
        refine lv_iload_n hx hb dX6_openAt_16 rfl (lv_at hl 3 rfl) ?_
        refine z_zald (v := (σ 32 x3.toNatClampNeg)) hx hb hE hP (zg_32 cs ad σ tl) (by rw [ex]; exact vp_in_nI (by omega) (by decide)) rfl dX6_openAt_17 ?_
        refine lv_if_eq (tgt := 33) hx hb dX6_openAt_18 (by decide) (fun c_2 => ?_) (fun c_2 => ?_)
        · have hR := hR.trans (if_pos c_2)
          refine lv_iload_n hx hb dX6_openAt_33 rfl (lv_at hl 2 rfl) ?_
          refine lv_aload_n hx hb dX6_openAt_34 rfl (lv_at hl 0 rfl) ?_
          refine va_get (D := G) (ci := 8) (v := .ref (ad 32)) (C := RX6) (T := TX6) (N := 29) hx hb hts iX6_openAt hown hE.1 hP 29 (zg_29 cs ad σ tl) rfl 3 (by decide) (hts (.fieldLink RX6 17 "HandoverDeckModel" "isOpen" "[Z") (by decide +kernel)) (fun _ h9 => h9) rfl dX6_openAt_35 ?_
          refine lv_iload_n hx hb dX6_openAt_38 rfl (lv_at hl 3 rfl) ?_
          refine z_zald (v := (σ 32 x3.toNatClampNeg)) hx hb hE hP (zg_32 cs ad σ tl) (by rw [ex]; exact vp_in_nI (by omega) (by decide)) rfl dX6_openAt_39 ?_
          refine lv_if_eq (tgt := 47) hx hb dX6_openAt_40 (by decide) (fun _ => ?_) (fun c => absurd c_2 c)
          refine lv_iconst (v := 0) hx hb dX6_openAt_47 (by decide) ?_
          refine lv_iadd hx hb dX6_openAt_48 ?_
          refine lv_istore_n (lv' := [(2, .int (x2 + 0)), (0, .ref (ad 29)), (1, .int a1), (3, .int x3)]) hx hb dX6_openAt_49 rfl hl (by decide) rfl (fun ls hl => ?_)
          refine lv_iinc (v := (x3 + 1)) (lv' := [(3, .int (x3 + 1)), (2, .int (x2 + 0)), (0, .ref (ad 29)), (1, .int a1)]) hx hb dX6_openAt_50 hl (k := 3) rfl rfl (by decide) rfl (fun ls hl => ?_)
          refine lv_goto (tgt := 4) hx hb dX6_openAt_53 (by decide) ?_
          exact ih (k + 1)  (x2 + 0) (x3 + 1) (by rw [ex]; exact nI_1 _) (by omega) (by omega)  hR H locs hP hD hS ls (lv_sub hl [2, 3, 1, 0] rfl)
        · have hR := hR.trans (if_neg c_2)
          refine lv_iload_n hx hb dX6_openAt_21 rfl (lv_at hl 2 rfl) ?_
          refine lv_iload_n hx hb dX6_openAt_22 rfl (lv_at hl 1 rfl) ?_
          refine lv_icmp_ne (tgt := 33) hx hb dX6_openAt_23 (by decide) (fun c_3 => ?_) (fun c_3 => ?_)
          · have hR := hR.trans (if_neg c_3)
            refine lv_iload_n hx hb dX6_openAt_33 rfl (lv_at hl 2 rfl) ?_
            refine lv_aload_n hx hb dX6_openAt_34 rfl (lv_at hl 0 rfl) ?_
            refine va_get (D := G) (ci := 8) (v := .ref (ad 32)) (C := RX6) (T := TX6) (N := 29) hx hb hts iX6_openAt hown hE.1 hP 29 (zg_29 cs ad σ tl) rfl 3 (by decide) (hts (.fieldLink RX6 17 "HandoverDeckModel" "isOpen" "[Z") (by decide +kernel)) (fun _ h9 => h9) rfl dX6_openAt_35 ?_
            refine lv_iload_n hx hb dX6_openAt_38 rfl (lv_at hl 3 rfl) ?_
            refine z_zald (v := (σ 32 x3.toNatClampNeg)) hx hb hE hP (zg_32 cs ad σ tl) (by rw [ex]; exact vp_in_nI (by omega) (by decide)) rfl dX6_openAt_39 ?_
            refine lv_if_eq (tgt := 47) hx hb dX6_openAt_40 (by decide) (fun c => absurd c c_2) (fun _ => ?_)
            refine lv_iconst (v := 1) hx hb dX6_openAt_43 (by decide) ?_
            refine lv_goto (tgt := 48) hx hb dX6_openAt_44 (by decide) ?_
            refine lv_iadd hx hb dX6_openAt_48 ?_
            refine lv_istore_n (lv' := [(2, .int (x2 + 1)), (0, .ref (ad 29)), (1, .int a1), (3, .int x3)]) hx hb dX6_openAt_49 rfl hl (by decide) rfl (fun ls hl => ?_)
            refine lv_iinc (v := (x3 + 1)) (lv' := [(3, .int (x3 + 1)), (2, .int (x2 + 1)), (0, .ref (ad 29)), (1, .int a1)]) hx hb dX6_openAt_50 hl (k := 3) rfl rfl (by decide) rfl (fun ls hl => ?_)
            refine lv_goto (tgt := 4) hx hb dX6_openAt_53 (by decide) ?_
            exact ih (k + 1)  (x2 + 1) (x3 + 1) (by rw [ex]; exact nI_1 _) (by omega) (by omega)  hR H locs hP hD hS ls (lv_sub hl [2, 3, 1, 0] rfl)
          · have hR := hR.trans (if_pos c_3)
            refine lv_aload_n hx hb dX6_openAt_26 rfl (lv_at hl 0 rfl) ?_
            refine lv_iconst (v := 0) hx hb dX6_openAt_27 (by decide) ?_
            refine va_put (D := G) (ci := 8) (v := .int 0) (ty := .int) (C := RX6) (T := TX6) (N := 29) hx hb hts iX6_openAt tyX6 tyX6_ok nmX6 hown hE.1 hP hD hS 29 (zg_29 cs ad σ tl) rfl 28 (by decide) (hts (.fieldLink RX6 82 "HandoverDeckModel" "thrown" "I") (by decide +kernel)) (fun _ h9 => h9) rfl (by decide +kernel) rfl rfl (Nat.le_of_ble_eq_true rfl) dX6_openAt_28 (fun H locs hP hD hS => ?_)
            rw [zb_29_28 cs ad σ tl] at hP hD
            refine lv_iload_n hx hb dX6_openAt_31 rfl (lv_at hl 3 rfl) ?_
            obtain ⟨e1, e2⟩ := z2 hR.symm
            subst e1; subst e2
            exact W.iret (v := x3) hx hb hr (fun t ht hW => ⟨⟨_, (), rfl, rfl, by rw [ht]; exact hP, hD⟩, hS.F ht⟩) hS.2.2 dX6_openAt_32
  exact loop_4 61 0  0 0 nI_0.symm (by omega) (by omega)  hR H locs hP hD hS ls (lv_sub hl [2, 3, 1, 0] rfl)
def f_X6_kindOf (σ : zS) (a1 : Int32) : Int32 × zS := (if (f_X6_isLine σ a1) = 0 then (32, (zs σ 29 28 1)) else ((σ 31 a1.toNatClampNeg), (zs σ 29 28 0)))
theorem iX6_kindOf : ∀ w ∈ u_ws RX6 TX6 29, w ∈ wsX6_kindOf := by decide +kernel
set_option maxRecDepth 100000 in
theorem c_X6_kindOf (l : Launch) (G : va_G) (cs : Nat → ClassId) (ad : Nat → Nat) (tl : va_W) (σ : zS) (a1 : Int32) (hI : zI σ) : zMi l yX6_kindOf wsX6_kindOf { frames := 2, cells := 0, slots := 0, locals := 46 } G cs [.ref (ad 29), .int a1] (zw cs ad σ tl) (f_X6_kindOf σ a1).1 (zw cs ad (f_X6_kindOf σ a1).2 tl) 0 0 := by
  intro sz
  refine Met.ofW (cc := cX6_kindOf) (maxL := 2) (ret := (some .char)) (by decide) rfl ?_
  intro p e s m args below meth c s₁ B hml hv
  obtain ⟨rfl, hsz, hP, hD0, hE⟩ := hv
  have hx := B.exec
  have hb := B.bytes
  have hr := B.returns
  have hts := atoms_spec (ws := wsX6_kindOf) B.pre
  have hown : s.vm.findClass RX6 = some m.cls := findClass_of_methodNamed B.named
  have hlocks := B.notSynchronized
  subst hsz
  have hD := hD0.self (sz := s.heap.size)
  have hA : ∀ q : Nat, s.heap.size ≤ q → (va_A (zw cs ad σ tl) s.heap.size) q := fun q h => Or.inr h
  generalize va_A (zw cs ad σ tl) s.heap.size = A at hD hE hA ⊢
  have hS : va_S A s.heap s.heap [] := va_S.rf
  have hl := lv_entry ([.ref (ad 29), .int a1]) (n := 2) (Nat.le_of_ble_eq_true rfl)
  rw [lg_entry_eq]
  generalize (lg_sl ([.ref (ad 29), .int a1]) ++ List.replicate (2 - (lg_sl ([.ref (ad 29), .int a1])).length) Slot.unset).toArray = ls at hl ⊢
  have hl : lv_has ls 2 [(0, .ref (ad 29)), (1, .int a1)] := hl
  generalize hR : (f_X6_kindOf σ a1) = RV
  have hR := hR.symm
  unfold f_X6_kindOf at hR
  obtain ⟨RVv, RVs⟩ := RV
  dsimp only
  obtain ⟨H, hH⟩ : ∃ z, z = s.heap := ⟨_, rfl⟩
  obtain ⟨locs, hlocs⟩ : ∃ z : List Loc, z = [] := ⟨_, rfl⟩
  rw [← hH] at hP
  have hS : va_S A s.heap H locs := by rw [hH, hlocs]; exact hS
  show W _ _ _ _ _ _ _ _ _ _ s.heap [] _ _ _ _
  rw [← hH, ← hlocs]
  clear hlocs
  refine lv_aload_n hx hb dX6_kindOf_0 rfl (lv_at hl 0 rfl) ?_
  refine lv_aload_n hx hb dX6_kindOf_1 rfl (lv_at hl 0 rfl) ?_
  refine lv_iload_n hx hb dX6_kindOf_2 rfl (lv_at hl 1 rfl) ?_
  refine zai (va_runV (As := [.int a1]) (rest := [.ref (ad 29)]) ⟨hx, hb, hml, hown, hts⟩ (c_X6_isLine l G cs ad tl σ a1  H.size) (cwV 1 hts gX6_kindOf_X6_isLine rfl rfl rfl (by decide +kernel) ⟨Nat.le_of_ble_eq_true rfl, Nat.le_of_ble_eq_true rfl⟩) (zpv hE hP hD hS hA (zg_29 cs ad σ tl) rfl) rfl rfl hl.1 rfl (lv_room (Nat.le_of_ble_eq_true rfl)) dX6_kindOf_3 ⟨Nat.le_of_ble_eq_true rfl, Nat.le_of_ble_eq_true rfl⟩) hD hS hA (fun H locs hP hD hS => ?_)
  refine lv_if_eq (tgt := 13) hx hb dX6_kindOf_6 (by decide) (fun c_1 => ?_) (fun c_1 => ?_)
  · have hR := hR.trans (if_pos c_1)
    refine lv_iconst (v := 1) hx hb dX6_kindOf_13 (by decide) ?_
    refine va_put (D := G) (ci := 8) (v := .int 1) (ty := .int) (C := RX6) (T := TX6) (N := 29) hx hb hts iX6_kindOf tyX6 tyX6_ok nmX6 hown hE.1 hP hD hS 29 (zg_29 cs ad σ tl) rfl 28 (by decide) (hts (.fieldLink RX6 82 "HandoverDeckModel" "thrown" "I") (by decide +kernel)) (fun _ h9 => h9) rfl (by decide +kernel) rfl rfl (Nat.le_of_ble_eq_true rfl) dX6_kindOf_14 (fun H locs hP hD hS => ?_)
    rw [zb_29_28 cs ad σ tl] at hP hD
    refine lv_aload_n hx hb dX6_kindOf_17 rfl (lv_at hl 0 rfl) ?_
    refine va_get (D := G) (ci := 8) (v := .int 1) (C := RX6) (T := TX6) (N := 29) hx hb hts iX6_kindOf hown hE.1 hP 29 (zg_29 cs ad (zs σ 29 28 1) tl) rfl 28 (by decide) (hts (.fieldLink RX6 82 "HandoverDeckModel" "thrown" "I") (by decide +kernel)) (fun _ h9 => h9) rfl dX6_kindOf_18 ?_
    refine lv_if_ne (tgt := 33) hx hb dX6_kindOf_21 (by decide) (fun _ => ?_) (fun c => absurd c (by decide))
    refine lv_bipush (v := 32) hx hb dX6_kindOf_33 (by decide) ?_
    obtain ⟨e1, e2⟩ := z2 hR.symm
    subst e1; subst e2
    exact W.zret (v := 32) hx hb hr rfl (fun t ht hW => ⟨⟨_, (), rfl, rfl, by rw [ht]; exact hP, hD⟩, hS.F ht⟩) hS.2.2 dX6_kindOf_35
  · have hR := hR.trans (if_neg c_1)
    refine lv_iconst (v := 0) hx hb dX6_kindOf_9 (by decide) ?_
    refine lv_goto (tgt := 14) hx hb dX6_kindOf_10 (by decide) ?_
    refine va_put (D := G) (ci := 8) (v := .int 0) (ty := .int) (C := RX6) (T := TX6) (N := 29) hx hb hts iX6_kindOf tyX6 tyX6_ok nmX6 hown hE.1 hP hD hS 29 (zg_29 cs ad σ tl) rfl 28 (by decide) (hts (.fieldLink RX6 82 "HandoverDeckModel" "thrown" "I") (by decide +kernel)) (fun _ h9 => h9) rfl (by decide +kernel) rfl rfl (Nat.le_of_ble_eq_true rfl) dX6_kindOf_14 (fun H locs hP hD hS => ?_)
    rw [zb_29_28 cs ad σ tl] at hP hD
    refine lv_aload_n hx hb dX6_kindOf_17 rfl (lv_at hl 0 rfl) ?_
    refine va_get (D := G) (ci := 8) (v := .int 0) (C := RX6) (T := TX6) (N := 29) hx hb hts iX6_kindOf hown hE.1 hP 29 (zg_29 cs ad (zs σ 29 28 0) tl) rfl 28 (by decide) (hts (.fieldLink RX6 82 "HandoverDeckModel" "thrown" "I") (by decide +kernel)) (fun _ h9 => h9) rfl dX6_kindOf_18 ?_
    refine lv_if_ne (tgt := 33) hx hb dX6_kindOf_21 (by decide) (fun c => absurd c (by decide)) (fun _ => ?_)
    refine lv_aload_n hx hb dX6_kindOf_24 rfl (lv_at hl 0 rfl) ?_
    refine va_get (D := G) (ci := 8) (v := .ref (ad 31)) (C := RX6) (T := TX6) (N := 29) hx hb hts iX6_kindOf hown hE.1 hP 29 (zg_29 cs ad (zs σ 29 28 0) tl) rfl 2 (by decide) (hts (.fieldLink RX6 13 "HandoverDeckModel" "kinds" "[C") (by decide +kernel)) (fun _ h9 => h9) rfl dX6_kindOf_25 ?_
    refine lv_iload_n hx hb dX6_kindOf_28 rfl (lv_at hl 1 rfl) ?_
    refine z_cald (v := (σ 31 a1.toNatClampNeg)) hx hb hE hP (zg_31 cs ad (zs σ 29 28 0) tl) (vin_X6_isLine hI c_1) (by rw [zs_ne (k := 29) (k' := 31) (by decide)]) dX6_kindOf_29 ?_
    refine lv_goto (tgt := 35) hx hb dX6_kindOf_30 (by decide) ?_
    obtain ⟨e1, e2⟩ := z2 hR.symm
    subst e1; subst e2
    exact W.zret (v := (σ 31 a1.toNatClampNeg)) hx hb hr (zI_ch hI _) (fun t ht hW => ⟨⟨_, (), rfl, rfl, by rw [ht]; exact hP, hD⟩, hS.F ht⟩) hS.2.2 dX6_kindOf_35
def f_X6_passed (σ : zS) (a1 : Int32) : Int32 × zS := (if (f_X6_isLine σ a1) = 0 then ((-1), (zs σ 29 28 1)) else ((σ 34 a1.toNatClampNeg), (zs σ 29 28 0)))
theorem iX6_passed : ∀ w ∈ u_ws RX6 TX6 29, w ∈ wsX6_passed := by decide +kernel
set_option maxRecDepth 100000 in
theorem c_X6_passed (l : Launch) (G : va_G) (cs : Nat → ClassId) (ad : Nat → Nat) (tl : va_W) (σ : zS) (a1 : Int32) (hI : zI σ) : zMi l yX6_passed wsX6_passed { frames := 2, cells := 0, slots := 0, locals := 46 } G cs [.ref (ad 29), .int a1] (zw cs ad σ tl) (f_X6_passed σ a1).1 (zw cs ad (f_X6_passed σ a1).2 tl) 0 0 := by
  intro sz
  refine Met.ofW (cc := cX6_passed) (maxL := 2) (ret := (some .int)) (by decide) rfl ?_
  intro p e s m args below meth c s₁ B hml hv
  obtain ⟨rfl, hsz, hP, hD0, hE⟩ := hv
  have hx := B.exec
  have hb := B.bytes
  have hr := B.returns
  have hts := atoms_spec (ws := wsX6_passed) B.pre
  have hown : s.vm.findClass RX6 = some m.cls := findClass_of_methodNamed B.named
  have hlocks := B.notSynchronized
  subst hsz
  have hD := hD0.self (sz := s.heap.size)
  have hA : ∀ q : Nat, s.heap.size ≤ q → (va_A (zw cs ad σ tl) s.heap.size) q := fun q h => Or.inr h
  generalize va_A (zw cs ad σ tl) s.heap.size = A at hD hE hA ⊢
  have hS : va_S A s.heap s.heap [] := va_S.rf
  have hl := lv_entry ([.ref (ad 29), .int a1]) (n := 2) (Nat.le_of_ble_eq_true rfl)
  rw [lg_entry_eq]
  generalize (lg_sl ([.ref (ad 29), .int a1]) ++ List.replicate (2 - (lg_sl ([.ref (ad 29), .int a1])).length) Slot.unset).toArray = ls at hl ⊢
  have hl : lv_has ls 2 [(0, .ref (ad 29)), (1, .int a1)] := hl
  generalize hR : (f_X6_passed σ a1) = RV
  have hR := hR.symm
  unfold f_X6_passed at hR
  obtain ⟨RVv, RVs⟩ := RV
  dsimp only
  obtain ⟨H, hH⟩ : ∃ z, z = s.heap := ⟨_, rfl⟩
  obtain ⟨locs, hlocs⟩ : ∃ z : List Loc, z = [] := ⟨_, rfl⟩
  rw [← hH] at hP
  have hS : va_S A s.heap H locs := by rw [hH, hlocs]; exact hS
  show W _ _ _ _ _ _ _ _ _ _ s.heap [] _ _ _ _
  rw [← hH, ← hlocs]
  clear hlocs
  refine lv_aload_n hx hb dX6_passed_0 rfl (lv_at hl 0 rfl) ?_
  refine lv_aload_n hx hb dX6_passed_1 rfl (lv_at hl 0 rfl) ?_
  refine lv_iload_n hx hb dX6_passed_2 rfl (lv_at hl 1 rfl) ?_
  refine zai (va_runV (As := [.int a1]) (rest := [.ref (ad 29)]) ⟨hx, hb, hml, hown, hts⟩ (c_X6_isLine l G cs ad tl σ a1  H.size) (cwV 1 hts gX6_passed_X6_isLine rfl rfl rfl (by decide +kernel) ⟨Nat.le_of_ble_eq_true rfl, Nat.le_of_ble_eq_true rfl⟩) (zpv hE hP hD hS hA (zg_29 cs ad σ tl) rfl) rfl rfl hl.1 rfl (lv_room (Nat.le_of_ble_eq_true rfl)) dX6_passed_3 ⟨Nat.le_of_ble_eq_true rfl, Nat.le_of_ble_eq_true rfl⟩) hD hS hA (fun H locs hP hD hS => ?_)
  refine lv_if_eq (tgt := 13) hx hb dX6_passed_6 (by decide) (fun c_1 => ?_) (fun c_1 => ?_)
  · have hR := hR.trans (if_pos c_1)
    refine lv_iconst (v := 1) hx hb dX6_passed_13 (by decide) ?_
    refine va_put (D := G) (ci := 8) (v := .int 1) (ty := .int) (C := RX6) (T := TX6) (N := 29) hx hb hts iX6_passed tyX6 tyX6_ok nmX6 hown hE.1 hP hD hS 29 (zg_29 cs ad σ tl) rfl 28 (by decide) (hts (.fieldLink RX6 82 "HandoverDeckModel" "thrown" "I") (by decide +kernel)) (fun _ h9 => h9) rfl (by decide +kernel) rfl rfl (Nat.le_of_ble_eq_true rfl) dX6_passed_14 (fun H locs hP hD hS => ?_)
    rw [zb_29_28 cs ad σ tl] at hP hD
    refine lv_aload_n hx hb dX6_passed_17 rfl (lv_at hl 0 rfl) ?_
    refine va_get (D := G) (ci := 8) (v := .int 1) (C := RX6) (T := TX6) (N := 29) hx hb hts iX6_passed hown hE.1 hP 29 (zg_29 cs ad (zs σ 29 28 1) tl) rfl 28 (by decide) (hts (.fieldLink RX6 82 "HandoverDeckModel" "thrown" "I") (by decide +kernel)) (fun _ h9 => h9) rfl dX6_passed_18 ?_
    refine lv_if_ne (tgt := 33) hx hb dX6_passed_21 (by decide) (fun _ => ?_) (fun c => absurd c (by decide))
    refine lv_iconst (v := (-1)) hx hb dX6_passed_33 (by decide) ?_
    obtain ⟨e1, e2⟩ := z2 hR.symm
    subst e1; subst e2
    exact W.iret (v := (-1)) hx hb hr (fun t ht hW => ⟨⟨_, (), rfl, rfl, by rw [ht]; exact hP, hD⟩, hS.F ht⟩) hS.2.2 dX6_passed_34
  · have hR := hR.trans (if_neg c_1)
    refine lv_iconst (v := 0) hx hb dX6_passed_9 (by decide) ?_
    refine lv_goto (tgt := 14) hx hb dX6_passed_10 (by decide) ?_
    refine va_put (D := G) (ci := 8) (v := .int 0) (ty := .int) (C := RX6) (T := TX6) (N := 29) hx hb hts iX6_passed tyX6 tyX6_ok nmX6 hown hE.1 hP hD hS 29 (zg_29 cs ad σ tl) rfl 28 (by decide) (hts (.fieldLink RX6 82 "HandoverDeckModel" "thrown" "I") (by decide +kernel)) (fun _ h9 => h9) rfl (by decide +kernel) rfl rfl (Nat.le_of_ble_eq_true rfl) dX6_passed_14 (fun H locs hP hD hS => ?_)
    rw [zb_29_28 cs ad σ tl] at hP hD
    refine lv_aload_n hx hb dX6_passed_17 rfl (lv_at hl 0 rfl) ?_
    refine va_get (D := G) (ci := 8) (v := .int 0) (C := RX6) (T := TX6) (N := 29) hx hb hts iX6_passed hown hE.1 hP 29 (zg_29 cs ad (zs σ 29 28 0) tl) rfl 28 (by decide) (hts (.fieldLink RX6 82 "HandoverDeckModel" "thrown" "I") (by decide +kernel)) (fun _ h9 => h9) rfl dX6_passed_18 ?_
    refine lv_if_ne (tgt := 33) hx hb dX6_passed_21 (by decide) (fun c => absurd c (by decide)) (fun _ => ?_)
    refine lv_aload_n hx hb dX6_passed_24 rfl (lv_at hl 0 rfl) ?_
    refine va_get (D := G) (ci := 8) (v := .ref (ad 34)) (C := RX6) (T := TX6) (N := 29) hx hb hts iX6_passed hown hE.1 hP 29 (zg_29 cs ad (zs σ 29 28 0) tl) rfl 5 (by decide) (hts (.fieldLink RX6 24 "HandoverDeckModel" "passed" "[I") (by decide +kernel)) (fun _ h9 => h9) rfl dX6_passed_25 ?_
    refine lv_iload_n hx hb dX6_passed_28 rfl (lv_at hl 1 rfl) ?_
    refine z_iald (v := (σ 34 a1.toNatClampNeg)) hx hb hE hP (zg_34 cs ad (zs σ 29 28 0) tl) (vin_X6_isLine hI c_1) (by rw [zs_ne (k := 29) (k' := 34) (by decide)]) dX6_passed_29 ?_
    refine lv_goto (tgt := 34) hx hb dX6_passed_30 (by decide) ?_
    obtain ⟨e1, e2⟩ := z2 hR.symm
    subst e1; subst e2
    exact W.iret (v := (σ 34 a1.toNatClampNeg)) hx hb hr (fun t ht hW => ⟨⟨_, (), rfl, rfl, by rw [ht]; exact hP, hD⟩, hS.F ht⟩) hS.2.2 dX6_passed_34
def f_X6_isSound (σ : zS)  : Int32 × zS := (1, (zs σ 29 28 0))
theorem iX6_isSound : ∀ w ∈ u_ws RX6 TX6 29, w ∈ wsX6_isSound := by decide +kernel
set_option maxRecDepth 100000 in
theorem c_X6_isSound (l : Launch) (G : va_G) (cs : Nat → ClassId) (ad : Nat → Nat) (tl : va_W) (σ : zS)   : zMi l yX6_isSound wsX6_isSound { frames := 0, cells := 0, slots := 0, locals := 0 } G cs [.ref (ad 29)] (zw cs ad σ tl) (f_X6_isSound σ ).1 (zw cs ad (f_X6_isSound σ ).2 tl) 0 0 := by
  intro sz
  refine Met.ofW (cc := cX6_isSound) (maxL := 1) (ret := (some .boolean)) (by decide) rfl ?_
  intro p e s m args below meth c s₁ B hml hv
  obtain ⟨rfl, hsz, hP, hD0, hE⟩ := hv
  have hx := B.exec
  have hb := B.bytes
  have hr := B.returns
  have hts := atoms_spec (ws := wsX6_isSound) B.pre
  have hown : s.vm.findClass RX6 = some m.cls := findClass_of_methodNamed B.named
  have hlocks := B.notSynchronized
  subst hsz
  have hD := hD0.self (sz := s.heap.size)
  have hA : ∀ q : Nat, s.heap.size ≤ q → (va_A (zw cs ad σ tl) s.heap.size) q := fun q h => Or.inr h
  generalize va_A (zw cs ad σ tl) s.heap.size = A at hD hE hA ⊢
  have hS : va_S A s.heap s.heap [] := va_S.rf
  have hl := lv_entry ([.ref (ad 29)]) (n := 1) (Nat.le_of_ble_eq_true rfl)
  rw [lg_entry_eq]
  generalize (lg_sl ([.ref (ad 29)]) ++ List.replicate (1 - (lg_sl ([.ref (ad 29)])).length) Slot.unset).toArray = ls at hl ⊢
  have hl : lv_has ls 1 [(0, .ref (ad 29))] := hl
  generalize hR : (f_X6_isSound σ ) = RV
  have hR := hR.symm
  unfold f_X6_isSound at hR
  obtain ⟨RVv, RVs⟩ := RV
  dsimp only
  obtain ⟨H, hH⟩ : ∃ z, z = s.heap := ⟨_, rfl⟩
  obtain ⟨locs, hlocs⟩ : ∃ z : List Loc, z = [] := ⟨_, rfl⟩
  rw [← hH] at hP
  have hS : va_S A s.heap H locs := by rw [hH, hlocs]; exact hS
  show W _ _ _ _ _ _ _ _ _ _ s.heap [] _ _ _ _
  rw [← hH, ← hlocs]
  clear hlocs
  refine lv_aload_n hx hb dX6_isSound_0 rfl (lv_at hl 0 rfl) ?_
  refine lv_iconst (v := 0) hx hb dX6_isSound_1 (by decide) ?_
  refine va_put (D := G) (ci := 8) (v := .int 0) (ty := .int) (C := RX6) (T := TX6) (N := 29) hx hb hts iX6_isSound tyX6 tyX6_ok nmX6 hown hE.1 hP hD hS 29 (zg_29 cs ad σ tl) rfl 28 (by decide) (hts (.fieldLink RX6 82 "HandoverDeckModel" "thrown" "I") (by decide +kernel)) (fun _ h9 => h9) rfl (by decide +kernel) rfl rfl (Nat.le_of_ble_eq_true rfl) dX6_isSound_2 (fun H locs hP hD hS => ?_)
  rw [zb_29_28 cs ad σ tl] at hP hD
  refine lv_iconst (v := 1) hx hb dX6_isSound_5 (by decide) ?_
  obtain ⟨e1, e2⟩ := z2 hR.symm
  subst e1; subst e2
  exact W.zret (v := 1) hx hb hr rfl (fun t ht hW => ⟨⟨_, (), rfl, rfl, by rw [ht]; exact hP, hD⟩, hS.F ht⟩) hS.2.2 dX6_isSound_6
