def f_X5_state (σ : zS) (a1 : Int32) : Nat × Int32 × zS := (if (f_X5_checkUnit a1) = 0 then (0, (f_X5_stateOf σ a1), σ) else ((f_X5_checkUnit a1), 0, σ))
set_option maxRecDepth 100000 in
theorem c_X5_state (l : Launch) (hfl : l.stackTraces = false) (G : va_G) (cs : Nat → ClassId) (ad : Nat → Nat) (tl : va_W) (σ : zS) (a1 : Int32)  : zXi l yX5_state wsX5_state { frames := 7, cells := 1, slots := 6, locals := 110 } G cs [.ref (ad 0), .int a1] (zw cs ad σ tl) (f_X5_state σ a1).1 (f_X5_state σ a1).2.1 (zw cs ad (f_X5_state σ a1).2.2 tl) 1 6 := by
  intro sz
  refine vx_ofW (cc := cX5_state) (maxL := 2) (ret := (some .int)) (by decide) rfl ?_
  intro p e s m args below meth c s₁ B hml htab hv
  obtain ⟨rfl, hsz, hP, hD0, hE⟩ := hv
  have hx := B.exec
  have hb := B.bytes
  have hr := B.returns
  have hts := atoms_spec (ws := wsX5_state) B.pre
  have hown : s.vm.findClass RX5 = some m.cls := findClass_of_methodNamed B.named
  have hlocks := B.notSynchronized
  subst hsz
  have hD := hD0.self (sz := s.heap.size)
  have hA : ∀ q : Nat, s.heap.size ≤ q → (va_A (zw cs ad σ tl) s.heap.size) q := fun q h => Or.inr h
  generalize va_A (zw cs ad σ tl) s.heap.size = A at hD hE hA ⊢
  have hS : va_S A s.heap s.heap [] := va_S.rf
  have hl := lv_entry ([.ref (ad 0), .int a1]) (n := 2) (Nat.le_of_ble_eq_true rfl)
  rw [lg_entry_eq]
  generalize (lg_sl ([.ref (ad 0), .int a1]) ++ List.replicate (2 - (lg_sl ([.ref (ad 0), .int a1])).length) Slot.unset).toArray = ls at hl ⊢
  have hl : lv_has ls 2 [(0, .ref (ad 0)), (1, .int a1)] := hl
  generalize hR : (f_X5_state σ a1) = RV
  have hR := hR.symm
  unfold f_X5_state at hR
  obtain ⟨RVk, RVv, RVs⟩ := RV
  dsimp only
  obtain ⟨H, hH⟩ : ∃ z, z = s.heap := ⟨_, rfl⟩
  obtain ⟨locs, hlocs⟩ : ∃ z : List Loc, z = [] := ⟨_, rfl⟩
  rw [← hH] at hP
  have hS : va_S A s.heap H locs := by rw [hH, hlocs]; exact hS
  show W _ _ _ _ _ _ _ _ _ _ s.heap [] _ _ _ _
  rw [← hH, ← hlocs]
  clear hlocs
  refine lv_iload_n hx hb dX5_state_0 rfl (lv_at hl 1 rfl) ?_
  refine zaxv (vx_runS (As := [.int a1]) (rest := []) ⟨hx, hb, hml, hown, hts⟩ (c_X5_checkUnit l hfl G cs ad tl σ a1  H.size) (va_cwS 1 hts gX5_state_X5_checkUnit rfl rfl rfl (by decide +kernel) ⟨Nat.le_of_ble_eq_true rfl, Nat.le_of_ble_eq_true rfl⟩) (zps hE hP hD hS hA) rfl rfl hl.1 rfl (lv_room (Nat.le_of_ble_eq_true rfl)) dX5_state_1 ⟨Nat.le_of_ble_eq_true rfl, Nat.le_of_ble_eq_true rfl⟩) hD hS hA (fun c_1 ce q9 H locs hP hD hS h1 h2 h3 => ?_) (fun c_1 H locs hP hD hS => ?_)
  · have hR := hR.trans (if_neg c_1)
    obtain ⟨e1, e2, e3⟩ := z3 hR.symm
    subst e1; subst e2; subst e3
    exact z_out htab hlocks h1 h2 h3 c_1 hP hD hS (by decide) (by decide)
  · have hR := hR.trans (if_pos c_1)
    refine lv_aload_n hx hb dX5_state_4 rfl (lv_at hl 0 rfl) ?_
    refine lv_iload_n hx hb dX5_state_5 rfl (lv_at hl 1 rfl) ?_
    refine zai (va_runV (As := [.int a1]) (rest := []) ⟨hx, hb, hml, hown, hts⟩ (c_X5_stateOf l G cs ad tl σ a1  H.size) (cwV 1 hts gX5_state_X5_stateOf rfl rfl rfl (by decide +kernel) ⟨Nat.le_of_ble_eq_true rfl, Nat.le_of_ble_eq_true rfl⟩) (zpv hE hP hD hS hA (zg_0 cs ad σ tl) rfl) rfl rfl hl.1 rfl (lv_room (Nat.le_of_ble_eq_true rfl)) dX5_state_6 ⟨Nat.le_of_ble_eq_true rfl, Nat.le_of_ble_eq_true rfl⟩) hD hS hA (fun H locs hP hD hS => ?_)
    obtain ⟨e1, e2, e3⟩ := z3 hR.symm
    subst e1; subst e2; subst e3
    refine W.widen (k := 1) (n := 6) (by decide) (by decide) ?_
    refine vx_ret ?_
    exact W.iret (v := (f_X5_stateOf σ a1)) hx hb hr (fun t ht hW => ⟨⟨_, (), rfl, ⟨rfl, rfl⟩, by rw [ht]; exact hP, hD⟩, hS.F ht⟩) hS.2.2 dX5_state_9
def f_X5_raise (σ : zS) (a1 : Int32) (a2 : Int32) (a3 : Int32) : Nat × Int32 × zS := (if (f_X5_checkAlarm a1 a2) = 0 then (if (f_X5_checkPriority a3) = 0 then (if (f_X0_isActive σ (f_X5_alarmOf a1 a2)) = 0 then (if (f_X5_checkRoomForLine σ ) = 0 then (0, (f_X2_openLine σ 97 (σ 0 6)).1, (f_X0_activate (f_X2_openLine σ 97 (σ 0 6)).2 (f_X5_alarmOf a1 a2) a3 (f_X2_openLine σ 97 (σ 0 6)).1)) else ((f_X5_checkRoomForLine σ ), 0, σ)) else (3, 0, σ)) else ((f_X5_checkPriority a3), 0, σ)) else ((f_X5_checkAlarm a1 a2), 0, σ))
theorem iX5_raise : ∀ w ∈ u_ws RX5 TX5 7, w ∈ wsX5_raise := by decide +kernel
set_option maxRecDepth 100000 in
theorem c_X5_raise (l : Launch) (hfl : l.stackTraces = false) (G : va_G) (cs : Nat → ClassId) (ad : Nat → Nat) (tl : va_W) (σ : zS) (a1 : Int32) (a2 : Int32) (a3 : Int32)  : zXi l yX5_raise wsX5_raise { frames := 8, cells := 5, slots := 30, locals := 131 } G cs [.ref (ad 0), .int a1, .int a2, .int a3] (zw cs ad σ tl) (f_X5_raise σ a1 a2 a3).1 (f_X5_raise σ a1 a2 a3).2.1 (zw cs ad (f_X5_raise σ a1 a2 a3).2.2 tl) 5 30 := by
  intro sz
  refine vx_ofW (cc := cX5_raise) (maxL := 6) (ret := (some .int)) (by decide) rfl ?_
  intro p e s m args below meth c s₁ B hml htab hv
  obtain ⟨rfl, hsz, hP, hD0, hE⟩ := hv
  have hx := B.exec
  have hb := B.bytes
  have hr := B.returns
  have hts := atoms_spec (ws := wsX5_raise) B.pre
  have hown : s.vm.findClass RX5 = some m.cls := findClass_of_methodNamed B.named
  have hlocks := B.notSynchronized
  subst hsz
  have hD := hD0.self (sz := s.heap.size)
  have hA : ∀ q : Nat, s.heap.size ≤ q → (va_A (zw cs ad σ tl) s.heap.size) q := fun q h => Or.inr h
  generalize va_A (zw cs ad σ tl) s.heap.size = A at hD hE hA ⊢
  have hS : va_S A s.heap s.heap [] := va_S.rf
  have hl := lv_entry ([.ref (ad 0), .int a1, .int a2, .int a3]) (n := 6) (Nat.le_of_ble_eq_true rfl)
  rw [lg_entry_eq]
  generalize (lg_sl ([.ref (ad 0), .int a1, .int a2, .int a3]) ++ List.replicate (6 - (lg_sl ([.ref (ad 0), .int a1, .int a2, .int a3])).length) Slot.unset).toArray = ls at hl ⊢
  have hl : lv_has ls 6 [(0, .ref (ad 0)), (1, .int a1), (2, .int a2), (3, .int a3)] := hl
  generalize hR : (f_X5_raise σ a1 a2 a3) = RV
  have hR := hR.symm
  unfold f_X5_raise at hR
  obtain ⟨RVk, RVv, RVs⟩ := RV
  dsimp only
  obtain ⟨H, hH⟩ : ∃ z, z = s.heap := ⟨_, rfl⟩
  obtain ⟨locs, hlocs⟩ : ∃ z : List Loc, z = [] := ⟨_, rfl⟩
  rw [← hH] at hP
  have hS : va_S A s.heap H locs := by rw [hH, hlocs]; exact hS
  show W _ _ _ _ _ _ _ _ _ _ s.heap [] _ _ _ _
  rw [← hH, ← hlocs]
  clear hlocs
  refine lv_iload_n hx hb dX5_raise_0 rfl (lv_at hl 1 rfl) ?_
  refine lv_iload_n hx hb dX5_raise_1 rfl (lv_at hl 2 rfl) ?_
  refine zaxv (vx_runS (As := [.int a1, .int a2]) (rest := []) ⟨hx, hb, hml, hown, hts⟩ (c_X5_checkAlarm l hfl G cs ad tl σ a1 a2  H.size) (va_cwS 2 hts gX5_raise_X5_checkAlarm rfl rfl rfl (by decide +kernel) ⟨Nat.le_of_ble_eq_true rfl, Nat.le_of_ble_eq_true rfl⟩) (zps hE hP hD hS hA) rfl rfl hl.1 rfl (lv_room (Nat.le_of_ble_eq_true rfl)) dX5_raise_2 ⟨Nat.le_of_ble_eq_true rfl, Nat.le_of_ble_eq_true rfl⟩) hD hS hA (fun c_1 ce q9 H locs hP hD hS h1 h2 h3 => ?_) (fun c_1 H locs hP hD hS => ?_)
  · have hR := hR.trans (if_neg c_1)
    obtain ⟨e1, e2, e3⟩ := z3 hR.symm
    subst e1; subst e2; subst e3
    exact z_out htab hlocks h1 h2 h3 c_1 hP hD hS (by decide) (by decide)
  · have hR := hR.trans (if_pos c_1)
    refine lv_iload_n hx hb dX5_raise_5 rfl (lv_at hl 3 rfl) ?_
    refine zaxv (vx_runS (As := [.int a3]) (rest := []) ⟨hx, hb, hml, hown, hts⟩ (c_X5_checkPriority l hfl G cs ad tl σ a3  H.size) (va_cwS 1 hts gX5_raise_X5_checkPriority rfl rfl rfl (by decide +kernel) ⟨Nat.le_of_ble_eq_true rfl, Nat.le_of_ble_eq_true rfl⟩) (zps hE hP hD hS hA) rfl rfl hl.1 rfl (lv_room (Nat.le_of_ble_eq_true rfl)) dX5_raise_6 ⟨Nat.le_of_ble_eq_true rfl, Nat.le_of_ble_eq_true rfl⟩) hD hS hA (fun c_2 ce q9 H locs hP hD hS h1 h2 h3 => ?_) (fun c_2 H locs hP hD hS => ?_)
    · have hR := hR.trans (if_neg c_2)
      obtain ⟨e1, e2, e3⟩ := z3 hR.symm
      subst e1; subst e2; subst e3
      exact z_out htab hlocks h1 h2 h3 c_2 hP hD hS (by decide) (by decide)
    · have hR := hR.trans (if_pos c_2)
      refine lv_iload_n hx hb dX5_raise_9 rfl (lv_at hl 1 rfl) ?_
      refine lv_iload_n hx hb dX5_raise_10 rfl (lv_at hl 2 rfl) ?_
      refine zai (va_runS (As := [.int a1, .int a2]) (rest := []) ⟨hx, hb, hml, hown, hts⟩ (c_X5_alarmOf l G cs ad tl σ a1 a2  H.size) (va_cwS 2 hts gX5_raise_X5_alarmOf rfl rfl rfl (by decide +kernel) ⟨Nat.le_of_ble_eq_true rfl, Nat.le_of_ble_eq_true rfl⟩) (zps hE hP hD hS hA) rfl rfl hl.1 rfl (lv_room (Nat.le_of_ble_eq_true rfl)) dX5_raise_11 ⟨Nat.le_of_ble_eq_true rfl, Nat.le_of_ble_eq_true rfl⟩) hD hS hA (fun H locs hP hD hS => ?_)
      refine lv_istore (lv' := [(4, .int (f_X5_alarmOf a1 a2)), (0, .ref (ad 0)), (1, .int a1), (2, .int a2), (3, .int a3)]) hx hb dX5_raise_14 hl (by decide) rfl (fun ls hl => ?_)
      refine lv_aload_n hx hb dX5_raise_16 rfl (lv_at hl 1 rfl) ?_
      refine va_get (D := G) (ci := 7) (v := .ref (ad 9)) (C := RX5) (T := TX5) (N := 7) hx hb hts iX5_raise hown hE.1 hP 0 (zg_0 cs ad σ tl) rfl 2 (by decide) (hts (.fieldLink RX5 23 "HandoverDeck" "board" "LHandoverDeck$AlarmBoard;") (by decide +kernel)) (fun _ h9 => h9) rfl dX5_raise_17 ?_
      refine lv_iload hx hb dX5_raise_20 (lv_at hl 0 rfl) ?_
      refine zai (va_runV (As := [.int (f_X5_alarmOf a1 a2)]) (rest := []) ⟨hx, hb, hml, hown, hts⟩ (c_X0_isActive l G cs ad tl σ (f_X5_alarmOf a1 a2)  H.size) (cwV 1 hts gX5_raise_X0_isActive rfl rfl rfl (by decide +kernel) ⟨Nat.le_of_ble_eq_true rfl, Nat.le_of_ble_eq_true rfl⟩) (zpv hE hP hD hS hA (zg_9 cs ad σ tl) rfl) rfl rfl hl.1 rfl (lv_room (Nat.le_of_ble_eq_true rfl)) dX5_raise_22 ⟨Nat.le_of_ble_eq_true rfl, Nat.le_of_ble_eq_true rfl⟩) hD hS hA (fun H locs hP hD hS => ?_)
      refine lv_if_eq (tgt := 38) hx hb dX5_raise_25 (by decide) (fun c_3 => ?_) (fun c_3 => ?_)
      · have hR := hR.trans (if_pos c_3)
        refine lv_aload_n hx hb dX5_raise_38 rfl (lv_at hl 1 rfl) ?_
        refine zaxv (vx_runV (As := []) (rest := []) ⟨hx, hb, hml, hown, hts⟩ (c_X5_checkRoomForLine l hfl G cs ad tl σ   H.size) (cwV 0 hts gX5_raise_X5_checkRoomForLine rfl rfl rfl (by decide +kernel) ⟨Nat.le_of_ble_eq_true rfl, Nat.le_of_ble_eq_true rfl⟩) (zpv hE hP hD hS hA (zg_0 cs ad σ tl) rfl) rfl rfl hl.1 rfl (lv_room (Nat.le_of_ble_eq_true rfl)) dX5_raise_39 ⟨Nat.le_of_ble_eq_true rfl, Nat.le_of_ble_eq_true rfl⟩) hD hS hA (fun c_4 ce q9 H locs hP hD hS h1 h2 h3 => ?_) (fun c_4 H locs hP hD hS => ?_)
        · have hR := hR.trans (if_neg c_4)
          obtain ⟨e1, e2, e3⟩ := z3 hR.symm
          subst e1; subst e2; subst e3
          exact z_out htab hlocks h1 h2 h3 c_4 hP hD hS (by decide) (by decide)
        · have hR := hR.trans (if_pos c_4)
          refine lv_aload_n hx hb dX5_raise_42 rfl (lv_at hl 1 rfl) ?_
          refine va_get (D := G) (ci := 7) (v := .ref (ad 2)) (C := RX5) (T := TX5) (N := 7) hx hb hts iX5_raise hown hE.1 hP 0 (zg_0 cs ad σ tl) rfl 1 (by decide) (hts (.fieldLink RX5 16 "HandoverDeck" "log" "LHandoverDeck$Log;") (by decide +kernel)) (fun _ h9 => h9) rfl dX5_raise_43 ?_
          refine lv_bipush (v := 97) hx hb dX5_raise_46 (by decide) ?_
          refine lv_aload_n hx hb dX5_raise_48 rfl (lv_at hl 1 rfl) ?_
          refine va_get (D := G) (ci := 7) (v := .int (σ 0 6)) (C := RX5) (T := TX5) (N := 7) hx hb hts iX5_raise hown hE.1 hP 0 (zg_0 cs ad σ tl) rfl 6 (by decide) (hts (.fieldLink RX5 81 "HandoverDeck" "now" "I") (by decide +kernel)) (fun _ h9 => h9) rfl dX5_raise_49 ?_
          refine zai (va_runV (As := [.int 97, .int (σ 0 6)]) (rest := []) ⟨hx, hb, hml, hown, hts⟩ (c_X2_openLine l G cs ad tl σ 97 (σ 0 6) (by decide) H.size) (cwV 2 hts gX5_raise_X2_openLine rfl rfl rfl (by decide +kernel) ⟨Nat.le_of_ble_eq_true rfl, Nat.le_of_ble_eq_true rfl⟩) (zpv hE hP hD hS hA (zg_2 cs ad σ tl) rfl) rfl rfl hl.1 rfl (lv_room (Nat.le_of_ble_eq_true rfl)) dX5_raise_52 ⟨Nat.le_of_ble_eq_true rfl, Nat.le_of_ble_eq_true rfl⟩) hD hS hA (fun H locs hP hD hS => ?_)
          refine lv_istore (lv' := [(5, .int (f_X2_openLine σ 97 (σ 0 6)).1), (4, .int (f_X5_alarmOf a1 a2)), (0, .ref (ad 0)), (1, .int a1), (2, .int a2), (3, .int a3)]) hx hb dX5_raise_55 hl (by decide) rfl (fun ls hl => ?_)
          refine lv_aload_n hx hb dX5_raise_57 rfl (lv_at hl 2 rfl) ?_
          refine va_get (D := G) (ci := 7) (v := .ref (ad 9)) (C := RX5) (T := TX5) (N := 7) hx hb hts iX5_raise hown hE.1 hP 0 (zg_0 cs ad (f_X2_openLine σ 97 (σ 0 6)).2 tl) rfl 2 (by decide) (hts (.fieldLink RX5 23 "HandoverDeck" "board" "LHandoverDeck$AlarmBoard;") (by decide +kernel)) (fun _ h9 => h9) rfl dX5_raise_58 ?_
          refine lv_iload hx hb dX5_raise_61 (lv_at hl 1 rfl) ?_
          refine lv_iload_n hx hb dX5_raise_63 rfl (lv_at hl 5 rfl) ?_
          refine lv_iload hx hb dX5_raise_64 (lv_at hl 0 rfl) ?_
          refine zav (va_runV (As := [.int (f_X5_alarmOf a1 a2), .int a3, .int (f_X2_openLine σ 97 (σ 0 6)).1]) (rest := []) ⟨hx, hb, hml, hown, hts⟩ (c_X0_activate l G cs ad tl (f_X2_openLine σ 97 (σ 0 6)).2 (f_X5_alarmOf a1 a2) a3 (f_X2_openLine σ 97 (σ 0 6)).1  H.size) (cwV 3 hts gX5_raise_X0_activate rfl rfl rfl (by decide +kernel) ⟨Nat.le_of_ble_eq_true rfl, Nat.le_of_ble_eq_true rfl⟩) (zpv hE hP hD hS hA (zg_9 cs ad (f_X2_openLine σ 97 (σ 0 6)).2 tl) rfl) rfl rfl hl.1 rfl (lv_room (Nat.le_of_ble_eq_true rfl)) dX5_raise_66 ⟨Nat.le_of_ble_eq_true rfl, Nat.le_of_ble_eq_true rfl⟩) hD hS hA (fun H locs hP hD hS => ?_)
          refine lv_iload hx hb dX5_raise_69 (lv_at hl 0 rfl) ?_
          obtain ⟨e1, e2, e3⟩ := z3 hR.symm
          subst e1; subst e2; subst e3
          refine W.widen (k := 5) (n := 30) (by decide) (by decide) ?_
          refine vx_ret ?_
          exact W.iret (v := (f_X2_openLine σ 97 (σ 0 6)).1) hx hb hr (fun t ht hW => ⟨⟨_, (), rfl, ⟨rfl, rfl⟩, by rw [ht]; exact hP, hD⟩, hS.F ht⟩) hS.2.2 dX5_raise_71
      · have hR := hR.trans (if_neg c_3)
        obtain ⟨e1, e2, e3⟩ := z3 hR.symm
        subst e1; subst e2; subst e3
        exact z_thr (k := 3) (is := 73) (text := "the alarm is active") hx hb hfl zf_3.1 zf_3.2.1 zf_3.2.2 (fun w h => hts w (List.mem_cons_of_mem _ (List.mem_append_left _ (List.mem_append_left _ (List.mem_append_left _ (List.mem_append_right _ h)))))) (hts (.classLink RX5 71 "java/lang/IllegalStateException") (by decide +kernel)) (hts (.initialized "java/lang/IllegalStateException") (by decide +kernel)) (hE.2.1 _ (List.mem_of_getElem? (i := 5) rfl)) (hE.2.2.1 (73, "the alarm is active") (by decide +kernel)) hown hE hP hD hS (by rw [hl.1, hml]) dX5_raise_28 dX5_raise_31 dX5_raise_32 dX5_raise_34 dX5_raise_37 htab (by decide) (by decide) (by decide) (by decide) hlocks (by decide) rfl (by decide) (by decide)
def f_X5_clear (σ : zS) (a1 : Int32) (a2 : Int32) : Nat × Int32 × zS := (if (f_X5_checkAlarm a1 a2) = 0 then (if (f_X5_checkActive σ (f_X5_alarmOf a1 a2)) = 0 then (0, (f_X0_lineOf σ (f_X5_alarmOf a1 a2)), (f_X2_closeLine (f_X0_deactivate σ (f_X5_alarmOf a1 a2)) (f_X0_lineOf σ (f_X5_alarmOf a1 a2)))) else ((f_X5_checkActive σ (f_X5_alarmOf a1 a2)), 0, σ)) else ((f_X5_checkAlarm a1 a2), 0, σ))
theorem iX5_clear : ∀ w ∈ u_ws RX5 TX5 7, w ∈ wsX5_clear := by decide +kernel
set_option maxRecDepth 100000 in
theorem c_X5_clear (l : Launch) (hfl : l.stackTraces = false) (G : va_G) (cs : Nat → ClassId) (ad : Nat → Nat) (tl : va_W) (σ : zS) (a1 : Int32) (a2 : Int32)  : zXi l yX5_clear wsX5_clear { frames := 8, cells := 3, slots := 18, locals := 131 } G cs [.ref (ad 0), .int a1, .int a2] (zw cs ad σ tl) (f_X5_clear σ a1 a2).1 (f_X5_clear σ a1 a2).2.1 (zw cs ad (f_X5_clear σ a1 a2).2.2 tl) 3 18 := by
  intro sz
  refine vx_ofW (cc := cX5_clear) (maxL := 5) (ret := (some .int)) (by decide) rfl ?_
  intro p e s m args below meth c s₁ B hml htab hv
  obtain ⟨rfl, hsz, hP, hD0, hE⟩ := hv
  have hx := B.exec
  have hb := B.bytes
  have hr := B.returns
  have hts := atoms_spec (ws := wsX5_clear) B.pre
  have hown : s.vm.findClass RX5 = some m.cls := findClass_of_methodNamed B.named
  have hlocks := B.notSynchronized
  subst hsz
  have hD := hD0.self (sz := s.heap.size)
  have hA : ∀ q : Nat, s.heap.size ≤ q → (va_A (zw cs ad σ tl) s.heap.size) q := fun q h => Or.inr h
  generalize va_A (zw cs ad σ tl) s.heap.size = A at hD hE hA ⊢
  have hS : va_S A s.heap s.heap [] := va_S.rf
  have hl := lv_entry ([.ref (ad 0), .int a1, .int a2]) (n := 5) (Nat.le_of_ble_eq_true rfl)
  rw [lg_entry_eq]
  generalize (lg_sl ([.ref (ad 0), .int a1, .int a2]) ++ List.replicate (5 - (lg_sl ([.ref (ad 0), .int a1, .int a2])).length) Slot.unset).toArray = ls at hl ⊢
  have hl : lv_has ls 5 [(0, .ref (ad 0)), (1, .int a1), (2, .int a2)] := hl
  generalize hR : (f_X5_clear σ a1 a2) = RV
  have hR := hR.symm
  unfold f_X5_clear at hR
  obtain ⟨RVk, RVv, RVs⟩ := RV
  dsimp only
  obtain ⟨H, hH⟩ : ∃ z, z = s.heap := ⟨_, rfl⟩
  obtain ⟨locs, hlocs⟩ : ∃ z : List Loc, z = [] := ⟨_, rfl⟩
  rw [← hH] at hP
  have hS : va_S A s.heap H locs := by rw [hH, hlocs]; exact hS
  show W _ _ _ _ _ _ _ _ _ _ s.heap [] _ _ _ _
  rw [← hH, ← hlocs]
  clear hlocs
  refine lv_iload_n hx hb dX5_clear_0 rfl (lv_at hl 1 rfl) ?_
  refine lv_iload_n hx hb dX5_clear_1 rfl (lv_at hl 2 rfl) ?_
  refine zaxv (vx_runS (As := [.int a1, .int a2]) (rest := []) ⟨hx, hb, hml, hown, hts⟩ (c_X5_checkAlarm l hfl G cs ad tl σ a1 a2  H.size) (va_cwS 2 hts gX5_clear_X5_checkAlarm rfl rfl rfl (by decide +kernel) ⟨Nat.le_of_ble_eq_true rfl, Nat.le_of_ble_eq_true rfl⟩) (zps hE hP hD hS hA) rfl rfl hl.1 rfl (lv_room (Nat.le_of_ble_eq_true rfl)) dX5_clear_2 ⟨Nat.le_of_ble_eq_true rfl, Nat.le_of_ble_eq_true rfl⟩) hD hS hA (fun c_1 ce q9 H locs hP hD hS h1 h2 h3 => ?_) (fun c_1 H locs hP hD hS => ?_)
  · have hR := hR.trans (if_neg c_1)
    obtain ⟨e1, e2, e3⟩ := z3 hR.symm
    subst e1; subst e2; subst e3
    exact z_out htab hlocks h1 h2 h3 c_1 hP hD hS (by decide) (by decide)
  · have hR := hR.trans (if_pos c_1)
    refine lv_iload_n hx hb dX5_clear_5 rfl (lv_at hl 1 rfl) ?_
    refine lv_iload_n hx hb dX5_clear_6 rfl (lv_at hl 2 rfl) ?_
    refine zai (va_runS (As := [.int a1, .int a2]) (rest := []) ⟨hx, hb, hml, hown, hts⟩ (c_X5_alarmOf l G cs ad tl σ a1 a2  H.size) (va_cwS 2 hts gX5_clear_X5_alarmOf rfl rfl rfl (by decide +kernel) ⟨Nat.le_of_ble_eq_true rfl, Nat.le_of_ble_eq_true rfl⟩) (zps hE hP hD hS hA) rfl rfl hl.1 rfl (lv_room (Nat.le_of_ble_eq_true rfl)) dX5_clear_7 ⟨Nat.le_of_ble_eq_true rfl, Nat.le_of_ble_eq_true rfl⟩) hD hS hA (fun H locs hP hD hS => ?_)
    refine lv_istore_n (lv' := [(3, .int (f_X5_alarmOf a1 a2)), (0, .ref (ad 0)), (1, .int a1), (2, .int a2)]) hx hb dX5_clear_10 rfl hl (by decide) rfl (fun ls hl => ?_)
    refine lv_aload_n hx hb dX5_clear_11 rfl (lv_at hl 1 rfl) ?_
    refine lv_iload_n hx hb dX5_clear_12 rfl (lv_at hl 0 rfl) ?_
    refine zaxv (vx_runV (As := [.int (f_X5_alarmOf a1 a2)]) (rest := []) ⟨hx, hb, hml, hown, hts⟩ (c_X5_checkActive l hfl G cs ad tl σ (f_X5_alarmOf a1 a2)  H.size) (cwV 1 hts gX5_clear_X5_checkActive rfl rfl rfl (by decide +kernel) ⟨Nat.le_of_ble_eq_true rfl, Nat.le_of_ble_eq_true rfl⟩) (zpv hE hP hD hS hA (zg_0 cs ad σ tl) rfl) rfl rfl hl.1 rfl (lv_room (Nat.le_of_ble_eq_true rfl)) dX5_clear_13 ⟨Nat.le_of_ble_eq_true rfl, Nat.le_of_ble_eq_true rfl⟩) hD hS hA (fun c_2 ce q9 H locs hP hD hS h1 h2 h3 => ?_) (fun c_2 H locs hP hD hS => ?_)
    · have hR := hR.trans (if_neg c_2)
      obtain ⟨e1, e2, e3⟩ := z3 hR.symm
      subst e1; subst e2; subst e3
      exact z_out htab hlocks h1 h2 h3 c_2 hP hD hS (by decide) (by decide)
    · have hR := hR.trans (if_pos c_2)
      refine lv_aload_n hx hb dX5_clear_16 rfl (lv_at hl 1 rfl) ?_
      refine va_get (D := G) (ci := 7) (v := .ref (ad 9)) (C := RX5) (T := TX5) (N := 7) hx hb hts iX5_clear hown hE.1 hP 0 (zg_0 cs ad σ tl) rfl 2 (by decide) (hts (.fieldLink RX5 23 "HandoverDeck" "board" "LHandoverDeck$AlarmBoard;") (by decide +kernel)) (fun _ h9 => h9) rfl dX5_clear_17 ?_
      refine lv_iload_n hx hb dX5_clear_20 rfl (lv_at hl 0 rfl) ?_
      refine zai (va_runV (As := [.int (f_X5_alarmOf a1 a2)]) (rest := []) ⟨hx, hb, hml, hown, hts⟩ (c_X0_lineOf l G cs ad tl σ (f_X5_alarmOf a1 a2)  H.size) (cwV 1 hts gX5_clear_X0_lineOf rfl rfl rfl (by decide +kernel) ⟨Nat.le_of_ble_eq_true rfl, Nat.le_of_ble_eq_true rfl⟩) (zpv hE hP hD hS hA (zg_9 cs ad σ tl) rfl) rfl rfl hl.1 rfl (lv_room (Nat.le_of_ble_eq_true rfl)) dX5_clear_21 ⟨Nat.le_of_ble_eq_true rfl, Nat.le_of_ble_eq_true rfl⟩) hD hS hA (fun H locs hP hD hS => ?_)
      refine lv_istore (lv' := [(4, .int (f_X0_lineOf σ (f_X5_alarmOf a1 a2))), (3, .int (f_X5_alarmOf a1 a2)), (0, .ref (ad 0)), (1, .int a1), (2, .int a2)]) hx hb dX5_clear_24 hl (by decide) rfl (fun ls hl => ?_)
      refine lv_aload_n hx hb dX5_clear_26 rfl (lv_at hl 2 rfl) ?_
      refine va_get (D := G) (ci := 7) (v := .ref (ad 9)) (C := RX5) (T := TX5) (N := 7) hx hb hts iX5_clear hown hE.1 hP 0 (zg_0 cs ad σ tl) rfl 2 (by decide) (hts (.fieldLink RX5 23 "HandoverDeck" "board" "LHandoverDeck$AlarmBoard;") (by decide +kernel)) (fun _ h9 => h9) rfl dX5_clear_27 ?_
      refine lv_iload_n hx hb dX5_clear_30 rfl (lv_at hl 1 rfl) ?_
      refine zav (va_runV (As := [.int (f_X5_alarmOf a1 a2)]) (rest := []) ⟨hx, hb, hml, hown, hts⟩ (c_X0_deactivate l G cs ad tl σ (f_X5_alarmOf a1 a2)  H.size) (cwV 1 hts gX5_clear_X0_deactivate rfl rfl rfl (by decide +kernel) ⟨Nat.le_of_ble_eq_true rfl, Nat.le_of_ble_eq_true rfl⟩) (zpv hE hP hD hS hA (zg_9 cs ad σ tl) rfl) rfl rfl hl.1 rfl (lv_room (Nat.le_of_ble_eq_true rfl)) dX5_clear_31 ⟨Nat.le_of_ble_eq_true rfl, Nat.le_of_ble_eq_true rfl⟩) hD hS hA (fun H locs hP hD hS => ?_)
      refine lv_aload_n hx hb dX5_clear_34 rfl (lv_at hl 2 rfl) ?_
      refine va_get (D := G) (ci := 7) (v := .ref (ad 2)) (C := RX5) (T := TX5) (N := 7) hx hb hts iX5_clear hown hE.1 hP 0 (zg_0 cs ad (f_X0_deactivate σ (f_X5_alarmOf a1 a2)) tl) rfl 1 (by decide) (hts (.fieldLink RX5 16 "HandoverDeck" "log" "LHandoverDeck$Log;") (by decide +kernel)) (fun _ h9 => h9) rfl dX5_clear_35 ?_
      refine lv_iload hx hb dX5_clear_38 (lv_at hl 0 rfl) ?_
      refine zav (va_runV (As := [.int (f_X0_lineOf σ (f_X5_alarmOf a1 a2))]) (rest := []) ⟨hx, hb, hml, hown, hts⟩ (c_X2_closeLine l G cs ad tl (f_X0_deactivate σ (f_X5_alarmOf a1 a2)) (f_X0_lineOf σ (f_X5_alarmOf a1 a2))  H.size) (cwV 1 hts gX5_clear_X2_closeLine rfl rfl rfl (by decide +kernel) ⟨Nat.le_of_ble_eq_true rfl, Nat.le_of_ble_eq_true rfl⟩) (zpv hE hP hD hS hA (zg_2 cs ad (f_X0_deactivate σ (f_X5_alarmOf a1 a2)) tl) rfl) rfl rfl hl.1 rfl (lv_room (Nat.le_of_ble_eq_true rfl)) dX5_clear_40 ⟨Nat.le_of_ble_eq_true rfl, Nat.le_of_ble_eq_true rfl⟩) hD hS hA (fun H locs hP hD hS => ?_)
      refine lv_iload hx hb dX5_clear_43 (lv_at hl 0 rfl) ?_
      obtain ⟨e1, e2, e3⟩ := z3 hR.symm
      subst e1; subst e2; subst e3
      refine W.widen (k := 3) (n := 18) (by decide) (by decide) ?_
      refine vx_ret ?_
      exact W.iret (v := (f_X0_lineOf σ (f_X5_alarmOf a1 a2))) hx hb hr (fun t ht hW => ⟨⟨_, (), rfl, ⟨rfl, rfl⟩, by rw [ht]; exact hP, hD⟩, hS.F ht⟩) hS.2.2 dX5_clear_45
def f_X5_shelve (σ : zS) (a1 : Int32) (a2 : Int32) (a3 : Int32) : Nat × Int32 × zS := (if (f_X5_checkAlarm a1 a2) = 0 then (if (f_X5_checkActive σ (f_X5_alarmOf a1 a2)) = 0 then (if a3 < 1 then (2, 0, σ) else (if a3 ≤ 24 then (if (f_X0_isOnShelf σ (f_X5_alarmOf a1 a2) (σ 0 6)) = 0 then (0, ((σ 0 6) + a3), (f_X0_putOnShelf σ (f_X5_alarmOf a1 a2) ((σ 0 6) + a3))) else (3, 0, σ)) else (2, 0, σ))) else ((f_X5_checkActive σ (f_X5_alarmOf a1 a2)), 0, σ)) else ((f_X5_checkAlarm a1 a2), 0, σ))
theorem iX5_shelve : ∀ w ∈ u_ws RX5 TX5 7, w ∈ wsX5_shelve := by decide +kernel
set_option maxRecDepth 100000 in
theorem c_X5_shelve (l : Launch) (hfl : l.stackTraces = false) (G : va_G) (cs : Nat → ClassId) (ad : Nat → Nat) (tl : va_W) (σ : zS) (a1 : Int32) (a2 : Int32) (a3 : Int32)  : zXi l yX5_shelve wsX5_shelve { frames := 8, cells := 4, slots := 24, locals := 131 } G cs [.ref (ad 0), .int a1, .int a2, .int a3] (zw cs ad σ tl) (f_X5_shelve σ a1 a2 a3).1 (f_X5_shelve σ a1 a2 a3).2.1 (zw cs ad (f_X5_shelve σ a1 a2 a3).2.2 tl) 4 24 := by
  intro sz
  refine vx_ofW (cc := cX5_shelve) (maxL := 6) (ret := (some .int)) (by decide) rfl ?_
  intro p e s m args below meth c s₁ B hml htab hv
  obtain ⟨rfl, hsz, hP, hD0, hE⟩ := hv
  have hx := B.exec
  have hb := B.bytes
  have hr := B.returns
  have hts := atoms_spec (ws := wsX5_shelve) B.pre
  have hown : s.vm.findClass RX5 = some m.cls := findClass_of_methodNamed B.named
  have hlocks := B.notSynchronized
  subst hsz
  have hD := hD0.self (sz := s.heap.size)
  have hA : ∀ q : Nat, s.heap.size ≤ q → (va_A (zw cs ad σ tl) s.heap.size) q := fun q h => Or.inr h
  generalize va_A (zw cs ad σ tl) s.heap.size = A at hD hE hA ⊢
  have hS : va_S A s.heap s.heap [] := va_S.rf
  have hl := lv_entry ([.ref (ad 0), .int a1, .int a2, .int a3]) (n := 6) (Nat.le_of_ble_eq_true rfl)
  rw [lg_entry_eq]
  generalize (lg_sl ([.ref (ad 0), .int a1, .int a2, .int a3]) ++ List.replicate (6 - (lg_sl ([.ref (ad 0), .int a1, .int a2, .int a3])).length) Slot.unset).toArray = ls at hl ⊢
  have hl : lv_has ls 6 [(0, .ref (ad 0)), (1, .int a1), (2, .int a2), (3, .int a3)] := hl
  generalize hR : (f_X5_shelve σ a1 a2 a3) = RV
  have hR := hR.symm
  unfold f_X5_shelve at hR
  obtain ⟨RVk, RVv, RVs⟩ := RV
  dsimp only
  obtain ⟨H, hH⟩ : ∃ z, z = s.heap := ⟨_, rfl⟩
  obtain ⟨locs, hlocs⟩ : ∃ z : List Loc, z = [] := ⟨_, rfl⟩
  rw [← hH] at hP
  have hS : va_S A s.heap H locs := by rw [hH, hlocs]; exact hS
  show W _ _ _ _ _ _ _ _ _ _ s.heap [] _ _ _ _
  rw [← hH, ← hlocs]
  clear hlocs
  refine lv_iload_n hx hb dX5_shelve_0 rfl (lv_at hl 1 rfl) ?_
  refine lv_iload_n hx hb dX5_shelve_1 rfl (lv_at hl 2 rfl) ?_
  refine zaxv (vx_runS (As := [.int a1, .int a2]) (rest := []) ⟨hx, hb, hml, hown, hts⟩ (c_X5_checkAlarm l hfl G cs ad tl σ a1 a2  H.size) (va_cwS 2 hts gX5_shelve_X5_checkAlarm rfl rfl rfl (by decide +kernel) ⟨Nat.le_of_ble_eq_true rfl, Nat.le_of_ble_eq_true rfl⟩) (zps hE hP hD hS hA) rfl rfl hl.1 rfl (lv_room (Nat.le_of_ble_eq_true rfl)) dX5_shelve_2 ⟨Nat.le_of_ble_eq_true rfl, Nat.le_of_ble_eq_true rfl⟩) hD hS hA (fun c_1 ce q9 H locs hP hD hS h1 h2 h3 => ?_) (fun c_1 H locs hP hD hS => ?_)
  · have hR := hR.trans (if_neg c_1)
    obtain ⟨e1, e2, e3⟩ := z3 hR.symm
    subst e1; subst e2; subst e3
    exact z_out htab hlocks h1 h2 h3 c_1 hP hD hS (by decide) (by decide)
  · have hR := hR.trans (if_pos c_1)
    refine lv_iload_n hx hb dX5_shelve_5 rfl (lv_at hl 1 rfl) ?_
    refine lv_iload_n hx hb dX5_shelve_6 rfl (lv_at hl 2 rfl) ?_
    refine zai (va_runS (As := [.int a1, .int a2]) (rest := []) ⟨hx, hb, hml, hown, hts⟩ (c_X5_alarmOf l G cs ad tl σ a1 a2  H.size) (va_cwS 2 hts gX5_shelve_X5_alarmOf rfl rfl rfl (by decide +kernel) ⟨Nat.le_of_ble_eq_true rfl, Nat.le_of_ble_eq_true rfl⟩) (zps hE hP hD hS hA) rfl rfl hl.1 rfl (lv_room (Nat.le_of_ble_eq_true rfl)) dX5_shelve_7 ⟨Nat.le_of_ble_eq_true rfl, Nat.le_of_ble_eq_true rfl⟩) hD hS hA (fun H locs hP hD hS => ?_)
    refine lv_istore (lv' := [(4, .int (f_X5_alarmOf a1 a2)), (0, .ref (ad 0)), (1, .int a1), (2, .int a2), (3, .int a3)]) hx hb dX5_shelve_10 hl (by decide) rfl (fun ls hl => ?_)
    refine lv_aload_n hx hb dX5_shelve_12 rfl (lv_at hl 1 rfl) ?_
    refine lv_iload hx hb dX5_shelve_13 (lv_at hl 0 rfl) ?_
    refine zaxv (vx_runV (As := [.int (f_X5_alarmOf a1 a2)]) (rest := []) ⟨hx, hb, hml, hown, hts⟩ (c_X5_checkActive l hfl G cs ad tl σ (f_X5_alarmOf a1 a2)  H.size) (cwV 1 hts gX5_shelve_X5_checkActive rfl rfl rfl (by decide +kernel) ⟨Nat.le_of_ble_eq_true rfl, Nat.le_of_ble_eq_true rfl⟩) (zpv hE hP hD hS hA (zg_0 cs ad σ tl) rfl) rfl rfl hl.1 rfl (lv_room (Nat.le_of_ble_eq_true rfl)) dX5_shelve_15 ⟨Nat.le_of_ble_eq_true rfl, Nat.le_of_ble_eq_true rfl⟩) hD hS hA (fun c_2 ce q9 H locs hP hD hS h1 h2 h3 => ?_) (fun c_2 H locs hP hD hS => ?_)
    · have hR := hR.trans (if_neg c_2)
      obtain ⟨e1, e2, e3⟩ := z3 hR.symm
      subst e1; subst e2; subst e3
      exact z_out htab hlocks h1 h2 h3 c_2 hP hD hS (by decide) (by decide)
    · have hR := hR.trans (if_pos c_2)
      refine lv_iload_n hx hb dX5_shelve_18 rfl (lv_at hl 4 rfl) ?_
      refine lv_iconst (v := 1) hx hb dX5_shelve_19 (by decide) ?_
      refine lv_icmp_lt (tgt := 29) hx hb dX5_shelve_20 (by decide) (fun c_3 => ?_) (fun c_3 => ?_)
      · have hR := hR.trans (if_pos c_3)
        obtain ⟨e1, e2, e3⟩ := z3 hR.symm
        subst e1; subst e2; subst e3
        exact z_thr (k := 2) (is := 107) (text := "no such number of hours") hx hb hfl zf_2.1 zf_2.2.1 zf_2.2.2 (fun w h => hts w (List.mem_cons_of_mem _ (List.mem_append_left _ (List.mem_append_left _ (List.mem_append_left _ (List.mem_append_left _ (List.mem_append_right _ h))))))) (hts (.classLink RX5 105 "java/lang/IllegalArgumentException") (by decide +kernel)) (hts (.initialized "java/lang/IllegalArgumentException") (by decide +kernel)) (hE.2.1 _ (List.mem_of_getElem? (i := 4) rfl)) (hE.2.2.1 (107, "no such number of hours") (by decide +kernel)) hown hE hP hD hS (by rw [hl.1, hml]) dX5_shelve_29 dX5_shelve_32 dX5_shelve_33 dX5_shelve_35 dX5_shelve_38 htab (by decide) (by decide) (by decide) (by decide) hlocks (by decide) rfl (by decide) (by decide)
      · have hR := hR.trans (if_neg c_3)
        refine lv_iload_n hx hb dX5_shelve_23 rfl (lv_at hl 4 rfl) ?_
        refine lv_bipush (v := 24) hx hb dX5_shelve_24 (by decide) ?_
        refine lv_icmp_le (tgt := 39) hx hb dX5_shelve_26 (by decide) (fun c_4 => ?_) (fun c_4 => ?_)
        · have hR := hR.trans (if_pos c_4)
          refine lv_aload_n hx hb dX5_shelve_39 rfl (lv_at hl 1 rfl) ?_
          refine va_get (D := G) (ci := 7) (v := .ref (ad 9)) (C := RX5) (T := TX5) (N := 7) hx hb hts iX5_shelve hown hE.1 hP 0 (zg_0 cs ad σ tl) rfl 2 (by decide) (hts (.fieldLink RX5 23 "HandoverDeck" "board" "LHandoverDeck$AlarmBoard;") (by decide +kernel)) (fun _ h9 => h9) rfl dX5_shelve_40 ?_
          refine lv_iload hx hb dX5_shelve_43 (lv_at hl 0 rfl) ?_
          refine lv_aload_n hx hb dX5_shelve_45 rfl (lv_at hl 1 rfl) ?_
          refine va_get (D := G) (ci := 7) (v := .int (σ 0 6)) (C := RX5) (T := TX5) (N := 7) hx hb hts iX5_shelve hown hE.1 hP 0 (zg_0 cs ad σ tl) rfl 6 (by decide) (hts (.fieldLink RX5 81 "HandoverDeck" "now" "I") (by decide +kernel)) (fun _ h9 => h9) rfl dX5_shelve_46 ?_
          refine zai (va_runV (As := [.int (f_X5_alarmOf a1 a2), .int (σ 0 6)]) (rest := []) ⟨hx, hb, hml, hown, hts⟩ (c_X0_isOnShelf l G cs ad tl σ (f_X5_alarmOf a1 a2) (σ 0 6)  H.size) (cwV 2 hts gX5_shelve_X0_isOnShelf rfl rfl rfl (by decide +kernel) ⟨Nat.le_of_ble_eq_true rfl, Nat.le_of_ble_eq_true rfl⟩) (zpv hE hP hD hS hA (zg_9 cs ad σ tl) rfl) rfl rfl hl.1 rfl (lv_room (Nat.le_of_ble_eq_true rfl)) dX5_shelve_49 ⟨Nat.le_of_ble_eq_true rfl, Nat.le_of_ble_eq_true rfl⟩) hD hS hA (fun H locs hP hD hS => ?_)
          refine lv_if_eq (tgt := 65) hx hb dX5_shelve_52 (by decide) (fun c_5 => ?_) (fun c_5 => ?_)
          · have hR := hR.trans (if_pos c_5)
            refine lv_aload_n hx hb dX5_shelve_65 rfl (lv_at hl 1 rfl) ?_
            refine va_get (D := G) (ci := 7) (v := .int (σ 0 6)) (C := RX5) (T := TX5) (N := 7) hx hb hts iX5_shelve hown hE.1 hP 0 (zg_0 cs ad σ tl) rfl 6 (by decide) (hts (.fieldLink RX5 81 "HandoverDeck" "now" "I") (by decide +kernel)) (fun _ h9 => h9) rfl dX5_shelve_66 ?_
            refine lv_iload_n hx hb dX5_shelve_69 rfl (lv_at hl 4 rfl) ?_
            refine lv_iadd hx hb dX5_shelve_70 ?_
            refine lv_istore (lv' := [(5, .int ((σ 0 6) + a3)), (4, .int (f_X5_alarmOf a1 a2)), (0, .ref (ad 0)), (1, .int a1), (2, .int a2), (3, .int a3)]) hx hb dX5_shelve_71 hl (by decide) rfl (fun ls hl => ?_)
            refine lv_aload_n hx hb dX5_shelve_73 rfl (lv_at hl 2 rfl) ?_
            refine va_get (D := G) (ci := 7) (v := .ref (ad 9)) (C := RX5) (T := TX5) (N := 7) hx hb hts iX5_shelve hown hE.1 hP 0 (zg_0 cs ad σ tl) rfl 2 (by decide) (hts (.fieldLink RX5 23 "HandoverDeck" "board" "LHandoverDeck$AlarmBoard;") (by decide +kernel)) (fun _ h9 => h9) rfl dX5_shelve_74 ?_
            refine lv_iload hx hb dX5_shelve_77 (lv_at hl 1 rfl) ?_
            refine lv_iload hx hb dX5_shelve_79 (lv_at hl 0 rfl) ?_
            refine zav (va_runV (As := [.int (f_X5_alarmOf a1 a2), .int ((σ 0 6) + a3)]) (rest := []) ⟨hx, hb, hml, hown, hts⟩ (c_X0_putOnShelf l G cs ad tl σ (f_X5_alarmOf a1 a2) ((σ 0 6) + a3)  H.size) (cwV 2 hts gX5_shelve_X0_putOnShelf rfl rfl rfl (by decide +kernel) ⟨Nat.le_of_ble_eq_true rfl, Nat.le_of_ble_eq_true rfl⟩) (zpv hE hP hD hS hA (zg_9 cs ad σ tl) rfl) rfl rfl hl.1 rfl (lv_room (Nat.le_of_ble_eq_true rfl)) dX5_shelve_81 ⟨Nat.le_of_ble_eq_true rfl, Nat.le_of_ble_eq_true rfl⟩) hD hS hA (fun H locs hP hD hS => ?_)
            refine lv_iload hx hb dX5_shelve_84 (lv_at hl 0 rfl) ?_
            obtain ⟨e1, e2, e3⟩ := z3 hR.symm
            subst e1; subst e2; subst e3
            refine W.widen (k := 4) (n := 24) (by decide) (by decide) ?_
            refine vx_ret ?_
            exact W.iret (v := ((σ 0 6) + a3)) hx hb hr (fun t ht hW => ⟨⟨_, (), rfl, ⟨rfl, rfl⟩, by rw [ht]; exact hP, hD⟩, hS.F ht⟩) hS.2.2 dX5_shelve_86
          · have hR := hR.trans (if_neg c_5)
            obtain ⟨e1, e2, e3⟩ := z3 hR.symm
            subst e1; subst e2; subst e3
            exact z_thr (k := 3) (is := 114) (text := "the alarm is shelved") hx hb hfl zf_3.1 zf_3.2.1 zf_3.2.2 (fun w h => hts w (List.mem_cons_of_mem _ (List.mem_append_left _ (List.mem_append_left _ (List.mem_append_left _ (List.mem_append_right _ h)))))) (hts (.classLink RX5 71 "java/lang/IllegalStateException") (by decide +kernel)) (hts (.initialized "java/lang/IllegalStateException") (by decide +kernel)) (hE.2.1 _ (List.mem_of_getElem? (i := 5) rfl)) (hE.2.2.1 (114, "the alarm is shelved") (by decide +kernel)) hown hE hP hD hS (by rw [hl.1, hml]) dX5_shelve_55 dX5_shelve_58 dX5_shelve_59 dX5_shelve_61 dX5_shelve_64 htab (by decide) (by decide) (by decide) (by decide) hlocks (by decide) rfl (by decide) (by decide)
        · have hR := hR.trans (if_neg c_4)
          obtain ⟨e1, e2, e3⟩ := z3 hR.symm
          subst e1; subst e2; subst e3
          exact z_thr (k := 2) (is := 107) (text := "no such number of hours") hx hb hfl zf_2.1 zf_2.2.1 zf_2.2.2 (fun w h => hts w (List.mem_cons_of_mem _ (List.mem_append_left _ (List.mem_append_left _ (List.mem_append_left _ (List.mem_append_left _ (List.mem_append_right _ h))))))) (hts (.classLink RX5 105 "java/lang/IllegalArgumentException") (by decide +kernel)) (hts (.initialized "java/lang/IllegalArgumentException") (by decide +kernel)) (hE.2.1 _ (List.mem_of_getElem? (i := 4) rfl)) (hE.2.2.1 (107, "no such number of hours") (by decide +kernel)) hown hE hP hD hS (by rw [hl.1, hml]) dX5_shelve_29 dX5_shelve_32 dX5_shelve_33 dX5_shelve_35 dX5_shelve_38 htab (by decide) (by decide) (by decide) (by decide) hlocks (by decide) rfl (by decide) (by decide)
def f_X5_isShelved (σ : zS) (a1 : Int32) (a2 : Int32) : Nat × Int32 × zS := (if (f_X5_checkAlarm a1 a2) = 0 then (0, (f_X0_isOnShelf σ (f_X5_alarmOf a1 a2) (σ 0 6)), σ) else ((f_X5_checkAlarm a1 a2), 0, σ))
theorem iX5_isShelved : ∀ w ∈ u_ws RX5 TX5 7, w ∈ wsX5_isShelved := by decide +kernel
set_option maxRecDepth 100000 in
theorem c_X5_isShelved (l : Launch) (hfl : l.stackTraces = false) (G : va_G) (cs : Nat → ClassId) (ad : Nat → Nat) (tl : va_W) (σ : zS) (a1 : Int32) (a2 : Int32)  : zXi l yX5_isShelved wsX5_isShelved { frames := 8, cells := 2, slots := 12, locals := 131 } G cs [.ref (ad 0), .int a1, .int a2] (zw cs ad σ tl) (f_X5_isShelved σ a1 a2).1 (f_X5_isShelved σ a1 a2).2.1 (zw cs ad (f_X5_isShelved σ a1 a2).2.2 tl) 2 12 := by
  intro sz
  refine vx_ofW (cc := cX5_isShelved) (maxL := 3) (ret := (some .boolean)) (by decide) rfl ?_
  intro p e s m args below meth c s₁ B hml htab hv
  obtain ⟨rfl, hsz, hP, hD0, hE⟩ := hv
  have hx := B.exec
  have hb := B.bytes
  have hr := B.returns
  have hts := atoms_spec (ws := wsX5_isShelved) B.pre
  have hown : s.vm.findClass RX5 = some m.cls := findClass_of_methodNamed B.named
  have hlocks := B.notSynchronized
  subst hsz
  have hD := hD0.self (sz := s.heap.size)
  have hA : ∀ q : Nat, s.heap.size ≤ q → (va_A (zw cs ad σ tl) s.heap.size) q := fun q h => Or.inr h
  generalize va_A (zw cs ad σ tl) s.heap.size = A at hD hE hA ⊢
  have hS : va_S A s.heap s.heap [] := va_S.rf
  have hl := lv_entry ([.ref (ad 0), .int a1, .int a2]) (n := 3) (Nat.le_of_ble_eq_true rfl)
  rw [lg_entry_eq]
  generalize (lg_sl ([.ref (ad 0), .int a1, .int a2]) ++ List.replicate (3 - (lg_sl ([.ref (ad 0), .int a1, .int a2])).length) Slot.unset).toArray = ls at hl ⊢
  have hl : lv_has ls 3 [(0, .ref (ad 0)), (1, .int a1), (2, .int a2)] := hl
  generalize hR : (f_X5_isShelved σ a1 a2) = RV
  have hR := hR.symm
  unfold f_X5_isShelved at hR
  obtain ⟨RVk, RVv, RVs⟩ := RV
  dsimp only
  obtain ⟨H, hH⟩ : ∃ z, z = s.heap := ⟨_, rfl⟩
  obtain ⟨locs, hlocs⟩ : ∃ z : List Loc, z = [] := ⟨_, rfl⟩
  rw [← hH] at hP
  have hS : va_S A s.heap H locs := by rw [hH, hlocs]; exact hS
  show W _ _ _ _ _ _ _ _ _ _ s.heap [] _ _ _ _
  rw [← hH, ← hlocs]
  clear hlocs
  refine lv_iload_n hx hb dX5_isShelved_0 rfl (lv_at hl 1 rfl) ?_
  refine lv_iload_n hx hb dX5_isShelved_1 rfl (lv_at hl 2 rfl) ?_
  refine zaxv (vx_runS (As := [.int a1, .int a2]) (rest := []) ⟨hx, hb, hml, hown, hts⟩ (c_X5_checkAlarm l hfl G cs ad tl σ a1 a2  H.size) (va_cwS 2 hts gX5_isShelved_X5_checkAlarm rfl rfl rfl (by decide +kernel) ⟨Nat.le_of_ble_eq_true rfl, Nat.le_of_ble_eq_true rfl⟩) (zps hE hP hD hS hA) rfl rfl hl.1 rfl (lv_room (Nat.le_of_ble_eq_true rfl)) dX5_isShelved_2 ⟨Nat.le_of_ble_eq_true rfl, Nat.le_of_ble_eq_true rfl⟩) hD hS hA (fun c_1 ce q9 H locs hP hD hS h1 h2 h3 => ?_) (fun c_1 H locs hP hD hS => ?_)
  · have hR := hR.trans (if_neg c_1)
    obtain ⟨e1, e2, e3⟩ := z3 hR.symm
    subst e1; subst e2; subst e3
    exact z_out htab hlocks h1 h2 h3 c_1 hP hD hS (by decide) (by decide)
  · have hR := hR.trans (if_pos c_1)
    refine lv_aload_n hx hb dX5_isShelved_5 rfl (lv_at hl 0 rfl) ?_
    refine va_get (D := G) (ci := 7) (v := .ref (ad 9)) (C := RX5) (T := TX5) (N := 7) hx hb hts iX5_isShelved hown hE.1 hP 0 (zg_0 cs ad σ tl) rfl 2 (by decide) (hts (.fieldLink RX5 23 "HandoverDeck" "board" "LHandoverDeck$AlarmBoard;") (by decide +kernel)) (fun _ h9 => h9) rfl dX5_isShelved_6 ?_
    refine lv_iload_n hx hb dX5_isShelved_9 rfl (lv_at hl 1 rfl) ?_
    refine lv_iload_n hx hb dX5_isShelved_10 rfl (lv_at hl 2 rfl) ?_
    refine zai (va_runS (As := [.int a1, .int a2]) (rest := [.ref (ad 9)]) ⟨hx, hb, hml, hown, hts⟩ (c_X5_alarmOf l G cs ad tl σ a1 a2  H.size) (va_cwS 2 hts gX5_isShelved_X5_alarmOf rfl rfl rfl (by decide +kernel) ⟨Nat.le_of_ble_eq_true rfl, Nat.le_of_ble_eq_true rfl⟩) (zps hE hP hD hS hA) rfl rfl hl.1 rfl (lv_room (Nat.le_of_ble_eq_true rfl)) dX5_isShelved_11 ⟨Nat.le_of_ble_eq_true rfl, Nat.le_of_ble_eq_true rfl⟩) hD hS hA (fun H locs hP hD hS => ?_)
    refine lv_aload_n hx hb dX5_isShelved_14 rfl (lv_at hl 0 rfl) ?_
    refine va_get (D := G) (ci := 7) (v := .int (σ 0 6)) (C := RX5) (T := TX5) (N := 7) hx hb hts iX5_isShelved hown hE.1 hP 0 (zg_0 cs ad σ tl) rfl 6 (by decide) (hts (.fieldLink RX5 81 "HandoverDeck" "now" "I") (by decide +kernel)) (fun _ h9 => h9) rfl dX5_isShelved_15 ?_
    refine zai (va_runV (As := [.int (f_X5_alarmOf a1 a2), .int (σ 0 6)]) (rest := []) ⟨hx, hb, hml, hown, hts⟩ (c_X0_isOnShelf l G cs ad tl σ (f_X5_alarmOf a1 a2) (σ 0 6)  H.size) (cwV 2 hts gX5_isShelved_X0_isOnShelf rfl rfl rfl (by decide +kernel) ⟨Nat.le_of_ble_eq_true rfl, Nat.le_of_ble_eq_true rfl⟩) (zpv hE hP hD hS hA (zg_9 cs ad σ tl) rfl) rfl rfl hl.1 rfl (lv_room (Nat.le_of_ble_eq_true rfl)) dX5_isShelved_18 ⟨Nat.le_of_ble_eq_true rfl, Nat.le_of_ble_eq_true rfl⟩) hD hS hA (fun H locs hP hD hS => ?_)
    obtain ⟨e1, e2, e3⟩ := z3 hR.symm
    subst e1; subst e2; subst e3
    refine W.widen (k := 2) (n := 12) (by decide) (by decide) ?_
    refine vx_ret ?_
    exact W.zret (v := (f_X0_isOnShelf σ (f_X5_alarmOf a1 a2) (σ 0 6))) hx hb hr (nar_X0_isOnShelf σ (f_X5_alarmOf a1 a2) (σ 0 6)) (fun t ht hW => ⟨⟨_, (), rfl, ⟨rfl, rfl⟩, by rw [ht]; exact hP, hD⟩, hS.F ht⟩) hS.2.2 dX5_isShelved_21
def f_X5_alarms (σ : zS) (a1 : Int32) : Nat × Int32 × zS := (if (f_X5_checkPriority a1) = 0 then (0, (f_X0_countSounding σ a1 (σ 0 6)), σ) else ((f_X5_checkPriority a1), 0, σ))
theorem iX5_alarms : ∀ w ∈ u_ws RX5 TX5 7, w ∈ wsX5_alarms := by decide +kernel
set_option maxRecDepth 100000 in
theorem c_X5_alarms (l : Launch) (hfl : l.stackTraces = false) (G : va_G) (cs : Nat → ClassId) (ad : Nat → Nat) (tl : va_W) (σ : zS) (a1 : Int32)  : zXi l yX5_alarms wsX5_alarms { frames := 7, cells := 1, slots := 6, locals := 110 } G cs [.ref (ad 0), .int a1] (zw cs ad σ tl) (f_X5_alarms σ a1).1 (f_X5_alarms σ a1).2.1 (zw cs ad (f_X5_alarms σ a1).2.2 tl) 1 6 := by
  intro sz
  refine vx_ofW (cc := cX5_alarms) (maxL := 2) (ret := (some .int)) (by decide) rfl ?_
  intro p e s m args below meth c s₁ B hml htab hv
  obtain ⟨rfl, hsz, hP, hD0, hE⟩ := hv
  have hx := B.exec
  have hb := B.bytes
  have hr := B.returns
  have hts := atoms_spec (ws := wsX5_alarms) B.pre
  have hown : s.vm.findClass RX5 = some m.cls := findClass_of_methodNamed B.named
  have hlocks := B.notSynchronized
  subst hsz
  have hD := hD0.self (sz := s.heap.size)
  have hA : ∀ q : Nat, s.heap.size ≤ q → (va_A (zw cs ad σ tl) s.heap.size) q := fun q h => Or.inr h
  generalize va_A (zw cs ad σ tl) s.heap.size = A at hD hE hA ⊢
  have hS : va_S A s.heap s.heap [] := va_S.rf
  have hl := lv_entry ([.ref (ad 0), .int a1]) (n := 2) (Nat.le_of_ble_eq_true rfl)
  rw [lg_entry_eq]
  generalize (lg_sl ([.ref (ad 0), .int a1]) ++ List.replicate (2 - (lg_sl ([.ref (ad 0), .int a1])).length) Slot.unset).toArray = ls at hl ⊢
  have hl : lv_has ls 2 [(0, .ref (ad 0)), (1, .int a1)] := hl
  generalize hR : (f_X5_alarms σ a1) = RV
  have hR := hR.symm
  unfold f_X5_alarms at hR
  obtain ⟨RVk, RVv, RVs⟩ := RV
  dsimp only
  obtain ⟨H, hH⟩ : ∃ z, z = s.heap := ⟨_, rfl⟩
  obtain ⟨locs, hlocs⟩ : ∃ z : List Loc, z = [] := ⟨_, rfl⟩
  rw [← hH] at hP
  have hS : va_S A s.heap H locs := by rw [hH, hlocs]; exact hS
  show W _ _ _ _ _ _ _ _ _ _ s.heap [] _ _ _ _
  rw [← hH, ← hlocs]
  clear hlocs
  refine lv_iload_n hx hb dX5_alarms_0 rfl (lv_at hl 1 rfl) ?_
  refine zaxv (vx_runS (As := [.int a1]) (rest := []) ⟨hx, hb, hml, hown, hts⟩ (c_X5_checkPriority l hfl G cs ad tl σ a1  H.size) (va_cwS 1 hts gX5_alarms_X5_checkPriority rfl rfl rfl (by decide +kernel) ⟨Nat.le_of_ble_eq_true rfl, Nat.le_of_ble_eq_true rfl⟩) (zps hE hP hD hS hA) rfl rfl hl.1 rfl (lv_room (Nat.le_of_ble_eq_true rfl)) dX5_alarms_1 ⟨Nat.le_of_ble_eq_true rfl, Nat.le_of_ble_eq_true rfl⟩) hD hS hA (fun c_1 ce q9 H locs hP hD hS h1 h2 h3 => ?_) (fun c_1 H locs hP hD hS => ?_)
  · have hR := hR.trans (if_neg c_1)
    obtain ⟨e1, e2, e3⟩ := z3 hR.symm
    subst e1; subst e2; subst e3
    exact z_out htab hlocks h1 h2 h3 c_1 hP hD hS (by decide) (by decide)
  · have hR := hR.trans (if_pos c_1)
    refine lv_aload_n hx hb dX5_alarms_4 rfl (lv_at hl 0 rfl) ?_
    refine va_get (D := G) (ci := 7) (v := .ref (ad 9)) (C := RX5) (T := TX5) (N := 7) hx hb hts iX5_alarms hown hE.1 hP 0 (zg_0 cs ad σ tl) rfl 2 (by decide) (hts (.fieldLink RX5 23 "HandoverDeck" "board" "LHandoverDeck$AlarmBoard;") (by decide +kernel)) (fun _ h9 => h9) rfl dX5_alarms_5 ?_
    refine lv_iload_n hx hb dX5_alarms_8 rfl (lv_at hl 1 rfl) ?_
    refine lv_aload_n hx hb dX5_alarms_9 rfl (lv_at hl 0 rfl) ?_
    refine va_get (D := G) (ci := 7) (v := .int (σ 0 6)) (C := RX5) (T := TX5) (N := 7) hx hb hts iX5_alarms hown hE.1 hP 0 (zg_0 cs ad σ tl) rfl 6 (by decide) (hts (.fieldLink RX5 81 "HandoverDeck" "now" "I") (by decide +kernel)) (fun _ h9 => h9) rfl dX5_alarms_10 ?_
    refine zai (va_runV (As := [.int a1, .int (σ 0 6)]) (rest := []) ⟨hx, hb, hml, hown, hts⟩ (c_X0_countSounding l G cs ad tl σ a1 (σ 0 6)  H.size) (cwV 2 hts gX5_alarms_X0_countSounding rfl rfl rfl (by decide +kernel) ⟨Nat.le_of_ble_eq_true rfl, Nat.le_of_ble_eq_true rfl⟩) (zpv hE hP hD hS hA (zg_9 cs ad σ tl) rfl) rfl rfl hl.1 rfl (lv_room (Nat.le_of_ble_eq_true rfl)) dX5_alarms_13 ⟨Nat.le_of_ble_eq_true rfl, Nat.le_of_ble_eq_true rfl⟩) hD hS hA (fun H locs hP hD hS => ?_)
    obtain ⟨e1, e2, e3⟩ := z3 hR.symm
    subst e1; subst e2; subst e3
    refine W.widen (k := 1) (n := 6) (by decide) (by decide) ?_
    refine vx_ret ?_
    exact W.iret (v := (f_X0_countSounding σ a1 (σ 0 6))) hx hb hr (fun t ht hW => ⟨⟨_, (), rfl, ⟨rfl, rfl⟩, by rw [ht]; exact hP, hD⟩, hS.F ht⟩) hS.2.2 dX5_alarms_16
def f_X5_top (σ : zS)  : Nat × Int32 × zS := (if (f_X0_topLine σ (σ 0 6)) = (-1) then (4, 0, σ) else (0, (f_X0_topLine σ (σ 0 6)), σ))
theorem iX5_top : ∀ w ∈ u_ws RX5 TX5 7, w ∈ wsX5_top := by decide +kernel
set_option maxRecDepth 100000 in
theorem c_X5_top (l : Launch) (hfl : l.stackTraces = false) (G : va_G) (cs : Nat → ClassId) (ad : Nat → Nat) (tl : va_W) (σ : zS)   : zXi l yX5_top wsX5_top { frames := 6, cells := 1, slots := 6, locals := 108 } G cs [.ref (ad 0)] (zw cs ad σ tl) (f_X5_top σ ).1 (f_X5_top σ ).2.1 (zw cs ad (f_X5_top σ ).2.2 tl) 1 6 := by
  intro sz
  refine vx_ofW (cc := cX5_top) (maxL := 2) (ret := (some .int)) (by decide) rfl ?_
  intro p e s m args below meth c s₁ B hml htab hv
  obtain ⟨rfl, hsz, hP, hD0, hE⟩ := hv
  have hx := B.exec
  have hb := B.bytes
  have hr := B.returns
  have hts := atoms_spec (ws := wsX5_top) B.pre
  have hown : s.vm.findClass RX5 = some m.cls := findClass_of_methodNamed B.named
  have hlocks := B.notSynchronized
  subst hsz
  have hD := hD0.self (sz := s.heap.size)
  have hA : ∀ q : Nat, s.heap.size ≤ q → (va_A (zw cs ad σ tl) s.heap.size) q := fun q h => Or.inr h
  generalize va_A (zw cs ad σ tl) s.heap.size = A at hD hE hA ⊢
  have hS : va_S A s.heap s.heap [] := va_S.rf
  have hl := lv_entry ([.ref (ad 0)]) (n := 2) (Nat.le_of_ble_eq_true rfl)
  rw [lg_entry_eq]
  generalize (lg_sl ([.ref (ad 0)]) ++ List.replicate (2 - (lg_sl ([.ref (ad 0)])).length) Slot.unset).toArray = ls at hl ⊢
  have hl : lv_has ls 2 [(0, .ref (ad 0))] := hl
  generalize hR : (f_X5_top σ ) = RV
  have hR := hR.symm
  unfold f_X5_top at hR
  obtain ⟨RVk, RVv, RVs⟩ := RV
  dsimp only
  obtain ⟨H, hH⟩ : ∃ z, z = s.heap := ⟨_, rfl⟩
  obtain ⟨locs, hlocs⟩ : ∃ z : List Loc, z = [] := ⟨_, rfl⟩
  rw [← hH] at hP
  have hS : va_S A s.heap H locs := by rw [hH, hlocs]; exact hS
  show W _ _ _ _ _ _ _ _ _ _ s.heap [] _ _ _ _
  rw [← hH, ← hlocs]
  clear hlocs
  refine lv_aload_n hx hb dX5_top_0 rfl (lv_at hl 0 rfl) ?_
  refine va_get (D := G) (ci := 7) (v := .ref (ad 9)) (C := RX5) (T := TX5) (N := 7) hx hb hts iX5_top hown hE.1 hP 0 (zg_0 cs ad σ tl) rfl 2 (by decide) (hts (.fieldLink RX5 23 "HandoverDeck" "board" "LHandoverDeck$AlarmBoard;") (by decide +kernel)) (fun _ h9 => h9) rfl dX5_top_1 ?_
  refine lv_aload_n hx hb dX5_top_4 rfl (lv_at hl 0 rfl) ?_
  refine va_get (D := G) (ci := 7) (v := .int (σ 0 6)) (C := RX5) (T := TX5) (N := 7) hx hb hts iX5_top hown hE.1 hP 0 (zg_0 cs ad σ tl) rfl 6 (by decide) (hts (.fieldLink RX5 81 "HandoverDeck" "now" "I") (by decide +kernel)) (fun _ h9 => h9) rfl dX5_top_5 ?_
  refine zai (va_runV (As := [.int (σ 0 6)]) (rest := []) ⟨hx, hb, hml, hown, hts⟩ (c_X0_topLine l G cs ad tl σ (σ 0 6)  H.size) (cwV 1 hts gX5_top_X0_topLine rfl rfl rfl (by decide +kernel) ⟨Nat.le_of_ble_eq_true rfl, Nat.le_of_ble_eq_true rfl⟩) (zpv hE hP hD hS hA (zg_9 cs ad σ tl) rfl) rfl rfl hl.1 rfl (lv_room (Nat.le_of_ble_eq_true rfl)) dX5_top_8 ⟨Nat.le_of_ble_eq_true rfl, Nat.le_of_ble_eq_true rfl⟩) hD hS hA (fun H locs hP hD hS => ?_)
  refine lv_istore_n (lv' := [(1, .int (f_X0_topLine σ (σ 0 6))), (0, .ref (ad 0))]) hx hb dX5_top_11 rfl hl (by decide) rfl (fun ls hl => ?_)
  refine lv_iload_n hx hb dX5_top_12 rfl (lv_at hl 0 rfl) ?_
  refine lv_iconst (v := (-1)) hx hb dX5_top_13 (by decide) ?_
  refine lv_icmp_ne (tgt := 27) hx hb dX5_top_14 (by decide) (fun c_1 => ?_) (fun c_1 => ?_)
  · have hR := hR.trans (if_neg c_1)
    refine lv_iload_n hx hb dX5_top_27 rfl (lv_at hl 0 rfl) ?_
    obtain ⟨e1, e2, e3⟩ := z3 hR.symm
    subst e1; subst e2; subst e3
    refine W.widen (k := 1) (n := 6) (by decide) (by decide) ?_
    refine vx_ret ?_
    exact W.iret (v := (f_X0_topLine σ (σ 0 6))) hx hb hr (fun t ht hW => ⟨⟨_, (), rfl, ⟨rfl, rfl⟩, by rw [ht]; exact hP, hD⟩, hS.F ht⟩) hS.2.2 dX5_top_28
  · have hR := hR.trans (if_pos c_1)
    obtain ⟨e1, e2, e3⟩ := z3 hR.symm
    subst e1; subst e2; subst e3
    exact z_thrN (k := 4) (is := 127) (text := "no alarm is active and not shelved") hx hb hfl zf_4.1 zf_4.2.1 zf_4.2.2 (fun w h => hts w (List.mem_cons_of_mem _ (List.mem_append_left _ (List.mem_append_right _ h)))) (hts (.classLink RX5 125 "java/util/NoSuchElementException") (by decide +kernel)) (hts (.initialized "java/util/NoSuchElementException") (by decide +kernel)) (hE.2.1 _ (List.mem_of_getElem? (i := 6) rfl)) (hE.2.2.1 (127, "no alarm is active and not shelved") (by decide +kernel)) hown hE hP hD hS (by rw [hl.1, hml]) dX5_top_17 dX5_top_20 dX5_top_21 dX5_top_23 dX5_top_26 htab (by decide) (by decide) (by decide) (by decide) hlocks (by decide) rfl (by decide) (by decide)
def f_X5_addProcedure (σ : zS)  : Nat × Int32 × zS := (if (f_X4_isFull σ ) = 0 then (0, (f_X4_append σ ).1, (f_X4_append σ ).2) else (3, 0, σ))
theorem iX5_addProcedure : ∀ w ∈ u_ws RX5 TX5 7, w ∈ wsX5_addProcedure := by decide +kernel
set_option maxRecDepth 100000 in
theorem c_X5_addProcedure (l : Launch) (hfl : l.stackTraces = false) (G : va_G) (cs : Nat → ClassId) (ad : Nat → Nat) (tl : va_W) (σ : zS)   : zXi l yX5_addProcedure wsX5_addProcedure { frames := 6, cells := 1, slots := 6, locals := 90 } G cs [.ref (ad 0)] (zw cs ad σ tl) (f_X5_addProcedure σ ).1 (f_X5_addProcedure σ ).2.1 (zw cs ad (f_X5_addProcedure σ ).2.2 tl) 1 6 := by
  intro sz
  refine vx_ofW (cc := cX5_addProcedure) (maxL := 1) (ret := (some .int)) (by decide) rfl ?_
  intro p e s m args below meth c s₁ B hml htab hv
  obtain ⟨rfl, hsz, hP, hD0, hE⟩ := hv
  have hx := B.exec
  have hb := B.bytes
  have hr := B.returns
  have hts := atoms_spec (ws := wsX5_addProcedure) B.pre
  have hown : s.vm.findClass RX5 = some m.cls := findClass_of_methodNamed B.named
  have hlocks := B.notSynchronized
  subst hsz
  have hD := hD0.self (sz := s.heap.size)
  have hA : ∀ q : Nat, s.heap.size ≤ q → (va_A (zw cs ad σ tl) s.heap.size) q := fun q h => Or.inr h
  generalize va_A (zw cs ad σ tl) s.heap.size = A at hD hE hA ⊢
  have hS : va_S A s.heap s.heap [] := va_S.rf
  have hl := lv_entry ([.ref (ad 0)]) (n := 1) (Nat.le_of_ble_eq_true rfl)
  rw [lg_entry_eq]
  generalize (lg_sl ([.ref (ad 0)]) ++ List.replicate (1 - (lg_sl ([.ref (ad 0)])).length) Slot.unset).toArray = ls at hl ⊢
  have hl : lv_has ls 1 [(0, .ref (ad 0))] := hl
  generalize hR : (f_X5_addProcedure σ ) = RV
  have hR := hR.symm
  unfold f_X5_addProcedure at hR
  obtain ⟨RVk, RVv, RVs⟩ := RV
  dsimp only
  obtain ⟨H, hH⟩ : ∃ z, z = s.heap := ⟨_, rfl⟩
  obtain ⟨locs, hlocs⟩ : ∃ z : List Loc, z = [] := ⟨_, rfl⟩
  rw [← hH] at hP
  have hS : va_S A s.heap H locs := by rw [hH, hlocs]; exact hS
  show W _ _ _ _ _ _ _ _ _ _ s.heap [] _ _ _ _
  rw [← hH, ← hlocs]
  clear hlocs
  refine lv_aload_n hx hb dX5_addProcedure_0 rfl (lv_at hl 0 rfl) ?_
  refine va_get (D := G) (ci := 7) (v := .ref (ad 13)) (C := RX5) (T := TX5) (N := 7) hx hb hts iX5_addProcedure hown hE.1 hP 0 (zg_0 cs ad σ tl) rfl 3 (by decide) (hts (.fieldLink RX5 30 "HandoverDeck" "book" "LHandoverDeck$ProcedureBook;") (by decide +kernel)) (fun _ h9 => h9) rfl dX5_addProcedure_1 ?_
  refine zai (va_runV (As := []) (rest := []) ⟨hx, hb, hml, hown, hts⟩ (c_X4_isFull l G cs ad tl σ   H.size) (cwV 0 hts gX5_addProcedure_X4_isFull rfl rfl rfl (by decide +kernel) ⟨Nat.le_of_ble_eq_true rfl, Nat.le_of_ble_eq_true rfl⟩) (zpv hE hP hD hS hA (zg_13 cs ad σ tl) rfl) rfl rfl hl.1 rfl (lv_room (Nat.le_of_ble_eq_true rfl)) dX5_addProcedure_4 ⟨Nat.le_of_ble_eq_true rfl, Nat.le_of_ble_eq_true rfl⟩) hD hS hA (fun H locs hP hD hS => ?_)
  refine lv_if_eq (tgt := 20) hx hb dX5_addProcedure_7 (by decide) (fun c_1 => ?_) (fun c_1 => ?_)
  · have hR := hR.trans (if_pos c_1)
    refine lv_aload_n hx hb dX5_addProcedure_20 rfl (lv_at hl 0 rfl) ?_
    refine va_get (D := G) (ci := 7) (v := .ref (ad 13)) (C := RX5) (T := TX5) (N := 7) hx hb hts iX5_addProcedure hown hE.1 hP 0 (zg_0 cs ad σ tl) rfl 3 (by decide) (hts (.fieldLink RX5 30 "HandoverDeck" "book" "LHandoverDeck$ProcedureBook;") (by decide +kernel)) (fun _ h9 => h9) rfl dX5_addProcedure_21 ?_
    refine zai (va_runV (As := []) (rest := []) ⟨hx, hb, hml, hown, hts⟩ (c_X4_append l G cs ad tl σ   H.size) (cwV 0 hts gX5_addProcedure_X4_append rfl rfl rfl (by decide +kernel) ⟨Nat.le_of_ble_eq_true rfl, Nat.le_of_ble_eq_true rfl⟩) (zpv hE hP hD hS hA (zg_13 cs ad σ tl) rfl) rfl rfl hl.1 rfl (lv_room (Nat.le_of_ble_eq_true rfl)) dX5_addProcedure_24 ⟨Nat.le_of_ble_eq_true rfl, Nat.le_of_ble_eq_true rfl⟩) hD hS hA (fun H locs hP hD hS => ?_)
    obtain ⟨e1, e2, e3⟩ := z3 hR.symm
    subst e1; subst e2; subst e3
    refine W.widen (k := 1) (n := 6) (by decide) (by decide) ?_
    refine vx_ret ?_
    exact W.iret (v := (f_X4_append σ ).1) hx hb hr (fun t ht hW => ⟨⟨_, (), rfl, ⟨rfl, rfl⟩, by rw [ht]; exact hP, hD⟩, hS.F ht⟩) hS.2.2 dX5_addProcedure_27
  · have hR := hR.trans (if_neg c_1)
    obtain ⟨e1, e2, e3⟩ := z3 hR.symm
    subst e1; subst e2; subst e3
    exact z_thr (k := 3) (is := 134) (text := "there are 6 procedures") hx hb hfl zf_3.1 zf_3.2.1 zf_3.2.2 (fun w h => hts w (List.mem_cons_of_mem _ (List.mem_append_right _ h))) (hts (.classLink RX5 71 "java/lang/IllegalStateException") (by decide +kernel)) (hts (.initialized "java/lang/IllegalStateException") (by decide +kernel)) (hE.2.1 _ (List.mem_of_getElem? (i := 5) rfl)) (hE.2.2.1 (134, "there are 6 procedures") (by decide +kernel)) hown hE hP hD hS (by rw [hl.1, hml]) dX5_addProcedure_10 dX5_addProcedure_13 dX5_addProcedure_14 dX5_addProcedure_16 dX5_addProcedure_19 htab (by decide) (by decide) (by decide) (by decide) hlocks (by decide) rfl (by decide) (by decide)
def f_X5_addStep (σ : zS) (a1 : Int32) (a2 : Int32) (a3 : Int32) (a4 : Int32) (a5 : Int32) : Nat × Int32 × zS := (if (f_X5_checkProcedure σ a1) = 0 then (if (f_X5_checkUnit a2) = 0 then (if (f_X5_checkUnit a4) = 0 then (if (f_X5_checkState a3) = 0 then (if (f_X5_checkState a5) = 0 then (if (f_X4_stepCount σ a1) < 8 then (0, (f_X5_stepNumber (f_X4_appendStep σ a1).1), (f_X4_setEffect (f_X4_setNeed (f_X4_appendStep σ a1).2 (f_X4_appendStep σ a1).1 a2 a3) (f_X4_appendStep σ a1).1 a4 a5)) else (3, 0, σ)) else ((f_X5_checkState a5), 0, σ)) else ((f_X5_checkState a3), 0, σ)) else ((f_X5_checkUnit a4), 0, σ)) else ((f_X5_checkUnit a2), 0, σ)) else ((f_X5_checkProcedure σ a1), 0, σ))
theorem iX5_addStep : ∀ w ∈ u_ws RX5 TX5 7, w ∈ wsX5_addStep := by decide +kernel
set_option maxRecDepth 100000 in
theorem c_X5_addStep (l : Launch) (hfl : l.stackTraces = false) (G : va_G) (cs : Nat → ClassId) (ad : Nat → Nat) (tl : va_W) (σ : zS) (a1 : Int32) (a2 : Int32) (a3 : Int32) (a4 : Int32) (a5 : Int32)  : zXi l yX5_addStep wsX5_addStep { frames := 7, cells := 6, slots := 36, locals := 111 } G cs [.ref (ad 0), .int a1, .int a2, .int a3, .int a4, .int a5] (zw cs ad σ tl) (f_X5_addStep σ a1 a2 a3 a4 a5).1 (f_X5_addStep σ a1 a2 a3 a4 a5).2.1 (zw cs ad (f_X5_addStep σ a1 a2 a3 a4 a5).2.2 tl) 6 36 := by
  intro sz
  refine vx_ofW (cc := cX5_addStep) (maxL := 7) (ret := (some .int)) (by decide) rfl ?_
  intro p e s m args below meth c s₁ B hml htab hv
  obtain ⟨rfl, hsz, hP, hD0, hE⟩ := hv
  have hx := B.exec
  have hb := B.bytes
  have hr := B.returns
  have hts := atoms_spec (ws := wsX5_addStep) B.pre
  have hown : s.vm.findClass RX5 = some m.cls := findClass_of_methodNamed B.named
  have hlocks := B.notSynchronized
  subst hsz
  have hD := hD0.self (sz := s.heap.size)
  have hA : ∀ q : Nat, s.heap.size ≤ q → (va_A (zw cs ad σ tl) s.heap.size) q := fun q h => Or.inr h
  generalize va_A (zw cs ad σ tl) s.heap.size = A at hD hE hA ⊢
  have hS : va_S A s.heap s.heap [] := va_S.rf
  have hl := lv_entry ([.ref (ad 0), .int a1, .int a2, .int a3, .int a4, .int a5]) (n := 7) (Nat.le_of_ble_eq_true rfl)
  rw [lg_entry_eq]
  generalize (lg_sl ([.ref (ad 0), .int a1, .int a2, .int a3, .int a4, .int a5]) ++ List.replicate (7 - (lg_sl ([.ref (ad 0), .int a1, .int a2, .int a3, .int a4, .int a5])).length) Slot.unset).toArray = ls at hl ⊢
  have hl : lv_has ls 7 [(0, .ref (ad 0)), (1, .int a1), (2, .int a2), (3, .int a3), (4, .int a4), (5, .int a5)] := hl
  generalize hR : (f_X5_addStep σ a1 a2 a3 a4 a5) = RV
  have hR := hR.symm
  unfold f_X5_addStep at hR
  obtain ⟨RVk, RVv, RVs⟩ := RV
  dsimp only
  obtain ⟨H, hH⟩ : ∃ z, z = s.heap := ⟨_, rfl⟩
  obtain ⟨locs, hlocs⟩ : ∃ z : List Loc, z = [] := ⟨_, rfl⟩
  rw [← hH] at hP
  have hS : va_S A s.heap H locs := by rw [hH, hlocs]; exact hS
  show W _ _ _ _ _ _ _ _ _ _ s.heap [] _ _ _ _
  rw [← hH, ← hlocs]
  clear hlocs
  refine lv_aload_n hx hb dX5_addStep_0 rfl (lv_at hl 0 rfl) ?_
  refine lv_iload_n hx hb dX5_addStep_1 rfl (lv_at hl 1 rfl) ?_
  refine zaxv (vx_runV (As := [.int a1]) (rest := []) ⟨hx, hb, hml, hown, hts⟩ (c_X5_checkProcedure l hfl G cs ad tl σ a1  H.size) (cwV 1 hts gX5_addStep_X5_checkProcedure rfl rfl rfl (by decide +kernel) ⟨Nat.le_of_ble_eq_true rfl, Nat.le_of_ble_eq_true rfl⟩) (zpv hE hP hD hS hA (zg_0 cs ad σ tl) rfl) rfl rfl hl.1 rfl (lv_room (Nat.le_of_ble_eq_true rfl)) dX5_addStep_2 ⟨Nat.le_of_ble_eq_true rfl, Nat.le_of_ble_eq_true rfl⟩) hD hS hA (fun c_1 ce q9 H locs hP hD hS h1 h2 h3 => ?_) (fun c_1 H locs hP hD hS => ?_)
  · have hR := hR.trans (if_neg c_1)
    obtain ⟨e1, e2, e3⟩ := z3 hR.symm
    subst e1; subst e2; subst e3
    exact z_out htab hlocks h1 h2 h3 c_1 hP hD hS (by decide) (by decide)
  · have hR := hR.trans (if_pos c_1)
    refine lv_iload_n hx hb dX5_addStep_5 rfl (lv_at hl 2 rfl) ?_
    refine zaxv (vx_runS (As := [.int a2]) (rest := []) ⟨hx, hb, hml, hown, hts⟩ (c_X5_checkUnit l hfl G cs ad tl σ a2  H.size) (va_cwS 1 hts gX5_addStep_X5_checkUnit rfl rfl rfl (by decide +kernel) ⟨Nat.le_of_ble_eq_true rfl, Nat.le_of_ble_eq_true rfl⟩) (zps hE hP hD hS hA) rfl rfl hl.1 rfl (lv_room (Nat.le_of_ble_eq_true rfl)) dX5_addStep_6 ⟨Nat.le_of_ble_eq_true rfl, Nat.le_of_ble_eq_true rfl⟩) hD hS hA (fun c_2 ce q9 H locs hP hD hS h1 h2 h3 => ?_) (fun c_2 H locs hP hD hS => ?_)
    · have hR := hR.trans (if_neg c_2)
      obtain ⟨e1, e2, e3⟩ := z3 hR.symm
      subst e1; subst e2; subst e3
      exact z_out htab hlocks h1 h2 h3 c_2 hP hD hS (by decide) (by decide)
    · have hR := hR.trans (if_pos c_2)
      refine lv_iload hx hb dX5_addStep_9 (lv_at hl 4 rfl) ?_
      refine zaxv (vx_runS (As := [.int a4]) (rest := []) ⟨hx, hb, hml, hown, hts⟩ (c_X5_checkUnit l hfl G cs ad tl σ a4  H.size) (va_cwS 1 hts gX5_addStep_X5_checkUnit rfl rfl rfl (by decide +kernel) ⟨Nat.le_of_ble_eq_true rfl, Nat.le_of_ble_eq_true rfl⟩) (zps hE hP hD hS hA) rfl rfl hl.1 rfl (lv_room (Nat.le_of_ble_eq_true rfl)) dX5_addStep_11 ⟨Nat.le_of_ble_eq_true rfl, Nat.le_of_ble_eq_true rfl⟩) hD hS hA (fun c_3 ce q9 H locs hP hD hS h1 h2 h3 => ?_) (fun c_3 H locs hP hD hS => ?_)
      · have hR := hR.trans (if_neg c_3)
        obtain ⟨e1, e2, e3⟩ := z3 hR.symm
        subst e1; subst e2; subst e3
        exact z_out htab hlocks h1 h2 h3 c_3 hP hD hS (by decide) (by decide)
      · have hR := hR.trans (if_pos c_3)
        refine lv_iload_n hx hb dX5_addStep_14 rfl (lv_at hl 3 rfl) ?_
        refine zaxv (vx_runS (As := [.int a3]) (rest := []) ⟨hx, hb, hml, hown, hts⟩ (c_X5_checkState l hfl G cs ad tl σ a3  H.size) (va_cwS 1 hts gX5_addStep_X5_checkState rfl rfl rfl (by decide +kernel) ⟨Nat.le_of_ble_eq_true rfl, Nat.le_of_ble_eq_true rfl⟩) (zps hE hP hD hS hA) rfl rfl hl.1 rfl (lv_room (Nat.le_of_ble_eq_true rfl)) dX5_addStep_15 ⟨Nat.le_of_ble_eq_true rfl, Nat.le_of_ble_eq_true rfl⟩) hD hS hA (fun c_4 ce q9 H locs hP hD hS h1 h2 h3 => ?_) (fun c_4 H locs hP hD hS => ?_)
        · have hR := hR.trans (if_neg c_4)
          obtain ⟨e1, e2, e3⟩ := z3 hR.symm
          subst e1; subst e2; subst e3
          exact z_out htab hlocks h1 h2 h3 c_4 hP hD hS (by decide) (by decide)
        · have hR := hR.trans (if_pos c_4)
          refine lv_iload hx hb dX5_addStep_18 (lv_at hl 5 rfl) ?_
          refine zaxv (vx_runS (As := [.int a5]) (rest := []) ⟨hx, hb, hml, hown, hts⟩ (c_X5_checkState l hfl G cs ad tl σ a5  H.size) (va_cwS 1 hts gX5_addStep_X5_checkState rfl rfl rfl (by decide +kernel) ⟨Nat.le_of_ble_eq_true rfl, Nat.le_of_ble_eq_true rfl⟩) (zps hE hP hD hS hA) rfl rfl hl.1 rfl (lv_room (Nat.le_of_ble_eq_true rfl)) dX5_addStep_20 ⟨Nat.le_of_ble_eq_true rfl, Nat.le_of_ble_eq_true rfl⟩) hD hS hA (fun c_5 ce q9 H locs hP hD hS h1 h2 h3 => ?_) (fun c_5 H locs hP hD hS => ?_)
          · have hR := hR.trans (if_neg c_5)
            obtain ⟨e1, e2, e3⟩ := z3 hR.symm
            subst e1; subst e2; subst e3
            exact z_out htab hlocks h1 h2 h3 c_5 hP hD hS (by decide) (by decide)
          · have hR := hR.trans (if_pos c_5)
            refine lv_aload_n hx hb dX5_addStep_23 rfl (lv_at hl 0 rfl) ?_
            refine va_get (D := G) (ci := 7) (v := .ref (ad 13)) (C := RX5) (T := TX5) (N := 7) hx hb hts iX5_addStep hown hE.1 hP 0 (zg_0 cs ad σ tl) rfl 3 (by decide) (hts (.fieldLink RX5 30 "HandoverDeck" "book" "LHandoverDeck$ProcedureBook;") (by decide +kernel)) (fun _ h9 => h9) rfl dX5_addStep_24 ?_
            refine lv_iload_n hx hb dX5_addStep_27 rfl (lv_at hl 1 rfl) ?_
            refine zai (va_runV (As := [.int a1]) (rest := []) ⟨hx, hb, hml, hown, hts⟩ (c_X4_stepCount l G cs ad tl σ a1  H.size) (cwV 1 hts gX5_addStep_X4_stepCount rfl rfl rfl (by decide +kernel) ⟨Nat.le_of_ble_eq_true rfl, Nat.le_of_ble_eq_true rfl⟩) (zpv hE hP hD hS hA (zg_13 cs ad σ tl) rfl) rfl rfl hl.1 rfl (lv_room (Nat.le_of_ble_eq_true rfl)) dX5_addStep_28 ⟨Nat.le_of_ble_eq_true rfl, Nat.le_of_ble_eq_true rfl⟩) hD hS hA (fun H locs hP hD hS => ?_)
            refine lv_bipush (v := 8) hx hb dX5_addStep_31 (by decide) ?_
            refine lv_icmp_lt (tgt := 46) hx hb dX5_addStep_33 (by decide) (fun c_6 => ?_) (fun c_6 => ?_)
            · have hR := hR.trans (if_pos c_6)
              refine lv_aload_n hx hb dX5_addStep_46 rfl (lv_at hl 0 rfl) ?_
              refine va_get (D := G) (ci := 7) (v := .ref (ad 13)) (C := RX5) (T := TX5) (N := 7) hx hb hts iX5_addStep hown hE.1 hP 0 (zg_0 cs ad σ tl) rfl 3 (by decide) (hts (.fieldLink RX5 30 "HandoverDeck" "book" "LHandoverDeck$ProcedureBook;") (by decide +kernel)) (fun _ h9 => h9) rfl dX5_addStep_47 ?_
              refine lv_iload_n hx hb dX5_addStep_50 rfl (lv_at hl 1 rfl) ?_
              refine zai (va_runV (As := [.int a1]) (rest := []) ⟨hx, hb, hml, hown, hts⟩ (c_X4_appendStep l G cs ad tl σ a1  H.size) (cwV 1 hts gX5_addStep_X4_appendStep rfl rfl rfl (by decide +kernel) ⟨Nat.le_of_ble_eq_true rfl, Nat.le_of_ble_eq_true rfl⟩) (zpv hE hP hD hS hA (zg_13 cs ad σ tl) rfl) rfl rfl hl.1 rfl (lv_room (Nat.le_of_ble_eq_true rfl)) dX5_addStep_51 ⟨Nat.le_of_ble_eq_true rfl, Nat.le_of_ble_eq_true rfl⟩) hD hS hA (fun H locs hP hD hS => ?_)
              refine lv_istore (lv' := [(6, .int (f_X4_appendStep σ a1).1), (0, .ref (ad 0)), (1, .int a1), (2, .int a2), (3, .int a3), (4, .int a4), (5, .int a5)]) hx hb dX5_addStep_54 hl (by decide) rfl (fun ls hl => ?_)
              refine lv_aload_n hx hb dX5_addStep_56 rfl (lv_at hl 1 rfl) ?_
              refine va_get (D := G) (ci := 7) (v := .ref (ad 13)) (C := RX5) (T := TX5) (N := 7) hx hb hts iX5_addStep hown hE.1 hP 0 (zg_0 cs ad (f_X4_appendStep σ a1).2 tl) rfl 3 (by decide) (hts (.fieldLink RX5 30 "HandoverDeck" "book" "LHandoverDeck$ProcedureBook;") (by decide +kernel)) (fun _ h9 => h9) rfl dX5_addStep_57 ?_
              refine lv_iload hx hb dX5_addStep_60 (lv_at hl 0 rfl) ?_
              refine lv_iload_n hx hb dX5_addStep_62 rfl (lv_at hl 3 rfl) ?_
              refine lv_iload_n hx hb dX5_addStep_63 rfl (lv_at hl 4 rfl) ?_
              refine zav (va_runV (As := [.int (f_X4_appendStep σ a1).1, .int a2, .int a3]) (rest := []) ⟨hx, hb, hml, hown, hts⟩ (c_X4_setNeed l G cs ad tl (f_X4_appendStep σ a1).2 (f_X4_appendStep σ a1).1 a2 a3  H.size) (cwV 3 hts gX5_addStep_X4_setNeed rfl rfl rfl (by decide +kernel) ⟨Nat.le_of_ble_eq_true rfl, Nat.le_of_ble_eq_true rfl⟩) (zpv hE hP hD hS hA (zg_13 cs ad (f_X4_appendStep σ a1).2 tl) rfl) rfl rfl hl.1 rfl (lv_room (Nat.le_of_ble_eq_true rfl)) dX5_addStep_64 ⟨Nat.le_of_ble_eq_true rfl, Nat.le_of_ble_eq_true rfl⟩) hD hS hA (fun H locs hP hD hS => ?_)
              refine lv_aload_n hx hb dX5_addStep_67 rfl (lv_at hl 1 rfl) ?_
              refine va_get (D := G) (ci := 7) (v := .ref (ad 13)) (C := RX5) (T := TX5) (N := 7) hx hb hts iX5_addStep hown hE.1 hP 0 (zg_0 cs ad (f_X4_setNeed (f_X4_appendStep σ a1).2 (f_X4_appendStep σ a1).1 a2 a3) tl) rfl 3 (by decide) (hts (.fieldLink RX5 30 "HandoverDeck" "book" "LHandoverDeck$ProcedureBook;") (by decide +kernel)) (fun _ h9 => h9) rfl dX5_addStep_68 ?_
              refine lv_iload hx hb dX5_addStep_71 (lv_at hl 0 rfl) ?_
              refine lv_iload hx hb dX5_addStep_73 (lv_at hl 5 rfl) ?_
              refine lv_iload hx hb dX5_addStep_75 (lv_at hl 6 rfl) ?_
              refine zav (va_runV (As := [.int (f_X4_appendStep σ a1).1, .int a4, .int a5]) (rest := []) ⟨hx, hb, hml, hown, hts⟩ (c_X4_setEffect l G cs ad tl (f_X4_setNeed (f_X4_appendStep σ a1).2 (f_X4_appendStep σ a1).1 a2 a3) (f_X4_appendStep σ a1).1 a4 a5  H.size) (cwV 3 hts gX5_addStep_X4_setEffect rfl rfl rfl (by decide +kernel) ⟨Nat.le_of_ble_eq_true rfl, Nat.le_of_ble_eq_true rfl⟩) (zpv hE hP hD hS hA (zg_13 cs ad (f_X4_setNeed (f_X4_appendStep σ a1).2 (f_X4_appendStep σ a1).1 a2 a3) tl) rfl) rfl rfl hl.1 rfl (lv_room (Nat.le_of_ble_eq_true rfl)) dX5_addStep_77 ⟨Nat.le_of_ble_eq_true rfl, Nat.le_of_ble_eq_true rfl⟩) hD hS hA (fun H locs hP hD hS => ?_)
              refine lv_iload hx hb dX5_addStep_80 (lv_at hl 0 rfl) ?_
              refine zai (va_runS (As := [.int (f_X4_appendStep σ a1).1]) (rest := []) ⟨hx, hb, hml, hown, hts⟩ (c_X5_stepNumber l G cs ad tl (f_X4_setEffect (f_X4_setNeed (f_X4_appendStep σ a1).2 (f_X4_appendStep σ a1).1 a2 a3) (f_X4_appendStep σ a1).1 a4 a5) (f_X4_appendStep σ a1).1  H.size) (va_cwS 1 hts gX5_addStep_X5_stepNumber rfl rfl rfl (by decide +kernel) ⟨Nat.le_of_ble_eq_true rfl, Nat.le_of_ble_eq_true rfl⟩) (zps hE hP hD hS hA) rfl rfl hl.1 rfl (lv_room (Nat.le_of_ble_eq_true rfl)) dX5_addStep_82 ⟨Nat.le_of_ble_eq_true rfl, Nat.le_of_ble_eq_true rfl⟩) hD hS hA (fun H locs hP hD hS => ?_)
              obtain ⟨e1, e2, e3⟩ := z3 hR.symm
              subst e1; subst e2; subst e3
              refine W.widen (k := 6) (n := 36) (by decide) (by decide) ?_
              refine vx_ret ?_
              exact W.iret (v := (f_X5_stepNumber (f_X4_appendStep σ a1).1)) hx hb hr (fun t ht hW => ⟨⟨_, (), rfl, ⟨rfl, rfl⟩, by rw [ht]; exact hP, hD⟩, hS.F ht⟩) hS.2.2 dX5_addStep_85
            · have hR := hR.trans (if_neg c_6)
              obtain ⟨e1, e2, e3⟩ := z3 hR.symm
              subst e1; subst e2; subst e3
              exact z_thr (k := 3) (is := 149) (text := "the procedure has 8 steps") hx hb hfl zf_3.1 zf_3.2.1 zf_3.2.2 (fun w h => hts w (List.mem_cons_of_mem _ (List.mem_append_left _ (List.mem_append_left _ (List.mem_append_left _ (List.mem_append_left _ (List.mem_append_right _ h))))))) (hts (.classLink RX5 71 "java/lang/IllegalStateException") (by decide +kernel)) (hts (.initialized "java/lang/IllegalStateException") (by decide +kernel)) (hE.2.1 _ (List.mem_of_getElem? (i := 5) rfl)) (hE.2.2.1 (149, "the procedure has 8 steps") (by decide +kernel)) hown hE hP hD hS (by rw [hl.1, hml]) dX5_addStep_36 dX5_addStep_39 dX5_addStep_40 dX5_addStep_42 dX5_addStep_45 htab (by decide) (by decide) (by decide) (by decide) hlocks (by decide) rfl (by decide) (by decide)
def f_X5_done (σ : zS) (a1 : Int32) : Nat × Int32 × zS := (if (f_X5_checkProcedure σ a1) = 0 then (0, (f_X4_doneCount σ a1), σ) else ((f_X5_checkProcedure σ a1), 0, σ))
theorem iX5_done : ∀ w ∈ u_ws RX5 TX5 7, w ∈ wsX5_done := by decide +kernel
set_option maxRecDepth 100000 in
theorem c_X5_done (l : Launch) (hfl : l.stackTraces = false) (G : va_G) (cs : Nat → ClassId) (ad : Nat → Nat) (tl : va_W) (σ : zS) (a1 : Int32)  : zXi l yX5_done wsX5_done { frames := 7, cells := 1, slots := 6, locals := 111 } G cs [.ref (ad 0), .int a1] (zw cs ad σ tl) (f_X5_done σ a1).1 (f_X5_done σ a1).2.1 (zw cs ad (f_X5_done σ a1).2.2 tl) 1 6 := by
  intro sz
  refine vx_ofW (cc := cX5_done) (maxL := 2) (ret := (some .int)) (by decide) rfl ?_
  intro p e s m args below meth c s₁ B hml htab hv
  obtain ⟨rfl, hsz, hP, hD0, hE⟩ := hv
  have hx := B.exec
  have hb := B.bytes
  have hr := B.returns
  have hts := atoms_spec (ws := wsX5_done) B.pre
  have hown : s.vm.findClass RX5 = some m.cls := findClass_of_methodNamed B.named
  have hlocks := B.notSynchronized
  subst hsz
  have hD := hD0.self (sz := s.heap.size)
  have hA : ∀ q : Nat, s.heap.size ≤ q → (va_A (zw cs ad σ tl) s.heap.size) q := fun q h => Or.inr h
  generalize va_A (zw cs ad σ tl) s.heap.size = A at hD hE hA ⊢
  have hS : va_S A s.heap s.heap [] := va_S.rf
  have hl := lv_entry ([.ref (ad 0), .int a1]) (n := 2) (Nat.le_of_ble_eq_true rfl)
  rw [lg_entry_eq]
  generalize (lg_sl ([.ref (ad 0), .int a1]) ++ List.replicate (2 - (lg_sl ([.ref (ad 0), .int a1])).length) Slot.unset).toArray = ls at hl ⊢
  have hl : lv_has ls 2 [(0, .ref (ad 0)), (1, .int a1)] := hl
  generalize hR : (f_X5_done σ a1) = RV
  have hR := hR.symm
  unfold f_X5_done at hR
  obtain ⟨RVk, RVv, RVs⟩ := RV
  dsimp only
  obtain ⟨H, hH⟩ : ∃ z, z = s.heap := ⟨_, rfl⟩
  obtain ⟨locs, hlocs⟩ : ∃ z : List Loc, z = [] := ⟨_, rfl⟩
  rw [← hH] at hP
  have hS : va_S A s.heap H locs := by rw [hH, hlocs]; exact hS
  show W _ _ _ _ _ _ _ _ _ _ s.heap [] _ _ _ _
  rw [← hH, ← hlocs]
  clear hlocs
  refine lv_aload_n hx hb dX5_done_0 rfl (lv_at hl 0 rfl) ?_
  refine lv_iload_n hx hb dX5_done_1 rfl (lv_at hl 1 rfl) ?_
  refine zaxv (vx_runV (As := [.int a1]) (rest := []) ⟨hx, hb, hml, hown, hts⟩ (c_X5_checkProcedure l hfl G cs ad tl σ a1  H.size) (cwV 1 hts gX5_done_X5_checkProcedure rfl rfl rfl (by decide +kernel) ⟨Nat.le_of_ble_eq_true rfl, Nat.le_of_ble_eq_true rfl⟩) (zpv hE hP hD hS hA (zg_0 cs ad σ tl) rfl) rfl rfl hl.1 rfl (lv_room (Nat.le_of_ble_eq_true rfl)) dX5_done_2 ⟨Nat.le_of_ble_eq_true rfl, Nat.le_of_ble_eq_true rfl⟩) hD hS hA (fun c_1 ce q9 H locs hP hD hS h1 h2 h3 => ?_) (fun c_1 H locs hP hD hS => ?_)
  · have hR := hR.trans (if_neg c_1)
    obtain ⟨e1, e2, e3⟩ := z3 hR.symm
    subst e1; subst e2; subst e3
    exact z_out htab hlocks h1 h2 h3 c_1 hP hD hS (by decide) (by decide)
  · have hR := hR.trans (if_pos c_1)
    refine lv_aload_n hx hb dX5_done_5 rfl (lv_at hl 0 rfl) ?_
    refine va_get (D := G) (ci := 7) (v := .ref (ad 13)) (C := RX5) (T := TX5) (N := 7) hx hb hts iX5_done hown hE.1 hP 0 (zg_0 cs ad σ tl) rfl 3 (by decide) (hts (.fieldLink RX5 30 "HandoverDeck" "book" "LHandoverDeck$ProcedureBook;") (by decide +kernel)) (fun _ h9 => h9) rfl dX5_done_6 ?_
    refine lv_iload_n hx hb dX5_done_9 rfl (lv_at hl 1 rfl) ?_
    refine zai (va_runV (As := [.int a1]) (rest := []) ⟨hx, hb, hml, hown, hts⟩ (c_X4_doneCount l G cs ad tl σ a1  H.size) (cwV 1 hts gX5_done_X4_doneCount rfl rfl rfl (by decide +kernel) ⟨Nat.le_of_ble_eq_true rfl, Nat.le_of_ble_eq_true rfl⟩) (zpv hE hP hD hS hA (zg_13 cs ad σ tl) rfl) rfl rfl hl.1 rfl (lv_room (Nat.le_of_ble_eq_true rfl)) dX5_done_10 ⟨Nat.le_of_ble_eq_true rfl, Nat.le_of_ble_eq_true rfl⟩) hD hS hA (fun H locs hP hD hS => ?_)
    obtain ⟨e1, e2, e3⟩ := z3 hR.symm
    subst e1; subst e2; subst e3
    refine W.widen (k := 1) (n := 6) (by decide) (by decide) ?_
    refine vx_ret ?_
    exact W.iret (v := (f_X4_doneCount σ a1)) hx hb hr (fun t ht hW => ⟨⟨_, (), rfl, ⟨rfl, rfl⟩, by rw [ht]; exact hP, hD⟩, hS.F ht⟩) hS.2.2 dX5_done_13
def f_X5_reason (σ : zS) (a1 : Int32) : Nat × Int32 × zS := (if (f_X5_checkProcedure σ a1) = 0 then (0, (f_X5_reasonOf σ a1), σ) else ((f_X5_checkProcedure σ a1), 0, σ))
set_option maxRecDepth 100000 in
theorem c_X5_reason (l : Launch) (hfl : l.stackTraces = false) (G : va_G) (cs : Nat → ClassId) (ad : Nat → Nat) (tl : va_W) (σ : zS) (a1 : Int32)  : zXi l yX5_reason wsX5_reason { frames := 7, cells := 1, slots := 6, locals := 111 } G cs [.ref (ad 0), .int a1] (zw cs ad σ tl) (f_X5_reason σ a1).1 (f_X5_reason σ a1).2.1 (zw cs ad (f_X5_reason σ a1).2.2 tl) 1 6 := by
  intro sz
  refine vx_ofW (cc := cX5_reason) (maxL := 2) (ret := (some .char)) (by decide) rfl ?_
  intro p e s m args below meth c s₁ B hml htab hv
  obtain ⟨rfl, hsz, hP, hD0, hE⟩ := hv
  have hx := B.exec
  have hb := B.bytes
  have hr := B.returns
  have hts := atoms_spec (ws := wsX5_reason) B.pre
  have hown : s.vm.findClass RX5 = some m.cls := findClass_of_methodNamed B.named
  have hlocks := B.notSynchronized
  subst hsz
  have hD := hD0.self (sz := s.heap.size)
  have hA : ∀ q : Nat, s.heap.size ≤ q → (va_A (zw cs ad σ tl) s.heap.size) q := fun q h => Or.inr h
  generalize va_A (zw cs ad σ tl) s.heap.size = A at hD hE hA ⊢
  have hS : va_S A s.heap s.heap [] := va_S.rf
  have hl := lv_entry ([.ref (ad 0), .int a1]) (n := 2) (Nat.le_of_ble_eq_true rfl)
  rw [lg_entry_eq]
  generalize (lg_sl ([.ref (ad 0), .int a1]) ++ List.replicate (2 - (lg_sl ([.ref (ad 0), .int a1])).length) Slot.unset).toArray = ls at hl ⊢
  have hl : lv_has ls 2 [(0, .ref (ad 0)), (1, .int a1)] := hl
  generalize hR : (f_X5_reason σ a1) = RV
  have hR := hR.symm
  unfold f_X5_reason at hR
  obtain ⟨RVk, RVv, RVs⟩ := RV
  dsimp only
  obtain ⟨H, hH⟩ : ∃ z, z = s.heap := ⟨_, rfl⟩
  obtain ⟨locs, hlocs⟩ : ∃ z : List Loc, z = [] := ⟨_, rfl⟩
  rw [← hH] at hP
  have hS : va_S A s.heap H locs := by rw [hH, hlocs]; exact hS
  show W _ _ _ _ _ _ _ _ _ _ s.heap [] _ _ _ _
  rw [← hH, ← hlocs]
  clear hlocs
  refine lv_aload_n hx hb dX5_reason_0 rfl (lv_at hl 0 rfl) ?_
  refine lv_iload_n hx hb dX5_reason_1 rfl (lv_at hl 1 rfl) ?_
  refine zaxv (vx_runV (As := [.int a1]) (rest := []) ⟨hx, hb, hml, hown, hts⟩ (c_X5_checkProcedure l hfl G cs ad tl σ a1  H.size) (cwV 1 hts gX5_reason_X5_checkProcedure rfl rfl rfl (by decide +kernel) ⟨Nat.le_of_ble_eq_true rfl, Nat.le_of_ble_eq_true rfl⟩) (zpv hE hP hD hS hA (zg_0 cs ad σ tl) rfl) rfl rfl hl.1 rfl (lv_room (Nat.le_of_ble_eq_true rfl)) dX5_reason_2 ⟨Nat.le_of_ble_eq_true rfl, Nat.le_of_ble_eq_true rfl⟩) hD hS hA (fun c_1 ce q9 H locs hP hD hS h1 h2 h3 => ?_) (fun c_1 H locs hP hD hS => ?_)
  · have hR := hR.trans (if_neg c_1)
    obtain ⟨e1, e2, e3⟩ := z3 hR.symm
    subst e1; subst e2; subst e3
    exact z_out htab hlocks h1 h2 h3 c_1 hP hD hS (by decide) (by decide)
  · have hR := hR.trans (if_pos c_1)
    refine lv_aload_n hx hb dX5_reason_5 rfl (lv_at hl 0 rfl) ?_
    refine lv_iload_n hx hb dX5_reason_6 rfl (lv_at hl 1 rfl) ?_
    refine zai (va_runV (As := [.int a1]) (rest := []) ⟨hx, hb, hml, hown, hts⟩ (c_X5_reasonOf l G cs ad tl σ a1  H.size) (cwV 1 hts gX5_reason_X5_reasonOf rfl rfl rfl (by decide +kernel) ⟨Nat.le_of_ble_eq_true rfl, Nat.le_of_ble_eq_true rfl⟩) (zpv hE hP hD hS hA (zg_0 cs ad σ tl) rfl) rfl rfl hl.1 rfl (lv_room (Nat.le_of_ble_eq_true rfl)) dX5_reason_7 ⟨Nat.le_of_ble_eq_true rfl, Nat.le_of_ble_eq_true rfl⟩) hD hS hA (fun H locs hP hD hS => ?_)
    obtain ⟨e1, e2, e3⟩ := z3 hR.symm
    subst e1; subst e2; subst e3
    refine W.widen (k := 1) (n := 6) (by decide) (by decide) ?_
    refine vx_ret ?_
    exact W.zret (v := (f_X5_reasonOf σ a1)) hx hb hr (nar_X5_reasonOf σ a1) (fun t ht hW => ⟨⟨_, (), rfl, ⟨rfl, rfl⟩, by rw [ht]; exact hP, hD⟩, hS.F ht⟩) hS.2.2 dX5_reason_10
def f_X5_barredBy (σ : zS) (a1 : Int32) : Nat × Int32 × zS := (if (f_X5_checkProcedure σ a1) = 0 then (if (f_X4_nextPlace σ a1) = (-1) then (4, 0, σ) else (if (f_X3_firstOpenWith σ (f_X5_unitBit (f_X4_unitOf σ (f_X4_nextPlace σ a1)))) = (-1) then (4, 0, σ) else (0, (f_X3_firstOpenWith σ (f_X5_unitBit (f_X4_unitOf σ (f_X4_nextPlace σ a1)))), σ))) else ((f_X5_checkProcedure σ a1), 0, σ))
theorem iX5_barredBy : ∀ w ∈ u_ws RX5 TX5 7, w ∈ wsX5_barredBy := by decide +kernel
set_option maxRecDepth 100000 in
theorem c_X5_barredBy (l : Launch) (hfl : l.stackTraces = false) (G : va_G) (cs : Nat → ClassId) (ad : Nat → Nat) (tl : va_W) (σ : zS) (a1 : Int32)  : zXi l yX5_barredBy wsX5_barredBy { frames := 7, cells := 2, slots := 12, locals := 111 } G cs [.ref (ad 0), .int a1] (zw cs ad σ tl) (f_X5_barredBy σ a1).1 (f_X5_barredBy σ a1).2.1 (zw cs ad (f_X5_barredBy σ a1).2.2 tl) 2 12 := by
  intro sz
  refine vx_ofW (cc := cX5_barredBy) (maxL := 4) (ret := (some .int)) (by decide) rfl ?_
  intro p e s m args below meth c s₁ B hml htab hv
  obtain ⟨rfl, hsz, hP, hD0, hE⟩ := hv
  have hx := B.exec
  have hb := B.bytes
  have hr := B.returns
  have hts := atoms_spec (ws := wsX5_barredBy) B.pre
  have hown : s.vm.findClass RX5 = some m.cls := findClass_of_methodNamed B.named
  have hlocks := B.notSynchronized
  subst hsz
  have hD := hD0.self (sz := s.heap.size)
  have hA : ∀ q : Nat, s.heap.size ≤ q → (va_A (zw cs ad σ tl) s.heap.size) q := fun q h => Or.inr h
  generalize va_A (zw cs ad σ tl) s.heap.size = A at hD hE hA ⊢
  have hS : va_S A s.heap s.heap [] := va_S.rf
  have hl := lv_entry ([.ref (ad 0), .int a1]) (n := 4) (Nat.le_of_ble_eq_true rfl)
  rw [lg_entry_eq]
  generalize (lg_sl ([.ref (ad 0), .int a1]) ++ List.replicate (4 - (lg_sl ([.ref (ad 0), .int a1])).length) Slot.unset).toArray = ls at hl ⊢
  have hl : lv_has ls 4 [(0, .ref (ad 0)), (1, .int a1)] := hl
  generalize hR : (f_X5_barredBy σ a1) = RV
  have hR := hR.symm
  unfold f_X5_barredBy at hR
  obtain ⟨RVk, RVv, RVs⟩ := RV
  dsimp only
  obtain ⟨H, hH⟩ : ∃ z, z = s.heap := ⟨_, rfl⟩
  obtain ⟨locs, hlocs⟩ : ∃ z : List Loc, z = [] := ⟨_, rfl⟩
  rw [← hH] at hP
  have hS : va_S A s.heap H locs := by rw [hH, hlocs]; exact hS
  show W _ _ _ _ _ _ _ _ _ _ s.heap [] _ _ _ _
  rw [← hH, ← hlocs]
  clear hlocs
  refine lv_aload_n hx hb dX5_barredBy_0 rfl (lv_at hl 0 rfl) ?_
  refine lv_iload_n hx hb dX5_barredBy_1 rfl (lv_at hl 1 rfl) ?_
  refine zaxv (vx_runV (As := [.int a1]) (rest := []) ⟨hx, hb, hml, hown, hts⟩ (c_X5_checkProcedure l hfl G cs ad tl σ a1  H.size) (cwV 1 hts gX5_barredBy_X5_checkProcedure rfl rfl rfl (by decide +kernel) ⟨Nat.le_of_ble_eq_true rfl, Nat.le_of_ble_eq_true rfl⟩) (zpv hE hP hD hS hA (zg_0 cs ad σ tl) rfl) rfl rfl hl.1 rfl (lv_room (Nat.le_of_ble_eq_true rfl)) dX5_barredBy_2 ⟨Nat.le_of_ble_eq_true rfl, Nat.le_of_ble_eq_true rfl⟩) hD hS hA (fun c_1 ce q9 H locs hP hD hS h1 h2 h3 => ?_) (fun c_1 H locs hP hD hS => ?_)
  · have hR := hR.trans (if_neg c_1)
    obtain ⟨e1, e2, e3⟩ := z3 hR.symm
    subst e1; subst e2; subst e3
    exact z_out htab hlocks h1 h2 h3 c_1 hP hD hS (by decide) (by decide)
  · have hR := hR.trans (if_pos c_1)
    refine lv_aload_n hx hb dX5_barredBy_5 rfl (lv_at hl 0 rfl) ?_
    refine va_get (D := G) (ci := 7) (v := .ref (ad 13)) (C := RX5) (T := TX5) (N := 7) hx hb hts iX5_barredBy hown hE.1 hP 0 (zg_0 cs ad σ tl) rfl 3 (by decide) (hts (.fieldLink RX5 30 "HandoverDeck" "book" "LHandoverDeck$ProcedureBook;") (by decide +kernel)) (fun _ h9 => h9) rfl dX5_barredBy_6 ?_
    refine lv_iload_n hx hb dX5_barredBy_9 rfl (lv_at hl 1 rfl) ?_
    refine zai (va_runV (As := [.int a1]) (rest := []) ⟨hx, hb, hml, hown, hts⟩ (c_X4_nextPlace l G cs ad tl σ a1  H.size) (cwV 1 hts gX5_barredBy_X4_nextPlace rfl rfl rfl (by decide +kernel) ⟨Nat.le_of_ble_eq_true rfl, Nat.le_of_ble_eq_true rfl⟩) (zpv hE hP hD hS hA (zg_13 cs ad σ tl) rfl) rfl rfl hl.1 rfl (lv_room (Nat.le_of_ble_eq_true rfl)) dX5_barredBy_10 ⟨Nat.le_of_ble_eq_true rfl, Nat.le_of_ble_eq_true rfl⟩) hD hS hA (fun H locs hP hD hS => ?_)
    refine lv_istore_n (lv' := [(2, .int (f_X4_nextPlace σ a1)), (0, .ref (ad 0)), (1, .int a1)]) hx hb dX5_barredBy_13 rfl hl (by decide) rfl (fun ls hl => ?_)
    refine lv_iload_n hx hb dX5_barredBy_14 rfl (lv_at hl 0 rfl) ?_
    refine lv_iconst (v := (-1)) hx hb dX5_barredBy_15 (by decide) ?_
    refine lv_icmp_ne (tgt := 29) hx hb dX5_barredBy_16 (by decide) (fun c_2 => ?_) (fun c_2 => ?_)
    · have hR := hR.trans (if_neg c_2)
      refine lv_aload_n hx hb dX5_barredBy_29 rfl (lv_at hl 1 rfl) ?_
      refine va_get (D := G) (ci := 7) (v := .ref (ad 23)) (C := RX5) (T := TX5) (N := 7) hx hb hts iX5_barredBy hown hE.1 hP 0 (zg_0 cs ad σ tl) rfl 4 (by decide) (hts (.fieldLink RX5 37 "HandoverDeck" "permits" "LHandoverDeck$PermitRack;") (by decide +kernel)) (fun _ h9 => h9) rfl dX5_barredBy_30 ?_
      refine lv_aload_n hx hb dX5_barredBy_33 rfl (lv_at hl 1 rfl) ?_
      refine va_get (D := G) (ci := 7) (v := .ref (ad 13)) (C := RX5) (T := TX5) (N := 7) hx hb hts iX5_barredBy hown hE.1 hP 0 (zg_0 cs ad σ tl) rfl 3 (by decide) (hts (.fieldLink RX5 30 "HandoverDeck" "book" "LHandoverDeck$ProcedureBook;") (by decide +kernel)) (fun _ h9 => h9) rfl dX5_barredBy_34 ?_
      refine lv_iload_n hx hb dX5_barredBy_37 rfl (lv_at hl 0 rfl) ?_
      refine zai (va_runV (As := [.int (f_X4_nextPlace σ a1)]) (rest := [.ref (ad 23)]) ⟨hx, hb, hml, hown, hts⟩ (c_X4_unitOf l G cs ad tl σ (f_X4_nextPlace σ a1)  H.size) (cwV 1 hts gX5_barredBy_X4_unitOf rfl rfl rfl (by decide +kernel) ⟨Nat.le_of_ble_eq_true rfl, Nat.le_of_ble_eq_true rfl⟩) (zpv hE hP hD hS hA (zg_13 cs ad σ tl) rfl) rfl rfl hl.1 rfl (lv_room (Nat.le_of_ble_eq_true rfl)) dX5_barredBy_38 ⟨Nat.le_of_ble_eq_true rfl, Nat.le_of_ble_eq_true rfl⟩) hD hS hA (fun H locs hP hD hS => ?_)
      refine zai (va_runS (As := [.int (f_X4_unitOf σ (f_X4_nextPlace σ a1))]) (rest := [.ref (ad 23)]) ⟨hx, hb, hml, hown, hts⟩ (c_X5_unitBit l G cs ad tl σ (f_X4_unitOf σ (f_X4_nextPlace σ a1))  H.size) (va_cwS 1 hts gX5_barredBy_X5_unitBit rfl rfl rfl (by decide +kernel) ⟨Nat.le_of_ble_eq_true rfl, Nat.le_of_ble_eq_true rfl⟩) (zps hE hP hD hS hA) rfl rfl hl.1 rfl (lv_room (Nat.le_of_ble_eq_true rfl)) dX5_barredBy_41 ⟨Nat.le_of_ble_eq_true rfl, Nat.le_of_ble_eq_true rfl⟩) hD hS hA (fun H locs hP hD hS => ?_)
      refine zai (va_runV (As := [.int (f_X5_unitBit (f_X4_unitOf σ (f_X4_nextPlace σ a1)))]) (rest := []) ⟨hx, hb, hml, hown, hts⟩ (c_X3_firstOpenWith l G cs ad tl σ (f_X5_unitBit (f_X4_unitOf σ (f_X4_nextPlace σ a1)))  H.size) (cwV 1 hts gX5_barredBy_X3_firstOpenWith rfl rfl rfl (by decide +kernel) ⟨Nat.le_of_ble_eq_true rfl, Nat.le_of_ble_eq_true rfl⟩) (zpv hE hP hD hS hA (zg_23 cs ad σ tl) rfl) rfl rfl hl.1 rfl (lv_room (Nat.le_of_ble_eq_true rfl)) dX5_barredBy_44 ⟨Nat.le_of_ble_eq_true rfl, Nat.le_of_ble_eq_true rfl⟩) hD hS hA (fun H locs hP hD hS => ?_)
      refine lv_istore_n (lv' := [(3, .int (f_X3_firstOpenWith σ (f_X5_unitBit (f_X4_unitOf σ (f_X4_nextPlace σ a1))))), (2, .int (f_X4_nextPlace σ a1)), (0, .ref (ad 0)), (1, .int a1)]) hx hb dX5_barredBy_47 rfl hl (by decide) rfl (fun ls hl => ?_)
      refine lv_iload_n hx hb dX5_barredBy_48 rfl (lv_at hl 0 rfl) ?_
      refine lv_iconst (v := (-1)) hx hb dX5_barredBy_49 (by decide) ?_
      refine lv_icmp_ne (tgt := 63) hx hb dX5_barredBy_50 (by decide) (fun c_3 => ?_) (fun c_3 => ?_)
      · have hR := hR.trans (if_neg c_3)
        refine lv_iload_n hx hb dX5_barredBy_63 rfl (lv_at hl 0 rfl) ?_
        obtain ⟨e1, e2, e3⟩ := z3 hR.symm
        subst e1; subst e2; subst e3
        refine W.widen (k := 2) (n := 12) (by decide) (by decide) ?_
        refine vx_ret ?_
        exact W.iret (v := (f_X3_firstOpenWith σ (f_X5_unitBit (f_X4_unitOf σ (f_X4_nextPlace σ a1))))) hx hb hr (fun t ht hW => ⟨⟨_, (), rfl, ⟨rfl, rfl⟩, by rw [ht]; exact hP, hD⟩, hS.F ht⟩) hS.2.2 dX5_barredBy_64
      · have hR := hR.trans (if_pos c_3)
        obtain ⟨e1, e2, e3⟩ := z3 hR.symm
        subst e1; subst e2; subst e3
        exact z_thrN (k := 4) (is := 184) (text := "no open permit bars the step") hx hb hfl zf_4.1 zf_4.2.1 zf_4.2.2 (fun w h => hts w (List.mem_cons_of_mem _ (List.mem_append_left _ (List.mem_append_right _ h)))) (hts (.classLink RX5 125 "java/util/NoSuchElementException") (by decide +kernel)) (hts (.initialized "java/util/NoSuchElementException") (by decide +kernel)) (hE.2.1 _ (List.mem_of_getElem? (i := 6) rfl)) (hE.2.2.1 (184, "no open permit bars the step") (by decide +kernel)) hown hE hP hD hS (by rw [hl.1, hml]) dX5_barredBy_53 dX5_barredBy_56 dX5_barredBy_57 dX5_barredBy_59 dX5_barredBy_62 htab (by decide) (by decide) (by decide) (by decide) hlocks (by decide) rfl (by decide) (by decide)
    · have hR := hR.trans (if_pos c_2)
      obtain ⟨e1, e2, e3⟩ := z3 hR.symm
      subst e1; subst e2; subst e3
      exact z_thrN (k := 4) (is := 173) (text := "all steps of the procedure are done") hx hb hfl zf_4.1 zf_4.2.1 zf_4.2.2 (fun w h => hts w (List.mem_cons_of_mem _ (List.mem_append_left _ (List.mem_append_right _ h)))) (hts (.classLink RX5 125 "java/util/NoSuchElementException") (by decide +kernel)) (hts (.initialized "java/util/NoSuchElementException") (by decide +kernel)) (hE.2.1 _ (List.mem_of_getElem? (i := 6) rfl)) (hE.2.2.1 (173, "all steps of the procedure are done") (by decide +kernel)) hown hE hP hD hS (by rw [hl.1, hml]) dX5_barredBy_19 dX5_barredBy_22 dX5_barredBy_23 dX5_barredBy_25 dX5_barredBy_28 htab (by decide) (by decide) (by decide) (by decide) hlocks (by decide) rfl (by decide) (by decide)
def f_X5_step (σ : zS) (a1 : Int32) : Nat × Int32 × zS := (if (f_X5_checkProcedure σ a1) = 0 then (if (f_X5_reasonOf σ a1) = 45 then (0, (f_X5_stepNumber (f_X4_nextPlace σ a1)), (f_X5_closeUndoneLine (f_X5_setState (f_X4_markTaken σ a1 (f_X5_stateOf σ (f_X4_unitOf σ (f_X4_nextPlace σ a1))) (σ 0 6)) (f_X4_unitOf σ (f_X4_nextPlace σ a1)) (f_X4_newStateOf (f_X4_markTaken σ a1 (f_X5_stateOf σ (f_X4_unitOf σ (f_X4_nextPlace σ a1))) (σ 0 6)) (f_X4_nextPlace σ a1))) (f_X4_nextPlace σ a1)).2) else (3, 0, σ)) else ((f_X5_checkProcedure σ a1), 0, σ))
theorem iX5_step : ∀ w ∈ u_ws RX5 TX5 7, w ∈ wsX5_step := by decide +kernel
set_option maxRecDepth 100000 in
theorem c_X5_step (l : Launch) (hfl : l.stackTraces = false) (G : va_G) (cs : Nat → ClassId) (ad : Nat → Nat) (tl : va_W) (σ : zS) (a1 : Int32)  : zXi l yX5_step wsX5_step { frames := 7, cells := 2, slots := 12, locals := 111 } G cs [.ref (ad 0), .int a1] (zw cs ad σ tl) (f_X5_step σ a1).1 (f_X5_step σ a1).2.1 (zw cs ad (f_X5_step σ a1).2.2 tl) 2 12 := by
  intro sz
  refine vx_ofW (cc := cX5_step) (maxL := 4) (ret := (some .int)) (by decide) rfl ?_
  intro p e s m args below meth c s₁ B hml htab hv
  obtain ⟨rfl, hsz, hP, hD0, hE⟩ := hv
  have hx := B.exec
  have hb := B.bytes
  have hr := B.returns
  have hts := atoms_spec (ws := wsX5_step) B.pre
  have hown : s.vm.findClass RX5 = some m.cls := findClass_of_methodNamed B.named
  have hlocks := B.notSynchronized
  subst hsz
  have hD := hD0.self (sz := s.heap.size)
  have hA : ∀ q : Nat, s.heap.size ≤ q → (va_A (zw cs ad σ tl) s.heap.size) q := fun q h => Or.inr h
  generalize va_A (zw cs ad σ tl) s.heap.size = A at hD hE hA ⊢
  have hS : va_S A s.heap s.heap [] := va_S.rf
  have hl := lv_entry ([.ref (ad 0), .int a1]) (n := 4) (Nat.le_of_ble_eq_true rfl)
  rw [lg_entry_eq]
  generalize (lg_sl ([.ref (ad 0), .int a1]) ++ List.replicate (4 - (lg_sl ([.ref (ad 0), .int a1])).length) Slot.unset).toArray = ls at hl ⊢
  have hl : lv_has ls 4 [(0, .ref (ad 0)), (1, .int a1)] := hl
  generalize hR : (f_X5_step σ a1) = RV
  have hR := hR.symm
  unfold f_X5_step at hR
  obtain ⟨RVk, RVv, RVs⟩ := RV
  dsimp only
  obtain ⟨H, hH⟩ : ∃ z, z = s.heap := ⟨_, rfl⟩
  obtain ⟨locs, hlocs⟩ : ∃ z : List Loc, z = [] := ⟨_, rfl⟩
  rw [← hH] at hP
  have hS : va_S A s.heap H locs := by rw [hH, hlocs]; exact hS
  show W _ _ _ _ _ _ _ _ _ _ s.heap [] _ _ _ _
  rw [← hH, ← hlocs]
  clear hlocs
  refine lv_aload_n hx hb dX5_step_0 rfl (lv_at hl 0 rfl) ?_
  refine lv_iload_n hx hb dX5_step_1 rfl (lv_at hl 1 rfl) ?_
  refine zaxv (vx_runV (As := [.int a1]) (rest := []) ⟨hx, hb, hml, hown, hts⟩ (c_X5_checkProcedure l hfl G cs ad tl σ a1  H.size) (cwV 1 hts gX5_step_X5_checkProcedure rfl rfl rfl (by decide +kernel) ⟨Nat.le_of_ble_eq_true rfl, Nat.le_of_ble_eq_true rfl⟩) (zpv hE hP hD hS hA (zg_0 cs ad σ tl) rfl) rfl rfl hl.1 rfl (lv_room (Nat.le_of_ble_eq_true rfl)) dX5_step_2 ⟨Nat.le_of_ble_eq_true rfl, Nat.le_of_ble_eq_true rfl⟩) hD hS hA (fun c_1 ce q9 H locs hP hD hS h1 h2 h3 => ?_) (fun c_1 H locs hP hD hS => ?_)
  · have hR := hR.trans (if_neg c_1)
    obtain ⟨e1, e2, e3⟩ := z3 hR.symm
    subst e1; subst e2; subst e3
    exact z_out htab hlocks h1 h2 h3 c_1 hP hD hS (by decide) (by decide)
  · have hR := hR.trans (if_pos c_1)
    refine lv_aload_n hx hb dX5_step_5 rfl (lv_at hl 0 rfl) ?_
    refine lv_iload_n hx hb dX5_step_6 rfl (lv_at hl 1 rfl) ?_
    refine zai (va_runV (As := [.int a1]) (rest := []) ⟨hx, hb, hml, hown, hts⟩ (c_X5_reasonOf l G cs ad tl σ a1  H.size) (cwV 1 hts gX5_step_X5_reasonOf rfl rfl rfl (by decide +kernel) ⟨Nat.le_of_ble_eq_true rfl, Nat.le_of_ble_eq_true rfl⟩) (zpv hE hP hD hS hA (zg_0 cs ad σ tl) rfl) rfl rfl hl.1 rfl (lv_room (Nat.le_of_ble_eq_true rfl)) dX5_step_7 ⟨Nat.le_of_ble_eq_true rfl, Nat.le_of_ble_eq_true rfl⟩) hD hS hA (fun H locs hP hD hS => ?_)
    refine lv_bipush (v := 45) hx hb dX5_step_10 (by decide) ?_
    refine lv_icmp_eq (tgt := 25) hx hb dX5_step_12 (by decide) (fun c_2 => ?_) (fun c_2 => ?_)
    · have hR := hR.trans (if_pos c_2)
      refine lv_aload_n hx hb dX5_step_25 rfl (lv_at hl 0 rfl) ?_
      refine va_get (D := G) (ci := 7) (v := .ref (ad 13)) (C := RX5) (T := TX5) (N := 7) hx hb hts iX5_step hown hE.1 hP 0 (zg_0 cs ad σ tl) rfl 3 (by decide) (hts (.fieldLink RX5 30 "HandoverDeck" "book" "LHandoverDeck$ProcedureBook;") (by decide +kernel)) (fun _ h9 => h9) rfl dX5_step_26 ?_
      refine lv_iload_n hx hb dX5_step_29 rfl (lv_at hl 1 rfl) ?_
      refine zai (va_runV (As := [.int a1]) (rest := []) ⟨hx, hb, hml, hown, hts⟩ (c_X4_nextPlace l G cs ad tl σ a1  H.size) (cwV 1 hts gX5_step_X4_nextPlace rfl rfl rfl (by decide +kernel) ⟨Nat.le_of_ble_eq_true rfl, Nat.le_of_ble_eq_true rfl⟩) (zpv hE hP hD hS hA (zg_13 cs ad σ tl) rfl) rfl rfl hl.1 rfl (lv_room (Nat.le_of_ble_eq_true rfl)) dX5_step_30 ⟨Nat.le_of_ble_eq_true rfl, Nat.le_of_ble_eq_true rfl⟩) hD hS hA (fun H locs hP hD hS => ?_)
      refine lv_istore_n (lv' := [(2, .int (f_X4_nextPlace σ a1)), (0, .ref (ad 0)), (1, .int a1)]) hx hb dX5_step_33 rfl hl (by decide) rfl (fun ls hl => ?_)
      refine lv_aload_n hx hb dX5_step_34 rfl (lv_at hl 1 rfl) ?_
      refine va_get (D := G) (ci := 7) (v := .ref (ad 13)) (C := RX5) (T := TX5) (N := 7) hx hb hts iX5_step hown hE.1 hP 0 (zg_0 cs ad σ tl) rfl 3 (by decide) (hts (.fieldLink RX5 30 "HandoverDeck" "book" "LHandoverDeck$ProcedureBook;") (by decide +kernel)) (fun _ h9 => h9) rfl dX5_step_35 ?_
      refine lv_iload_n hx hb dX5_step_38 rfl (lv_at hl 0 rfl) ?_
      refine zai (va_runV (As := [.int (f_X4_nextPlace σ a1)]) (rest := []) ⟨hx, hb, hml, hown, hts⟩ (c_X4_unitOf l G cs ad tl σ (f_X4_nextPlace σ a1)  H.size) (cwV 1 hts gX5_step_X4_unitOf rfl rfl rfl (by decide +kernel) ⟨Nat.le_of_ble_eq_true rfl, Nat.le_of_ble_eq_true rfl⟩) (zpv hE hP hD hS hA (zg_13 cs ad σ tl) rfl) rfl rfl hl.1 rfl (lv_room (Nat.le_of_ble_eq_true rfl)) dX5_step_39 ⟨Nat.le_of_ble_eq_true rfl, Nat.le_of_ble_eq_true rfl⟩) hD hS hA (fun H locs hP hD hS => ?_)
      refine lv_istore_n (lv' := [(3, .int (f_X4_unitOf σ (f_X4_nextPlace σ a1))), (2, .int (f_X4_nextPlace σ a1)), (0, .ref (ad 0)), (1, .int a1)]) hx hb dX5_step_42 rfl hl (by decide) rfl (fun ls hl => ?_)
      refine lv_aload_n hx hb dX5_step_43 rfl (lv_at hl 2 rfl) ?_
      refine va_get (D := G) (ci := 7) (v := .ref (ad 13)) (C := RX5) (T := TX5) (N := 7) hx hb hts iX5_step hown hE.1 hP 0 (zg_0 cs ad σ tl) rfl 3 (by decide) (hts (.fieldLink RX5 30 "HandoverDeck" "book" "LHandoverDeck$ProcedureBook;") (by decide +kernel)) (fun _ h9 => h9) rfl dX5_step_44 ?_
      refine lv_iload_n hx hb dX5_step_47 rfl (lv_at hl 3 rfl) ?_
      refine lv_aload_n hx hb dX5_step_48 rfl (lv_at hl 2 rfl) ?_
      refine lv_iload_n hx hb dX5_step_49 rfl (lv_at hl 0 rfl) ?_
      refine zai (va_runV (As := [.int (f_X4_unitOf σ (f_X4_nextPlace σ a1))]) (rest := [.int a1, .ref (ad 13)]) ⟨hx, hb, hml, hown, hts⟩ (c_X5_stateOf l G cs ad tl σ (f_X4_unitOf σ (f_X4_nextPlace σ a1))  H.size) (cwV 1 hts gX5_step_X5_stateOf rfl rfl rfl (by decide +kernel) ⟨Nat.le_of_ble_eq_true rfl, Nat.le_of_ble_eq_true rfl⟩) (zpv hE hP hD hS hA (zg_0 cs ad σ tl) rfl) rfl rfl hl.1 rfl (lv_room (Nat.le_of_ble_eq_true rfl)) dX5_step_50 ⟨Nat.le_of_ble_eq_true rfl, Nat.le_of_ble_eq_true rfl⟩) hD hS hA (fun H locs hP hD hS => ?_)
      refine lv_aload_n hx hb dX5_step_53 rfl (lv_at hl 2 rfl) ?_
      refine va_get (D := G) (ci := 7) (v := .int (σ 0 6)) (C := RX5) (T := TX5) (N := 7) hx hb hts iX5_step hown hE.1 hP 0 (zg_0 cs ad σ tl) rfl 6 (by decide) (hts (.fieldLink RX5 81 "HandoverDeck" "now" "I") (by decide +kernel)) (fun _ h9 => h9) rfl dX5_step_54 ?_
      refine zav (va_runV (As := [.int a1, .int (f_X5_stateOf σ (f_X4_unitOf σ (f_X4_nextPlace σ a1))), .int (σ 0 6)]) (rest := []) ⟨hx, hb, hml, hown, hts⟩ (c_X4_markTaken l G cs ad tl σ a1 (f_X5_stateOf σ (f_X4_unitOf σ (f_X4_nextPlace σ a1))) (σ 0 6)  H.size) (cwV 3 hts gX5_step_X4_markTaken rfl rfl rfl (by decide +kernel) ⟨Nat.le_of_ble_eq_true rfl, Nat.le_of_ble_eq_true rfl⟩) (zpv hE hP hD hS hA (zg_13 cs ad σ tl) rfl) rfl rfl hl.1 rfl (lv_room (Nat.le_of_ble_eq_true rfl)) dX5_step_57 ⟨Nat.le_of_ble_eq_true rfl, Nat.le_of_ble_eq_true rfl⟩) hD hS hA (fun H locs hP hD hS => ?_)
      refine lv_aload_n hx hb dX5_step_60 rfl (lv_at hl 2 rfl) ?_
      refine lv_iload_n hx hb dX5_step_61 rfl (lv_at hl 0 rfl) ?_
      refine lv_aload_n hx hb dX5_step_62 rfl (lv_at hl 2 rfl) ?_
      refine va_get (D := G) (ci := 7) (v := .ref (ad 13)) (C := RX5) (T := TX5) (N := 7) hx hb hts iX5_step hown hE.1 hP 0 (zg_0 cs ad (f_X4_markTaken σ a1 (f_X5_stateOf σ (f_X4_unitOf σ (f_X4_nextPlace σ a1))) (σ 0 6)) tl) rfl 3 (by decide) (hts (.fieldLink RX5 30 "HandoverDeck" "book" "LHandoverDeck$ProcedureBook;") (by decide +kernel)) (fun _ h9 => h9) rfl dX5_step_63 ?_
      refine lv_iload_n hx hb dX5_step_66 rfl (lv_at hl 1 rfl) ?_
      refine zai (va_runV (As := [.int (f_X4_nextPlace σ a1)]) (rest := [.int (f_X4_unitOf σ (f_X4_nextPlace σ a1)), .ref (ad 0)]) ⟨hx, hb, hml, hown, hts⟩ (c_X4_newStateOf l G cs ad tl (f_X4_markTaken σ a1 (f_X5_stateOf σ (f_X4_unitOf σ (f_X4_nextPlace σ a1))) (σ 0 6)) (f_X4_nextPlace σ a1)  H.size) (cwV 1 hts gX5_step_X4_newStateOf rfl rfl rfl (by decide +kernel) ⟨Nat.le_of_ble_eq_true rfl, Nat.le_of_ble_eq_true rfl⟩) (zpv hE hP hD hS hA (zg_13 cs ad (f_X4_markTaken σ a1 (f_X5_stateOf σ (f_X4_unitOf σ (f_X4_nextPlace σ a1))) (σ 0 6)) tl) rfl) rfl rfl hl.1 rfl (lv_room (Nat.le_of_ble_eq_true rfl)) dX5_step_67 ⟨Nat.le_of_ble_eq_true rfl, Nat.le_of_ble_eq_true rfl⟩) hD hS hA (fun H locs hP hD hS => ?_)
      refine zav (va_runV (As := [.int (f_X4_unitOf σ (f_X4_nextPlace σ a1)), .int (f_X4_newStateOf (f_X4_markTaken σ a1 (f_X5_stateOf σ (f_X4_unitOf σ (f_X4_nextPlace σ a1))) (σ 0 6)) (f_X4_nextPlace σ a1))]) (rest := []) ⟨hx, hb, hml, hown, hts⟩ (c_X5_setState l G cs ad tl (f_X4_markTaken σ a1 (f_X5_stateOf σ (f_X4_unitOf σ (f_X4_nextPlace σ a1))) (σ 0 6)) (f_X4_unitOf σ (f_X4_nextPlace σ a1)) (f_X4_newStateOf (f_X4_markTaken σ a1 (f_X5_stateOf σ (f_X4_unitOf σ (f_X4_nextPlace σ a1))) (σ 0 6)) (f_X4_nextPlace σ a1))  H.size) (cwV 2 hts gX5_step_X5_setState rfl rfl rfl (by decide +kernel) ⟨Nat.le_of_ble_eq_true rfl, Nat.le_of_ble_eq_true rfl⟩) (zpv hE hP hD hS hA (zg_0 cs ad (f_X4_markTaken σ a1 (f_X5_stateOf σ (f_X4_unitOf σ (f_X4_nextPlace σ a1))) (σ 0 6)) tl) rfl) rfl rfl hl.1 rfl (lv_room (Nat.le_of_ble_eq_true rfl)) dX5_step_70 ⟨Nat.le_of_ble_eq_true rfl, Nat.le_of_ble_eq_true rfl⟩) hD hS hA (fun H locs hP hD hS => ?_)
      refine lv_aload_n hx hb dX5_step_73 rfl (lv_at hl 2 rfl) ?_
      refine lv_iload_n hx hb dX5_step_74 rfl (lv_at hl 1 rfl) ?_
      refine zai (va_runV (As := [.int (f_X4_nextPlace σ a1)]) (rest := []) ⟨hx, hb, hml, hown, hts⟩ (c_X5_closeUndoneLine l G cs ad tl (f_X5_setState (f_X4_markTaken σ a1 (f_X5_stateOf σ (f_X4_unitOf σ (f_X4_nextPlace σ a1))) (σ 0 6)) (f_X4_unitOf σ (f_X4_nextPlace σ a1)) (f_X4_newStateOf (f_X4_markTaken σ a1 (f_X5_stateOf σ (f_X4_unitOf σ (f_X4_nextPlace σ a1))) (σ 0 6)) (f_X4_nextPlace σ a1))) (f_X4_nextPlace σ a1)  H.size) (cwV 1 hts gX5_step_X5_closeUndoneLine rfl rfl rfl (by decide +kernel) ⟨Nat.le_of_ble_eq_true rfl, Nat.le_of_ble_eq_true rfl⟩) (zpv hE hP hD hS hA (zg_0 cs ad (f_X5_setState (f_X4_markTaken σ a1 (f_X5_stateOf σ (f_X4_unitOf σ (f_X4_nextPlace σ a1))) (σ 0 6)) (f_X4_unitOf σ (f_X4_nextPlace σ a1)) (f_X4_newStateOf (f_X4_markTaken σ a1 (f_X5_stateOf σ (f_X4_unitOf σ (f_X4_nextPlace σ a1))) (σ 0 6)) (f_X4_nextPlace σ a1))) tl) rfl) rfl rfl hl.1 rfl (lv_room (Nat.le_of_ble_eq_true rfl)) dX5_step_75 ⟨Nat.le_of_ble_eq_true rfl, Nat.le_of_ble_eq_true rfl⟩) hD hS hA (fun H locs hP hD hS => ?_)
      refine lv_pop hx hb dX5_step_78 rfl ?_
      refine lv_iload_n hx hb dX5_step_79 rfl (lv_at hl 1 rfl) ?_
      refine zai (va_runS (As := [.int (f_X4_nextPlace σ a1)]) (rest := []) ⟨hx, hb, hml, hown, hts⟩ (c_X5_stepNumber l G cs ad tl (f_X5_closeUndoneLine (f_X5_setState (f_X4_markTaken σ a1 (f_X5_stateOf σ (f_X4_unitOf σ (f_X4_nextPlace σ a1))) (σ 0 6)) (f_X4_unitOf σ (f_X4_nextPlace σ a1)) (f_X4_newStateOf (f_X4_markTaken σ a1 (f_X5_stateOf σ (f_X4_unitOf σ (f_X4_nextPlace σ a1))) (σ 0 6)) (f_X4_nextPlace σ a1))) (f_X4_nextPlace σ a1)).2 (f_X4_nextPlace σ a1)  H.size) (va_cwS 1 hts gX5_step_X5_stepNumber rfl rfl rfl (by decide +kernel) ⟨Nat.le_of_ble_eq_true rfl, Nat.le_of_ble_eq_true rfl⟩) (zps hE hP hD hS hA) rfl rfl hl.1 rfl (lv_room (Nat.le_of_ble_eq_true rfl)) dX5_step_80 ⟨Nat.le_of_ble_eq_true rfl, Nat.le_of_ble_eq_true rfl⟩) hD hS hA (fun H locs hP hD hS => ?_)
      obtain ⟨e1, e2, e3⟩ := z3 hR.symm
      subst e1; subst e2; subst e3
      refine W.widen (k := 2) (n := 12) (by decide) (by decide) ?_
      refine vx_ret ?_
      exact W.iret (v := (f_X5_stepNumber (f_X4_nextPlace σ a1))) hx hb hr (fun t ht hW => ⟨⟨_, (), rfl, ⟨rfl, rfl⟩, by rw [ht]; exact hP, hD⟩, hS.F ht⟩) hS.2.2 dX5_step_83
    · have hR := hR.trans (if_neg c_2)
      obtain ⟨e1, e2, e3⟩ := z3 hR.symm
      subst e1; subst e2; subst e3
      exact z_thr (k := 3) (is := 186) (text := "the next step cannot be taken") hx hb hfl zf_3.1 zf_3.2.1 zf_3.2.2 (fun w h => hts w (List.mem_cons_of_mem _ (List.mem_append_left _ (List.mem_append_left _ (List.mem_append_right _ h))))) (hts (.classLink RX5 71 "java/lang/IllegalStateException") (by decide +kernel)) (hts (.initialized "java/lang/IllegalStateException") (by decide +kernel)) (hE.2.1 _ (List.mem_of_getElem? (i := 5) rfl)) (hE.2.2.1 (186, "the next step cannot be taken") (by decide +kernel)) hown hE hP hD hS (by rw [hl.1, hml]) dX5_step_15 dX5_step_18 dX5_step_19 dX5_step_21 dX5_step_24 htab (by decide) (by decide) (by decide) (by decide) hlocks (by decide) rfl (by decide) (by decide)
def f_X5_undo (σ : zS) (a1 : Int32) : Nat × Int32 × zS := (if (f_X5_checkProcedure σ a1) = 0 then (if (f_X4_lastDonePlace σ a1) = (-1) then (3, 0, σ) else (if (f_X5_checkAtWork σ ) = 0 then (if (f_X5_checkRoomForLine σ ) = 0 then (if (f_X5_stateOf σ (f_X4_unitOf σ (f_X4_lastDonePlace σ a1))) = (f_X4_newStateOf σ (f_X4_lastDonePlace σ a1)) then (if (f_X3_firstOpenWith σ (f_X5_unitBit (f_X4_unitOf σ (f_X4_lastDonePlace σ a1)))) = (-1) then (0, (f_X2_openLine σ 115 (σ 0 6)).1, (f_X4_markUndone (f_X5_setState (f_X2_openLine σ 115 (σ 0 6)).2 (f_X4_unitOf σ (f_X4_lastDonePlace σ a1)) (f_X4_notedStateOf (f_X2_openLine σ 115 (σ 0 6)).2 (f_X4_lastDonePlace σ a1))) a1 (f_X2_openLine σ 115 (σ 0 6)).1)) else (5, 0, σ)) else (5, 0, σ)) else ((f_X5_checkRoomForLine σ ), 0, σ)) else ((f_X5_checkAtWork σ ), 0, σ))) else ((f_X5_checkProcedure σ a1), 0, σ))
theorem iX5_undo : ∀ w ∈ u_ws RX5 TX5 7, w ∈ wsX5_undo := by decide +kernel
set_option maxRecDepth 100000 in
theorem c_X5_undo (l : Launch) (hfl : l.stackTraces = false) (G : va_G) (cs : Nat → ClassId) (ad : Nat → Nat) (tl : va_W) (σ : zS) (a1 : Int32)  : zXi l yX5_undo wsX5_undo { frames := 7, cells := 4, slots := 24, locals := 111 } G cs [.ref (ad 0), .int a1] (zw cs ad σ tl) (f_X5_undo σ a1).1 (f_X5_undo σ a1).2.1 (zw cs ad (f_X5_undo σ a1).2.2 tl) 4 24 := by
  intro sz
  refine vx_ofW (cc := cX5_undo) (maxL := 5) (ret := (some .int)) (by decide) rfl ?_
  intro p e s m args below meth c s₁ B hml htab hv
  obtain ⟨rfl, hsz, hP, hD0, hE⟩ := hv
  have hx := B.exec
  have hb := B.bytes
  have hr := B.returns
  have hts := atoms_spec (ws := wsX5_undo) B.pre
  have hown : s.vm.findClass RX5 = some m.cls := findClass_of_methodNamed B.named
  have hlocks := B.notSynchronized
  subst hsz
  have hD := hD0.self (sz := s.heap.size)
  have hA : ∀ q : Nat, s.heap.size ≤ q → (va_A (zw cs ad σ tl) s.heap.size) q := fun q h => Or.inr h
  generalize va_A (zw cs ad σ tl) s.heap.size = A at hD hE hA ⊢
  have hS : va_S A s.heap s.heap [] := va_S.rf
  have hl := lv_entry ([.ref (ad 0), .int a1]) (n := 5) (Nat.le_of_ble_eq_true rfl)
  rw [lg_entry_eq]
  generalize (lg_sl ([.ref (ad 0), .int a1]) ++ List.replicate (5 - (lg_sl ([.ref (ad 0), .int a1])).length) Slot.unset).toArray = ls at hl ⊢
  have hl : lv_has ls 5 [(0, .ref (ad 0)), (1, .int a1)] := hl
  generalize hR : (f_X5_undo σ a1) = RV
  have hR := hR.symm
  unfold f_X5_undo at hR
  obtain ⟨RVk, RVv, RVs⟩ := RV
  dsimp only
  obtain ⟨H, hH⟩ : ∃ z, z = s.heap := ⟨_, rfl⟩
  obtain ⟨locs, hlocs⟩ : ∃ z : List Loc, z = [] := ⟨_, rfl⟩
  rw [← hH] at hP
  have hS : va_S A s.heap H locs := by rw [hH, hlocs]; exact hS
  show W _ _ _ _ _ _ _ _ _ _ s.heap [] _ _ _ _
  rw [← hH, ← hlocs]
  clear hlocs
  refine lv_aload_n hx hb dX5_undo_0 rfl (lv_at hl 0 rfl) ?_
  refine lv_iload_n hx hb dX5_undo_1 rfl (lv_at hl 1 rfl) ?_
  refine zaxv (vx_runV (As := [.int a1]) (rest := []) ⟨hx, hb, hml, hown, hts⟩ (c_X5_checkProcedure l hfl G cs ad tl σ a1  H.size) (cwV 1 hts gX5_undo_X5_checkProcedure rfl rfl rfl (by decide +kernel) ⟨Nat.le_of_ble_eq_true rfl, Nat.le_of_ble_eq_true rfl⟩) (zpv hE hP hD hS hA (zg_0 cs ad σ tl) rfl) rfl rfl hl.1 rfl (lv_room (Nat.le_of_ble_eq_true rfl)) dX5_undo_2 ⟨Nat.le_of_ble_eq_true rfl, Nat.le_of_ble_eq_true rfl⟩) hD hS hA (fun c_1 ce q9 H locs hP hD hS h1 h2 h3 => ?_) (fun c_1 H locs hP hD hS => ?_)
  · have hR := hR.trans (if_neg c_1)
    obtain ⟨e1, e2, e3⟩ := z3 hR.symm
    subst e1; subst e2; subst e3
    exact z_out htab hlocks h1 h2 h3 c_1 hP hD hS (by decide) (by decide)
  · have hR := hR.trans (if_pos c_1)
    refine lv_aload_n hx hb dX5_undo_5 rfl (lv_at hl 0 rfl) ?_
    refine va_get (D := G) (ci := 7) (v := .ref (ad 13)) (C := RX5) (T := TX5) (N := 7) hx hb hts iX5_undo hown hE.1 hP 0 (zg_0 cs ad σ tl) rfl 3 (by decide) (hts (.fieldLink RX5 30 "HandoverDeck" "book" "LHandoverDeck$ProcedureBook;") (by decide +kernel)) (fun _ h9 => h9) rfl dX5_undo_6 ?_
    refine lv_iload_n hx hb dX5_undo_9 rfl (lv_at hl 1 rfl) ?_
    refine zai (va_runV (As := [.int a1]) (rest := []) ⟨hx, hb, hml, hown, hts⟩ (c_X4_lastDonePlace l G cs ad tl σ a1  H.size) (cwV 1 hts gX5_undo_X4_lastDonePlace rfl rfl rfl (by decide +kernel) ⟨Nat.le_of_ble_eq_true rfl, Nat.le_of_ble_eq_true rfl⟩) (zpv hE hP hD hS hA (zg_13 cs ad σ tl) rfl) rfl rfl hl.1 rfl (lv_room (Nat.le_of_ble_eq_true rfl)) dX5_undo_10 ⟨Nat.le_of_ble_eq_true rfl, Nat.le_of_ble_eq_true rfl⟩) hD hS hA (fun H locs hP hD hS => ?_)
    refine lv_istore_n (lv' := [(2, .int (f_X4_lastDonePlace σ a1)), (0, .ref (ad 0)), (1, .int a1)]) hx hb dX5_undo_13 rfl hl (by decide) rfl (fun ls hl => ?_)
    refine lv_iload_n hx hb dX5_undo_14 rfl (lv_at hl 0 rfl) ?_
    refine lv_iconst (v := (-1)) hx hb dX5_undo_15 (by decide) ?_
    refine lv_icmp_ne (tgt := 29) hx hb dX5_undo_16 (by decide) (fun c_2 => ?_) (fun c_2 => ?_)
    · have hR := hR.trans (if_neg c_2)
      refine lv_aload_n hx hb dX5_undo_29 rfl (lv_at hl 1 rfl) ?_
      refine zaxv (vx_runV (As := []) (rest := []) ⟨hx, hb, hml, hown, hts⟩ (c_X5_checkAtWork l hfl G cs ad tl σ   H.size) (cwV 0 hts gX5_undo_X5_checkAtWork rfl rfl rfl (by decide +kernel) ⟨Nat.le_of_ble_eq_true rfl, Nat.le_of_ble_eq_true rfl⟩) (zpv hE hP hD hS hA (zg_0 cs ad σ tl) rfl) rfl rfl hl.1 rfl (lv_room (Nat.le_of_ble_eq_true rfl)) dX5_undo_30 ⟨Nat.le_of_ble_eq_true rfl, Nat.le_of_ble_eq_true rfl⟩) hD hS hA (fun c_3 ce q9 H locs hP hD hS h1 h2 h3 => ?_) (fun c_3 H locs hP hD hS => ?_)
      · have hR := hR.trans (if_neg c_3)
        obtain ⟨e1, e2, e3⟩ := z3 hR.symm
        subst e1; subst e2; subst e3
        exact z_out htab hlocks h1 h2 h3 c_3 hP hD hS (by decide) (by decide)
      · have hR := hR.trans (if_pos c_3)
        refine lv_aload_n hx hb dX5_undo_33 rfl (lv_at hl 1 rfl) ?_
        refine zaxv (vx_runV (As := []) (rest := []) ⟨hx, hb, hml, hown, hts⟩ (c_X5_checkRoomForLine l hfl G cs ad tl σ   H.size) (cwV 0 hts gX5_undo_X5_checkRoomForLine rfl rfl rfl (by decide +kernel) ⟨Nat.le_of_ble_eq_true rfl, Nat.le_of_ble_eq_true rfl⟩) (zpv hE hP hD hS hA (zg_0 cs ad σ tl) rfl) rfl rfl hl.1 rfl (lv_room (Nat.le_of_ble_eq_true rfl)) dX5_undo_34 ⟨Nat.le_of_ble_eq_true rfl, Nat.le_of_ble_eq_true rfl⟩) hD hS hA (fun c_4 ce q9 H locs hP hD hS h1 h2 h3 => ?_) (fun c_4 H locs hP hD hS => ?_)
        · have hR := hR.trans (if_neg c_4)
          obtain ⟨e1, e2, e3⟩ := z3 hR.symm
          subst e1; subst e2; subst e3
          exact z_out htab hlocks h1 h2 h3 c_4 hP hD hS (by decide) (by decide)
        · have hR := hR.trans (if_pos c_4)
          refine lv_aload_n hx hb dX5_undo_37 rfl (lv_at hl 1 rfl) ?_
          refine va_get (D := G) (ci := 7) (v := .ref (ad 13)) (C := RX5) (T := TX5) (N := 7) hx hb hts iX5_undo hown hE.1 hP 0 (zg_0 cs ad σ tl) rfl 3 (by decide) (hts (.fieldLink RX5 30 "HandoverDeck" "book" "LHandoverDeck$ProcedureBook;") (by decide +kernel)) (fun _ h9 => h9) rfl dX5_undo_38 ?_
          refine lv_iload_n hx hb dX5_undo_41 rfl (lv_at hl 0 rfl) ?_
          refine zai (va_runV (As := [.int (f_X4_lastDonePlace σ a1)]) (rest := []) ⟨hx, hb, hml, hown, hts⟩ (c_X4_unitOf l G cs ad tl σ (f_X4_lastDonePlace σ a1)  H.size) (cwV 1 hts gX5_undo_X4_unitOf rfl rfl rfl (by decide +kernel) ⟨Nat.le_of_ble_eq_true rfl, Nat.le_of_ble_eq_true rfl⟩) (zpv hE hP hD hS hA (zg_13 cs ad σ tl) rfl) rfl rfl hl.1 rfl (lv_room (Nat.le_of_ble_eq_true rfl)) dX5_undo_42 ⟨Nat.le_of_ble_eq_true rfl, Nat.le_of_ble_eq_true rfl⟩) hD hS hA (fun H locs hP hD hS => ?_)
          refine lv_istore_n (lv' := [(3, .int (f_X4_unitOf σ (f_X4_lastDonePlace σ a1))), (2, .int (f_X4_lastDonePlace σ a1)), (0, .ref (ad 0)), (1, .int a1)]) hx hb dX5_undo_45 rfl hl (by decide) rfl (fun ls hl => ?_)
          refine lv_aload_n hx hb dX5_undo_46 rfl (lv_at hl 2 rfl) ?_
          refine lv_iload_n hx hb dX5_undo_47 rfl (lv_at hl 0 rfl) ?_
          refine zai (va_runV (As := [.int (f_X4_unitOf σ (f_X4_lastDonePlace σ a1))]) (rest := []) ⟨hx, hb, hml, hown, hts⟩ (c_X5_stateOf l G cs ad tl σ (f_X4_unitOf σ (f_X4_lastDonePlace σ a1))  H.size) (cwV 1 hts gX5_undo_X5_stateOf rfl rfl rfl (by decide +kernel) ⟨Nat.le_of_ble_eq_true rfl, Nat.le_of_ble_eq_true rfl⟩) (zpv hE hP hD hS hA (zg_0 cs ad σ tl) rfl) rfl rfl hl.1 rfl (lv_room (Nat.le_of_ble_eq_true rfl)) dX5_undo_48 ⟨Nat.le_of_ble_eq_true rfl, Nat.le_of_ble_eq_true rfl⟩) hD hS hA (fun H locs hP hD hS => ?_)
          refine lv_aload_n hx hb dX5_undo_51 rfl (lv_at hl 2 rfl) ?_
          refine va_get (D := G) (ci := 7) (v := .ref (ad 13)) (C := RX5) (T := TX5) (N := 7) hx hb hts iX5_undo hown hE.1 hP 0 (zg_0 cs ad σ tl) rfl 3 (by decide) (hts (.fieldLink RX5 30 "HandoverDeck" "book" "LHandoverDeck$ProcedureBook;") (by decide +kernel)) (fun _ h9 => h9) rfl dX5_undo_52 ?_
          refine lv_iload_n hx hb dX5_undo_55 rfl (lv_at hl 1 rfl) ?_
          refine zai (va_runV (As := [.int (f_X4_lastDonePlace σ a1)]) (rest := [.int (f_X5_stateOf σ (f_X4_unitOf σ (f_X4_lastDonePlace σ a1)))]) ⟨hx, hb, hml, hown, hts⟩ (c_X4_newStateOf l G cs ad tl σ (f_X4_lastDonePlace σ a1)  H.size) (cwV 1 hts gX5_undo_X4_newStateOf rfl rfl rfl (by decide +kernel) ⟨Nat.le_of_ble_eq_true rfl, Nat.le_of_ble_eq_true rfl⟩) (zpv hE hP hD hS hA (zg_13 cs ad σ tl) rfl) rfl rfl hl.1 rfl (lv_room (Nat.le_of_ble_eq_true rfl)) dX5_undo_56 ⟨Nat.le_of_ble_eq_true rfl, Nat.le_of_ble_eq_true rfl⟩) hD hS hA (fun H locs hP hD hS => ?_)
          refine lv_icmp_ne (tgt := 77) hx hb dX5_undo_59 (by decide) (fun c_5 => ?_) (fun c_5 => ?_)
          · have hR := hR.trans (if_neg c_5)
            obtain ⟨e1, e2, e3⟩ := z3 hR.symm
            subst e1; subst e2; subst e3
            exact z_thr (k := 5) (is := 210) (text := "the unit was set since, or a permit bars the step") hx hb hfl zf_5.1 zf_5.2.1 zf_5.2.2 (fun w h => hts w (List.mem_cons_of_mem _ (List.mem_append_left _ (List.mem_append_left _ (List.mem_append_right _ h))))) (hts (.classLink RX5 208 "java/lang/UnsupportedOperationException") (by decide +kernel)) (hts (.initialized "java/lang/UnsupportedOperationException") (by decide +kernel)) (hE.2.1 _ (List.mem_of_getElem? (i := 7) rfl)) (hE.2.2.1 (210, "the unit was set since, or a permit bars the step") (by decide +kernel)) hown hE hP hD hS (by rw [hl.1, hml]) dX5_undo_77 dX5_undo_80 dX5_undo_81 dX5_undo_83 dX5_undo_86 htab (by decide) (by decide) (by decide) (by decide) hlocks (by decide) rfl (by decide) (by decide)
          · have hR := hR.trans (if_pos c_5)
            refine lv_aload_n hx hb dX5_undo_62 rfl (lv_at hl 2 rfl) ?_
            refine va_get (D := G) (ci := 7) (v := .ref (ad 23)) (C := RX5) (T := TX5) (N := 7) hx hb hts iX5_undo hown hE.1 hP 0 (zg_0 cs ad σ tl) rfl 4 (by decide) (hts (.fieldLink RX5 37 "HandoverDeck" "permits" "LHandoverDeck$PermitRack;") (by decide +kernel)) (fun _ h9 => h9) rfl dX5_undo_63 ?_
            refine lv_iload_n hx hb dX5_undo_66 rfl (lv_at hl 0 rfl) ?_
            refine zai (va_runS (As := [.int (f_X4_unitOf σ (f_X4_lastDonePlace σ a1))]) (rest := [.ref (ad 23)]) ⟨hx, hb, hml, hown, hts⟩ (c_X5_unitBit l G cs ad tl σ (f_X4_unitOf σ (f_X4_lastDonePlace σ a1))  H.size) (va_cwS 1 hts gX5_undo_X5_unitBit rfl rfl rfl (by decide +kernel) ⟨Nat.le_of_ble_eq_true rfl, Nat.le_of_ble_eq_true rfl⟩) (zps hE hP hD hS hA) rfl rfl hl.1 rfl (lv_room (Nat.le_of_ble_eq_true rfl)) dX5_undo_67 ⟨Nat.le_of_ble_eq_true rfl, Nat.le_of_ble_eq_true rfl⟩) hD hS hA (fun H locs hP hD hS => ?_)
            refine zai (va_runV (As := [.int (f_X5_unitBit (f_X4_unitOf σ (f_X4_lastDonePlace σ a1)))]) (rest := []) ⟨hx, hb, hml, hown, hts⟩ (c_X3_firstOpenWith l G cs ad tl σ (f_X5_unitBit (f_X4_unitOf σ (f_X4_lastDonePlace σ a1)))  H.size) (cwV 1 hts gX5_undo_X3_firstOpenWith rfl rfl rfl (by decide +kernel) ⟨Nat.le_of_ble_eq_true rfl, Nat.le_of_ble_eq_true rfl⟩) (zpv hE hP hD hS hA (zg_23 cs ad σ tl) rfl) rfl rfl hl.1 rfl (lv_room (Nat.le_of_ble_eq_true rfl)) dX5_undo_70 ⟨Nat.le_of_ble_eq_true rfl, Nat.le_of_ble_eq_true rfl⟩) hD hS hA (fun H locs hP hD hS => ?_)
            refine lv_iconst (v := (-1)) hx hb dX5_undo_73 (by decide) ?_
            refine lv_icmp_eq (tgt := 87) hx hb dX5_undo_74 (by decide) (fun c_6 => ?_) (fun c_6 => ?_)
            · have hR := hR.trans (if_pos c_6)
              refine lv_aload_n hx hb dX5_undo_87 rfl (lv_at hl 2 rfl) ?_
              refine va_get (D := G) (ci := 7) (v := .ref (ad 2)) (C := RX5) (T := TX5) (N := 7) hx hb hts iX5_undo hown hE.1 hP 0 (zg_0 cs ad σ tl) rfl 1 (by decide) (hts (.fieldLink RX5 16 "HandoverDeck" "log" "LHandoverDeck$Log;") (by decide +kernel)) (fun _ h9 => h9) rfl dX5_undo_88 ?_
              refine lv_bipush (v := 115) hx hb dX5_undo_91 (by decide) ?_
              refine lv_aload_n hx hb dX5_undo_93 rfl (lv_at hl 2 rfl) ?_
              refine va_get (D := G) (ci := 7) (v := .int (σ 0 6)) (C := RX5) (T := TX5) (N := 7) hx hb hts iX5_undo hown hE.1 hP 0 (zg_0 cs ad σ tl) rfl 6 (by decide) (hts (.fieldLink RX5 81 "HandoverDeck" "now" "I") (by decide +kernel)) (fun _ h9 => h9) rfl dX5_undo_94 ?_
              refine zai (va_runV (As := [.int 115, .int (σ 0 6)]) (rest := []) ⟨hx, hb, hml, hown, hts⟩ (c_X2_openLine l G cs ad tl σ 115 (σ 0 6) (by decide) H.size) (cwV 2 hts gX5_undo_X2_openLine rfl rfl rfl (by decide +kernel) ⟨Nat.le_of_ble_eq_true rfl, Nat.le_of_ble_eq_true rfl⟩) (zpv hE hP hD hS hA (zg_2 cs ad σ tl) rfl) rfl rfl hl.1 rfl (lv_room (Nat.le_of_ble_eq_true rfl)) dX5_undo_97 ⟨Nat.le_of_ble_eq_true rfl, Nat.le_of_ble_eq_true rfl⟩) hD hS hA (fun H locs hP hD hS => ?_)
              refine lv_istore (lv' := [(4, .int (f_X2_openLine σ 115 (σ 0 6)).1), (3, .int (f_X4_unitOf σ (f_X4_lastDonePlace σ a1))), (2, .int (f_X4_lastDonePlace σ a1)), (0, .ref (ad 0)), (1, .int a1)]) hx hb dX5_undo_100 hl (by decide) rfl (fun ls hl => ?_)
              refine lv_aload_n hx hb dX5_undo_102 rfl (lv_at hl 3 rfl) ?_
              refine lv_iload_n hx hb dX5_undo_103 rfl (lv_at hl 1 rfl) ?_
              refine lv_aload_n hx hb dX5_undo_104 rfl (lv_at hl 3 rfl) ?_
              refine va_get (D := G) (ci := 7) (v := .ref (ad 13)) (C := RX5) (T := TX5) (N := 7) hx hb hts iX5_undo hown hE.1 hP 0 (zg_0 cs ad (f_X2_openLine σ 115 (σ 0 6)).2 tl) rfl 3 (by decide) (hts (.fieldLink RX5 30 "HandoverDeck" "book" "LHandoverDeck$ProcedureBook;") (by decide +kernel)) (fun _ h9 => h9) rfl dX5_undo_105 ?_
              refine lv_iload_n hx hb dX5_undo_108 rfl (lv_at hl 2 rfl) ?_
              refine zai (va_runV (As := [.int (f_X4_lastDonePlace σ a1)]) (rest := [.int (f_X4_unitOf σ (f_X4_lastDonePlace σ a1)), .ref (ad 0)]) ⟨hx, hb, hml, hown, hts⟩ (c_X4_notedStateOf l G cs ad tl (f_X2_openLine σ 115 (σ 0 6)).2 (f_X4_lastDonePlace σ a1)  H.size) (cwV 1 hts gX5_undo_X4_notedStateOf rfl rfl rfl (by decide +kernel) ⟨Nat.le_of_ble_eq_true rfl, Nat.le_of_ble_eq_true rfl⟩) (zpv hE hP hD hS hA (zg_13 cs ad (f_X2_openLine σ 115 (σ 0 6)).2 tl) rfl) rfl rfl hl.1 rfl (lv_room (Nat.le_of_ble_eq_true rfl)) dX5_undo_109 ⟨Nat.le_of_ble_eq_true rfl, Nat.le_of_ble_eq_true rfl⟩) hD hS hA (fun H locs hP hD hS => ?_)
              refine zav (va_runV (As := [.int (f_X4_unitOf σ (f_X4_lastDonePlace σ a1)), .int (f_X4_notedStateOf (f_X2_openLine σ 115 (σ 0 6)).2 (f_X4_lastDonePlace σ a1))]) (rest := []) ⟨hx, hb, hml, hown, hts⟩ (c_X5_setState l G cs ad tl (f_X2_openLine σ 115 (σ 0 6)).2 (f_X4_unitOf σ (f_X4_lastDonePlace σ a1)) (f_X4_notedStateOf (f_X2_openLine σ 115 (σ 0 6)).2 (f_X4_lastDonePlace σ a1))  H.size) (cwV 2 hts gX5_undo_X5_setState rfl rfl rfl (by decide +kernel) ⟨Nat.le_of_ble_eq_true rfl, Nat.le_of_ble_eq_true rfl⟩) (zpv hE hP hD hS hA (zg_0 cs ad (f_X2_openLine σ 115 (σ 0 6)).2 tl) rfl) rfl rfl hl.1 rfl (lv_room (Nat.le_of_ble_eq_true rfl)) dX5_undo_112 ⟨Nat.le_of_ble_eq_true rfl, Nat.le_of_ble_eq_true rfl⟩) hD hS hA (fun H locs hP hD hS => ?_)
              refine lv_aload_n hx hb dX5_undo_115 rfl (lv_at hl 3 rfl) ?_
              refine va_get (D := G) (ci := 7) (v := .ref (ad 13)) (C := RX5) (T := TX5) (N := 7) hx hb hts iX5_undo hown hE.1 hP 0 (zg_0 cs ad (f_X5_setState (f_X2_openLine σ 115 (σ 0 6)).2 (f_X4_unitOf σ (f_X4_lastDonePlace σ a1)) (f_X4_notedStateOf (f_X2_openLine σ 115 (σ 0 6)).2 (f_X4_lastDonePlace σ a1))) tl) rfl 3 (by decide) (hts (.fieldLink RX5 30 "HandoverDeck" "book" "LHandoverDeck$ProcedureBook;") (by decide +kernel)) (fun _ h9 => h9) rfl dX5_undo_116 ?_
              refine lv_iload_n hx hb dX5_undo_119 rfl (lv_at hl 4 rfl) ?_
              refine lv_iload hx hb dX5_undo_120 (lv_at hl 0 rfl) ?_
              refine zav (va_runV (As := [.int a1, .int (f_X2_openLine σ 115 (σ 0 6)).1]) (rest := []) ⟨hx, hb, hml, hown, hts⟩ (c_X4_markUndone l G cs ad tl (f_X5_setState (f_X2_openLine σ 115 (σ 0 6)).2 (f_X4_unitOf σ (f_X4_lastDonePlace σ a1)) (f_X4_notedStateOf (f_X2_openLine σ 115 (σ 0 6)).2 (f_X4_lastDonePlace σ a1))) a1 (f_X2_openLine σ 115 (σ 0 6)).1  H.size) (cwV 2 hts gX5_undo_X4_markUndone rfl rfl rfl (by decide +kernel) ⟨Nat.le_of_ble_eq_true rfl, Nat.le_of_ble_eq_true rfl⟩) (zpv hE hP hD hS hA (zg_13 cs ad (f_X5_setState (f_X2_openLine σ 115 (σ 0 6)).2 (f_X4_unitOf σ (f_X4_lastDonePlace σ a1)) (f_X4_notedStateOf (f_X2_openLine σ 115 (σ 0 6)).2 (f_X4_lastDonePlace σ a1))) tl) rfl) rfl rfl hl.1 rfl (lv_room (Nat.le_of_ble_eq_true rfl)) dX5_undo_122 ⟨Nat.le_of_ble_eq_true rfl, Nat.le_of_ble_eq_true rfl⟩) hD hS hA (fun H locs hP hD hS => ?_)
              refine lv_iload hx hb dX5_undo_125 (lv_at hl 0 rfl) ?_
              obtain ⟨e1, e2, e3⟩ := z3 hR.symm
              subst e1; subst e2; subst e3
              refine W.widen (k := 4) (n := 24) (by decide) (by decide) ?_
              refine vx_ret ?_
              exact W.iret (v := (f_X2_openLine σ 115 (σ 0 6)).1) hx hb hr (fun t ht hW => ⟨⟨_, (), rfl, ⟨rfl, rfl⟩, by rw [ht]; exact hP, hD⟩, hS.F ht⟩) hS.2.2 dX5_undo_127
            · have hR := hR.trans (if_neg c_6)
              obtain ⟨e1, e2, e3⟩ := z3 hR.symm
              subst e1; subst e2; subst e3
              exact z_thr (k := 5) (is := 210) (text := "the unit was set since, or a permit bars the step") hx hb hfl zf_5.1 zf_5.2.1 zf_5.2.2 (fun w h => hts w (List.mem_cons_of_mem _ (List.mem_append_left _ (List.mem_append_left _ (List.mem_append_right _ h))))) (hts (.classLink RX5 208 "java/lang/UnsupportedOperationException") (by decide +kernel)) (hts (.initialized "java/lang/UnsupportedOperationException") (by decide +kernel)) (hE.2.1 _ (List.mem_of_getElem? (i := 7) rfl)) (hE.2.2.1 (210, "the unit was set since, or a permit bars the step") (by decide +kernel)) hown hE hP hD hS (by rw [hl.1, hml]) dX5_undo_77 dX5_undo_80 dX5_undo_81 dX5_undo_83 dX5_undo_86 htab (by decide) (by decide) (by decide) (by decide) hlocks (by decide) rfl (by decide) (by decide)
    · have hR := hR.trans (if_pos c_2)
      obtain ⟨e1, e2, e3⟩ := z3 hR.symm
      subst e1; subst e2; subst e3
      exact z_thr (k := 3) (is := 203) (text := "no step is done") hx hb hfl zf_3.1 zf_3.2.1 zf_3.2.2 (fun w h => hts w (List.mem_cons_of_mem _ (List.mem_append_left _ (List.mem_append_left _ (List.mem_append_left _ (List.mem_append_right _ h)))))) (hts (.classLink RX5 71 "java/lang/IllegalStateException") (by decide +kernel)) (hts (.initialized "java/lang/IllegalStateException") (by decide +kernel)) (hE.2.1 _ (List.mem_of_getElem? (i := 5) rfl)) (hE.2.2.1 (203, "no step is done") (by decide +kernel)) hown hE hP hD hS (by rw [hl.1, hml]) dX5_undo_19 dX5_undo_22 dX5_undo_23 dX5_undo_25 dX5_undo_28 htab (by decide) (by decide) (by decide) (by decide) hlocks (by decide) rfl (by decide) (by decide)
def L_X5_reset_21 (σ : zS) (a1 : Int32) : Nat → zS → Int32 → Int32 → Nat × Int32 × zS
  | 0, _, _, _ => (0, 0, σ)
  | n + 1, τ, x2, x3 => (if 8 ≤ x3 then (0, x2, τ) else (if (f_X5_closeUndoneLine τ (f_X5_stepPlace a1 x3)).1 = 0 then (L_X5_reset_21 σ a1 n (f_X5_closeUndoneLine τ (f_X5_stepPlace a1 x3)).2 x2 (x3 + 1)) else (L_X5_reset_21 σ a1 n (f_X5_closeUndoneLine τ (f_X5_stepPlace a1 x3)).2 (x2 + 1) (x3 + 1))))
def f_X5_reset (σ : zS) (a1 : Int32) : Nat × Int32 × zS := (if (f_X5_checkProcedure σ a1) = 0 then (if (f_X5_checkAtWork σ ) = 0 then (L_X5_reset_21 σ a1 9 (f_X4_markNoneDone σ a1) 0 0) else ((f_X5_checkAtWork σ ), 0, σ)) else ((f_X5_checkProcedure σ a1), 0, σ))
theorem iX5_reset : ∀ w ∈ u_ws RX5 TX5 7, w ∈ wsX5_reset := by decide +kernel
set_option maxRecDepth 100000 in
theorem c_X5_reset (l : Launch) (hfl : l.stackTraces = false) (G : va_G) (cs : Nat → ClassId) (ad : Nat → Nat) (tl : va_W) (σ : zS) (a1 : Int32)  : zXi l yX5_reset wsX5_reset { frames := 7, cells := 2, slots := 12, locals := 111 } G cs [.ref (ad 0), .int a1] (zw cs ad σ tl) (f_X5_reset σ a1).1 (f_X5_reset σ a1).2.1 (zw cs ad (f_X5_reset σ a1).2.2 tl) 2 12 := by
  intro sz
  refine vx_ofW (cc := cX5_reset) (maxL := 4) (ret := (some .int)) (by decide) rfl ?_
  intro p e s m args below meth c s₁ B hml htab hv
  obtain ⟨rfl, hsz, hP, hD0, hE⟩ := hv
  have hx := B.exec
  have hb := B.bytes
  have hr := B.returns
  have hts := atoms_spec (ws := wsX5_reset) B.pre
  have hown : s.vm.findClass RX5 = some m.cls := findClass_of_methodNamed B.named
  have hlocks := B.notSynchronized
  subst hsz
  have hD := hD0.self (sz := s.heap.size)
  have hA : ∀ q : Nat, s.heap.size ≤ q → (va_A (zw cs ad σ tl) s.heap.size) q := fun q h => Or.inr h
  generalize va_A (zw cs ad σ tl) s.heap.size = A at hD hE hA ⊢
  have hS : va_S A s.heap s.heap [] := va_S.rf
  have hl := lv_entry ([.ref (ad 0), .int a1]) (n := 4) (Nat.le_of_ble_eq_true rfl)
  rw [lg_entry_eq]
  generalize (lg_sl ([.ref (ad 0), .int a1]) ++ List.replicate (4 - (lg_sl ([.ref (ad 0), .int a1])).length) Slot.unset).toArray = ls at hl ⊢
  have hl : lv_has ls 4 [(0, .ref (ad 0)), (1, .int a1)] := hl
  generalize hR : (f_X5_reset σ a1) = RV
  have hR := hR.symm
  unfold f_X5_reset at hR
  obtain ⟨RVk, RVv, RVs⟩ := RV
  dsimp only
  obtain ⟨H, hH⟩ : ∃ z, z = s.heap := ⟨_, rfl⟩
  obtain ⟨locs, hlocs⟩ : ∃ z : List Loc, z = [] := ⟨_, rfl⟩
  rw [← hH] at hP
  have hS : va_S A s.heap H locs := by rw [hH, hlocs]; exact hS
  show W _ _ _ _ _ _ _ _ _ _ s.heap [] _ _ _ _
  rw [← hH, ← hlocs]
  clear hlocs
  refine lv_aload_n hx hb dX5_reset_0 rfl (lv_at hl 0 rfl) ?_
  refine lv_iload_n hx hb dX5_reset_1 rfl (lv_at hl 1 rfl) ?_
  refine zaxv (vx_runV (As := [.int a1]) (rest := []) ⟨hx, hb, hml, hown, hts⟩ (c_X5_checkProcedure l hfl G cs ad tl σ a1  H.size) (cwV 1 hts gX5_reset_X5_checkProcedure rfl rfl rfl (by decide +kernel) ⟨Nat.le_of_ble_eq_true rfl, Nat.le_of_ble_eq_true rfl⟩) (zpv hE hP hD hS hA (zg_0 cs ad σ tl) rfl) rfl rfl hl.1 rfl (lv_room (Nat.le_of_ble_eq_true rfl)) dX5_reset_2 ⟨Nat.le_of_ble_eq_true rfl, Nat.le_of_ble_eq_true rfl⟩) hD hS hA (fun c_1 ce q9 H locs hP hD hS h1 h2 h3 => ?_) (fun c_1 H locs hP hD hS => ?_)
  · have hR := hR.trans (if_neg c_1)
    obtain ⟨e1, e2, e3⟩ := z3 hR.symm
    subst e1; subst e2; subst e3
    exact z_out htab hlocks h1 h2 h3 c_1 hP hD hS (by decide) (by decide)
  · have hR := hR.trans (if_pos c_1)
    refine lv_aload_n hx hb dX5_reset_5 rfl (lv_at hl 0 rfl) ?_
    refine zaxv (vx_runV (As := []) (rest := []) ⟨hx, hb, hml, hown, hts⟩ (c_X5_checkAtWork l hfl G cs ad tl σ   H.size) (cwV 0 hts gX5_reset_X5_checkAtWork rfl rfl rfl (by decide +kernel) ⟨Nat.le_of_ble_eq_true rfl, Nat.le_of_ble_eq_true rfl⟩) (zpv hE hP hD hS hA (zg_0 cs ad σ tl) rfl) rfl rfl hl.1 rfl (lv_room (Nat.le_of_ble_eq_true rfl)) dX5_reset_6 ⟨Nat.le_of_ble_eq_true rfl, Nat.le_of_ble_eq_true rfl⟩) hD hS hA (fun c_2 ce q9 H locs hP hD hS h1 h2 h3 => ?_) (fun c_2 H locs hP hD hS => ?_)
    · have hR := hR.trans (if_neg c_2)
      obtain ⟨e1, e2, e3⟩ := z3 hR.symm
      subst e1; subst e2; subst e3
      exact z_out htab hlocks h1 h2 h3 c_2 hP hD hS (by decide) (by decide)
    · have hR := hR.trans (if_pos c_2)
      refine lv_aload_n hx hb dX5_reset_9 rfl (lv_at hl 0 rfl) ?_
      refine va_get (D := G) (ci := 7) (v := .ref (ad 13)) (C := RX5) (T := TX5) (N := 7) hx hb hts iX5_reset hown hE.1 hP 0 (zg_0 cs ad σ tl) rfl 3 (by decide) (hts (.fieldLink RX5 30 "HandoverDeck" "book" "LHandoverDeck$ProcedureBook;") (by decide +kernel)) (fun _ h9 => h9) rfl dX5_reset_10 ?_
      refine lv_iload_n hx hb dX5_reset_13 rfl (lv_at hl 1 rfl) ?_
      refine zav (va_runV (As := [.int a1]) (rest := []) ⟨hx, hb, hml, hown, hts⟩ (c_X4_markNoneDone l G cs ad tl σ a1  H.size) (cwV 1 hts gX5_reset_X4_markNoneDone rfl rfl rfl (by decide +kernel) ⟨Nat.le_of_ble_eq_true rfl, Nat.le_of_ble_eq_true rfl⟩) (zpv hE hP hD hS hA (zg_13 cs ad σ tl) rfl) rfl rfl hl.1 rfl (lv_room (Nat.le_of_ble_eq_true rfl)) dX5_reset_14 ⟨Nat.le_of_ble_eq_true rfl, Nat.le_of_ble_eq_true rfl⟩) hD hS hA (fun H locs hP hD hS => ?_)
      refine lv_iconst (v := 0) hx hb dX5_reset_17 (by decide) ?_
      refine lv_istore_n (lv' := [(2, .int 0), (0, .ref (ad 0)), (1, .int a1)]) hx hb dX5_reset_18 rfl hl (by decide) rfl (fun ls hl => ?_)
      refine lv_iconst (v := 0) hx hb dX5_reset_19 (by decide) ?_
      refine lv_istore_n (lv' := [(3, .int 0), (2, .int 0), (0, .ref (ad 0)), (1, .int a1)]) hx hb dX5_reset_20 rfl hl (by decide) rfl (fun ls hl => ?_)
      have loop_5 : ∀ (n k : Nat) (τ : zS) (x2 : Int32) (x3 : Int32), x3 = nI (k) → k ≤ 8 → k + n = 9 → (RVk, RVv, RVs) = L_X5_reset_21 σ a1 n τ x2 x3 → ∀ (H : Heap) (locs : List Loc), va_P G vwCl (zw cs ad τ tl) H → va_D A (zw cs ad τ tl) → va_S A s.heap H locs → ∀ ls : Array Slot, lv_has ls 4 [(0, .ref (ad 0)), (1, .int a1), (2, .int x2), (3, .int x3)] → W p l e (headSpec wsX5_reset { frames := 7, cells := 2, slots := 12, locals := 111 }).room s m (List.toArray [.ref (ad 0), .int a1]) below meth c H locs 2 12 (vx_MQ below (va_Qi (fun (r : Int32) (_ : Unit) => RVk = 0 ∧ r = RVv) (fun _ t => zPo G A (zw cs ad RVs tl) t) A) (vx_X (fun (_ : Unit) => ¬ RVk = 0) (fun E _ t => E = zen RVk ∧ zPo G A (zw cs ad RVs tl) t) A) (List.toArray [.ref (ad 0), .int a1]) s 2 12 A) (F0 m 21 ls []) := by
        intro n
        induction n with
        | zero => intro k τ x2 x3 ex hk hn; omega
        | succ n ih =>
          intro k τ x2 x3 ex hk hn hR H locs hP hD hS ls hl
          rw [L_X5_reset_21] at hR
          refine lv_iload_n hx hb dX5_reset_21 rfl (lv_at hl 3 rfl) ?_
          refine lv_bipush (v := 8) hx hb dX5_reset_22 (by decide) ?_
          refine lv_icmp_ge (tgt := 48) hx hb dX5_reset_24 (by decide) (fun c_3 => ?_) (fun c_3 => ?_)
          · have hR := hR.trans (if_pos c_3)
            refine lv_iload_n hx hb dX5_reset_48 rfl (lv_at hl 2 rfl) ?_
            obtain ⟨e1, e2, e3⟩ := z3 hR.symm
            subst e1; subst e2; subst e3
            refine W.widen (k := 2) (n := 12) (by decide) (by decide) ?_
            refine vx_ret ?_
            exact W.iret (v := x2) hx hb hr (fun t ht hW => ⟨⟨_, (), rfl, ⟨rfl, rfl⟩, by rw [ht]; exact hP, hD⟩, hS.F ht⟩) hS.2.2 dX5_reset_49
          · have hR := hR.trans (if_neg c_3)
            have hkB : k < 8 := zlt ex (by omega) (by decide) c_3
            refine lv_aload_n hx hb dX5_reset_27 rfl (lv_at hl 0 rfl) ?_
            refine lv_iload_n hx hb dX5_reset_28 rfl (lv_at hl 1 rfl) ?_
            refine lv_iload_n hx hb dX5_reset_29 rfl (lv_at hl 3 rfl) ?_
            refine zai (va_runS (As := [.int a1, .int x3]) (rest := [.ref (ad 0)]) ⟨hx, hb, hml, hown, hts⟩ (c_X5_stepPlace l G cs ad tl τ a1 x3  H.size) (va_cwS 2 hts gX5_reset_X5_stepPlace rfl rfl rfl (by decide +kernel) ⟨Nat.le_of_ble_eq_true rfl, Nat.le_of_ble_eq_true rfl⟩) (zps hE hP hD hS hA) rfl rfl hl.1 rfl (lv_room (Nat.le_of_ble_eq_true rfl)) dX5_reset_30 ⟨Nat.le_of_ble_eq_true rfl, Nat.le_of_ble_eq_true rfl⟩) hD hS hA (fun H locs hP hD hS => ?_)
            refine zai (va_runV (As := [.int (f_X5_stepPlace a1 x3)]) (rest := []) ⟨hx, hb, hml, hown, hts⟩ (c_X5_closeUndoneLine l G cs ad tl τ (f_X5_stepPlace a1 x3)  H.size) (cwV 1 hts gX5_reset_X5_closeUndoneLine rfl rfl rfl (by decide +kernel) ⟨Nat.le_of_ble_eq_true rfl, Nat.le_of_ble_eq_true rfl⟩) (zpv hE hP hD hS hA (zg_0 cs ad τ tl) rfl) rfl rfl hl.1 rfl (lv_room (Nat.le_of_ble_eq_true rfl)) dX5_reset_33 ⟨Nat.le_of_ble_eq_true rfl, Nat.le_of_ble_eq_true rfl⟩) hD hS hA (fun H locs hP hD hS => ?_)
            refine lv_if_eq (tgt := 42) hx hb dX5_reset_36 (by decide) (fun c_4 => ?_) (fun c_4 => ?_)
            · have hR := hR.trans (if_pos c_4)
              refine lv_iinc (v := (x3 + 1)) (lv' := [(3, .int (x3 + 1)), (0, .ref (ad 0)), (1, .int a1), (2, .int x2)]) hx hb dX5_reset_42 hl (k := 3) rfl rfl (by decide) rfl (fun ls hl => ?_)
              refine lv_goto (tgt := 21) hx hb dX5_reset_45 (by decide) ?_
              exact ih (k + 1) (f_X5_closeUndoneLine τ (f_X5_stepPlace a1 x3)).2 x2 (x3 + 1) (by rw [ex]; exact nI_1 _) (by omega) (by omega)  hR H locs hP hD hS ls (lv_sub hl [1, 2, 3, 0] rfl)
            · have hR := hR.trans (if_neg c_4)
              refine lv_iinc (v := (x2 + 1)) (lv' := [(2, .int (x2 + 1)), (0, .ref (ad 0)), (1, .int a1), (3, .int x3)]) hx hb dX5_reset_39 hl (k := 2) rfl rfl (by decide) rfl (fun ls hl => ?_)
              refine lv_iinc (v := (x3 + 1)) (lv' := [(3, .int (x3 + 1)), (2, .int (x2 + 1)), (0, .ref (ad 0)), (1, .int a1)]) hx hb dX5_reset_42 hl (k := 3) rfl rfl (by decide) rfl (fun ls hl => ?_)
              refine lv_goto (tgt := 21) hx hb dX5_reset_45 (by decide) ?_
              exact ih (k + 1) (f_X5_closeUndoneLine τ (f_X5_stepPlace a1 x3)).2 (x2 + 1) (x3 + 1) (by rw [ex]; exact nI_1 _) (by omega) (by omega)  hR H locs hP hD hS ls (lv_sub hl [2, 3, 1, 0] rfl)
      exact loop_5 9 0 (f_X4_markNoneDone σ a1) 0 0 nI_0.symm (by omega) (by omega)  hR H locs hP hD hS ls (lv_sub hl [2, 3, 1, 0] rfl)
def f_X5_drill (σ : zS)  : Nat × Int32 × zS := (if (f_X4_longestNotTaken σ ) = (-1) then (4, 0, σ) else (0, (f_X4_longestNotTaken σ ), σ))
theorem iX5_drill : ∀ w ∈ u_ws RX5 TX5 7, w ∈ wsX5_drill := by decide +kernel
set_option maxRecDepth 100000 in
theorem c_X5_drill (l : Launch) (hfl : l.stackTraces = false) (G : va_G) (cs : Nat → ClassId) (ad : Nat → Nat) (tl : va_W) (σ : zS)   : zXi l yX5_drill wsX5_drill { frames := 6, cells := 1, slots := 6, locals := 90 } G cs [.ref (ad 0)] (zw cs ad σ tl) (f_X5_drill σ ).1 (f_X5_drill σ ).2.1 (zw cs ad (f_X5_drill σ ).2.2 tl) 1 6 := by
  intro sz
  refine vx_ofW (cc := cX5_drill) (maxL := 2) (ret := (some .int)) (by decide) rfl ?_
  intro p e s m args below meth c s₁ B hml htab hv
  obtain ⟨rfl, hsz, hP, hD0, hE⟩ := hv
  have hx := B.exec
  have hb := B.bytes
  have hr := B.returns
  have hts := atoms_spec (ws := wsX5_drill) B.pre
  have hown : s.vm.findClass RX5 = some m.cls := findClass_of_methodNamed B.named
  have hlocks := B.notSynchronized
  subst hsz
  have hD := hD0.self (sz := s.heap.size)
  have hA : ∀ q : Nat, s.heap.size ≤ q → (va_A (zw cs ad σ tl) s.heap.size) q := fun q h => Or.inr h
  generalize va_A (zw cs ad σ tl) s.heap.size = A at hD hE hA ⊢
  have hS : va_S A s.heap s.heap [] := va_S.rf
  have hl := lv_entry ([.ref (ad 0)]) (n := 2) (Nat.le_of_ble_eq_true rfl)
  rw [lg_entry_eq]
  generalize (lg_sl ([.ref (ad 0)]) ++ List.replicate (2 - (lg_sl ([.ref (ad 0)])).length) Slot.unset).toArray = ls at hl ⊢
  have hl : lv_has ls 2 [(0, .ref (ad 0))] := hl
  generalize hR : (f_X5_drill σ ) = RV
  have hR := hR.symm
  unfold f_X5_drill at hR
  obtain ⟨RVk, RVv, RVs⟩ := RV
  dsimp only
  obtain ⟨H, hH⟩ : ∃ z, z = s.heap := ⟨_, rfl⟩
  obtain ⟨locs, hlocs⟩ : ∃ z : List Loc, z = [] := ⟨_, rfl⟩
  rw [← hH] at hP
  have hS : va_S A s.heap H locs := by rw [hH, hlocs]; exact hS
  show W _ _ _ _ _ _ _ _ _ _ s.heap [] _ _ _ _
  rw [← hH, ← hlocs]
  clear hlocs
  refine lv_aload_n hx hb dX5_drill_0 rfl (lv_at hl 0 rfl) ?_
  refine va_get (D := G) (ci := 7) (v := .ref (ad 13)) (C := RX5) (T := TX5) (N := 7) hx hb hts iX5_drill hown hE.1 hP 0 (zg_0 cs ad σ tl) rfl 3 (by decide) (hts (.fieldLink RX5 30 "HandoverDeck" "book" "LHandoverDeck$ProcedureBook;") (by decide +kernel)) (fun _ h9 => h9) rfl dX5_drill_1 ?_
  refine zai (va_runV (As := []) (rest := []) ⟨hx, hb, hml, hown, hts⟩ (c_X4_longestNotTaken l G cs ad tl σ   H.size) (cwV 0 hts gX5_drill_X4_longestNotTaken rfl rfl rfl (by decide +kernel) ⟨Nat.le_of_ble_eq_true rfl, Nat.le_of_ble_eq_true rfl⟩) (zpv hE hP hD hS hA (zg_13 cs ad σ tl) rfl) rfl rfl hl.1 rfl (lv_room (Nat.le_of_ble_eq_true rfl)) dX5_drill_4 ⟨Nat.le_of_ble_eq_true rfl, Nat.le_of_ble_eq_true rfl⟩) hD hS hA (fun H locs hP hD hS => ?_)
  refine lv_istore_n (lv' := [(1, .int (f_X4_longestNotTaken σ )), (0, .ref (ad 0))]) hx hb dX5_drill_7 rfl hl (by decide) rfl (fun ls hl => ?_)
  refine lv_iload_n hx hb dX5_drill_8 rfl (lv_at hl 0 rfl) ?_
  refine lv_iconst (v := (-1)) hx hb dX5_drill_9 (by decide) ?_
  refine lv_icmp_ne (tgt := 23) hx hb dX5_drill_10 (by decide) (fun c_1 => ?_) (fun c_1 => ?_)
  · have hR := hR.trans (if_neg c_1)
    refine lv_iload_n hx hb dX5_drill_23 rfl (lv_at hl 0 rfl) ?_
    obtain ⟨e1, e2, e3⟩ := z3 hR.symm
    subst e1; subst e2; subst e3
    refine W.widen (k := 1) (n := 6) (by decide) (by decide) ?_
    refine vx_ret ?_
    exact W.iret (v := (f_X4_longestNotTaken σ )) hx hb hr (fun t ht hW => ⟨⟨_, (), rfl, ⟨rfl, rfl⟩, by rw [ht]; exact hP, hD⟩, hS.F ht⟩) hS.2.2 dX5_drill_24
  · have hR := hR.trans (if_pos c_1)
    obtain ⟨e1, e2, e3⟩ := z3 hR.symm
    subst e1; subst e2; subst e3
    exact z_thrN (k := 4) (is := 228) (text := "there are no steps") hx hb hfl zf_4.1 zf_4.2.1 zf_4.2.2 (fun w h => hts w (List.mem_cons_of_mem _ (List.mem_append_left _ (List.mem_append_right _ h)))) (hts (.classLink RX5 125 "java/util/NoSuchElementException") (by decide +kernel)) (hts (.initialized "java/util/NoSuchElementException") (by decide +kernel)) (hE.2.1 _ (List.mem_of_getElem? (i := 6) rfl)) (hE.2.2.1 (228, "there are no steps") (by decide +kernel)) hown hE hP hD hS (by rw [hl.1, hml]) dX5_drill_13 dX5_drill_16 dX5_drill_17 dX5_drill_19 dX5_drill_22 htab (by decide) (by decide) (by decide) (by decide) hlocks (by decide) rfl (by decide) (by decide)
def f_X5_openPermit (σ : zS) (a1 : Int32) : Nat × Int32 × zS := (if a1 < 1 then (2, 0, σ) else (if a1 ≤ 255 then (if (f_X5_checkAtWork σ ) = 0 then (if (f_X3_isFull σ ) = 0 then (if (f_X5_checkRoomForLine σ ) = 0 then (if (f_X3_firstOpenWith σ a1) = (-1) then (if (f_X1_isWeary σ (σ 0 6)) = 0 then (0, (f_X3_append (f_X2_openLine σ 112 (σ 0 6)).2 a1 (f_X2_openLine σ 112 (σ 0 6)).1).1, (f_X3_append (f_X2_openLine σ 112 (σ 0 6)).2 a1 (f_X2_openLine σ 112 (σ 0 6)).1).2) else (5, 0, σ)) else (5, 0, σ)) else ((f_X5_checkRoomForLine σ ), 0, σ)) else (3, 0, σ)) else ((f_X5_checkAtWork σ ), 0, σ)) else (2, 0, σ)))
theorem iX5_openPermit : ∀ w ∈ u_ws RX5 TX5 7, w ∈ wsX5_openPermit := by decide +kernel
set_option maxRecDepth 100000 in
theorem c_X5_openPermit (l : Launch) (hfl : l.stackTraces = false) (G : va_G) (cs : Nat → ClassId) (ad : Nat → Nat) (tl : va_W) (σ : zS) (a1 : Int32)  : zXi l yX5_openPermit wsX5_openPermit { frames := 7, cells := 3, slots := 18, locals := 110 } G cs [.ref (ad 0), .int a1] (zw cs ad σ tl) (f_X5_openPermit σ a1).1 (f_X5_openPermit σ a1).2.1 (zw cs ad (f_X5_openPermit σ a1).2.2 tl) 3 18 := by
  intro sz
  refine vx_ofW (cc := cX5_openPermit) (maxL := 2) (ret := (some .int)) (by decide) rfl ?_
  intro p e s m args below meth c s₁ B hml htab hv
  obtain ⟨rfl, hsz, hP, hD0, hE⟩ := hv
  have hx := B.exec
  have hb := B.bytes
  have hr := B.returns
  have hts := atoms_spec (ws := wsX5_openPermit) B.pre
  have hown : s.vm.findClass RX5 = some m.cls := findClass_of_methodNamed B.named
  have hlocks := B.notSynchronized
  subst hsz
  have hD := hD0.self (sz := s.heap.size)
  have hA : ∀ q : Nat, s.heap.size ≤ q → (va_A (zw cs ad σ tl) s.heap.size) q := fun q h => Or.inr h
  generalize va_A (zw cs ad σ tl) s.heap.size = A at hD hE hA ⊢
  have hS : va_S A s.heap s.heap [] := va_S.rf
  have hl := lv_entry ([.ref (ad 0), .int a1]) (n := 2) (Nat.le_of_ble_eq_true rfl)
  rw [lg_entry_eq]
  generalize (lg_sl ([.ref (ad 0), .int a1]) ++ List.replicate (2 - (lg_sl ([.ref (ad 0), .int a1])).length) Slot.unset).toArray = ls at hl ⊢
  have hl : lv_has ls 2 [(0, .ref (ad 0)), (1, .int a1)] := hl
  generalize hR : (f_X5_openPermit σ a1) = RV
  have hR := hR.symm
  unfold f_X5_openPermit at hR
  obtain ⟨RVk, RVv, RVs⟩ := RV
  dsimp only
  obtain ⟨H, hH⟩ : ∃ z, z = s.heap := ⟨_, rfl⟩
  obtain ⟨locs, hlocs⟩ : ∃ z : List Loc, z = [] := ⟨_, rfl⟩
  rw [← hH] at hP
  have hS : va_S A s.heap H locs := by rw [hH, hlocs]; exact hS
  show W _ _ _ _ _ _ _ _ _ _ s.heap [] _ _ _ _
  rw [← hH, ← hlocs]
  clear hlocs
  refine lv_iload_n hx hb dX5_openPermit_0 rfl (lv_at hl 1 rfl) ?_
  refine lv_iconst (v := 1) hx hb dX5_openPermit_1 (by decide) ?_
  refine lv_icmp_lt (tgt := 12) hx hb dX5_openPermit_2 (by decide) (fun c_1 => ?_) (fun c_1 => ?_)
  · have hR := hR.trans (if_pos c_1)
    obtain ⟨e1, e2, e3⟩ := z3 hR.symm
    subst e1; subst e2; subst e3
    exact z_thr (k := 2) (is := 230) (text := "no such set of units") hx hb hfl zf_2.1 zf_2.2.1 zf_2.2.2 (fun w h => hts w (List.mem_cons_of_mem _ (List.mem_append_left _ (List.mem_append_left _ (List.mem_append_left _ (List.mem_append_right _ h)))))) (hts (.classLink RX5 105 "java/lang/IllegalArgumentException") (by decide +kernel)) (hts (.initialized "java/lang/IllegalArgumentException") (by decide +kernel)) (hE.2.1 _ (List.mem_of_getElem? (i := 4) rfl)) (hE.2.2.1 (230, "no such set of units") (by decide +kernel)) hown hE hP hD hS (by rw [hl.1, hml]) dX5_openPermit_12 dX5_openPermit_15 dX5_openPermit_16 dX5_openPermit_18 dX5_openPermit_21 htab (by decide) (by decide) (by decide) (by decide) hlocks (by decide) rfl (by decide) (by decide)
  · have hR := hR.trans (if_neg c_1)
    refine lv_iload_n hx hb dX5_openPermit_5 rfl (lv_at hl 1 rfl) ?_
    refine lv_sipush (v := 255) hx hb dX5_openPermit_6 (by decide) ?_
    refine lv_icmp_le (tgt := 22) hx hb dX5_openPermit_9 (by decide) (fun c_2 => ?_) (fun c_2 => ?_)
    · have hR := hR.trans (if_pos c_2)
      refine lv_aload_n hx hb dX5_openPermit_22 rfl (lv_at hl 0 rfl) ?_
      refine zaxv (vx_runV (As := []) (rest := []) ⟨hx, hb, hml, hown, hts⟩ (c_X5_checkAtWork l hfl G cs ad tl σ   H.size) (cwV 0 hts gX5_openPermit_X5_checkAtWork rfl rfl rfl (by decide +kernel) ⟨Nat.le_of_ble_eq_true rfl, Nat.le_of_ble_eq_true rfl⟩) (zpv hE hP hD hS hA (zg_0 cs ad σ tl) rfl) rfl rfl hl.1 rfl (lv_room (Nat.le_of_ble_eq_true rfl)) dX5_openPermit_23 ⟨Nat.le_of_ble_eq_true rfl, Nat.le_of_ble_eq_true rfl⟩) hD hS hA (fun c_3 ce q9 H locs hP hD hS h1 h2 h3 => ?_) (fun c_3 H locs hP hD hS => ?_)
      · have hR := hR.trans (if_neg c_3)
        obtain ⟨e1, e2, e3⟩ := z3 hR.symm
        subst e1; subst e2; subst e3
        exact z_out htab hlocks h1 h2 h3 c_3 hP hD hS (by decide) (by decide)
      · have hR := hR.trans (if_pos c_3)
        refine lv_aload_n hx hb dX5_openPermit_26 rfl (lv_at hl 0 rfl) ?_
        refine va_get (D := G) (ci := 7) (v := .ref (ad 23)) (C := RX5) (T := TX5) (N := 7) hx hb hts iX5_openPermit hown hE.1 hP 0 (zg_0 cs ad σ tl) rfl 4 (by decide) (hts (.fieldLink RX5 37 "HandoverDeck" "permits" "LHandoverDeck$PermitRack;") (by decide +kernel)) (fun _ h9 => h9) rfl dX5_openPermit_27 ?_
        refine zai (va_runV (As := []) (rest := []) ⟨hx, hb, hml, hown, hts⟩ (c_X3_isFull l G cs ad tl σ   H.size) (cwV 0 hts gX5_openPermit_X3_isFull rfl rfl rfl (by decide +kernel) ⟨Nat.le_of_ble_eq_true rfl, Nat.le_of_ble_eq_true rfl⟩) (zpv hE hP hD hS hA (zg_23 cs ad σ tl) rfl) rfl rfl hl.1 rfl (lv_room (Nat.le_of_ble_eq_true rfl)) dX5_openPermit_30 ⟨Nat.le_of_ble_eq_true rfl, Nat.le_of_ble_eq_true rfl⟩) hD hS hA (fun H locs hP hD hS => ?_)
        refine lv_if_eq (tgt := 46) hx hb dX5_openPermit_33 (by decide) (fun c_4 => ?_) (fun c_4 => ?_)
        · have hR := hR.trans (if_pos c_4)
          refine lv_aload_n hx hb dX5_openPermit_46 rfl (lv_at hl 0 rfl) ?_
          refine zaxv (vx_runV (As := []) (rest := []) ⟨hx, hb, hml, hown, hts⟩ (c_X5_checkRoomForLine l hfl G cs ad tl σ   H.size) (cwV 0 hts gX5_openPermit_X5_checkRoomForLine rfl rfl rfl (by decide +kernel) ⟨Nat.le_of_ble_eq_true rfl, Nat.le_of_ble_eq_true rfl⟩) (zpv hE hP hD hS hA (zg_0 cs ad σ tl) rfl) rfl rfl hl.1 rfl (lv_room (Nat.le_of_ble_eq_true rfl)) dX5_openPermit_47 ⟨Nat.le_of_ble_eq_true rfl, Nat.le_of_ble_eq_true rfl⟩) hD hS hA (fun c_5 ce q9 H locs hP hD hS h1 h2 h3 => ?_) (fun c_5 H locs hP hD hS => ?_)
          · have hR := hR.trans (if_neg c_5)
            obtain ⟨e1, e2, e3⟩ := z3 hR.symm
            subst e1; subst e2; subst e3
            exact z_out htab hlocks h1 h2 h3 c_5 hP hD hS (by decide) (by decide)
          · have hR := hR.trans (if_pos c_5)
            refine lv_aload_n hx hb dX5_openPermit_50 rfl (lv_at hl 0 rfl) ?_
            refine va_get (D := G) (ci := 7) (v := .ref (ad 23)) (C := RX5) (T := TX5) (N := 7) hx hb hts iX5_openPermit hown hE.1 hP 0 (zg_0 cs ad σ tl) rfl 4 (by decide) (hts (.fieldLink RX5 37 "HandoverDeck" "permits" "LHandoverDeck$PermitRack;") (by decide +kernel)) (fun _ h9 => h9) rfl dX5_openPermit_51 ?_
            refine lv_iload_n hx hb dX5_openPermit_54 rfl (lv_at hl 1 rfl) ?_
            refine zai (va_runV (As := [.int a1]) (rest := []) ⟨hx, hb, hml, hown, hts⟩ (c_X3_firstOpenWith l G cs ad tl σ a1  H.size) (cwV 1 hts gX5_openPermit_X3_firstOpenWith rfl rfl rfl (by decide +kernel) ⟨Nat.le_of_ble_eq_true rfl, Nat.le_of_ble_eq_true rfl⟩) (zpv hE hP hD hS hA (zg_23 cs ad σ tl) rfl) rfl rfl hl.1 rfl (lv_room (Nat.le_of_ble_eq_true rfl)) dX5_openPermit_55 ⟨Nat.le_of_ble_eq_true rfl, Nat.le_of_ble_eq_true rfl⟩) hD hS hA (fun H locs hP hD hS => ?_)
            refine lv_iconst (v := (-1)) hx hb dX5_openPermit_58 (by decide) ?_
            refine lv_icmp_ne (tgt := 76) hx hb dX5_openPermit_59 (by decide) (fun c_6 => ?_) (fun c_6 => ?_)
            · have hR := hR.trans (if_neg c_6)
              obtain ⟨e1, e2, e3⟩ := z3 hR.symm
              subst e1; subst e2; subst e3
              exact z_thr (k := 5) (is := 238) (text := "an open permit has one of the units, or the crew is tired") hx hb hfl zf_5.1 zf_5.2.1 zf_5.2.2 (fun w h => hts w (List.mem_cons_of_mem _ (List.mem_append_left _ (List.mem_append_right _ h)))) (hts (.classLink RX5 208 "java/lang/UnsupportedOperationException") (by decide +kernel)) (hts (.initialized "java/lang/UnsupportedOperationException") (by decide +kernel)) (hE.2.1 _ (List.mem_of_getElem? (i := 7) rfl)) (hE.2.2.1 (238, "an open permit has one of the units, or the crew is tired") (by decide +kernel)) hown hE hP hD hS (by rw [hl.1, hml]) dX5_openPermit_76 dX5_openPermit_79 dX5_openPermit_80 dX5_openPermit_82 dX5_openPermit_85 htab (by decide) (by decide) (by decide) (by decide) hlocks (by decide) rfl (by decide) (by decide)
            · have hR := hR.trans (if_pos c_6)
              refine lv_aload_n hx hb dX5_openPermit_62 rfl (lv_at hl 0 rfl) ?_
              refine va_get (D := G) (ci := 7) (v := .ref (ad 27)) (C := RX5) (T := TX5) (N := 7) hx hb hts iX5_openPermit hown hE.1 hP 0 (zg_0 cs ad σ tl) rfl 5 (by decide) (hts (.fieldLink RX5 44 "HandoverDeck" "roster" "LHandoverDeck$CrewRoster;") (by decide +kernel)) (fun _ h9 => h9) rfl dX5_openPermit_63 ?_
              refine lv_aload_n hx hb dX5_openPermit_66 rfl (lv_at hl 0 rfl) ?_
              refine va_get (D := G) (ci := 7) (v := .int (σ 0 6)) (C := RX5) (T := TX5) (N := 7) hx hb hts iX5_openPermit hown hE.1 hP 0 (zg_0 cs ad σ tl) rfl 6 (by decide) (hts (.fieldLink RX5 81 "HandoverDeck" "now" "I") (by decide +kernel)) (fun _ h9 => h9) rfl dX5_openPermit_67 ?_
              refine zai (va_runV (As := [.int (σ 0 6)]) (rest := []) ⟨hx, hb, hml, hown, hts⟩ (c_X1_isWeary l G cs ad tl σ (σ 0 6)  H.size) (cwV 1 hts gX5_openPermit_X1_isWeary rfl rfl rfl (by decide +kernel) ⟨Nat.le_of_ble_eq_true rfl, Nat.le_of_ble_eq_true rfl⟩) (zpv hE hP hD hS hA (zg_27 cs ad σ tl) rfl) rfl rfl hl.1 rfl (lv_room (Nat.le_of_ble_eq_true rfl)) dX5_openPermit_70 ⟨Nat.le_of_ble_eq_true rfl, Nat.le_of_ble_eq_true rfl⟩) hD hS hA (fun H locs hP hD hS => ?_)
              refine lv_if_eq (tgt := 86) hx hb dX5_openPermit_73 (by decide) (fun c_7 => ?_) (fun c_7 => ?_)
              · have hR := hR.trans (if_pos c_7)
                refine lv_aload_n hx hb dX5_openPermit_86 rfl (lv_at hl 0 rfl) ?_
                refine va_get (D := G) (ci := 7) (v := .ref (ad 23)) (C := RX5) (T := TX5) (N := 7) hx hb hts iX5_openPermit hown hE.1 hP 0 (zg_0 cs ad σ tl) rfl 4 (by decide) (hts (.fieldLink RX5 37 "HandoverDeck" "permits" "LHandoverDeck$PermitRack;") (by decide +kernel)) (fun _ h9 => h9) rfl dX5_openPermit_87 ?_
                refine lv_iload_n hx hb dX5_openPermit_90 rfl (lv_at hl 1 rfl) ?_
                refine lv_aload_n hx hb dX5_openPermit_91 rfl (lv_at hl 0 rfl) ?_
                refine va_get (D := G) (ci := 7) (v := .ref (ad 2)) (C := RX5) (T := TX5) (N := 7) hx hb hts iX5_openPermit hown hE.1 hP 0 (zg_0 cs ad σ tl) rfl 1 (by decide) (hts (.fieldLink RX5 16 "HandoverDeck" "log" "LHandoverDeck$Log;") (by decide +kernel)) (fun _ h9 => h9) rfl dX5_openPermit_92 ?_
                refine lv_bipush (v := 112) hx hb dX5_openPermit_95 (by decide) ?_
                refine lv_aload_n hx hb dX5_openPermit_97 rfl (lv_at hl 0 rfl) ?_
                refine va_get (D := G) (ci := 7) (v := .int (σ 0 6)) (C := RX5) (T := TX5) (N := 7) hx hb hts iX5_openPermit hown hE.1 hP 0 (zg_0 cs ad σ tl) rfl 6 (by decide) (hts (.fieldLink RX5 81 "HandoverDeck" "now" "I") (by decide +kernel)) (fun _ h9 => h9) rfl dX5_openPermit_98 ?_
                refine zai (va_runV (As := [.int 112, .int (σ 0 6)]) (rest := [.int a1, .ref (ad 23)]) ⟨hx, hb, hml, hown, hts⟩ (c_X2_openLine l G cs ad tl σ 112 (σ 0 6) (by decide) H.size) (cwV 2 hts gX5_openPermit_X2_openLine rfl rfl rfl (by decide +kernel) ⟨Nat.le_of_ble_eq_true rfl, Nat.le_of_ble_eq_true rfl⟩) (zpv hE hP hD hS hA (zg_2 cs ad σ tl) rfl) rfl rfl hl.1 rfl (lv_room (Nat.le_of_ble_eq_true rfl)) dX5_openPermit_101 ⟨Nat.le_of_ble_eq_true rfl, Nat.le_of_ble_eq_true rfl⟩) hD hS hA (fun H locs hP hD hS => ?_)
                refine zai (va_runV (As := [.int a1, .int (f_X2_openLine σ 112 (σ 0 6)).1]) (rest := []) ⟨hx, hb, hml, hown, hts⟩ (c_X3_append l G cs ad tl (f_X2_openLine σ 112 (σ 0 6)).2 a1 (f_X2_openLine σ 112 (σ 0 6)).1  H.size) (cwV 2 hts gX5_openPermit_X3_append rfl rfl rfl (by decide +kernel) ⟨Nat.le_of_ble_eq_true rfl, Nat.le_of_ble_eq_true rfl⟩) (zpv hE hP hD hS hA (zg_23 cs ad (f_X2_openLine σ 112 (σ 0 6)).2 tl) rfl) rfl rfl hl.1 rfl (lv_room (Nat.le_of_ble_eq_true rfl)) dX5_openPermit_104 ⟨Nat.le_of_ble_eq_true rfl, Nat.le_of_ble_eq_true rfl⟩) hD hS hA (fun H locs hP hD hS => ?_)
                obtain ⟨e1, e2, e3⟩ := z3 hR.symm
                subst e1; subst e2; subst e3
                refine W.widen (k := 3) (n := 18) (by decide) (by decide) ?_
                refine vx_ret ?_
                exact W.iret (v := (f_X3_append (f_X2_openLine σ 112 (σ 0 6)).2 a1 (f_X2_openLine σ 112 (σ 0 6)).1).1) hx hb hr (fun t ht hW => ⟨⟨_, (), rfl, ⟨rfl, rfl⟩, by rw [ht]; exact hP, hD⟩, hS.F ht⟩) hS.2.2 dX5_openPermit_107
              · have hR := hR.trans (if_neg c_7)
                obtain ⟨e1, e2, e3⟩ := z3 hR.symm
                subst e1; subst e2; subst e3
                exact z_thr (k := 5) (is := 238) (text := "an open permit has one of the units, or the crew is tired") hx hb hfl zf_5.1 zf_5.2.1 zf_5.2.2 (fun w h => hts w (List.mem_cons_of_mem _ (List.mem_append_left _ (List.mem_append_right _ h)))) (hts (.classLink RX5 208 "java/lang/UnsupportedOperationException") (by decide +kernel)) (hts (.initialized "java/lang/UnsupportedOperationException") (by decide +kernel)) (hE.2.1 _ (List.mem_of_getElem? (i := 7) rfl)) (hE.2.2.1 (238, "an open permit has one of the units, or the crew is tired") (by decide +kernel)) hown hE hP hD hS (by rw [hl.1, hml]) dX5_openPermit_76 dX5_openPermit_79 dX5_openPermit_80 dX5_openPermit_82 dX5_openPermit_85 htab (by decide) (by decide) (by decide) (by decide) hlocks (by decide) rfl (by decide) (by decide)
        · have hR := hR.trans (if_neg c_4)
          obtain ⟨e1, e2, e3⟩ := z3 hR.symm
          subst e1; subst e2; subst e3
          exact z_thr (k := 3) (is := 233) (text := "there are 8 permits") hx hb hfl zf_3.1 zf_3.2.1 zf_3.2.2 (fun w h => hts w (List.mem_cons_of_mem _ (List.mem_append_left _ (List.mem_append_left _ (List.mem_append_right _ h))))) (hts (.classLink RX5 71 "java/lang/IllegalStateException") (by decide +kernel)) (hts (.initialized "java/lang/IllegalStateException") (by decide +kernel)) (hE.2.1 _ (List.mem_of_getElem? (i := 5) rfl)) (hE.2.2.1 (233, "there are 8 permits") (by decide +kernel)) hown hE hP hD hS (by rw [hl.1, hml]) dX5_openPermit_36 dX5_openPermit_39 dX5_openPermit_40 dX5_openPermit_42 dX5_openPermit_45 htab (by decide) (by decide) (by decide) (by decide) hlocks (by decide) rfl (by decide) (by decide)
    · have hR := hR.trans (if_neg c_2)
      obtain ⟨e1, e2, e3⟩ := z3 hR.symm
      subst e1; subst e2; subst e3
      exact z_thr (k := 2) (is := 230) (text := "no such set of units") hx hb hfl zf_2.1 zf_2.2.1 zf_2.2.2 (fun w h => hts w (List.mem_cons_of_mem _ (List.mem_append_left _ (List.mem_append_left _ (List.mem_append_left _ (List.mem_append_right _ h)))))) (hts (.classLink RX5 105 "java/lang/IllegalArgumentException") (by decide +kernel)) (hts (.initialized "java/lang/IllegalArgumentException") (by decide +kernel)) (hE.2.1 _ (List.mem_of_getElem? (i := 4) rfl)) (hE.2.2.1 (230, "no such set of units") (by decide +kernel)) hown hE hP hD hS (by rw [hl.1, hml]) dX5_openPermit_12 dX5_openPermit_15 dX5_openPermit_16 dX5_openPermit_18 dX5_openPermit_21 htab (by decide) (by decide) (by decide) (by decide) hlocks (by decide) rfl (by decide) (by decide)
def f_X5_closePermit (σ : zS) (a1 : Int32) : Nat × Int32 × zS := (if (f_X5_checkPermit σ a1) = 0 then (if (f_X3_isOpen σ a1) = 0 then (3, 0, σ) else (if (f_X5_checkAtWork σ ) = 0 then (0, (f_X3_lineOf σ a1), (f_X2_closeLine (f_X3_shut σ a1) (f_X3_lineOf σ a1))) else ((f_X5_checkAtWork σ ), 0, σ))) else ((f_X5_checkPermit σ a1), 0, σ))
theorem iX5_closePermit : ∀ w ∈ u_ws RX5 TX5 7, w ∈ wsX5_closePermit := by decide +kernel
set_option maxRecDepth 100000 in
theorem c_X5_closePermit (l : Launch) (hfl : l.stackTraces = false) (G : va_G) (cs : Nat → ClassId) (ad : Nat → Nat) (tl : va_W) (σ : zS) (a1 : Int32)  : zXi l yX5_closePermit wsX5_closePermit { frames := 7, cells := 3, slots := 18, locals := 111 } G cs [.ref (ad 0), .int a1] (zw cs ad σ tl) (f_X5_closePermit σ a1).1 (f_X5_closePermit σ a1).2.1 (zw cs ad (f_X5_closePermit σ a1).2.2 tl) 3 18 := by
  intro sz
  refine vx_ofW (cc := cX5_closePermit) (maxL := 3) (ret := (some .int)) (by decide) rfl ?_
  intro p e s m args below meth c s₁ B hml htab hv
  obtain ⟨rfl, hsz, hP, hD0, hE⟩ := hv
  have hx := B.exec
  have hb := B.bytes
  have hr := B.returns
  have hts := atoms_spec (ws := wsX5_closePermit) B.pre
  have hown : s.vm.findClass RX5 = some m.cls := findClass_of_methodNamed B.named
  have hlocks := B.notSynchronized
  subst hsz
  have hD := hD0.self (sz := s.heap.size)
  have hA : ∀ q : Nat, s.heap.size ≤ q → (va_A (zw cs ad σ tl) s.heap.size) q := fun q h => Or.inr h
  generalize va_A (zw cs ad σ tl) s.heap.size = A at hD hE hA ⊢
  have hS : va_S A s.heap s.heap [] := va_S.rf
  have hl := lv_entry ([.ref (ad 0), .int a1]) (n := 3) (Nat.le_of_ble_eq_true rfl)
  rw [lg_entry_eq]
  generalize (lg_sl ([.ref (ad 0), .int a1]) ++ List.replicate (3 - (lg_sl ([.ref (ad 0), .int a1])).length) Slot.unset).toArray = ls at hl ⊢
  have hl : lv_has ls 3 [(0, .ref (ad 0)), (1, .int a1)] := hl
  generalize hR : (f_X5_closePermit σ a1) = RV
  have hR := hR.symm
  unfold f_X5_closePermit at hR
  obtain ⟨RVk, RVv, RVs⟩ := RV
  dsimp only
  obtain ⟨H, hH⟩ : ∃ z, z = s.heap := ⟨_, rfl⟩
  obtain ⟨locs, hlocs⟩ : ∃ z : List Loc, z = [] := ⟨_, rfl⟩
  rw [← hH] at hP
  have hS : va_S A s.heap H locs := by rw [hH, hlocs]; exact hS
  show W _ _ _ _ _ _ _ _ _ _ s.heap [] _ _ _ _
  rw [← hH, ← hlocs]
  clear hlocs
  refine lv_aload_n hx hb dX5_closePermit_0 rfl (lv_at hl 0 rfl) ?_
  refine lv_iload_n hx hb dX5_closePermit_1 rfl (lv_at hl 1 rfl) ?_
  refine zaxv (vx_runV (As := [.int a1]) (rest := []) ⟨hx, hb, hml, hown, hts⟩ (c_X5_checkPermit l hfl G cs ad tl σ a1  H.size) (cwV 1 hts gX5_closePermit_X5_checkPermit rfl rfl rfl (by decide +kernel) ⟨Nat.le_of_ble_eq_true rfl, Nat.le_of_ble_eq_true rfl⟩) (zpv hE hP hD hS hA (zg_0 cs ad σ tl) rfl) rfl rfl hl.1 rfl (lv_room (Nat.le_of_ble_eq_true rfl)) dX5_closePermit_2 ⟨Nat.le_of_ble_eq_true rfl, Nat.le_of_ble_eq_true rfl⟩) hD hS hA (fun c_1 ce q9 H locs hP hD hS h1 h2 h3 => ?_) (fun c_1 H locs hP hD hS => ?_)
  · have hR := hR.trans (if_neg c_1)
    obtain ⟨e1, e2, e3⟩ := z3 hR.symm
    subst e1; subst e2; subst e3
    exact z_out htab hlocks h1 h2 h3 c_1 hP hD hS (by decide) (by decide)
  · have hR := hR.trans (if_pos c_1)
    refine lv_aload_n hx hb dX5_closePermit_5 rfl (lv_at hl 0 rfl) ?_
    refine va_get (D := G) (ci := 7) (v := .ref (ad 23)) (C := RX5) (T := TX5) (N := 7) hx hb hts iX5_closePermit hown hE.1 hP 0 (zg_0 cs ad σ tl) rfl 4 (by decide) (hts (.fieldLink RX5 37 "HandoverDeck" "permits" "LHandoverDeck$PermitRack;") (by decide +kernel)) (fun _ h9 => h9) rfl dX5_closePermit_6 ?_
    refine lv_iload_n hx hb dX5_closePermit_9 rfl (lv_at hl 1 rfl) ?_
    refine zai (va_runV (As := [.int a1]) (rest := []) ⟨hx, hb, hml, hown, hts⟩ (c_X3_isOpen l G cs ad tl σ a1  H.size) (cwV 1 hts gX5_closePermit_X3_isOpen rfl rfl rfl (by decide +kernel) ⟨Nat.le_of_ble_eq_true rfl, Nat.le_of_ble_eq_true rfl⟩) (zpv hE hP hD hS hA (zg_23 cs ad σ tl) rfl) rfl rfl hl.1 rfl (lv_room (Nat.le_of_ble_eq_true rfl)) dX5_closePermit_10 ⟨Nat.le_of_ble_eq_true rfl, Nat.le_of_ble_eq_true rfl⟩) hD hS hA (fun H locs hP hD hS => ?_)
    refine lv_if_ne (tgt := 26) hx hb dX5_closePermit_13 (by decide) (fun c_2 => ?_) (fun c_2 => ?_)
    · have hR := hR.trans (if_neg c_2)
      refine lv_aload_n hx hb dX5_closePermit_26 rfl (lv_at hl 0 rfl) ?_
      refine zaxv (vx_runV (As := []) (rest := []) ⟨hx, hb, hml, hown, hts⟩ (c_X5_checkAtWork l hfl G cs ad tl σ   H.size) (cwV 0 hts gX5_closePermit_X5_checkAtWork rfl rfl rfl (by decide +kernel) ⟨Nat.le_of_ble_eq_true rfl, Nat.le_of_ble_eq_true rfl⟩) (zpv hE hP hD hS hA (zg_0 cs ad σ tl) rfl) rfl rfl hl.1 rfl (lv_room (Nat.le_of_ble_eq_true rfl)) dX5_closePermit_27 ⟨Nat.le_of_ble_eq_true rfl, Nat.le_of_ble_eq_true rfl⟩) hD hS hA (fun c_3 ce q9 H locs hP hD hS h1 h2 h3 => ?_) (fun c_3 H locs hP hD hS => ?_)
      · have hR := hR.trans (if_neg c_3)
        obtain ⟨e1, e2, e3⟩ := z3 hR.symm
        subst e1; subst e2; subst e3
        exact z_out htab hlocks h1 h2 h3 c_3 hP hD hS (by decide) (by decide)
      · have hR := hR.trans (if_pos c_3)
        refine lv_aload_n hx hb dX5_closePermit_30 rfl (lv_at hl 0 rfl) ?_
        refine va_get (D := G) (ci := 7) (v := .ref (ad 23)) (C := RX5) (T := TX5) (N := 7) hx hb hts iX5_closePermit hown hE.1 hP 0 (zg_0 cs ad σ tl) rfl 4 (by decide) (hts (.fieldLink RX5 37 "HandoverDeck" "permits" "LHandoverDeck$PermitRack;") (by decide +kernel)) (fun _ h9 => h9) rfl dX5_closePermit_31 ?_
        refine lv_iload_n hx hb dX5_closePermit_34 rfl (lv_at hl 1 rfl) ?_
        refine zai (va_runV (As := [.int a1]) (rest := []) ⟨hx, hb, hml, hown, hts⟩ (c_X3_lineOf l G cs ad tl σ a1  H.size) (cwV 1 hts gX5_closePermit_X3_lineOf rfl rfl rfl (by decide +kernel) ⟨Nat.le_of_ble_eq_true rfl, Nat.le_of_ble_eq_true rfl⟩) (zpv hE hP hD hS hA (zg_23 cs ad σ tl) rfl) rfl rfl hl.1 rfl (lv_room (Nat.le_of_ble_eq_true rfl)) dX5_closePermit_35 ⟨Nat.le_of_ble_eq_true rfl, Nat.le_of_ble_eq_true rfl⟩) hD hS hA (fun H locs hP hD hS => ?_)
        refine lv_istore_n (lv' := [(2, .int (f_X3_lineOf σ a1)), (0, .ref (ad 0)), (1, .int a1)]) hx hb dX5_closePermit_38 rfl hl (by decide) rfl (fun ls hl => ?_)
        refine lv_aload_n hx hb dX5_closePermit_39 rfl (lv_at hl 1 rfl) ?_
        refine va_get (D := G) (ci := 7) (v := .ref (ad 23)) (C := RX5) (T := TX5) (N := 7) hx hb hts iX5_closePermit hown hE.1 hP 0 (zg_0 cs ad σ tl) rfl 4 (by decide) (hts (.fieldLink RX5 37 "HandoverDeck" "permits" "LHandoverDeck$PermitRack;") (by decide +kernel)) (fun _ h9 => h9) rfl dX5_closePermit_40 ?_
        refine lv_iload_n hx hb dX5_closePermit_43 rfl (lv_at hl 2 rfl) ?_
        refine zav (va_runV (As := [.int a1]) (rest := []) ⟨hx, hb, hml, hown, hts⟩ (c_X3_shut l G cs ad tl σ a1  H.size) (cwV 1 hts gX5_closePermit_X3_shut rfl rfl rfl (by decide +kernel) ⟨Nat.le_of_ble_eq_true rfl, Nat.le_of_ble_eq_true rfl⟩) (zpv hE hP hD hS hA (zg_23 cs ad σ tl) rfl) rfl rfl hl.1 rfl (lv_room (Nat.le_of_ble_eq_true rfl)) dX5_closePermit_44 ⟨Nat.le_of_ble_eq_true rfl, Nat.le_of_ble_eq_true rfl⟩) hD hS hA (fun H locs hP hD hS => ?_)
        refine lv_aload_n hx hb dX5_closePermit_47 rfl (lv_at hl 1 rfl) ?_
        refine va_get (D := G) (ci := 7) (v := .ref (ad 2)) (C := RX5) (T := TX5) (N := 7) hx hb hts iX5_closePermit hown hE.1 hP 0 (zg_0 cs ad (f_X3_shut σ a1) tl) rfl 1 (by decide) (hts (.fieldLink RX5 16 "HandoverDeck" "log" "LHandoverDeck$Log;") (by decide +kernel)) (fun _ h9 => h9) rfl dX5_closePermit_48 ?_
        refine lv_iload_n hx hb dX5_closePermit_51 rfl (lv_at hl 0 rfl) ?_
        refine zav (va_runV (As := [.int (f_X3_lineOf σ a1)]) (rest := []) ⟨hx, hb, hml, hown, hts⟩ (c_X2_closeLine l G cs ad tl (f_X3_shut σ a1) (f_X3_lineOf σ a1)  H.size) (cwV 1 hts gX5_closePermit_X2_closeLine rfl rfl rfl (by decide +kernel) ⟨Nat.le_of_ble_eq_true rfl, Nat.le_of_ble_eq_true rfl⟩) (zpv hE hP hD hS hA (zg_2 cs ad (f_X3_shut σ a1) tl) rfl) rfl rfl hl.1 rfl (lv_room (Nat.le_of_ble_eq_true rfl)) dX5_closePermit_52 ⟨Nat.le_of_ble_eq_true rfl, Nat.le_of_ble_eq_true rfl⟩) hD hS hA (fun H locs hP hD hS => ?_)
        refine lv_iload_n hx hb dX5_closePermit_55 rfl (lv_at hl 0 rfl) ?_
        obtain ⟨e1, e2, e3⟩ := z3 hR.symm
        subst e1; subst e2; subst e3
        refine W.widen (k := 3) (n := 18) (by decide) (by decide) ?_
        refine vx_ret ?_
        exact W.iret (v := (f_X3_lineOf σ a1)) hx hb hr (fun t ht hW => ⟨⟨_, (), rfl, ⟨rfl, rfl⟩, by rw [ht]; exact hP, hD⟩, hS.F ht⟩) hS.2.2 dX5_closePermit_56
    · have hR := hR.trans (if_pos c_2)
      obtain ⟨e1, e2, e3⟩ := z3 hR.symm
      subst e1; subst e2; subst e3
      exact z_thr (k := 3) (is := 248) (text := "the permit is closed") hx hb hfl zf_3.1 zf_3.2.1 zf_3.2.2 (fun w h => hts w (List.mem_cons_of_mem _ (List.mem_append_left _ (List.mem_append_left _ (List.mem_append_right _ h))))) (hts (.classLink RX5 71 "java/lang/IllegalStateException") (by decide +kernel)) (hts (.initialized "java/lang/IllegalStateException") (by decide +kernel)) (hE.2.1 _ (List.mem_of_getElem? (i := 5) rfl)) (hE.2.2.1 (248, "the permit is closed") (by decide +kernel)) hown hE hP hD hS (by rw [hl.1, hml]) dX5_closePermit_16 dX5_closePermit_19 dX5_closePermit_20 dX5_closePermit_22 dX5_closePermit_25 htab (by decide) (by decide) (by decide) (by decide) hlocks (by decide) rfl (by decide) (by decide)
def f_X5_isPermitOpen (σ : zS) (a1 : Int32) : Nat × Int32 × zS := (if (f_X5_checkPermit σ a1) = 0 then (0, (f_X3_isOpen σ a1), σ) else ((f_X5_checkPermit σ a1), 0, σ))
theorem iX5_isPermitOpen : ∀ w ∈ u_ws RX5 TX5 7, w ∈ wsX5_isPermitOpen := by decide +kernel
set_option maxRecDepth 100000 in
theorem c_X5_isPermitOpen (l : Launch) (hfl : l.stackTraces = false) (G : va_G) (cs : Nat → ClassId) (ad : Nat → Nat) (tl : va_W) (σ : zS) (a1 : Int32)  : zXi l yX5_isPermitOpen wsX5_isPermitOpen { frames := 7, cells := 1, slots := 6, locals := 111 } G cs [.ref (ad 0), .int a1] (zw cs ad σ tl) (f_X5_isPermitOpen σ a1).1 (f_X5_isPermitOpen σ a1).2.1 (zw cs ad (f_X5_isPermitOpen σ a1).2.2 tl) 1 6 := by
  intro sz
  refine vx_ofW (cc := cX5_isPermitOpen) (maxL := 2) (ret := (some .boolean)) (by decide) rfl ?_
  intro p e s m args below meth c s₁ B hml htab hv
  obtain ⟨rfl, hsz, hP, hD0, hE⟩ := hv
  have hx := B.exec
  have hb := B.bytes
  have hr := B.returns
  have hts := atoms_spec (ws := wsX5_isPermitOpen) B.pre
  have hown : s.vm.findClass RX5 = some m.cls := findClass_of_methodNamed B.named
  have hlocks := B.notSynchronized
  subst hsz
  have hD := hD0.self (sz := s.heap.size)
  have hA : ∀ q : Nat, s.heap.size ≤ q → (va_A (zw cs ad σ tl) s.heap.size) q := fun q h => Or.inr h
  generalize va_A (zw cs ad σ tl) s.heap.size = A at hD hE hA ⊢
  have hS : va_S A s.heap s.heap [] := va_S.rf
  have hl := lv_entry ([.ref (ad 0), .int a1]) (n := 2) (Nat.le_of_ble_eq_true rfl)
  rw [lg_entry_eq]
  generalize (lg_sl ([.ref (ad 0), .int a1]) ++ List.replicate (2 - (lg_sl ([.ref (ad 0), .int a1])).length) Slot.unset).toArray = ls at hl ⊢
  have hl : lv_has ls 2 [(0, .ref (ad 0)), (1, .int a1)] := hl
  generalize hR : (f_X5_isPermitOpen σ a1) = RV
  have hR := hR.symm
  unfold f_X5_isPermitOpen at hR
  obtain ⟨RVk, RVv, RVs⟩ := RV
  dsimp only
  obtain ⟨H, hH⟩ : ∃ z, z = s.heap := ⟨_, rfl⟩
  obtain ⟨locs, hlocs⟩ : ∃ z : List Loc, z = [] := ⟨_, rfl⟩
  rw [← hH] at hP
  have hS : va_S A s.heap H locs := by rw [hH, hlocs]; exact hS
  show W _ _ _ _ _ _ _ _ _ _ s.heap [] _ _ _ _
  rw [← hH, ← hlocs]
  clear hlocs
  refine lv_aload_n hx hb dX5_isPermitOpen_0 rfl (lv_at hl 0 rfl) ?_
  refine lv_iload_n hx hb dX5_isPermitOpen_1 rfl (lv_at hl 1 rfl) ?_
  refine zaxv (vx_runV (As := [.int a1]) (rest := []) ⟨hx, hb, hml, hown, hts⟩ (c_X5_checkPermit l hfl G cs ad tl σ a1  H.size) (cwV 1 hts gX5_isPermitOpen_X5_checkPermit rfl rfl rfl (by decide +kernel) ⟨Nat.le_of_ble_eq_true rfl, Nat.le_of_ble_eq_true rfl⟩) (zpv hE hP hD hS hA (zg_0 cs ad σ tl) rfl) rfl rfl hl.1 rfl (lv_room (Nat.le_of_ble_eq_true rfl)) dX5_isPermitOpen_2 ⟨Nat.le_of_ble_eq_true rfl, Nat.le_of_ble_eq_true rfl⟩) hD hS hA (fun c_1 ce q9 H locs hP hD hS h1 h2 h3 => ?_) (fun c_1 H locs hP hD hS => ?_)
  · have hR := hR.trans (if_neg c_1)
    obtain ⟨e1, e2, e3⟩ := z3 hR.symm
    subst e1; subst e2; subst e3
    exact z_out htab hlocks h1 h2 h3 c_1 hP hD hS (by decide) (by decide)
  · have hR := hR.trans (if_pos c_1)
    refine lv_aload_n hx hb dX5_isPermitOpen_5 rfl (lv_at hl 0 rfl) ?_
    refine va_get (D := G) (ci := 7) (v := .ref (ad 23)) (C := RX5) (T := TX5) (N := 7) hx hb hts iX5_isPermitOpen hown hE.1 hP 0 (zg_0 cs ad σ tl) rfl 4 (by decide) (hts (.fieldLink RX5 37 "HandoverDeck" "permits" "LHandoverDeck$PermitRack;") (by decide +kernel)) (fun _ h9 => h9) rfl dX5_isPermitOpen_6 ?_
    refine lv_iload_n hx hb dX5_isPermitOpen_9 rfl (lv_at hl 1 rfl) ?_
    refine zai (va_runV (As := [.int a1]) (rest := []) ⟨hx, hb, hml, hown, hts⟩ (c_X3_isOpen l G cs ad tl σ a1  H.size) (cwV 1 hts gX5_isPermitOpen_X3_isOpen rfl rfl rfl (by decide +kernel) ⟨Nat.le_of_ble_eq_true rfl, Nat.le_of_ble_eq_true rfl⟩) (zpv hE hP hD hS hA (zg_23 cs ad σ tl) rfl) rfl rfl hl.1 rfl (lv_room (Nat.le_of_ble_eq_true rfl)) dX5_isPermitOpen_10 ⟨Nat.le_of_ble_eq_true rfl, Nat.le_of_ble_eq_true rfl⟩) hD hS hA (fun H locs hP hD hS => ?_)
    obtain ⟨e1, e2, e3⟩ := z3 hR.symm
    subst e1; subst e2; subst e3
    refine W.widen (k := 1) (n := 6) (by decide) (by decide) ?_
    refine vx_ret ?_
    exact W.zret (v := (f_X3_isOpen σ a1)) hx hb hr (nar_X3_isOpen σ a1) (fun t ht hW => ⟨⟨_, (), rfl, ⟨rfl, rfl⟩, by rw [ht]; exact hP, hD⟩, hS.F ht⟩) hS.2.2 dX5_isPermitOpen_13
def f_X5_note (σ : zS)  : Nat × Int32 × zS := (if (f_X5_checkRoomForLine σ ) = 0 then (0, (f_X2_openLine σ 110 (σ 0 6)).1, (f_X2_openLine σ 110 (σ 0 6)).2) else ((f_X5_checkRoomForLine σ ), 0, σ))
theorem iX5_note : ∀ w ∈ u_ws RX5 TX5 7, w ∈ wsX5_note := by decide +kernel
set_option maxRecDepth 100000 in
theorem c_X5_note (l : Launch) (hfl : l.stackTraces = false) (G : va_G) (cs : Nat → ClassId) (ad : Nat → Nat) (tl : va_W) (σ : zS)   : zXi l yX5_note wsX5_note { frames := 7, cells := 1, slots := 6, locals := 110 } G cs [.ref (ad 0)] (zw cs ad σ tl) (f_X5_note σ ).1 (f_X5_note σ ).2.1 (zw cs ad (f_X5_note σ ).2.2 tl) 1 6 := by
  intro sz
  refine vx_ofW (cc := cX5_note) (maxL := 1) (ret := (some .int)) (by decide) rfl ?_
  intro p e s m args below meth c s₁ B hml htab hv
  obtain ⟨rfl, hsz, hP, hD0, hE⟩ := hv
  have hx := B.exec
  have hb := B.bytes
  have hr := B.returns
  have hts := atoms_spec (ws := wsX5_note) B.pre
  have hown : s.vm.findClass RX5 = some m.cls := findClass_of_methodNamed B.named
  have hlocks := B.notSynchronized
  subst hsz
  have hD := hD0.self (sz := s.heap.size)
  have hA : ∀ q : Nat, s.heap.size ≤ q → (va_A (zw cs ad σ tl) s.heap.size) q := fun q h => Or.inr h
  generalize va_A (zw cs ad σ tl) s.heap.size = A at hD hE hA ⊢
  have hS : va_S A s.heap s.heap [] := va_S.rf
  have hl := lv_entry ([.ref (ad 0)]) (n := 1) (Nat.le_of_ble_eq_true rfl)
  rw [lg_entry_eq]
  generalize (lg_sl ([.ref (ad 0)]) ++ List.replicate (1 - (lg_sl ([.ref (ad 0)])).length) Slot.unset).toArray = ls at hl ⊢
  have hl : lv_has ls 1 [(0, .ref (ad 0))] := hl
  generalize hR : (f_X5_note σ ) = RV
  have hR := hR.symm
  unfold f_X5_note at hR
  obtain ⟨RVk, RVv, RVs⟩ := RV
  dsimp only
  obtain ⟨H, hH⟩ : ∃ z, z = s.heap := ⟨_, rfl⟩
  obtain ⟨locs, hlocs⟩ : ∃ z : List Loc, z = [] := ⟨_, rfl⟩
  rw [← hH] at hP
  have hS : va_S A s.heap H locs := by rw [hH, hlocs]; exact hS
  show W _ _ _ _ _ _ _ _ _ _ s.heap [] _ _ _ _
  rw [← hH, ← hlocs]
  clear hlocs
  refine lv_aload_n hx hb dX5_note_0 rfl (lv_at hl 0 rfl) ?_
  refine zaxv (vx_runV (As := []) (rest := []) ⟨hx, hb, hml, hown, hts⟩ (c_X5_checkRoomForLine l hfl G cs ad tl σ   H.size) (cwV 0 hts gX5_note_X5_checkRoomForLine rfl rfl rfl (by decide +kernel) ⟨Nat.le_of_ble_eq_true rfl, Nat.le_of_ble_eq_true rfl⟩) (zpv hE hP hD hS hA (zg_0 cs ad σ tl) rfl) rfl rfl hl.1 rfl (lv_room (Nat.le_of_ble_eq_true rfl)) dX5_note_1 ⟨Nat.le_of_ble_eq_true rfl, Nat.le_of_ble_eq_true rfl⟩) hD hS hA (fun c_1 ce q9 H locs hP hD hS h1 h2 h3 => ?_) (fun c_1 H locs hP hD hS => ?_)
  · have hR := hR.trans (if_neg c_1)
    obtain ⟨e1, e2, e3⟩ := z3 hR.symm
    subst e1; subst e2; subst e3
    exact z_out htab hlocks h1 h2 h3 c_1 hP hD hS (by decide) (by decide)
  · have hR := hR.trans (if_pos c_1)
    refine lv_aload_n hx hb dX5_note_4 rfl (lv_at hl 0 rfl) ?_
    refine va_get (D := G) (ci := 7) (v := .ref (ad 2)) (C := RX5) (T := TX5) (N := 7) hx hb hts iX5_note hown hE.1 hP 0 (zg_0 cs ad σ tl) rfl 1 (by decide) (hts (.fieldLink RX5 16 "HandoverDeck" "log" "LHandoverDeck$Log;") (by decide +kernel)) (fun _ h9 => h9) rfl dX5_note_5 ?_
    refine lv_bipush (v := 110) hx hb dX5_note_8 (by decide) ?_
    refine lv_aload_n hx hb dX5_note_10 rfl (lv_at hl 0 rfl) ?_
    refine va_get (D := G) (ci := 7) (v := .int (σ 0 6)) (C := RX5) (T := TX5) (N := 7) hx hb hts iX5_note hown hE.1 hP 0 (zg_0 cs ad σ tl) rfl 6 (by decide) (hts (.fieldLink RX5 81 "HandoverDeck" "now" "I") (by decide +kernel)) (fun _ h9 => h9) rfl dX5_note_11 ?_
    refine zai (va_runV (As := [.int 110, .int (σ 0 6)]) (rest := []) ⟨hx, hb, hml, hown, hts⟩ (c_X2_openLine l G cs ad tl σ 110 (σ 0 6) (by decide) H.size) (cwV 2 hts gX5_note_X2_openLine rfl rfl rfl (by decide +kernel) ⟨Nat.le_of_ble_eq_true rfl, Nat.le_of_ble_eq_true rfl⟩) (zpv hE hP hD hS hA (zg_2 cs ad σ tl) rfl) rfl rfl hl.1 rfl (lv_room (Nat.le_of_ble_eq_true rfl)) dX5_note_14 ⟨Nat.le_of_ble_eq_true rfl, Nat.le_of_ble_eq_true rfl⟩) hD hS hA (fun H locs hP hD hS => ?_)
    obtain ⟨e1, e2, e3⟩ := z3 hR.symm
    subst e1; subst e2; subst e3
    refine W.widen (k := 1) (n := 6) (by decide) (by decide) ?_
    refine vx_ret ?_
    exact W.iret (v := (f_X2_openLine σ 110 (σ 0 6)).1) hx hb hr (fun t ht hW => ⟨⟨_, (), rfl, ⟨rfl, rfl⟩, by rw [ht]; exact hP, hD⟩, hS.F ht⟩) hS.2.2 dX5_note_17
def f_X5_close (σ : zS) (a1 : Int32) : Nat × Int32 × zS := (if (f_X5_checkLine σ a1) = 0 then (if (f_X2_kindAt σ a1) = 110 then (if (f_X2_isOpen σ a1) = 0 then (3, 0, σ) else (0, (f_X2_openCount (f_X2_closeLine σ a1) ), (f_X2_closeLine σ a1))) else (5, 0, σ)) else ((f_X5_checkLine σ a1), 0, σ))
theorem iX5_close : ∀ w ∈ u_ws RX5 TX5 7, w ∈ wsX5_close := by decide +kernel
set_option maxRecDepth 100000 in
theorem c_X5_close (l : Launch) (hfl : l.stackTraces = false) (G : va_G) (cs : Nat → ClassId) (ad : Nat → Nat) (tl : va_W) (σ : zS) (a1 : Int32) (hch : ∀ j : Nat, narrow .char (.int (σ 3 j)) = .int (σ 3 j)) : zXi l yX5_close wsX5_close { frames := 7, cells := 2, slots := 12, locals := 111 } G cs [.ref (ad 0), .int a1] (zw cs ad σ tl) (f_X5_close σ a1).1 (f_X5_close σ a1).2.1 (zw cs ad (f_X5_close σ a1).2.2 tl) 2 12 := by
  intro sz
  refine vx_ofW (cc := cX5_close) (maxL := 2) (ret := (some .int)) (by decide) rfl ?_
  intro p e s m args below meth c s₁ B hml htab hv
  obtain ⟨rfl, hsz, hP, hD0, hE⟩ := hv
  have hx := B.exec
  have hb := B.bytes
  have hr := B.returns
  have hts := atoms_spec (ws := wsX5_close) B.pre
  have hown : s.vm.findClass RX5 = some m.cls := findClass_of_methodNamed B.named
  have hlocks := B.notSynchronized
  subst hsz
  have hD := hD0.self (sz := s.heap.size)
  have hA : ∀ q : Nat, s.heap.size ≤ q → (va_A (zw cs ad σ tl) s.heap.size) q := fun q h => Or.inr h
  generalize va_A (zw cs ad σ tl) s.heap.size = A at hD hE hA ⊢
  have hS : va_S A s.heap s.heap [] := va_S.rf
  have hl := lv_entry ([.ref (ad 0), .int a1]) (n := 2) (Nat.le_of_ble_eq_true rfl)
  rw [lg_entry_eq]
  generalize (lg_sl ([.ref (ad 0), .int a1]) ++ List.replicate (2 - (lg_sl ([.ref (ad 0), .int a1])).length) Slot.unset).toArray = ls at hl ⊢
  have hl : lv_has ls 2 [(0, .ref (ad 0)), (1, .int a1)] := hl
  generalize hR : (f_X5_close σ a1) = RV
  have hR := hR.symm
  unfold f_X5_close at hR
  obtain ⟨RVk, RVv, RVs⟩ := RV
  dsimp only
  obtain ⟨H, hH⟩ : ∃ z, z = s.heap := ⟨_, rfl⟩
  obtain ⟨locs, hlocs⟩ : ∃ z : List Loc, z = [] := ⟨_, rfl⟩
  rw [← hH] at hP
  have hS : va_S A s.heap H locs := by rw [hH, hlocs]; exact hS
  show W _ _ _ _ _ _ _ _ _ _ s.heap [] _ _ _ _
  rw [← hH, ← hlocs]
  clear hlocs
  refine lv_aload_n hx hb dX5_close_0 rfl (lv_at hl 0 rfl) ?_
  refine lv_iload_n hx hb dX5_close_1 rfl (lv_at hl 1 rfl) ?_
  refine zaxv (vx_runV (As := [.int a1]) (rest := []) ⟨hx, hb, hml, hown, hts⟩ (c_X5_checkLine l hfl G cs ad tl σ a1  H.size) (cwV 1 hts gX5_close_X5_checkLine rfl rfl rfl (by decide +kernel) ⟨Nat.le_of_ble_eq_true rfl, Nat.le_of_ble_eq_true rfl⟩) (zpv hE hP hD hS hA (zg_0 cs ad σ tl) rfl) rfl rfl hl.1 rfl (lv_room (Nat.le_of_ble_eq_true rfl)) dX5_close_2 ⟨Nat.le_of_ble_eq_true rfl, Nat.le_of_ble_eq_true rfl⟩) hD hS hA (fun c_1 ce q9 H locs hP hD hS h1 h2 h3 => ?_) (fun c_1 H locs hP hD hS => ?_)
  · have hR := hR.trans (if_neg c_1)
    obtain ⟨e1, e2, e3⟩ := z3 hR.symm
    subst e1; subst e2; subst e3
    exact z_out htab hlocks h1 h2 h3 c_1 hP hD hS (by decide) (by decide)
  · have hR := hR.trans (if_pos c_1)
    refine lv_aload_n hx hb dX5_close_5 rfl (lv_at hl 0 rfl) ?_
    refine va_get (D := G) (ci := 7) (v := .ref (ad 2)) (C := RX5) (T := TX5) (N := 7) hx hb hts iX5_close hown hE.1 hP 0 (zg_0 cs ad σ tl) rfl 1 (by decide) (hts (.fieldLink RX5 16 "HandoverDeck" "log" "LHandoverDeck$Log;") (by decide +kernel)) (fun _ h9 => h9) rfl dX5_close_6 ?_
    refine lv_iload_n hx hb dX5_close_9 rfl (lv_at hl 1 rfl) ?_
    refine zai (va_runV (As := [.int a1]) (rest := []) ⟨hx, hb, hml, hown, hts⟩ (c_X2_kindAt l G cs ad tl σ a1 hch H.size) (cwV 1 hts gX5_close_X2_kindAt rfl rfl rfl (by decide +kernel) ⟨Nat.le_of_ble_eq_true rfl, Nat.le_of_ble_eq_true rfl⟩) (zpv hE hP hD hS hA (zg_2 cs ad σ tl) rfl) rfl rfl hl.1 rfl (lv_room (Nat.le_of_ble_eq_true rfl)) dX5_close_10 ⟨Nat.le_of_ble_eq_true rfl, Nat.le_of_ble_eq_true rfl⟩) hD hS hA (fun H locs hP hD hS => ?_)
    refine lv_bipush (v := 110) hx hb dX5_close_13 (by decide) ?_
    refine lv_icmp_eq (tgt := 29) hx hb dX5_close_15 (by decide) (fun c_2 => ?_) (fun c_2 => ?_)
    · have hR := hR.trans (if_pos c_2)
      refine lv_aload_n hx hb dX5_close_29 rfl (lv_at hl 0 rfl) ?_
      refine va_get (D := G) (ci := 7) (v := .ref (ad 2)) (C := RX5) (T := TX5) (N := 7) hx hb hts iX5_close hown hE.1 hP 0 (zg_0 cs ad σ tl) rfl 1 (by decide) (hts (.fieldLink RX5 16 "HandoverDeck" "log" "LHandoverDeck$Log;") (by decide +kernel)) (fun _ h9 => h9) rfl dX5_close_30 ?_
      refine lv_iload_n hx hb dX5_close_33 rfl (lv_at hl 1 rfl) ?_
      refine zai (va_runV (As := [.int a1]) (rest := []) ⟨hx, hb, hml, hown, hts⟩ (c_X2_isOpen l G cs ad tl σ a1  H.size) (cwV 1 hts gX5_close_X2_isOpen rfl rfl rfl (by decide +kernel) ⟨Nat.le_of_ble_eq_true rfl, Nat.le_of_ble_eq_true rfl⟩) (zpv hE hP hD hS hA (zg_2 cs ad σ tl) rfl) rfl rfl hl.1 rfl (lv_room (Nat.le_of_ble_eq_true rfl)) dX5_close_34 ⟨Nat.le_of_ble_eq_true rfl, Nat.le_of_ble_eq_true rfl⟩) hD hS hA (fun H locs hP hD hS => ?_)
      refine lv_if_ne (tgt := 51) hx hb dX5_close_37 (by decide) (fun c_3 => ?_) (fun c_3 => ?_)
      · have hR := hR.trans (if_neg c_3)
        refine lv_aload_n hx hb dX5_close_51 rfl (lv_at hl 0 rfl) ?_
        refine va_get (D := G) (ci := 7) (v := .ref (ad 2)) (C := RX5) (T := TX5) (N := 7) hx hb hts iX5_close hown hE.1 hP 0 (zg_0 cs ad σ tl) rfl 1 (by decide) (hts (.fieldLink RX5 16 "HandoverDeck" "log" "LHandoverDeck$Log;") (by decide +kernel)) (fun _ h9 => h9) rfl dX5_close_52 ?_
        refine lv_iload_n hx hb dX5_close_55 rfl (lv_at hl 1 rfl) ?_
        refine zav (va_runV (As := [.int a1]) (rest := []) ⟨hx, hb, hml, hown, hts⟩ (c_X2_closeLine l G cs ad tl σ a1  H.size) (cwV 1 hts gX5_close_X2_closeLine rfl rfl rfl (by decide +kernel) ⟨Nat.le_of_ble_eq_true rfl, Nat.le_of_ble_eq_true rfl⟩) (zpv hE hP hD hS hA (zg_2 cs ad σ tl) rfl) rfl rfl hl.1 rfl (lv_room (Nat.le_of_ble_eq_true rfl)) dX5_close_56 ⟨Nat.le_of_ble_eq_true rfl, Nat.le_of_ble_eq_true rfl⟩) hD hS hA (fun H locs hP hD hS => ?_)
        refine lv_aload_n hx hb dX5_close_59 rfl (lv_at hl 0 rfl) ?_
        refine va_get (D := G) (ci := 7) (v := .ref (ad 2)) (C := RX5) (T := TX5) (N := 7) hx hb hts iX5_close hown hE.1 hP 0 (zg_0 cs ad (f_X2_closeLine σ a1) tl) rfl 1 (by decide) (hts (.fieldLink RX5 16 "HandoverDeck" "log" "LHandoverDeck$Log;") (by decide +kernel)) (fun _ h9 => h9) rfl dX5_close_60 ?_
        refine zai (va_runV (As := []) (rest := []) ⟨hx, hb, hml, hown, hts⟩ (c_X2_openCount l G cs ad tl (f_X2_closeLine σ a1)   H.size) (cwV 0 hts gX5_close_X2_openCount rfl rfl rfl (by decide +kernel) ⟨Nat.le_of_ble_eq_true rfl, Nat.le_of_ble_eq_true rfl⟩) (zpv hE hP hD hS hA (zg_2 cs ad (f_X2_closeLine σ a1) tl) rfl) rfl rfl hl.1 rfl (lv_room (Nat.le_of_ble_eq_true rfl)) dX5_close_63 ⟨Nat.le_of_ble_eq_true rfl, Nat.le_of_ble_eq_true rfl⟩) hD hS hA (fun H locs hP hD hS => ?_)
        obtain ⟨e1, e2, e3⟩ := z3 hR.symm
        subst e1; subst e2; subst e3
        refine W.widen (k := 2) (n := 12) (by decide) (by decide) ?_
        refine vx_ret ?_
        exact W.iret (v := (f_X2_openCount (f_X2_closeLine σ a1) )) hx hb hr (fun t ht hW => ⟨⟨_, (), rfl, ⟨rfl, rfl⟩, by rw [ht]; exact hP, hD⟩, hS.F ht⟩) hS.2.2 dX5_close_66
      · have hR := hR.trans (if_pos c_3)
        obtain ⟨e1, e2, e3⟩ := z3 hR.symm
        subst e1; subst e2; subst e3
        exact z_thrW (k := 3) (is := 263) (text := "the line is closed") hx hb hfl zf_3.1 zf_3.2.1 zf_3.2.2 (fun w h => hts w (List.mem_cons_of_mem _ (List.mem_append_left _ (List.mem_append_left _ (List.mem_append_right _ h))))) (hts (.classLink RX5 71 "java/lang/IllegalStateException") (by decide +kernel)) (hts (.initialized "java/lang/IllegalStateException") (by decide +kernel)) (hE.2.1 _ (List.mem_of_getElem? (i := 5) rfl)) (hE.2.2.1 (263, "the line is closed") (by decide +kernel)) hown hE hP hD hS (by rw [hl.1, hml]) dX5_close_40 dX5_close_43 dX5_close_44 dX5_close_47 dX5_close_50 htab (by decide) (by decide) (by decide) (by decide) hlocks (by decide) rfl (by decide) (by decide)
    · have hR := hR.trans (if_neg c_2)
      obtain ⟨e1, e2, e3⟩ := z3 hR.symm
      subst e1; subst e2; subst e3
      exact z_thrW (k := 5) (is := 260) (text := "the line is not of a note") hx hb hfl zf_5.1 zf_5.2.1 zf_5.2.2 (fun w h => hts w (List.mem_cons_of_mem _ (List.mem_append_left _ (List.mem_append_left _ (List.mem_append_left _ (List.mem_append_right _ h)))))) (hts (.classLink RX5 208 "java/lang/UnsupportedOperationException") (by decide +kernel)) (hts (.initialized "java/lang/UnsupportedOperationException") (by decide +kernel)) (hE.2.1 _ (List.mem_of_getElem? (i := 7) rfl)) (hE.2.2.1 (260, "the line is not of a note") (by decide +kernel)) hown hE hP hD hS (by rw [hl.1, hml]) dX5_close_18 dX5_close_21 dX5_close_22 dX5_close_25 dX5_close_28 htab (by decide) (by decide) (by decide) (by decide) hlocks (by decide) rfl (by decide) (by decide)
def f_X5_begin (σ : zS) (a1 : Int32) : Nat × Int32 × zS := (if (f_X5_checkCrew a1) = 0 then (if (f_X1_crewOnDuty σ ) = (-1) then (0, ((f_X1_startShift σ a1 (σ 0 6)) 0 6), (f_X1_startShift σ a1 (σ 0 6))) else (3, 0, σ)) else ((f_X5_checkCrew a1), 0, σ))
theorem iX5_begin : ∀ w ∈ u_ws RX5 TX5 7, w ∈ wsX5_begin := by decide +kernel
set_option maxRecDepth 100000 in
theorem c_X5_begin (l : Launch) (hfl : l.stackTraces = false) (G : va_G) (cs : Nat → ClassId) (ad : Nat → Nat) (tl : va_W) (σ : zS) (a1 : Int32)  : zXi l yX5_begin wsX5_begin { frames := 7, cells := 2, slots := 12, locals := 110 } G cs [.ref (ad 0), .int a1] (zw cs ad σ tl) (f_X5_begin σ a1).1 (f_X5_begin σ a1).2.1 (zw cs ad (f_X5_begin σ a1).2.2 tl) 2 12 := by
  intro sz
  refine vx_ofW (cc := cX5_begin) (maxL := 2) (ret := (some .int)) (by decide) rfl ?_
  intro p e s m args below meth c s₁ B hml htab hv
  obtain ⟨rfl, hsz, hP, hD0, hE⟩ := hv
  have hx := B.exec
  have hb := B.bytes
  have hr := B.returns
  have hts := atoms_spec (ws := wsX5_begin) B.pre
  have hown : s.vm.findClass RX5 = some m.cls := findClass_of_methodNamed B.named
  have hlocks := B.notSynchronized
  subst hsz
  have hD := hD0.self (sz := s.heap.size)
  have hA : ∀ q : Nat, s.heap.size ≤ q → (va_A (zw cs ad σ tl) s.heap.size) q := fun q h => Or.inr h
  generalize va_A (zw cs ad σ tl) s.heap.size = A at hD hE hA ⊢
  have hS : va_S A s.heap s.heap [] := va_S.rf
  have hl := lv_entry ([.ref (ad 0), .int a1]) (n := 2) (Nat.le_of_ble_eq_true rfl)
  rw [lg_entry_eq]
  generalize (lg_sl ([.ref (ad 0), .int a1]) ++ List.replicate (2 - (lg_sl ([.ref (ad 0), .int a1])).length) Slot.unset).toArray = ls at hl ⊢
  have hl : lv_has ls 2 [(0, .ref (ad 0)), (1, .int a1)] := hl
  generalize hR : (f_X5_begin σ a1) = RV
  have hR := hR.symm
  unfold f_X5_begin at hR
  obtain ⟨RVk, RVv, RVs⟩ := RV
  dsimp only
  obtain ⟨H, hH⟩ : ∃ z, z = s.heap := ⟨_, rfl⟩
  obtain ⟨locs, hlocs⟩ : ∃ z : List Loc, z = [] := ⟨_, rfl⟩
  rw [← hH] at hP
  have hS : va_S A s.heap H locs := by rw [hH, hlocs]; exact hS
  show W _ _ _ _ _ _ _ _ _ _ s.heap [] _ _ _ _
  rw [← hH, ← hlocs]
  clear hlocs
  refine lv_iload_n hx hb dX5_begin_0 rfl (lv_at hl 1 rfl) ?_
  refine zaxv (vx_runS (As := [.int a1]) (rest := []) ⟨hx, hb, hml, hown, hts⟩ (c_X5_checkCrew l hfl G cs ad tl σ a1  H.size) (va_cwS 1 hts gX5_begin_X5_checkCrew rfl rfl rfl (by decide +kernel) ⟨Nat.le_of_ble_eq_true rfl, Nat.le_of_ble_eq_true rfl⟩) (zps hE hP hD hS hA) rfl rfl hl.1 rfl (lv_room (Nat.le_of_ble_eq_true rfl)) dX5_begin_1 ⟨Nat.le_of_ble_eq_true rfl, Nat.le_of_ble_eq_true rfl⟩) hD hS hA (fun c_1 ce q9 H locs hP hD hS h1 h2 h3 => ?_) (fun c_1 H locs hP hD hS => ?_)
  · have hR := hR.trans (if_neg c_1)
    obtain ⟨e1, e2, e3⟩ := z3 hR.symm
    subst e1; subst e2; subst e3
    exact z_out htab hlocks h1 h2 h3 c_1 hP hD hS (by decide) (by decide)
  · have hR := hR.trans (if_pos c_1)
    refine lv_aload_n hx hb dX5_begin_4 rfl (lv_at hl 0 rfl) ?_
    refine va_get (D := G) (ci := 7) (v := .ref (ad 27)) (C := RX5) (T := TX5) (N := 7) hx hb hts iX5_begin hown hE.1 hP 0 (zg_0 cs ad σ tl) rfl 5 (by decide) (hts (.fieldLink RX5 44 "HandoverDeck" "roster" "LHandoverDeck$CrewRoster;") (by decide +kernel)) (fun _ h9 => h9) rfl dX5_begin_5 ?_
    refine zai (va_runV (As := []) (rest := []) ⟨hx, hb, hml, hown, hts⟩ (c_X1_crewOnDuty l G cs ad tl σ   H.size) (cwV 0 hts gX5_begin_X1_crewOnDuty rfl rfl rfl (by decide +kernel) ⟨Nat.le_of_ble_eq_true rfl, Nat.le_of_ble_eq_true rfl⟩) (zpv hE hP hD hS hA (zg_27 cs ad σ tl) rfl) rfl rfl hl.1 rfl (lv_room (Nat.le_of_ble_eq_true rfl)) dX5_begin_8 ⟨Nat.le_of_ble_eq_true rfl, Nat.le_of_ble_eq_true rfl⟩) hD hS hA (fun H locs hP hD hS => ?_)
    refine lv_iconst (v := (-1)) hx hb dX5_begin_11 (by decide) ?_
    refine lv_icmp_eq (tgt := 26) hx hb dX5_begin_12 (by decide) (fun c_2 => ?_) (fun c_2 => ?_)
    · have hR := hR.trans (if_pos c_2)
      refine lv_aload_n hx hb dX5_begin_26 rfl (lv_at hl 0 rfl) ?_
      refine va_get (D := G) (ci := 7) (v := .ref (ad 27)) (C := RX5) (T := TX5) (N := 7) hx hb hts iX5_begin hown hE.1 hP 0 (zg_0 cs ad σ tl) rfl 5 (by decide) (hts (.fieldLink RX5 44 "HandoverDeck" "roster" "LHandoverDeck$CrewRoster;") (by decide +kernel)) (fun _ h9 => h9) rfl dX5_begin_27 ?_
      refine lv_iload_n hx hb dX5_begin_30 rfl (lv_at hl 1 rfl) ?_
      refine lv_aload_n hx hb dX5_begin_31 rfl (lv_at hl 0 rfl) ?_
      refine va_get (D := G) (ci := 7) (v := .int (σ 0 6)) (C := RX5) (T := TX5) (N := 7) hx hb hts iX5_begin hown hE.1 hP 0 (zg_0 cs ad σ tl) rfl 6 (by decide) (hts (.fieldLink RX5 81 "HandoverDeck" "now" "I") (by decide +kernel)) (fun _ h9 => h9) rfl dX5_begin_32 ?_
      refine zav (va_runV (As := [.int a1, .int (σ 0 6)]) (rest := []) ⟨hx, hb, hml, hown, hts⟩ (c_X1_startShift l G cs ad tl σ a1 (σ 0 6)  H.size) (cwV 2 hts gX5_begin_X1_startShift rfl rfl rfl (by decide +kernel) ⟨Nat.le_of_ble_eq_true rfl, Nat.le_of_ble_eq_true rfl⟩) (zpv hE hP hD hS hA (zg_27 cs ad σ tl) rfl) rfl rfl hl.1 rfl (lv_room (Nat.le_of_ble_eq_true rfl)) dX5_begin_35 ⟨Nat.le_of_ble_eq_true rfl, Nat.le_of_ble_eq_true rfl⟩) hD hS hA (fun H locs hP hD hS => ?_)
      refine lv_aload_n hx hb dX5_begin_38 rfl (lv_at hl 0 rfl) ?_
      refine va_get (D := G) (ci := 7) (v := .int ((f_X1_startShift σ a1 (σ 0 6)) 0 6)) (C := RX5) (T := TX5) (N := 7) hx hb hts iX5_begin hown hE.1 hP 0 (zg_0 cs ad (f_X1_startShift σ a1 (σ 0 6)) tl) rfl 6 (by decide) (hts (.fieldLink RX5 81 "HandoverDeck" "now" "I") (by decide +kernel)) (fun _ h9 => h9) rfl dX5_begin_39 ?_
      obtain ⟨e1, e2, e3⟩ := z3 hR.symm
      subst e1; subst e2; subst e3
      refine W.widen (k := 2) (n := 12) (by decide) (by decide) ?_
      refine vx_ret ?_
      exact W.iret (v := ((f_X1_startShift σ a1 (σ 0 6)) 0 6)) hx hb hr (fun t ht hW => ⟨⟨_, (), rfl, ⟨rfl, rfl⟩, by rw [ht]; exact hP, hD⟩, hS.F ht⟩) hS.2.2 dX5_begin_42
    · have hR := hR.trans (if_neg c_2)
      obtain ⟨e1, e2, e3⟩ := z3 hR.symm
      subst e1; subst e2; subst e3
      exact z_thrW (k := 3) (is := 274) (text := "a crew is on duty") hx hb hfl zf_3.1 zf_3.2.1 zf_3.2.2 (fun w h => hts w (List.mem_cons_of_mem _ (List.mem_append_left _ (List.mem_append_right _ h)))) (hts (.classLink RX5 71 "java/lang/IllegalStateException") (by decide +kernel)) (hts (.initialized "java/lang/IllegalStateException") (by decide +kernel)) (hE.2.1 _ (List.mem_of_getElem? (i := 5) rfl)) (hE.2.2.1 (274, "a crew is on duty") (by decide +kernel)) hown hE hP hD hS (by rw [hl.1, hml]) dX5_begin_15 dX5_begin_18 dX5_begin_19 dX5_begin_22 dX5_begin_25 htab (by decide) (by decide) (by decide) (by decide) hlocks (by decide) rfl (by decide) (by decide)
def f_X5_handOver (σ : zS) (a1 : Int32) : Nat × Int32 × zS := (if (f_X5_checkCrew a1) = 0 then (if (f_X5_checkAtWork σ ) = 0 then (if (f_X1_crewOnDuty σ ) = a1 then (3, 0, σ) else (if (f_X1_restOf σ a1 (σ 0 6)) ≤ 0 then (0, (f_X2_openCount (f_X2_forgetAcknowledged (f_X1_startHandOver σ a1) ) ), (f_X2_forgetAcknowledged (f_X1_startHandOver σ a1) )) else (5, 0, σ))) else ((f_X5_checkAtWork σ ), 0, σ)) else ((f_X5_checkCrew a1), 0, σ))
theorem iX5_handOver : ∀ w ∈ u_ws RX5 TX5 7, w ∈ wsX5_handOver := by decide +kernel
set_option maxRecDepth 100000 in
theorem c_X5_handOver (l : Launch) (hfl : l.stackTraces = false) (G : va_G) (cs : Nat → ClassId) (ad : Nat → Nat) (tl : va_W) (σ : zS) (a1 : Int32)  : zXi l yX5_handOver wsX5_handOver { frames := 7, cells := 3, slots := 18, locals := 110 } G cs [.ref (ad 0), .int a1] (zw cs ad σ tl) (f_X5_handOver σ a1).1 (f_X5_handOver σ a1).2.1 (zw cs ad (f_X5_handOver σ a1).2.2 tl) 3 18 := by
  intro sz
  refine vx_ofW (cc := cX5_handOver) (maxL := 2) (ret := (some .int)) (by decide) rfl ?_
  intro p e s m args below meth c s₁ B hml htab hv
  obtain ⟨rfl, hsz, hP, hD0, hE⟩ := hv
  have hx := B.exec
  have hb := B.bytes
  have hr := B.returns
  have hts := atoms_spec (ws := wsX5_handOver) B.pre
  have hown : s.vm.findClass RX5 = some m.cls := findClass_of_methodNamed B.named
  have hlocks := B.notSynchronized
  subst hsz
  have hD := hD0.self (sz := s.heap.size)
  have hA : ∀ q : Nat, s.heap.size ≤ q → (va_A (zw cs ad σ tl) s.heap.size) q := fun q h => Or.inr h
  generalize va_A (zw cs ad σ tl) s.heap.size = A at hD hE hA ⊢
  have hS : va_S A s.heap s.heap [] := va_S.rf
  have hl := lv_entry ([.ref (ad 0), .int a1]) (n := 2) (Nat.le_of_ble_eq_true rfl)
  rw [lg_entry_eq]
  generalize (lg_sl ([.ref (ad 0), .int a1]) ++ List.replicate (2 - (lg_sl ([.ref (ad 0), .int a1])).length) Slot.unset).toArray = ls at hl ⊢
  have hl : lv_has ls 2 [(0, .ref (ad 0)), (1, .int a1)] := hl
  generalize hR : (f_X5_handOver σ a1) = RV
  have hR := hR.symm
  unfold f_X5_handOver at hR
  obtain ⟨RVk, RVv, RVs⟩ := RV
  dsimp only
  obtain ⟨H, hH⟩ : ∃ z, z = s.heap := ⟨_, rfl⟩
  obtain ⟨locs, hlocs⟩ : ∃ z : List Loc, z = [] := ⟨_, rfl⟩
  rw [← hH] at hP
  have hS : va_S A s.heap H locs := by rw [hH, hlocs]; exact hS
  show W _ _ _ _ _ _ _ _ _ _ s.heap [] _ _ _ _
  rw [← hH, ← hlocs]
  clear hlocs
  refine lv_iload_n hx hb dX5_handOver_0 rfl (lv_at hl 1 rfl) ?_
  refine zaxv (vx_runS (As := [.int a1]) (rest := []) ⟨hx, hb, hml, hown, hts⟩ (c_X5_checkCrew l hfl G cs ad tl σ a1  H.size) (va_cwS 1 hts gX5_handOver_X5_checkCrew rfl rfl rfl (by decide +kernel) ⟨Nat.le_of_ble_eq_true rfl, Nat.le_of_ble_eq_true rfl⟩) (zps hE hP hD hS hA) rfl rfl hl.1 rfl (lv_room (Nat.le_of_ble_eq_true rfl)) dX5_handOver_1 ⟨Nat.le_of_ble_eq_true rfl, Nat.le_of_ble_eq_true rfl⟩) hD hS hA (fun c_1 ce q9 H locs hP hD hS h1 h2 h3 => ?_) (fun c_1 H locs hP hD hS => ?_)
  · have hR := hR.trans (if_neg c_1)
    obtain ⟨e1, e2, e3⟩ := z3 hR.symm
    subst e1; subst e2; subst e3
    exact z_out htab hlocks h1 h2 h3 c_1 hP hD hS (by decide) (by decide)
  · have hR := hR.trans (if_pos c_1)
    refine lv_aload_n hx hb dX5_handOver_4 rfl (lv_at hl 0 rfl) ?_
    refine zaxv (vx_runV (As := []) (rest := []) ⟨hx, hb, hml, hown, hts⟩ (c_X5_checkAtWork l hfl G cs ad tl σ   H.size) (cwV 0 hts gX5_handOver_X5_checkAtWork rfl rfl rfl (by decide +kernel) ⟨Nat.le_of_ble_eq_true rfl, Nat.le_of_ble_eq_true rfl⟩) (zpv hE hP hD hS hA (zg_0 cs ad σ tl) rfl) rfl rfl hl.1 rfl (lv_room (Nat.le_of_ble_eq_true rfl)) dX5_handOver_5 ⟨Nat.le_of_ble_eq_true rfl, Nat.le_of_ble_eq_true rfl⟩) hD hS hA (fun c_2 ce q9 H locs hP hD hS h1 h2 h3 => ?_) (fun c_2 H locs hP hD hS => ?_)
    · have hR := hR.trans (if_neg c_2)
      obtain ⟨e1, e2, e3⟩ := z3 hR.symm
      subst e1; subst e2; subst e3
      exact z_out htab hlocks h1 h2 h3 c_2 hP hD hS (by decide) (by decide)
    · have hR := hR.trans (if_pos c_2)
      refine lv_aload_n hx hb dX5_handOver_8 rfl (lv_at hl 0 rfl) ?_
      refine va_get (D := G) (ci := 7) (v := .ref (ad 27)) (C := RX5) (T := TX5) (N := 7) hx hb hts iX5_handOver hown hE.1 hP 0 (zg_0 cs ad σ tl) rfl 5 (by decide) (hts (.fieldLink RX5 44 "HandoverDeck" "roster" "LHandoverDeck$CrewRoster;") (by decide +kernel)) (fun _ h9 => h9) rfl dX5_handOver_9 ?_
      refine zai (va_runV (As := []) (rest := []) ⟨hx, hb, hml, hown, hts⟩ (c_X1_crewOnDuty l G cs ad tl σ   H.size) (cwV 0 hts gX5_handOver_X1_crewOnDuty rfl rfl rfl (by decide +kernel) ⟨Nat.le_of_ble_eq_true rfl, Nat.le_of_ble_eq_true rfl⟩) (zpv hE hP hD hS hA (zg_27 cs ad σ tl) rfl) rfl rfl hl.1 rfl (lv_room (Nat.le_of_ble_eq_true rfl)) dX5_handOver_12 ⟨Nat.le_of_ble_eq_true rfl, Nat.le_of_ble_eq_true rfl⟩) hD hS hA (fun H locs hP hD hS => ?_)
      refine lv_iload_n hx hb dX5_handOver_15 rfl (lv_at hl 1 rfl) ?_
      refine lv_icmp_ne (tgt := 30) hx hb dX5_handOver_16 (by decide) (fun c_3 => ?_) (fun c_3 => ?_)
      · have hR := hR.trans (if_neg c_3)
        refine lv_aload_n hx hb dX5_handOver_30 rfl (lv_at hl 0 rfl) ?_
        refine va_get (D := G) (ci := 7) (v := .ref (ad 27)) (C := RX5) (T := TX5) (N := 7) hx hb hts iX5_handOver hown hE.1 hP 0 (zg_0 cs ad σ tl) rfl 5 (by decide) (hts (.fieldLink RX5 44 "HandoverDeck" "roster" "LHandoverDeck$CrewRoster;") (by decide +kernel)) (fun _ h9 => h9) rfl dX5_handOver_31 ?_
        refine lv_iload_n hx hb dX5_handOver_34 rfl (lv_at hl 1 rfl) ?_
        refine lv_aload_n hx hb dX5_handOver_35 rfl (lv_at hl 0 rfl) ?_
        refine va_get (D := G) (ci := 7) (v := .int (σ 0 6)) (C := RX5) (T := TX5) (N := 7) hx hb hts iX5_handOver hown hE.1 hP 0 (zg_0 cs ad σ tl) rfl 6 (by decide) (hts (.fieldLink RX5 81 "HandoverDeck" "now" "I") (by decide +kernel)) (fun _ h9 => h9) rfl dX5_handOver_36 ?_
        refine zai (va_runV (As := [.int a1, .int (σ 0 6)]) (rest := []) ⟨hx, hb, hml, hown, hts⟩ (c_X1_restOf l G cs ad tl σ a1 (σ 0 6)  H.size) (cwV 2 hts gX5_handOver_X1_restOf rfl rfl rfl (by decide +kernel) ⟨Nat.le_of_ble_eq_true rfl, Nat.le_of_ble_eq_true rfl⟩) (zpv hE hP hD hS hA (zg_27 cs ad σ tl) rfl) rfl rfl hl.1 rfl (lv_room (Nat.le_of_ble_eq_true rfl)) dX5_handOver_39 ⟨Nat.le_of_ble_eq_true rfl, Nat.le_of_ble_eq_true rfl⟩) hD hS hA (fun H locs hP hD hS => ?_)
        refine lv_if_le (tgt := 56) hx hb dX5_handOver_42 (by decide) (fun c_4 => ?_) (fun c_4 => ?_)
        · have hR := hR.trans (if_pos c_4)
          refine lv_aload_n hx hb dX5_handOver_56 rfl (lv_at hl 0 rfl) ?_
          refine va_get (D := G) (ci := 7) (v := .ref (ad 27)) (C := RX5) (T := TX5) (N := 7) hx hb hts iX5_handOver hown hE.1 hP 0 (zg_0 cs ad σ tl) rfl 5 (by decide) (hts (.fieldLink RX5 44 "HandoverDeck" "roster" "LHandoverDeck$CrewRoster;") (by decide +kernel)) (fun _ h9 => h9) rfl dX5_handOver_57 ?_
          refine lv_iload_n hx hb dX5_handOver_60 rfl (lv_at hl 1 rfl) ?_
          refine zav (va_runV (As := [.int a1]) (rest := []) ⟨hx, hb, hml, hown, hts⟩ (c_X1_startHandOver l G cs ad tl σ a1  H.size) (cwV 1 hts gX5_handOver_X1_startHandOver rfl rfl rfl (by decide +kernel) ⟨Nat.le_of_ble_eq_true rfl, Nat.le_of_ble_eq_true rfl⟩) (zpv hE hP hD hS hA (zg_27 cs ad σ tl) rfl) rfl rfl hl.1 rfl (lv_room (Nat.le_of_ble_eq_true rfl)) dX5_handOver_61 ⟨Nat.le_of_ble_eq_true rfl, Nat.le_of_ble_eq_true rfl⟩) hD hS hA (fun H locs hP hD hS => ?_)
          refine lv_aload_n hx hb dX5_handOver_64 rfl (lv_at hl 0 rfl) ?_
          refine va_get (D := G) (ci := 7) (v := .ref (ad 2)) (C := RX5) (T := TX5) (N := 7) hx hb hts iX5_handOver hown hE.1 hP 0 (zg_0 cs ad (f_X1_startHandOver σ a1) tl) rfl 1 (by decide) (hts (.fieldLink RX5 16 "HandoverDeck" "log" "LHandoverDeck$Log;") (by decide +kernel)) (fun _ h9 => h9) rfl dX5_handOver_65 ?_
          refine zav (va_runV (As := []) (rest := []) ⟨hx, hb, hml, hown, hts⟩ (c_X2_forgetAcknowledged l G cs ad tl (f_X1_startHandOver σ a1)   H.size) (cwV 0 hts gX5_handOver_X2_forgetAcknowledged rfl rfl rfl (by decide +kernel) ⟨Nat.le_of_ble_eq_true rfl, Nat.le_of_ble_eq_true rfl⟩) (zpv hE hP hD hS hA (zg_2 cs ad (f_X1_startHandOver σ a1) tl) rfl) rfl rfl hl.1 rfl (lv_room (Nat.le_of_ble_eq_true rfl)) dX5_handOver_68 ⟨Nat.le_of_ble_eq_true rfl, Nat.le_of_ble_eq_true rfl⟩) hD hS hA (fun H locs hP hD hS => ?_)
          refine lv_aload_n hx hb dX5_handOver_71 rfl (lv_at hl 0 rfl) ?_
          refine va_get (D := G) (ci := 7) (v := .ref (ad 2)) (C := RX5) (T := TX5) (N := 7) hx hb hts iX5_handOver hown hE.1 hP 0 (zg_0 cs ad (f_X2_forgetAcknowledged (f_X1_startHandOver σ a1) ) tl) rfl 1 (by decide) (hts (.fieldLink RX5 16 "HandoverDeck" "log" "LHandoverDeck$Log;") (by decide +kernel)) (fun _ h9 => h9) rfl dX5_handOver_72 ?_
          refine zai (va_runV (As := []) (rest := []) ⟨hx, hb, hml, hown, hts⟩ (c_X2_openCount l G cs ad tl (f_X2_forgetAcknowledged (f_X1_startHandOver σ a1) )   H.size) (cwV 0 hts gX5_handOver_X2_openCount rfl rfl rfl (by decide +kernel) ⟨Nat.le_of_ble_eq_true rfl, Nat.le_of_ble_eq_true rfl⟩) (zpv hE hP hD hS hA (zg_2 cs ad (f_X2_forgetAcknowledged (f_X1_startHandOver σ a1) ) tl) rfl) rfl rfl hl.1 rfl (lv_room (Nat.le_of_ble_eq_true rfl)) dX5_handOver_75 ⟨Nat.le_of_ble_eq_true rfl, Nat.le_of_ble_eq_true rfl⟩) hD hS hA (fun H locs hP hD hS => ?_)
          obtain ⟨e1, e2, e3⟩ := z3 hR.symm
          subst e1; subst e2; subst e3
          refine W.widen (k := 3) (n := 18) (by decide) (by decide) ?_
          refine vx_ret ?_
          exact W.iret (v := (f_X2_openCount (f_X2_forgetAcknowledged (f_X1_startHandOver σ a1) ) )) hx hb hr (fun t ht hW => ⟨⟨_, (), rfl, ⟨rfl, rfl⟩, by rw [ht]; exact hP, hD⟩, hS.F ht⟩) hS.2.2 dX5_handOver_78
        · have hR := hR.trans (if_neg c_4)
          obtain ⟨e1, e2, e3⟩ := z3 hR.symm
          subst e1; subst e2; subst e3
          exact z_thrW (k := 5) (is := 284) (text := "the crew is not rested") hx hb hfl zf_5.1 zf_5.2.1 zf_5.2.2 (fun w h => hts w (List.mem_cons_of_mem _ (List.mem_append_left _ (List.mem_append_left _ (List.mem_append_right _ h))))) (hts (.classLink RX5 208 "java/lang/UnsupportedOperationException") (by decide +kernel)) (hts (.initialized "java/lang/UnsupportedOperationException") (by decide +kernel)) (hE.2.1 _ (List.mem_of_getElem? (i := 7) rfl)) (hE.2.2.1 (284, "the crew is not rested") (by decide +kernel)) hown hE hP hD hS (by rw [hl.1, hml]) dX5_handOver_45 dX5_handOver_48 dX5_handOver_49 dX5_handOver_52 dX5_handOver_55 htab (by decide) (by decide) (by decide) (by decide) hlocks (by decide) rfl (by decide) (by decide)
      · have hR := hR.trans (if_pos c_3)
        obtain ⟨e1, e2, e3⟩ := z3 hR.symm
        subst e1; subst e2; subst e3
        exact z_thrW (k := 3) (is := 279) (text := "the crew is on duty") hx hb hfl zf_3.1 zf_3.2.1 zf_3.2.2 (fun w h => hts w (List.mem_cons_of_mem _ (List.mem_append_left _ (List.mem_append_left _ (List.mem_append_left _ (List.mem_append_right _ h)))))) (hts (.classLink RX5 71 "java/lang/IllegalStateException") (by decide +kernel)) (hts (.initialized "java/lang/IllegalStateException") (by decide +kernel)) (hE.2.1 _ (List.mem_of_getElem? (i := 5) rfl)) (hE.2.2.1 (279, "the crew is on duty") (by decide +kernel)) hown hE hP hD hS (by rw [hl.1, hml]) dX5_handOver_19 dX5_handOver_22 dX5_handOver_23 dX5_handOver_26 dX5_handOver_29 htab (by decide) (by decide) (by decide) (by decide) hlocks (by decide) rfl (by decide) (by decide)
def f_X5_acknowledge (σ : zS) (a1 : Int32) : Nat × Int32 × zS := (if (f_X5_checkLine σ a1) = 0 then (if (f_X5_checkHandOver σ ) = 0 then (if (f_X2_isOpen σ a1) = 0 then (3, 0, σ) else (if (f_X2_isAcknowledged σ a1) = 0 then (0, ((f_X2_openCount (f_X2_markAcknowledged σ a1) ) - (f_X2_acknowledgedCount (f_X2_markAcknowledged σ a1) )), (f_X2_markAcknowledged σ a1)) else (3, 0, σ))) else ((f_X5_checkHandOver σ ), 0, σ)) else ((f_X5_checkLine σ a1), 0, σ))
theorem iX5_acknowledge : ∀ w ∈ u_ws RX5 TX5 7, w ∈ wsX5_acknowledge := by decide +kernel
set_option maxRecDepth 100000 in
theorem c_X5_acknowledge (l : Launch) (hfl : l.stackTraces = false) (G : va_G) (cs : Nat → ClassId) (ad : Nat → Nat) (tl : va_W) (σ : zS) (a1 : Int32)  : zXi l yX5_acknowledge wsX5_acknowledge { frames := 7, cells := 3, slots := 18, locals := 111 } G cs [.ref (ad 0), .int a1] (zw cs ad σ tl) (f_X5_acknowledge σ a1).1 (f_X5_acknowledge σ a1).2.1 (zw cs ad (f_X5_acknowledge σ a1).2.2 tl) 3 18 := by
  intro sz
  refine vx_ofW (cc := cX5_acknowledge) (maxL := 2) (ret := (some .int)) (by decide) rfl ?_
  intro p e s m args below meth c s₁ B hml htab hv
  obtain ⟨rfl, hsz, hP, hD0, hE⟩ := hv
  have hx := B.exec
  have hb := B.bytes
  have hr := B.returns
  have hts := atoms_spec (ws := wsX5_acknowledge) B.pre
  have hown : s.vm.findClass RX5 = some m.cls := findClass_of_methodNamed B.named
  have hlocks := B.notSynchronized
  subst hsz
  have hD := hD0.self (sz := s.heap.size)
  have hA : ∀ q : Nat, s.heap.size ≤ q → (va_A (zw cs ad σ tl) s.heap.size) q := fun q h => Or.inr h
  generalize va_A (zw cs ad σ tl) s.heap.size = A at hD hE hA ⊢
  have hS : va_S A s.heap s.heap [] := va_S.rf
  have hl := lv_entry ([.ref (ad 0), .int a1]) (n := 2) (Nat.le_of_ble_eq_true rfl)
  rw [lg_entry_eq]
  generalize (lg_sl ([.ref (ad 0), .int a1]) ++ List.replicate (2 - (lg_sl ([.ref (ad 0), .int a1])).length) Slot.unset).toArray = ls at hl ⊢
  have hl : lv_has ls 2 [(0, .ref (ad 0)), (1, .int a1)] := hl
  generalize hR : (f_X5_acknowledge σ a1) = RV
  have hR := hR.symm
  unfold f_X5_acknowledge at hR
  obtain ⟨RVk, RVv, RVs⟩ := RV
  dsimp only
  obtain ⟨H, hH⟩ : ∃ z, z = s.heap := ⟨_, rfl⟩
  obtain ⟨locs, hlocs⟩ : ∃ z : List Loc, z = [] := ⟨_, rfl⟩
  rw [← hH] at hP
  have hS : va_S A s.heap H locs := by rw [hH, hlocs]; exact hS
  show W _ _ _ _ _ _ _ _ _ _ s.heap [] _ _ _ _
  rw [← hH, ← hlocs]
  clear hlocs
  refine lv_aload_n hx hb dX5_acknowledge_0 rfl (lv_at hl 0 rfl) ?_
  refine lv_iload_n hx hb dX5_acknowledge_1 rfl (lv_at hl 1 rfl) ?_
  refine zaxv (vx_runV (As := [.int a1]) (rest := []) ⟨hx, hb, hml, hown, hts⟩ (c_X5_checkLine l hfl G cs ad tl σ a1  H.size) (cwV 1 hts gX5_acknowledge_X5_checkLine rfl rfl rfl (by decide +kernel) ⟨Nat.le_of_ble_eq_true rfl, Nat.le_of_ble_eq_true rfl⟩) (zpv hE hP hD hS hA (zg_0 cs ad σ tl) rfl) rfl rfl hl.1 rfl (lv_room (Nat.le_of_ble_eq_true rfl)) dX5_acknowledge_2 ⟨Nat.le_of_ble_eq_true rfl, Nat.le_of_ble_eq_true rfl⟩) hD hS hA (fun c_1 ce q9 H locs hP hD hS h1 h2 h3 => ?_) (fun c_1 H locs hP hD hS => ?_)
  · have hR := hR.trans (if_neg c_1)
    obtain ⟨e1, e2, e3⟩ := z3 hR.symm
    subst e1; subst e2; subst e3
    exact z_out htab hlocks h1 h2 h3 c_1 hP hD hS (by decide) (by decide)
  · have hR := hR.trans (if_pos c_1)
    refine lv_aload_n hx hb dX5_acknowledge_5 rfl (lv_at hl 0 rfl) ?_
    refine zaxv (vx_runV (As := []) (rest := []) ⟨hx, hb, hml, hown, hts⟩ (c_X5_checkHandOver l hfl G cs ad tl σ   H.size) (cwV 0 hts gX5_acknowledge_X5_checkHandOver rfl rfl rfl (by decide +kernel) ⟨Nat.le_of_ble_eq_true rfl, Nat.le_of_ble_eq_true rfl⟩) (zpv hE hP hD hS hA (zg_0 cs ad σ tl) rfl) rfl rfl hl.1 rfl (lv_room (Nat.le_of_ble_eq_true rfl)) dX5_acknowledge_6 ⟨Nat.le_of_ble_eq_true rfl, Nat.le_of_ble_eq_true rfl⟩) hD hS hA (fun c_2 ce q9 H locs hP hD hS h1 h2 h3 => ?_) (fun c_2 H locs hP hD hS => ?_)
    · have hR := hR.trans (if_neg c_2)
      obtain ⟨e1, e2, e3⟩ := z3 hR.symm
      subst e1; subst e2; subst e3
      exact z_out htab hlocks h1 h2 h3 c_2 hP hD hS (by decide) (by decide)
    · have hR := hR.trans (if_pos c_2)
      refine lv_aload_n hx hb dX5_acknowledge_9 rfl (lv_at hl 0 rfl) ?_
      refine va_get (D := G) (ci := 7) (v := .ref (ad 2)) (C := RX5) (T := TX5) (N := 7) hx hb hts iX5_acknowledge hown hE.1 hP 0 (zg_0 cs ad σ tl) rfl 1 (by decide) (hts (.fieldLink RX5 16 "HandoverDeck" "log" "LHandoverDeck$Log;") (by decide +kernel)) (fun _ h9 => h9) rfl dX5_acknowledge_10 ?_
      refine lv_iload_n hx hb dX5_acknowledge_13 rfl (lv_at hl 1 rfl) ?_
      refine zai (va_runV (As := [.int a1]) (rest := []) ⟨hx, hb, hml, hown, hts⟩ (c_X2_isOpen l G cs ad tl σ a1  H.size) (cwV 1 hts gX5_acknowledge_X2_isOpen rfl rfl rfl (by decide +kernel) ⟨Nat.le_of_ble_eq_true rfl, Nat.le_of_ble_eq_true rfl⟩) (zpv hE hP hD hS hA (zg_2 cs ad σ tl) rfl) rfl rfl hl.1 rfl (lv_room (Nat.le_of_ble_eq_true rfl)) dX5_acknowledge_14 ⟨Nat.le_of_ble_eq_true rfl, Nat.le_of_ble_eq_true rfl⟩) hD hS hA (fun H locs hP hD hS => ?_)
      refine lv_if_eq (tgt := 31) hx hb dX5_acknowledge_17 (by decide) (fun c_3 => ?_) (fun c_3 => ?_)
      · have hR := hR.trans (if_pos c_3)
        obtain ⟨e1, e2, e3⟩ := z3 hR.symm
        subst e1; subst e2; subst e3
        exact z_thrW (k := 3) (is := 298) (text := "the line is closed, or it is acknowledged") hx hb hfl zf_3.1 zf_3.2.1 zf_3.2.2 (fun w h => hts w (List.mem_cons_of_mem _ (List.mem_append_left _ (List.mem_append_left _ (List.mem_append_right _ h))))) (hts (.classLink RX5 71 "java/lang/IllegalStateException") (by decide +kernel)) (hts (.initialized "java/lang/IllegalStateException") (by decide +kernel)) (hE.2.1 _ (List.mem_of_getElem? (i := 5) rfl)) (hE.2.2.1 (298, "the line is closed, or it is acknowledged") (by decide +kernel)) hown hE hP hD hS (by rw [hl.1, hml]) dX5_acknowledge_31 dX5_acknowledge_34 dX5_acknowledge_35 dX5_acknowledge_38 dX5_acknowledge_41 htab (by decide) (by decide) (by decide) (by decide) hlocks (by decide) rfl (by decide) (by decide)
      · have hR := hR.trans (if_neg c_3)
        refine lv_aload_n hx hb dX5_acknowledge_20 rfl (lv_at hl 0 rfl) ?_
        refine va_get (D := G) (ci := 7) (v := .ref (ad 2)) (C := RX5) (T := TX5) (N := 7) hx hb hts iX5_acknowledge hown hE.1 hP 0 (zg_0 cs ad σ tl) rfl 1 (by decide) (hts (.fieldLink RX5 16 "HandoverDeck" "log" "LHandoverDeck$Log;") (by decide +kernel)) (fun _ h9 => h9) rfl dX5_acknowledge_21 ?_
        refine lv_iload_n hx hb dX5_acknowledge_24 rfl (lv_at hl 1 rfl) ?_
        refine zai (va_runV (As := [.int a1]) (rest := []) ⟨hx, hb, hml, hown, hts⟩ (c_X2_isAcknowledged l G cs ad tl σ a1  H.size) (cwV 1 hts gX5_acknowledge_X2_isAcknowledged rfl rfl rfl (by decide +kernel) ⟨Nat.le_of_ble_eq_true rfl, Nat.le_of_ble_eq_true rfl⟩) (zpv hE hP hD hS hA (zg_2 cs ad σ tl) rfl) rfl rfl hl.1 rfl (lv_room (Nat.le_of_ble_eq_true rfl)) dX5_acknowledge_25 ⟨Nat.le_of_ble_eq_true rfl, Nat.le_of_ble_eq_true rfl⟩) hD hS hA (fun H locs hP hD hS => ?_)
        refine lv_if_eq (tgt := 42) hx hb dX5_acknowledge_28 (by decide) (fun c_4 => ?_) (fun c_4 => ?_)
        · have hR := hR.trans (if_pos c_4)
          refine lv_aload_n hx hb dX5_acknowledge_42 rfl (lv_at hl 0 rfl) ?_
          refine va_get (D := G) (ci := 7) (v := .ref (ad 2)) (C := RX5) (T := TX5) (N := 7) hx hb hts iX5_acknowledge hown hE.1 hP 0 (zg_0 cs ad σ tl) rfl 1 (by decide) (hts (.fieldLink RX5 16 "HandoverDeck" "log" "LHandoverDeck$Log;") (by decide +kernel)) (fun _ h9 => h9) rfl dX5_acknowledge_43 ?_
          refine lv_iload_n hx hb dX5_acknowledge_46 rfl (lv_at hl 1 rfl) ?_
          refine zav (va_runV (As := [.int a1]) (rest := []) ⟨hx, hb, hml, hown, hts⟩ (c_X2_markAcknowledged l G cs ad tl σ a1  H.size) (cwV 1 hts gX5_acknowledge_X2_markAcknowledged rfl rfl rfl (by decide +kernel) ⟨Nat.le_of_ble_eq_true rfl, Nat.le_of_ble_eq_true rfl⟩) (zpv hE hP hD hS hA (zg_2 cs ad σ tl) rfl) rfl rfl hl.1 rfl (lv_room (Nat.le_of_ble_eq_true rfl)) dX5_acknowledge_47 ⟨Nat.le_of_ble_eq_true rfl, Nat.le_of_ble_eq_true rfl⟩) hD hS hA (fun H locs hP hD hS => ?_)
          refine lv_aload_n hx hb dX5_acknowledge_50 rfl (lv_at hl 0 rfl) ?_
          refine va_get (D := G) (ci := 7) (v := .ref (ad 2)) (C := RX5) (T := TX5) (N := 7) hx hb hts iX5_acknowledge hown hE.1 hP 0 (zg_0 cs ad (f_X2_markAcknowledged σ a1) tl) rfl 1 (by decide) (hts (.fieldLink RX5 16 "HandoverDeck" "log" "LHandoverDeck$Log;") (by decide +kernel)) (fun _ h9 => h9) rfl dX5_acknowledge_51 ?_
          refine zai (va_runV (As := []) (rest := []) ⟨hx, hb, hml, hown, hts⟩ (c_X2_openCount l G cs ad tl (f_X2_markAcknowledged σ a1)   H.size) (cwV 0 hts gX5_acknowledge_X2_openCount rfl rfl rfl (by decide +kernel) ⟨Nat.le_of_ble_eq_true rfl, Nat.le_of_ble_eq_true rfl⟩) (zpv hE hP hD hS hA (zg_2 cs ad (f_X2_markAcknowledged σ a1) tl) rfl) rfl rfl hl.1 rfl (lv_room (Nat.le_of_ble_eq_true rfl)) dX5_acknowledge_54 ⟨Nat.le_of_ble_eq_true rfl, Nat.le_of_ble_eq_true rfl⟩) hD hS hA (fun H locs hP hD hS => ?_)
          refine lv_aload_n hx hb dX5_acknowledge_57 rfl (lv_at hl 0 rfl) ?_
          refine va_get (D := G) (ci := 7) (v := .ref (ad 2)) (C := RX5) (T := TX5) (N := 7) hx hb hts iX5_acknowledge hown hE.1 hP 0 (zg_0 cs ad (f_X2_markAcknowledged σ a1) tl) rfl 1 (by decide) (hts (.fieldLink RX5 16 "HandoverDeck" "log" "LHandoverDeck$Log;") (by decide +kernel)) (fun _ h9 => h9) rfl dX5_acknowledge_58 ?_
          refine zai (va_runV (As := []) (rest := [.int (f_X2_openCount (f_X2_markAcknowledged σ a1) )]) ⟨hx, hb, hml, hown, hts⟩ (c_X2_acknowledgedCount l G cs ad tl (f_X2_markAcknowledged σ a1)   H.size) (cwV 0 hts gX5_acknowledge_X2_acknowledgedCount rfl rfl rfl (by decide +kernel) ⟨Nat.le_of_ble_eq_true rfl, Nat.le_of_ble_eq_true rfl⟩) (zpv hE hP hD hS hA (zg_2 cs ad (f_X2_markAcknowledged σ a1) tl) rfl) rfl rfl hl.1 rfl (lv_room (Nat.le_of_ble_eq_true rfl)) dX5_acknowledge_61 ⟨Nat.le_of_ble_eq_true rfl, Nat.le_of_ble_eq_true rfl⟩) hD hS hA (fun H locs hP hD hS => ?_)
          refine lv_isub hx hb dX5_acknowledge_64 ?_
          obtain ⟨e1, e2, e3⟩ := z3 hR.symm
          subst e1; subst e2; subst e3
          refine W.widen (k := 3) (n := 18) (by decide) (by decide) ?_
          refine vx_ret ?_
          exact W.iret (v := ((f_X2_openCount (f_X2_markAcknowledged σ a1) ) - (f_X2_acknowledgedCount (f_X2_markAcknowledged σ a1) ))) hx hb hr (fun t ht hW => ⟨⟨_, (), rfl, ⟨rfl, rfl⟩, by rw [ht]; exact hP, hD⟩, hS.F ht⟩) hS.2.2 dX5_acknowledge_65
        · have hR := hR.trans (if_neg c_4)
          obtain ⟨e1, e2, e3⟩ := z3 hR.symm
          subst e1; subst e2; subst e3
          exact z_thrW (k := 3) (is := 298) (text := "the line is closed, or it is acknowledged") hx hb hfl zf_3.1 zf_3.2.1 zf_3.2.2 (fun w h => hts w (List.mem_cons_of_mem _ (List.mem_append_left _ (List.mem_append_left _ (List.mem_append_right _ h))))) (hts (.classLink RX5 71 "java/lang/IllegalStateException") (by decide +kernel)) (hts (.initialized "java/lang/IllegalStateException") (by decide +kernel)) (hE.2.1 _ (List.mem_of_getElem? (i := 5) rfl)) (hE.2.2.1 (298, "the line is closed, or it is acknowledged") (by decide +kernel)) hown hE hP hD hS (by rw [hl.1, hml]) dX5_acknowledge_31 dX5_acknowledge_34 dX5_acknowledge_35 dX5_acknowledge_38 dX5_acknowledge_41 htab (by decide) (by decide) (by decide) (by decide) hlocks (by decide) rfl (by decide) (by decide)
def f_X5_take (σ : zS)  : Nat × Int32 × zS := (if (f_X5_checkHandOver σ ) = 0 then (if (f_X2_openCount σ ) ≤ (f_X2_acknowledgedCount σ ) then (0, (f_X2_openCount (f_X2_countHandOver (f_X1_changeShift σ (σ 0 6)) ) ), (f_X2_countHandOver (f_X1_changeShift σ (σ 0 6)) )) else (5, 0, σ)) else ((f_X5_checkHandOver σ ), 0, σ))
theorem iX5_take : ∀ w ∈ u_ws RX5 TX5 7, w ∈ wsX5_take := by decide +kernel
set_option maxRecDepth 100000 in
theorem c_X5_take (l : Launch) (hfl : l.stackTraces = false) (G : va_G) (cs : Nat → ClassId) (ad : Nat → Nat) (tl : va_W) (σ : zS)   : zXi l yX5_take wsX5_take { frames := 7, cells := 2, slots := 12, locals := 110 } G cs [.ref (ad 0)] (zw cs ad σ tl) (f_X5_take σ ).1 (f_X5_take σ ).2.1 (zw cs ad (f_X5_take σ ).2.2 tl) 2 12 := by
  intro sz
  refine vx_ofW (cc := cX5_take) (maxL := 1) (ret := (some .int)) (by decide) rfl ?_
  intro p e s m args below meth c s₁ B hml htab hv
  obtain ⟨rfl, hsz, hP, hD0, hE⟩ := hv
  have hx := B.exec
  have hb := B.bytes
  have hr := B.returns
  have hts := atoms_spec (ws := wsX5_take) B.pre
  have hown : s.vm.findClass RX5 = some m.cls := findClass_of_methodNamed B.named
  have hlocks := B.notSynchronized
  subst hsz
  have hD := hD0.self (sz := s.heap.size)
  have hA : ∀ q : Nat, s.heap.size ≤ q → (va_A (zw cs ad σ tl) s.heap.size) q := fun q h => Or.inr h
  generalize va_A (zw cs ad σ tl) s.heap.size = A at hD hE hA ⊢
  have hS : va_S A s.heap s.heap [] := va_S.rf
  have hl := lv_entry ([.ref (ad 0)]) (n := 1) (Nat.le_of_ble_eq_true rfl)
  rw [lg_entry_eq]
  generalize (lg_sl ([.ref (ad 0)]) ++ List.replicate (1 - (lg_sl ([.ref (ad 0)])).length) Slot.unset).toArray = ls at hl ⊢
  have hl : lv_has ls 1 [(0, .ref (ad 0))] := hl
  generalize hR : (f_X5_take σ ) = RV
  have hR := hR.symm
  unfold f_X5_take at hR
  obtain ⟨RVk, RVv, RVs⟩ := RV
  dsimp only
  obtain ⟨H, hH⟩ : ∃ z, z = s.heap := ⟨_, rfl⟩
  obtain ⟨locs, hlocs⟩ : ∃ z : List Loc, z = [] := ⟨_, rfl⟩
  rw [← hH] at hP
  have hS : va_S A s.heap H locs := by rw [hH, hlocs]; exact hS
  show W _ _ _ _ _ _ _ _ _ _ s.heap [] _ _ _ _
  rw [← hH, ← hlocs]
  clear hlocs
  refine lv_aload_n hx hb dX5_take_0 rfl (lv_at hl 0 rfl) ?_
  refine zaxv (vx_runV (As := []) (rest := []) ⟨hx, hb, hml, hown, hts⟩ (c_X5_checkHandOver l hfl G cs ad tl σ   H.size) (cwV 0 hts gX5_take_X5_checkHandOver rfl rfl rfl (by decide +kernel) ⟨Nat.le_of_ble_eq_true rfl, Nat.le_of_ble_eq_true rfl⟩) (zpv hE hP hD hS hA (zg_0 cs ad σ tl) rfl) rfl rfl hl.1 rfl (lv_room (Nat.le_of_ble_eq_true rfl)) dX5_take_1 ⟨Nat.le_of_ble_eq_true rfl, Nat.le_of_ble_eq_true rfl⟩) hD hS hA (fun c_1 ce q9 H locs hP hD hS h1 h2 h3 => ?_) (fun c_1 H locs hP hD hS => ?_)
  · have hR := hR.trans (if_neg c_1)
    obtain ⟨e1, e2, e3⟩ := z3 hR.symm
    subst e1; subst e2; subst e3
    exact z_out htab hlocks h1 h2 h3 c_1 hP hD hS (by decide) (by decide)
  · have hR := hR.trans (if_pos c_1)
    refine lv_aload_n hx hb dX5_take_4 rfl (lv_at hl 0 rfl) ?_
    refine va_get (D := G) (ci := 7) (v := .ref (ad 2)) (C := RX5) (T := TX5) (N := 7) hx hb hts iX5_take hown hE.1 hP 0 (zg_0 cs ad σ tl) rfl 1 (by decide) (hts (.fieldLink RX5 16 "HandoverDeck" "log" "LHandoverDeck$Log;") (by decide +kernel)) (fun _ h9 => h9) rfl dX5_take_5 ?_
    refine zai (va_runV (As := []) (rest := []) ⟨hx, hb, hml, hown, hts⟩ (c_X2_acknowledgedCount l G cs ad tl σ   H.size) (cwV 0 hts gX5_take_X2_acknowledgedCount rfl rfl rfl (by decide +kernel) ⟨Nat.le_of_ble_eq_true rfl, Nat.le_of_ble_eq_true rfl⟩) (zpv hE hP hD hS hA (zg_2 cs ad σ tl) rfl) rfl rfl hl.1 rfl (lv_room (Nat.le_of_ble_eq_true rfl)) dX5_take_8 ⟨Nat.le_of_ble_eq_true rfl, Nat.le_of_ble_eq_true rfl⟩) hD hS hA (fun H locs hP hD hS => ?_)
    refine lv_aload_n hx hb dX5_take_11 rfl (lv_at hl 0 rfl) ?_
    refine va_get (D := G) (ci := 7) (v := .ref (ad 2)) (C := RX5) (T := TX5) (N := 7) hx hb hts iX5_take hown hE.1 hP 0 (zg_0 cs ad σ tl) rfl 1 (by decide) (hts (.fieldLink RX5 16 "HandoverDeck" "log" "LHandoverDeck$Log;") (by decide +kernel)) (fun _ h9 => h9) rfl dX5_take_12 ?_
    refine zai (va_runV (As := []) (rest := [.int (f_X2_acknowledgedCount σ )]) ⟨hx, hb, hml, hown, hts⟩ (c_X2_openCount l G cs ad tl σ   H.size) (cwV 0 hts gX5_take_X2_openCount rfl rfl rfl (by decide +kernel) ⟨Nat.le_of_ble_eq_true rfl, Nat.le_of_ble_eq_true rfl⟩) (zpv hE hP hD hS hA (zg_2 cs ad σ tl) rfl) rfl rfl hl.1 rfl (lv_room (Nat.le_of_ble_eq_true rfl)) dX5_take_15 ⟨Nat.le_of_ble_eq_true rfl, Nat.le_of_ble_eq_true rfl⟩) hD hS hA (fun H locs hP hD hS => ?_)
    refine lv_icmp_ge (tgt := 32) hx hb dX5_take_18 (by decide) (fun c_2 => ?_) (fun c_2 => ?_)
    · have hR := hR.trans (if_pos c_2)
      refine lv_aload_n hx hb dX5_take_32 rfl (lv_at hl 0 rfl) ?_
      refine va_get (D := G) (ci := 7) (v := .ref (ad 27)) (C := RX5) (T := TX5) (N := 7) hx hb hts iX5_take hown hE.1 hP 0 (zg_0 cs ad σ tl) rfl 5 (by decide) (hts (.fieldLink RX5 44 "HandoverDeck" "roster" "LHandoverDeck$CrewRoster;") (by decide +kernel)) (fun _ h9 => h9) rfl dX5_take_33 ?_
      refine lv_aload_n hx hb dX5_take_36 rfl (lv_at hl 0 rfl) ?_
      refine va_get (D := G) (ci := 7) (v := .int (σ 0 6)) (C := RX5) (T := TX5) (N := 7) hx hb hts iX5_take hown hE.1 hP 0 (zg_0 cs ad σ tl) rfl 6 (by decide) (hts (.fieldLink RX5 81 "HandoverDeck" "now" "I") (by decide +kernel)) (fun _ h9 => h9) rfl dX5_take_37 ?_
      refine zav (va_runV (As := [.int (σ 0 6)]) (rest := []) ⟨hx, hb, hml, hown, hts⟩ (c_X1_changeShift l G cs ad tl σ (σ 0 6)  H.size) (cwV 1 hts gX5_take_X1_changeShift rfl rfl rfl (by decide +kernel) ⟨Nat.le_of_ble_eq_true rfl, Nat.le_of_ble_eq_true rfl⟩) (zpv hE hP hD hS hA (zg_27 cs ad σ tl) rfl) rfl rfl hl.1 rfl (lv_room (Nat.le_of_ble_eq_true rfl)) dX5_take_40 ⟨Nat.le_of_ble_eq_true rfl, Nat.le_of_ble_eq_true rfl⟩) hD hS hA (fun H locs hP hD hS => ?_)
      refine lv_aload_n hx hb dX5_take_43 rfl (lv_at hl 0 rfl) ?_
      refine va_get (D := G) (ci := 7) (v := .ref (ad 2)) (C := RX5) (T := TX5) (N := 7) hx hb hts iX5_take hown hE.1 hP 0 (zg_0 cs ad (f_X1_changeShift σ (σ 0 6)) tl) rfl 1 (by decide) (hts (.fieldLink RX5 16 "HandoverDeck" "log" "LHandoverDeck$Log;") (by decide +kernel)) (fun _ h9 => h9) rfl dX5_take_44 ?_
      refine zav (va_runV (As := []) (rest := []) ⟨hx, hb, hml, hown, hts⟩ (c_X2_countHandOver l G cs ad tl (f_X1_changeShift σ (σ 0 6))   H.size) (cwV 0 hts gX5_take_X2_countHandOver rfl rfl rfl (by decide +kernel) ⟨Nat.le_of_ble_eq_true rfl, Nat.le_of_ble_eq_true rfl⟩) (zpv hE hP hD hS hA (zg_2 cs ad (f_X1_changeShift σ (σ 0 6)) tl) rfl) rfl rfl hl.1 rfl (lv_room (Nat.le_of_ble_eq_true rfl)) dX5_take_47 ⟨Nat.le_of_ble_eq_true rfl, Nat.le_of_ble_eq_true rfl⟩) hD hS hA (fun H locs hP hD hS => ?_)
      refine lv_aload_n hx hb dX5_take_50 rfl (lv_at hl 0 rfl) ?_
      refine va_get (D := G) (ci := 7) (v := .ref (ad 2)) (C := RX5) (T := TX5) (N := 7) hx hb hts iX5_take hown hE.1 hP 0 (zg_0 cs ad (f_X2_countHandOver (f_X1_changeShift σ (σ 0 6)) ) tl) rfl 1 (by decide) (hts (.fieldLink RX5 16 "HandoverDeck" "log" "LHandoverDeck$Log;") (by decide +kernel)) (fun _ h9 => h9) rfl dX5_take_51 ?_
      refine zai (va_runV (As := []) (rest := []) ⟨hx, hb, hml, hown, hts⟩ (c_X2_openCount l G cs ad tl (f_X2_countHandOver (f_X1_changeShift σ (σ 0 6)) )   H.size) (cwV 0 hts gX5_take_X2_openCount rfl rfl rfl (by decide +kernel) ⟨Nat.le_of_ble_eq_true rfl, Nat.le_of_ble_eq_true rfl⟩) (zpv hE hP hD hS hA (zg_2 cs ad (f_X2_countHandOver (f_X1_changeShift σ (σ 0 6)) ) tl) rfl) rfl rfl hl.1 rfl (lv_room (Nat.le_of_ble_eq_true rfl)) dX5_take_54 ⟨Nat.le_of_ble_eq_true rfl, Nat.le_of_ble_eq_true rfl⟩) hD hS hA (fun H locs hP hD hS => ?_)
      obtain ⟨e1, e2, e3⟩ := z3 hR.symm
      subst e1; subst e2; subst e3
      refine W.widen (k := 2) (n := 12) (by decide) (by decide) ?_
      refine vx_ret ?_
      exact W.iret (v := (f_X2_openCount (f_X2_countHandOver (f_X1_changeShift σ (σ 0 6)) ) )) hx hb hr (fun t ht hW => ⟨⟨_, (), rfl, ⟨rfl, rfl⟩, by rw [ht]; exact hP, hD⟩, hS.F ht⟩) hS.2.2 dX5_take_57
    · have hR := hR.trans (if_neg c_2)
      obtain ⟨e1, e2, e3⟩ := z3 hR.symm
      subst e1; subst e2; subst e3
      exact z_thrW (k := 5) (is := 306) (text := "an open line is not acknowledged") hx hb hfl zf_5.1 zf_5.2.1 zf_5.2.2 (fun w h => hts w (List.mem_cons_of_mem _ (List.mem_append_left _ (List.mem_append_left _ (List.mem_append_right _ h))))) (hts (.classLink RX5 208 "java/lang/UnsupportedOperationException") (by decide +kernel)) (hts (.initialized "java/lang/UnsupportedOperationException") (by decide +kernel)) (hE.2.1 _ (List.mem_of_getElem? (i := 7) rfl)) (hE.2.2.1 (306, "an open line is not acknowledged") (by decide +kernel)) hown hE hP hD hS (by rw [hl.1, hml]) dX5_take_21 dX5_take_24 dX5_take_25 dX5_take_28 dX5_take_31 htab (by decide) (by decide) (by decide) (by decide) hlocks (by decide) rfl (by decide) (by decide)
def f_X5_cancel (σ : zS)  : Nat × Int32 × zS := (if (f_X5_checkHandOver σ ) = 0 then (0, (f_X2_acknowledgedCount (f_X1_stopHandOver σ ) ), (f_X1_stopHandOver σ )) else ((f_X5_checkHandOver σ ), 0, σ))
theorem iX5_cancel : ∀ w ∈ u_ws RX5 TX5 7, w ∈ wsX5_cancel := by decide +kernel
set_option maxRecDepth 100000 in
theorem c_X5_cancel (l : Launch) (hfl : l.stackTraces = false) (G : va_G) (cs : Nat → ClassId) (ad : Nat → Nat) (tl : va_W) (σ : zS)   : zXi l yX5_cancel wsX5_cancel { frames := 7, cells := 1, slots := 6, locals := 110 } G cs [.ref (ad 0)] (zw cs ad σ tl) (f_X5_cancel σ ).1 (f_X5_cancel σ ).2.1 (zw cs ad (f_X5_cancel σ ).2.2 tl) 1 6 := by
  intro sz
  refine vx_ofW (cc := cX5_cancel) (maxL := 1) (ret := (some .int)) (by decide) rfl ?_
  intro p e s m args below meth c s₁ B hml htab hv
  obtain ⟨rfl, hsz, hP, hD0, hE⟩ := hv
  have hx := B.exec
  have hb := B.bytes
  have hr := B.returns
  have hts := atoms_spec (ws := wsX5_cancel) B.pre
  have hown : s.vm.findClass RX5 = some m.cls := findClass_of_methodNamed B.named
  have hlocks := B.notSynchronized
  subst hsz
  have hD := hD0.self (sz := s.heap.size)
  have hA : ∀ q : Nat, s.heap.size ≤ q → (va_A (zw cs ad σ tl) s.heap.size) q := fun q h => Or.inr h
  generalize va_A (zw cs ad σ tl) s.heap.size = A at hD hE hA ⊢
  have hS : va_S A s.heap s.heap [] := va_S.rf
  have hl := lv_entry ([.ref (ad 0)]) (n := 1) (Nat.le_of_ble_eq_true rfl)
  rw [lg_entry_eq]
  generalize (lg_sl ([.ref (ad 0)]) ++ List.replicate (1 - (lg_sl ([.ref (ad 0)])).length) Slot.unset).toArray = ls at hl ⊢
  have hl : lv_has ls 1 [(0, .ref (ad 0))] := hl
  generalize hR : (f_X5_cancel σ ) = RV
  have hR := hR.symm
  unfold f_X5_cancel at hR
  obtain ⟨RVk, RVv, RVs⟩ := RV
  dsimp only
  obtain ⟨H, hH⟩ : ∃ z, z = s.heap := ⟨_, rfl⟩
  obtain ⟨locs, hlocs⟩ : ∃ z : List Loc, z = [] := ⟨_, rfl⟩
  rw [← hH] at hP
  have hS : va_S A s.heap H locs := by rw [hH, hlocs]; exact hS
  show W _ _ _ _ _ _ _ _ _ _ s.heap [] _ _ _ _
  rw [← hH, ← hlocs]
  clear hlocs
  refine lv_aload_n hx hb dX5_cancel_0 rfl (lv_at hl 0 rfl) ?_
  refine zaxv (vx_runV (As := []) (rest := []) ⟨hx, hb, hml, hown, hts⟩ (c_X5_checkHandOver l hfl G cs ad tl σ   H.size) (cwV 0 hts gX5_cancel_X5_checkHandOver rfl rfl rfl (by decide +kernel) ⟨Nat.le_of_ble_eq_true rfl, Nat.le_of_ble_eq_true rfl⟩) (zpv hE hP hD hS hA (zg_0 cs ad σ tl) rfl) rfl rfl hl.1 rfl (lv_room (Nat.le_of_ble_eq_true rfl)) dX5_cancel_1 ⟨Nat.le_of_ble_eq_true rfl, Nat.le_of_ble_eq_true rfl⟩) hD hS hA (fun c_1 ce q9 H locs hP hD hS h1 h2 h3 => ?_) (fun c_1 H locs hP hD hS => ?_)
  · have hR := hR.trans (if_neg c_1)
    obtain ⟨e1, e2, e3⟩ := z3 hR.symm
    subst e1; subst e2; subst e3
    exact z_out htab hlocks h1 h2 h3 c_1 hP hD hS (by decide) (by decide)
  · have hR := hR.trans (if_pos c_1)
    refine lv_aload_n hx hb dX5_cancel_4 rfl (lv_at hl 0 rfl) ?_
    refine va_get (D := G) (ci := 7) (v := .ref (ad 27)) (C := RX5) (T := TX5) (N := 7) hx hb hts iX5_cancel hown hE.1 hP 0 (zg_0 cs ad σ tl) rfl 5 (by decide) (hts (.fieldLink RX5 44 "HandoverDeck" "roster" "LHandoverDeck$CrewRoster;") (by decide +kernel)) (fun _ h9 => h9) rfl dX5_cancel_5 ?_
    refine zav (va_runV (As := []) (rest := []) ⟨hx, hb, hml, hown, hts⟩ (c_X1_stopHandOver l G cs ad tl σ   H.size) (cwV 0 hts gX5_cancel_X1_stopHandOver rfl rfl rfl (by decide +kernel) ⟨Nat.le_of_ble_eq_true rfl, Nat.le_of_ble_eq_true rfl⟩) (zpv hE hP hD hS hA (zg_27 cs ad σ tl) rfl) rfl rfl hl.1 rfl (lv_room (Nat.le_of_ble_eq_true rfl)) dX5_cancel_8 ⟨Nat.le_of_ble_eq_true rfl, Nat.le_of_ble_eq_true rfl⟩) hD hS hA (fun H locs hP hD hS => ?_)
    refine lv_aload_n hx hb dX5_cancel_11 rfl (lv_at hl 0 rfl) ?_
    refine va_get (D := G) (ci := 7) (v := .ref (ad 2)) (C := RX5) (T := TX5) (N := 7) hx hb hts iX5_cancel hown hE.1 hP 0 (zg_0 cs ad (f_X1_stopHandOver σ ) tl) rfl 1 (by decide) (hts (.fieldLink RX5 16 "HandoverDeck" "log" "LHandoverDeck$Log;") (by decide +kernel)) (fun _ h9 => h9) rfl dX5_cancel_12 ?_
    refine zai (va_runV (As := []) (rest := []) ⟨hx, hb, hml, hown, hts⟩ (c_X2_acknowledgedCount l G cs ad tl (f_X1_stopHandOver σ )   H.size) (cwV 0 hts gX5_cancel_X2_acknowledgedCount rfl rfl rfl (by decide +kernel) ⟨Nat.le_of_ble_eq_true rfl, Nat.le_of_ble_eq_true rfl⟩) (zpv hE hP hD hS hA (zg_2 cs ad (f_X1_stopHandOver σ ) tl) rfl) rfl rfl hl.1 rfl (lv_room (Nat.le_of_ble_eq_true rfl)) dX5_cancel_15 ⟨Nat.le_of_ble_eq_true rfl, Nat.le_of_ble_eq_true rfl⟩) hD hS hA (fun H locs hP hD hS => ?_)
    obtain ⟨e1, e2, e3⟩ := z3 hR.symm
    subst e1; subst e2; subst e3
    refine W.widen (k := 1) (n := 6) (by decide) (by decide) ?_
    refine vx_ret ?_
    exact W.iret (v := (f_X2_acknowledgedCount (f_X1_stopHandOver σ ) )) hx hb hr (fun t ht hW => ⟨⟨_, (), rfl, ⟨rfl, rfl⟩, by rw [ht]; exact hP, hD⟩, hS.F ht⟩) hS.2.2 dX5_cancel_18
def f_X5_pass (σ : zS) (a1 : Int32) : Nat × Int32 × zS := (if a1 < 1 then (2, 0, σ) else (if a1 ≤ 48 then (0, ((f_X0_countOnShelf σ (σ 0 6)) - (f_X0_countOnShelf (zs σ 0 6 ((σ 0 6) + a1)) ((σ 0 6) + a1))), (zs σ 0 6 ((σ 0 6) + a1))) else (2, 0, σ)))
theorem iX5_pass : ∀ w ∈ u_ws RX5 TX5 7, w ∈ wsX5_pass := by decide +kernel
set_option maxRecDepth 100000 in
theorem c_X5_pass (l : Launch) (hfl : l.stackTraces = false) (G : va_G) (cs : Nat → ClassId) (ad : Nat → Nat) (tl : va_W) (σ : zS) (a1 : Int32)  : zXi l yX5_pass wsX5_pass { frames := 6, cells := 1, slots := 6, locals := 90 } G cs [.ref (ad 0), .int a1] (zw cs ad σ tl) (f_X5_pass σ a1).1 (f_X5_pass σ a1).2.1 (zw cs ad (f_X5_pass σ a1).2.2 tl) 1 6 := by
  intro sz
  refine vx_ofW (cc := cX5_pass) (maxL := 3) (ret := (some .int)) (by decide) rfl ?_
  intro p e s m args below meth c s₁ B hml htab hv
  obtain ⟨rfl, hsz, hP, hD0, hE⟩ := hv
  have hx := B.exec
  have hb := B.bytes
  have hr := B.returns
  have hts := atoms_spec (ws := wsX5_pass) B.pre
  have hown : s.vm.findClass RX5 = some m.cls := findClass_of_methodNamed B.named
  have hlocks := B.notSynchronized
  subst hsz
  have hD := hD0.self (sz := s.heap.size)
  have hA : ∀ q : Nat, s.heap.size ≤ q → (va_A (zw cs ad σ tl) s.heap.size) q := fun q h => Or.inr h
  generalize va_A (zw cs ad σ tl) s.heap.size = A at hD hE hA ⊢
  have hS : va_S A s.heap s.heap [] := va_S.rf
  have hl := lv_entry ([.ref (ad 0), .int a1]) (n := 3) (Nat.le_of_ble_eq_true rfl)
  rw [lg_entry_eq]
  generalize (lg_sl ([.ref (ad 0), .int a1]) ++ List.replicate (3 - (lg_sl ([.ref (ad 0), .int a1])).length) Slot.unset).toArray = ls at hl ⊢
  have hl : lv_has ls 3 [(0, .ref (ad 0)), (1, .int a1)] := hl
  generalize hR : (f_X5_pass σ a1) = RV
  have hR := hR.symm
  unfold f_X5_pass at hR
  obtain ⟨RVk, RVv, RVs⟩ := RV
  dsimp only
  obtain ⟨H, hH⟩ : ∃ z, z = s.heap := ⟨_, rfl⟩
  obtain ⟨locs, hlocs⟩ : ∃ z : List Loc, z = [] := ⟨_, rfl⟩
  rw [← hH] at hP
  have hS : va_S A s.heap H locs := by rw [hH, hlocs]; exact hS
  show W _ _ _ _ _ _ _ _ _ _ s.heap [] _ _ _ _
  rw [← hH, ← hlocs]
  clear hlocs
  refine lv_iload_n hx hb dX5_pass_0 rfl (lv_at hl 1 rfl) ?_
  refine lv_iconst (v := 1) hx hb dX5_pass_1 (by decide) ?_
  refine lv_icmp_lt (tgt := 11) hx hb dX5_pass_2 (by decide) (fun c_1 => ?_) (fun c_1 => ?_)
  · have hR := hR.trans (if_pos c_1)
    obtain ⟨e1, e2, e3⟩ := z3 hR.symm
    subst e1; subst e2; subst e3
    exact z_thr (k := 2) (is := 107) (text := "no such number of hours") hx hb hfl zf_2.1 zf_2.2.1 zf_2.2.2 (fun w h => hts w (List.mem_cons_of_mem _ (List.mem_append_left _ (List.mem_append_right _ h)))) (hts (.classLink RX5 105 "java/lang/IllegalArgumentException") (by decide +kernel)) (hts (.initialized "java/lang/IllegalArgumentException") (by decide +kernel)) (hE.2.1 _ (List.mem_of_getElem? (i := 4) rfl)) (hE.2.2.1 (107, "no such number of hours") (by decide +kernel)) hown hE hP hD hS (by rw [hl.1, hml]) dX5_pass_11 dX5_pass_14 dX5_pass_15 dX5_pass_17 dX5_pass_20 htab (by decide) (by decide) (by decide) (by decide) hlocks (by decide) rfl (by decide) (by decide)
  · have hR := hR.trans (if_neg c_1)
    refine lv_iload_n hx hb dX5_pass_5 rfl (lv_at hl 1 rfl) ?_
    refine lv_bipush (v := 48) hx hb dX5_pass_6 (by decide) ?_
    refine lv_icmp_le (tgt := 21) hx hb dX5_pass_8 (by decide) (fun c_2 => ?_) (fun c_2 => ?_)
    · have hR := hR.trans (if_pos c_2)
      refine lv_aload_n hx hb dX5_pass_21 rfl (lv_at hl 0 rfl) ?_
      refine va_get (D := G) (ci := 7) (v := .ref (ad 9)) (C := RX5) (T := TX5) (N := 7) hx hb hts iX5_pass hown hE.1 hP 0 (zg_0 cs ad σ tl) rfl 2 (by decide) (hts (.fieldLink RX5 23 "HandoverDeck" "board" "LHandoverDeck$AlarmBoard;") (by decide +kernel)) (fun _ h9 => h9) rfl dX5_pass_22 ?_
      refine lv_aload_n hx hb dX5_pass_25 rfl (lv_at hl 0 rfl) ?_
      refine va_get (D := G) (ci := 7) (v := .int (σ 0 6)) (C := RX5) (T := TX5) (N := 7) hx hb hts iX5_pass hown hE.1 hP 0 (zg_0 cs ad σ tl) rfl 6 (by decide) (hts (.fieldLink RX5 81 "HandoverDeck" "now" "I") (by decide +kernel)) (fun _ h9 => h9) rfl dX5_pass_26 ?_
      refine zai (va_runV (As := [.int (σ 0 6)]) (rest := []) ⟨hx, hb, hml, hown, hts⟩ (c_X0_countOnShelf l G cs ad tl σ (σ 0 6)  H.size) (cwV 1 hts gX5_pass_X0_countOnShelf rfl rfl rfl (by decide +kernel) ⟨Nat.le_of_ble_eq_true rfl, Nat.le_of_ble_eq_true rfl⟩) (zpv hE hP hD hS hA (zg_9 cs ad σ tl) rfl) rfl rfl hl.1 rfl (lv_room (Nat.le_of_ble_eq_true rfl)) dX5_pass_29 ⟨Nat.le_of_ble_eq_true rfl, Nat.le_of_ble_eq_true rfl⟩) hD hS hA (fun H locs hP hD hS => ?_)
      refine lv_istore_n (lv' := [(2, .int (f_X0_countOnShelf σ (σ 0 6))), (0, .ref (ad 0)), (1, .int a1)]) hx hb dX5_pass_32 rfl hl (by decide) rfl (fun ls hl => ?_)
      refine lv_aload_n hx hb dX5_pass_33 rfl (lv_at hl 1 rfl) ?_
      refine lv_dup hx hb dX5_pass_34 rfl ?_
      refine va_get (D := G) (ci := 7) (v := .int (σ 0 6)) (C := RX5) (T := TX5) (N := 7) hx hb hts iX5_pass hown hE.1 hP 0 (zg_0 cs ad σ tl) rfl 6 (by decide) (hts (.fieldLink RX5 81 "HandoverDeck" "now" "I") (by decide +kernel)) (fun _ h9 => h9) rfl dX5_pass_35 ?_
      refine lv_iload_n hx hb dX5_pass_38 rfl (lv_at hl 2 rfl) ?_
      refine lv_iadd hx hb dX5_pass_39 ?_
      refine va_put (D := G) (ci := 7) (v := .int ((σ 0 6) + a1)) (ty := .int) (C := RX5) (T := TX5) (N := 7) hx hb hts iX5_pass tyX5 tyX5_ok nmX5 hown hE.1 hP hD hS 0 (zg_0 cs ad σ tl) rfl 6 (by decide) (hts (.fieldLink RX5 81 "HandoverDeck" "now" "I") (by decide +kernel)) (fun _ h9 => h9) rfl (by decide +kernel) rfl rfl (Nat.le_of_ble_eq_true rfl) dX5_pass_40 (fun H locs hP hD hS => ?_)
      rw [zb_0_6 cs ad σ tl] at hP hD
      refine lv_iload_n hx hb dX5_pass_43 rfl (lv_at hl 0 rfl) ?_
      refine lv_aload_n hx hb dX5_pass_44 rfl (lv_at hl 1 rfl) ?_
      refine va_get (D := G) (ci := 7) (v := .ref (ad 9)) (C := RX5) (T := TX5) (N := 7) hx hb hts iX5_pass hown hE.1 hP 0 (zg_0 cs ad (zs σ 0 6 ((σ 0 6) + a1)) tl) rfl 2 (by decide) (hts (.fieldLink RX5 23 "HandoverDeck" "board" "LHandoverDeck$AlarmBoard;") (by decide +kernel)) (fun _ h9 => h9) rfl dX5_pass_45 ?_
      refine lv_aload_n hx hb dX5_pass_48 rfl (lv_at hl 1 rfl) ?_
      refine va_get (D := G) (ci := 7) (v := .int ((σ 0 6) + a1)) (C := RX5) (T := TX5) (N := 7) hx hb hts iX5_pass hown hE.1 hP 0 (zg_0 cs ad (zs σ 0 6 ((σ 0 6) + a1)) tl) rfl 6 (by decide) (hts (.fieldLink RX5 81 "HandoverDeck" "now" "I") (by decide +kernel)) (fun _ h9 => h9) rfl dX5_pass_49 ?_
      refine zai (va_runV (As := [.int ((σ 0 6) + a1)]) (rest := [.int (f_X0_countOnShelf σ (σ 0 6))]) ⟨hx, hb, hml, hown, hts⟩ (c_X0_countOnShelf l G cs ad tl (zs σ 0 6 ((σ 0 6) + a1)) ((σ 0 6) + a1)  H.size) (cwV 1 hts gX5_pass_X0_countOnShelf rfl rfl rfl (by decide +kernel) ⟨Nat.le_of_ble_eq_true rfl, Nat.le_of_ble_eq_true rfl⟩) (zpv hE hP hD hS hA (zg_9 cs ad (zs σ 0 6 ((σ 0 6) + a1)) tl) rfl) rfl rfl hl.1 rfl (lv_room (Nat.le_of_ble_eq_true rfl)) dX5_pass_52 ⟨Nat.le_of_ble_eq_true rfl, Nat.le_of_ble_eq_true rfl⟩) hD hS hA (fun H locs hP hD hS => ?_)
      refine lv_isub hx hb dX5_pass_55 ?_
      obtain ⟨e1, e2, e3⟩ := z3 hR.symm
      subst e1; subst e2; subst e3
      refine W.widen (k := 1) (n := 6) (by decide) (by decide) ?_
      refine vx_ret ?_
      exact W.iret (v := ((f_X0_countOnShelf σ (σ 0 6)) - (f_X0_countOnShelf (zs σ 0 6 ((σ 0 6) + a1)) ((σ 0 6) + a1)))) hx hb hr (fun t ht hW => ⟨⟨_, (), rfl, ⟨rfl, rfl⟩, by rw [ht]; exact hP, hD⟩, hS.F ht⟩) hS.2.2 dX5_pass_56
    · have hR := hR.trans (if_neg c_2)
      obtain ⟨e1, e2, e3⟩ := z3 hR.symm
      subst e1; subst e2; subst e3
      exact z_thr (k := 2) (is := 107) (text := "no such number of hours") hx hb hfl zf_2.1 zf_2.2.1 zf_2.2.2 (fun w h => hts w (List.mem_cons_of_mem _ (List.mem_append_left _ (List.mem_append_right _ h)))) (hts (.classLink RX5 105 "java/lang/IllegalArgumentException") (by decide +kernel)) (hts (.initialized "java/lang/IllegalArgumentException") (by decide +kernel)) (hE.2.1 _ (List.mem_of_getElem? (i := 4) rfl)) (hE.2.2.1 (107, "no such number of hours") (by decide +kernel)) hown hE hP hD hS (by rw [hl.1, hml]) dX5_pass_11 dX5_pass_14 dX5_pass_15 dX5_pass_17 dX5_pass_20 htab (by decide) (by decide) (by decide) (by decide) hlocks (by decide) rfl (by decide) (by decide)
def f_X5_hour (σ : zS)  : Int32 := (σ 0 6)
theorem iX5_hour : ∀ w ∈ u_ws RX5 TX5 7, w ∈ wsX5_hour := by decide +kernel
set_option maxRecDepth 100000 in
theorem c_X5_hour (l : Launch) (G : va_G) (cs : Nat → ClassId) (ad : Nat → Nat) (tl : va_W) (σ : zS)   : zMi l yX5_hour wsX5_hour { frames := 0, cells := 0, slots := 0, locals := 0 } G cs [.ref (ad 0)] (zw cs ad σ tl) (f_X5_hour σ ) (zw cs ad σ tl) 0 0 := by
  intro sz
  refine Met.ofW (cc := cX5_hour) (maxL := 1) (ret := (some .int)) (by decide) rfl ?_
  intro p e s m args below meth c s₁ B hml hv
  obtain ⟨rfl, hsz, hP, hD0, hE⟩ := hv
  have hx := B.exec
  have hb := B.bytes
  have hr := B.returns
  have hts := atoms_spec (ws := wsX5_hour) B.pre
  have hown : s.vm.findClass RX5 = some m.cls := findClass_of_methodNamed B.named
  have hlocks := B.notSynchronized
  subst hsz
  have hD := hD0.self (sz := s.heap.size)
  have hA : ∀ q : Nat, s.heap.size ≤ q → (va_A (zw cs ad σ tl) s.heap.size) q := fun q h => Or.inr h
  generalize va_A (zw cs ad σ tl) s.heap.size = A at hD hE hA ⊢
  have hS : va_S A s.heap s.heap [] := va_S.rf
  have hl := lv_entry ([.ref (ad 0)]) (n := 1) (Nat.le_of_ble_eq_true rfl)
  rw [lg_entry_eq]
  generalize (lg_sl ([.ref (ad 0)]) ++ List.replicate (1 - (lg_sl ([.ref (ad 0)])).length) Slot.unset).toArray = ls at hl ⊢
  have hl : lv_has ls 1 [(0, .ref (ad 0))] := hl
  generalize hR : (f_X5_hour σ ) = RV
  have hR := hR.symm
  unfold f_X5_hour at hR
  obtain ⟨H, hH⟩ : ∃ z, z = s.heap := ⟨_, rfl⟩
  obtain ⟨locs, hlocs⟩ : ∃ z : List Loc, z = [] := ⟨_, rfl⟩
  rw [← hH] at hP
  have hS : va_S A s.heap H locs := by rw [hH, hlocs]; exact hS
  show W _ _ _ _ _ _ _ _ _ _ s.heap [] _ _ _ _
  rw [← hH, ← hlocs]
  clear hlocs
  refine lv_aload_n hx hb dX5_hour_0 rfl (lv_at hl 0 rfl) ?_
  refine va_get (D := G) (ci := 7) (v := .int (σ 0 6)) (C := RX5) (T := TX5) (N := 7) hx hb hts iX5_hour hown hE.1 hP 0 (zg_0 cs ad σ tl) rfl 6 (by decide) (hts (.fieldLink RX5 81 "HandoverDeck" "now" "I") (by decide +kernel)) (fun _ h9 => h9) rfl dX5_hour_1 ?_
  have hR := hR.symm
  subst hR
  exact W.iret (v := (σ 0 6)) hx hb hr (fun t ht hW => ⟨⟨_, (), rfl, rfl, by rw [ht]; exact hP, hD⟩, hS.F ht⟩) hS.2.2 dX5_hour_4
def f_X5_onDuty (σ : zS)  : Nat × Int32 × zS := (if (f_X1_crewOnDuty σ ) = (-1) then (4, 0, σ) else (0, (f_X1_crewOnDuty σ ), σ))
theorem iX5_onDuty : ∀ w ∈ u_ws RX5 TX5 7, w ∈ wsX5_onDuty := by decide +kernel
set_option maxRecDepth 100000 in
theorem c_X5_onDuty (l : Launch) (hfl : l.stackTraces = false) (G : va_G) (cs : Nat → ClassId) (ad : Nat → Nat) (tl : va_W) (σ : zS)   : zXi l yX5_onDuty wsX5_onDuty { frames := 6, cells := 1, slots := 6, locals := 90 } G cs [.ref (ad 0)] (zw cs ad σ tl) (f_X5_onDuty σ ).1 (f_X5_onDuty σ ).2.1 (zw cs ad (f_X5_onDuty σ ).2.2 tl) 1 6 := by
  intro sz
  refine vx_ofW (cc := cX5_onDuty) (maxL := 2) (ret := (some .int)) (by decide) rfl ?_
  intro p e s m args below meth c s₁ B hml htab hv
  obtain ⟨rfl, hsz, hP, hD0, hE⟩ := hv
  have hx := B.exec
  have hb := B.bytes
  have hr := B.returns
  have hts := atoms_spec (ws := wsX5_onDuty) B.pre
  have hown : s.vm.findClass RX5 = some m.cls := findClass_of_methodNamed B.named
  have hlocks := B.notSynchronized
  subst hsz
  have hD := hD0.self (sz := s.heap.size)
  have hA : ∀ q : Nat, s.heap.size ≤ q → (va_A (zw cs ad σ tl) s.heap.size) q := fun q h => Or.inr h
  generalize va_A (zw cs ad σ tl) s.heap.size = A at hD hE hA ⊢
  have hS : va_S A s.heap s.heap [] := va_S.rf
  have hl := lv_entry ([.ref (ad 0)]) (n := 2) (Nat.le_of_ble_eq_true rfl)
  rw [lg_entry_eq]
  generalize (lg_sl ([.ref (ad 0)]) ++ List.replicate (2 - (lg_sl ([.ref (ad 0)])).length) Slot.unset).toArray = ls at hl ⊢
  have hl : lv_has ls 2 [(0, .ref (ad 0))] := hl
  generalize hR : (f_X5_onDuty σ ) = RV
  have hR := hR.symm
  unfold f_X5_onDuty at hR
  obtain ⟨RVk, RVv, RVs⟩ := RV
  dsimp only
  obtain ⟨H, hH⟩ : ∃ z, z = s.heap := ⟨_, rfl⟩
  obtain ⟨locs, hlocs⟩ : ∃ z : List Loc, z = [] := ⟨_, rfl⟩
  rw [← hH] at hP
  have hS : va_S A s.heap H locs := by rw [hH, hlocs]; exact hS
  show W _ _ _ _ _ _ _ _ _ _ s.heap [] _ _ _ _
  rw [← hH, ← hlocs]
  clear hlocs
  refine lv_aload_n hx hb dX5_onDuty_0 rfl (lv_at hl 0 rfl) ?_
  refine va_get (D := G) (ci := 7) (v := .ref (ad 27)) (C := RX5) (T := TX5) (N := 7) hx hb hts iX5_onDuty hown hE.1 hP 0 (zg_0 cs ad σ tl) rfl 5 (by decide) (hts (.fieldLink RX5 44 "HandoverDeck" "roster" "LHandoverDeck$CrewRoster;") (by decide +kernel)) (fun _ h9 => h9) rfl dX5_onDuty_1 ?_
  refine zai (va_runV (As := []) (rest := []) ⟨hx, hb, hml, hown, hts⟩ (c_X1_crewOnDuty l G cs ad tl σ   H.size) (cwV 0 hts gX5_onDuty_X1_crewOnDuty rfl rfl rfl (by decide +kernel) ⟨Nat.le_of_ble_eq_true rfl, Nat.le_of_ble_eq_true rfl⟩) (zpv hE hP hD hS hA (zg_27 cs ad σ tl) rfl) rfl rfl hl.1 rfl (lv_room (Nat.le_of_ble_eq_true rfl)) dX5_onDuty_4 ⟨Nat.le_of_ble_eq_true rfl, Nat.le_of_ble_eq_true rfl⟩) hD hS hA (fun H locs hP hD hS => ?_)
  refine lv_istore_n (lv' := [(1, .int (f_X1_crewOnDuty σ )), (0, .ref (ad 0))]) hx hb dX5_onDuty_7 rfl hl (by decide) rfl (fun ls hl => ?_)
  refine lv_iload_n hx hb dX5_onDuty_8 rfl (lv_at hl 0 rfl) ?_
  refine lv_iconst (v := (-1)) hx hb dX5_onDuty_9 (by decide) ?_
  refine lv_icmp_ne (tgt := 24) hx hb dX5_onDuty_10 (by decide) (fun c_1 => ?_) (fun c_1 => ?_)
  · have hR := hR.trans (if_neg c_1)
    refine lv_iload_n hx hb dX5_onDuty_24 rfl (lv_at hl 0 rfl) ?_
    obtain ⟨e1, e2, e3⟩ := z3 hR.symm
    subst e1; subst e2; subst e3
    refine W.widen (k := 1) (n := 6) (by decide) (by decide) ?_
    refine vx_ret ?_
    exact W.iret (v := (f_X1_crewOnDuty σ )) hx hb hr (fun t ht hW => ⟨⟨_, (), rfl, ⟨rfl, rfl⟩, by rw [ht]; exact hP, hD⟩, hS.F ht⟩) hS.2.2 dX5_onDuty_25
  · have hR := hR.trans (if_pos c_1)
    obtain ⟨e1, e2, e3⟩ := z3 hR.symm
    subst e1; subst e2; subst e3
    exact z_thrNW (k := 4) (is := 320) (text := "no crew is on duty") hx hb hfl zf_4.1 zf_4.2.1 zf_4.2.2 (fun w h => hts w (List.mem_cons_of_mem _ (List.mem_append_right _ h))) (hts (.classLink RX5 125 "java/util/NoSuchElementException") (by decide +kernel)) (hts (.initialized "java/util/NoSuchElementException") (by decide +kernel)) (hE.2.1 _ (List.mem_of_getElem? (i := 6) rfl)) (hE.2.2.1 (320, "no crew is on duty") (by decide +kernel)) hown hE hP hD hS (by rw [hl.1, hml]) dX5_onDuty_13 dX5_onDuty_16 dX5_onDuty_17 dX5_onDuty_20 dX5_onDuty_23 htab (by decide) (by decide) (by decide) (by decide) hlocks (by decide) rfl (by decide) (by decide)
def f_X5_isTired (σ : zS)  : Int32 := (f_X1_isWeary σ (σ 0 6))
theorem iX5_isTired : ∀ w ∈ u_ws RX5 TX5 7, w ∈ wsX5_isTired := by decide +kernel
set_option maxRecDepth 100000 in
theorem c_X5_isTired (l : Launch) (G : va_G) (cs : Nat → ClassId) (ad : Nat → Nat) (tl : va_W) (σ : zS)   : zMi l yX5_isTired wsX5_isTired { frames := 1, cells := 0, slots := 0, locals := 21 } G cs [.ref (ad 0)] (zw cs ad σ tl) (f_X5_isTired σ ) (zw cs ad σ tl) 0 0 := by
  intro sz
  refine Met.ofW (cc := cX5_isTired) (maxL := 1) (ret := (some .boolean)) (by decide) rfl ?_
  intro p e s m args below meth c s₁ B hml hv
  obtain ⟨rfl, hsz, hP, hD0, hE⟩ := hv
  have hx := B.exec
  have hb := B.bytes
  have hr := B.returns
  have hts := atoms_spec (ws := wsX5_isTired) B.pre
  have hown : s.vm.findClass RX5 = some m.cls := findClass_of_methodNamed B.named
  have hlocks := B.notSynchronized
  subst hsz
  have hD := hD0.self (sz := s.heap.size)
  have hA : ∀ q : Nat, s.heap.size ≤ q → (va_A (zw cs ad σ tl) s.heap.size) q := fun q h => Or.inr h
  generalize va_A (zw cs ad σ tl) s.heap.size = A at hD hE hA ⊢
  have hS : va_S A s.heap s.heap [] := va_S.rf
  have hl := lv_entry ([.ref (ad 0)]) (n := 1) (Nat.le_of_ble_eq_true rfl)
  rw [lg_entry_eq]
  generalize (lg_sl ([.ref (ad 0)]) ++ List.replicate (1 - (lg_sl ([.ref (ad 0)])).length) Slot.unset).toArray = ls at hl ⊢
  have hl : lv_has ls 1 [(0, .ref (ad 0))] := hl
  generalize hR : (f_X5_isTired σ ) = RV
  have hR := hR.symm
  unfold f_X5_isTired at hR
  obtain ⟨H, hH⟩ : ∃ z, z = s.heap := ⟨_, rfl⟩
  obtain ⟨locs, hlocs⟩ : ∃ z : List Loc, z = [] := ⟨_, rfl⟩
  rw [← hH] at hP
  have hS : va_S A s.heap H locs := by rw [hH, hlocs]; exact hS
  show W _ _ _ _ _ _ _ _ _ _ s.heap [] _ _ _ _
  rw [← hH, ← hlocs]
  clear hlocs
  refine lv_aload_n hx hb dX5_isTired_0 rfl (lv_at hl 0 rfl) ?_
  refine va_get (D := G) (ci := 7) (v := .ref (ad 27)) (C := RX5) (T := TX5) (N := 7) hx hb hts iX5_isTired hown hE.1 hP 0 (zg_0 cs ad σ tl) rfl 5 (by decide) (hts (.fieldLink RX5 44 "HandoverDeck" "roster" "LHandoverDeck$CrewRoster;") (by decide +kernel)) (fun _ h9 => h9) rfl dX5_isTired_1 ?_
  refine lv_aload_n hx hb dX5_isTired_4 rfl (lv_at hl 0 rfl) ?_
  refine va_get (D := G) (ci := 7) (v := .int (σ 0 6)) (C := RX5) (T := TX5) (N := 7) hx hb hts iX5_isTired hown hE.1 hP 0 (zg_0 cs ad σ tl) rfl 6 (by decide) (hts (.fieldLink RX5 81 "HandoverDeck" "now" "I") (by decide +kernel)) (fun _ h9 => h9) rfl dX5_isTired_5 ?_
  refine zai (va_runV (As := [.int (σ 0 6)]) (rest := []) ⟨hx, hb, hml, hown, hts⟩ (c_X1_isWeary l G cs ad tl σ (σ 0 6)  H.size) (cwV 1 hts gX5_isTired_X1_isWeary rfl rfl rfl (by decide +kernel) ⟨Nat.le_of_ble_eq_true rfl, Nat.le_of_ble_eq_true rfl⟩) (zpv hE hP hD hS hA (zg_27 cs ad σ tl) rfl) rfl rfl hl.1 rfl (lv_room (Nat.le_of_ble_eq_true rfl)) dX5_isTired_8 ⟨Nat.le_of_ble_eq_true rfl, Nat.le_of_ble_eq_true rfl⟩) hD hS hA (fun H locs hP hD hS => ?_)
  have hR := hR.symm
  subst hR
  exact W.zret (v := (f_X1_isWeary σ (σ 0 6))) hx hb hr (nar_X1_isWeary σ (σ 0 6)) (fun t ht hW => ⟨⟨_, (), rfl, rfl, by rw [ht]; exact hP, hD⟩, hS.F ht⟩) hS.2.2 dX5_isTired_11
def f_X5_restLeft (σ : zS) (a1 : Int32) : Nat × Int32 × zS := (if (f_X5_checkCrew a1) = 0 then (0, (f_X1_restOf σ a1 (σ 0 6)), σ) else ((f_X5_checkCrew a1), 0, σ))
theorem iX5_restLeft : ∀ w ∈ u_ws RX5 TX5 7, w ∈ wsX5_restLeft := by decide +kernel
set_option maxRecDepth 100000 in
theorem c_X5_restLeft (l : Launch) (hfl : l.stackTraces = false) (G : va_G) (cs : Nat → ClassId) (ad : Nat → Nat) (tl : va_W) (σ : zS) (a1 : Int32)  : zXi l yX5_restLeft wsX5_restLeft { frames := 7, cells := 1, slots := 6, locals := 110 } G cs [.ref (ad 0), .int a1] (zw cs ad σ tl) (f_X5_restLeft σ a1).1 (f_X5_restLeft σ a1).2.1 (zw cs ad (f_X5_restLeft σ a1).2.2 tl) 1 6 := by
  intro sz
  refine vx_ofW (cc := cX5_restLeft) (maxL := 2) (ret := (some .int)) (by decide) rfl ?_
  intro p e s m args below meth c s₁ B hml htab hv
  obtain ⟨rfl, hsz, hP, hD0, hE⟩ := hv
  have hx := B.exec
  have hb := B.bytes
  have hr := B.returns
  have hts := atoms_spec (ws := wsX5_restLeft) B.pre
  have hown : s.vm.findClass RX5 = some m.cls := findClass_of_methodNamed B.named
  have hlocks := B.notSynchronized
  subst hsz
  have hD := hD0.self (sz := s.heap.size)
  have hA : ∀ q : Nat, s.heap.size ≤ q → (va_A (zw cs ad σ tl) s.heap.size) q := fun q h => Or.inr h
  generalize va_A (zw cs ad σ tl) s.heap.size = A at hD hE hA ⊢
  have hS : va_S A s.heap s.heap [] := va_S.rf
  have hl := lv_entry ([.ref (ad 0), .int a1]) (n := 2) (Nat.le_of_ble_eq_true rfl)
  rw [lg_entry_eq]
  generalize (lg_sl ([.ref (ad 0), .int a1]) ++ List.replicate (2 - (lg_sl ([.ref (ad 0), .int a1])).length) Slot.unset).toArray = ls at hl ⊢
  have hl : lv_has ls 2 [(0, .ref (ad 0)), (1, .int a1)] := hl
  generalize hR : (f_X5_restLeft σ a1) = RV
  have hR := hR.symm
  unfold f_X5_restLeft at hR
  obtain ⟨RVk, RVv, RVs⟩ := RV
  dsimp only
  obtain ⟨H, hH⟩ : ∃ z, z = s.heap := ⟨_, rfl⟩
  obtain ⟨locs, hlocs⟩ : ∃ z : List Loc, z = [] := ⟨_, rfl⟩
  rw [← hH] at hP
  have hS : va_S A s.heap H locs := by rw [hH, hlocs]; exact hS
  show W _ _ _ _ _ _ _ _ _ _ s.heap [] _ _ _ _
  rw [← hH, ← hlocs]
  clear hlocs
  refine lv_iload_n hx hb dX5_restLeft_0 rfl (lv_at hl 1 rfl) ?_
  refine zaxv (vx_runS (As := [.int a1]) (rest := []) ⟨hx, hb, hml, hown, hts⟩ (c_X5_checkCrew l hfl G cs ad tl σ a1  H.size) (va_cwS 1 hts gX5_restLeft_X5_checkCrew rfl rfl rfl (by decide +kernel) ⟨Nat.le_of_ble_eq_true rfl, Nat.le_of_ble_eq_true rfl⟩) (zps hE hP hD hS hA) rfl rfl hl.1 rfl (lv_room (Nat.le_of_ble_eq_true rfl)) dX5_restLeft_1 ⟨Nat.le_of_ble_eq_true rfl, Nat.le_of_ble_eq_true rfl⟩) hD hS hA (fun c_1 ce q9 H locs hP hD hS h1 h2 h3 => ?_) (fun c_1 H locs hP hD hS => ?_)
  · have hR := hR.trans (if_neg c_1)
    obtain ⟨e1, e2, e3⟩ := z3 hR.symm
    subst e1; subst e2; subst e3
    exact z_out htab hlocks h1 h2 h3 c_1 hP hD hS (by decide) (by decide)
  · have hR := hR.trans (if_pos c_1)
    refine lv_aload_n hx hb dX5_restLeft_4 rfl (lv_at hl 0 rfl) ?_
    refine va_get (D := G) (ci := 7) (v := .ref (ad 27)) (C := RX5) (T := TX5) (N := 7) hx hb hts iX5_restLeft hown hE.1 hP 0 (zg_0 cs ad σ tl) rfl 5 (by decide) (hts (.fieldLink RX5 44 "HandoverDeck" "roster" "LHandoverDeck$CrewRoster;") (by decide +kernel)) (fun _ h9 => h9) rfl dX5_restLeft_5 ?_
    refine lv_iload_n hx hb dX5_restLeft_8 rfl (lv_at hl 1 rfl) ?_
    refine lv_aload_n hx hb dX5_restLeft_9 rfl (lv_at hl 0 rfl) ?_
    refine va_get (D := G) (ci := 7) (v := .int (σ 0 6)) (C := RX5) (T := TX5) (N := 7) hx hb hts iX5_restLeft hown hE.1 hP 0 (zg_0 cs ad σ tl) rfl 6 (by decide) (hts (.fieldLink RX5 81 "HandoverDeck" "now" "I") (by decide +kernel)) (fun _ h9 => h9) rfl dX5_restLeft_10 ?_
    refine zai (va_runV (As := [.int a1, .int (σ 0 6)]) (rest := []) ⟨hx, hb, hml, hown, hts⟩ (c_X1_restOf l G cs ad tl σ a1 (σ 0 6)  H.size) (cwV 2 hts gX5_restLeft_X1_restOf rfl rfl rfl (by decide +kernel) ⟨Nat.le_of_ble_eq_true rfl, Nat.le_of_ble_eq_true rfl⟩) (zpv hE hP hD hS hA (zg_27 cs ad σ tl) rfl) rfl rfl hl.1 rfl (lv_room (Nat.le_of_ble_eq_true rfl)) dX5_restLeft_13 ⟨Nat.le_of_ble_eq_true rfl, Nat.le_of_ble_eq_true rfl⟩) hD hS hA (fun H locs hP hD hS => ?_)
    obtain ⟨e1, e2, e3⟩ := z3 hR.symm
    subst e1; subst e2; subst e3
    refine W.widen (k := 1) (n := 6) (by decide) (by decide) ?_
    refine vx_ret ?_
    exact W.iret (v := (f_X1_restOf σ a1 (σ 0 6))) hx hb hr (fun t ht hW => ⟨⟨_, (), rfl, ⟨rfl, rfl⟩, by rw [ht]; exact hP, hD⟩, hS.F ht⟩) hS.2.2 dX5_restLeft_16
def f_X5_openLines (σ : zS)  : Int32 := (f_X2_openCount σ )
theorem iX5_openLines : ∀ w ∈ u_ws RX5 TX5 7, w ∈ wsX5_openLines := by decide +kernel
set_option maxRecDepth 100000 in
theorem c_X5_openLines (l : Launch) (G : va_G) (cs : Nat → ClassId) (ad : Nat → Nat) (tl : va_W) (σ : zS)   : zMi l yX5_openLines wsX5_openLines { frames := 1, cells := 0, slots := 0, locals := 20 } G cs [.ref (ad 0)] (zw cs ad σ tl) (f_X5_openLines σ ) (zw cs ad σ tl) 0 0 := by
  intro sz
  refine Met.ofW (cc := cX5_openLines) (maxL := 1) (ret := (some .int)) (by decide) rfl ?_
  intro p e s m args below meth c s₁ B hml hv
  obtain ⟨rfl, hsz, hP, hD0, hE⟩ := hv
  have hx := B.exec
  have hb := B.bytes
  have hr := B.returns
  have hts := atoms_spec (ws := wsX5_openLines) B.pre
  have hown : s.vm.findClass RX5 = some m.cls := findClass_of_methodNamed B.named
  have hlocks := B.notSynchronized
  subst hsz
  have hD := hD0.self (sz := s.heap.size)
  have hA : ∀ q : Nat, s.heap.size ≤ q → (va_A (zw cs ad σ tl) s.heap.size) q := fun q h => Or.inr h
  generalize va_A (zw cs ad σ tl) s.heap.size = A at hD hE hA ⊢
  have hS : va_S A s.heap s.heap [] := va_S.rf
  have hl := lv_entry ([.ref (ad 0)]) (n := 1) (Nat.le_of_ble_eq_true rfl)
  rw [lg_entry_eq]
  generalize (lg_sl ([.ref (ad 0)]) ++ List.replicate (1 - (lg_sl ([.ref (ad 0)])).length) Slot.unset).toArray = ls at hl ⊢
  have hl : lv_has ls 1 [(0, .ref (ad 0))] := hl
  generalize hR : (f_X5_openLines σ ) = RV
  have hR := hR.symm
  unfold f_X5_openLines at hR
  obtain ⟨H, hH⟩ : ∃ z, z = s.heap := ⟨_, rfl⟩
  obtain ⟨locs, hlocs⟩ : ∃ z : List Loc, z = [] := ⟨_, rfl⟩
  rw [← hH] at hP
  have hS : va_S A s.heap H locs := by rw [hH, hlocs]; exact hS
  show W _ _ _ _ _ _ _ _ _ _ s.heap [] _ _ _ _
  rw [← hH, ← hlocs]
  clear hlocs
  refine lv_aload_n hx hb dX5_openLines_0 rfl (lv_at hl 0 rfl) ?_
  refine va_get (D := G) (ci := 7) (v := .ref (ad 2)) (C := RX5) (T := TX5) (N := 7) hx hb hts iX5_openLines hown hE.1 hP 0 (zg_0 cs ad σ tl) rfl 1 (by decide) (hts (.fieldLink RX5 16 "HandoverDeck" "log" "LHandoverDeck$Log;") (by decide +kernel)) (fun _ h9 => h9) rfl dX5_openLines_1 ?_
  refine zai (va_runV (As := []) (rest := []) ⟨hx, hb, hml, hown, hts⟩ (c_X2_openCount l G cs ad tl σ   H.size) (cwV 0 hts gX5_openLines_X2_openCount rfl rfl rfl (by decide +kernel) ⟨Nat.le_of_ble_eq_true rfl, Nat.le_of_ble_eq_true rfl⟩) (zpv hE hP hD hS hA (zg_2 cs ad σ tl) rfl) rfl rfl hl.1 rfl (lv_room (Nat.le_of_ble_eq_true rfl)) dX5_openLines_4 ⟨Nat.le_of_ble_eq_true rfl, Nat.le_of_ble_eq_true rfl⟩) hD hS hA (fun H locs hP hD hS => ?_)
  have hR := hR.symm
  subst hR
  exact W.iret (v := (f_X2_openCount σ )) hx hb hr (fun t ht hW => ⟨⟨_, (), rfl, rfl, by rw [ht]; exact hP, hD⟩, hS.F ht⟩) hS.2.2 dX5_openLines_7
def f_X5_openByLog (σ : zS)  : Int32 := (f_X2_openCountByEntries σ )
theorem iX5_openByLog : ∀ w ∈ u_ws RX5 TX5 7, w ∈ wsX5_openByLog := by decide +kernel
set_option maxRecDepth 100000 in
theorem c_X5_openByLog (l : Launch) (G : va_G) (cs : Nat → ClassId) (ad : Nat → Nat) (tl : va_W) (σ : zS)   : zMi l yX5_openByLog wsX5_openByLog { frames := 1, cells := 0, slots := 0, locals := 22 } G cs [.ref (ad 0)] (zw cs ad σ tl) (f_X5_openByLog σ ) (zw cs ad σ tl) 0 0 := by
  intro sz
  refine Met.ofW (cc := cX5_openByLog) (maxL := 1) (ret := (some .int)) (by decide) rfl ?_
  intro p e s m args below meth c s₁ B hml hv
  obtain ⟨rfl, hsz, hP, hD0, hE⟩ := hv
  have hx := B.exec
  have hb := B.bytes
  have hr := B.returns
  have hts := atoms_spec (ws := wsX5_openByLog) B.pre
  have hown : s.vm.findClass RX5 = some m.cls := findClass_of_methodNamed B.named
  have hlocks := B.notSynchronized
  subst hsz
  have hD := hD0.self (sz := s.heap.size)
  have hA : ∀ q : Nat, s.heap.size ≤ q → (va_A (zw cs ad σ tl) s.heap.size) q := fun q h => Or.inr h
  generalize va_A (zw cs ad σ tl) s.heap.size = A at hD hE hA ⊢
  have hS : va_S A s.heap s.heap [] := va_S.rf
  have hl := lv_entry ([.ref (ad 0)]) (n := 1) (Nat.le_of_ble_eq_true rfl)
  rw [lg_entry_eq]
  generalize (lg_sl ([.ref (ad 0)]) ++ List.replicate (1 - (lg_sl ([.ref (ad 0)])).length) Slot.unset).toArray = ls at hl ⊢
  have hl : lv_has ls 1 [(0, .ref (ad 0))] := hl
  generalize hR : (f_X5_openByLog σ ) = RV
  have hR := hR.symm
  unfold f_X5_openByLog at hR
  obtain ⟨H, hH⟩ : ∃ z, z = s.heap := ⟨_, rfl⟩
  obtain ⟨locs, hlocs⟩ : ∃ z : List Loc, z = [] := ⟨_, rfl⟩
  rw [← hH] at hP
  have hS : va_S A s.heap H locs := by rw [hH, hlocs]; exact hS
  show W _ _ _ _ _ _ _ _ _ _ s.heap [] _ _ _ _
  rw [← hH, ← hlocs]
  clear hlocs
  refine lv_aload_n hx hb dX5_openByLog_0 rfl (lv_at hl 0 rfl) ?_
  refine va_get (D := G) (ci := 7) (v := .ref (ad 2)) (C := RX5) (T := TX5) (N := 7) hx hb hts iX5_openByLog hown hE.1 hP 0 (zg_0 cs ad σ tl) rfl 1 (by decide) (hts (.fieldLink RX5 16 "HandoverDeck" "log" "LHandoverDeck$Log;") (by decide +kernel)) (fun _ h9 => h9) rfl dX5_openByLog_1 ?_
  refine zai (va_runV (As := []) (rest := []) ⟨hx, hb, hml, hown, hts⟩ (c_X2_openCountByEntries l G cs ad tl σ   H.size) (cwV 0 hts gX5_openByLog_X2_openCountByEntries rfl rfl rfl (by decide +kernel) ⟨Nat.le_of_ble_eq_true rfl, Nat.le_of_ble_eq_true rfl⟩) (zpv hE hP hD hS hA (zg_2 cs ad σ tl) rfl) rfl rfl hl.1 rfl (lv_room (Nat.le_of_ble_eq_true rfl)) dX5_openByLog_4 ⟨Nat.le_of_ble_eq_true rfl, Nat.le_of_ble_eq_true rfl⟩) hD hS hA (fun H locs hP hD hS => ?_)
  have hR := hR.symm
  subst hR
  exact W.iret (v := (f_X2_openCountByEntries σ )) hx hb hr (fun t ht hW => ⟨⟨_, (), rfl, rfl, by rw [ht]; exact hP, hD⟩, hS.F ht⟩) hS.2.2 dX5_openByLog_7
def f_X5_openAt (σ : zS) (a1 : Int32) : Nat × Int32 × zS := (if (f_X2_openLineAt σ a1) = (-1) then (1, 0, σ) else (0, (f_X2_openLineAt σ a1), σ))
theorem iX5_openAt : ∀ w ∈ u_ws RX5 TX5 7, w ∈ wsX5_openAt := by decide +kernel
set_option maxRecDepth 100000 in
theorem c_X5_openAt (l : Launch) (hfl : l.stackTraces = false) (G : va_G) (cs : Nat → ClassId) (ad : Nat → Nat) (tl : va_W) (σ : zS) (a1 : Int32)  : zXi l yX5_openAt wsX5_openAt { frames := 6, cells := 1, slots := 6, locals := 90 } G cs [.ref (ad 0), .int a1] (zw cs ad σ tl) (f_X5_openAt σ a1).1 (f_X5_openAt σ a1).2.1 (zw cs ad (f_X5_openAt σ a1).2.2 tl) 1 6 := by
  intro sz
  refine vx_ofW (cc := cX5_openAt) (maxL := 3) (ret := (some .int)) (by decide) rfl ?_
  intro p e s m args below meth c s₁ B hml htab hv
  obtain ⟨rfl, hsz, hP, hD0, hE⟩ := hv
  have hx := B.exec
  have hb := B.bytes
  have hr := B.returns
  have hts := atoms_spec (ws := wsX5_openAt) B.pre
  have hown : s.vm.findClass RX5 = some m.cls := findClass_of_methodNamed B.named
  have hlocks := B.notSynchronized
  subst hsz
  have hD := hD0.self (sz := s.heap.size)
  have hA : ∀ q : Nat, s.heap.size ≤ q → (va_A (zw cs ad σ tl) s.heap.size) q := fun q h => Or.inr h
  generalize va_A (zw cs ad σ tl) s.heap.size = A at hD hE hA ⊢
  have hS : va_S A s.heap s.heap [] := va_S.rf
  have hl := lv_entry ([.ref (ad 0), .int a1]) (n := 3) (Nat.le_of_ble_eq_true rfl)
  rw [lg_entry_eq]
  generalize (lg_sl ([.ref (ad 0), .int a1]) ++ List.replicate (3 - (lg_sl ([.ref (ad 0), .int a1])).length) Slot.unset).toArray = ls at hl ⊢
  have hl : lv_has ls 3 [(0, .ref (ad 0)), (1, .int a1)] := hl
  generalize hR : (f_X5_openAt σ a1) = RV
  have hR := hR.symm
  unfold f_X5_openAt at hR
  obtain ⟨RVk, RVv, RVs⟩ := RV
  dsimp only
  obtain ⟨H, hH⟩ : ∃ z, z = s.heap := ⟨_, rfl⟩
  obtain ⟨locs, hlocs⟩ : ∃ z : List Loc, z = [] := ⟨_, rfl⟩
  rw [← hH] at hP
  have hS : va_S A s.heap H locs := by rw [hH, hlocs]; exact hS
  show W _ _ _ _ _ _ _ _ _ _ s.heap [] _ _ _ _
  rw [← hH, ← hlocs]
  clear hlocs
  refine lv_aload_n hx hb dX5_openAt_0 rfl (lv_at hl 0 rfl) ?_
  refine va_get (D := G) (ci := 7) (v := .ref (ad 2)) (C := RX5) (T := TX5) (N := 7) hx hb hts iX5_openAt hown hE.1 hP 0 (zg_0 cs ad σ tl) rfl 1 (by decide) (hts (.fieldLink RX5 16 "HandoverDeck" "log" "LHandoverDeck$Log;") (by decide +kernel)) (fun _ h9 => h9) rfl dX5_openAt_1 ?_
  refine lv_iload_n hx hb dX5_openAt_4 rfl (lv_at hl 1 rfl) ?_
  refine zai (va_runV (As := [.int a1]) (rest := []) ⟨hx, hb, hml, hown, hts⟩ (c_X2_openLineAt l G cs ad tl σ a1  H.size) (cwV 1 hts gX5_openAt_X2_openLineAt rfl rfl rfl (by decide +kernel) ⟨Nat.le_of_ble_eq_true rfl, Nat.le_of_ble_eq_true rfl⟩) (zpv hE hP hD hS hA (zg_2 cs ad σ tl) rfl) rfl rfl hl.1 rfl (lv_room (Nat.le_of_ble_eq_true rfl)) dX5_openAt_5 ⟨Nat.le_of_ble_eq_true rfl, Nat.le_of_ble_eq_true rfl⟩) hD hS hA (fun H locs hP hD hS => ?_)
  refine lv_istore_n (lv' := [(2, .int (f_X2_openLineAt σ a1)), (0, .ref (ad 0)), (1, .int a1)]) hx hb dX5_openAt_8 rfl hl (by decide) rfl (fun ls hl => ?_)
  refine lv_iload_n hx hb dX5_openAt_9 rfl (lv_at hl 0 rfl) ?_
  refine lv_iconst (v := (-1)) hx hb dX5_openAt_10 (by decide) ?_
  refine lv_icmp_ne (tgt := 25) hx hb dX5_openAt_11 (by decide) (fun c_1 => ?_) (fun c_1 => ?_)
  · have hR := hR.trans (if_neg c_1)
    refine lv_iload_n hx hb dX5_openAt_25 rfl (lv_at hl 0 rfl) ?_
    obtain ⟨e1, e2, e3⟩ := z3 hR.symm
    subst e1; subst e2; subst e3
    refine W.widen (k := 1) (n := 6) (by decide) (by decide) ?_
    refine vx_ret ?_
    exact W.iret (v := (f_X2_openLineAt σ a1)) hx hb hr (fun t ht hW => ⟨⟨_, (), rfl, ⟨rfl, rfl⟩, by rw [ht]; exact hP, hD⟩, hS.F ht⟩) hS.2.2 dX5_openAt_26
  · have hR := hR.trans (if_pos c_1)
    obtain ⟨e1, e2, e3⟩ := z3 hR.symm
    subst e1; subst e2; subst e3
    exact z_thrW (k := 1) (is := 330) (text := "no such open line") hx hb hfl zf_1.1 zf_1.2.1 zf_1.2.2 (fun w h => hts w (List.mem_cons_of_mem _ (List.mem_append_left _ (List.mem_append_right _ h)))) (hts (.classLink RX5 328 "java/lang/IndexOutOfBoundsException") (by decide +kernel)) (hts (.initialized "java/lang/IndexOutOfBoundsException") (by decide +kernel)) (hE.2.1 _ (List.mem_of_getElem? (i := 3) rfl)) (hE.2.2.1 (330, "no such open line") (by decide +kernel)) hown hE hP hD hS (by rw [hl.1, hml]) dX5_openAt_14 dX5_openAt_17 dX5_openAt_18 dX5_openAt_21 dX5_openAt_24 htab (by decide) (by decide) (by decide) (by decide) hlocks (by decide) rfl (by decide) (by decide)
def f_X5_kindOf (σ : zS) (a1 : Int32) : Nat × Int32 × zS := (if (f_X5_checkLine σ a1) = 0 then (0, (f_X2_kindAt σ a1), σ) else ((f_X5_checkLine σ a1), 0, σ))
theorem iX5_kindOf : ∀ w ∈ u_ws RX5 TX5 7, w ∈ wsX5_kindOf := by decide +kernel
set_option maxRecDepth 100000 in
theorem c_X5_kindOf (l : Launch) (hfl : l.stackTraces = false) (G : va_G) (cs : Nat → ClassId) (ad : Nat → Nat) (tl : va_W) (σ : zS) (a1 : Int32) (hch : ∀ j : Nat, narrow .char (.int (σ 3 j)) = .int (σ 3 j)) : zXi l yX5_kindOf wsX5_kindOf { frames := 7, cells := 1, slots := 6, locals := 111 } G cs [.ref (ad 0), .int a1] (zw cs ad σ tl) (f_X5_kindOf σ a1).1 (f_X5_kindOf σ a1).2.1 (zw cs ad (f_X5_kindOf σ a1).2.2 tl) 1 6 := by
  intro sz
  refine vx_ofW (cc := cX5_kindOf) (maxL := 2) (ret := (some .char)) (by decide) rfl ?_
  intro p e s m args below meth c s₁ B hml htab hv
  obtain ⟨rfl, hsz, hP, hD0, hE⟩ := hv
  have hx := B.exec
  have hb := B.bytes
  have hr := B.returns
  have hts := atoms_spec (ws := wsX5_kindOf) B.pre
  have hown : s.vm.findClass RX5 = some m.cls := findClass_of_methodNamed B.named
  have hlocks := B.notSynchronized
  subst hsz
  have hD := hD0.self (sz := s.heap.size)
  have hA : ∀ q : Nat, s.heap.size ≤ q → (va_A (zw cs ad σ tl) s.heap.size) q := fun q h => Or.inr h
  generalize va_A (zw cs ad σ tl) s.heap.size = A at hD hE hA ⊢
  have hS : va_S A s.heap s.heap [] := va_S.rf
  have hl := lv_entry ([.ref (ad 0), .int a1]) (n := 2) (Nat.le_of_ble_eq_true rfl)
  rw [lg_entry_eq]
  generalize (lg_sl ([.ref (ad 0), .int a1]) ++ List.replicate (2 - (lg_sl ([.ref (ad 0), .int a1])).length) Slot.unset).toArray = ls at hl ⊢
  have hl : lv_has ls 2 [(0, .ref (ad 0)), (1, .int a1)] := hl
  generalize hR : (f_X5_kindOf σ a1) = RV
  have hR := hR.symm
  unfold f_X5_kindOf at hR
  obtain ⟨RVk, RVv, RVs⟩ := RV
  dsimp only
  obtain ⟨H, hH⟩ : ∃ z, z = s.heap := ⟨_, rfl⟩
  obtain ⟨locs, hlocs⟩ : ∃ z : List Loc, z = [] := ⟨_, rfl⟩
  rw [← hH] at hP
  have hS : va_S A s.heap H locs := by rw [hH, hlocs]; exact hS
  show W _ _ _ _ _ _ _ _ _ _ s.heap [] _ _ _ _
  rw [← hH, ← hlocs]
  clear hlocs
  refine lv_aload_n hx hb dX5_kindOf_0 rfl (lv_at hl 0 rfl) ?_
  refine lv_iload_n hx hb dX5_kindOf_1 rfl (lv_at hl 1 rfl) ?_
  refine zaxv (vx_runV (As := [.int a1]) (rest := []) ⟨hx, hb, hml, hown, hts⟩ (c_X5_checkLine l hfl G cs ad tl σ a1  H.size) (cwV 1 hts gX5_kindOf_X5_checkLine rfl rfl rfl (by decide +kernel) ⟨Nat.le_of_ble_eq_true rfl, Nat.le_of_ble_eq_true rfl⟩) (zpv hE hP hD hS hA (zg_0 cs ad σ tl) rfl) rfl rfl hl.1 rfl (lv_room (Nat.le_of_ble_eq_true rfl)) dX5_kindOf_2 ⟨Nat.le_of_ble_eq_true rfl, Nat.le_of_ble_eq_true rfl⟩) hD hS hA (fun c_1 ce q9 H locs hP hD hS h1 h2 h3 => ?_) (fun c_1 H locs hP hD hS => ?_)
  · have hR := hR.trans (if_neg c_1)
    obtain ⟨e1, e2, e3⟩ := z3 hR.symm
    subst e1; subst e2; subst e3
    exact z_out htab hlocks h1 h2 h3 c_1 hP hD hS (by decide) (by decide)
  · have hR := hR.trans (if_pos c_1)
    refine lv_aload_n hx hb dX5_kindOf_5 rfl (lv_at hl 0 rfl) ?_
    refine va_get (D := G) (ci := 7) (v := .ref (ad 2)) (C := RX5) (T := TX5) (N := 7) hx hb hts iX5_kindOf hown hE.1 hP 0 (zg_0 cs ad σ tl) rfl 1 (by decide) (hts (.fieldLink RX5 16 "HandoverDeck" "log" "LHandoverDeck$Log;") (by decide +kernel)) (fun _ h9 => h9) rfl dX5_kindOf_6 ?_
    refine lv_iload_n hx hb dX5_kindOf_9 rfl (lv_at hl 1 rfl) ?_
    refine zai (va_runV (As := [.int a1]) (rest := []) ⟨hx, hb, hml, hown, hts⟩ (c_X2_kindAt l G cs ad tl σ a1 hch H.size) (cwV 1 hts gX5_kindOf_X2_kindAt rfl rfl rfl (by decide +kernel) ⟨Nat.le_of_ble_eq_true rfl, Nat.le_of_ble_eq_true rfl⟩) (zpv hE hP hD hS hA (zg_2 cs ad σ tl) rfl) rfl rfl hl.1 rfl (lv_room (Nat.le_of_ble_eq_true rfl)) dX5_kindOf_10 ⟨Nat.le_of_ble_eq_true rfl, Nat.le_of_ble_eq_true rfl⟩) hD hS hA (fun H locs hP hD hS => ?_)
    obtain ⟨e1, e2, e3⟩ := z3 hR.symm
    subst e1; subst e2; subst e3
    refine W.widen (k := 1) (n := 6) (by decide) (by decide) ?_
    refine vx_ret ?_
    exact W.zret (v := (f_X2_kindAt σ a1)) hx hb hr (nar_X2_kindAt σ a1 hch) (fun t ht hW => ⟨⟨_, (), rfl, ⟨rfl, rfl⟩, by rw [ht]; exact hP, hD⟩, hS.F ht⟩) hS.2.2 dX5_kindOf_13
def f_X5_passed (σ : zS) (a1 : Int32) : Nat × Int32 × zS := (if (f_X5_checkLine σ a1) = 0 then (0, (f_X2_handOversOf σ a1), σ) else ((f_X5_checkLine σ a1), 0, σ))
theorem iX5_passed : ∀ w ∈ u_ws RX5 TX5 7, w ∈ wsX5_passed := by decide +kernel
set_option maxRecDepth 100000 in
theorem c_X5_passed (l : Launch) (hfl : l.stackTraces = false) (G : va_G) (cs : Nat → ClassId) (ad : Nat → Nat) (tl : va_W) (σ : zS) (a1 : Int32)  : zXi l yX5_passed wsX5_passed { frames := 7, cells := 1, slots := 6, locals := 111 } G cs [.ref (ad 0), .int a1] (zw cs ad σ tl) (f_X5_passed σ a1).1 (f_X5_passed σ a1).2.1 (zw cs ad (f_X5_passed σ a1).2.2 tl) 1 6 := by
  intro sz
  refine vx_ofW (cc := cX5_passed) (maxL := 2) (ret := (some .int)) (by decide) rfl ?_
  intro p e s m args below meth c s₁ B hml htab hv
  obtain ⟨rfl, hsz, hP, hD0, hE⟩ := hv
  have hx := B.exec
  have hb := B.bytes
  have hr := B.returns
  have hts := atoms_spec (ws := wsX5_passed) B.pre
  have hown : s.vm.findClass RX5 = some m.cls := findClass_of_methodNamed B.named
  have hlocks := B.notSynchronized
  subst hsz
  have hD := hD0.self (sz := s.heap.size)
  have hA : ∀ q : Nat, s.heap.size ≤ q → (va_A (zw cs ad σ tl) s.heap.size) q := fun q h => Or.inr h
  generalize va_A (zw cs ad σ tl) s.heap.size = A at hD hE hA ⊢
  have hS : va_S A s.heap s.heap [] := va_S.rf
  have hl := lv_entry ([.ref (ad 0), .int a1]) (n := 2) (Nat.le_of_ble_eq_true rfl)
  rw [lg_entry_eq]
  generalize (lg_sl ([.ref (ad 0), .int a1]) ++ List.replicate (2 - (lg_sl ([.ref (ad 0), .int a1])).length) Slot.unset).toArray = ls at hl ⊢
  have hl : lv_has ls 2 [(0, .ref (ad 0)), (1, .int a1)] := hl
  generalize hR : (f_X5_passed σ a1) = RV
  have hR := hR.symm
  unfold f_X5_passed at hR
  obtain ⟨RVk, RVv, RVs⟩ := RV
  dsimp only
  obtain ⟨H, hH⟩ : ∃ z, z = s.heap := ⟨_, rfl⟩
  obtain ⟨locs, hlocs⟩ : ∃ z : List Loc, z = [] := ⟨_, rfl⟩
  rw [← hH] at hP
  have hS : va_S A s.heap H locs := by rw [hH, hlocs]; exact hS
  show W _ _ _ _ _ _ _ _ _ _ s.heap [] _ _ _ _
  rw [← hH, ← hlocs]
  clear hlocs
  refine lv_aload_n hx hb dX5_passed_0 rfl (lv_at hl 0 rfl) ?_
  refine lv_iload_n hx hb dX5_passed_1 rfl (lv_at hl 1 rfl) ?_
  refine zaxv (vx_runV (As := [.int a1]) (rest := []) ⟨hx, hb, hml, hown, hts⟩ (c_X5_checkLine l hfl G cs ad tl σ a1  H.size) (cwV 1 hts gX5_passed_X5_checkLine rfl rfl rfl (by decide +kernel) ⟨Nat.le_of_ble_eq_true rfl, Nat.le_of_ble_eq_true rfl⟩) (zpv hE hP hD hS hA (zg_0 cs ad σ tl) rfl) rfl rfl hl.1 rfl (lv_room (Nat.le_of_ble_eq_true rfl)) dX5_passed_2 ⟨Nat.le_of_ble_eq_true rfl, Nat.le_of_ble_eq_true rfl⟩) hD hS hA (fun c_1 ce q9 H locs hP hD hS h1 h2 h3 => ?_) (fun c_1 H locs hP hD hS => ?_)
  · have hR := hR.trans (if_neg c_1)
    obtain ⟨e1, e2, e3⟩ := z3 hR.symm
    subst e1; subst e2; subst e3
    exact z_out htab hlocks h1 h2 h3 c_1 hP hD hS (by decide) (by decide)
  · have hR := hR.trans (if_pos c_1)
    refine lv_aload_n hx hb dX5_passed_5 rfl (lv_at hl 0 rfl) ?_
    refine va_get (D := G) (ci := 7) (v := .ref (ad 2)) (C := RX5) (T := TX5) (N := 7) hx hb hts iX5_passed hown hE.1 hP 0 (zg_0 cs ad σ tl) rfl 1 (by decide) (hts (.fieldLink RX5 16 "HandoverDeck" "log" "LHandoverDeck$Log;") (by decide +kernel)) (fun _ h9 => h9) rfl dX5_passed_6 ?_
    refine lv_iload_n hx hb dX5_passed_9 rfl (lv_at hl 1 rfl) ?_
    refine zai (va_runV (As := [.int a1]) (rest := []) ⟨hx, hb, hml, hown, hts⟩ (c_X2_handOversOf l G cs ad tl σ a1  H.size) (cwV 1 hts gX5_passed_X2_handOversOf rfl rfl rfl (by decide +kernel) ⟨Nat.le_of_ble_eq_true rfl, Nat.le_of_ble_eq_true rfl⟩) (zpv hE hP hD hS hA (zg_2 cs ad σ tl) rfl) rfl rfl hl.1 rfl (lv_room (Nat.le_of_ble_eq_true rfl)) dX5_passed_10 ⟨Nat.le_of_ble_eq_true rfl, Nat.le_of_ble_eq_true rfl⟩) hD hS hA (fun H locs hP hD hS => ?_)
    obtain ⟨e1, e2, e3⟩ := z3 hR.symm
    subst e1; subst e2; subst e3
    refine W.widen (k := 1) (n := 6) (by decide) (by decide) ?_
    refine vx_ret ?_
    exact W.iret (v := (f_X2_handOversOf σ a1)) hx hb hr (fun t ht hW => ⟨⟨_, (), rfl, ⟨rfl, rfl⟩, by rw [ht]; exact hP, hD⟩, hS.F ht⟩) hS.2.2 dX5_passed_13
def f_X5_isSound (σ : zS)  : Int32 := (if (f_X2_openCount σ ) = (f_X2_openCountByEntries σ ) then (if (f_X3_areOpenApart σ ) = 0 then 0 else (if (f_X5_activeAlarmsHaveLines σ ) = 0 then 0 else (if (f_X5_undoneStepsHaveLines σ ) = 0 then 0 else 1))) else 0)
theorem iX5_isSound : ∀ w ∈ u_ws RX5 TX5 7, w ∈ wsX5_isSound := by decide +kernel
set_option maxRecDepth 100000 in
theorem c_X5_isSound (l : Launch) (G : va_G) (cs : Nat → ClassId) (ad : Nat → Nat) (tl : va_W) (σ : zS)   : zMi l yX5_isSound wsX5_isSound { frames := 5, cells := 0, slots := 0, locals := 105 } G cs [.ref (ad 0)] (zw cs ad σ tl) (f_X5_isSound σ ) (zw cs ad σ tl) 0 0 := by
  intro sz
  refine Met.ofW (cc := cX5_isSound) (maxL := 1) (ret := (some .boolean)) (by decide) rfl ?_
  intro p e s m args below meth c s₁ B hml hv
  obtain ⟨rfl, hsz, hP, hD0, hE⟩ := hv
  have hx := B.exec
  have hb := B.bytes
  have hr := B.returns
  have hts := atoms_spec (ws := wsX5_isSound) B.pre
  have hown : s.vm.findClass RX5 = some m.cls := findClass_of_methodNamed B.named
  have hlocks := B.notSynchronized
  subst hsz
  have hD := hD0.self (sz := s.heap.size)
  have hA : ∀ q : Nat, s.heap.size ≤ q → (va_A (zw cs ad σ tl) s.heap.size) q := fun q h => Or.inr h
  generalize va_A (zw cs ad σ tl) s.heap.size = A at hD hE hA ⊢
  have hS : va_S A s.heap s.heap [] := va_S.rf
  have hl := lv_entry ([.ref (ad 0)]) (n := 1) (Nat.le_of_ble_eq_true rfl)
  rw [lg_entry_eq]
  generalize (lg_sl ([.ref (ad 0)]) ++ List.replicate (1 - (lg_sl ([.ref (ad 0)])).length) Slot.unset).toArray = ls at hl ⊢
  have hl : lv_has ls 1 [(0, .ref (ad 0))] := hl
  generalize hR : (f_X5_isSound σ ) = RV
  have hR := hR.symm
  unfold f_X5_isSound at hR
  obtain ⟨H, hH⟩ : ∃ z, z = s.heap := ⟨_, rfl⟩
  obtain ⟨locs, hlocs⟩ : ∃ z : List Loc, z = [] := ⟨_, rfl⟩
  rw [← hH] at hP
  have hS : va_S A s.heap H locs := by rw [hH, hlocs]; exact hS
  show W _ _ _ _ _ _ _ _ _ _ s.heap [] _ _ _ _
  rw [← hH, ← hlocs]
  clear hlocs
  refine lv_aload_n hx hb dX5_isSound_0 rfl (lv_at hl 0 rfl) ?_
  refine va_get (D := G) (ci := 7) (v := .ref (ad 2)) (C := RX5) (T := TX5) (N := 7) hx hb hts iX5_isSound hown hE.1 hP 0 (zg_0 cs ad σ tl) rfl 1 (by decide) (hts (.fieldLink RX5 16 "HandoverDeck" "log" "LHandoverDeck$Log;") (by decide +kernel)) (fun _ h9 => h9) rfl dX5_isSound_1 ?_
  refine zai (va_runV (As := []) (rest := []) ⟨hx, hb, hml, hown, hts⟩ (c_X2_openCount l G cs ad tl σ   H.size) (cwV 0 hts gX5_isSound_X2_openCount rfl rfl rfl (by decide +kernel) ⟨Nat.le_of_ble_eq_true rfl, Nat.le_of_ble_eq_true rfl⟩) (zpv hE hP hD hS hA (zg_2 cs ad σ tl) rfl) rfl rfl hl.1 rfl (lv_room (Nat.le_of_ble_eq_true rfl)) dX5_isSound_4 ⟨Nat.le_of_ble_eq_true rfl, Nat.le_of_ble_eq_true rfl⟩) hD hS hA (fun H locs hP hD hS => ?_)
  refine lv_aload_n hx hb dX5_isSound_7 rfl (lv_at hl 0 rfl) ?_
  refine va_get (D := G) (ci := 7) (v := .ref (ad 2)) (C := RX5) (T := TX5) (N := 7) hx hb hts iX5_isSound hown hE.1 hP 0 (zg_0 cs ad σ tl) rfl 1 (by decide) (hts (.fieldLink RX5 16 "HandoverDeck" "log" "LHandoverDeck$Log;") (by decide +kernel)) (fun _ h9 => h9) rfl dX5_isSound_8 ?_
  refine zai (va_runV (As := []) (rest := [.int (f_X2_openCount σ )]) ⟨hx, hb, hml, hown, hts⟩ (c_X2_openCountByEntries l G cs ad tl σ   H.size) (cwV 0 hts gX5_isSound_X2_openCountByEntries rfl rfl rfl (by decide +kernel) ⟨Nat.le_of_ble_eq_true rfl, Nat.le_of_ble_eq_true rfl⟩) (zpv hE hP hD hS hA (zg_2 cs ad σ tl) rfl) rfl rfl hl.1 rfl (lv_room (Nat.le_of_ble_eq_true rfl)) dX5_isSound_11 ⟨Nat.le_of_ble_eq_true rfl, Nat.le_of_ble_eq_true rfl⟩) hD hS hA (fun H locs hP hD hS => ?_)
  refine lv_icmp_ne (tgt := 45) hx hb dX5_isSound_14 (by decide) (fun c_1 => ?_) (fun c_1 => ?_)
  · have hR := hR.trans (if_neg c_1)
    refine lv_iconst (v := 0) hx hb dX5_isSound_45 (by decide) ?_
    have hR := hR.symm
    subst hR
    exact W.zret (v := 0) hx hb hr rfl (fun t ht hW => ⟨⟨_, (), rfl, rfl, by rw [ht]; exact hP, hD⟩, hS.F ht⟩) hS.2.2 dX5_isSound_46
  · have hR := hR.trans (if_pos c_1)
    refine lv_aload_n hx hb dX5_isSound_17 rfl (lv_at hl 0 rfl) ?_
    refine va_get (D := G) (ci := 7) (v := .ref (ad 23)) (C := RX5) (T := TX5) (N := 7) hx hb hts iX5_isSound hown hE.1 hP 0 (zg_0 cs ad σ tl) rfl 4 (by decide) (hts (.fieldLink RX5 37 "HandoverDeck" "permits" "LHandoverDeck$PermitRack;") (by decide +kernel)) (fun _ h9 => h9) rfl dX5_isSound_18 ?_
    refine zai (va_runV (As := []) (rest := []) ⟨hx, hb, hml, hown, hts⟩ (c_X3_areOpenApart l G cs ad tl σ   H.size) (cwV 0 hts gX5_isSound_X3_areOpenApart rfl rfl rfl (by decide +kernel) ⟨Nat.le_of_ble_eq_true rfl, Nat.le_of_ble_eq_true rfl⟩) (zpv hE hP hD hS hA (zg_23 cs ad σ tl) rfl) rfl rfl hl.1 rfl (lv_room (Nat.le_of_ble_eq_true rfl)) dX5_isSound_21 ⟨Nat.le_of_ble_eq_true rfl, Nat.le_of_ble_eq_true rfl⟩) hD hS hA (fun H locs hP hD hS => ?_)
    refine lv_if_eq (tgt := 45) hx hb dX5_isSound_24 (by decide) (fun c_2 => ?_) (fun c_2 => ?_)
    · have hR := hR.trans (if_pos c_2)
      refine lv_iconst (v := 0) hx hb dX5_isSound_45 (by decide) ?_
      have hR := hR.symm
      subst hR
      exact W.zret (v := 0) hx hb hr rfl (fun t ht hW => ⟨⟨_, (), rfl, rfl, by rw [ht]; exact hP, hD⟩, hS.F ht⟩) hS.2.2 dX5_isSound_46
    · have hR := hR.trans (if_neg c_2)
      refine lv_aload_n hx hb dX5_isSound_27 rfl (lv_at hl 0 rfl) ?_
      refine zai (va_runV (As := []) (rest := []) ⟨hx, hb, hml, hown, hts⟩ (c_X5_activeAlarmsHaveLines l G cs ad tl σ   H.size) (cwV 0 hts gX5_isSound_X5_activeAlarmsHaveLines rfl rfl rfl (by decide +kernel) ⟨Nat.le_of_ble_eq_true rfl, Nat.le_of_ble_eq_true rfl⟩) (zpv hE hP hD hS hA (zg_0 cs ad σ tl) rfl) rfl rfl hl.1 rfl (lv_room (Nat.le_of_ble_eq_true rfl)) dX5_isSound_28 ⟨Nat.le_of_ble_eq_true rfl, Nat.le_of_ble_eq_true rfl⟩) hD hS hA (fun H locs hP hD hS => ?_)
      refine lv_if_eq (tgt := 45) hx hb dX5_isSound_31 (by decide) (fun c_3 => ?_) (fun c_3 => ?_)
      · have hR := hR.trans (if_pos c_3)
        refine lv_iconst (v := 0) hx hb dX5_isSound_45 (by decide) ?_
        have hR := hR.symm
        subst hR
        exact W.zret (v := 0) hx hb hr rfl (fun t ht hW => ⟨⟨_, (), rfl, rfl, by rw [ht]; exact hP, hD⟩, hS.F ht⟩) hS.2.2 dX5_isSound_46
      · have hR := hR.trans (if_neg c_3)
        refine lv_aload_n hx hb dX5_isSound_34 rfl (lv_at hl 0 rfl) ?_
        refine zai (va_runV (As := []) (rest := []) ⟨hx, hb, hml, hown, hts⟩ (c_X5_undoneStepsHaveLines l G cs ad tl σ   H.size) (cwV 0 hts gX5_isSound_X5_undoneStepsHaveLines rfl rfl rfl (by decide +kernel) ⟨Nat.le_of_ble_eq_true rfl, Nat.le_of_ble_eq_true rfl⟩) (zpv hE hP hD hS hA (zg_0 cs ad σ tl) rfl) rfl rfl hl.1 rfl (lv_room (Nat.le_of_ble_eq_true rfl)) dX5_isSound_35 ⟨Nat.le_of_ble_eq_true rfl, Nat.le_of_ble_eq_true rfl⟩) hD hS hA (fun H locs hP hD hS => ?_)
        refine lv_if_eq (tgt := 45) hx hb dX5_isSound_38 (by decide) (fun c_4 => ?_) (fun c_4 => ?_)
        · have hR := hR.trans (if_pos c_4)
          refine lv_iconst (v := 0) hx hb dX5_isSound_45 (by decide) ?_
          have hR := hR.symm
          subst hR
          exact W.zret (v := 0) hx hb hr rfl (fun t ht hW => ⟨⟨_, (), rfl, rfl, by rw [ht]; exact hP, hD⟩, hS.F ht⟩) hS.2.2 dX5_isSound_46
        · have hR := hR.trans (if_neg c_4)
          refine lv_iconst (v := 1) hx hb dX5_isSound_41 (by decide) ?_
          refine lv_goto (tgt := 46) hx hb dX5_isSound_42 (by decide) ?_
          have hR := hR.symm
          subst hR
          exact W.zret (v := 1) hx hb hr rfl (fun t ht hW => ⟨⟨_, (), rfl, rfl, by rw [ht]; exact hP, hD⟩, hS.F ht⟩) hS.2.2 dX5_isSound_46
theorem nar_X5_isSound (σ : zS)  : narrow .boolean (.int (f_X5_isSound σ )) = .int (f_X5_isSound σ ) := by unfold f_X5_isSound; (repeat' split) <;> rfl
