def L_X5_activeAlarmsHaveLines_2 (σ : zS)  : Nat → Int32 → Int32
  | 0, _ => 0
  | n + 1, x1 => (if 32 ≤ x1 then 1 else (if (f_X0_isActive σ x1) = 0 then (L_X5_activeAlarmsHaveLines_2 σ  n (x1 + 1)) else (if (f_X2_isOpen σ (f_X0_lineOf σ x1)) = 0 then 0 else (L_X5_activeAlarmsHaveLines_2 σ  n (x1 + 1)))))
def f_X5_activeAlarmsHaveLines (σ : zS)  : Int32 := (L_X5_activeAlarmsHaveLines_2 σ  33 0)
theorem iX5_activeAlarmsHaveLines : ∀ w ∈ u_ws RX5 TX5 7, w ∈ wsX5_activeAlarmsHaveLines := by decide +kernel
set_option maxRecDepth 100000 in
theorem c_X5_activeAlarmsHaveLines (l : Launch) (G : va_G) (cs : Nat → ClassId) (ad : Nat → Nat) (tl : va_W) (σ : zS)   : zMi l yX5_activeAlarmsHaveLines wsX5_activeAlarmsHaveLines { frames := 3, cells := 0, slots := 0, locals := 62 } G cs [.ref (ad 0)] (zw cs ad σ tl) (f_X5_activeAlarmsHaveLines σ ) (zw cs ad σ tl) 0 0 := by
  intro sz
  refine Met.ofW (cc := cX5_activeAlarmsHaveLines) (maxL := 2) (ret := (some .boolean)) (by decide) rfl ?_
  intro p e s m args below meth c s₁ B hml hv
  obtain ⟨rfl, hsz, hP, hD0, hE⟩ := hv
  have hx := B.exec
  have hb := B.bytes
  have hr := B.returns
  have hts := atoms_spec (ws := wsX5_activeAlarmsHaveLines) B.pre
  have hown : s.vm.findClass RX5 = some m.cls := findClass_of_methodNamed B.named
  have hlocks := B.notSynchronized
  subst hsz
  have hD := hD0.self (sz := s.heap.size)
  have hA : ∀ q : Nat, s.heap.size ≤ q → (va_A (zw cs ad σ tl) s.heap.size) q := fun q h => Or.inr h
  generalize va_A (zw cs ad σ tl) s.heap.size = A at hD hE hA ⊢
  have hS : va_S A s.heap s.heap [] := va_S.rf
  have hl := lv_entry ([.ref (ad 0)]) (n := 2) (Nat.le_of_ble_eq_true rfl)
  rw [lg_entry_eq]
  generalize (lg_sl ([.ref (ad 0)]) ++ List.replicate (2 - (lg_sl ([.ref (ad 0)])).length) Slot.unset).toArray = ls at hl ⊢
  have hl : lv_has ls 2 [(0, .ref (ad 0))] := hl
  generalize hR : (f_X5_activeAlarmsHaveLines σ ) = RV
  have hR := hR.symm
  unfold f_X5_activeAlarmsHaveLines at hR
  obtain ⟨H, hH⟩ : ∃ z, z = s.heap := ⟨_, rfl⟩
  obtain ⟨locs, hlocs⟩ : ∃ z : List Loc, z = [] := ⟨_, rfl⟩
  rw [← hH] at hP
  have hS : va_S A s.heap H locs := by rw [hH, hlocs]; exact hS
  show W _ _ _ _ _ _ _ _ _ _ s.heap [] _ _ _ _
  rw [← hH, ← hlocs]
  clear hlocs
  refine lv_iconst (v := 0) hx hb dX5_activeAlarmsHaveLines_0 (by decide) ?_
  refine lv_istore_n (lv' := [(1, .int 0), (0, .ref (ad 0))]) hx hb dX5_activeAlarmsHaveLines_1 rfl hl (by decide) rfl (fun ls hl => ?_)
  have loop_4 : ∀ (n k : Nat) (x1 : Int32), x1 = nI (k) → k ≤ 32 → k + n = 33 → RV = L_X5_activeAlarmsHaveLines_2 σ  n x1 → ∀ (H : Heap) (locs : List Loc), va_P G vwCl (zw cs ad σ tl) H → va_D A (zw cs ad σ tl) → va_S A s.heap H locs → ∀ ls : Array Slot, lv_has ls 2 [(0, .ref (ad 0)), (1, .int x1)] → W p l e (headSpec wsX5_activeAlarmsHaveLines { frames := 3, cells := 0, slots := 0, locals := 62 }).room s m (List.toArray [.ref (ad 0)]) below meth c H locs 0 0 (MQ below (va_Qi (fun (r : Int32) (_ : Unit) => r = RV) (fun _ t => zPo G A (zw cs ad σ tl) t) A) (List.toArray [.ref (ad 0)]) s 0 0 A) (F0 m 2 ls []) := by
    intro n
    induction n with
    | zero => intro k  x1 ex hk hn; omega
    | succ n ih =>
      intro k  x1 ex hk hn hR H locs hP hD hS ls hl
      rw [L_X5_activeAlarmsHaveLines_2] at hR
      refine lv_iload_n hx hb dX5_activeAlarmsHaveLines_2 rfl (lv_at hl 1 rfl) ?_
      refine lv_bipush (v := 32) hx hb dX5_activeAlarmsHaveLines_3 (by decide) ?_
      refine lv_icmp_ge (tgt := 45) hx hb dX5_activeAlarmsHaveLines_5 (by decide) (fun c_1 => ?_) (fun c_1 => ?_)
      · have hR := hR.trans (if_pos c_1)
        refine lv_iconst (v := 1) hx hb dX5_activeAlarmsHaveLines_45 (by decide) ?_
        have hR := hR.symm
        subst hR
        exact W.zret (v := 1) hx hb hr rfl (fun t ht hW => ⟨⟨_, (), rfl, rfl, by rw [ht]; exact hP, hD⟩, hS.F ht⟩) hS.2.2 dX5_activeAlarmsHaveLines_46
      · have hR := hR.trans (if_neg c_1)
        have hkB : k < 32 := zlt ex (by omega) (by decide) c_1
        refine lv_aload_n hx hb dX5_activeAlarmsHaveLines_8 rfl (lv_at hl 0 rfl) ?_
        refine va_get (D := G) (ci := 7) (v := .ref (ad 9)) (C := RX5) (T := TX5) (N := 7) hx hb hts iX5_activeAlarmsHaveLines hown hE.1 hP 0 (zg_0 cs ad σ tl) rfl 2 (by decide) (hts (.fieldLink RX5 23 "HandoverDeck" "board" "LHandoverDeck$AlarmBoard;") (by decide +kernel)) (fun _ h9 => h9) rfl dX5_activeAlarmsHaveLines_9 ?_
        refine lv_iload_n hx hb dX5_activeAlarmsHaveLines_12 rfl (lv_at hl 1 rfl) ?_
        refine zai (va_runV (As := [.int x1]) (rest := []) ⟨hx, hb, hml, hown, hts⟩ (c_X0_isActive l G cs ad tl σ x1  H.size) (cwV 1 hts gX5_activeAlarmsHaveLines_X0_isActive rfl rfl rfl (by decide +kernel) ⟨Nat.le_of_ble_eq_true rfl, Nat.le_of_ble_eq_true rfl⟩) (zpv hE hP hD hS hA (zg_9 cs ad σ tl) rfl) rfl rfl hl.1 rfl (lv_room (Nat.le_of_ble_eq_true rfl)) dX5_activeAlarmsHaveLines_13 ⟨Nat.le_of_ble_eq_true rfl, Nat.le_of_ble_eq_true rfl⟩) hD hS hA (fun H locs hP hD hS => ?_)
        refine lv_if_eq (tgt := 39) hx hb dX5_activeAlarmsHaveLines_16 (by decide) (fun c_2 => ?_) (fun c_2 => ?_)
        · have hR := hR.trans (if_pos c_2)
          refine lv_iinc (v := (x1 + 1)) (lv' := [(1, .int (x1 + 1)), (0, .ref (ad 0))]) hx hb dX5_activeAlarmsHaveLines_39 hl (k := 1) rfl rfl (by decide) rfl (fun ls hl => ?_)
          refine lv_goto (tgt := 2) hx hb dX5_activeAlarmsHaveLines_42 (by decide) ?_
          exact ih (k + 1)  (x1 + 1) (by rw [ex]; exact nI_1 _) (by omega) (by omega)  hR H locs hP hD hS ls (lv_sub hl [1, 0] rfl)
        · have hR := hR.trans (if_neg c_2)
          refine lv_aload_n hx hb dX5_activeAlarmsHaveLines_19 rfl (lv_at hl 0 rfl) ?_
          refine va_get (D := G) (ci := 7) (v := .ref (ad 2)) (C := RX5) (T := TX5) (N := 7) hx hb hts iX5_activeAlarmsHaveLines hown hE.1 hP 0 (zg_0 cs ad σ tl) rfl 1 (by decide) (hts (.fieldLink RX5 16 "HandoverDeck" "log" "LHandoverDeck$Log;") (by decide +kernel)) (fun _ h9 => h9) rfl dX5_activeAlarmsHaveLines_20 ?_
          refine lv_aload_n hx hb dX5_activeAlarmsHaveLines_23 rfl (lv_at hl 0 rfl) ?_
          refine va_get (D := G) (ci := 7) (v := .ref (ad 9)) (C := RX5) (T := TX5) (N := 7) hx hb hts iX5_activeAlarmsHaveLines hown hE.1 hP 0 (zg_0 cs ad σ tl) rfl 2 (by decide) (hts (.fieldLink RX5 23 "HandoverDeck" "board" "LHandoverDeck$AlarmBoard;") (by decide +kernel)) (fun _ h9 => h9) rfl dX5_activeAlarmsHaveLines_24 ?_
          refine lv_iload_n hx hb dX5_activeAlarmsHaveLines_27 rfl (lv_at hl 1 rfl) ?_
          refine zai (va_runV (As := [.int x1]) (rest := [.ref (ad 2)]) ⟨hx, hb, hml, hown, hts⟩ (c_X0_lineOf l G cs ad tl σ x1  H.size) (cwV 1 hts gX5_activeAlarmsHaveLines_X0_lineOf rfl rfl rfl (by decide +kernel) ⟨Nat.le_of_ble_eq_true rfl, Nat.le_of_ble_eq_true rfl⟩) (zpv hE hP hD hS hA (zg_9 cs ad σ tl) rfl) rfl rfl hl.1 rfl (lv_room (Nat.le_of_ble_eq_true rfl)) dX5_activeAlarmsHaveLines_28 ⟨Nat.le_of_ble_eq_true rfl, Nat.le_of_ble_eq_true rfl⟩) hD hS hA (fun H locs hP hD hS => ?_)
          refine zai (va_runV (As := [.int (f_X0_lineOf σ x1)]) (rest := []) ⟨hx, hb, hml, hown, hts⟩ (c_X2_isOpen l G cs ad tl σ (f_X0_lineOf σ x1)  H.size) (cwV 1 hts gX5_activeAlarmsHaveLines_X2_isOpen rfl rfl rfl (by decide +kernel) ⟨Nat.le_of_ble_eq_true rfl, Nat.le_of_ble_eq_true rfl⟩) (zpv hE hP hD hS hA (zg_2 cs ad σ tl) rfl) rfl rfl hl.1 rfl (lv_room (Nat.le_of_ble_eq_true rfl)) dX5_activeAlarmsHaveLines_31 ⟨Nat.le_of_ble_eq_true rfl, Nat.le_of_ble_eq_true rfl⟩) hD hS hA (fun H locs hP hD hS => ?_)
          refine lv_if_ne (tgt := 39) hx hb dX5_activeAlarmsHaveLines_34 (by decide) (fun c_3 => ?_) (fun c_3 => ?_)
          · have hR := hR.trans (if_neg c_3)
            refine lv_iinc (v := (x1 + 1)) (lv' := [(1, .int (x1 + 1)), (0, .ref (ad 0))]) hx hb dX5_activeAlarmsHaveLines_39 hl (k := 1) rfl rfl (by decide) rfl (fun ls hl => ?_)
            refine lv_goto (tgt := 2) hx hb dX5_activeAlarmsHaveLines_42 (by decide) ?_
            exact ih (k + 1)  (x1 + 1) (by rw [ex]; exact nI_1 _) (by omega) (by omega)  hR H locs hP hD hS ls (lv_sub hl [1, 0] rfl)
          · have hR := hR.trans (if_pos c_3)
            refine lv_iconst (v := 0) hx hb dX5_activeAlarmsHaveLines_37 (by decide) ?_
            have hR := hR.symm
            subst hR
            exact W.zret (v := 0) hx hb hr rfl (fun t ht hW => ⟨⟨_, (), rfl, rfl, by rw [ht]; exact hP, hD⟩, hS.F ht⟩) hS.2.2 dX5_activeAlarmsHaveLines_38
  exact loop_4 33 0  0 nI_0.symm (by omega) (by omega)  hR H locs hP hD hS ls (lv_sub hl [1, 0] rfl)
def L_X5_undoneStepsHaveLines_2 (σ : zS)  : Nat → Int32 → Int32
  | 0, _ => 0
  | n + 1, x1 => (if 48 ≤ x1 then 1 else (if (f_X4_isUndone σ x1) = 0 then (L_X5_undoneStepsHaveLines_2 σ  n (x1 + 1)) else (if (f_X2_isOpen σ (f_X4_undoneLineOf σ x1)) = 0 then 0 else (L_X5_undoneStepsHaveLines_2 σ  n (x1 + 1)))))
def f_X5_undoneStepsHaveLines (σ : zS)  : Int32 := (L_X5_undoneStepsHaveLines_2 σ  49 0)
theorem iX5_undoneStepsHaveLines : ∀ w ∈ u_ws RX5 TX5 7, w ∈ wsX5_undoneStepsHaveLines := by decide +kernel
set_option maxRecDepth 100000 in
theorem c_X5_undoneStepsHaveLines (l : Launch) (G : va_G) (cs : Nat → ClassId) (ad : Nat → Nat) (tl : va_W) (σ : zS)   : zMi l yX5_undoneStepsHaveLines wsX5_undoneStepsHaveLines { frames := 4, cells := 0, slots := 0, locals := 84 } G cs [.ref (ad 0)] (zw cs ad σ tl) (f_X5_undoneStepsHaveLines σ ) (zw cs ad σ tl) 0 0 := by
  intro sz
  refine Met.ofW (cc := cX5_undoneStepsHaveLines) (maxL := 2) (ret := (some .boolean)) (by decide) rfl ?_
  intro p e s m args below meth c s₁ B hml hv
  obtain ⟨rfl, hsz, hP, hD0, hE⟩ := hv
  have hx := B.exec
  have hb := B.bytes
  have hr := B.returns
  have hts := atoms_spec (ws := wsX5_undoneStepsHaveLines) B.pre
  have hown : s.vm.findClass RX5 = some m.cls := findClass_of_methodNamed B.named
  have hlocks := B.notSynchronized
  subst hsz
  have hD := hD0.self (sz := s.heap.size)
  have hA : ∀ q : Nat, s.heap.size ≤ q → (va_A (zw cs ad σ tl) s.heap.size) q := fun q h => Or.inr h
  generalize va_A (zw cs ad σ tl) s.heap.size = A at hD hE hA ⊢
  have hS : va_S A s.heap s.heap [] := va_S.rf
  have hl := lv_entry ([.ref (ad 0)]) (n := 2) (Nat.le_of_ble_eq_true rfl)
  rw [lg_entry_eq]
  generalize (lg_sl ([.ref (ad 0)]) ++ List.replicate (2 - (lg_sl ([.ref (ad 0)])).length) Slot.unset).toArray = ls at hl ⊢
  have hl : lv_has ls 2 [(0, .ref (ad 0))] := hl
  generalize hR : (f_X5_undoneStepsHaveLines σ ) = RV
  have hR := hR.symm
  unfold f_X5_undoneStepsHaveLines at hR
  obtain ⟨H, hH⟩ : ∃ z, z = s.heap := ⟨_, rfl⟩
  obtain ⟨locs, hlocs⟩ : ∃ z : List Loc, z = [] := ⟨_, rfl⟩
  rw [← hH] at hP
  have hS : va_S A s.heap H locs := by rw [hH, hlocs]; exact hS
  show W _ _ _ _ _ _ _ _ _ _ s.heap [] _ _ _ _
  rw [← hH, ← hlocs]
  clear hlocs
  refine lv_iconst (v := 0) hx hb dX5_undoneStepsHaveLines_0 (by decide) ?_
  refine lv_istore_n (lv' := [(1, .int 0), (0, .ref (ad 0))]) hx hb dX5_undoneStepsHaveLines_1 rfl hl (by decide) rfl (fun ls hl => ?_)
  have loop_4 : ∀ (n k : Nat) (x1 : Int32), x1 = nI (k) → k ≤ 48 → k + n = 49 → RV = L_X5_undoneStepsHaveLines_2 σ  n x1 → ∀ (H : Heap) (locs : List Loc), va_P G vwCl (zw cs ad σ tl) H → va_D A (zw cs ad σ tl) → va_S A s.heap H locs → ∀ ls : Array Slot, lv_has ls 2 [(0, .ref (ad 0)), (1, .int x1)] → W p l e (headSpec wsX5_undoneStepsHaveLines { frames := 4, cells := 0, slots := 0, locals := 84 }).room s m (List.toArray [.ref (ad 0)]) below meth c H locs 0 0 (MQ below (va_Qi (fun (r : Int32) (_ : Unit) => r = RV) (fun _ t => zPo G A (zw cs ad σ tl) t) A) (List.toArray [.ref (ad 0)]) s 0 0 A) (F0 m 2 ls []) := by
    intro n
    induction n with
    | zero => intro k  x1 ex hk hn; omega
    | succ n ih =>
      intro k  x1 ex hk hn hR H locs hP hD hS ls hl
      rw [L_X5_undoneStepsHaveLines_2] at hR
      refine lv_iload_n hx hb dX5_undoneStepsHaveLines_2 rfl (lv_at hl 1 rfl) ?_
      refine lv_bipush (v := 48) hx hb dX5_undoneStepsHaveLines_3 (by decide) ?_
      refine lv_icmp_ge (tgt := 45) hx hb dX5_undoneStepsHaveLines_5 (by decide) (fun c_1 => ?_) (fun c_1 => ?_)
      · have hR := hR.trans (if_pos c_1)
        refine lv_iconst (v := 1) hx hb dX5_undoneStepsHaveLines_45 (by decide) ?_
        have hR := hR.symm
        subst hR
        exact W.zret (v := 1) hx hb hr rfl (fun t ht hW => ⟨⟨_, (), rfl, rfl, by rw [ht]; exact hP, hD⟩, hS.F ht⟩) hS.2.2 dX5_undoneStepsHaveLines_46
      · have hR := hR.trans (if_neg c_1)
        have hkB : k < 48 := zlt ex (by omega) (by decide) c_1
        refine lv_aload_n hx hb dX5_undoneStepsHaveLines_8 rfl (lv_at hl 0 rfl) ?_
        refine va_get (D := G) (ci := 7) (v := .ref (ad 13)) (C := RX5) (T := TX5) (N := 7) hx hb hts iX5_undoneStepsHaveLines hown hE.1 hP 0 (zg_0 cs ad σ tl) rfl 3 (by decide) (hts (.fieldLink RX5 30 "HandoverDeck" "book" "LHandoverDeck$ProcedureBook;") (by decide +kernel)) (fun _ h9 => h9) rfl dX5_undoneStepsHaveLines_9 ?_
        refine lv_iload_n hx hb dX5_undoneStepsHaveLines_12 rfl (lv_at hl 1 rfl) ?_
        refine zai (va_runV (As := [.int x1]) (rest := []) ⟨hx, hb, hml, hown, hts⟩ (c_X4_isUndone l G cs ad tl σ x1  H.size) (cwV 1 hts gX5_undoneStepsHaveLines_X4_isUndone rfl rfl rfl (by decide +kernel) ⟨Nat.le_of_ble_eq_true rfl, Nat.le_of_ble_eq_true rfl⟩) (zpv hE hP hD hS hA (zg_13 cs ad σ tl) rfl) rfl rfl hl.1 rfl (lv_room (Nat.le_of_ble_eq_true rfl)) dX5_undoneStepsHaveLines_13 ⟨Nat.le_of_ble_eq_true rfl, Nat.le_of_ble_eq_true rfl⟩) hD hS hA (fun H locs hP hD hS => ?_)
        refine lv_if_eq (tgt := 39) hx hb dX5_undoneStepsHaveLines_16 (by decide) (fun c_2 => ?_) (fun c_2 => ?_)
        · have hR := hR.trans (if_pos c_2)
          refine lv_iinc (v := (x1 + 1)) (lv' := [(1, .int (x1 + 1)), (0, .ref (ad 0))]) hx hb dX5_undoneStepsHaveLines_39 hl (k := 1) rfl rfl (by decide) rfl (fun ls hl => ?_)
          refine lv_goto (tgt := 2) hx hb dX5_undoneStepsHaveLines_42 (by decide) ?_
          exact ih (k + 1)  (x1 + 1) (by rw [ex]; exact nI_1 _) (by omega) (by omega)  hR H locs hP hD hS ls (lv_sub hl [1, 0] rfl)
        · have hR := hR.trans (if_neg c_2)
          refine lv_aload_n hx hb dX5_undoneStepsHaveLines_19 rfl (lv_at hl 0 rfl) ?_
          refine va_get (D := G) (ci := 7) (v := .ref (ad 2)) (C := RX5) (T := TX5) (N := 7) hx hb hts iX5_undoneStepsHaveLines hown hE.1 hP 0 (zg_0 cs ad σ tl) rfl 1 (by decide) (hts (.fieldLink RX5 16 "HandoverDeck" "log" "LHandoverDeck$Log;") (by decide +kernel)) (fun _ h9 => h9) rfl dX5_undoneStepsHaveLines_20 ?_
          refine lv_aload_n hx hb dX5_undoneStepsHaveLines_23 rfl (lv_at hl 0 rfl) ?_
          refine va_get (D := G) (ci := 7) (v := .ref (ad 13)) (C := RX5) (T := TX5) (N := 7) hx hb hts iX5_undoneStepsHaveLines hown hE.1 hP 0 (zg_0 cs ad σ tl) rfl 3 (by decide) (hts (.fieldLink RX5 30 "HandoverDeck" "book" "LHandoverDeck$ProcedureBook;") (by decide +kernel)) (fun _ h9 => h9) rfl dX5_undoneStepsHaveLines_24 ?_
          refine lv_iload_n hx hb dX5_undoneStepsHaveLines_27 rfl (lv_at hl 1 rfl) ?_
          refine zai (va_runV (As := [.int x1]) (rest := [.ref (ad 2)]) ⟨hx, hb, hml, hown, hts⟩ (c_X4_undoneLineOf l G cs ad tl σ x1  H.size) (cwV 1 hts gX5_undoneStepsHaveLines_X4_undoneLineOf rfl rfl rfl (by decide +kernel) ⟨Nat.le_of_ble_eq_true rfl, Nat.le_of_ble_eq_true rfl⟩) (zpv hE hP hD hS hA (zg_13 cs ad σ tl) rfl) rfl rfl hl.1 rfl (lv_room (Nat.le_of_ble_eq_true rfl)) dX5_undoneStepsHaveLines_28 ⟨Nat.le_of_ble_eq_true rfl, Nat.le_of_ble_eq_true rfl⟩) hD hS hA (fun H locs hP hD hS => ?_)
          refine zai (va_runV (As := [.int (f_X4_undoneLineOf σ x1)]) (rest := []) ⟨hx, hb, hml, hown, hts⟩ (c_X2_isOpen l G cs ad tl σ (f_X4_undoneLineOf σ x1)  H.size) (cwV 1 hts gX5_undoneStepsHaveLines_X2_isOpen rfl rfl rfl (by decide +kernel) ⟨Nat.le_of_ble_eq_true rfl, Nat.le_of_ble_eq_true rfl⟩) (zpv hE hP hD hS hA (zg_2 cs ad σ tl) rfl) rfl rfl hl.1 rfl (lv_room (Nat.le_of_ble_eq_true rfl)) dX5_undoneStepsHaveLines_31 ⟨Nat.le_of_ble_eq_true rfl, Nat.le_of_ble_eq_true rfl⟩) hD hS hA (fun H locs hP hD hS => ?_)
          refine lv_if_ne (tgt := 39) hx hb dX5_undoneStepsHaveLines_34 (by decide) (fun c_3 => ?_) (fun c_3 => ?_)
          · have hR := hR.trans (if_neg c_3)
            refine lv_iinc (v := (x1 + 1)) (lv' := [(1, .int (x1 + 1)), (0, .ref (ad 0))]) hx hb dX5_undoneStepsHaveLines_39 hl (k := 1) rfl rfl (by decide) rfl (fun ls hl => ?_)
            refine lv_goto (tgt := 2) hx hb dX5_undoneStepsHaveLines_42 (by decide) ?_
            exact ih (k + 1)  (x1 + 1) (by rw [ex]; exact nI_1 _) (by omega) (by omega)  hR H locs hP hD hS ls (lv_sub hl [1, 0] rfl)
          · have hR := hR.trans (if_pos c_3)
            refine lv_iconst (v := 0) hx hb dX5_undoneStepsHaveLines_37 (by decide) ?_
            have hR := hR.symm
            subst hR
            exact W.zret (v := 0) hx hb hr rfl (fun t ht hW => ⟨⟨_, (), rfl, rfl, by rw [ht]; exact hP, hD⟩, hS.F ht⟩) hS.2.2 dX5_undoneStepsHaveLines_38
  exact loop_4 49 0  0 nI_0.symm (by omega) (by omega)  hR H locs hP hD hS ls (lv_sub hl [1, 0] rfl)
def f_X5_stateOf (σ : zS) (a1 : Int32) : Int32 := (if (f_X5_isUnit a1) = 0 then 0 else (σ 1 a1.toNatClampNeg))
theorem iX5_stateOf : ∀ w ∈ u_ws RX5 TX5 7, w ∈ wsX5_stateOf := by decide +kernel
set_option maxRecDepth 100000 in
theorem c_X5_stateOf (l : Launch) (G : va_G) (cs : Nat → ClassId) (ad : Nat → Nat) (tl : va_W) (σ : zS) (a1 : Int32)  : zMi l yX5_stateOf wsX5_stateOf { frames := 1, cells := 0, slots := 0, locals := 20 } G cs [.ref (ad 0), .int a1] (zw cs ad σ tl) (f_X5_stateOf σ a1) (zw cs ad σ tl) 0 0 := by
  intro sz
  refine Met.ofW (cc := cX5_stateOf) (maxL := 2) (ret := (some .int)) (by decide) rfl ?_
  intro p e s m args below meth c s₁ B hml hv
  obtain ⟨rfl, hsz, hP, hD0, hE⟩ := hv
  have hx := B.exec
  have hb := B.bytes
  have hr := B.returns
  have hts := atoms_spec (ws := wsX5_stateOf) B.pre
  have hown : s.vm.findClass RX5 = some m.cls := findClass_of_methodNamed B.named
  have hlocks := B.notSynchronized
  subst hsz
  have hD := hD0.self (sz := s.heap.size)
  have hA : ∀ q : Nat, s.heap.size ≤ q → (va_A (zw cs ad σ tl) s.heap.size) q := fun q h => Or.inr h
  generalize va_A (zw cs ad σ tl) s.heap.size = A at hD hE hA ⊢
  have hS : va_S A s.heap s.heap [] := va_S.rf
  have hl := lv_entry ([.ref (ad 0), .int a1]) (n := 2) (Nat.le_of_ble_eq_true rfl)
  rw [lg_entry_eq]
  generalize (lg_sl ([.ref (ad 0), .int a1]) ++ List.replicate (2 - (lg_sl ([.ref (ad 0), .int a1])).length) Slot.unset).toArray = ls at hl ⊢
  have hl : lv_has ls 2 [(0, .ref (ad 0)), (1, .int a1)] := hl
  generalize hR : (f_X5_stateOf σ a1) = RV
  have hR := hR.symm
  unfold f_X5_stateOf at hR
  obtain ⟨H, hH⟩ : ∃ z, z = s.heap := ⟨_, rfl⟩
  obtain ⟨locs, hlocs⟩ : ∃ z : List Loc, z = [] := ⟨_, rfl⟩
  rw [← hH] at hP
  have hS : va_S A s.heap H locs := by rw [hH, hlocs]; exact hS
  show W _ _ _ _ _ _ _ _ _ _ s.heap [] _ _ _ _
  rw [← hH, ← hlocs]
  clear hlocs
  refine lv_iload_n hx hb dX5_stateOf_0 rfl (lv_at hl 1 rfl) ?_
  refine zai (va_runS (As := [.int a1]) (rest := []) ⟨hx, hb, hml, hown, hts⟩ (c_X5_isUnit l G cs ad tl σ a1  H.size) (va_cwS 1 hts gX5_stateOf_X5_isUnit rfl rfl rfl (by decide +kernel) ⟨Nat.le_of_ble_eq_true rfl, Nat.le_of_ble_eq_true rfl⟩) (zps hE hP hD hS hA) rfl rfl hl.1 rfl (lv_room (Nat.le_of_ble_eq_true rfl)) dX5_stateOf_1 ⟨Nat.le_of_ble_eq_true rfl, Nat.le_of_ble_eq_true rfl⟩) hD hS hA (fun H locs hP hD hS => ?_)
  refine lv_if_eq (tgt := 16) hx hb dX5_stateOf_4 (by decide) (fun c_1 => ?_) (fun c_1 => ?_)
  · have hR := hR.trans (if_pos c_1)
    refine lv_iconst (v := 0) hx hb dX5_stateOf_16 (by decide) ?_
    have hR := hR.symm
    subst hR
    exact W.iret (v := 0) hx hb hr (fun t ht hW => ⟨⟨_, (), rfl, rfl, by rw [ht]; exact hP, hD⟩, hS.F ht⟩) hS.2.2 dX5_stateOf_17
  · have hR := hR.trans (if_neg c_1)
    refine lv_aload_n hx hb dX5_stateOf_7 rfl (lv_at hl 0 rfl) ?_
    refine va_get (D := G) (ci := 7) (v := .ref (ad 1)) (C := RX5) (T := TX5) (N := 7) hx hb hts iX5_stateOf hown hE.1 hP 0 (zg_0 cs ad σ tl) rfl 0 (by decide) (hts (.fieldLink RX5 9 "HandoverDeck" "states" "[I") (by decide +kernel)) (fun _ h9 => h9) rfl dX5_stateOf_8 ?_
    refine lv_iload_n hx hb dX5_stateOf_11 rfl (lv_at hl 1 rfl) ?_
    refine z_iald (v := (σ 1 a1.toNatClampNeg)) hx hb hE hP (zg_1 cs ad σ tl) (vin_X5_isUnit c_1) rfl dX5_stateOf_12 ?_
    refine lv_goto (tgt := 17) hx hb dX5_stateOf_13 (by decide) ?_
    have hR := hR.symm
    subst hR
    exact W.iret (v := (σ 1 a1.toNatClampNeg)) hx hb hr (fun t ht hW => ⟨⟨_, (), rfl, rfl, by rw [ht]; exact hP, hD⟩, hS.F ht⟩) hS.2.2 dX5_stateOf_17
def f_X5_reasonOf (σ : zS) (a1 : Int32) : Int32 := (if (f_X4_nextPlace σ a1) = (-1) then 101 else (if (f_X1_isAtWork σ ) = 0 then 100 else (if (f_X1_isWeary σ (σ 0 6)) = 0 then (if (f_X3_firstOpenWith σ (f_X5_unitBit (f_X4_unitOf σ (f_X4_nextPlace σ a1)))) = (-1) then (if (f_X5_stateOf σ (f_X4_neededOf σ (f_X4_nextPlace σ a1))) = (f_X4_neededStateOf σ (f_X4_nextPlace σ a1)) then 45 else 110) else 98) else 116)))
theorem iX5_reasonOf : ∀ w ∈ u_ws RX5 TX5 7, w ∈ wsX5_reasonOf := by decide +kernel
set_option maxRecDepth 100000 in
theorem c_X5_reasonOf (l : Launch) (G : va_G) (cs : Nat → ClassId) (ad : Nat → Nat) (tl : va_W) (σ : zS) (a1 : Int32)  : zMi l yX5_reasonOf wsX5_reasonOf { frames := 3, cells := 0, slots := 0, locals := 64 } G cs [.ref (ad 0), .int a1] (zw cs ad σ tl) (f_X5_reasonOf σ a1) (zw cs ad σ tl) 0 0 := by
  intro sz
  refine Met.ofW (cc := cX5_reasonOf) (maxL := 3) (ret := (some .char)) (by decide) rfl ?_
  intro p e s m args below meth c s₁ B hml hv
  obtain ⟨rfl, hsz, hP, hD0, hE⟩ := hv
  have hx := B.exec
  have hb := B.bytes
  have hr := B.returns
  have hts := atoms_spec (ws := wsX5_reasonOf) B.pre
  have hown : s.vm.findClass RX5 = some m.cls := findClass_of_methodNamed B.named
  have hlocks := B.notSynchronized
  subst hsz
  have hD := hD0.self (sz := s.heap.size)
  have hA : ∀ q : Nat, s.heap.size ≤ q → (va_A (zw cs ad σ tl) s.heap.size) q := fun q h => Or.inr h
  generalize va_A (zw cs ad σ tl) s.heap.size = A at hD hE hA ⊢
  have hS : va_S A s.heap s.heap [] := va_S.rf
  have hl := lv_entry ([.ref (ad 0), .int a1]) (n := 3) (Nat.le_of_ble_eq_true rfl)
  rw [lg_entry_eq]
  generalize (lg_sl ([.ref (ad 0), .int a1]) ++ List.replicate (3 - (lg_sl ([.ref (ad 0), .int a1])).length) Slot.unset).toArray = ls at hl ⊢
  have hl : lv_has ls 3 [(0, .ref (ad 0)), (1, .int a1)] := hl
  generalize hR : (f_X5_reasonOf σ a1) = RV
  have hR := hR.symm
  unfold f_X5_reasonOf at hR
  obtain ⟨H, hH⟩ : ∃ z, z = s.heap := ⟨_, rfl⟩
  obtain ⟨locs, hlocs⟩ : ∃ z : List Loc, z = [] := ⟨_, rfl⟩
  rw [← hH] at hP
  have hS : va_S A s.heap H locs := by rw [hH, hlocs]; exact hS
  show W _ _ _ _ _ _ _ _ _ _ s.heap [] _ _ _ _
  rw [← hH, ← hlocs]
  clear hlocs
  refine lv_aload_n hx hb dX5_reasonOf_0 rfl (lv_at hl 0 rfl) ?_
  refine va_get (D := G) (ci := 7) (v := .ref (ad 13)) (C := RX5) (T := TX5) (N := 7) hx hb hts iX5_reasonOf hown hE.1 hP 0 (zg_0 cs ad σ tl) rfl 3 (by decide) (hts (.fieldLink RX5 30 "HandoverDeck" "book" "LHandoverDeck$ProcedureBook;") (by decide +kernel)) (fun _ h9 => h9) rfl dX5_reasonOf_1 ?_
  refine lv_iload_n hx hb dX5_reasonOf_4 rfl (lv_at hl 1 rfl) ?_
  refine zai (va_runV (As := [.int a1]) (rest := []) ⟨hx, hb, hml, hown, hts⟩ (c_X4_nextPlace l G cs ad tl σ a1  H.size) (cwV 1 hts gX5_reasonOf_X4_nextPlace rfl rfl rfl (by decide +kernel) ⟨Nat.le_of_ble_eq_true rfl, Nat.le_of_ble_eq_true rfl⟩) (zpv hE hP hD hS hA (zg_13 cs ad σ tl) rfl) rfl rfl hl.1 rfl (lv_room (Nat.le_of_ble_eq_true rfl)) dX5_reasonOf_5 ⟨Nat.le_of_ble_eq_true rfl, Nat.le_of_ble_eq_true rfl⟩) hD hS hA (fun H locs hP hD hS => ?_)
  refine lv_istore_n (lv' := [(2, .int (f_X4_nextPlace σ a1)), (0, .ref (ad 0)), (1, .int a1)]) hx hb dX5_reasonOf_8 rfl hl (by decide) rfl (fun ls hl => ?_)
  refine lv_iload_n hx hb dX5_reasonOf_9 rfl (lv_at hl 0 rfl) ?_
  refine lv_iconst (v := (-1)) hx hb dX5_reasonOf_10 (by decide) ?_
  refine lv_icmp_ne (tgt := 17) hx hb dX5_reasonOf_11 (by decide) (fun c_1 => ?_) (fun c_1 => ?_)
  · have hR := hR.trans (if_neg c_1)
    refine lv_aload_n hx hb dX5_reasonOf_17 rfl (lv_at hl 1 rfl) ?_
    refine va_get (D := G) (ci := 7) (v := .ref (ad 27)) (C := RX5) (T := TX5) (N := 7) hx hb hts iX5_reasonOf hown hE.1 hP 0 (zg_0 cs ad σ tl) rfl 5 (by decide) (hts (.fieldLink RX5 44 "HandoverDeck" "roster" "LHandoverDeck$CrewRoster;") (by decide +kernel)) (fun _ h9 => h9) rfl dX5_reasonOf_18 ?_
    refine zai (va_runV (As := []) (rest := []) ⟨hx, hb, hml, hown, hts⟩ (c_X1_isAtWork l G cs ad tl σ   H.size) (cwV 0 hts gX5_reasonOf_X1_isAtWork rfl rfl rfl (by decide +kernel) ⟨Nat.le_of_ble_eq_true rfl, Nat.le_of_ble_eq_true rfl⟩) (zpv hE hP hD hS hA (zg_27 cs ad σ tl) rfl) rfl rfl hl.1 rfl (lv_room (Nat.le_of_ble_eq_true rfl)) dX5_reasonOf_21 ⟨Nat.le_of_ble_eq_true rfl, Nat.le_of_ble_eq_true rfl⟩) hD hS hA (fun H locs hP hD hS => ?_)
    refine lv_if_ne (tgt := 30) hx hb dX5_reasonOf_24 (by decide) (fun c_2 => ?_) (fun c_2 => ?_)
    · have hR := hR.trans (if_neg c_2)
      refine lv_aload_n hx hb dX5_reasonOf_30 rfl (lv_at hl 1 rfl) ?_
      refine va_get (D := G) (ci := 7) (v := .ref (ad 27)) (C := RX5) (T := TX5) (N := 7) hx hb hts iX5_reasonOf hown hE.1 hP 0 (zg_0 cs ad σ tl) rfl 5 (by decide) (hts (.fieldLink RX5 44 "HandoverDeck" "roster" "LHandoverDeck$CrewRoster;") (by decide +kernel)) (fun _ h9 => h9) rfl dX5_reasonOf_31 ?_
      refine lv_aload_n hx hb dX5_reasonOf_34 rfl (lv_at hl 1 rfl) ?_
      refine va_get (D := G) (ci := 7) (v := .int (σ 0 6)) (C := RX5) (T := TX5) (N := 7) hx hb hts iX5_reasonOf hown hE.1 hP 0 (zg_0 cs ad σ tl) rfl 6 (by decide) (hts (.fieldLink RX5 81 "HandoverDeck" "now" "I") (by decide +kernel)) (fun _ h9 => h9) rfl dX5_reasonOf_35 ?_
      refine zai (va_runV (As := [.int (σ 0 6)]) (rest := []) ⟨hx, hb, hml, hown, hts⟩ (c_X1_isWeary l G cs ad tl σ (σ 0 6)  H.size) (cwV 1 hts gX5_reasonOf_X1_isWeary rfl rfl rfl (by decide +kernel) ⟨Nat.le_of_ble_eq_true rfl, Nat.le_of_ble_eq_true rfl⟩) (zpv hE hP hD hS hA (zg_27 cs ad σ tl) rfl) rfl rfl hl.1 rfl (lv_room (Nat.le_of_ble_eq_true rfl)) dX5_reasonOf_38 ⟨Nat.le_of_ble_eq_true rfl, Nat.le_of_ble_eq_true rfl⟩) hD hS hA (fun H locs hP hD hS => ?_)
      refine lv_if_eq (tgt := 47) hx hb dX5_reasonOf_41 (by decide) (fun c_3 => ?_) (fun c_3 => ?_)
      · have hR := hR.trans (if_pos c_3)
        refine lv_aload_n hx hb dX5_reasonOf_47 rfl (lv_at hl 1 rfl) ?_
        refine va_get (D := G) (ci := 7) (v := .ref (ad 23)) (C := RX5) (T := TX5) (N := 7) hx hb hts iX5_reasonOf hown hE.1 hP 0 (zg_0 cs ad σ tl) rfl 4 (by decide) (hts (.fieldLink RX5 37 "HandoverDeck" "permits" "LHandoverDeck$PermitRack;") (by decide +kernel)) (fun _ h9 => h9) rfl dX5_reasonOf_48 ?_
        refine lv_aload_n hx hb dX5_reasonOf_51 rfl (lv_at hl 1 rfl) ?_
        refine va_get (D := G) (ci := 7) (v := .ref (ad 13)) (C := RX5) (T := TX5) (N := 7) hx hb hts iX5_reasonOf hown hE.1 hP 0 (zg_0 cs ad σ tl) rfl 3 (by decide) (hts (.fieldLink RX5 30 "HandoverDeck" "book" "LHandoverDeck$ProcedureBook;") (by decide +kernel)) (fun _ h9 => h9) rfl dX5_reasonOf_52 ?_
        refine lv_iload_n hx hb dX5_reasonOf_55 rfl (lv_at hl 0 rfl) ?_
        refine zai (va_runV (As := [.int (f_X4_nextPlace σ a1)]) (rest := [.ref (ad 23)]) ⟨hx, hb, hml, hown, hts⟩ (c_X4_unitOf l G cs ad tl σ (f_X4_nextPlace σ a1)  H.size) (cwV 1 hts gX5_reasonOf_X4_unitOf rfl rfl rfl (by decide +kernel) ⟨Nat.le_of_ble_eq_true rfl, Nat.le_of_ble_eq_true rfl⟩) (zpv hE hP hD hS hA (zg_13 cs ad σ tl) rfl) rfl rfl hl.1 rfl (lv_room (Nat.le_of_ble_eq_true rfl)) dX5_reasonOf_56 ⟨Nat.le_of_ble_eq_true rfl, Nat.le_of_ble_eq_true rfl⟩) hD hS hA (fun H locs hP hD hS => ?_)
        refine zai (va_runS (As := [.int (f_X4_unitOf σ (f_X4_nextPlace σ a1))]) (rest := [.ref (ad 23)]) ⟨hx, hb, hml, hown, hts⟩ (c_X5_unitBit l G cs ad tl σ (f_X4_unitOf σ (f_X4_nextPlace σ a1))  H.size) (va_cwS 1 hts gX5_reasonOf_X5_unitBit rfl rfl rfl (by decide +kernel) ⟨Nat.le_of_ble_eq_true rfl, Nat.le_of_ble_eq_true rfl⟩) (zps hE hP hD hS hA) rfl rfl hl.1 rfl (lv_room (Nat.le_of_ble_eq_true rfl)) dX5_reasonOf_59 ⟨Nat.le_of_ble_eq_true rfl, Nat.le_of_ble_eq_true rfl⟩) hD hS hA (fun H locs hP hD hS => ?_)
        refine zai (va_runV (As := [.int (f_X5_unitBit (f_X4_unitOf σ (f_X4_nextPlace σ a1)))]) (rest := []) ⟨hx, hb, hml, hown, hts⟩ (c_X3_firstOpenWith l G cs ad tl σ (f_X5_unitBit (f_X4_unitOf σ (f_X4_nextPlace σ a1)))  H.size) (cwV 1 hts gX5_reasonOf_X3_firstOpenWith rfl rfl rfl (by decide +kernel) ⟨Nat.le_of_ble_eq_true rfl, Nat.le_of_ble_eq_true rfl⟩) (zpv hE hP hD hS hA (zg_23 cs ad σ tl) rfl) rfl rfl hl.1 rfl (lv_room (Nat.le_of_ble_eq_true rfl)) dX5_reasonOf_62 ⟨Nat.le_of_ble_eq_true rfl, Nat.le_of_ble_eq_true rfl⟩) hD hS hA (fun H locs hP hD hS => ?_)
        refine lv_iconst (v := (-1)) hx hb dX5_reasonOf_65 (by decide) ?_
        refine lv_icmp_eq (tgt := 72) hx hb dX5_reasonOf_66 (by decide) (fun c_4 => ?_) (fun c_4 => ?_)
        · have hR := hR.trans (if_pos c_4)
          refine lv_aload_n hx hb dX5_reasonOf_72 rfl (lv_at hl 1 rfl) ?_
          refine lv_aload_n hx hb dX5_reasonOf_73 rfl (lv_at hl 1 rfl) ?_
          refine va_get (D := G) (ci := 7) (v := .ref (ad 13)) (C := RX5) (T := TX5) (N := 7) hx hb hts iX5_reasonOf hown hE.1 hP 0 (zg_0 cs ad σ tl) rfl 3 (by decide) (hts (.fieldLink RX5 30 "HandoverDeck" "book" "LHandoverDeck$ProcedureBook;") (by decide +kernel)) (fun _ h9 => h9) rfl dX5_reasonOf_74 ?_
          refine lv_iload_n hx hb dX5_reasonOf_77 rfl (lv_at hl 0 rfl) ?_
          refine zai (va_runV (As := [.int (f_X4_nextPlace σ a1)]) (rest := [.ref (ad 0)]) ⟨hx, hb, hml, hown, hts⟩ (c_X4_neededOf l G cs ad tl σ (f_X4_nextPlace σ a1)  H.size) (cwV 1 hts gX5_reasonOf_X4_neededOf rfl rfl rfl (by decide +kernel) ⟨Nat.le_of_ble_eq_true rfl, Nat.le_of_ble_eq_true rfl⟩) (zpv hE hP hD hS hA (zg_13 cs ad σ tl) rfl) rfl rfl hl.1 rfl (lv_room (Nat.le_of_ble_eq_true rfl)) dX5_reasonOf_78 ⟨Nat.le_of_ble_eq_true rfl, Nat.le_of_ble_eq_true rfl⟩) hD hS hA (fun H locs hP hD hS => ?_)
          refine zai (va_runV (As := [.int (f_X4_neededOf σ (f_X4_nextPlace σ a1))]) (rest := []) ⟨hx, hb, hml, hown, hts⟩ (c_X5_stateOf l G cs ad tl σ (f_X4_neededOf σ (f_X4_nextPlace σ a1))  H.size) (cwV 1 hts gX5_reasonOf_X5_stateOf rfl rfl rfl (by decide +kernel) ⟨Nat.le_of_ble_eq_true rfl, Nat.le_of_ble_eq_true rfl⟩) (zpv hE hP hD hS hA (zg_0 cs ad σ tl) rfl) rfl rfl hl.1 rfl (lv_room (Nat.le_of_ble_eq_true rfl)) dX5_reasonOf_81 ⟨Nat.le_of_ble_eq_true rfl, Nat.le_of_ble_eq_true rfl⟩) hD hS hA (fun H locs hP hD hS => ?_)
          refine lv_aload_n hx hb dX5_reasonOf_84 rfl (lv_at hl 1 rfl) ?_
          refine va_get (D := G) (ci := 7) (v := .ref (ad 13)) (C := RX5) (T := TX5) (N := 7) hx hb hts iX5_reasonOf hown hE.1 hP 0 (zg_0 cs ad σ tl) rfl 3 (by decide) (hts (.fieldLink RX5 30 "HandoverDeck" "book" "LHandoverDeck$ProcedureBook;") (by decide +kernel)) (fun _ h9 => h9) rfl dX5_reasonOf_85 ?_
          refine lv_iload_n hx hb dX5_reasonOf_88 rfl (lv_at hl 0 rfl) ?_
          refine zai (va_runV (As := [.int (f_X4_nextPlace σ a1)]) (rest := [.int (f_X5_stateOf σ (f_X4_neededOf σ (f_X4_nextPlace σ a1)))]) ⟨hx, hb, hml, hown, hts⟩ (c_X4_neededStateOf l G cs ad tl σ (f_X4_nextPlace σ a1)  H.size) (cwV 1 hts gX5_reasonOf_X4_neededStateOf rfl rfl rfl (by decide +kernel) ⟨Nat.le_of_ble_eq_true rfl, Nat.le_of_ble_eq_true rfl⟩) (zpv hE hP hD hS hA (zg_13 cs ad σ tl) rfl) rfl rfl hl.1 rfl (lv_room (Nat.le_of_ble_eq_true rfl)) dX5_reasonOf_89 ⟨Nat.le_of_ble_eq_true rfl, Nat.le_of_ble_eq_true rfl⟩) hD hS hA (fun H locs hP hD hS => ?_)
          refine lv_icmp_eq (tgt := 98) hx hb dX5_reasonOf_92 (by decide) (fun c_5 => ?_) (fun c_5 => ?_)
          · have hR := hR.trans (if_pos c_5)
            refine lv_bipush (v := 45) hx hb dX5_reasonOf_98 (by decide) ?_
            have hR := hR.symm
            subst hR
            exact W.zret (v := 45) hx hb hr rfl (fun t ht hW => ⟨⟨_, (), rfl, rfl, by rw [ht]; exact hP, hD⟩, hS.F ht⟩) hS.2.2 dX5_reasonOf_100
          · have hR := hR.trans (if_neg c_5)
            refine lv_bipush (v := 110) hx hb dX5_reasonOf_95 (by decide) ?_
            have hR := hR.symm
            subst hR
            exact W.zret (v := 110) hx hb hr rfl (fun t ht hW => ⟨⟨_, (), rfl, rfl, by rw [ht]; exact hP, hD⟩, hS.F ht⟩) hS.2.2 dX5_reasonOf_97
        · have hR := hR.trans (if_neg c_4)
          refine lv_bipush (v := 98) hx hb dX5_reasonOf_69 (by decide) ?_
          have hR := hR.symm
          subst hR
          exact W.zret (v := 98) hx hb hr rfl (fun t ht hW => ⟨⟨_, (), rfl, rfl, by rw [ht]; exact hP, hD⟩, hS.F ht⟩) hS.2.2 dX5_reasonOf_71
      · have hR := hR.trans (if_neg c_3)
        refine lv_bipush (v := 116) hx hb dX5_reasonOf_44 (by decide) ?_
        have hR := hR.symm
        subst hR
        exact W.zret (v := 116) hx hb hr rfl (fun t ht hW => ⟨⟨_, (), rfl, rfl, by rw [ht]; exact hP, hD⟩, hS.F ht⟩) hS.2.2 dX5_reasonOf_46
    · have hR := hR.trans (if_pos c_2)
      refine lv_bipush (v := 100) hx hb dX5_reasonOf_27 (by decide) ?_
      have hR := hR.symm
      subst hR
      exact W.zret (v := 100) hx hb hr rfl (fun t ht hW => ⟨⟨_, (), rfl, rfl, by rw [ht]; exact hP, hD⟩, hS.F ht⟩) hS.2.2 dX5_reasonOf_29
  · have hR := hR.trans (if_pos c_1)
    refine lv_bipush (v := 101) hx hb dX5_reasonOf_14 (by decide) ?_
    have hR := hR.symm
    subst hR
    exact W.zret (v := 101) hx hb hr rfl (fun t ht hW => ⟨⟨_, (), rfl, rfl, by rw [ht]; exact hP, hD⟩, hS.F ht⟩) hS.2.2 dX5_reasonOf_16
theorem nar_X5_reasonOf (σ : zS) (a1 : Int32) : narrow .char (.int (f_X5_reasonOf σ a1)) = .int (f_X5_reasonOf σ a1) := by unfold f_X5_reasonOf; (repeat' split) <;> rfl
def f_X5_closeUndoneLine (σ : zS) (a1 : Int32) : Int32 × zS := (if (f_X4_isUndone σ a1) = 0 then (0, σ) else (1, (f_X4_markNotUndone (f_X2_closeLine σ (f_X4_undoneLineOf σ a1)) a1)))
theorem iX5_closeUndoneLine : ∀ w ∈ u_ws RX5 TX5 7, w ∈ wsX5_closeUndoneLine := by decide +kernel
set_option maxRecDepth 100000 in
theorem c_X5_closeUndoneLine (l : Launch) (G : va_G) (cs : Nat → ClassId) (ad : Nat → Nat) (tl : va_W) (σ : zS) (a1 : Int32)  : zMi l yX5_closeUndoneLine wsX5_closeUndoneLine { frames := 4, cells := 0, slots := 0, locals := 84 } G cs [.ref (ad 0), .int a1] (zw cs ad σ tl) (f_X5_closeUndoneLine σ a1).1 (zw cs ad (f_X5_closeUndoneLine σ a1).2 tl) 0 0 := by
  intro sz
  refine Met.ofW (cc := cX5_closeUndoneLine) (maxL := 2) (ret := (some .boolean)) (by decide) rfl ?_
  intro p e s m args below meth c s₁ B hml hv
  obtain ⟨rfl, hsz, hP, hD0, hE⟩ := hv
  have hx := B.exec
  have hb := B.bytes
  have hr := B.returns
  have hts := atoms_spec (ws := wsX5_closeUndoneLine) B.pre
  have hown : s.vm.findClass RX5 = some m.cls := findClass_of_methodNamed B.named
  have hlocks := B.notSynchronized
  subst hsz
  have hD := hD0.self (sz := s.heap.size)
  have hA : ∀ q : Nat, s.heap.size ≤ q → (va_A (zw cs ad σ tl) s.heap.size) q := fun q h => Or.inr h
  generalize va_A (zw cs ad σ tl) s.heap.size = A at hD hE hA ⊢
  have hS : va_S A s.heap s.heap [] := va_S.rf
  have hl := lv_entry ([.ref (ad 0), .int a1]) (n := 2) (Nat.le_of_ble_eq_true rfl)
  rw [lg_entry_eq]
  generalize (lg_sl ([.ref (ad 0), .int a1]) ++ List.replicate (2 - (lg_sl ([.ref (ad 0), .int a1])).length) Slot.unset).toArray = ls at hl ⊢
  have hl : lv_has ls 2 [(0, .ref (ad 0)), (1, .int a1)] := hl
  generalize hR : (f_X5_closeUndoneLine σ a1) = RV
  have hR := hR.symm
  unfold f_X5_closeUndoneLine at hR
  obtain ⟨RVv, RVs⟩ := RV
  dsimp only
  obtain ⟨H, hH⟩ : ∃ z, z = s.heap := ⟨_, rfl⟩
  obtain ⟨locs, hlocs⟩ : ∃ z : List Loc, z = [] := ⟨_, rfl⟩
  rw [← hH] at hP
  have hS : va_S A s.heap H locs := by rw [hH, hlocs]; exact hS
  show W _ _ _ _ _ _ _ _ _ _ s.heap [] _ _ _ _
  rw [← hH, ← hlocs]
  clear hlocs
  refine lv_aload_n hx hb dX5_closeUndoneLine_0 rfl (lv_at hl 0 rfl) ?_
  refine va_get (D := G) (ci := 7) (v := .ref (ad 13)) (C := RX5) (T := TX5) (N := 7) hx hb hts iX5_closeUndoneLine hown hE.1 hP 0 (zg_0 cs ad σ tl) rfl 3 (by decide) (hts (.fieldLink RX5 30 "HandoverDeck" "book" "LHandoverDeck$ProcedureBook;") (by decide +kernel)) (fun _ h9 => h9) rfl dX5_closeUndoneLine_1 ?_
  refine lv_iload_n hx hb dX5_closeUndoneLine_4 rfl (lv_at hl 1 rfl) ?_
  refine zai (va_runV (As := [.int a1]) (rest := []) ⟨hx, hb, hml, hown, hts⟩ (c_X4_isUndone l G cs ad tl σ a1  H.size) (cwV 1 hts gX5_closeUndoneLine_X4_isUndone rfl rfl rfl (by decide +kernel) ⟨Nat.le_of_ble_eq_true rfl, Nat.le_of_ble_eq_true rfl⟩) (zpv hE hP hD hS hA (zg_13 cs ad σ tl) rfl) rfl rfl hl.1 rfl (lv_room (Nat.le_of_ble_eq_true rfl)) dX5_closeUndoneLine_5 ⟨Nat.le_of_ble_eq_true rfl, Nat.le_of_ble_eq_true rfl⟩) hD hS hA (fun H locs hP hD hS => ?_)
  refine lv_if_ne (tgt := 13) hx hb dX5_closeUndoneLine_8 (by decide) (fun c_1 => ?_) (fun c_1 => ?_)
  · have hR := hR.trans (if_neg c_1)
    refine lv_aload_n hx hb dX5_closeUndoneLine_13 rfl (lv_at hl 0 rfl) ?_
    refine va_get (D := G) (ci := 7) (v := .ref (ad 2)) (C := RX5) (T := TX5) (N := 7) hx hb hts iX5_closeUndoneLine hown hE.1 hP 0 (zg_0 cs ad σ tl) rfl 1 (by decide) (hts (.fieldLink RX5 16 "HandoverDeck" "log" "LHandoverDeck$Log;") (by decide +kernel)) (fun _ h9 => h9) rfl dX5_closeUndoneLine_14 ?_
    refine lv_aload_n hx hb dX5_closeUndoneLine_17 rfl (lv_at hl 0 rfl) ?_
    refine va_get (D := G) (ci := 7) (v := .ref (ad 13)) (C := RX5) (T := TX5) (N := 7) hx hb hts iX5_closeUndoneLine hown hE.1 hP 0 (zg_0 cs ad σ tl) rfl 3 (by decide) (hts (.fieldLink RX5 30 "HandoverDeck" "book" "LHandoverDeck$ProcedureBook;") (by decide +kernel)) (fun _ h9 => h9) rfl dX5_closeUndoneLine_18 ?_
    refine lv_iload_n hx hb dX5_closeUndoneLine_21 rfl (lv_at hl 1 rfl) ?_
    refine zai (va_runV (As := [.int a1]) (rest := [.ref (ad 2)]) ⟨hx, hb, hml, hown, hts⟩ (c_X4_undoneLineOf l G cs ad tl σ a1  H.size) (cwV 1 hts gX5_closeUndoneLine_X4_undoneLineOf rfl rfl rfl (by decide +kernel) ⟨Nat.le_of_ble_eq_true rfl, Nat.le_of_ble_eq_true rfl⟩) (zpv hE hP hD hS hA (zg_13 cs ad σ tl) rfl) rfl rfl hl.1 rfl (lv_room (Nat.le_of_ble_eq_true rfl)) dX5_closeUndoneLine_22 ⟨Nat.le_of_ble_eq_true rfl, Nat.le_of_ble_eq_true rfl⟩) hD hS hA (fun H locs hP hD hS => ?_)
    refine zav (va_runV (As := [.int (f_X4_undoneLineOf σ a1)]) (rest := []) ⟨hx, hb, hml, hown, hts⟩ (c_X2_closeLine l G cs ad tl σ (f_X4_undoneLineOf σ a1)  H.size) (cwV 1 hts gX5_closeUndoneLine_X2_closeLine rfl rfl rfl (by decide +kernel) ⟨Nat.le_of_ble_eq_true rfl, Nat.le_of_ble_eq_true rfl⟩) (zpv hE hP hD hS hA (zg_2 cs ad σ tl) rfl) rfl rfl hl.1 rfl (lv_room (Nat.le_of_ble_eq_true rfl)) dX5_closeUndoneLine_25 ⟨Nat.le_of_ble_eq_true rfl, Nat.le_of_ble_eq_true rfl⟩) hD hS hA (fun H locs hP hD hS => ?_)
    refine lv_aload_n hx hb dX5_closeUndoneLine_28 rfl (lv_at hl 0 rfl) ?_
    refine va_get (D := G) (ci := 7) (v := .ref (ad 13)) (C := RX5) (T := TX5) (N := 7) hx hb hts iX5_closeUndoneLine hown hE.1 hP 0 (zg_0 cs ad (f_X2_closeLine σ (f_X4_undoneLineOf σ a1)) tl) rfl 3 (by decide) (hts (.fieldLink RX5 30 "HandoverDeck" "book" "LHandoverDeck$ProcedureBook;") (by decide +kernel)) (fun _ h9 => h9) rfl dX5_closeUndoneLine_29 ?_
    refine lv_iload_n hx hb dX5_closeUndoneLine_32 rfl (lv_at hl 1 rfl) ?_
    refine zav (va_runV (As := [.int a1]) (rest := []) ⟨hx, hb, hml, hown, hts⟩ (c_X4_markNotUndone l G cs ad tl (f_X2_closeLine σ (f_X4_undoneLineOf σ a1)) a1  H.size) (cwV 1 hts gX5_closeUndoneLine_X4_markNotUndone rfl rfl rfl (by decide +kernel) ⟨Nat.le_of_ble_eq_true rfl, Nat.le_of_ble_eq_true rfl⟩) (zpv hE hP hD hS hA (zg_13 cs ad (f_X2_closeLine σ (f_X4_undoneLineOf σ a1)) tl) rfl) rfl rfl hl.1 rfl (lv_room (Nat.le_of_ble_eq_true rfl)) dX5_closeUndoneLine_33 ⟨Nat.le_of_ble_eq_true rfl, Nat.le_of_ble_eq_true rfl⟩) hD hS hA (fun H locs hP hD hS => ?_)
    refine lv_iconst (v := 1) hx hb dX5_closeUndoneLine_36 (by decide) ?_
    obtain ⟨e1, e2⟩ := z2 hR.symm
    subst e1; subst e2
    exact W.zret (v := 1) hx hb hr rfl (fun t ht hW => ⟨⟨_, (), rfl, rfl, by rw [ht]; exact hP, hD⟩, hS.F ht⟩) hS.2.2 dX5_closeUndoneLine_37
  · have hR := hR.trans (if_pos c_1)
    refine lv_iconst (v := 0) hx hb dX5_closeUndoneLine_11 (by decide) ?_
    obtain ⟨e1, e2⟩ := z2 hR.symm
    subst e1; subst e2
    exact W.zret (v := 0) hx hb hr rfl (fun t ht hW => ⟨⟨_, (), rfl, rfl, by rw [ht]; exact hP, hD⟩, hS.F ht⟩) hS.2.2 dX5_closeUndoneLine_12
def f_X5_setState (σ : zS) (a1 : Int32) (a2 : Int32) : zS := (if (f_X5_isUnit a1) = 0 then σ else (zs σ 1 a1.toNatClampNeg a2))
theorem iX5_setState : ∀ w ∈ u_ws RX5 TX5 7, w ∈ wsX5_setState := by decide +kernel
set_option maxRecDepth 100000 in
theorem c_X5_setState (l : Launch) (G : va_G) (cs : Nat → ClassId) (ad : Nat → Nat) (tl : va_W) (σ : zS) (a1 : Int32) (a2 : Int32)  : zMv l yX5_setState wsX5_setState { frames := 1, cells := 0, slots := 0, locals := 20 } G cs [.ref (ad 0), .int a1, .int a2] (zw cs ad σ tl) (zw cs ad (f_X5_setState σ a1 a2) tl) 0 0 := by
  intro sz
  refine Met.ofW (cc := cX5_setState) (maxL := 3) (ret := none) (by decide) rfl ?_
  intro p e s m args below meth c s₁ B hml hv
  obtain ⟨rfl, hsz, hP, hD0, hE⟩ := hv
  have hx := B.exec
  have hb := B.bytes
  have hr := B.returns
  have hts := atoms_spec (ws := wsX5_setState) B.pre
  have hown : s.vm.findClass RX5 = some m.cls := findClass_of_methodNamed B.named
  have hlocks := B.notSynchronized
  subst hsz
  have hD := hD0.self (sz := s.heap.size)
  have hA : ∀ q : Nat, s.heap.size ≤ q → (va_A (zw cs ad σ tl) s.heap.size) q := fun q h => Or.inr h
  generalize va_A (zw cs ad σ tl) s.heap.size = A at hD hE hA ⊢
  have hS : va_S A s.heap s.heap [] := va_S.rf
  have hl := lv_entry ([.ref (ad 0), .int a1, .int a2]) (n := 3) (Nat.le_of_ble_eq_true rfl)
  rw [lg_entry_eq]
  generalize (lg_sl ([.ref (ad 0), .int a1, .int a2]) ++ List.replicate (3 - (lg_sl ([.ref (ad 0), .int a1, .int a2])).length) Slot.unset).toArray = ls at hl ⊢
  have hl : lv_has ls 3 [(0, .ref (ad 0)), (1, .int a1), (2, .int a2)] := hl
  generalize hR : (f_X5_setState σ a1 a2) = RV
  have hR := hR.symm
  unfold f_X5_setState at hR
  obtain ⟨H, hH⟩ : ∃ z, z = s.heap := ⟨_, rfl⟩
  obtain ⟨locs, hlocs⟩ : ∃ z : List Loc, z = [] := ⟨_, rfl⟩
  rw [← hH] at hP
  have hS : va_S A s.heap H locs := by rw [hH, hlocs]; exact hS
  show W _ _ _ _ _ _ _ _ _ _ s.heap [] _ _ _ _
  rw [← hH, ← hlocs]
  clear hlocs
  refine lv_iload_n hx hb dX5_setState_0 rfl (lv_at hl 1 rfl) ?_
  refine zai (va_runS (As := [.int a1]) (rest := []) ⟨hx, hb, hml, hown, hts⟩ (c_X5_isUnit l G cs ad tl σ a1  H.size) (va_cwS 1 hts gX5_setState_X5_isUnit rfl rfl rfl (by decide +kernel) ⟨Nat.le_of_ble_eq_true rfl, Nat.le_of_ble_eq_true rfl⟩) (zps hE hP hD hS hA) rfl rfl hl.1 rfl (lv_room (Nat.le_of_ble_eq_true rfl)) dX5_setState_1 ⟨Nat.le_of_ble_eq_true rfl, Nat.le_of_ble_eq_true rfl⟩) hD hS hA (fun H locs hP hD hS => ?_)
  refine lv_if_eq (tgt := 14) hx hb dX5_setState_4 (by decide) (fun c_1 => ?_) (fun c_1 => ?_)
  · have hR := hR.trans (if_pos c_1)
    have hR := hR.symm
    subst hR
    exact W.vret hx hb hr (fun t ht hW => ⟨⟨(), rfl, trivial, by rw [ht]; exact hP, hD⟩, hS.F ht⟩) hS.2.2 dX5_setState_14
  · have hR := hR.trans (if_neg c_1)
    refine lv_aload_n hx hb dX5_setState_7 rfl (lv_at hl 0 rfl) ?_
    refine va_get (D := G) (ci := 7) (v := .ref (ad 1)) (C := RX5) (T := TX5) (N := 7) hx hb hts iX5_setState hown hE.1 hP 0 (zg_0 cs ad σ tl) rfl 0 (by decide) (hts (.fieldLink RX5 9 "HandoverDeck" "states" "[I") (by decide +kernel)) (fun _ h9 => h9) rfl dX5_setState_8 ?_
    refine lv_iload_n hx hb dX5_setState_11 rfl (lv_at hl 1 rfl) ?_
    refine lv_iload_n hx hb dX5_setState_12 rfl (lv_at hl 2 rfl) ?_
    refine z_iast hx hb hE hP hD hS (zg_1 cs ad σ tl) (zb_1 cs ad σ tl) (vin_X5_isUnit c_1) dX5_setState_13 (fun H locs hP hD hS => ?_)
    have hR := hR.symm
    subst hR
    exact W.vret hx hb hr (fun t ht hW => ⟨⟨(), rfl, trivial, by rw [ht]; exact hP, hD⟩, hS.F ht⟩) hS.2.2 dX5_setState_14
def f_X5_checkRoomForLine (σ : zS)  : Nat := (if (f_X2_isFull σ ) = 0 then 0 else 3)
theorem iX5_checkRoomForLine : ∀ w ∈ u_ws RX5 TX5 7, w ∈ wsX5_checkRoomForLine := by decide +kernel
set_option maxRecDepth 100000 in
theorem c_X5_checkRoomForLine (l : Launch) (hfl : l.stackTraces = false) (G : va_G) (cs : Nat → ClassId) (ad : Nat → Nat) (tl : va_W) (σ : zS)   : zXv l yX5_checkRoomForLine wsX5_checkRoomForLine { frames := 6, cells := 1, slots := 6, locals := 90 } G cs [.ref (ad 0)] (zw cs ad σ tl) (f_X5_checkRoomForLine σ ) (zw cs ad σ tl) 1 6 := by
  intro sz
  refine vx_ofW (cc := cX5_checkRoomForLine) (maxL := 1) (ret := none) (by decide) rfl ?_
  intro p e s m args below meth c s₁ B hml htab hv
  obtain ⟨rfl, hsz, hP, hD0, hE⟩ := hv
  have hx := B.exec
  have hb := B.bytes
  have hr := B.returns
  have hts := atoms_spec (ws := wsX5_checkRoomForLine) B.pre
  have hown : s.vm.findClass RX5 = some m.cls := findClass_of_methodNamed B.named
  have hlocks := B.notSynchronized
  subst hsz
  have hD := hD0.self (sz := s.heap.size)
  have hA : ∀ q : Nat, s.heap.size ≤ q → (va_A (zw cs ad σ tl) s.heap.size) q := fun q h => Or.inr h
  generalize va_A (zw cs ad σ tl) s.heap.size = A at hD hE hA ⊢
  have hS : va_S A s.heap s.heap [] := va_S.rf
  have hl := lv_entry ([.ref (ad 0)]) (n := 1) (Nat.le_of_ble_eq_true rfl)
  rw [lg_entry_eq]
  generalize (lg_sl ([.ref (ad 0)]) ++ List.replicate (1 - (lg_sl ([.ref (ad 0)])).length) Slot.unset).toArray = ls at hl ⊢
  have hl : lv_has ls 1 [(0, .ref (ad 0))] := hl
  generalize hR : (f_X5_checkRoomForLine σ ) = RV
  have hR := hR.symm
  unfold f_X5_checkRoomForLine at hR
  obtain ⟨H, hH⟩ : ∃ z, z = s.heap := ⟨_, rfl⟩
  obtain ⟨locs, hlocs⟩ : ∃ z : List Loc, z = [] := ⟨_, rfl⟩
  rw [← hH] at hP
  have hS : va_S A s.heap H locs := by rw [hH, hlocs]; exact hS
  show W _ _ _ _ _ _ _ _ _ _ s.heap [] _ _ _ _
  rw [← hH, ← hlocs]
  clear hlocs
  refine lv_aload_n hx hb dX5_checkRoomForLine_0 rfl (lv_at hl 0 rfl) ?_
  refine va_get (D := G) (ci := 7) (v := .ref (ad 2)) (C := RX5) (T := TX5) (N := 7) hx hb hts iX5_checkRoomForLine hown hE.1 hP 0 (zg_0 cs ad σ tl) rfl 1 (by decide) (hts (.fieldLink RX5 16 "HandoverDeck" "log" "LHandoverDeck$Log;") (by decide +kernel)) (fun _ h9 => h9) rfl dX5_checkRoomForLine_1 ?_
  refine zai (va_runV (As := []) (rest := []) ⟨hx, hb, hml, hown, hts⟩ (c_X2_isFull l G cs ad tl σ   H.size) (cwV 0 hts gX5_checkRoomForLine_X2_isFull rfl rfl rfl (by decide +kernel) ⟨Nat.le_of_ble_eq_true rfl, Nat.le_of_ble_eq_true rfl⟩) (zpv hE hP hD hS hA (zg_2 cs ad σ tl) rfl) rfl rfl hl.1 rfl (lv_room (Nat.le_of_ble_eq_true rfl)) dX5_checkRoomForLine_4 ⟨Nat.le_of_ble_eq_true rfl, Nat.le_of_ble_eq_true rfl⟩) hD hS hA (fun H locs hP hD hS => ?_)
  refine lv_if_eq (tgt := 21) hx hb dX5_checkRoomForLine_7 (by decide) (fun c_1 => ?_) (fun c_1 => ?_)
  · have hR := hR.trans (if_pos c_1)
    have hR := hR.symm
    subst hR
    refine W.widen (k := 1) (n := 6) (by decide) (by decide) ?_
    refine vx_ret ?_
    exact W.vret hx hb hr (fun t ht hW => ⟨⟨(), rfl, rfl, by rw [ht]; exact hP, hD⟩, hS.F ht⟩) hS.2.2 dX5_checkRoomForLine_21
  · have hR := hR.trans (if_neg c_1)
    have hR := hR.symm
    subst hR
    exact z_thrW (k := 3) (is := 380) (text := "there are 60 lines") hx hb hfl zf_3.1 zf_3.2.1 zf_3.2.2 (fun w h => hts w (List.mem_cons_of_mem _ (List.mem_append_right _ h))) (hts (.classLink RX5 71 "java/lang/IllegalStateException") (by decide +kernel)) (hts (.initialized "java/lang/IllegalStateException") (by decide +kernel)) (hE.2.1 _ (List.mem_of_getElem? (i := 5) rfl)) (hE.2.2.1 (380, "there are 60 lines") (by decide +kernel)) hown hE hP hD hS (by rw [hl.1, hml]) dX5_checkRoomForLine_10 dX5_checkRoomForLine_13 dX5_checkRoomForLine_14 dX5_checkRoomForLine_17 dX5_checkRoomForLine_20 htab (by decide) (by decide) (by decide) (by decide) hlocks (by decide) rfl (by decide) (by decide)
def f_X5_checkLine (σ : zS) (a1 : Int32) : Nat := (if (f_X2_hasLine σ a1) = 0 then 4 else 0)
theorem iX5_checkLine : ∀ w ∈ u_ws RX5 TX5 7, w ∈ wsX5_checkLine := by decide +kernel
set_option maxRecDepth 100000 in
theorem c_X5_checkLine (l : Launch) (hfl : l.stackTraces = false) (G : va_G) (cs : Nat → ClassId) (ad : Nat → Nat) (tl : va_W) (σ : zS) (a1 : Int32)  : zXv l yX5_checkLine wsX5_checkLine { frames := 6, cells := 1, slots := 6, locals := 90 } G cs [.ref (ad 0), .int a1] (zw cs ad σ tl) (f_X5_checkLine σ a1) (zw cs ad σ tl) 1 6 := by
  intro sz
  refine vx_ofW (cc := cX5_checkLine) (maxL := 2) (ret := none) (by decide) rfl ?_
  intro p e s m args below meth c s₁ B hml htab hv
  obtain ⟨rfl, hsz, hP, hD0, hE⟩ := hv
  have hx := B.exec
  have hb := B.bytes
  have hr := B.returns
  have hts := atoms_spec (ws := wsX5_checkLine) B.pre
  have hown : s.vm.findClass RX5 = some m.cls := findClass_of_methodNamed B.named
  have hlocks := B.notSynchronized
  subst hsz
  have hD := hD0.self (sz := s.heap.size)
  have hA : ∀ q : Nat, s.heap.size ≤ q → (va_A (zw cs ad σ tl) s.heap.size) q := fun q h => Or.inr h
  generalize va_A (zw cs ad σ tl) s.heap.size = A at hD hE hA ⊢
  have hS : va_S A s.heap s.heap [] := va_S.rf
  have hl := lv_entry ([.ref (ad 0), .int a1]) (n := 2) (Nat.le_of_ble_eq_true rfl)
  rw [lg_entry_eq]
  generalize (lg_sl ([.ref (ad 0), .int a1]) ++ List.replicate (2 - (lg_sl ([.ref (ad 0), .int a1])).length) Slot.unset).toArray = ls at hl ⊢
  have hl : lv_has ls 2 [(0, .ref (ad 0)), (1, .int a1)] := hl
  generalize hR : (f_X5_checkLine σ a1) = RV
  have hR := hR.symm
  unfold f_X5_checkLine at hR
  obtain ⟨H, hH⟩ : ∃ z, z = s.heap := ⟨_, rfl⟩
  obtain ⟨locs, hlocs⟩ : ∃ z : List Loc, z = [] := ⟨_, rfl⟩
  rw [← hH] at hP
  have hS : va_S A s.heap H locs := by rw [hH, hlocs]; exact hS
  show W _ _ _ _ _ _ _ _ _ _ s.heap [] _ _ _ _
  rw [← hH, ← hlocs]
  clear hlocs
  refine lv_aload_n hx hb dX5_checkLine_0 rfl (lv_at hl 0 rfl) ?_
  refine va_get (D := G) (ci := 7) (v := .ref (ad 2)) (C := RX5) (T := TX5) (N := 7) hx hb hts iX5_checkLine hown hE.1 hP 0 (zg_0 cs ad σ tl) rfl 1 (by decide) (hts (.fieldLink RX5 16 "HandoverDeck" "log" "LHandoverDeck$Log;") (by decide +kernel)) (fun _ h9 => h9) rfl dX5_checkLine_1 ?_
  refine lv_iload_n hx hb dX5_checkLine_4 rfl (lv_at hl 1 rfl) ?_
  refine zai (va_runV (As := [.int a1]) (rest := []) ⟨hx, hb, hml, hown, hts⟩ (c_X2_hasLine l G cs ad tl σ a1  H.size) (cwV 1 hts gX5_checkLine_X2_hasLine rfl rfl rfl (by decide +kernel) ⟨Nat.le_of_ble_eq_true rfl, Nat.le_of_ble_eq_true rfl⟩) (zpv hE hP hD hS hA (zg_2 cs ad σ tl) rfl) rfl rfl hl.1 rfl (lv_room (Nat.le_of_ble_eq_true rfl)) dX5_checkLine_5 ⟨Nat.le_of_ble_eq_true rfl, Nat.le_of_ble_eq_true rfl⟩) hD hS hA (fun H locs hP hD hS => ?_)
  refine lv_if_ne (tgt := 22) hx hb dX5_checkLine_8 (by decide) (fun c_1 => ?_) (fun c_1 => ?_)
  · have hR := hR.trans (if_neg c_1)
    have hR := hR.symm
    subst hR
    refine W.widen (k := 1) (n := 6) (by decide) (by decide) ?_
    refine vx_ret ?_
    exact W.vret hx hb hr (fun t ht hW => ⟨⟨(), rfl, rfl, by rw [ht]; exact hP, hD⟩, hS.F ht⟩) hS.2.2 dX5_checkLine_22
  · have hR := hR.trans (if_pos c_1)
    have hR := hR.symm
    subst hR
    exact z_thrNW (k := 4) (is := 385) (text := "no such line") hx hb hfl zf_4.1 zf_4.2.1 zf_4.2.2 (fun w h => hts w (List.mem_cons_of_mem _ (List.mem_append_right _ h))) (hts (.classLink RX5 125 "java/util/NoSuchElementException") (by decide +kernel)) (hts (.initialized "java/util/NoSuchElementException") (by decide +kernel)) (hE.2.1 _ (List.mem_of_getElem? (i := 6) rfl)) (hE.2.2.1 (385, "no such line") (by decide +kernel)) hown hE hP hD hS (by rw [hl.1, hml]) dX5_checkLine_11 dX5_checkLine_14 dX5_checkLine_15 dX5_checkLine_18 dX5_checkLine_21 htab (by decide) (by decide) (by decide) (by decide) hlocks (by decide) rfl (by decide) (by decide)
def f_X5_checkActive (σ : zS) (a1 : Int32) : Nat := (if (f_X0_isActive σ a1) = 0 then 4 else 0)
theorem iX5_checkActive : ∀ w ∈ u_ws RX5 TX5 7, w ∈ wsX5_checkActive := by decide +kernel
set_option maxRecDepth 100000 in
theorem c_X5_checkActive (l : Launch) (hfl : l.stackTraces = false) (G : va_G) (cs : Nat → ClassId) (ad : Nat → Nat) (tl : va_W) (σ : zS) (a1 : Int32)  : zXv l yX5_checkActive wsX5_checkActive { frames := 6, cells := 1, slots := 6, locals := 90 } G cs [.ref (ad 0), .int a1] (zw cs ad σ tl) (f_X5_checkActive σ a1) (zw cs ad σ tl) 1 6 := by
  intro sz
  refine vx_ofW (cc := cX5_checkActive) (maxL := 2) (ret := none) (by decide) rfl ?_
  intro p e s m args below meth c s₁ B hml htab hv
  obtain ⟨rfl, hsz, hP, hD0, hE⟩ := hv
  have hx := B.exec
  have hb := B.bytes
  have hr := B.returns
  have hts := atoms_spec (ws := wsX5_checkActive) B.pre
  have hown : s.vm.findClass RX5 = some m.cls := findClass_of_methodNamed B.named
  have hlocks := B.notSynchronized
  subst hsz
  have hD := hD0.self (sz := s.heap.size)
  have hA : ∀ q : Nat, s.heap.size ≤ q → (va_A (zw cs ad σ tl) s.heap.size) q := fun q h => Or.inr h
  generalize va_A (zw cs ad σ tl) s.heap.size = A at hD hE hA ⊢
  have hS : va_S A s.heap s.heap [] := va_S.rf
  have hl := lv_entry ([.ref (ad 0), .int a1]) (n := 2) (Nat.le_of_ble_eq_true rfl)
  rw [lg_entry_eq]
  generalize (lg_sl ([.ref (ad 0), .int a1]) ++ List.replicate (2 - (lg_sl ([.ref (ad 0), .int a1])).length) Slot.unset).toArray = ls at hl ⊢
  have hl : lv_has ls 2 [(0, .ref (ad 0)), (1, .int a1)] := hl
  generalize hR : (f_X5_checkActive σ a1) = RV
  have hR := hR.symm
  unfold f_X5_checkActive at hR
  obtain ⟨H, hH⟩ : ∃ z, z = s.heap := ⟨_, rfl⟩
  obtain ⟨locs, hlocs⟩ : ∃ z : List Loc, z = [] := ⟨_, rfl⟩
  rw [← hH] at hP
  have hS : va_S A s.heap H locs := by rw [hH, hlocs]; exact hS
  show W _ _ _ _ _ _ _ _ _ _ s.heap [] _ _ _ _
  rw [← hH, ← hlocs]
  clear hlocs
  refine lv_aload_n hx hb dX5_checkActive_0 rfl (lv_at hl 0 rfl) ?_
  refine va_get (D := G) (ci := 7) (v := .ref (ad 9)) (C := RX5) (T := TX5) (N := 7) hx hb hts iX5_checkActive hown hE.1 hP 0 (zg_0 cs ad σ tl) rfl 2 (by decide) (hts (.fieldLink RX5 23 "HandoverDeck" "board" "LHandoverDeck$AlarmBoard;") (by decide +kernel)) (fun _ h9 => h9) rfl dX5_checkActive_1 ?_
  refine lv_iload_n hx hb dX5_checkActive_4 rfl (lv_at hl 1 rfl) ?_
  refine zai (va_runV (As := [.int a1]) (rest := []) ⟨hx, hb, hml, hown, hts⟩ (c_X0_isActive l G cs ad tl σ a1  H.size) (cwV 1 hts gX5_checkActive_X0_isActive rfl rfl rfl (by decide +kernel) ⟨Nat.le_of_ble_eq_true rfl, Nat.le_of_ble_eq_true rfl⟩) (zpv hE hP hD hS hA (zg_9 cs ad σ tl) rfl) rfl rfl hl.1 rfl (lv_room (Nat.le_of_ble_eq_true rfl)) dX5_checkActive_5 ⟨Nat.le_of_ble_eq_true rfl, Nat.le_of_ble_eq_true rfl⟩) hD hS hA (fun H locs hP hD hS => ?_)
  refine lv_if_ne (tgt := 22) hx hb dX5_checkActive_8 (by decide) (fun c_1 => ?_) (fun c_1 => ?_)
  · have hR := hR.trans (if_neg c_1)
    have hR := hR.symm
    subst hR
    refine W.widen (k := 1) (n := 6) (by decide) (by decide) ?_
    refine vx_ret ?_
    exact W.vret hx hb hr (fun t ht hW => ⟨⟨(), rfl, rfl, by rw [ht]; exact hP, hD⟩, hS.F ht⟩) hS.2.2 dX5_checkActive_22
  · have hR := hR.trans (if_pos c_1)
    have hR := hR.symm
    subst hR
    exact z_thrNW (k := 4) (is := 387) (text := "the alarm is not active") hx hb hfl zf_4.1 zf_4.2.1 zf_4.2.2 (fun w h => hts w (List.mem_cons_of_mem _ (List.mem_append_left _ (List.mem_append_right _ h)))) (hts (.classLink RX5 125 "java/util/NoSuchElementException") (by decide +kernel)) (hts (.initialized "java/util/NoSuchElementException") (by decide +kernel)) (hE.2.1 _ (List.mem_of_getElem? (i := 6) rfl)) (hE.2.2.1 (387, "the alarm is not active") (by decide +kernel)) hown hE hP hD hS (by rw [hl.1, hml]) dX5_checkActive_11 dX5_checkActive_14 dX5_checkActive_15 dX5_checkActive_18 dX5_checkActive_21 htab (by decide) (by decide) (by decide) (by decide) hlocks (by decide) rfl (by decide) (by decide)
def f_X5_checkProcedure (σ : zS) (a1 : Int32) : Nat := (if (f_X4_hasProcedure σ a1) = 0 then 4 else 0)
theorem iX5_checkProcedure : ∀ w ∈ u_ws RX5 TX5 7, w ∈ wsX5_checkProcedure := by decide +kernel
set_option maxRecDepth 100000 in
theorem c_X5_checkProcedure (l : Launch) (hfl : l.stackTraces = false) (G : va_G) (cs : Nat → ClassId) (ad : Nat → Nat) (tl : va_W) (σ : zS) (a1 : Int32)  : zXv l yX5_checkProcedure wsX5_checkProcedure { frames := 6, cells := 1, slots := 6, locals := 90 } G cs [.ref (ad 0), .int a1] (zw cs ad σ tl) (f_X5_checkProcedure σ a1) (zw cs ad σ tl) 1 6 := by
  intro sz
  refine vx_ofW (cc := cX5_checkProcedure) (maxL := 2) (ret := none) (by decide) rfl ?_
  intro p e s m args below meth c s₁ B hml htab hv
  obtain ⟨rfl, hsz, hP, hD0, hE⟩ := hv
  have hx := B.exec
  have hb := B.bytes
  have hr := B.returns
  have hts := atoms_spec (ws := wsX5_checkProcedure) B.pre
  have hown : s.vm.findClass RX5 = some m.cls := findClass_of_methodNamed B.named
  have hlocks := B.notSynchronized
  subst hsz
  have hD := hD0.self (sz := s.heap.size)
  have hA : ∀ q : Nat, s.heap.size ≤ q → (va_A (zw cs ad σ tl) s.heap.size) q := fun q h => Or.inr h
  generalize va_A (zw cs ad σ tl) s.heap.size = A at hD hE hA ⊢
  have hS : va_S A s.heap s.heap [] := va_S.rf
  have hl := lv_entry ([.ref (ad 0), .int a1]) (n := 2) (Nat.le_of_ble_eq_true rfl)
  rw [lg_entry_eq]
  generalize (lg_sl ([.ref (ad 0), .int a1]) ++ List.replicate (2 - (lg_sl ([.ref (ad 0), .int a1])).length) Slot.unset).toArray = ls at hl ⊢
  have hl : lv_has ls 2 [(0, .ref (ad 0)), (1, .int a1)] := hl
  generalize hR : (f_X5_checkProcedure σ a1) = RV
  have hR := hR.symm
  unfold f_X5_checkProcedure at hR
  obtain ⟨H, hH⟩ : ∃ z, z = s.heap := ⟨_, rfl⟩
  obtain ⟨locs, hlocs⟩ : ∃ z : List Loc, z = [] := ⟨_, rfl⟩
  rw [← hH] at hP
  have hS : va_S A s.heap H locs := by rw [hH, hlocs]; exact hS
  show W _ _ _ _ _ _ _ _ _ _ s.heap [] _ _ _ _
  rw [← hH, ← hlocs]
  clear hlocs
  refine lv_aload_n hx hb dX5_checkProcedure_0 rfl (lv_at hl 0 rfl) ?_
  refine va_get (D := G) (ci := 7) (v := .ref (ad 13)) (C := RX5) (T := TX5) (N := 7) hx hb hts iX5_checkProcedure hown hE.1 hP 0 (zg_0 cs ad σ tl) rfl 3 (by decide) (hts (.fieldLink RX5 30 "HandoverDeck" "book" "LHandoverDeck$ProcedureBook;") (by decide +kernel)) (fun _ h9 => h9) rfl dX5_checkProcedure_1 ?_
  refine lv_iload_n hx hb dX5_checkProcedure_4 rfl (lv_at hl 1 rfl) ?_
  refine zai (va_runV (As := [.int a1]) (rest := []) ⟨hx, hb, hml, hown, hts⟩ (c_X4_hasProcedure l G cs ad tl σ a1  H.size) (cwV 1 hts gX5_checkProcedure_X4_hasProcedure rfl rfl rfl (by decide +kernel) ⟨Nat.le_of_ble_eq_true rfl, Nat.le_of_ble_eq_true rfl⟩) (zpv hE hP hD hS hA (zg_13 cs ad σ tl) rfl) rfl rfl hl.1 rfl (lv_room (Nat.le_of_ble_eq_true rfl)) dX5_checkProcedure_5 ⟨Nat.le_of_ble_eq_true rfl, Nat.le_of_ble_eq_true rfl⟩) hD hS hA (fun H locs hP hD hS => ?_)
  refine lv_if_ne (tgt := 22) hx hb dX5_checkProcedure_8 (by decide) (fun c_1 => ?_) (fun c_1 => ?_)
  · have hR := hR.trans (if_neg c_1)
    have hR := hR.symm
    subst hR
    refine W.widen (k := 1) (n := 6) (by decide) (by decide) ?_
    refine vx_ret ?_
    exact W.vret hx hb hr (fun t ht hW => ⟨⟨(), rfl, rfl, by rw [ht]; exact hP, hD⟩, hS.F ht⟩) hS.2.2 dX5_checkProcedure_22
  · have hR := hR.trans (if_pos c_1)
    have hR := hR.symm
    subst hR
    exact z_thrNW (k := 4) (is := 392) (text := "no such procedure") hx hb hfl zf_4.1 zf_4.2.1 zf_4.2.2 (fun w h => hts w (List.mem_cons_of_mem _ (List.mem_append_right _ h))) (hts (.classLink RX5 125 "java/util/NoSuchElementException") (by decide +kernel)) (hts (.initialized "java/util/NoSuchElementException") (by decide +kernel)) (hE.2.1 _ (List.mem_of_getElem? (i := 6) rfl)) (hE.2.2.1 (392, "no such procedure") (by decide +kernel)) hown hE hP hD hS (by rw [hl.1, hml]) dX5_checkProcedure_11 dX5_checkProcedure_14 dX5_checkProcedure_15 dX5_checkProcedure_18 dX5_checkProcedure_21 htab (by decide) (by decide) (by decide) (by decide) hlocks (by decide) rfl (by decide) (by decide)
def f_X5_checkPermit (σ : zS) (a1 : Int32) : Nat := (if (f_X3_hasPermit σ a1) = 0 then 4 else 0)
theorem iX5_checkPermit : ∀ w ∈ u_ws RX5 TX5 7, w ∈ wsX5_checkPermit := by decide +kernel
set_option maxRecDepth 100000 in
theorem c_X5_checkPermit (l : Launch) (hfl : l.stackTraces = false) (G : va_G) (cs : Nat → ClassId) (ad : Nat → Nat) (tl : va_W) (σ : zS) (a1 : Int32)  : zXv l yX5_checkPermit wsX5_checkPermit { frames := 6, cells := 1, slots := 6, locals := 90 } G cs [.ref (ad 0), .int a1] (zw cs ad σ tl) (f_X5_checkPermit σ a1) (zw cs ad σ tl) 1 6 := by
  intro sz
  refine vx_ofW (cc := cX5_checkPermit) (maxL := 2) (ret := none) (by decide) rfl ?_
  intro p e s m args below meth c s₁ B hml htab hv
  obtain ⟨rfl, hsz, hP, hD0, hE⟩ := hv
  have hx := B.exec
  have hb := B.bytes
  have hr := B.returns
  have hts := atoms_spec (ws := wsX5_checkPermit) B.pre
  have hown : s.vm.findClass RX5 = some m.cls := findClass_of_methodNamed B.named
  have hlocks := B.notSynchronized
  subst hsz
  have hD := hD0.self (sz := s.heap.size)
  have hA : ∀ q : Nat, s.heap.size ≤ q → (va_A (zw cs ad σ tl) s.heap.size) q := fun q h => Or.inr h
  generalize va_A (zw cs ad σ tl) s.heap.size = A at hD hE hA ⊢
  have hS : va_S A s.heap s.heap [] := va_S.rf
  have hl := lv_entry ([.ref (ad 0), .int a1]) (n := 2) (Nat.le_of_ble_eq_true rfl)
  rw [lg_entry_eq]
  generalize (lg_sl ([.ref (ad 0), .int a1]) ++ List.replicate (2 - (lg_sl ([.ref (ad 0), .int a1])).length) Slot.unset).toArray = ls at hl ⊢
  have hl : lv_has ls 2 [(0, .ref (ad 0)), (1, .int a1)] := hl
  generalize hR : (f_X5_checkPermit σ a1) = RV
  have hR := hR.symm
  unfold f_X5_checkPermit at hR
  obtain ⟨H, hH⟩ : ∃ z, z = s.heap := ⟨_, rfl⟩
  obtain ⟨locs, hlocs⟩ : ∃ z : List Loc, z = [] := ⟨_, rfl⟩
  rw [← hH] at hP
  have hS : va_S A s.heap H locs := by rw [hH, hlocs]; exact hS
  show W _ _ _ _ _ _ _ _ _ _ s.heap [] _ _ _ _
  rw [← hH, ← hlocs]
  clear hlocs
  refine lv_aload_n hx hb dX5_checkPermit_0 rfl (lv_at hl 0 rfl) ?_
  refine va_get (D := G) (ci := 7) (v := .ref (ad 23)) (C := RX5) (T := TX5) (N := 7) hx hb hts iX5_checkPermit hown hE.1 hP 0 (zg_0 cs ad σ tl) rfl 4 (by decide) (hts (.fieldLink RX5 37 "HandoverDeck" "permits" "LHandoverDeck$PermitRack;") (by decide +kernel)) (fun _ h9 => h9) rfl dX5_checkPermit_1 ?_
  refine lv_iload_n hx hb dX5_checkPermit_4 rfl (lv_at hl 1 rfl) ?_
  refine zai (va_runV (As := [.int a1]) (rest := []) ⟨hx, hb, hml, hown, hts⟩ (c_X3_hasPermit l G cs ad tl σ a1  H.size) (cwV 1 hts gX5_checkPermit_X3_hasPermit rfl rfl rfl (by decide +kernel) ⟨Nat.le_of_ble_eq_true rfl, Nat.le_of_ble_eq_true rfl⟩) (zpv hE hP hD hS hA (zg_23 cs ad σ tl) rfl) rfl rfl hl.1 rfl (lv_room (Nat.le_of_ble_eq_true rfl)) dX5_checkPermit_5 ⟨Nat.le_of_ble_eq_true rfl, Nat.le_of_ble_eq_true rfl⟩) hD hS hA (fun H locs hP hD hS => ?_)
  refine lv_if_ne (tgt := 22) hx hb dX5_checkPermit_8 (by decide) (fun c_1 => ?_) (fun c_1 => ?_)
  · have hR := hR.trans (if_neg c_1)
    have hR := hR.symm
    subst hR
    refine W.widen (k := 1) (n := 6) (by decide) (by decide) ?_
    refine vx_ret ?_
    exact W.vret hx hb hr (fun t ht hW => ⟨⟨(), rfl, rfl, by rw [ht]; exact hP, hD⟩, hS.F ht⟩) hS.2.2 dX5_checkPermit_22
  · have hR := hR.trans (if_pos c_1)
    have hR := hR.symm
    subst hR
    exact z_thrNW (k := 4) (is := 397) (text := "no such permit") hx hb hfl zf_4.1 zf_4.2.1 zf_4.2.2 (fun w h => hts w (List.mem_cons_of_mem _ (List.mem_append_right _ h))) (hts (.classLink RX5 125 "java/util/NoSuchElementException") (by decide +kernel)) (hts (.initialized "java/util/NoSuchElementException") (by decide +kernel)) (hE.2.1 _ (List.mem_of_getElem? (i := 6) rfl)) (hE.2.2.1 (397, "no such permit") (by decide +kernel)) hown hE hP hD hS (by rw [hl.1, hml]) dX5_checkPermit_11 dX5_checkPermit_14 dX5_checkPermit_15 dX5_checkPermit_18 dX5_checkPermit_21 htab (by decide) (by decide) (by decide) (by decide) hlocks (by decide) rfl (by decide) (by decide)
def f_X5_checkAtWork (σ : zS)  : Nat := (if (f_X1_isAtWork σ ) = 0 then 3 else 0)
theorem iX5_checkAtWork : ∀ w ∈ u_ws RX5 TX5 7, w ∈ wsX5_checkAtWork := by decide +kernel
set_option maxRecDepth 100000 in
theorem c_X5_checkAtWork (l : Launch) (hfl : l.stackTraces = false) (G : va_G) (cs : Nat → ClassId) (ad : Nat → Nat) (tl : va_W) (σ : zS)   : zXv l yX5_checkAtWork wsX5_checkAtWork { frames := 6, cells := 1, slots := 6, locals := 90 } G cs [.ref (ad 0)] (zw cs ad σ tl) (f_X5_checkAtWork σ ) (zw cs ad σ tl) 1 6 := by
  intro sz
  refine vx_ofW (cc := cX5_checkAtWork) (maxL := 1) (ret := none) (by decide) rfl ?_
  intro p e s m args below meth c s₁ B hml htab hv
  obtain ⟨rfl, hsz, hP, hD0, hE⟩ := hv
  have hx := B.exec
  have hb := B.bytes
  have hr := B.returns
  have hts := atoms_spec (ws := wsX5_checkAtWork) B.pre
  have hown : s.vm.findClass RX5 = some m.cls := findClass_of_methodNamed B.named
  have hlocks := B.notSynchronized
  subst hsz
  have hD := hD0.self (sz := s.heap.size)
  have hA : ∀ q : Nat, s.heap.size ≤ q → (va_A (zw cs ad σ tl) s.heap.size) q := fun q h => Or.inr h
  generalize va_A (zw cs ad σ tl) s.heap.size = A at hD hE hA ⊢
  have hS : va_S A s.heap s.heap [] := va_S.rf
  have hl := lv_entry ([.ref (ad 0)]) (n := 1) (Nat.le_of_ble_eq_true rfl)
  rw [lg_entry_eq]
  generalize (lg_sl ([.ref (ad 0)]) ++ List.replicate (1 - (lg_sl ([.ref (ad 0)])).length) Slot.unset).toArray = ls at hl ⊢
  have hl : lv_has ls 1 [(0, .ref (ad 0))] := hl
  generalize hR : (f_X5_checkAtWork σ ) = RV
  have hR := hR.symm
  unfold f_X5_checkAtWork at hR
  obtain ⟨H, hH⟩ : ∃ z, z = s.heap := ⟨_, rfl⟩
  obtain ⟨locs, hlocs⟩ : ∃ z : List Loc, z = [] := ⟨_, rfl⟩
  rw [← hH] at hP
  have hS : va_S A s.heap H locs := by rw [hH, hlocs]; exact hS
  show W _ _ _ _ _ _ _ _ _ _ s.heap [] _ _ _ _
  rw [← hH, ← hlocs]
  clear hlocs
  refine lv_aload_n hx hb dX5_checkAtWork_0 rfl (lv_at hl 0 rfl) ?_
  refine va_get (D := G) (ci := 7) (v := .ref (ad 27)) (C := RX5) (T := TX5) (N := 7) hx hb hts iX5_checkAtWork hown hE.1 hP 0 (zg_0 cs ad σ tl) rfl 5 (by decide) (hts (.fieldLink RX5 44 "HandoverDeck" "roster" "LHandoverDeck$CrewRoster;") (by decide +kernel)) (fun _ h9 => h9) rfl dX5_checkAtWork_1 ?_
  refine zai (va_runV (As := []) (rest := []) ⟨hx, hb, hml, hown, hts⟩ (c_X1_isAtWork l G cs ad tl σ   H.size) (cwV 0 hts gX5_checkAtWork_X1_isAtWork rfl rfl rfl (by decide +kernel) ⟨Nat.le_of_ble_eq_true rfl, Nat.le_of_ble_eq_true rfl⟩) (zpv hE hP hD hS hA (zg_27 cs ad σ tl) rfl) rfl rfl hl.1 rfl (lv_room (Nat.le_of_ble_eq_true rfl)) dX5_checkAtWork_4 ⟨Nat.le_of_ble_eq_true rfl, Nat.le_of_ble_eq_true rfl⟩) hD hS hA (fun H locs hP hD hS => ?_)
  refine lv_if_ne (tgt := 21) hx hb dX5_checkAtWork_7 (by decide) (fun c_1 => ?_) (fun c_1 => ?_)
  · have hR := hR.trans (if_neg c_1)
    have hR := hR.symm
    subst hR
    refine W.widen (k := 1) (n := 6) (by decide) (by decide) ?_
    refine vx_ret ?_
    exact W.vret hx hb hr (fun t ht hW => ⟨⟨(), rfl, rfl, by rw [ht]; exact hP, hD⟩, hS.F ht⟩) hS.2.2 dX5_checkAtWork_21
  · have hR := hR.trans (if_pos c_1)
    have hR := hR.symm
    subst hR
    exact z_thrW (k := 3) (is := 399) (text := "no crew is on duty, or a hand-over goes on") hx hb hfl zf_3.1 zf_3.2.1 zf_3.2.2 (fun w h => hts w (List.mem_cons_of_mem _ (List.mem_append_right _ h))) (hts (.classLink RX5 71 "java/lang/IllegalStateException") (by decide +kernel)) (hts (.initialized "java/lang/IllegalStateException") (by decide +kernel)) (hE.2.1 _ (List.mem_of_getElem? (i := 5) rfl)) (hE.2.2.1 (399, "no crew is on duty, or a hand-over goes on") (by decide +kernel)) hown hE hP hD hS (by rw [hl.1, hml]) dX5_checkAtWork_10 dX5_checkAtWork_13 dX5_checkAtWork_14 dX5_checkAtWork_17 dX5_checkAtWork_20 htab (by decide) (by decide) (by decide) (by decide) hlocks (by decide) rfl (by decide) (by decide)
def f_X5_checkHandOver (σ : zS)  : Nat := (if (f_X1_isHandingOver σ ) = 0 then 3 else 0)
theorem iX5_checkHandOver : ∀ w ∈ u_ws RX5 TX5 7, w ∈ wsX5_checkHandOver := by decide +kernel
set_option maxRecDepth 100000 in
theorem c_X5_checkHandOver (l : Launch) (hfl : l.stackTraces = false) (G : va_G) (cs : Nat → ClassId) (ad : Nat → Nat) (tl : va_W) (σ : zS)   : zXv l yX5_checkHandOver wsX5_checkHandOver { frames := 6, cells := 1, slots := 6, locals := 90 } G cs [.ref (ad 0)] (zw cs ad σ tl) (f_X5_checkHandOver σ ) (zw cs ad σ tl) 1 6 := by
  intro sz
  refine vx_ofW (cc := cX5_checkHandOver) (maxL := 1) (ret := none) (by decide) rfl ?_
  intro p e s m args below meth c s₁ B hml htab hv
  obtain ⟨rfl, hsz, hP, hD0, hE⟩ := hv
  have hx := B.exec
  have hb := B.bytes
  have hr := B.returns
  have hts := atoms_spec (ws := wsX5_checkHandOver) B.pre
  have hown : s.vm.findClass RX5 = some m.cls := findClass_of_methodNamed B.named
  have hlocks := B.notSynchronized
  subst hsz
  have hD := hD0.self (sz := s.heap.size)
  have hA : ∀ q : Nat, s.heap.size ≤ q → (va_A (zw cs ad σ tl) s.heap.size) q := fun q h => Or.inr h
  generalize va_A (zw cs ad σ tl) s.heap.size = A at hD hE hA ⊢
  have hS : va_S A s.heap s.heap [] := va_S.rf
  have hl := lv_entry ([.ref (ad 0)]) (n := 1) (Nat.le_of_ble_eq_true rfl)
  rw [lg_entry_eq]
  generalize (lg_sl ([.ref (ad 0)]) ++ List.replicate (1 - (lg_sl ([.ref (ad 0)])).length) Slot.unset).toArray = ls at hl ⊢
  have hl : lv_has ls 1 [(0, .ref (ad 0))] := hl
  generalize hR : (f_X5_checkHandOver σ ) = RV
  have hR := hR.symm
  unfold f_X5_checkHandOver at hR
  obtain ⟨H, hH⟩ : ∃ z, z = s.heap := ⟨_, rfl⟩
  obtain ⟨locs, hlocs⟩ : ∃ z : List Loc, z = [] := ⟨_, rfl⟩
  rw [← hH] at hP
  have hS : va_S A s.heap H locs := by rw [hH, hlocs]; exact hS
  show W _ _ _ _ _ _ _ _ _ _ s.heap [] _ _ _ _
  rw [← hH, ← hlocs]
  clear hlocs
  refine lv_aload_n hx hb dX5_checkHandOver_0 rfl (lv_at hl 0 rfl) ?_
  refine va_get (D := G) (ci := 7) (v := .ref (ad 27)) (C := RX5) (T := TX5) (N := 7) hx hb hts iX5_checkHandOver hown hE.1 hP 0 (zg_0 cs ad σ tl) rfl 5 (by decide) (hts (.fieldLink RX5 44 "HandoverDeck" "roster" "LHandoverDeck$CrewRoster;") (by decide +kernel)) (fun _ h9 => h9) rfl dX5_checkHandOver_1 ?_
  refine zai (va_runV (As := []) (rest := []) ⟨hx, hb, hml, hown, hts⟩ (c_X1_isHandingOver l G cs ad tl σ   H.size) (cwV 0 hts gX5_checkHandOver_X1_isHandingOver rfl rfl rfl (by decide +kernel) ⟨Nat.le_of_ble_eq_true rfl, Nat.le_of_ble_eq_true rfl⟩) (zpv hE hP hD hS hA (zg_27 cs ad σ tl) rfl) rfl rfl hl.1 rfl (lv_room (Nat.le_of_ble_eq_true rfl)) dX5_checkHandOver_4 ⟨Nat.le_of_ble_eq_true rfl, Nat.le_of_ble_eq_true rfl⟩) hD hS hA (fun H locs hP hD hS => ?_)
  refine lv_if_ne (tgt := 21) hx hb dX5_checkHandOver_7 (by decide) (fun c_1 => ?_) (fun c_1 => ?_)
  · have hR := hR.trans (if_neg c_1)
    have hR := hR.symm
    subst hR
    refine W.widen (k := 1) (n := 6) (by decide) (by decide) ?_
    refine vx_ret ?_
    exact W.vret hx hb hr (fun t ht hW => ⟨⟨(), rfl, rfl, by rw [ht]; exact hP, hD⟩, hS.F ht⟩) hS.2.2 dX5_checkHandOver_21
  · have hR := hR.trans (if_pos c_1)
    have hR := hR.symm
    subst hR
    exact z_thrW (k := 3) (is := 404) (text := "no hand-over goes on") hx hb hfl zf_3.1 zf_3.2.1 zf_3.2.2 (fun w h => hts w (List.mem_cons_of_mem _ (List.mem_append_right _ h))) (hts (.classLink RX5 71 "java/lang/IllegalStateException") (by decide +kernel)) (hts (.initialized "java/lang/IllegalStateException") (by decide +kernel)) (hE.2.1 _ (List.mem_of_getElem? (i := 5) rfl)) (hE.2.2.1 (404, "no hand-over goes on") (by decide +kernel)) hown hE hP hD hS (by rw [hl.1, hml]) dX5_checkHandOver_10 dX5_checkHandOver_13 dX5_checkHandOver_14 dX5_checkHandOver_17 dX5_checkHandOver_20 htab (by decide) (by decide) (by decide) (by decide) hlocks (by decide) rfl (by decide) (by decide)
def f_X5_checkUnit (a1 : Int32) : Nat := (if (f_X5_isUnit a1) = 0 then 1 else 0)
set_option maxRecDepth 100000 in
theorem c_X5_checkUnit (l : Launch) (hfl : l.stackTraces = false) (G : va_G) (cs : Nat → ClassId) (ad : Nat → Nat) (tl : va_W) (σ : zS) (a1 : Int32)  : zXv l yX5_checkUnit wsX5_checkUnit { frames := 6, cells := 1, slots := 6, locals := 90 } G cs [.int a1] (zw cs ad σ tl) (f_X5_checkUnit a1) (zw cs ad σ tl) 1 6 := by
  intro sz
  refine vx_ofW (cc := cX5_checkUnit) (maxL := 1) (ret := none) (by decide) rfl ?_
  intro p e s m args below meth c s₁ B hml htab hv
  obtain ⟨rfl, hsz, hP, hD0, hE⟩ := hv
  have hx := B.exec
  have hb := B.bytes
  have hr := B.returns
  have hts := atoms_spec (ws := wsX5_checkUnit) B.pre
  have hown : s.vm.findClass RX5 = some m.cls := findClass_of_methodNamed B.named
  have hlocks := B.notSynchronized
  subst hsz
  have hD := hD0.self (sz := s.heap.size)
  have hA : ∀ q : Nat, s.heap.size ≤ q → (va_A (zw cs ad σ tl) s.heap.size) q := fun q h => Or.inr h
  generalize va_A (zw cs ad σ tl) s.heap.size = A at hD hE hA ⊢
  have hS : va_S A s.heap s.heap [] := va_S.rf
  have hl := lv_entry ([.int a1]) (n := 1) (Nat.le_of_ble_eq_true rfl)
  rw [lg_entry_eq]
  generalize (lg_sl ([.int a1]) ++ List.replicate (1 - (lg_sl ([.int a1])).length) Slot.unset).toArray = ls at hl ⊢
  have hl : lv_has ls 1 [(0, .int a1)] := hl
  generalize hR : (f_X5_checkUnit a1) = RV
  have hR := hR.symm
  unfold f_X5_checkUnit at hR
  obtain ⟨H, hH⟩ : ∃ z, z = s.heap := ⟨_, rfl⟩
  obtain ⟨locs, hlocs⟩ : ∃ z : List Loc, z = [] := ⟨_, rfl⟩
  rw [← hH] at hP
  have hS : va_S A s.heap H locs := by rw [hH, hlocs]; exact hS
  show W _ _ _ _ _ _ _ _ _ _ s.heap [] _ _ _ _
  rw [← hH, ← hlocs]
  clear hlocs
  refine lv_iload_n hx hb dX5_checkUnit_0 rfl (lv_at hl 0 rfl) ?_
  refine zai (va_runS (As := [.int a1]) (rest := []) ⟨hx, hb, hml, hown, hts⟩ (c_X5_isUnit l G cs ad tl σ a1  H.size) (va_cwS 1 hts gX5_checkUnit_X5_isUnit rfl rfl rfl (by decide +kernel) ⟨Nat.le_of_ble_eq_true rfl, Nat.le_of_ble_eq_true rfl⟩) (zps hE hP hD hS hA) rfl rfl hl.1 rfl (lv_room (Nat.le_of_ble_eq_true rfl)) dX5_checkUnit_1 ⟨Nat.le_of_ble_eq_true rfl, Nat.le_of_ble_eq_true rfl⟩) hD hS hA (fun H locs hP hD hS => ?_)
  refine lv_if_ne (tgt := 18) hx hb dX5_checkUnit_4 (by decide) (fun c_1 => ?_) (fun c_1 => ?_)
  · have hR := hR.trans (if_neg c_1)
    have hR := hR.symm
    subst hR
    refine W.widen (k := 1) (n := 6) (by decide) (by decide) ?_
    refine vx_ret ?_
    exact W.vret hx hb hr (fun t ht hW => ⟨⟨(), rfl, rfl, by rw [ht]; exact hP, hD⟩, hS.F ht⟩) hS.2.2 dX5_checkUnit_18
  · have hR := hR.trans (if_pos c_1)
    have hR := hR.symm
    subst hR
    exact z_thrW (k := 1) (is := 406) (text := "no such unit") hx hb hfl zf_1.1 zf_1.2.1 zf_1.2.2 (fun w h => hts w (List.mem_cons_of_mem _ (List.mem_append_right _ h))) (hts (.classLink RX5 328 "java/lang/IndexOutOfBoundsException") (by decide +kernel)) (hts (.initialized "java/lang/IndexOutOfBoundsException") (by decide +kernel)) (hE.2.1 _ (List.mem_of_getElem? (i := 3) rfl)) (hE.2.2.1 (406, "no such unit") (by decide +kernel)) hown hE hP hD hS (by rw [hl.1, hml]) dX5_checkUnit_7 dX5_checkUnit_10 dX5_checkUnit_11 dX5_checkUnit_14 dX5_checkUnit_17 htab (by decide) (by decide) (by decide) (by decide) hlocks (by decide) rfl (by decide) (by decide)
def f_X5_checkAlarm (a1 : Int32) (a2 : Int32) : Nat := (if (f_X5_checkUnit a1) = 0 then (if a2 < 0 then 1 else (if a2 < 4 then 0 else 1)) else (f_X5_checkUnit a1))
set_option maxRecDepth 100000 in
theorem c_X5_checkAlarm (l : Launch) (hfl : l.stackTraces = false) (G : va_G) (cs : Nat → ClassId) (ad : Nat → Nat) (tl : va_W) (σ : zS) (a1 : Int32) (a2 : Int32)  : zXv l yX5_checkAlarm wsX5_checkAlarm { frames := 7, cells := 2, slots := 12, locals := 110 } G cs [.int a1, .int a2] (zw cs ad σ tl) (f_X5_checkAlarm a1 a2) (zw cs ad σ tl) 2 12 := by
  intro sz
  refine vx_ofW (cc := cX5_checkAlarm) (maxL := 2) (ret := none) (by decide) rfl ?_
  intro p e s m args below meth c s₁ B hml htab hv
  obtain ⟨rfl, hsz, hP, hD0, hE⟩ := hv
  have hx := B.exec
  have hb := B.bytes
  have hr := B.returns
  have hts := atoms_spec (ws := wsX5_checkAlarm) B.pre
  have hown : s.vm.findClass RX5 = some m.cls := findClass_of_methodNamed B.named
  have hlocks := B.notSynchronized
  subst hsz
  have hD := hD0.self (sz := s.heap.size)
  have hA : ∀ q : Nat, s.heap.size ≤ q → (va_A (zw cs ad σ tl) s.heap.size) q := fun q h => Or.inr h
  generalize va_A (zw cs ad σ tl) s.heap.size = A at hD hE hA ⊢
  have hS : va_S A s.heap s.heap [] := va_S.rf
  have hl := lv_entry ([.int a1, .int a2]) (n := 2) (Nat.le_of_ble_eq_true rfl)
  rw [lg_entry_eq]
  generalize (lg_sl ([.int a1, .int a2]) ++ List.replicate (2 - (lg_sl ([.int a1, .int a2])).length) Slot.unset).toArray = ls at hl ⊢
  have hl : lv_has ls 2 [(0, .int a1), (1, .int a2)] := hl
  generalize hR : (f_X5_checkAlarm a1 a2) = RV
  have hR := hR.symm
  unfold f_X5_checkAlarm at hR
  obtain ⟨H, hH⟩ : ∃ z, z = s.heap := ⟨_, rfl⟩
  obtain ⟨locs, hlocs⟩ : ∃ z : List Loc, z = [] := ⟨_, rfl⟩
  rw [← hH] at hP
  have hS : va_S A s.heap H locs := by rw [hH, hlocs]; exact hS
  show W _ _ _ _ _ _ _ _ _ _ s.heap [] _ _ _ _
  rw [← hH, ← hlocs]
  clear hlocs
  refine lv_iload_n hx hb dX5_checkAlarm_0 rfl (lv_at hl 0 rfl) ?_
  refine zaxv (vx_runS (As := [.int a1]) (rest := []) ⟨hx, hb, hml, hown, hts⟩ (c_X5_checkUnit l hfl G cs ad tl σ a1  H.size) (va_cwS 1 hts gX5_checkAlarm_X5_checkUnit rfl rfl rfl (by decide +kernel) ⟨Nat.le_of_ble_eq_true rfl, Nat.le_of_ble_eq_true rfl⟩) (zps hE hP hD hS hA) rfl rfl hl.1 rfl (lv_room (Nat.le_of_ble_eq_true rfl)) dX5_checkAlarm_1 ⟨Nat.le_of_ble_eq_true rfl, Nat.le_of_ble_eq_true rfl⟩) hD hS hA (fun c_1 ce q9 H locs hP hD hS h1 h2 h3 => ?_) (fun c_1 H locs hP hD hS => ?_)
  · have hR := hR.trans (if_neg c_1)
    have hR := hR.symm
    subst hR
    exact z_out htab hlocks h1 h2 h3 c_1 hP hD hS (by decide) (by decide)
  · have hR := hR.trans (if_pos c_1)
    refine lv_iload_n hx hb dX5_checkAlarm_4 rfl (lv_at hl 1 rfl) ?_
    refine lv_if_lt (tgt := 13) hx hb dX5_checkAlarm_5 (by decide) (fun c_2 => ?_) (fun c_2 => ?_)
    · have hR := hR.trans (if_pos c_2)
      have hR := hR.symm
      subst hR
      exact z_thrW (k := 1) (is := 408) (text := "no such kind of alarm") hx hb hfl zf_1.1 zf_1.2.1 zf_1.2.2 (fun w h => hts w (List.mem_cons_of_mem _ (List.mem_append_right _ h))) (hts (.classLink RX5 328 "java/lang/IndexOutOfBoundsException") (by decide +kernel)) (hts (.initialized "java/lang/IndexOutOfBoundsException") (by decide +kernel)) (hE.2.1 _ (List.mem_of_getElem? (i := 3) rfl)) (hE.2.2.1 (408, "no such kind of alarm") (by decide +kernel)) hown hE hP hD hS (by rw [hl.1, hml]) dX5_checkAlarm_13 dX5_checkAlarm_16 dX5_checkAlarm_17 dX5_checkAlarm_20 dX5_checkAlarm_23 htab (by decide) (by decide) (by decide) (by decide) hlocks (by decide) rfl (by decide) (by decide)
    · have hR := hR.trans (if_neg c_2)
      refine lv_iload_n hx hb dX5_checkAlarm_8 rfl (lv_at hl 1 rfl) ?_
      refine lv_iconst (v := 4) hx hb dX5_checkAlarm_9 (by decide) ?_
      refine lv_icmp_lt (tgt := 24) hx hb dX5_checkAlarm_10 (by decide) (fun c_3 => ?_) (fun c_3 => ?_)
      · have hR := hR.trans (if_pos c_3)
        have hR := hR.symm
        subst hR
        refine W.widen (k := 2) (n := 12) (by decide) (by decide) ?_
        refine vx_ret ?_
        exact W.vret hx hb hr (fun t ht hW => ⟨⟨(), rfl, rfl, by rw [ht]; exact hP, hD⟩, hS.F ht⟩) hS.2.2 dX5_checkAlarm_24
      · have hR := hR.trans (if_neg c_3)
        have hR := hR.symm
        subst hR
        exact z_thrW (k := 1) (is := 408) (text := "no such kind of alarm") hx hb hfl zf_1.1 zf_1.2.1 zf_1.2.2 (fun w h => hts w (List.mem_cons_of_mem _ (List.mem_append_right _ h))) (hts (.classLink RX5 328 "java/lang/IndexOutOfBoundsException") (by decide +kernel)) (hts (.initialized "java/lang/IndexOutOfBoundsException") (by decide +kernel)) (hE.2.1 _ (List.mem_of_getElem? (i := 3) rfl)) (hE.2.2.1 (408, "no such kind of alarm") (by decide +kernel)) hown hE hP hD hS (by rw [hl.1, hml]) dX5_checkAlarm_13 dX5_checkAlarm_16 dX5_checkAlarm_17 dX5_checkAlarm_20 dX5_checkAlarm_23 htab (by decide) (by decide) (by decide) (by decide) hlocks (by decide) rfl (by decide) (by decide)
def f_X5_checkPriority (a1 : Int32) : Nat := (if a1 < 1 then 2 else (if a1 ≤ 5 then 0 else 2))
set_option maxRecDepth 100000 in
theorem c_X5_checkPriority (l : Launch) (hfl : l.stackTraces = false) (G : va_G) (cs : Nat → ClassId) (ad : Nat → Nat) (tl : va_W) (σ : zS) (a1 : Int32)  : zXv l yX5_checkPriority wsX5_checkPriority { frames := 6, cells := 1, slots := 6, locals := 90 } G cs [.int a1] (zw cs ad σ tl) (f_X5_checkPriority a1) (zw cs ad σ tl) 1 6 := by
  intro sz
  refine vx_ofW (cc := cX5_checkPriority) (maxL := 1) (ret := none) (by decide) rfl ?_
  intro p e s m args below meth c s₁ B hml htab hv
  obtain ⟨rfl, hsz, hP, hD0, hE⟩ := hv
  have hx := B.exec
  have hb := B.bytes
  have hr := B.returns
  have hts := atoms_spec (ws := wsX5_checkPriority) B.pre
  have hown : s.vm.findClass RX5 = some m.cls := findClass_of_methodNamed B.named
  have hlocks := B.notSynchronized
  subst hsz
  have hD := hD0.self (sz := s.heap.size)
  have hA : ∀ q : Nat, s.heap.size ≤ q → (va_A (zw cs ad σ tl) s.heap.size) q := fun q h => Or.inr h
  generalize va_A (zw cs ad σ tl) s.heap.size = A at hD hE hA ⊢
  have hS : va_S A s.heap s.heap [] := va_S.rf
  have hl := lv_entry ([.int a1]) (n := 1) (Nat.le_of_ble_eq_true rfl)
  rw [lg_entry_eq]
  generalize (lg_sl ([.int a1]) ++ List.replicate (1 - (lg_sl ([.int a1])).length) Slot.unset).toArray = ls at hl ⊢
  have hl : lv_has ls 1 [(0, .int a1)] := hl
  generalize hR : (f_X5_checkPriority a1) = RV
  have hR := hR.symm
  unfold f_X5_checkPriority at hR
  obtain ⟨H, hH⟩ : ∃ z, z = s.heap := ⟨_, rfl⟩
  obtain ⟨locs, hlocs⟩ : ∃ z : List Loc, z = [] := ⟨_, rfl⟩
  rw [← hH] at hP
  have hS : va_S A s.heap H locs := by rw [hH, hlocs]; exact hS
  show W _ _ _ _ _ _ _ _ _ _ s.heap [] _ _ _ _
  rw [← hH, ← hlocs]
  clear hlocs
  refine lv_iload_n hx hb dX5_checkPriority_0 rfl (lv_at hl 0 rfl) ?_
  refine lv_iconst (v := 1) hx hb dX5_checkPriority_1 (by decide) ?_
  refine lv_icmp_lt (tgt := 10) hx hb dX5_checkPriority_2 (by decide) (fun c_1 => ?_) (fun c_1 => ?_)
  · have hR := hR.trans (if_pos c_1)
    have hR := hR.symm
    subst hR
    exact z_thrW (k := 2) (is := 410) (text := "no such priority") hx hb hfl zf_2.1 zf_2.2.1 zf_2.2.2 (fun w h => hts w (List.mem_cons_of_mem _ (List.mem_append_right _ h))) (hts (.classLink RX5 105 "java/lang/IllegalArgumentException") (by decide +kernel)) (hts (.initialized "java/lang/IllegalArgumentException") (by decide +kernel)) (hE.2.1 _ (List.mem_of_getElem? (i := 4) rfl)) (hE.2.2.1 (410, "no such priority") (by decide +kernel)) hown hE hP hD hS (by rw [hl.1, hml]) dX5_checkPriority_10 dX5_checkPriority_13 dX5_checkPriority_14 dX5_checkPriority_17 dX5_checkPriority_20 htab (by decide) (by decide) (by decide) (by decide) hlocks (by decide) rfl (by decide) (by decide)
  · have hR := hR.trans (if_neg c_1)
    refine lv_iload_n hx hb dX5_checkPriority_5 rfl (lv_at hl 0 rfl) ?_
    refine lv_iconst (v := 5) hx hb dX5_checkPriority_6 (by decide) ?_
    refine lv_icmp_le (tgt := 21) hx hb dX5_checkPriority_7 (by decide) (fun c_2 => ?_) (fun c_2 => ?_)
    · have hR := hR.trans (if_pos c_2)
      have hR := hR.symm
      subst hR
      refine W.widen (k := 1) (n := 6) (by decide) (by decide) ?_
      refine vx_ret ?_
      exact W.vret hx hb hr (fun t ht hW => ⟨⟨(), rfl, rfl, by rw [ht]; exact hP, hD⟩, hS.F ht⟩) hS.2.2 dX5_checkPriority_21
    · have hR := hR.trans (if_neg c_2)
      have hR := hR.symm
      subst hR
      exact z_thrW (k := 2) (is := 410) (text := "no such priority") hx hb hfl zf_2.1 zf_2.2.1 zf_2.2.2 (fun w h => hts w (List.mem_cons_of_mem _ (List.mem_append_right _ h))) (hts (.classLink RX5 105 "java/lang/IllegalArgumentException") (by decide +kernel)) (hts (.initialized "java/lang/IllegalArgumentException") (by decide +kernel)) (hE.2.1 _ (List.mem_of_getElem? (i := 4) rfl)) (hE.2.2.1 (410, "no such priority") (by decide +kernel)) hown hE hP hD hS (by rw [hl.1, hml]) dX5_checkPriority_10 dX5_checkPriority_13 dX5_checkPriority_14 dX5_checkPriority_17 dX5_checkPriority_20 htab (by decide) (by decide) (by decide) (by decide) hlocks (by decide) rfl (by decide) (by decide)
def f_X5_checkState (a1 : Int32) : Nat := (if a1 < 0 then 2 else (if a1 < 4 then 0 else 2))
set_option maxRecDepth 100000 in
theorem c_X5_checkState (l : Launch) (hfl : l.stackTraces = false) (G : va_G) (cs : Nat → ClassId) (ad : Nat → Nat) (tl : va_W) (σ : zS) (a1 : Int32)  : zXv l yX5_checkState wsX5_checkState { frames := 6, cells := 1, slots := 6, locals := 90 } G cs [.int a1] (zw cs ad σ tl) (f_X5_checkState a1) (zw cs ad σ tl) 1 6 := by
  intro sz
  refine vx_ofW (cc := cX5_checkState) (maxL := 1) (ret := none) (by decide) rfl ?_
  intro p e s m args below meth c s₁ B hml htab hv
  obtain ⟨rfl, hsz, hP, hD0, hE⟩ := hv
  have hx := B.exec
  have hb := B.bytes
  have hr := B.returns
  have hts := atoms_spec (ws := wsX5_checkState) B.pre
  have hown : s.vm.findClass RX5 = some m.cls := findClass_of_methodNamed B.named
  have hlocks := B.notSynchronized
  subst hsz
  have hD := hD0.self (sz := s.heap.size)
  have hA : ∀ q : Nat, s.heap.size ≤ q → (va_A (zw cs ad σ tl) s.heap.size) q := fun q h => Or.inr h
  generalize va_A (zw cs ad σ tl) s.heap.size = A at hD hE hA ⊢
  have hS : va_S A s.heap s.heap [] := va_S.rf
  have hl := lv_entry ([.int a1]) (n := 1) (Nat.le_of_ble_eq_true rfl)
  rw [lg_entry_eq]
  generalize (lg_sl ([.int a1]) ++ List.replicate (1 - (lg_sl ([.int a1])).length) Slot.unset).toArray = ls at hl ⊢
  have hl : lv_has ls 1 [(0, .int a1)] := hl
  generalize hR : (f_X5_checkState a1) = RV
  have hR := hR.symm
  unfold f_X5_checkState at hR
  obtain ⟨H, hH⟩ : ∃ z, z = s.heap := ⟨_, rfl⟩
  obtain ⟨locs, hlocs⟩ : ∃ z : List Loc, z = [] := ⟨_, rfl⟩
  rw [← hH] at hP
  have hS : va_S A s.heap H locs := by rw [hH, hlocs]; exact hS
  show W _ _ _ _ _ _ _ _ _ _ s.heap [] _ _ _ _
  rw [← hH, ← hlocs]
  clear hlocs
  refine lv_iload_n hx hb dX5_checkState_0 rfl (lv_at hl 0 rfl) ?_
  refine lv_if_lt (tgt := 9) hx hb dX5_checkState_1 (by decide) (fun c_1 => ?_) (fun c_1 => ?_)
  · have hR := hR.trans (if_pos c_1)
    have hR := hR.symm
    subst hR
    exact z_thrW (k := 2) (is := 412) (text := "no such state") hx hb hfl zf_2.1 zf_2.2.1 zf_2.2.2 (fun w h => hts w (List.mem_cons_of_mem _ (List.mem_append_right _ h))) (hts (.classLink RX5 105 "java/lang/IllegalArgumentException") (by decide +kernel)) (hts (.initialized "java/lang/IllegalArgumentException") (by decide +kernel)) (hE.2.1 _ (List.mem_of_getElem? (i := 4) rfl)) (hE.2.2.1 (412, "no such state") (by decide +kernel)) hown hE hP hD hS (by rw [hl.1, hml]) dX5_checkState_9 dX5_checkState_12 dX5_checkState_13 dX5_checkState_16 dX5_checkState_19 htab (by decide) (by decide) (by decide) (by decide) hlocks (by decide) rfl (by decide) (by decide)
  · have hR := hR.trans (if_neg c_1)
    refine lv_iload_n hx hb dX5_checkState_4 rfl (lv_at hl 0 rfl) ?_
    refine lv_iconst (v := 4) hx hb dX5_checkState_5 (by decide) ?_
    refine lv_icmp_lt (tgt := 20) hx hb dX5_checkState_6 (by decide) (fun c_2 => ?_) (fun c_2 => ?_)
    · have hR := hR.trans (if_pos c_2)
      have hR := hR.symm
      subst hR
      refine W.widen (k := 1) (n := 6) (by decide) (by decide) ?_
      refine vx_ret ?_
      exact W.vret hx hb hr (fun t ht hW => ⟨⟨(), rfl, rfl, by rw [ht]; exact hP, hD⟩, hS.F ht⟩) hS.2.2 dX5_checkState_20
    · have hR := hR.trans (if_neg c_2)
      have hR := hR.symm
      subst hR
      exact z_thrW (k := 2) (is := 412) (text := "no such state") hx hb hfl zf_2.1 zf_2.2.1 zf_2.2.2 (fun w h => hts w (List.mem_cons_of_mem _ (List.mem_append_right _ h))) (hts (.classLink RX5 105 "java/lang/IllegalArgumentException") (by decide +kernel)) (hts (.initialized "java/lang/IllegalArgumentException") (by decide +kernel)) (hE.2.1 _ (List.mem_of_getElem? (i := 4) rfl)) (hE.2.2.1 (412, "no such state") (by decide +kernel)) hown hE hP hD hS (by rw [hl.1, hml]) dX5_checkState_9 dX5_checkState_12 dX5_checkState_13 dX5_checkState_16 dX5_checkState_19 htab (by decide) (by decide) (by decide) (by decide) hlocks (by decide) rfl (by decide) (by decide)
def f_X5_checkCrew (a1 : Int32) : Nat := (if (f_X5_isCrew a1) = 0 then 2 else 0)
set_option maxRecDepth 100000 in
theorem c_X5_checkCrew (l : Launch) (hfl : l.stackTraces = false) (G : va_G) (cs : Nat → ClassId) (ad : Nat → Nat) (tl : va_W) (σ : zS) (a1 : Int32)  : zXv l yX5_checkCrew wsX5_checkCrew { frames := 6, cells := 1, slots := 6, locals := 90 } G cs [.int a1] (zw cs ad σ tl) (f_X5_checkCrew a1) (zw cs ad σ tl) 1 6 := by
  intro sz
  refine vx_ofW (cc := cX5_checkCrew) (maxL := 1) (ret := none) (by decide) rfl ?_
  intro p e s m args below meth c s₁ B hml htab hv
  obtain ⟨rfl, hsz, hP, hD0, hE⟩ := hv
  have hx := B.exec
  have hb := B.bytes
  have hr := B.returns
  have hts := atoms_spec (ws := wsX5_checkCrew) B.pre
  have hown : s.vm.findClass RX5 = some m.cls := findClass_of_methodNamed B.named
  have hlocks := B.notSynchronized
  subst hsz
  have hD := hD0.self (sz := s.heap.size)
  have hA : ∀ q : Nat, s.heap.size ≤ q → (va_A (zw cs ad σ tl) s.heap.size) q := fun q h => Or.inr h
  generalize va_A (zw cs ad σ tl) s.heap.size = A at hD hE hA ⊢
  have hS : va_S A s.heap s.heap [] := va_S.rf
  have hl := lv_entry ([.int a1]) (n := 1) (Nat.le_of_ble_eq_true rfl)
  rw [lg_entry_eq]
  generalize (lg_sl ([.int a1]) ++ List.replicate (1 - (lg_sl ([.int a1])).length) Slot.unset).toArray = ls at hl ⊢
  have hl : lv_has ls 1 [(0, .int a1)] := hl
  generalize hR : (f_X5_checkCrew a1) = RV
  have hR := hR.symm
  unfold f_X5_checkCrew at hR
  obtain ⟨H, hH⟩ : ∃ z, z = s.heap := ⟨_, rfl⟩
  obtain ⟨locs, hlocs⟩ : ∃ z : List Loc, z = [] := ⟨_, rfl⟩
  rw [← hH] at hP
  have hS : va_S A s.heap H locs := by rw [hH, hlocs]; exact hS
  show W _ _ _ _ _ _ _ _ _ _ s.heap [] _ _ _ _
  rw [← hH, ← hlocs]
  clear hlocs
  refine lv_iload_n hx hb dX5_checkCrew_0 rfl (lv_at hl 0 rfl) ?_
  refine zai (va_runS (As := [.int a1]) (rest := []) ⟨hx, hb, hml, hown, hts⟩ (c_X5_isCrew l G cs ad tl σ a1  H.size) (va_cwS 1 hts gX5_checkCrew_X5_isCrew rfl rfl rfl (by decide +kernel) ⟨Nat.le_of_ble_eq_true rfl, Nat.le_of_ble_eq_true rfl⟩) (zps hE hP hD hS hA) rfl rfl hl.1 rfl (lv_room (Nat.le_of_ble_eq_true rfl)) dX5_checkCrew_1 ⟨Nat.le_of_ble_eq_true rfl, Nat.le_of_ble_eq_true rfl⟩) hD hS hA (fun H locs hP hD hS => ?_)
  refine lv_if_ne (tgt := 18) hx hb dX5_checkCrew_4 (by decide) (fun c_1 => ?_) (fun c_1 => ?_)
  · have hR := hR.trans (if_neg c_1)
    have hR := hR.symm
    subst hR
    refine W.widen (k := 1) (n := 6) (by decide) (by decide) ?_
    refine vx_ret ?_
    exact W.vret hx hb hr (fun t ht hW => ⟨⟨(), rfl, rfl, by rw [ht]; exact hP, hD⟩, hS.F ht⟩) hS.2.2 dX5_checkCrew_18
  · have hR := hR.trans (if_pos c_1)
    have hR := hR.symm
    subst hR
    exact z_thrW (k := 2) (is := 417) (text := "no such crew") hx hb hfl zf_2.1 zf_2.2.1 zf_2.2.2 (fun w h => hts w (List.mem_cons_of_mem _ (List.mem_append_right _ h))) (hts (.classLink RX5 105 "java/lang/IllegalArgumentException") (by decide +kernel)) (hts (.initialized "java/lang/IllegalArgumentException") (by decide +kernel)) (hE.2.1 _ (List.mem_of_getElem? (i := 4) rfl)) (hE.2.2.1 (417, "no such crew") (by decide +kernel)) hown hE hP hD hS (by rw [hl.1, hml]) dX5_checkCrew_7 dX5_checkCrew_10 dX5_checkCrew_11 dX5_checkCrew_14 dX5_checkCrew_17 htab (by decide) (by decide) (by decide) (by decide) hlocks (by decide) rfl (by decide) (by decide)
