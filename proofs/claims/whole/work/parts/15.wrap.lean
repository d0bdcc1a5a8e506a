theorem loop0_reset {σ : zS} {a1 : Int32} : ∀ (n : Nat) (τ : zS) (x2 x3 : Int32), (L_X5_reset_21 σ a1 n τ x2 x3).1 = 0 := by
  intro n
  induction n with
  | zero => intro τ x2 x3; rfl
  | succ n ih =>
    intro τ x2 x3
    rw [L_X5_reset_21]
    split
    · rfl
    · split <;> exact ih _ _ _
theorem zmem {x : Nat} {l l1 : List Nat} (h : x ∈ l) (s : ∀ y ∈ l, y ∈ l1) : x ∈ l1 := s x h
def zt (cs : Nat → ClassId) (qo : Nat) (o : Nat → Int64) (qd : Nat) (d : Nat → UInt64) : va_W := [(qo, .inl (cs 3, 1, .inr (.inl o))), (qd, .inl (cs 4, 1, .inr (.inr (.inr (.inl d)))))]
theorem z_in01 : vp_in 0 1 := by
  rw [show (0 : Int32) = nI 0 from rfl]
  exact vp_in_nI (by decide) (by decide)
def zo (k : Nat) (v : Int64) (o : Nat → Int64) : Nat → Int64 := if k = 0 then vp_updL o (0 : Int32).toNatClampNeg v else o
def zcl : List Cond := [.classLink RL 13 "java/lang/IndexOutOfBoundsException", .classLink RL 19 "java/lang/IllegalArgumentException", .classLink RL 21 "java/lang/IllegalStateException", .classLink RL 27 "java/util/NoSuchElementException", .classLink RL 66 "java/lang/UnsupportedOperationException", .classLink RL 127 "java/lang/ArithmeticException"]
theorem z_gl {big : List Cond} {own : String} {idx : Nat} {y : MethodName} {hd : Cond} {cl ws ws0 : List Cond} (hw : ws = hd :: ws0) (h : GoodIn big (va_wsS own idx y ws)) (hc : GoodIn big cl) : GoodIn big (va_wsS own idx y (hd :: (cl ++ ws))) := by
  intro w hm
  unfold va_wsS at h hm
  rcases List.mem_append.mp hm with h1 | h1
  · exact h w (List.mem_append_left _ h1)
  · rcases List.mem_cons.mp h1 with h2 | h2
    · exact h w (List.mem_append_right _ (by rw [hw, h2]; exact List.mem_cons_self))
    · rcases List.mem_append.mp h2 with h3 | h3
      · exact hc w h3
      · exact h w (List.mem_append_right _ h3)
theorem z_ofWH {l : Launch} {y : MethodName} {ws ws' : List Cond} {rm : Room} {Pc : Array Value → State → Prop} {Qc : Array Value → State → Outcome → State → Prop} {mc ms : Nat} {free : Addr → Prop} {cc : ByteArray} {maxL : Nat} {ret : Option FieldType} {hh : List (Nat × Nat × Nat × Nat)}
    (hy : plainName y.cls = true) (hw : ws = Cond.codeWith y cc maxL ret hh :: ws')
    (body : ∀ p e s m args below meth c s₁, BodyLoose p l y (headSpec ws rm) cc maxL ret e s m args below meth c s₁ → c.maxLocals = maxL → Pc args s →
      W p l e (headSpec ws rm).room s m args below meth c s.heap [] 0 0 (MQ below Qc args s mc ms free) (entryFrame m args maxL)) : Met l y ws rm Pc Qc mc ms free := by
  refine MetFree.of_bodyS (code := cc) (maxLocals := maxL) (ret := ret) hy ?_ ?_
  · intro args s m h hn
    obtain ⟨m9, meth, c, hn9, h1, h2, h3, h4, -, h5, h6, -⟩ := Cond.codeWith_spec (atoms_spec (ws := ws) h _ (by rw [hw]; exact List.mem_cons_self))
    cases hn.symm.trans hn9
    exact ⟨meth, c, h1, h2, h3, h4, h5, h6⟩
  · intro p e s m args below meth c s₁ B hml hP _
    have hh0 : s₁.heap = s.heap := by rw [B.state]; rfl
    obtain ⟨t, a1, o, b1, b2, b3⟩ := body p e s m args below meth c s₁ B hml hP s₁ hh0 (Stand.of_body B)
    exact ⟨t, o, a1, b1, b2, ⟨b3.1, b3.2⟩⟩
theorem codes_X5_checkUnit (a1 : Int32) : (f_X5_checkUnit a1) ∈ ([0, 1] : List Nat) := by
  unfold f_X5_checkUnit
  by_cases c1 : (f_X5_isUnit a1) = 0
  · rw [if_pos c1]
    exact (show 1 ∈ ([0, 1] : List Nat) by decide)
  · rw [if_neg c1]
    exact (show 0 ∈ ([0, 1] : List Nat) by decide)
theorem codes_X5_state (σ : zS) (a1 : Int32) : (f_X5_state σ a1).1 ∈ ([0, 1] : List Nat) := by
  unfold f_X5_state
  by_cases c1 : (f_X5_checkUnit a1) = 0
  · rw [if_pos c1]
    exact (show 0 ∈ ([0, 1] : List Nat) by decide)
  · rw [if_neg c1]
    exact zmem (codes_X5_checkUnit a1) (by decide)
def f_L_state : Nat → Int32 := fun k => if k = 0 then 0 else if k = 1 then 1 else 9
def zws_state : List Cond := .codeWith yL_state cL_state 4 (some .int) [(0, 9, 12, 13)] :: (zcl ++ wsL_state)
set_option maxRecDepth 100000 in
theorem c_L_state (l : Launch) (hfl : l.stackTraces = false) (G : va_G) (cs : Nat → ClassId) (ad : Nat → Nat) (qo : Nat) (o : Nat → Int64) (qd : Nat) (d : Nat → UInt64) (σ : zS) (a1 : Int32)  : zMi l yL_state zws_state { frames := 8, cells := 1, slots := 6, locals := 131 } G cs [.ref (ad 0), .int a1, .ref qo] (zw cs ad σ (zt cs qo o qd d)) (f_L_state (f_X5_state σ a1).1) (zw cs ad (f_X5_state σ a1).2.2 (zt cs qo (zo (f_X5_state σ a1).1 (f_X5_state σ a1).2.1.toInt64 o) qd d)) 1 6 := by
  intro sz
  refine z_ofWH (cc := cL_state) (maxL := 4) (ret := (some .int)) (hh := [(0, 9, 12, 13)]) (by decide) rfl ?_
  intro p e s m args below meth c s₁ B hml hv
  obtain ⟨rfl, hsz, hP, hD0, hE⟩ := hv
  have hx := B.exec
  have hb := B.bytes
  have hr := B.returns
  have hts1 := atoms_spec (ws := zws_state) B.pre
  have htc : ∀ w ∈ zcl, w.before _ s = true := fun w h => hts1 w (List.mem_cons_of_mem _ (List.mem_append_left _ h))
  have hts : ∀ w ∈ wsL_state, w.before _ s = true := fun w h => hts1 w (List.mem_cons_of_mem _ (List.mem_append_right _ h))
  have hown : s.vm.findClass RL = some m.cls := findClass_of_methodNamed B.named
  have hlocks := B.notSynchronized
  have htab := vx_table (x := yL_state) B (hts1 _ List.mem_cons_self)
  subst hsz
  have hD := hD0.self (sz := s.heap.size)
  have hA : ∀ q : Nat, s.heap.size ≤ q → (va_A (zw cs ad σ (zt cs qo o qd d)) s.heap.size) q := fun q h => Or.inr h
  generalize va_A (zw cs ad σ (zt cs qo o qd d)) s.heap.size = A at hD hE hA ⊢
  have hS : va_S A s.heap s.heap [] := va_S.rf
  have hl := lv_entry ([.ref (ad 0), .int a1, .ref qo]) (n := 4) (Nat.le_of_ble_eq_true rfl)
  rw [lg_entry_eq]
  generalize (lg_sl ([.ref (ad 0), .int a1, .ref qo]) ++ List.replicate (4 - (lg_sl ([.ref (ad 0), .int a1, .ref qo])).length) Slot.unset).toArray = ls at hl ⊢
  have hl : lv_has ls 4 [(0, .ref (ad 0)), (1, .int a1), (2, .ref qo)] := hl
  have hcd := codes_X5_state σ a1
  obtain ⟨rv, hrv⟩ : ∃ z, z = f_L_state (f_X5_state σ a1).1 := ⟨_, rfl⟩
  obtain ⟨o1, ho1⟩ : ∃ z, z = zo (f_X5_state σ a1).1 (f_X5_state σ a1).2.1.toInt64 o := ⟨_, rfl⟩
  rw [← hrv, ← ho1]
  refine lv_aload_n hx hb dL_state_0 rfl (lv_at hl 2 rfl) ?_
  refine lv_iconst (v := 0) hx hb dL_state_1 (by decide) ?_
  refine lv_aload_n hx hb dL_state_2 rfl (lv_at hl 0 rfl) ?_
  refine lv_iload_n hx hb dL_state_3 rfl (lv_at hl 1 rfl) ?_
  refine zaxi (vx_runV (As := [.int a1]) (rest := [.int 0, .ref qo]) ⟨hx, hb, hml, hown, hts⟩ (c_X5_state l hfl G cs ad (zt cs qo o qd d) σ a1  s.heap.size) (cwV 1 hts gL_state_X5_state rfl rfl rfl (by decide +kernel) ⟨Nat.le_of_ble_eq_true rfl, Nat.le_of_ble_eq_true rfl⟩) (zpv hE hP hD hS hA (zg_0 cs ad σ (zt cs qo o qd d)) rfl) rfl rfl hl.1 rfl (lv_room (Nat.le_of_ble_eq_true rfl)) dL_state_4 ⟨Nat.le_of_ble_eq_true rfl, Nat.le_of_ble_eq_true rfl⟩) hD hS hA (fun c1 ce q9 H locs hP hD hS h1 h2 h3 => ?_) (fun c1 H locs hP hD hS => ?_)
  · have e2 : o1 = o := ho1.trans (if_neg c1)
    rw [e2]
    simp only [List.mem_cons, List.not_mem_nil, or_false] at hcd
    rcases hcd with q | q
    · exact absurd q c1
    · rw [q] at h3
      have e1 : rv = 1 := by rw [hrv, q]; rfl
      rw [e1]
      refine vx_catch (own := RL) (name := "java/lang/IndexOutOfBoundsException") (E := "java/lang/IndexOutOfBoundsException") hown [] ⟨0, 9, 12, 13⟩ [] htab (fun z hz => absurd hz List.not_mem_nil) (by decide) (by decide) (htc (.classLink RL 13 "java/lang/IndexOutOfBoundsException") (by decide +kernel)) (va_Nw.use rfl (hE.2.1 _ (List.mem_of_getElem? (i := 3) rfl))) h1 h2 h3 ?_
      refine lv_astore_n (pc := 12) (lv' := [(3, .ref q9), (0, .ref (ad 0)), (1, .int a1), (2, .ref qo)]) hx hb dL_state_12 rfl hl (by decide) rfl (fun ls hl => ?_)
      refine lv_iconst (v := 1) hx hb dL_state_13 (by decide) ?_
      exact W.iret (v := 1) hx hb hr (fun t ht hW => ⟨⟨_, (), rfl, rfl, by rw [ht]; exact hP, hD⟩, hS.F ht⟩) hS.2.2 dL_state_14
  · have e1 : rv = 0 := hrv.trans (if_pos c1)
    rw [e1]
    refine lv_i2l (v := (f_X5_state σ a1).2.1.toInt64) hx hb dL_state_7 rfl ?_
    have e2 : o1 = vp_updL o (0 : Int32).toNatClampNeg (f_X5_state σ a1).2.1.toInt64 := ho1.trans ((if_pos c1).trans rfl)
    rw [e2]
    refine va_last hx hb hE.1 hP hD hS 51 3 rfl rfl z_in01 dL_state_8 (fun H locs hP hD hS => ?_)
    have hP : va_P G vwCl (zw cs ad (f_X5_state σ a1).2.2 (zt cs qo (vp_updL o (0 : Int32).toNatClampNeg (f_X5_state σ a1).2.1.toInt64) qd d)) H := hP
    have hD : va_D A (zw cs ad (f_X5_state σ a1).2.2 (zt cs qo (vp_updL o (0 : Int32).toNatClampNeg (f_X5_state σ a1).2.1.toInt64) qd d)) := hD
    refine lv_goto (tgt := 15) hx hb dL_state_9 (by decide) ?_
    refine lv_iconst (v := 0) hx hb dL_state_15 (by decide) ?_
    exact W.iret (v := 0) hx hb hr (fun t ht hW => ⟨⟨_, (), rfl, rfl, by rw [ht]; exact hP, hD⟩, hS.F ht⟩) hS.2.2 dL_state_16
theorem codes_X5_checkAlarm (a1 : Int32) (a2 : Int32) : (f_X5_checkAlarm a1 a2) ∈ ([0, 1] : List Nat) := by
  unfold f_X5_checkAlarm
  by_cases c1 : (f_X5_checkUnit a1) = 0
  · rw [if_pos c1]
    by_cases c2 : a2 < 0
    · rw [if_pos c2]
      exact (show 1 ∈ ([0, 1] : List Nat) by decide)
    · rw [if_neg c2]
      by_cases c3 : a2 < 4
      · rw [if_pos c3]
        exact (show 0 ∈ ([0, 1] : List Nat) by decide)
      · rw [if_neg c3]
        exact (show 1 ∈ ([0, 1] : List Nat) by decide)
  · rw [if_neg c1]
    exact zmem (codes_X5_checkUnit a1) (by decide)
theorem codes_X5_checkPriority (a1 : Int32) : (f_X5_checkPriority a1) ∈ ([0, 2] : List Nat) := by
  unfold f_X5_checkPriority
  by_cases c1 : a1 < 1
  · rw [if_pos c1]
    exact (show 2 ∈ ([0, 2] : List Nat) by decide)
  · rw [if_neg c1]
    by_cases c2 : a1 ≤ 5
    · rw [if_pos c2]
      exact (show 0 ∈ ([0, 2] : List Nat) by decide)
    · rw [if_neg c2]
      exact (show 2 ∈ ([0, 2] : List Nat) by decide)
theorem codes_X5_checkRoomForLine (σ : zS)  : (f_X5_checkRoomForLine σ ) ∈ ([0, 3] : List Nat) := by
  unfold f_X5_checkRoomForLine
  by_cases c1 : (f_X2_isFull σ ) = 0
  · rw [if_pos c1]
    exact (show 0 ∈ ([0, 3] : List Nat) by decide)
  · rw [if_neg c1]
    exact (show 3 ∈ ([0, 3] : List Nat) by decide)
theorem codes_X5_raise (σ : zS) (a1 : Int32) (a2 : Int32) (a3 : Int32) : (f_X5_raise σ a1 a2 a3).1 ∈ ([0, 1, 2, 3] : List Nat) := by
  unfold f_X5_raise
  by_cases c1 : (f_X5_checkAlarm a1 a2) = 0
  · rw [if_pos c1]
    by_cases c2 : (f_X5_checkPriority a3) = 0
    · rw [if_pos c2]
      by_cases c3 : (f_X0_isActive σ (f_X5_alarmOf a1 a2)) = 0
      · rw [if_pos c3]
        by_cases c4 : (f_X5_checkRoomForLine σ ) = 0
        · rw [if_pos c4]
          exact (show 0 ∈ ([0, 1, 2, 3] : List Nat) by decide)
        · rw [if_neg c4]
          exact zmem (codes_X5_checkRoomForLine σ ) (by decide)
      · rw [if_neg c3]
        exact (show 3 ∈ ([0, 1, 2, 3] : List Nat) by decide)
    · rw [if_neg c2]
      exact zmem (codes_X5_checkPriority a3) (by decide)
  · rw [if_neg c1]
    exact zmem (codes_X5_checkAlarm a1 a2) (by decide)
def f_L_raise : Nat → Int32 := fun k => if k = 0 then 0 else if k = 1 then 1 else if k = 2 then 2 else if k = 3 then 3 else 9
def zws_raise : List Cond := .codeWith yL_raise cL_raise 6 (some .int) [(0, 12, 15, 13), (0, 12, 19, 19), (0, 12, 23, 21)] :: (zcl ++ wsL_raise)
set_option maxRecDepth 100000 in
theorem c_L_raise (l : Launch) (hfl : l.stackTraces = false) (G : va_G) (cs : Nat → ClassId) (ad : Nat → Nat) (qo : Nat) (o : Nat → Int64) (qd : Nat) (d : Nat → UInt64) (σ : zS) (a1 : Int32) (a2 : Int32) (a3 : Int32)  : zMi l yL_raise zws_raise { frames := 9, cells := 5, slots := 30, locals := 156 } G cs [.ref (ad 0), .int a1, .int a2, .int a3, .ref qo] (zw cs ad σ (zt cs qo o qd d)) (f_L_raise (f_X5_raise σ a1 a2 a3).1) (zw cs ad (f_X5_raise σ a1 a2 a3).2.2 (zt cs qo (zo (f_X5_raise σ a1 a2 a3).1 (f_X5_raise σ a1 a2 a3).2.1.toInt64 o) qd d)) 5 30 := by
  intro sz
  refine z_ofWH (cc := cL_raise) (maxL := 6) (ret := (some .int)) (hh := [(0, 12, 15, 13), (0, 12, 19, 19), (0, 12, 23, 21)]) (by decide) rfl ?_
  intro p e s m args below meth c s₁ B hml hv
  obtain ⟨rfl, hsz, hP, hD0, hE⟩ := hv
  have hx := B.exec
  have hb := B.bytes
  have hr := B.returns
  have hts1 := atoms_spec (ws := zws_raise) B.pre
  have htc : ∀ w ∈ zcl, w.before _ s = true := fun w h => hts1 w (List.mem_cons_of_mem _ (List.mem_append_left _ h))
  have hts : ∀ w ∈ wsL_raise, w.before _ s = true := fun w h => hts1 w (List.mem_cons_of_mem _ (List.mem_append_right _ h))
  have hown : s.vm.findClass RL = some m.cls := findClass_of_methodNamed B.named
  have hlocks := B.notSynchronized
  have htab := vx_table (x := yL_raise) B (hts1 _ List.mem_cons_self)
  subst hsz
  have hD := hD0.self (sz := s.heap.size)
  have hA : ∀ q : Nat, s.heap.size ≤ q → (va_A (zw cs ad σ (zt cs qo o qd d)) s.heap.size) q := fun q h => Or.inr h
  generalize va_A (zw cs ad σ (zt cs qo o qd d)) s.heap.size = A at hD hE hA ⊢
  have hS : va_S A s.heap s.heap [] := va_S.rf
  have hl := lv_entry ([.ref (ad 0), .int a1, .int a2, .int a3, .ref qo]) (n := 6) (Nat.le_of_ble_eq_true rfl)
  rw [lg_entry_eq]
  generalize (lg_sl ([.ref (ad 0), .int a1, .int a2, .int a3, .ref qo]) ++ List.replicate (6 - (lg_sl ([.ref (ad 0), .int a1, .int a2, .int a3, .ref qo])).length) Slot.unset).toArray = ls at hl ⊢
  have hl : lv_has ls 6 [(0, .ref (ad 0)), (1, .int a1), (2, .int a2), (3, .int a3), (4, .ref qo)] := hl
  have hcd := codes_X5_raise σ a1 a2 a3
  obtain ⟨rv, hrv⟩ : ∃ z, z = f_L_raise (f_X5_raise σ a1 a2 a3).1 := ⟨_, rfl⟩
  obtain ⟨o1, ho1⟩ : ∃ z, z = zo (f_X5_raise σ a1 a2 a3).1 (f_X5_raise σ a1 a2 a3).2.1.toInt64 o := ⟨_, rfl⟩
  rw [← hrv, ← ho1]
  refine lv_aload hx hb dL_raise_0 (lv_at hl 4 rfl) ?_
  refine lv_iconst (v := 0) hx hb dL_raise_2 (by decide) ?_
  refine lv_aload_n hx hb dL_raise_3 rfl (lv_at hl 0 rfl) ?_
  refine lv_iload_n hx hb dL_raise_4 rfl (lv_at hl 1 rfl) ?_
  refine lv_iload_n hx hb dL_raise_5 rfl (lv_at hl 2 rfl) ?_
  refine lv_iload_n hx hb dL_raise_6 rfl (lv_at hl 3 rfl) ?_
  refine zaxi (vx_runV (As := [.int a1, .int a2, .int a3]) (rest := [.int 0, .ref qo]) ⟨hx, hb, hml, hown, hts⟩ (c_X5_raise l hfl G cs ad (zt cs qo o qd d) σ a1 a2 a3  s.heap.size) (cwV 3 hts gL_raise_X5_raise rfl rfl rfl (by decide +kernel) ⟨Nat.le_of_ble_eq_true rfl, Nat.le_of_ble_eq_true rfl⟩) (zpv hE hP hD hS hA (zg_0 cs ad σ (zt cs qo o qd d)) rfl) rfl rfl hl.1 rfl (lv_room (Nat.le_of_ble_eq_true rfl)) dL_raise_7 ⟨Nat.le_of_ble_eq_true rfl, Nat.le_of_ble_eq_true rfl⟩) hD hS hA (fun c1 ce q9 H locs hP hD hS h1 h2 h3 => ?_) (fun c1 H locs hP hD hS => ?_)
  · have e2 : o1 = o := ho1.trans (if_neg c1)
    rw [e2]
    simp only [List.mem_cons, List.not_mem_nil, or_false] at hcd
    rcases hcd with q | q | q | q
    · exact absurd q c1
    · rw [q] at h3
      have e1 : rv = 1 := by rw [hrv, q]; rfl
      rw [e1]
      refine vx_catch (own := RL) (name := "java/lang/IndexOutOfBoundsException") (E := "java/lang/IndexOutOfBoundsException") hown [] ⟨0, 12, 15, 13⟩ [⟨0, 12, 19, 19⟩, ⟨0, 12, 23, 21⟩] htab (fun z hz => absurd hz List.not_mem_nil) (by decide) (by decide) (htc (.classLink RL 13 "java/lang/IndexOutOfBoundsException") (by decide +kernel)) (va_Nw.use rfl (hE.2.1 _ (List.mem_of_getElem? (i := 3) rfl))) h1 h2 h3 ?_
      refine lv_astore (pc := 15) (lv' := [(5, .ref q9), (0, .ref (ad 0)), (1, .int a1), (2, .int a2), (3, .int a3), (4, .ref qo)]) hx hb dL_raise_15 hl (by decide) rfl (fun ls hl => ?_)
      refine lv_iconst (v := 1) hx hb dL_raise_17 (by decide) ?_
      exact W.iret (v := 1) hx hb hr (fun t ht hW => ⟨⟨_, (), rfl, rfl, by rw [ht]; exact hP, hD⟩, hS.F ht⟩) hS.2.2 dL_raise_18
    · rw [q] at h3
      have e1 : rv = 2 := by rw [hrv, q]; rfl
      rw [e1]
      refine vx_catch (own := RL) (name := "java/lang/IllegalArgumentException") (E := "java/lang/IllegalArgumentException") hown [⟨0, 12, 15, 13⟩] ⟨0, 12, 19, 19⟩ [⟨0, 12, 23, 21⟩] htab (fun z hz => by
        simp only [List.mem_cons, List.not_mem_nil, or_false] at hz
        rcases hz with rfl
        · exact Or.inr ⟨by decide, "java/lang/IndexOutOfBoundsException", htc (.classLink RL 13 "java/lang/IndexOutOfBoundsException") (by decide +kernel), hE.2.2.2.2.2 ("java/lang/IllegalArgumentException", "java/lang/IndexOutOfBoundsException") (by decide +kernel)⟩) (by decide) (by decide) (htc (.classLink RL 19 "java/lang/IllegalArgumentException") (by decide +kernel)) (va_Nw.use rfl (hE.2.1 _ (List.mem_of_getElem? (i := 4) rfl))) h1 h2 h3 ?_
      refine lv_astore (pc := 19) (lv' := [(5, .ref q9), (0, .ref (ad 0)), (1, .int a1), (2, .int a2), (3, .int a3), (4, .ref qo)]) hx hb dL_raise_19 hl (by decide) rfl (fun ls hl => ?_)
      refine lv_iconst (v := 2) hx hb dL_raise_21 (by decide) ?_
      exact W.iret (v := 2) hx hb hr (fun t ht hW => ⟨⟨_, (), rfl, rfl, by rw [ht]; exact hP, hD⟩, hS.F ht⟩) hS.2.2 dL_raise_22
    · rw [q] at h3
      have e1 : rv = 3 := by rw [hrv, q]; rfl
      rw [e1]
      refine vx_catch (own := RL) (name := "java/lang/IllegalStateException") (E := "java/lang/IllegalStateException") hown [⟨0, 12, 15, 13⟩, ⟨0, 12, 19, 19⟩] ⟨0, 12, 23, 21⟩ [] htab (fun z hz => by
        simp only [List.mem_cons, List.not_mem_nil, or_false] at hz
        rcases hz with rfl | rfl
        · exact Or.inr ⟨by decide, "java/lang/IndexOutOfBoundsException", htc (.classLink RL 13 "java/lang/IndexOutOfBoundsException") (by decide +kernel), hE.2.2.2.2.2 ("java/lang/IllegalStateException", "java/lang/IndexOutOfBoundsException") (by decide +kernel)⟩
        · exact Or.inr ⟨by decide, "java/lang/IllegalArgumentException", htc (.classLink RL 19 "java/lang/IllegalArgumentException") (by decide +kernel), hE.2.2.2.2.2 ("java/lang/IllegalStateException", "java/lang/IllegalArgumentException") (by decide +kernel)⟩) (by decide) (by decide) (htc (.classLink RL 21 "java/lang/IllegalStateException") (by decide +kernel)) (va_Nw.use rfl (hE.2.1 _ (List.mem_of_getElem? (i := 5) rfl))) h1 h2 h3 ?_
      refine lv_astore (pc := 23) (lv' := [(5, .ref q9), (0, .ref (ad 0)), (1, .int a1), (2, .int a2), (3, .int a3), (4, .ref qo)]) hx hb dL_raise_23 hl (by decide) rfl (fun ls hl => ?_)
      refine lv_iconst (v := 3) hx hb dL_raise_25 (by decide) ?_
      exact W.iret (v := 3) hx hb hr (fun t ht hW => ⟨⟨_, (), rfl, rfl, by rw [ht]; exact hP, hD⟩, hS.F ht⟩) hS.2.2 dL_raise_26
  · have e1 : rv = 0 := hrv.trans (if_pos c1)
    rw [e1]
    refine lv_i2l (v := (f_X5_raise σ a1 a2 a3).2.1.toInt64) hx hb dL_raise_10 rfl ?_
    have e2 : o1 = vp_updL o (0 : Int32).toNatClampNeg (f_X5_raise σ a1 a2 a3).2.1.toInt64 := ho1.trans ((if_pos c1).trans rfl)
    rw [e2]
    refine va_last hx hb hE.1 hP hD hS 51 3 rfl rfl z_in01 dL_raise_11 (fun H locs hP hD hS => ?_)
    have hP : va_P G vwCl (zw cs ad (f_X5_raise σ a1 a2 a3).2.2 (zt cs qo (vp_updL o (0 : Int32).toNatClampNeg (f_X5_raise σ a1 a2 a3).2.1.toInt64) qd d)) H := hP
    have hD : va_D A (zw cs ad (f_X5_raise σ a1 a2 a3).2.2 (zt cs qo (vp_updL o (0 : Int32).toNatClampNeg (f_X5_raise σ a1 a2 a3).2.1.toInt64) qd d)) := hD
    refine lv_goto (tgt := 27) hx hb dL_raise_12 (by decide) ?_
    refine lv_iconst (v := 0) hx hb dL_raise_27 (by decide) ?_
    exact W.iret (v := 0) hx hb hr (fun t ht hW => ⟨⟨_, (), rfl, rfl, by rw [ht]; exact hP, hD⟩, hS.F ht⟩) hS.2.2 dL_raise_28
theorem codes_X5_checkActive (σ : zS) (a1 : Int32) : (f_X5_checkActive σ a1) ∈ ([0, 4] : List Nat) := by
  unfold f_X5_checkActive
  by_cases c1 : (f_X0_isActive σ a1) = 0
  · rw [if_pos c1]
    exact (show 4 ∈ ([0, 4] : List Nat) by decide)
  · rw [if_neg c1]
    exact (show 0 ∈ ([0, 4] : List Nat) by decide)
theorem codes_X5_clear (σ : zS) (a1 : Int32) (a2 : Int32) : (f_X5_clear σ a1 a2).1 ∈ ([0, 1, 4] : List Nat) := by
  unfold f_X5_clear
  by_cases c1 : (f_X5_checkAlarm a1 a2) = 0
  · rw [if_pos c1]
    by_cases c2 : (f_X5_checkActive σ (f_X5_alarmOf a1 a2)) = 0
    · rw [if_pos c2]
      exact (show 0 ∈ ([0, 1, 4] : List Nat) by decide)
    · rw [if_neg c2]
      exact zmem (codes_X5_checkActive σ (f_X5_alarmOf a1 a2)) (by decide)
  · rw [if_neg c1]
    exact zmem (codes_X5_checkAlarm a1 a2) (by decide)
def f_L_clear : Nat → Int32 := fun k => if k = 0 then 0 else if k = 1 then 1 else if k = 4 then 2 else 9
def zws_clear : List Cond := .codeWith yL_clear cL_clear 5 (some .int) [(0, 10, 13, 13), (0, 10, 17, 27)] :: (zcl ++ wsL_clear)
set_option maxRecDepth 100000 in
theorem c_L_clear (l : Launch) (hfl : l.stackTraces = false) (G : va_G) (cs : Nat → ClassId) (ad : Nat → Nat) (qo : Nat) (o : Nat → Int64) (qd : Nat) (d : Nat → UInt64) (σ : zS) (a1 : Int32) (a2 : Int32)  : zMi l yL_clear zws_clear { frames := 9, cells := 3, slots := 18, locals := 155 } G cs [.ref (ad 0), .int a1, .int a2, .ref qo] (zw cs ad σ (zt cs qo o qd d)) (f_L_clear (f_X5_clear σ a1 a2).1) (zw cs ad (f_X5_clear σ a1 a2).2.2 (zt cs qo (zo (f_X5_clear σ a1 a2).1 (f_X5_clear σ a1 a2).2.1.toInt64 o) qd d)) 3 18 := by
  intro sz
  refine z_ofWH (cc := cL_clear) (maxL := 5) (ret := (some .int)) (hh := [(0, 10, 13, 13), (0, 10, 17, 27)]) (by decide) rfl ?_
  intro p e s m args below meth c s₁ B hml hv
  obtain ⟨rfl, hsz, hP, hD0, hE⟩ := hv
  have hx := B.exec
  have hb := B.bytes
  have hr := B.returns
  have hts1 := atoms_spec (ws := zws_clear) B.pre
  have htc : ∀ w ∈ zcl, w.before _ s = true := fun w h => hts1 w (List.mem_cons_of_mem _ (List.mem_append_left _ h))
  have hts : ∀ w ∈ wsL_clear, w.before _ s = true := fun w h => hts1 w (List.mem_cons_of_mem _ (List.mem_append_right _ h))
  have hown : s.vm.findClass RL = some m.cls := findClass_of_methodNamed B.named
  have hlocks := B.notSynchronized
  have htab := vx_table (x := yL_clear) B (hts1 _ List.mem_cons_self)
  subst hsz
  have hD := hD0.self (sz := s.heap.size)
  have hA : ∀ q : Nat, s.heap.size ≤ q → (va_A (zw cs ad σ (zt cs qo o qd d)) s.heap.size) q := fun q h => Or.inr h
  generalize va_A (zw cs ad σ (zt cs qo o qd d)) s.heap.size = A at hD hE hA ⊢
  have hS : va_S A s.heap s.heap [] := va_S.rf
  have hl := lv_entry ([.ref (ad 0), .int a1, .int a2, .ref qo]) (n := 5) (Nat.le_of_ble_eq_true rfl)
  rw [lg_entry_eq]
  generalize (lg_sl ([.ref (ad 0), .int a1, .int a2, .ref qo]) ++ List.replicate (5 - (lg_sl ([.ref (ad 0), .int a1, .int a2, .ref qo])).length) Slot.unset).toArray = ls at hl ⊢
  have hl : lv_has ls 5 [(0, .ref (ad 0)), (1, .int a1), (2, .int a2), (3, .ref qo)] := hl
  have hcd := codes_X5_clear σ a1 a2
  obtain ⟨rv, hrv⟩ : ∃ z, z = f_L_clear (f_X5_clear σ a1 a2).1 := ⟨_, rfl⟩
  obtain ⟨o1, ho1⟩ : ∃ z, z = zo (f_X5_clear σ a1 a2).1 (f_X5_clear σ a1 a2).2.1.toInt64 o := ⟨_, rfl⟩
  rw [← hrv, ← ho1]
  refine lv_aload_n hx hb dL_clear_0 rfl (lv_at hl 3 rfl) ?_
  refine lv_iconst (v := 0) hx hb dL_clear_1 (by decide) ?_
  refine lv_aload_n hx hb dL_clear_2 rfl (lv_at hl 0 rfl) ?_
  refine lv_iload_n hx hb dL_clear_3 rfl (lv_at hl 1 rfl) ?_
  refine lv_iload_n hx hb dL_clear_4 rfl (lv_at hl 2 rfl) ?_
  refine zaxi (vx_runV (As := [.int a1, .int a2]) (rest := [.int 0, .ref qo]) ⟨hx, hb, hml, hown, hts⟩ (c_X5_clear l hfl G cs ad (zt cs qo o qd d) σ a1 a2  s.heap.size) (cwV 2 hts gL_clear_X5_clear rfl rfl rfl (by decide +kernel) ⟨Nat.le_of_ble_eq_true rfl, Nat.le_of_ble_eq_true rfl⟩) (zpv hE hP hD hS hA (zg_0 cs ad σ (zt cs qo o qd d)) rfl) rfl rfl hl.1 rfl (lv_room (Nat.le_of_ble_eq_true rfl)) dL_clear_5 ⟨Nat.le_of_ble_eq_true rfl, Nat.le_of_ble_eq_true rfl⟩) hD hS hA (fun c1 ce q9 H locs hP hD hS h1 h2 h3 => ?_) (fun c1 H locs hP hD hS => ?_)
  · have e2 : o1 = o := ho1.trans (if_neg c1)
    rw [e2]
    simp only [List.mem_cons, List.not_mem_nil, or_false] at hcd
    rcases hcd with q | q | q
    · exact absurd q c1
    · rw [q] at h3
      have e1 : rv = 1 := by rw [hrv, q]; rfl
      rw [e1]
      refine vx_catch (own := RL) (name := "java/lang/IndexOutOfBoundsException") (E := "java/lang/IndexOutOfBoundsException") hown [] ⟨0, 10, 13, 13⟩ [⟨0, 10, 17, 27⟩] htab (fun z hz => absurd hz List.not_mem_nil) (by decide) (by decide) (htc (.classLink RL 13 "java/lang/IndexOutOfBoundsException") (by decide +kernel)) (va_Nw.use rfl (hE.2.1 _ (List.mem_of_getElem? (i := 3) rfl))) h1 h2 h3 ?_
      refine lv_astore (pc := 13) (lv' := [(4, .ref q9), (0, .ref (ad 0)), (1, .int a1), (2, .int a2), (3, .ref qo)]) hx hb dL_clear_13 hl (by decide) rfl (fun ls hl => ?_)
      refine lv_iconst (v := 1) hx hb dL_clear_15 (by decide) ?_
      exact W.iret (v := 1) hx hb hr (fun t ht hW => ⟨⟨_, (), rfl, rfl, by rw [ht]; exact hP, hD⟩, hS.F ht⟩) hS.2.2 dL_clear_16
    · rw [q] at h3
      have e1 : rv = 2 := by rw [hrv, q]; rfl
      rw [e1]
      refine vx_catch (own := RL) (name := "java/util/NoSuchElementException") (E := "java/util/NoSuchElementException") hown [⟨0, 10, 13, 13⟩] ⟨0, 10, 17, 27⟩ [] htab (fun z hz => by
        simp only [List.mem_cons, List.not_mem_nil, or_false] at hz
        rcases hz with rfl
        · exact Or.inr ⟨by decide, "java/lang/IndexOutOfBoundsException", htc (.classLink RL 13 "java/lang/IndexOutOfBoundsException") (by decide +kernel), hE.2.2.2.2.2 ("java/util/NoSuchElementException", "java/lang/IndexOutOfBoundsException") (by decide +kernel)⟩) (by decide) (by decide) (htc (.classLink RL 27 "java/util/NoSuchElementException") (by decide +kernel)) (va_Nw.use rfl (hE.2.1 _ (List.mem_of_getElem? (i := 6) rfl))) h1 h2 h3 ?_
      refine lv_astore (pc := 17) (lv' := [(4, .ref q9), (0, .ref (ad 0)), (1, .int a1), (2, .int a2), (3, .ref qo)]) hx hb dL_clear_17 hl (by decide) rfl (fun ls hl => ?_)
      refine lv_iconst (v := 2) hx hb dL_clear_19 (by decide) ?_
      exact W.iret (v := 2) hx hb hr (fun t ht hW => ⟨⟨_, (), rfl, rfl, by rw [ht]; exact hP, hD⟩, hS.F ht⟩) hS.2.2 dL_clear_20
  · have e1 : rv = 0 := hrv.trans (if_pos c1)
    rw [e1]
    refine lv_i2l (v := (f_X5_clear σ a1 a2).2.1.toInt64) hx hb dL_clear_8 rfl ?_
    have e2 : o1 = vp_updL o (0 : Int32).toNatClampNeg (f_X5_clear σ a1 a2).2.1.toInt64 := ho1.trans ((if_pos c1).trans rfl)
    rw [e2]
    refine va_last hx hb hE.1 hP hD hS 51 3 rfl rfl z_in01 dL_clear_9 (fun H locs hP hD hS => ?_)
    have hP : va_P G vwCl (zw cs ad (f_X5_clear σ a1 a2).2.2 (zt cs qo (vp_updL o (0 : Int32).toNatClampNeg (f_X5_clear σ a1 a2).2.1.toInt64) qd d)) H := hP
    have hD : va_D A (zw cs ad (f_X5_clear σ a1 a2).2.2 (zt cs qo (vp_updL o (0 : Int32).toNatClampNeg (f_X5_clear σ a1 a2).2.1.toInt64) qd d)) := hD
    refine lv_goto (tgt := 21) hx hb dL_clear_10 (by decide) ?_
    refine lv_iconst (v := 0) hx hb dL_clear_21 (by decide) ?_
    exact W.iret (v := 0) hx hb hr (fun t ht hW => ⟨⟨_, (), rfl, rfl, by rw [ht]; exact hP, hD⟩, hS.F ht⟩) hS.2.2 dL_clear_22
theorem codes_X5_shelve (σ : zS) (a1 : Int32) (a2 : Int32) (a3 : Int32) : (f_X5_shelve σ a1 a2 a3).1 ∈ ([0, 1, 2, 3, 4] : List Nat) := by
  unfold f_X5_shelve
  by_cases c1 : (f_X5_checkAlarm a1 a2) = 0
  · rw [if_pos c1]
    by_cases c2 : (f_X5_checkActive σ (f_X5_alarmOf a1 a2)) = 0
    · rw [if_pos c2]
      by_cases c3 : a3 < 1
      · rw [if_pos c3]
        exact (show 2 ∈ ([0, 1, 2, 3, 4] : List Nat) by decide)
      · rw [if_neg c3]
        by_cases c4 : a3 ≤ 24
        · rw [if_pos c4]
          by_cases c5 : (f_X0_isOnShelf σ (f_X5_alarmOf a1 a2) (σ 0 6)) = 0
          · rw [if_pos c5]
            exact (show 0 ∈ ([0, 1, 2, 3, 4] : List Nat) by decide)
          · rw [if_neg c5]
            exact (show 3 ∈ ([0, 1, 2, 3, 4] : List Nat) by decide)
        · rw [if_neg c4]
          exact (show 2 ∈ ([0, 1, 2, 3, 4] : List Nat) by decide)
    · rw [if_neg c2]
      exact zmem (codes_X5_checkActive σ (f_X5_alarmOf a1 a2)) (by decide)
  · rw [if_neg c1]
    exact zmem (codes_X5_checkAlarm a1 a2) (by decide)
def f_L_shelve : Nat → Int32 := fun k => if k = 0 then 0 else if k = 1 then 1 else if k = 4 then 2 else if k = 2 then 3 else if k = 3 then 4 else 9
def zws_shelve : List Cond := .codeWith yL_shelve cL_shelve 6 (some .int) [(0, 12, 15, 13), (0, 12, 19, 27), (0, 12, 23, 19), (0, 12, 27, 21)] :: (zcl ++ wsL_shelve)
set_option maxRecDepth 100000 in
theorem c_L_shelve (l : Launch) (hfl : l.stackTraces = false) (G : va_G) (cs : Nat → ClassId) (ad : Nat → Nat) (qo : Nat) (o : Nat → Int64) (qd : Nat) (d : Nat → UInt64) (σ : zS) (a1 : Int32) (a2 : Int32) (a3 : Int32)  : zMi l yL_shelve zws_shelve { frames := 9, cells := 4, slots := 24, locals := 156 } G cs [.ref (ad 0), .int a1, .int a2, .int a3, .ref qo] (zw cs ad σ (zt cs qo o qd d)) (f_L_shelve (f_X5_shelve σ a1 a2 a3).1) (zw cs ad (f_X5_shelve σ a1 a2 a3).2.2 (zt cs qo (zo (f_X5_shelve σ a1 a2 a3).1 (f_X5_shelve σ a1 a2 a3).2.1.toInt64 o) qd d)) 4 24 := by
  intro sz
  refine z_ofWH (cc := cL_shelve) (maxL := 6) (ret := (some .int)) (hh := [(0, 12, 15, 13), (0, 12, 19, 27), (0, 12, 23, 19), (0, 12, 27, 21)]) (by decide) rfl ?_
  intro p e s m args below meth c s₁ B hml hv
  obtain ⟨rfl, hsz, hP, hD0, hE⟩ := hv
  have hx := B.exec
  have hb := B.bytes
  have hr := B.returns
  have hts1 := atoms_spec (ws := zws_shelve) B.pre
  have htc : ∀ w ∈ zcl, w.before _ s = true := fun w h => hts1 w (List.mem_cons_of_mem _ (List.mem_append_left _ h))
  have hts : ∀ w ∈ wsL_shelve, w.before _ s = true := fun w h => hts1 w (List.mem_cons_of_mem _ (List.mem_append_right _ h))
  have hown : s.vm.findClass RL = some m.cls := findClass_of_methodNamed B.named
  have hlocks := B.notSynchronized
  have htab := vx_table (x := yL_shelve) B (hts1 _ List.mem_cons_self)
  subst hsz
  have hD := hD0.self (sz := s.heap.size)
  have hA : ∀ q : Nat, s.heap.size ≤ q → (va_A (zw cs ad σ (zt cs qo o qd d)) s.heap.size) q := fun q h => Or.inr h
  generalize va_A (zw cs ad σ (zt cs qo o qd d)) s.heap.size = A at hD hE hA ⊢
  have hS : va_S A s.heap s.heap [] := va_S.rf
  have hl := lv_entry ([.ref (ad 0), .int a1, .int a2, .int a3, .ref qo]) (n := 6) (Nat.le_of_ble_eq_true rfl)
  rw [lg_entry_eq]
  generalize (lg_sl ([.ref (ad 0), .int a1, .int a2, .int a3, .ref qo]) ++ List.replicate (6 - (lg_sl ([.ref (ad 0), .int a1, .int a2, .int a3, .ref qo])).length) Slot.unset).toArray = ls at hl ⊢
  have hl : lv_has ls 6 [(0, .ref (ad 0)), (1, .int a1), (2, .int a2), (3, .int a3), (4, .ref qo)] := hl
  have hcd := codes_X5_shelve σ a1 a2 a3
  obtain ⟨rv, hrv⟩ : ∃ z, z = f_L_shelve (f_X5_shelve σ a1 a2 a3).1 := ⟨_, rfl⟩
  obtain ⟨o1, ho1⟩ : ∃ z, z = zo (f_X5_shelve σ a1 a2 a3).1 (f_X5_shelve σ a1 a2 a3).2.1.toInt64 o := ⟨_, rfl⟩
  rw [← hrv, ← ho1]
  refine lv_aload hx hb dL_shelve_0 (lv_at hl 4 rfl) ?_
  refine lv_iconst (v := 0) hx hb dL_shelve_2 (by decide) ?_
  refine lv_aload_n hx hb dL_shelve_3 rfl (lv_at hl 0 rfl) ?_
  refine lv_iload_n hx hb dL_shelve_4 rfl (lv_at hl 1 rfl) ?_
  refine lv_iload_n hx hb dL_shelve_5 rfl (lv_at hl 2 rfl) ?_
  refine lv_iload_n hx hb dL_shelve_6 rfl (lv_at hl 3 rfl) ?_
  refine zaxi (vx_runV (As := [.int a1, .int a2, .int a3]) (rest := [.int 0, .ref qo]) ⟨hx, hb, hml, hown, hts⟩ (c_X5_shelve l hfl G cs ad (zt cs qo o qd d) σ a1 a2 a3  s.heap.size) (cwV 3 hts gL_shelve_X5_shelve rfl rfl rfl (by decide +kernel) ⟨Nat.le_of_ble_eq_true rfl, Nat.le_of_ble_eq_true rfl⟩) (zpv hE hP hD hS hA (zg_0 cs ad σ (zt cs qo o qd d)) rfl) rfl rfl hl.1 rfl (lv_room (Nat.le_of_ble_eq_true rfl)) dL_shelve_7 ⟨Nat.le_of_ble_eq_true rfl, Nat.le_of_ble_eq_true rfl⟩) hD hS hA (fun c1 ce q9 H locs hP hD hS h1 h2 h3 => ?_) (fun c1 H locs hP hD hS => ?_)
  · have e2 : o1 = o := ho1.trans (if_neg c1)
    rw [e2]
    simp only [List.mem_cons, List.not_mem_nil, or_false] at hcd
    rcases hcd with q | q | q | q | q
    · exact absurd q c1
    · rw [q] at h3
      have e1 : rv = 1 := by rw [hrv, q]; rfl
      rw [e1]
      refine vx_catch (own := RL) (name := "java/lang/IndexOutOfBoundsException") (E := "java/lang/IndexOutOfBoundsException") hown [] ⟨0, 12, 15, 13⟩ [⟨0, 12, 19, 27⟩, ⟨0, 12, 23, 19⟩, ⟨0, 12, 27, 21⟩] htab (fun z hz => absurd hz List.not_mem_nil) (by decide) (by decide) (htc (.classLink RL 13 "java/lang/IndexOutOfBoundsException") (by decide +kernel)) (va_Nw.use rfl (hE.2.1 _ (List.mem_of_getElem? (i := 3) rfl))) h1 h2 h3 ?_
      refine lv_astore (pc := 15) (lv' := [(5, .ref q9), (0, .ref (ad 0)), (1, .int a1), (2, .int a2), (3, .int a3), (4, .ref qo)]) hx hb dL_shelve_15 hl (by decide) rfl (fun ls hl => ?_)
      refine lv_iconst (v := 1) hx hb dL_shelve_17 (by decide) ?_
      exact W.iret (v := 1) hx hb hr (fun t ht hW => ⟨⟨_, (), rfl, rfl, by rw [ht]; exact hP, hD⟩, hS.F ht⟩) hS.2.2 dL_shelve_18
    · rw [q] at h3
      have e1 : rv = 3 := by rw [hrv, q]; rfl
      rw [e1]
      refine vx_catch (own := RL) (name := "java/lang/IllegalArgumentException") (E := "java/lang/IllegalArgumentException") hown [⟨0, 12, 15, 13⟩, ⟨0, 12, 19, 27⟩] ⟨0, 12, 23, 19⟩ [⟨0, 12, 27, 21⟩] htab (fun z hz => by
        simp only [List.mem_cons, List.not_mem_nil, or_false] at hz
        rcases hz with rfl | rfl
        · exact Or.inr ⟨by decide, "java/lang/IndexOutOfBoundsException", htc (.classLink RL 13 "java/lang/IndexOutOfBoundsException") (by decide +kernel), hE.2.2.2.2.2 ("java/lang/IllegalArgumentException", "java/lang/IndexOutOfBoundsException") (by decide +kernel)⟩
        · exact Or.inr ⟨by decide, "java/util/NoSuchElementException", htc (.classLink RL 27 "java/util/NoSuchElementException") (by decide +kernel), hE.2.2.2.2.2 ("java/lang/IllegalArgumentException", "java/util/NoSuchElementException") (by decide +kernel)⟩) (by decide) (by decide) (htc (.classLink RL 19 "java/lang/IllegalArgumentException") (by decide +kernel)) (va_Nw.use rfl (hE.2.1 _ (List.mem_of_getElem? (i := 4) rfl))) h1 h2 h3 ?_
      refine lv_astore (pc := 23) (lv' := [(5, .ref q9), (0, .ref (ad 0)), (1, .int a1), (2, .int a2), (3, .int a3), (4, .ref qo)]) hx hb dL_shelve_23 hl (by decide) rfl (fun ls hl => ?_)
      refine lv_iconst (v := 3) hx hb dL_shelve_25 (by decide) ?_
      exact W.iret (v := 3) hx hb hr (fun t ht hW => ⟨⟨_, (), rfl, rfl, by rw [ht]; exact hP, hD⟩, hS.F ht⟩) hS.2.2 dL_shelve_26
    · rw [q] at h3
      have e1 : rv = 4 := by rw [hrv, q]; rfl
      rw [e1]
      refine vx_catch (own := RL) (name := "java/lang/IllegalStateException") (E := "java/lang/IllegalStateException") hown [⟨0, 12, 15, 13⟩, ⟨0, 12, 19, 27⟩, ⟨0, 12, 23, 19⟩] ⟨0, 12, 27, 21⟩ [] htab (fun z hz => by
        simp only [List.mem_cons, List.not_mem_nil, or_false] at hz
        rcases hz with rfl | rfl | rfl
        · exact Or.inr ⟨by decide, "java/lang/IndexOutOfBoundsException", htc (.classLink RL 13 "java/lang/IndexOutOfBoundsException") (by decide +kernel), hE.2.2.2.2.2 ("java/lang/IllegalStateException", "java/lang/IndexOutOfBoundsException") (by decide +kernel)⟩
        · exact Or.inr ⟨by decide, "java/util/NoSuchElementException", htc (.classLink RL 27 "java/util/NoSuchElementException") (by decide +kernel), hE.2.2.2.2.2 ("java/lang/IllegalStateException", "java/util/NoSuchElementException") (by decide +kernel)⟩
        · exact Or.inr ⟨by decide, "java/lang/IllegalArgumentException", htc (.classLink RL 19 "java/lang/IllegalArgumentException") (by decide +kernel), hE.2.2.2.2.2 ("java/lang/IllegalStateException", "java/lang/IllegalArgumentException") (by decide +kernel)⟩) (by decide) (by decide) (htc (.classLink RL 21 "java/lang/IllegalStateException") (by decide +kernel)) (va_Nw.use rfl (hE.2.1 _ (List.mem_of_getElem? (i := 5) rfl))) h1 h2 h3 ?_
      refine lv_astore (pc := 27) (lv' := [(5, .ref q9), (0, .ref (ad 0)), (1, .int a1), (2, .int a2), (3, .int a3), (4, .ref qo)]) hx hb dL_shelve_27 hl (by decide) rfl (fun ls hl => ?_)
      refine lv_iconst (v := 4) hx hb dL_shelve_29 (by decide) ?_
      exact W.iret (v := 4) hx hb hr (fun t ht hW => ⟨⟨_, (), rfl, rfl, by rw [ht]; exact hP, hD⟩, hS.F ht⟩) hS.2.2 dL_shelve_30
    · rw [q] at h3
      have e1 : rv = 2 := by rw [hrv, q]; rfl
      rw [e1]
      refine vx_catch (own := RL) (name := "java/util/NoSuchElementException") (E := "java/util/NoSuchElementException") hown [⟨0, 12, 15, 13⟩] ⟨0, 12, 19, 27⟩ [⟨0, 12, 23, 19⟩, ⟨0, 12, 27, 21⟩] htab (fun z hz => by
        simp only [List.mem_cons, List.not_mem_nil, or_false] at hz
        rcases hz with rfl
        · exact Or.inr ⟨by decide, "java/lang/IndexOutOfBoundsException", htc (.classLink RL 13 "java/lang/IndexOutOfBoundsException") (by decide +kernel), hE.2.2.2.2.2 ("java/util/NoSuchElementException", "java/lang/IndexOutOfBoundsException") (by decide +kernel)⟩) (by decide) (by decide) (htc (.classLink RL 27 "java/util/NoSuchElementException") (by decide +kernel)) (va_Nw.use rfl (hE.2.1 _ (List.mem_of_getElem? (i := 6) rfl))) h1 h2 h3 ?_
      refine lv_astore (pc := 19) (lv' := [(5, .ref q9), (0, .ref (ad 0)), (1, .int a1), (2, .int a2), (3, .int a3), (4, .ref qo)]) hx hb dL_shelve_19 hl (by decide) rfl (fun ls hl => ?_)
      refine lv_iconst (v := 2) hx hb dL_shelve_21 (by decide) ?_
      exact W.iret (v := 2) hx hb hr (fun t ht hW => ⟨⟨_, (), rfl, rfl, by rw [ht]; exact hP, hD⟩, hS.F ht⟩) hS.2.2 dL_shelve_22
  · have e1 : rv = 0 := hrv.trans (if_pos c1)
    rw [e1]
    refine lv_i2l (v := (f_X5_shelve σ a1 a2 a3).2.1.toInt64) hx hb dL_shelve_10 rfl ?_
    have e2 : o1 = vp_updL o (0 : Int32).toNatClampNeg (f_X5_shelve σ a1 a2 a3).2.1.toInt64 := ho1.trans ((if_pos c1).trans rfl)
    rw [e2]
    refine va_last hx hb hE.1 hP hD hS 51 3 rfl rfl z_in01 dL_shelve_11 (fun H locs hP hD hS => ?_)
    have hP : va_P G vwCl (zw cs ad (f_X5_shelve σ a1 a2 a3).2.2 (zt cs qo (vp_updL o (0 : Int32).toNatClampNeg (f_X5_shelve σ a1 a2 a3).2.1.toInt64) qd d)) H := hP
    have hD : va_D A (zw cs ad (f_X5_shelve σ a1 a2 a3).2.2 (zt cs qo (vp_updL o (0 : Int32).toNatClampNeg (f_X5_shelve σ a1 a2 a3).2.1.toInt64) qd d)) := hD
    refine lv_goto (tgt := 31) hx hb dL_shelve_12 (by decide) ?_
    refine lv_iconst (v := 0) hx hb dL_shelve_31 (by decide) ?_
    exact W.iret (v := 0) hx hb hr (fun t ht hW => ⟨⟨_, (), rfl, rfl, by rw [ht]; exact hP, hD⟩, hS.F ht⟩) hS.2.2 dL_shelve_32
theorem codes_X5_isShelved (σ : zS) (a1 : Int32) (a2 : Int32) : (f_X5_isShelved σ a1 a2).1 ∈ ([0, 1] : List Nat) := by
  unfold f_X5_isShelved
  by_cases c1 : (f_X5_checkAlarm a1 a2) = 0
  · rw [if_pos c1]
    exact (show 0 ∈ ([0, 1] : List Nat) by decide)
  · rw [if_neg c1]
    exact zmem (codes_X5_checkAlarm a1 a2) (by decide)
def f_L_isShelved : Nat → Int32 := fun k => if k = 0 then 0 else if k = 1 then 1 else 9
def zws_isShelved : List Cond := .codeWith yL_isShelved cL_isShelved 5 (some .int) [(0, 17, 20, 13)] :: (zcl ++ wsL_isShelved)
set_option maxRecDepth 100000 in
theorem c_L_isShelved (l : Launch) (hfl : l.stackTraces = false) (G : va_G) (cs : Nat → ClassId) (ad : Nat → Nat) (qo : Nat) (o : Nat → Int64) (qd : Nat) (d : Nat → UInt64) (σ : zS) (a1 : Int32) (a2 : Int32)  : zMi l yL_isShelved zws_isShelved { frames := 9, cells := 2, slots := 12, locals := 153 } G cs [.ref (ad 0), .int a1, .int a2, .ref qo] (zw cs ad σ (zt cs qo o qd d)) (f_L_isShelved (f_X5_isShelved σ a1 a2).1) (zw cs ad (f_X5_isShelved σ a1 a2).2.2 (zt cs qo (zo (f_X5_isShelved σ a1 a2).1 (if (f_X5_isShelved σ a1 a2).2.1 = 0 then 0 else 1) o) qd d)) 2 12 := by
  intro sz
  refine z_ofWH (cc := cL_isShelved) (maxL := 5) (ret := (some .int)) (hh := [(0, 17, 20, 13)]) (by decide) rfl ?_
  intro p e s m args below meth c s₁ B hml hv
  obtain ⟨rfl, hsz, hP, hD0, hE⟩ := hv
  have hx := B.exec
  have hb := B.bytes
  have hr := B.returns
  have hts1 := atoms_spec (ws := zws_isShelved) B.pre
  have htc : ∀ w ∈ zcl, w.before _ s = true := fun w h => hts1 w (List.mem_cons_of_mem _ (List.mem_append_left _ h))
  have hts : ∀ w ∈ wsL_isShelved, w.before _ s = true := fun w h => hts1 w (List.mem_cons_of_mem _ (List.mem_append_right _ h))
  have hown : s.vm.findClass RL = some m.cls := findClass_of_methodNamed B.named
  have hlocks := B.notSynchronized
  have htab := vx_table (x := yL_isShelved) B (hts1 _ List.mem_cons_self)
  subst hsz
  have hD := hD0.self (sz := s.heap.size)
  have hA : ∀ q : Nat, s.heap.size ≤ q → (va_A (zw cs ad σ (zt cs qo o qd d)) s.heap.size) q := fun q h => Or.inr h
  generalize va_A (zw cs ad σ (zt cs qo o qd d)) s.heap.size = A at hD hE hA ⊢
  have hS : va_S A s.heap s.heap [] := va_S.rf
  have hl := lv_entry ([.ref (ad 0), .int a1, .int a2, .ref qo]) (n := 5) (Nat.le_of_ble_eq_true rfl)
  rw [lg_entry_eq]
  generalize (lg_sl ([.ref (ad 0), .int a1, .int a2, .ref qo]) ++ List.replicate (5 - (lg_sl ([.ref (ad 0), .int a1, .int a2, .ref qo])).length) Slot.unset).toArray = ls at hl ⊢
  have hl : lv_has ls 5 [(0, .ref (ad 0)), (1, .int a1), (2, .int a2), (3, .ref qo)] := hl
  have hcd := codes_X5_isShelved σ a1 a2
  obtain ⟨rv, hrv⟩ : ∃ z, z = f_L_isShelved (f_X5_isShelved σ a1 a2).1 := ⟨_, rfl⟩
  obtain ⟨o1, ho1⟩ : ∃ z, z = zo (f_X5_isShelved σ a1 a2).1 (if (f_X5_isShelved σ a1 a2).2.1 = 0 then 0 else 1) o := ⟨_, rfl⟩
  rw [← hrv, ← ho1]
  refine lv_aload_n hx hb dL_isShelved_0 rfl (lv_at hl 3 rfl) ?_
  refine lv_iconst (v := 0) hx hb dL_isShelved_1 (by decide) ?_
  refine lv_aload_n hx hb dL_isShelved_2 rfl (lv_at hl 0 rfl) ?_
  refine lv_iload_n hx hb dL_isShelved_3 rfl (lv_at hl 1 rfl) ?_
  refine lv_iload_n hx hb dL_isShelved_4 rfl (lv_at hl 2 rfl) ?_
  refine zaxi (vx_runV (As := [.int a1, .int a2]) (rest := [.int 0, .ref qo]) ⟨hx, hb, hml, hown, hts⟩ (c_X5_isShelved l hfl G cs ad (zt cs qo o qd d) σ a1 a2  s.heap.size) (cwV 2 hts gL_isShelved_X5_isShelved rfl rfl rfl (by decide +kernel) ⟨Nat.le_of_ble_eq_true rfl, Nat.le_of_ble_eq_true rfl⟩) (zpv hE hP hD hS hA (zg_0 cs ad σ (zt cs qo o qd d)) rfl) rfl rfl hl.1 rfl (lv_room (Nat.le_of_ble_eq_true rfl)) dL_isShelved_5 ⟨Nat.le_of_ble_eq_true rfl, Nat.le_of_ble_eq_true rfl⟩) hD hS hA (fun c1 ce q9 H locs hP hD hS h1 h2 h3 => ?_) (fun c1 H locs hP hD hS => ?_)
  · have e2 : o1 = o := ho1.trans (if_neg c1)
    rw [e2]
    simp only [List.mem_cons, List.not_mem_nil, or_false] at hcd
    rcases hcd with q | q
    · exact absurd q c1
    · rw [q] at h3
      have e1 : rv = 1 := by rw [hrv, q]; rfl
      rw [e1]
      refine vx_catch (own := RL) (name := "java/lang/IndexOutOfBoundsException") (E := "java/lang/IndexOutOfBoundsException") hown [] ⟨0, 17, 20, 13⟩ [] htab (fun z hz => absurd hz List.not_mem_nil) (by decide) (by decide) (htc (.classLink RL 13 "java/lang/IndexOutOfBoundsException") (by decide +kernel)) (va_Nw.use rfl (hE.2.1 _ (List.mem_of_getElem? (i := 3) rfl))) h1 h2 h3 ?_
      refine lv_astore (pc := 20) (lv' := [(4, .ref q9), (0, .ref (ad 0)), (1, .int a1), (2, .int a2), (3, .ref qo)]) hx hb dL_isShelved_20 hl (by decide) rfl (fun ls hl => ?_)
      refine lv_iconst (v := 1) hx hb dL_isShelved_22 (by decide) ?_
      exact W.iret (v := 1) hx hb hr (fun t ht hW => ⟨⟨_, (), rfl, rfl, by rw [ht]; exact hP, hD⟩, hS.F ht⟩) hS.2.2 dL_isShelved_23
  · have e1 : rv = 0 := hrv.trans (if_pos c1)
    rw [e1]
    refine lv_if_eq (tgt := 15) hx hb dL_isShelved_8 (by decide) (fun c2 => ?_) (fun c2 => ?_)
    · refine lv_lconst (v := 0) hx hb dL_isShelved_15 (by decide) ?_
      have e2 : o1 = vp_updL o (0 : Int32).toNatClampNeg 0 := ho1.trans ((if_pos c1).trans (by rw [if_pos c2]))
      rw [e2]
      refine va_last hx hb hE.1 hP hD hS 51 3 rfl rfl z_in01 dL_isShelved_16 (fun H locs hP hD hS => ?_)
      have hP : va_P G vwCl (zw cs ad (f_X5_isShelved σ a1 a2).2.2 (zt cs qo (vp_updL o (0 : Int32).toNatClampNeg 0) qd d)) H := hP
      have hD : va_D A (zw cs ad (f_X5_isShelved σ a1 a2).2.2 (zt cs qo (vp_updL o (0 : Int32).toNatClampNeg 0) qd d)) := hD
      refine lv_goto (tgt := 24) hx hb dL_isShelved_17 (by decide) ?_
      refine lv_iconst (v := 0) hx hb dL_isShelved_24 (by decide) ?_
      exact W.iret (v := 0) hx hb hr (fun t ht hW => ⟨⟨_, (), rfl, rfl, by rw [ht]; exact hP, hD⟩, hS.F ht⟩) hS.2.2 dL_isShelved_25
    · refine lv_lconst (v := 1) hx hb dL_isShelved_11 (by decide) ?_
      refine lv_goto (tgt := 16) hx hb dL_isShelved_12 (by decide) ?_
      have e2 : o1 = vp_updL o (0 : Int32).toNatClampNeg 1 := ho1.trans ((if_pos c1).trans (by rw [if_neg c2]))
      rw [e2]
      refine va_last hx hb hE.1 hP hD hS 51 3 rfl rfl z_in01 dL_isShelved_16 (fun H locs hP hD hS => ?_)
      have hP : va_P G vwCl (zw cs ad (f_X5_isShelved σ a1 a2).2.2 (zt cs qo (vp_updL o (0 : Int32).toNatClampNeg 1) qd d)) H := hP
      have hD : va_D A (zw cs ad (f_X5_isShelved σ a1 a2).2.2 (zt cs qo (vp_updL o (0 : Int32).toNatClampNeg 1) qd d)) := hD
      refine lv_goto (tgt := 24) hx hb dL_isShelved_17 (by decide) ?_
      refine lv_iconst (v := 0) hx hb dL_isShelved_24 (by decide) ?_
      exact W.iret (v := 0) hx hb hr (fun t ht hW => ⟨⟨_, (), rfl, rfl, by rw [ht]; exact hP, hD⟩, hS.F ht⟩) hS.2.2 dL_isShelved_25
theorem codes_X5_alarms (σ : zS) (a1 : Int32) : (f_X5_alarms σ a1).1 ∈ ([0, 2] : List Nat) := by
  unfold f_X5_alarms
  by_cases c1 : (f_X5_checkPriority a1) = 0
  · rw [if_pos c1]
    exact (show 0 ∈ ([0, 2] : List Nat) by decide)
  · rw [if_neg c1]
    exact zmem (codes_X5_checkPriority a1) (by decide)
def f_L_alarms : Nat → Int32 := fun k => if k = 0 then 0 else if k = 2 then 1 else 9
def zws_alarms : List Cond := .codeWith yL_alarms cL_alarms 4 (some .int) [(0, 9, 12, 19)] :: (zcl ++ wsL_alarms)
set_option maxRecDepth 100000 in
theorem c_L_alarms (l : Launch) (hfl : l.stackTraces = false) (G : va_G) (cs : Nat → ClassId) (ad : Nat → Nat) (qo : Nat) (o : Nat → Int64) (qd : Nat) (d : Nat → UInt64) (σ : zS) (a1 : Int32)  : zMi l yL_alarms zws_alarms { frames := 8, cells := 1, slots := 6, locals := 131 } G cs [.ref (ad 0), .int a1, .ref qo] (zw cs ad σ (zt cs qo o qd d)) (f_L_alarms (f_X5_alarms σ a1).1) (zw cs ad (f_X5_alarms σ a1).2.2 (zt cs qo (zo (f_X5_alarms σ a1).1 (f_X5_alarms σ a1).2.1.toInt64 o) qd d)) 1 6 := by
  intro sz
  refine z_ofWH (cc := cL_alarms) (maxL := 4) (ret := (some .int)) (hh := [(0, 9, 12, 19)]) (by decide) rfl ?_
  intro p e s m args below meth c s₁ B hml hv
  obtain ⟨rfl, hsz, hP, hD0, hE⟩ := hv
  have hx := B.exec
  have hb := B.bytes
  have hr := B.returns
  have hts1 := atoms_spec (ws := zws_alarms) B.pre
  have htc : ∀ w ∈ zcl, w.before _ s = true := fun w h => hts1 w (List.mem_cons_of_mem _ (List.mem_append_left _ h))
  have hts : ∀ w ∈ wsL_alarms, w.before _ s = true := fun w h => hts1 w (List.mem_cons_of_mem _ (List.mem_append_right _ h))
  have hown : s.vm.findClass RL = some m.cls := findClass_of_methodNamed B.named
  have hlocks := B.notSynchronized
  have htab := vx_table (x := yL_alarms) B (hts1 _ List.mem_cons_self)
  subst hsz
  have hD := hD0.self (sz := s.heap.size)
  have hA : ∀ q : Nat, s.heap.size ≤ q → (va_A (zw cs ad σ (zt cs qo o qd d)) s.heap.size) q := fun q h => Or.inr h
  generalize va_A (zw cs ad σ (zt cs qo o qd d)) s.heap.size = A at hD hE hA ⊢
  have hS : va_S A s.heap s.heap [] := va_S.rf
  have hl := lv_entry ([.ref (ad 0), .int a1, .ref qo]) (n := 4) (Nat.le_of_ble_eq_true rfl)
  rw [lg_entry_eq]
  generalize (lg_sl ([.ref (ad 0), .int a1, .ref qo]) ++ List.replicate (4 - (lg_sl ([.ref (ad 0), .int a1, .ref qo])).length) Slot.unset).toArray = ls at hl ⊢
  have hl : lv_has ls 4 [(0, .ref (ad 0)), (1, .int a1), (2, .ref qo)] := hl
  have hcd := codes_X5_alarms σ a1
  obtain ⟨rv, hrv⟩ : ∃ z, z = f_L_alarms (f_X5_alarms σ a1).1 := ⟨_, rfl⟩
  obtain ⟨o1, ho1⟩ : ∃ z, z = zo (f_X5_alarms σ a1).1 (f_X5_alarms σ a1).2.1.toInt64 o := ⟨_, rfl⟩
  rw [← hrv, ← ho1]
  refine lv_aload_n hx hb dL_alarms_0 rfl (lv_at hl 2 rfl) ?_
  refine lv_iconst (v := 0) hx hb dL_alarms_1 (by decide) ?_
  refine lv_aload_n hx hb dL_alarms_2 rfl (lv_at hl 0 rfl) ?_
  refine lv_iload_n hx hb dL_alarms_3 rfl (lv_at hl 1 rfl) ?_
  refine zaxi (vx_runV (As := [.int a1]) (rest := [.int 0, .ref qo]) ⟨hx, hb, hml, hown, hts⟩ (c_X5_alarms l hfl G cs ad (zt cs qo o qd d) σ a1  s.heap.size) (cwV 1 hts gL_alarms_X5_alarms rfl rfl rfl (by decide +kernel) ⟨Nat.le_of_ble_eq_true rfl, Nat.le_of_ble_eq_true rfl⟩) (zpv hE hP hD hS hA (zg_0 cs ad σ (zt cs qo o qd d)) rfl) rfl rfl hl.1 rfl (lv_room (Nat.le_of_ble_eq_true rfl)) dL_alarms_4 ⟨Nat.le_of_ble_eq_true rfl, Nat.le_of_ble_eq_true rfl⟩) hD hS hA (fun c1 ce q9 H locs hP hD hS h1 h2 h3 => ?_) (fun c1 H locs hP hD hS => ?_)
  · have e2 : o1 = o := ho1.trans (if_neg c1)
    rw [e2]
    simp only [List.mem_cons, List.not_mem_nil, or_false] at hcd
    rcases hcd with q | q
    · exact absurd q c1
    · rw [q] at h3
      have e1 : rv = 1 := by rw [hrv, q]; rfl
      rw [e1]
      refine vx_catch (own := RL) (name := "java/lang/IllegalArgumentException") (E := "java/lang/IllegalArgumentException") hown [] ⟨0, 9, 12, 19⟩ [] htab (fun z hz => absurd hz List.not_mem_nil) (by decide) (by decide) (htc (.classLink RL 19 "java/lang/IllegalArgumentException") (by decide +kernel)) (va_Nw.use rfl (hE.2.1 _ (List.mem_of_getElem? (i := 4) rfl))) h1 h2 h3 ?_
      refine lv_astore_n (pc := 12) (lv' := [(3, .ref q9), (0, .ref (ad 0)), (1, .int a1), (2, .ref qo)]) hx hb dL_alarms_12 rfl hl (by decide) rfl (fun ls hl => ?_)
      refine lv_iconst (v := 1) hx hb dL_alarms_13 (by decide) ?_
      exact W.iret (v := 1) hx hb hr (fun t ht hW => ⟨⟨_, (), rfl, rfl, by rw [ht]; exact hP, hD⟩, hS.F ht⟩) hS.2.2 dL_alarms_14
  · have e1 : rv = 0 := hrv.trans (if_pos c1)
    rw [e1]
    refine lv_i2l (v := (f_X5_alarms σ a1).2.1.toInt64) hx hb dL_alarms_7 rfl ?_
    have e2 : o1 = vp_updL o (0 : Int32).toNatClampNeg (f_X5_alarms σ a1).2.1.toInt64 := ho1.trans ((if_pos c1).trans rfl)
    rw [e2]
    refine va_last hx hb hE.1 hP hD hS 51 3 rfl rfl z_in01 dL_alarms_8 (fun H locs hP hD hS => ?_)
    have hP : va_P G vwCl (zw cs ad (f_X5_alarms σ a1).2.2 (zt cs qo (vp_updL o (0 : Int32).toNatClampNeg (f_X5_alarms σ a1).2.1.toInt64) qd d)) H := hP
    have hD : va_D A (zw cs ad (f_X5_alarms σ a1).2.2 (zt cs qo (vp_updL o (0 : Int32).toNatClampNeg (f_X5_alarms σ a1).2.1.toInt64) qd d)) := hD
    refine lv_goto (tgt := 15) hx hb dL_alarms_9 (by decide) ?_
    refine lv_iconst (v := 0) hx hb dL_alarms_15 (by decide) ?_
    exact W.iret (v := 0) hx hb hr (fun t ht hW => ⟨⟨_, (), rfl, rfl, by rw [ht]; exact hP, hD⟩, hS.F ht⟩) hS.2.2 dL_alarms_16
theorem codes_X5_top (σ : zS)  : (f_X5_top σ ).1 ∈ ([0, 4] : List Nat) := by
  unfold f_X5_top
  by_cases c1 : (f_X0_topLine σ (σ 0 6)) = (-1)
  · rw [if_pos c1]
    exact (show 4 ∈ ([0, 4] : List Nat) by decide)
  · rw [if_neg c1]
    exact (show 0 ∈ ([0, 4] : List Nat) by decide)
def f_L_top : Nat → Int32 := fun k => if k = 0 then 0 else if k = 4 then 1 else 9
def zws_top : List Cond := .codeWith yL_top cL_top 3 (some .int) [(0, 8, 11, 27)] :: (zcl ++ wsL_top)
set_option maxRecDepth 100000 in
theorem c_L_top (l : Launch) (hfl : l.stackTraces = false) (G : va_G) (cs : Nat → ClassId) (ad : Nat → Nat) (qo : Nat) (o : Nat → Int64) (qd : Nat) (d : Nat → UInt64) (σ : zS)   : zMi l yL_top zws_top { frames := 7, cells := 1, slots := 6, locals := 129 } G cs [.ref (ad 0), .ref qo] (zw cs ad σ (zt cs qo o qd d)) (f_L_top (f_X5_top σ ).1) (zw cs ad (f_X5_top σ ).2.2 (zt cs qo (zo (f_X5_top σ ).1 (f_X5_top σ ).2.1.toInt64 o) qd d)) 1 6 := by
  intro sz
  refine z_ofWH (cc := cL_top) (maxL := 3) (ret := (some .int)) (hh := [(0, 8, 11, 27)]) (by decide) rfl ?_
  intro p e s m args below meth c s₁ B hml hv
  obtain ⟨rfl, hsz, hP, hD0, hE⟩ := hv
  have hx := B.exec
  have hb := B.bytes
  have hr := B.returns
  have hts1 := atoms_spec (ws := zws_top) B.pre
  have htc : ∀ w ∈ zcl, w.before _ s = true := fun w h => hts1 w (List.mem_cons_of_mem _ (List.mem_append_left _ h))
  have hts : ∀ w ∈ wsL_top, w.before _ s = true := fun w h => hts1 w (List.mem_cons_of_mem _ (List.mem_append_right _ h))
  have hown : s.vm.findClass RL = some m.cls := findClass_of_methodNamed B.named
  have hlocks := B.notSynchronized
  have htab := vx_table (x := yL_top) B (hts1 _ List.mem_cons_self)
  subst hsz
  have hD := hD0.self (sz := s.heap.size)
  have hA : ∀ q : Nat, s.heap.size ≤ q → (va_A (zw cs ad σ (zt cs qo o qd d)) s.heap.size) q := fun q h => Or.inr h
  generalize va_A (zw cs ad σ (zt cs qo o qd d)) s.heap.size = A at hD hE hA ⊢
  have hS : va_S A s.heap s.heap [] := va_S.rf
  have hl := lv_entry ([.ref (ad 0), .ref qo]) (n := 3) (Nat.le_of_ble_eq_true rfl)
  rw [lg_entry_eq]
  generalize (lg_sl ([.ref (ad 0), .ref qo]) ++ List.replicate (3 - (lg_sl ([.ref (ad 0), .ref qo])).length) Slot.unset).toArray = ls at hl ⊢
  have hl : lv_has ls 3 [(0, .ref (ad 0)), (1, .ref qo)] := hl
  have hcd := codes_X5_top σ 
  obtain ⟨rv, hrv⟩ : ∃ z, z = f_L_top (f_X5_top σ ).1 := ⟨_, rfl⟩
  obtain ⟨o1, ho1⟩ : ∃ z, z = zo (f_X5_top σ ).1 (f_X5_top σ ).2.1.toInt64 o := ⟨_, rfl⟩
  rw [← hrv, ← ho1]
  refine lv_aload_n hx hb dL_top_0 rfl (lv_at hl 1 rfl) ?_
  refine lv_iconst (v := 0) hx hb dL_top_1 (by decide) ?_
  refine lv_aload_n hx hb dL_top_2 rfl (lv_at hl 0 rfl) ?_
  refine zaxi (vx_runV (As := []) (rest := [.int 0, .ref qo]) ⟨hx, hb, hml, hown, hts⟩ (c_X5_top l hfl G cs ad (zt cs qo o qd d) σ   s.heap.size) (cwV 0 hts gL_top_X5_top rfl rfl rfl (by decide +kernel) ⟨Nat.le_of_ble_eq_true rfl, Nat.le_of_ble_eq_true rfl⟩) (zpv hE hP hD hS hA (zg_0 cs ad σ (zt cs qo o qd d)) rfl) rfl rfl hl.1 rfl (lv_room (Nat.le_of_ble_eq_true rfl)) dL_top_3 ⟨Nat.le_of_ble_eq_true rfl, Nat.le_of_ble_eq_true rfl⟩) hD hS hA (fun c1 ce q9 H locs hP hD hS h1 h2 h3 => ?_) (fun c1 H locs hP hD hS => ?_)
  · have e2 : o1 = o := ho1.trans (if_neg c1)
    rw [e2]
    simp only [List.mem_cons, List.not_mem_nil, or_false] at hcd
    rcases hcd with q | q
    · exact absurd q c1
    · rw [q] at h3
      have e1 : rv = 1 := by rw [hrv, q]; rfl
      rw [e1]
      refine vx_catch (own := RL) (name := "java/util/NoSuchElementException") (E := "java/util/NoSuchElementException") hown [] ⟨0, 8, 11, 27⟩ [] htab (fun z hz => absurd hz List.not_mem_nil) (by decide) (by decide) (htc (.classLink RL 27 "java/util/NoSuchElementException") (by decide +kernel)) (va_Nw.use rfl (hE.2.1 _ (List.mem_of_getElem? (i := 6) rfl))) h1 h2 h3 ?_
      refine lv_astore_n (pc := 11) (lv' := [(2, .ref q9), (0, .ref (ad 0)), (1, .ref qo)]) hx hb dL_top_11 rfl hl (by decide) rfl (fun ls hl => ?_)
      refine lv_iconst (v := 1) hx hb dL_top_12 (by decide) ?_
      exact W.iret (v := 1) hx hb hr (fun t ht hW => ⟨⟨_, (), rfl, rfl, by rw [ht]; exact hP, hD⟩, hS.F ht⟩) hS.2.2 dL_top_13
  · have e1 : rv = 0 := hrv.trans (if_pos c1)
    rw [e1]
    refine lv_i2l (v := (f_X5_top σ ).2.1.toInt64) hx hb dL_top_6 rfl ?_
    have e2 : o1 = vp_updL o (0 : Int32).toNatClampNeg (f_X5_top σ ).2.1.toInt64 := ho1.trans ((if_pos c1).trans rfl)
    rw [e2]
    refine va_last hx hb hE.1 hP hD hS 51 3 rfl rfl z_in01 dL_top_7 (fun H locs hP hD hS => ?_)
    have hP : va_P G vwCl (zw cs ad (f_X5_top σ ).2.2 (zt cs qo (vp_updL o (0 : Int32).toNatClampNeg (f_X5_top σ ).2.1.toInt64) qd d)) H := hP
    have hD : va_D A (zw cs ad (f_X5_top σ ).2.2 (zt cs qo (vp_updL o (0 : Int32).toNatClampNeg (f_X5_top σ ).2.1.toInt64) qd d)) := hD
    refine lv_goto (tgt := 14) hx hb dL_top_8 (by decide) ?_
    refine lv_iconst (v := 0) hx hb dL_top_14 (by decide) ?_
    exact W.iret (v := 0) hx hb hr (fun t ht hW => ⟨⟨_, (), rfl, rfl, by rw [ht]; exact hP, hD⟩, hS.F ht⟩) hS.2.2 dL_top_15
theorem codes_X5_addProcedure (σ : zS)  : (f_X5_addProcedure σ ).1 ∈ ([0, 3] : List Nat) := by
  unfold f_X5_addProcedure
  by_cases c1 : (f_X4_isFull σ ) = 0
  · rw [if_pos c1]
    exact (show 0 ∈ ([0, 3] : List Nat) by decide)
  · rw [if_neg c1]
    exact (show 3 ∈ ([0, 3] : List Nat) by decide)
def f_L_addProcedure : Nat → Int32 := fun k => if k = 0 then 0 else if k = 3 then 1 else 9
def zws_addProcedure : List Cond := .codeWith yL_addProcedure cL_addProcedure 3 (some .int) [(0, 8, 11, 21)] :: (zcl ++ wsL_addProcedure)
set_option maxRecDepth 100000 in
theorem c_L_addProcedure (l : Launch) (hfl : l.stackTraces = false) (G : va_G) (cs : Nat → ClassId) (ad : Nat → Nat) (qo : Nat) (o : Nat → Int64) (qd : Nat) (d : Nat → UInt64) (σ : zS)   : zMi l yL_addProcedure zws_addProcedure { frames := 7, cells := 1, slots := 6, locals := 110 } G cs [.ref (ad 0), .ref qo] (zw cs ad σ (zt cs qo o qd d)) (f_L_addProcedure (f_X5_addProcedure σ ).1) (zw cs ad (f_X5_addProcedure σ ).2.2 (zt cs qo (zo (f_X5_addProcedure σ ).1 (f_X5_addProcedure σ ).2.1.toInt64 o) qd d)) 1 6 := by
  intro sz
  refine z_ofWH (cc := cL_addProcedure) (maxL := 3) (ret := (some .int)) (hh := [(0, 8, 11, 21)]) (by decide) rfl ?_
  intro p e s m args below meth c s₁ B hml hv
  obtain ⟨rfl, hsz, hP, hD0, hE⟩ := hv
  have hx := B.exec
  have hb := B.bytes
  have hr := B.returns
  have hts1 := atoms_spec (ws := zws_addProcedure) B.pre
  have htc : ∀ w ∈ zcl, w.before _ s = true := fun w h => hts1 w (List.mem_cons_of_mem _ (List.mem_append_left _ h))
  have hts : ∀ w ∈ wsL_addProcedure, w.before _ s = true := fun w h => hts1 w (List.mem_cons_of_mem _ (List.mem_append_right _ h))
  have hown : s.vm.findClass RL = some m.cls := findClass_of_methodNamed B.named
  have hlocks := B.notSynchronized
  have htab := vx_table (x := yL_addProcedure) B (hts1 _ List.mem_cons_self)
  subst hsz
  have hD := hD0.self (sz := s.heap.size)
  have hA : ∀ q : Nat, s.heap.size ≤ q → (va_A (zw cs ad σ (zt cs qo o qd d)) s.heap.size) q := fun q h => Or.inr h
  generalize va_A (zw cs ad σ (zt cs qo o qd d)) s.heap.size = A at hD hE hA ⊢
  have hS : va_S A s.heap s.heap [] := va_S.rf
  have hl := lv_entry ([.ref (ad 0), .ref qo]) (n := 3) (Nat.le_of_ble_eq_true rfl)
  rw [lg_entry_eq]
  generalize (lg_sl ([.ref (ad 0), .ref qo]) ++ List.replicate (3 - (lg_sl ([.ref (ad 0), .ref qo])).length) Slot.unset).toArray = ls at hl ⊢
  have hl : lv_has ls 3 [(0, .ref (ad 0)), (1, .ref qo)] := hl
  have hcd := codes_X5_addProcedure σ 
  obtain ⟨rv, hrv⟩ : ∃ z, z = f_L_addProcedure (f_X5_addProcedure σ ).1 := ⟨_, rfl⟩
  obtain ⟨o1, ho1⟩ : ∃ z, z = zo (f_X5_addProcedure σ ).1 (f_X5_addProcedure σ ).2.1.toInt64 o := ⟨_, rfl⟩
  rw [← hrv, ← ho1]
  refine lv_aload_n hx hb dL_addProcedure_0 rfl (lv_at hl 1 rfl) ?_
  refine lv_iconst (v := 0) hx hb dL_addProcedure_1 (by decide) ?_
  refine lv_aload_n hx hb dL_addProcedure_2 rfl (lv_at hl 0 rfl) ?_
  refine zaxi (vx_runV (As := []) (rest := [.int 0, .ref qo]) ⟨hx, hb, hml, hown, hts⟩ (c_X5_addProcedure l hfl G cs ad (zt cs qo o qd d) σ   s.heap.size) (cwV 0 hts gL_addProcedure_X5_addProcedure rfl rfl rfl (by decide +kernel) ⟨Nat.le_of_ble_eq_true rfl, Nat.le_of_ble_eq_true rfl⟩) (zpv hE hP hD hS hA (zg_0 cs ad σ (zt cs qo o qd d)) rfl) rfl rfl hl.1 rfl (lv_room (Nat.le_of_ble_eq_true rfl)) dL_addProcedure_3 ⟨Nat.le_of_ble_eq_true rfl, Nat.le_of_ble_eq_true rfl⟩) hD hS hA (fun c1 ce q9 H locs hP hD hS h1 h2 h3 => ?_) (fun c1 H locs hP hD hS => ?_)
  · have e2 : o1 = o := ho1.trans (if_neg c1)
    rw [e2]
    simp only [List.mem_cons, List.not_mem_nil, or_false] at hcd
    rcases hcd with q | q
    · exact absurd q c1
    · rw [q] at h3
      have e1 : rv = 1 := by rw [hrv, q]; rfl
      rw [e1]
      refine vx_catch (own := RL) (name := "java/lang/IllegalStateException") (E := "java/lang/IllegalStateException") hown [] ⟨0, 8, 11, 21⟩ [] htab (fun z hz => absurd hz List.not_mem_nil) (by decide) (by decide) (htc (.classLink RL 21 "java/lang/IllegalStateException") (by decide +kernel)) (va_Nw.use rfl (hE.2.1 _ (List.mem_of_getElem? (i := 5) rfl))) h1 h2 h3 ?_
      refine lv_astore_n (pc := 11) (lv' := [(2, .ref q9), (0, .ref (ad 0)), (1, .ref qo)]) hx hb dL_addProcedure_11 rfl hl (by decide) rfl (fun ls hl => ?_)
      refine lv_iconst (v := 1) hx hb dL_addProcedure_12 (by decide) ?_
      exact W.iret (v := 1) hx hb hr (fun t ht hW => ⟨⟨_, (), rfl, rfl, by rw [ht]; exact hP, hD⟩, hS.F ht⟩) hS.2.2 dL_addProcedure_13
  · have e1 : rv = 0 := hrv.trans (if_pos c1)
    rw [e1]
    refine lv_i2l (v := (f_X5_addProcedure σ ).2.1.toInt64) hx hb dL_addProcedure_6 rfl ?_
    have e2 : o1 = vp_updL o (0 : Int32).toNatClampNeg (f_X5_addProcedure σ ).2.1.toInt64 := ho1.trans ((if_pos c1).trans rfl)
    rw [e2]
    refine va_last hx hb hE.1 hP hD hS 51 3 rfl rfl z_in01 dL_addProcedure_7 (fun H locs hP hD hS => ?_)
    have hP : va_P G vwCl (zw cs ad (f_X5_addProcedure σ ).2.2 (zt cs qo (vp_updL o (0 : Int32).toNatClampNeg (f_X5_addProcedure σ ).2.1.toInt64) qd d)) H := hP
    have hD : va_D A (zw cs ad (f_X5_addProcedure σ ).2.2 (zt cs qo (vp_updL o (0 : Int32).toNatClampNeg (f_X5_addProcedure σ ).2.1.toInt64) qd d)) := hD
    refine lv_goto (tgt := 14) hx hb dL_addProcedure_8 (by decide) ?_
    refine lv_iconst (v := 0) hx hb dL_addProcedure_14 (by decide) ?_
    exact W.iret (v := 0) hx hb hr (fun t ht hW => ⟨⟨_, (), rfl, rfl, by rw [ht]; exact hP, hD⟩, hS.F ht⟩) hS.2.2 dL_addProcedure_15
theorem codes_X5_checkProcedure (σ : zS) (a1 : Int32) : (f_X5_checkProcedure σ a1) ∈ ([0, 4] : List Nat) := by
  unfold f_X5_checkProcedure
  by_cases c1 : (f_X4_hasProcedure σ a1) = 0
  · rw [if_pos c1]
    exact (show 4 ∈ ([0, 4] : List Nat) by decide)
  · rw [if_neg c1]
    exact (show 0 ∈ ([0, 4] : List Nat) by decide)
theorem codes_X5_checkState (a1 : Int32) : (f_X5_checkState a1) ∈ ([0, 2] : List Nat) := by
  unfold f_X5_checkState
  by_cases c1 : a1 < 0
  · rw [if_pos c1]
    exact (show 2 ∈ ([0, 2] : List Nat) by decide)
  · rw [if_neg c1]
    by_cases c2 : a1 < 4
    · rw [if_pos c2]
      exact (show 0 ∈ ([0, 2] : List Nat) by decide)
    · rw [if_neg c2]
      exact (show 2 ∈ ([0, 2] : List Nat) by decide)
theorem codes_X5_addStep (σ : zS) (a1 : Int32) (a2 : Int32) (a3 : Int32) (a4 : Int32) (a5 : Int32) : (f_X5_addStep σ a1 a2 a3 a4 a5).1 ∈ ([0, 1, 2, 3, 4] : List Nat) := by
  unfold f_X5_addStep
  by_cases c1 : (f_X5_checkProcedure σ a1) = 0
  · rw [if_pos c1]
    by_cases c2 : (f_X5_checkUnit a2) = 0
    · rw [if_pos c2]
      by_cases c3 : (f_X5_checkUnit a4) = 0
      · rw [if_pos c3]
        by_cases c4 : (f_X5_checkState a3) = 0
        · rw [if_pos c4]
          by_cases c5 : (f_X5_checkState a5) = 0
          · rw [if_pos c5]
            by_cases c6 : (f_X4_stepCount σ a1) < 8
            · rw [if_pos c6]
              exact (show 0 ∈ ([0, 1, 2, 3, 4] : List Nat) by decide)
            · rw [if_neg c6]
              exact (show 3 ∈ ([0, 1, 2, 3, 4] : List Nat) by decide)
          · rw [if_neg c5]
            exact zmem (codes_X5_checkState a5) (by decide)
        · rw [if_neg c4]
          exact zmem (codes_X5_checkState a3) (by decide)
      · rw [if_neg c3]
        exact zmem (codes_X5_checkUnit a4) (by decide)
    · rw [if_neg c2]
      exact zmem (codes_X5_checkUnit a2) (by decide)
  · rw [if_neg c1]
    exact zmem (codes_X5_checkProcedure σ a1) (by decide)
def f_L_addStep : Nat → Int32 := fun k => if k = 0 then 0 else if k = 4 then 1 else if k = 1 then 2 else if k = 2 then 3 else if k = 3 then 4 else 9
def zws_addStep : List Cond := .codeWith yL_addStep cL_addStep 8 (some .int) [(0, 16, 19, 27), (0, 16, 23, 13), (0, 16, 27, 19), (0, 16, 31, 21)] :: (zcl ++ wsL_addStep)
set_option maxRecDepth 100000 in
theorem c_L_addStep (l : Launch) (hfl : l.stackTraces = false) (G : va_G) (cs : Nat → ClassId) (ad : Nat → Nat) (qo : Nat) (o : Nat → Int64) (qd : Nat) (d : Nat → UInt64) (σ : zS) (a1 : Int32) (a2 : Int32) (a3 : Int32) (a4 : Int32) (a5 : Int32)  : zMi l yL_addStep zws_addStep { frames := 8, cells := 6, slots := 36, locals := 137 } G cs [.ref (ad 0), .int a1, .int a2, .int a3, .int a4, .int a5, .ref qo] (zw cs ad σ (zt cs qo o qd d)) (f_L_addStep (f_X5_addStep σ a1 a2 a3 a4 a5).1) (zw cs ad (f_X5_addStep σ a1 a2 a3 a4 a5).2.2 (zt cs qo (zo (f_X5_addStep σ a1 a2 a3 a4 a5).1 (f_X5_addStep σ a1 a2 a3 a4 a5).2.1.toInt64 o) qd d)) 6 36 := by
  intro sz
  refine z_ofWH (cc := cL_addStep) (maxL := 8) (ret := (some .int)) (hh := [(0, 16, 19, 27), (0, 16, 23, 13), (0, 16, 27, 19), (0, 16, 31, 21)]) (by decide) rfl ?_
  intro p e s m args below meth c s₁ B hml hv
  obtain ⟨rfl, hsz, hP, hD0, hE⟩ := hv
  have hx := B.exec
  have hb := B.bytes
  have hr := B.returns
  have hts1 := atoms_spec (ws := zws_addStep) B.pre
  have htc : ∀ w ∈ zcl, w.before _ s = true := fun w h => hts1 w (List.mem_cons_of_mem _ (List.mem_append_left _ h))
  have hts : ∀ w ∈ wsL_addStep, w.before _ s = true := fun w h => hts1 w (List.mem_cons_of_mem _ (List.mem_append_right _ h))
  have hown : s.vm.findClass RL = some m.cls := findClass_of_methodNamed B.named
  have hlocks := B.notSynchronized
  have htab := vx_table (x := yL_addStep) B (hts1 _ List.mem_cons_self)
  subst hsz
  have hD := hD0.self (sz := s.heap.size)
  have hA : ∀ q : Nat, s.heap.size ≤ q → (va_A (zw cs ad σ (zt cs qo o qd d)) s.heap.size) q := fun q h => Or.inr h
  generalize va_A (zw cs ad σ (zt cs qo o qd d)) s.heap.size = A at hD hE hA ⊢
  have hS : va_S A s.heap s.heap [] := va_S.rf
  have hl := lv_entry ([.ref (ad 0), .int a1, .int a2, .int a3, .int a4, .int a5, .ref qo]) (n := 8) (Nat.le_of_ble_eq_true rfl)
  rw [lg_entry_eq]
  generalize (lg_sl ([.ref (ad 0), .int a1, .int a2, .int a3, .int a4, .int a5, .ref qo]) ++ List.replicate (8 - (lg_sl ([.ref (ad 0), .int a1, .int a2, .int a3, .int a4, .int a5, .ref qo])).length) Slot.unset).toArray = ls at hl ⊢
  have hl : lv_has ls 8 [(0, .ref (ad 0)), (1, .int a1), (2, .int a2), (3, .int a3), (4, .int a4), (5, .int a5), (6, .ref qo)] := hl
  have hcd := codes_X5_addStep σ a1 a2 a3 a4 a5
  obtain ⟨rv, hrv⟩ : ∃ z, z = f_L_addStep (f_X5_addStep σ a1 a2 a3 a4 a5).1 := ⟨_, rfl⟩
  obtain ⟨o1, ho1⟩ : ∃ z, z = zo (f_X5_addStep σ a1 a2 a3 a4 a5).1 (f_X5_addStep σ a1 a2 a3 a4 a5).2.1.toInt64 o := ⟨_, rfl⟩
  rw [← hrv, ← ho1]
  refine lv_aload hx hb dL_addStep_0 (lv_at hl 6 rfl) ?_
  refine lv_iconst (v := 0) hx hb dL_addStep_2 (by decide) ?_
  refine lv_aload_n hx hb dL_addStep_3 rfl (lv_at hl 0 rfl) ?_
  refine lv_iload_n hx hb dL_addStep_4 rfl (lv_at hl 1 rfl) ?_
  refine lv_iload_n hx hb dL_addStep_5 rfl (lv_at hl 2 rfl) ?_
  refine lv_iload_n hx hb dL_addStep_6 rfl (lv_at hl 3 rfl) ?_
  refine lv_iload hx hb dL_addStep_7 (lv_at hl 4 rfl) ?_
  refine lv_iload hx hb dL_addStep_9 (lv_at hl 5 rfl) ?_
  refine zaxi (vx_runV (As := [.int a1, .int a2, .int a3, .int a4, .int a5]) (rest := [.int 0, .ref qo]) ⟨hx, hb, hml, hown, hts⟩ (c_X5_addStep l hfl G cs ad (zt cs qo o qd d) σ a1 a2 a3 a4 a5  s.heap.size) (cwV 5 hts gL_addStep_X5_addStep rfl rfl rfl (by decide +kernel) ⟨Nat.le_of_ble_eq_true rfl, Nat.le_of_ble_eq_true rfl⟩) (zpv hE hP hD hS hA (zg_0 cs ad σ (zt cs qo o qd d)) rfl) rfl rfl hl.1 rfl (lv_room (Nat.le_of_ble_eq_true rfl)) dL_addStep_11 ⟨Nat.le_of_ble_eq_true rfl, Nat.le_of_ble_eq_true rfl⟩) hD hS hA (fun c1 ce q9 H locs hP hD hS h1 h2 h3 => ?_) (fun c1 H locs hP hD hS => ?_)
  · have e2 : o1 = o := ho1.trans (if_neg c1)
    rw [e2]
    simp only [List.mem_cons, List.not_mem_nil, or_false] at hcd
    rcases hcd with q | q | q | q | q
    · exact absurd q c1
    · rw [q] at h3
      have e1 : rv = 2 := by rw [hrv, q]; rfl
      rw [e1]
      refine vx_catch (own := RL) (name := "java/lang/IndexOutOfBoundsException") (E := "java/lang/IndexOutOfBoundsException") hown [⟨0, 16, 19, 27⟩] ⟨0, 16, 23, 13⟩ [⟨0, 16, 27, 19⟩, ⟨0, 16, 31, 21⟩] htab (fun z hz => by
        simp only [List.mem_cons, List.not_mem_nil, or_false] at hz
        rcases hz with rfl
        · exact Or.inr ⟨by decide, "java/util/NoSuchElementException", htc (.classLink RL 27 "java/util/NoSuchElementException") (by decide +kernel), hE.2.2.2.2.2 ("java/lang/IndexOutOfBoundsException", "java/util/NoSuchElementException") (by decide +kernel)⟩) (by decide) (by decide) (htc (.classLink RL 13 "java/lang/IndexOutOfBoundsException") (by decide +kernel)) (va_Nw.use rfl (hE.2.1 _ (List.mem_of_getElem? (i := 3) rfl))) h1 h2 h3 ?_
      refine lv_astore (pc := 23) (lv' := [(7, .ref q9), (0, .ref (ad 0)), (1, .int a1), (2, .int a2), (3, .int a3), (4, .int a4), (5, .int a5), (6, .ref qo)]) hx hb dL_addStep_23 hl (by decide) rfl (fun ls hl => ?_)
      refine lv_iconst (v := 2) hx hb dL_addStep_25 (by decide) ?_
      exact W.iret (v := 2) hx hb hr (fun t ht hW => ⟨⟨_, (), rfl, rfl, by rw [ht]; exact hP, hD⟩, hS.F ht⟩) hS.2.2 dL_addStep_26
    · rw [q] at h3
      have e1 : rv = 3 := by rw [hrv, q]; rfl
      rw [e1]
      refine vx_catch (own := RL) (name := "java/lang/IllegalArgumentException") (E := "java/lang/IllegalArgumentException") hown [⟨0, 16, 19, 27⟩, ⟨0, 16, 23, 13⟩] ⟨0, 16, 27, 19⟩ [⟨0, 16, 31, 21⟩] htab (fun z hz => by
        simp only [List.mem_cons, List.not_mem_nil, or_false] at hz
        rcases hz with rfl | rfl
        · exact Or.inr ⟨by decide, "java/util/NoSuchElementException", htc (.classLink RL 27 "java/util/NoSuchElementException") (by decide +kernel), hE.2.2.2.2.2 ("java/lang/IllegalArgumentException", "java/util/NoSuchElementException") (by decide +kernel)⟩
        · exact Or.inr ⟨by decide, "java/lang/IndexOutOfBoundsException", htc (.classLink RL 13 "java/lang/IndexOutOfBoundsException") (by decide +kernel), hE.2.2.2.2.2 ("java/lang/IllegalArgumentException", "java/lang/IndexOutOfBoundsException") (by decide +kernel)⟩) (by decide) (by decide) (htc (.classLink RL 19 "java/lang/IllegalArgumentException") (by decide +kernel)) (va_Nw.use rfl (hE.2.1 _ (List.mem_of_getElem? (i := 4) rfl))) h1 h2 h3 ?_
      refine lv_astore (pc := 27) (lv' := [(7, .ref q9), (0, .ref (ad 0)), (1, .int a1), (2, .int a2), (3, .int a3), (4, .int a4), (5, .int a5), (6, .ref qo)]) hx hb dL_addStep_27 hl (by decide) rfl (fun ls hl => ?_)
      refine lv_iconst (v := 3) hx hb dL_addStep_29 (by decide) ?_
      exact W.iret (v := 3) hx hb hr (fun t ht hW => ⟨⟨_, (), rfl, rfl, by rw [ht]; exact hP, hD⟩, hS.F ht⟩) hS.2.2 dL_addStep_30
    · rw [q] at h3
      have e1 : rv = 4 := by rw [hrv, q]; rfl
      rw [e1]
      refine vx_catch (own := RL) (name := "java/lang/IllegalStateException") (E := "java/lang/IllegalStateException") hown [⟨0, 16, 19, 27⟩, ⟨0, 16, 23, 13⟩, ⟨0, 16, 27, 19⟩] ⟨0, 16, 31, 21⟩ [] htab (fun z hz => by
        simp only [List.mem_cons, List.not_mem_nil, or_false] at hz
        rcases hz with rfl | rfl | rfl
        · exact Or.inr ⟨by decide, "java/util/NoSuchElementException", htc (.classLink RL 27 "java/util/NoSuchElementException") (by decide +kernel), hE.2.2.2.2.2 ("java/lang/IllegalStateException", "java/util/NoSuchElementException") (by decide +kernel)⟩
        · exact Or.inr ⟨by decide, "java/lang/IndexOutOfBoundsException", htc (.classLink RL 13 "java/lang/IndexOutOfBoundsException") (by decide +kernel), hE.2.2.2.2.2 ("java/lang/IllegalStateException", "java/lang/IndexOutOfBoundsException") (by decide +kernel)⟩
        · exact Or.inr ⟨by decide, "java/lang/IllegalArgumentException", htc (.classLink RL 19 "java/lang/IllegalArgumentException") (by decide +kernel), hE.2.2.2.2.2 ("java/lang/IllegalStateException", "java/lang/IllegalArgumentException") (by decide +kernel)⟩) (by decide) (by decide) (htc (.classLink RL 21 "java/lang/IllegalStateException") (by decide +kernel)) (va_Nw.use rfl (hE.2.1 _ (List.mem_of_getElem? (i := 5) rfl))) h1 h2 h3 ?_
      refine lv_astore (pc := 31) (lv' := [(7, .ref q9), (0, .ref (ad 0)), (1, .int a1), (2, .int a2), (3, .int a3), (4, .int a4), (5, .int a5), (6, .ref qo)]) hx hb dL_addStep_31 hl (by decide) rfl (fun ls hl => ?_)
      refine lv_iconst (v := 4) hx hb dL_addStep_33 (by decide) ?_
      exact W.iret (v := 4) hx hb hr (fun t ht hW => ⟨⟨_, (), rfl, rfl, by rw [ht]; exact hP, hD⟩, hS.F ht⟩) hS.2.2 dL_addStep_34
    · rw [q] at h3
      have e1 : rv = 1 := by rw [hrv, q]; rfl
      rw [e1]
      refine vx_catch (own := RL) (name := "java/util/NoSuchElementException") (E := "java/util/NoSuchElementException") hown [] ⟨0, 16, 19, 27⟩ [⟨0, 16, 23, 13⟩, ⟨0, 16, 27, 19⟩, ⟨0, 16, 31, 21⟩] htab (fun z hz => absurd hz List.not_mem_nil) (by decide) (by decide) (htc (.classLink RL 27 "java/util/NoSuchElementException") (by decide +kernel)) (va_Nw.use rfl (hE.2.1 _ (List.mem_of_getElem? (i := 6) rfl))) h1 h2 h3 ?_
      refine lv_astore (pc := 19) (lv' := [(7, .ref q9), (0, .ref (ad 0)), (1, .int a1), (2, .int a2), (3, .int a3), (4, .int a4), (5, .int a5), (6, .ref qo)]) hx hb dL_addStep_19 hl (by decide) rfl (fun ls hl => ?_)
      refine lv_iconst (v := 1) hx hb dL_addStep_21 (by decide) ?_
      exact W.iret (v := 1) hx hb hr (fun t ht hW => ⟨⟨_, (), rfl, rfl, by rw [ht]; exact hP, hD⟩, hS.F ht⟩) hS.2.2 dL_addStep_22
  · have e1 : rv = 0 := hrv.trans (if_pos c1)
    rw [e1]
    refine lv_i2l (v := (f_X5_addStep σ a1 a2 a3 a4 a5).2.1.toInt64) hx hb dL_addStep_14 rfl ?_
    have e2 : o1 = vp_updL o (0 : Int32).toNatClampNeg (f_X5_addStep σ a1 a2 a3 a4 a5).2.1.toInt64 := ho1.trans ((if_pos c1).trans rfl)
    rw [e2]
    refine va_last hx hb hE.1 hP hD hS 51 3 rfl rfl z_in01 dL_addStep_15 (fun H locs hP hD hS => ?_)
    have hP : va_P G vwCl (zw cs ad (f_X5_addStep σ a1 a2 a3 a4 a5).2.2 (zt cs qo (vp_updL o (0 : Int32).toNatClampNeg (f_X5_addStep σ a1 a2 a3 a4 a5).2.1.toInt64) qd d)) H := hP
    have hD : va_D A (zw cs ad (f_X5_addStep σ a1 a2 a3 a4 a5).2.2 (zt cs qo (vp_updL o (0 : Int32).toNatClampNeg (f_X5_addStep σ a1 a2 a3 a4 a5).2.1.toInt64) qd d)) := hD
    refine lv_goto (tgt := 35) hx hb dL_addStep_16 (by decide) ?_
    refine lv_iconst (v := 0) hx hb dL_addStep_35 (by decide) ?_
    exact W.iret (v := 0) hx hb hr (fun t ht hW => ⟨⟨_, (), rfl, rfl, by rw [ht]; exact hP, hD⟩, hS.F ht⟩) hS.2.2 dL_addStep_36
theorem codes_X5_done (σ : zS) (a1 : Int32) : (f_X5_done σ a1).1 ∈ ([0, 4] : List Nat) := by
  unfold f_X5_done
  by_cases c1 : (f_X5_checkProcedure σ a1) = 0
  · rw [if_pos c1]
    exact (show 0 ∈ ([0, 4] : List Nat) by decide)
  · rw [if_neg c1]
    exact zmem (codes_X5_checkProcedure σ a1) (by decide)
def f_L_done : Nat → Int32 := fun k => if k = 0 then 0 else if k = 4 then 1 else 9
def zws_done : List Cond := .codeWith yL_done cL_done 4 (some .int) [(0, 9, 12, 27)] :: (zcl ++ wsL_done)
set_option maxRecDepth 100000 in
theorem c_L_done (l : Launch) (hfl : l.stackTraces = false) (G : va_G) (cs : Nat → ClassId) (ad : Nat → Nat) (qo : Nat) (o : Nat → Int64) (qd : Nat) (d : Nat → UInt64) (σ : zS) (a1 : Int32)  : zMi l yL_done zws_done { frames := 8, cells := 1, slots := 6, locals := 132 } G cs [.ref (ad 0), .int a1, .ref qo] (zw cs ad σ (zt cs qo o qd d)) (f_L_done (f_X5_done σ a1).1) (zw cs ad (f_X5_done σ a1).2.2 (zt cs qo (zo (f_X5_done σ a1).1 (f_X5_done σ a1).2.1.toInt64 o) qd d)) 1 6 := by
  intro sz
  refine z_ofWH (cc := cL_done) (maxL := 4) (ret := (some .int)) (hh := [(0, 9, 12, 27)]) (by decide) rfl ?_
  intro p e s m args below meth c s₁ B hml hv
  obtain ⟨rfl, hsz, hP, hD0, hE⟩ := hv
  have hx := B.exec
  have hb := B.bytes
  have hr := B.returns
  have hts1 := atoms_spec (ws := zws_done) B.pre
  have htc : ∀ w ∈ zcl, w.before _ s = true := fun w h => hts1 w (List.mem_cons_of_mem _ (List.mem_append_left _ h))
  have hts : ∀ w ∈ wsL_done, w.before _ s = true := fun w h => hts1 w (List.mem_cons_of_mem _ (List.mem_append_right _ h))
  have hown : s.vm.findClass RL = some m.cls := findClass_of_methodNamed B.named
  have hlocks := B.notSynchronized
  have htab := vx_table (x := yL_done) B (hts1 _ List.mem_cons_self)
  subst hsz
  have hD := hD0.self (sz := s.heap.size)
  have hA : ∀ q : Nat, s.heap.size ≤ q → (va_A (zw cs ad σ (zt cs qo o qd d)) s.heap.size) q := fun q h => Or.inr h
  generalize va_A (zw cs ad σ (zt cs qo o qd d)) s.heap.size = A at hD hE hA ⊢
  have hS : va_S A s.heap s.heap [] := va_S.rf
  have hl := lv_entry ([.ref (ad 0), .int a1, .ref qo]) (n := 4) (Nat.le_of_ble_eq_true rfl)
  rw [lg_entry_eq]
  generalize (lg_sl ([.ref (ad 0), .int a1, .ref qo]) ++ List.replicate (4 - (lg_sl ([.ref (ad 0), .int a1, .ref qo])).length) Slot.unset).toArray = ls at hl ⊢
  have hl : lv_has ls 4 [(0, .ref (ad 0)), (1, .int a1), (2, .ref qo)] := hl
  have hcd := codes_X5_done σ a1
  obtain ⟨rv, hrv⟩ : ∃ z, z = f_L_done (f_X5_done σ a1).1 := ⟨_, rfl⟩
  obtain ⟨o1, ho1⟩ : ∃ z, z = zo (f_X5_done σ a1).1 (f_X5_done σ a1).2.1.toInt64 o := ⟨_, rfl⟩
  rw [← hrv, ← ho1]
  refine lv_aload_n hx hb dL_done_0 rfl (lv_at hl 2 rfl) ?_
  refine lv_iconst (v := 0) hx hb dL_done_1 (by decide) ?_
  refine lv_aload_n hx hb dL_done_2 rfl (lv_at hl 0 rfl) ?_
  refine lv_iload_n hx hb dL_done_3 rfl (lv_at hl 1 rfl) ?_
  refine zaxi (vx_runV (As := [.int a1]) (rest := [.int 0, .ref qo]) ⟨hx, hb, hml, hown, hts⟩ (c_X5_done l hfl G cs ad (zt cs qo o qd d) σ a1  s.heap.size) (cwV 1 hts gL_done_X5_done rfl rfl rfl (by decide +kernel) ⟨Nat.le_of_ble_eq_true rfl, Nat.le_of_ble_eq_true rfl⟩) (zpv hE hP hD hS hA (zg_0 cs ad σ (zt cs qo o qd d)) rfl) rfl rfl hl.1 rfl (lv_room (Nat.le_of_ble_eq_true rfl)) dL_done_4 ⟨Nat.le_of_ble_eq_true rfl, Nat.le_of_ble_eq_true rfl⟩) hD hS hA (fun c1 ce q9 H locs hP hD hS h1 h2 h3 => ?_) (fun c1 H locs hP hD hS => ?_)
  · have e2 : o1 = o := ho1.trans (if_neg c1)
    rw [e2]
    simp only [List.mem_cons, List.not_mem_nil, or_false] at hcd
    rcases hcd with q | q
    · exact absurd q c1
    · rw [q] at h3
      have e1 : rv = 1 := by rw [hrv, q]; rfl
      rw [e1]
      refine vx_catch (own := RL) (name := "java/util/NoSuchElementException") (E := "java/util/NoSuchElementException") hown [] ⟨0, 9, 12, 27⟩ [] htab (fun z hz => absurd hz List.not_mem_nil) (by decide) (by decide) (htc (.classLink RL 27 "java/util/NoSuchElementException") (by decide +kernel)) (va_Nw.use rfl (hE.2.1 _ (List.mem_of_getElem? (i := 6) rfl))) h1 h2 h3 ?_
      refine lv_astore_n (pc := 12) (lv' := [(3, .ref q9), (0, .ref (ad 0)), (1, .int a1), (2, .ref qo)]) hx hb dL_done_12 rfl hl (by decide) rfl (fun ls hl => ?_)
      refine lv_iconst (v := 1) hx hb dL_done_13 (by decide) ?_
      exact W.iret (v := 1) hx hb hr (fun t ht hW => ⟨⟨_, (), rfl, rfl, by rw [ht]; exact hP, hD⟩, hS.F ht⟩) hS.2.2 dL_done_14
  · have e1 : rv = 0 := hrv.trans (if_pos c1)
    rw [e1]
    refine lv_i2l (v := (f_X5_done σ a1).2.1.toInt64) hx hb dL_done_7 rfl ?_
    have e2 : o1 = vp_updL o (0 : Int32).toNatClampNeg (f_X5_done σ a1).2.1.toInt64 := ho1.trans ((if_pos c1).trans rfl)
    rw [e2]
    refine va_last hx hb hE.1 hP hD hS 51 3 rfl rfl z_in01 dL_done_8 (fun H locs hP hD hS => ?_)
    have hP : va_P G vwCl (zw cs ad (f_X5_done σ a1).2.2 (zt cs qo (vp_updL o (0 : Int32).toNatClampNeg (f_X5_done σ a1).2.1.toInt64) qd d)) H := hP
    have hD : va_D A (zw cs ad (f_X5_done σ a1).2.2 (zt cs qo (vp_updL o (0 : Int32).toNatClampNeg (f_X5_done σ a1).2.1.toInt64) qd d)) := hD
    refine lv_goto (tgt := 15) hx hb dL_done_9 (by decide) ?_
    refine lv_iconst (v := 0) hx hb dL_done_15 (by decide) ?_
    exact W.iret (v := 0) hx hb hr (fun t ht hW => ⟨⟨_, (), rfl, rfl, by rw [ht]; exact hP, hD⟩, hS.F ht⟩) hS.2.2 dL_done_16
theorem codes_X5_reason (σ : zS) (a1 : Int32) : (f_X5_reason σ a1).1 ∈ ([0, 4] : List Nat) := by
  unfold f_X5_reason
  by_cases c1 : (f_X5_checkProcedure σ a1) = 0
  · rw [if_pos c1]
    exact (show 0 ∈ ([0, 4] : List Nat) by decide)
  · rw [if_neg c1]
    exact zmem (codes_X5_checkProcedure σ a1) (by decide)
def f_L_reason : Nat → Int32 := fun k => if k = 0 then 0 else if k = 4 then 1 else 9
def zws_reason : List Cond := .codeWith yL_reason cL_reason 4 (some .int) [(0, 9, 12, 27)] :: (zcl ++ wsL_reason)
set_option maxRecDepth 100000 in
theorem c_L_reason (l : Launch) (hfl : l.stackTraces = false) (G : va_G) (cs : Nat → ClassId) (ad : Nat → Nat) (qo : Nat) (o : Nat → Int64) (qd : Nat) (d : Nat → UInt64) (σ : zS) (a1 : Int32)  : zMi l yL_reason zws_reason { frames := 8, cells := 1, slots := 6, locals := 132 } G cs [.ref (ad 0), .int a1, .ref qo] (zw cs ad σ (zt cs qo o qd d)) (f_L_reason (f_X5_reason σ a1).1) (zw cs ad (f_X5_reason σ a1).2.2 (zt cs qo (zo (f_X5_reason σ a1).1 (f_X5_reason σ a1).2.1.toInt64 o) qd d)) 1 6 := by
  intro sz
  refine z_ofWH (cc := cL_reason) (maxL := 4) (ret := (some .int)) (hh := [(0, 9, 12, 27)]) (by decide) rfl ?_
  intro p e s m args below meth c s₁ B hml hv
  obtain ⟨rfl, hsz, hP, hD0, hE⟩ := hv
  have hx := B.exec
  have hb := B.bytes
  have hr := B.returns
  have hts1 := atoms_spec (ws := zws_reason) B.pre
  have htc : ∀ w ∈ zcl, w.before _ s = true := fun w h => hts1 w (List.mem_cons_of_mem _ (List.mem_append_left _ h))
  have hts : ∀ w ∈ wsL_reason, w.before _ s = true := fun w h => hts1 w (List.mem_cons_of_mem _ (List.mem_append_right _ h))
  have hown : s.vm.findClass RL = some m.cls := findClass_of_methodNamed B.named
  have hlocks := B.notSynchronized
  have htab := vx_table (x := yL_reason) B (hts1 _ List.mem_cons_self)
  subst hsz
  have hD := hD0.self (sz := s.heap.size)
  have hA : ∀ q : Nat, s.heap.size ≤ q → (va_A (zw cs ad σ (zt cs qo o qd d)) s.heap.size) q := fun q h => Or.inr h
  generalize va_A (zw cs ad σ (zt cs qo o qd d)) s.heap.size = A at hD hE hA ⊢
  have hS : va_S A s.heap s.heap [] := va_S.rf
  have hl := lv_entry ([.ref (ad 0), .int a1, .ref qo]) (n := 4) (Nat.le_of_ble_eq_true rfl)
  rw [lg_entry_eq]
  generalize (lg_sl ([.ref (ad 0), .int a1, .ref qo]) ++ List.replicate (4 - (lg_sl ([.ref (ad 0), .int a1, .ref qo])).length) Slot.unset).toArray = ls at hl ⊢
  have hl : lv_has ls 4 [(0, .ref (ad 0)), (1, .int a1), (2, .ref qo)] := hl
  have hcd := codes_X5_reason σ a1
  obtain ⟨rv, hrv⟩ : ∃ z, z = f_L_reason (f_X5_reason σ a1).1 := ⟨_, rfl⟩
  obtain ⟨o1, ho1⟩ : ∃ z, z = zo (f_X5_reason σ a1).1 (f_X5_reason σ a1).2.1.toInt64 o := ⟨_, rfl⟩
  rw [← hrv, ← ho1]
  refine lv_aload_n hx hb dL_reason_0 rfl (lv_at hl 2 rfl) ?_
  refine lv_iconst (v := 0) hx hb dL_reason_1 (by decide) ?_
  refine lv_aload_n hx hb dL_reason_2 rfl (lv_at hl 0 rfl) ?_
  refine lv_iload_n hx hb dL_reason_3 rfl (lv_at hl 1 rfl) ?_
  refine zaxi (vx_runV (As := [.int a1]) (rest := [.int 0, .ref qo]) ⟨hx, hb, hml, hown, hts⟩ (c_X5_reason l hfl G cs ad (zt cs qo o qd d) σ a1  s.heap.size) (cwV 1 hts gL_reason_X5_reason rfl rfl rfl (by decide +kernel) ⟨Nat.le_of_ble_eq_true rfl, Nat.le_of_ble_eq_true rfl⟩) (zpv hE hP hD hS hA (zg_0 cs ad σ (zt cs qo o qd d)) rfl) rfl rfl hl.1 rfl (lv_room (Nat.le_of_ble_eq_true rfl)) dL_reason_4 ⟨Nat.le_of_ble_eq_true rfl, Nat.le_of_ble_eq_true rfl⟩) hD hS hA (fun c1 ce q9 H locs hP hD hS h1 h2 h3 => ?_) (fun c1 H locs hP hD hS => ?_)
  · have e2 : o1 = o := ho1.trans (if_neg c1)
    rw [e2]
    simp only [List.mem_cons, List.not_mem_nil, or_false] at hcd
    rcases hcd with q | q
    · exact absurd q c1
    · rw [q] at h3
      have e1 : rv = 1 := by rw [hrv, q]; rfl
      rw [e1]
      refine vx_catch (own := RL) (name := "java/util/NoSuchElementException") (E := "java/util/NoSuchElementException") hown [] ⟨0, 9, 12, 27⟩ [] htab (fun z hz => absurd hz List.not_mem_nil) (by decide) (by decide) (htc (.classLink RL 27 "java/util/NoSuchElementException") (by decide +kernel)) (va_Nw.use rfl (hE.2.1 _ (List.mem_of_getElem? (i := 6) rfl))) h1 h2 h3 ?_
      refine lv_astore_n (pc := 12) (lv' := [(3, .ref q9), (0, .ref (ad 0)), (1, .int a1), (2, .ref qo)]) hx hb dL_reason_12 rfl hl (by decide) rfl (fun ls hl => ?_)
      refine lv_iconst (v := 1) hx hb dL_reason_13 (by decide) ?_
      exact W.iret (v := 1) hx hb hr (fun t ht hW => ⟨⟨_, (), rfl, rfl, by rw [ht]; exact hP, hD⟩, hS.F ht⟩) hS.2.2 dL_reason_14
  · have e1 : rv = 0 := hrv.trans (if_pos c1)
    rw [e1]
    refine lv_i2l (v := (f_X5_reason σ a1).2.1.toInt64) hx hb dL_reason_7 rfl ?_
    have e2 : o1 = vp_updL o (0 : Int32).toNatClampNeg (f_X5_reason σ a1).2.1.toInt64 := ho1.trans ((if_pos c1).trans rfl)
    rw [e2]
    refine va_last hx hb hE.1 hP hD hS 51 3 rfl rfl z_in01 dL_reason_8 (fun H locs hP hD hS => ?_)
    have hP : va_P G vwCl (zw cs ad (f_X5_reason σ a1).2.2 (zt cs qo (vp_updL o (0 : Int32).toNatClampNeg (f_X5_reason σ a1).2.1.toInt64) qd d)) H := hP
    have hD : va_D A (zw cs ad (f_X5_reason σ a1).2.2 (zt cs qo (vp_updL o (0 : Int32).toNatClampNeg (f_X5_reason σ a1).2.1.toInt64) qd d)) := hD
    refine lv_goto (tgt := 15) hx hb dL_reason_9 (by decide) ?_
    refine lv_iconst (v := 0) hx hb dL_reason_15 (by decide) ?_
    exact W.iret (v := 0) hx hb hr (fun t ht hW => ⟨⟨_, (), rfl, rfl, by rw [ht]; exact hP, hD⟩, hS.F ht⟩) hS.2.2 dL_reason_16
theorem codes_X5_barredBy (σ : zS) (a1 : Int32) : (f_X5_barredBy σ a1).1 ∈ ([0, 4] : List Nat) := by
  unfold f_X5_barredBy
  by_cases c1 : (f_X5_checkProcedure σ a1) = 0
  · rw [if_pos c1]
    by_cases c2 : (f_X4_nextPlace σ a1) = (-1)
    · rw [if_pos c2]
      exact (show 4 ∈ ([0, 4] : List Nat) by decide)
    · rw [if_neg c2]
      by_cases c3 : (f_X3_firstOpenWith σ (f_X5_unitBit (f_X4_unitOf σ (f_X4_nextPlace σ a1)))) = (-1)
      · rw [if_pos c3]
        exact (show 4 ∈ ([0, 4] : List Nat) by decide)
      · rw [if_neg c3]
        exact (show 0 ∈ ([0, 4] : List Nat) by decide)
  · rw [if_neg c1]
    exact zmem (codes_X5_checkProcedure σ a1) (by decide)
def f_L_barredBy : Nat → Int32 := fun k => if k = 0 then 0 else if k = 4 then 1 else 9
def zws_barredBy : List Cond := .codeWith yL_barredBy cL_barredBy 4 (some .int) [(0, 9, 12, 27)] :: (zcl ++ wsL_barredBy)
set_option maxRecDepth 100000 in
theorem c_L_barredBy (l : Launch) (hfl : l.stackTraces = false) (G : va_G) (cs : Nat → ClassId) (ad : Nat → Nat) (qo : Nat) (o : Nat → Int64) (qd : Nat) (d : Nat → UInt64) (σ : zS) (a1 : Int32)  : zMi l yL_barredBy zws_barredBy { frames := 8, cells := 2, slots := 12, locals := 134 } G cs [.ref (ad 0), .int a1, .ref qo] (zw cs ad σ (zt cs qo o qd d)) (f_L_barredBy (f_X5_barredBy σ a1).1) (zw cs ad (f_X5_barredBy σ a1).2.2 (zt cs qo (zo (f_X5_barredBy σ a1).1 (f_X5_barredBy σ a1).2.1.toInt64 o) qd d)) 2 12 := by
  intro sz
  refine z_ofWH (cc := cL_barredBy) (maxL := 4) (ret := (some .int)) (hh := [(0, 9, 12, 27)]) (by decide) rfl ?_
  intro p e s m args below meth c s₁ B hml hv
  obtain ⟨rfl, hsz, hP, hD0, hE⟩ := hv
  have hx := B.exec
  have hb := B.bytes
  have hr := B.returns
  have hts1 := atoms_spec (ws := zws_barredBy) B.pre
  have htc : ∀ w ∈ zcl, w.before _ s = true := fun w h => hts1 w (List.mem_cons_of_mem _ (List.mem_append_left _ h))
  have hts : ∀ w ∈ wsL_barredBy, w.before _ s = true := fun w h => hts1 w (List.mem_cons_of_mem _ (List.mem_append_right _ h))
  have hown : s.vm.findClass RL = some m.cls := findClass_of_methodNamed B.named
  have hlocks := B.notSynchronized
  have htab := vx_table (x := yL_barredBy) B (hts1 _ List.mem_cons_self)
  subst hsz
  have hD := hD0.self (sz := s.heap.size)
  have hA : ∀ q : Nat, s.heap.size ≤ q → (va_A (zw cs ad σ (zt cs qo o qd d)) s.heap.size) q := fun q h => Or.inr h
  generalize va_A (zw cs ad σ (zt cs qo o qd d)) s.heap.size = A at hD hE hA ⊢
  have hS : va_S A s.heap s.heap [] := va_S.rf
  have hl := lv_entry ([.ref (ad 0), .int a1, .ref qo]) (n := 4) (Nat.le_of_ble_eq_true rfl)
  rw [lg_entry_eq]
  generalize (lg_sl ([.ref (ad 0), .int a1, .ref qo]) ++ List.replicate (4 - (lg_sl ([.ref (ad 0), .int a1, .ref qo])).length) Slot.unset).toArray = ls at hl ⊢
  have hl : lv_has ls 4 [(0, .ref (ad 0)), (1, .int a1), (2, .ref qo)] := hl
  have hcd := codes_X5_barredBy σ a1
  obtain ⟨rv, hrv⟩ : ∃ z, z = f_L_barredBy (f_X5_barredBy σ a1).1 := ⟨_, rfl⟩
  obtain ⟨o1, ho1⟩ : ∃ z, z = zo (f_X5_barredBy σ a1).1 (f_X5_barredBy σ a1).2.1.toInt64 o := ⟨_, rfl⟩
  rw [← hrv, ← ho1]
  refine lv_aload_n hx hb dL_barredBy_0 rfl (lv_at hl 2 rfl) ?_
  refine lv_iconst (v := 0) hx hb dL_barredBy_1 (by decide) ?_
  refine lv_aload_n hx hb dL_barredBy_2 rfl (lv_at hl 0 rfl) ?_
  refine lv_iload_n hx hb dL_barredBy_3 rfl (lv_at hl 1 rfl) ?_
  refine zaxi (vx_runV (As := [.int a1]) (rest := [.int 0, .ref qo]) ⟨hx, hb, hml, hown, hts⟩ (c_X5_barredBy l hfl G cs ad (zt cs qo o qd d) σ a1  s.heap.size) (cwV 1 hts gL_barredBy_X5_barredBy rfl rfl rfl (by decide +kernel) ⟨Nat.le_of_ble_eq_true rfl, Nat.le_of_ble_eq_true rfl⟩) (zpv hE hP hD hS hA (zg_0 cs ad σ (zt cs qo o qd d)) rfl) rfl rfl hl.1 rfl (lv_room (Nat.le_of_ble_eq_true rfl)) dL_barredBy_4 ⟨Nat.le_of_ble_eq_true rfl, Nat.le_of_ble_eq_true rfl⟩) hD hS hA (fun c1 ce q9 H locs hP hD hS h1 h2 h3 => ?_) (fun c1 H locs hP hD hS => ?_)
  · have e2 : o1 = o := ho1.trans (if_neg c1)
    rw [e2]
    simp only [List.mem_cons, List.not_mem_nil, or_false] at hcd
    rcases hcd with q | q
    · exact absurd q c1
    · rw [q] at h3
      have e1 : rv = 1 := by rw [hrv, q]; rfl
      rw [e1]
      refine vx_catch (own := RL) (name := "java/util/NoSuchElementException") (E := "java/util/NoSuchElementException") hown [] ⟨0, 9, 12, 27⟩ [] htab (fun z hz => absurd hz List.not_mem_nil) (by decide) (by decide) (htc (.classLink RL 27 "java/util/NoSuchElementException") (by decide +kernel)) (va_Nw.use rfl (hE.2.1 _ (List.mem_of_getElem? (i := 6) rfl))) h1 h2 h3 ?_
      refine lv_astore_n (pc := 12) (lv' := [(3, .ref q9), (0, .ref (ad 0)), (1, .int a1), (2, .ref qo)]) hx hb dL_barredBy_12 rfl hl (by decide) rfl (fun ls hl => ?_)
      refine lv_iconst (v := 1) hx hb dL_barredBy_13 (by decide) ?_
      exact W.iret (v := 1) hx hb hr (fun t ht hW => ⟨⟨_, (), rfl, rfl, by rw [ht]; exact hP, hD⟩, hS.F ht⟩) hS.2.2 dL_barredBy_14
  · have e1 : rv = 0 := hrv.trans (if_pos c1)
    rw [e1]
    refine lv_i2l (v := (f_X5_barredBy σ a1).2.1.toInt64) hx hb dL_barredBy_7 rfl ?_
    have e2 : o1 = vp_updL o (0 : Int32).toNatClampNeg (f_X5_barredBy σ a1).2.1.toInt64 := ho1.trans ((if_pos c1).trans rfl)
    rw [e2]
    refine va_last hx hb hE.1 hP hD hS 51 3 rfl rfl z_in01 dL_barredBy_8 (fun H locs hP hD hS => ?_)
    have hP : va_P G vwCl (zw cs ad (f_X5_barredBy σ a1).2.2 (zt cs qo (vp_updL o (0 : Int32).toNatClampNeg (f_X5_barredBy σ a1).2.1.toInt64) qd d)) H := hP
    have hD : va_D A (zw cs ad (f_X5_barredBy σ a1).2.2 (zt cs qo (vp_updL o (0 : Int32).toNatClampNeg (f_X5_barredBy σ a1).2.1.toInt64) qd d)) := hD
    refine lv_goto (tgt := 15) hx hb dL_barredBy_9 (by decide) ?_
    refine lv_iconst (v := 0) hx hb dL_barredBy_15 (by decide) ?_
    exact W.iret (v := 0) hx hb hr (fun t ht hW => ⟨⟨_, (), rfl, rfl, by rw [ht]; exact hP, hD⟩, hS.F ht⟩) hS.2.2 dL_barredBy_16
theorem codes_X5_step (σ : zS) (a1 : Int32) : (f_X5_step σ a1).1 ∈ ([0, 3, 4] : List Nat) := by
  unfold f_X5_step
  by_cases c1 : (f_X5_checkProcedure σ a1) = 0
  · rw [if_pos c1]
    by_cases c2 : (f_X5_reasonOf σ a1) = 45
    · rw [if_pos c2]
      exact (show 0 ∈ ([0, 3, 4] : List Nat) by decide)
    · rw [if_neg c2]
      exact (show 3 ∈ ([0, 3, 4] : List Nat) by decide)
  · rw [if_neg c1]
    exact zmem (codes_X5_checkProcedure σ a1) (by decide)
def f_L_step : Nat → Int32 := fun k => if k = 0 then 0 else if k = 4 then 1 else if k = 3 then 2 else 9
def zws_step : List Cond := .codeWith yL_step cL_step 4 (some .int) [(0, 9, 12, 27), (0, 9, 15, 21)] :: (zcl ++ wsL_step)
set_option maxRecDepth 100000 in
theorem c_L_step (l : Launch) (hfl : l.stackTraces = false) (G : va_G) (cs : Nat → ClassId) (ad : Nat → Nat) (qo : Nat) (o : Nat → Int64) (qd : Nat) (d : Nat → UInt64) (σ : zS) (a1 : Int32)  : zMi l yL_step zws_step { frames := 8, cells := 2, slots := 12, locals := 134 } G cs [.ref (ad 0), .int a1, .ref qo] (zw cs ad σ (zt cs qo o qd d)) (f_L_step (f_X5_step σ a1).1) (zw cs ad (f_X5_step σ a1).2.2 (zt cs qo (zo (f_X5_step σ a1).1 (f_X5_step σ a1).2.1.toInt64 o) qd d)) 2 12 := by
  intro sz
  refine z_ofWH (cc := cL_step) (maxL := 4) (ret := (some .int)) (hh := [(0, 9, 12, 27), (0, 9, 15, 21)]) (by decide) rfl ?_
  intro p e s m args below meth c s₁ B hml hv
  obtain ⟨rfl, hsz, hP, hD0, hE⟩ := hv
  have hx := B.exec
  have hb := B.bytes
  have hr := B.returns
  have hts1 := atoms_spec (ws := zws_step) B.pre
  have htc : ∀ w ∈ zcl, w.before _ s = true := fun w h => hts1 w (List.mem_cons_of_mem _ (List.mem_append_left _ h))
  have hts : ∀ w ∈ wsL_step, w.before _ s = true := fun w h => hts1 w (List.mem_cons_of_mem _ (List.mem_append_right _ h))
  have hown : s.vm.findClass RL = some m.cls := findClass_of_methodNamed B.named
  have hlocks := B.notSynchronized
  have htab := vx_table (x := yL_step) B (hts1 _ List.mem_cons_self)
  subst hsz
  have hD := hD0.self (sz := s.heap.size)
  have hA : ∀ q : Nat, s.heap.size ≤ q → (va_A (zw cs ad σ (zt cs qo o qd d)) s.heap.size) q := fun q h => Or.inr h
  generalize va_A (zw cs ad σ (zt cs qo o qd d)) s.heap.size = A at hD hE hA ⊢
  have hS : va_S A s.heap s.heap [] := va_S.rf
  have hl := lv_entry ([.ref (ad 0), .int a1, .ref qo]) (n := 4) (Nat.le_of_ble_eq_true rfl)
  rw [lg_entry_eq]
  generalize (lg_sl ([.ref (ad 0), .int a1, .ref qo]) ++ List.replicate (4 - (lg_sl ([.ref (ad 0), .int a1, .ref qo])).length) Slot.unset).toArray = ls at hl ⊢
  have hl : lv_has ls 4 [(0, .ref (ad 0)), (1, .int a1), (2, .ref qo)] := hl
  have hcd := codes_X5_step σ a1
  obtain ⟨rv, hrv⟩ : ∃ z, z = f_L_step (f_X5_step σ a1).1 := ⟨_, rfl⟩
  obtain ⟨o1, ho1⟩ : ∃ z, z = zo (f_X5_step σ a1).1 (f_X5_step σ a1).2.1.toInt64 o := ⟨_, rfl⟩
  rw [← hrv, ← ho1]
  refine lv_aload_n hx hb dL_step_0 rfl (lv_at hl 2 rfl) ?_
  refine lv_iconst (v := 0) hx hb dL_step_1 (by decide) ?_
  refine lv_aload_n hx hb dL_step_2 rfl (lv_at hl 0 rfl) ?_
  refine lv_iload_n hx hb dL_step_3 rfl (lv_at hl 1 rfl) ?_
  refine zaxi (vx_runV (As := [.int a1]) (rest := [.int 0, .ref qo]) ⟨hx, hb, hml, hown, hts⟩ (c_X5_step l hfl G cs ad (zt cs qo o qd d) σ a1  s.heap.size) (cwV 1 hts gL_step_X5_step rfl rfl rfl (by decide +kernel) ⟨Nat.le_of_ble_eq_true rfl, Nat.le_of_ble_eq_true rfl⟩) (zpv hE hP hD hS hA (zg_0 cs ad σ (zt cs qo o qd d)) rfl) rfl rfl hl.1 rfl (lv_room (Nat.le_of_ble_eq_true rfl)) dL_step_4 ⟨Nat.le_of_ble_eq_true rfl, Nat.le_of_ble_eq_true rfl⟩) hD hS hA (fun c1 ce q9 H locs hP hD hS h1 h2 h3 => ?_) (fun c1 H locs hP hD hS => ?_)
  · have e2 : o1 = o := ho1.trans (if_neg c1)
    rw [e2]
    simp only [List.mem_cons, List.not_mem_nil, or_false] at hcd
    rcases hcd with q | q | q
    · exact absurd q c1
    · rw [q] at h3
      have e1 : rv = 2 := by rw [hrv, q]; rfl
      rw [e1]
      refine vx_catch (own := RL) (name := "java/lang/IllegalStateException") (E := "java/lang/IllegalStateException") hown [⟨0, 9, 12, 27⟩] ⟨0, 9, 15, 21⟩ [] htab (fun z hz => by
        simp only [List.mem_cons, List.not_mem_nil, or_false] at hz
        rcases hz with rfl
        · exact Or.inr ⟨by decide, "java/util/NoSuchElementException", htc (.classLink RL 27 "java/util/NoSuchElementException") (by decide +kernel), hE.2.2.2.2.2 ("java/lang/IllegalStateException", "java/util/NoSuchElementException") (by decide +kernel)⟩) (by decide) (by decide) (htc (.classLink RL 21 "java/lang/IllegalStateException") (by decide +kernel)) (va_Nw.use rfl (hE.2.1 _ (List.mem_of_getElem? (i := 5) rfl))) h1 h2 h3 ?_
      refine lv_astore_n (pc := 15) (lv' := [(3, .ref q9), (0, .ref (ad 0)), (1, .int a1), (2, .ref qo)]) hx hb dL_step_15 rfl hl (by decide) rfl (fun ls hl => ?_)
      refine lv_iconst (v := 2) hx hb dL_step_16 (by decide) ?_
      exact W.iret (v := 2) hx hb hr (fun t ht hW => ⟨⟨_, (), rfl, rfl, by rw [ht]; exact hP, hD⟩, hS.F ht⟩) hS.2.2 dL_step_17
    · rw [q] at h3
      have e1 : rv = 1 := by rw [hrv, q]; rfl
      rw [e1]
      refine vx_catch (own := RL) (name := "java/util/NoSuchElementException") (E := "java/util/NoSuchElementException") hown [] ⟨0, 9, 12, 27⟩ [⟨0, 9, 15, 21⟩] htab (fun z hz => absurd hz List.not_mem_nil) (by decide) (by decide) (htc (.classLink RL 27 "java/util/NoSuchElementException") (by decide +kernel)) (va_Nw.use rfl (hE.2.1 _ (List.mem_of_getElem? (i := 6) rfl))) h1 h2 h3 ?_
      refine lv_astore_n (pc := 12) (lv' := [(3, .ref q9), (0, .ref (ad 0)), (1, .int a1), (2, .ref qo)]) hx hb dL_step_12 rfl hl (by decide) rfl (fun ls hl => ?_)
      refine lv_iconst (v := 1) hx hb dL_step_13 (by decide) ?_
      exact W.iret (v := 1) hx hb hr (fun t ht hW => ⟨⟨_, (), rfl, rfl, by rw [ht]; exact hP, hD⟩, hS.F ht⟩) hS.2.2 dL_step_14
  · have e1 : rv = 0 := hrv.trans (if_pos c1)
    rw [e1]
    refine lv_i2l (v := (f_X5_step σ a1).2.1.toInt64) hx hb dL_step_7 rfl ?_
    have e2 : o1 = vp_updL o (0 : Int32).toNatClampNeg (f_X5_step σ a1).2.1.toInt64 := ho1.trans ((if_pos c1).trans rfl)
    rw [e2]
    refine va_last hx hb hE.1 hP hD hS 51 3 rfl rfl z_in01 dL_step_8 (fun H locs hP hD hS => ?_)
    have hP : va_P G vwCl (zw cs ad (f_X5_step σ a1).2.2 (zt cs qo (vp_updL o (0 : Int32).toNatClampNeg (f_X5_step σ a1).2.1.toInt64) qd d)) H := hP
    have hD : va_D A (zw cs ad (f_X5_step σ a1).2.2 (zt cs qo (vp_updL o (0 : Int32).toNatClampNeg (f_X5_step σ a1).2.1.toInt64) qd d)) := hD
    refine lv_goto (tgt := 18) hx hb dL_step_9 (by decide) ?_
    refine lv_iconst (v := 0) hx hb dL_step_18 (by decide) ?_
    exact W.iret (v := 0) hx hb hr (fun t ht hW => ⟨⟨_, (), rfl, rfl, by rw [ht]; exact hP, hD⟩, hS.F ht⟩) hS.2.2 dL_step_19
theorem codes_X5_checkAtWork (σ : zS)  : (f_X5_checkAtWork σ ) ∈ ([0, 3] : List Nat) := by
  unfold f_X5_checkAtWork
  by_cases c1 : (f_X1_isAtWork σ ) = 0
  · rw [if_pos c1]
    exact (show 3 ∈ ([0, 3] : List Nat) by decide)
  · rw [if_neg c1]
    exact (show 0 ∈ ([0, 3] : List Nat) by decide)
theorem codes_X5_undo (σ : zS) (a1 : Int32) : (f_X5_undo σ a1).1 ∈ ([0, 3, 4, 5] : List Nat) := by
  unfold f_X5_undo
  by_cases c1 : (f_X5_checkProcedure σ a1) = 0
  · rw [if_pos c1]
    by_cases c2 : (f_X4_lastDonePlace σ a1) = (-1)
    · rw [if_pos c2]
      exact (show 3 ∈ ([0, 3, 4, 5] : List Nat) by decide)
    · rw [if_neg c2]
      by_cases c3 : (f_X5_checkAtWork σ ) = 0
      · rw [if_pos c3]
        by_cases c4 : (f_X5_checkRoomForLine σ ) = 0
        · rw [if_pos c4]
          by_cases c5 : (f_X5_stateOf σ (f_X4_unitOf σ (f_X4_lastDonePlace σ a1))) = (f_X4_newStateOf σ (f_X4_lastDonePlace σ a1))
          · rw [if_pos c5]
            by_cases c6 : (f_X3_firstOpenWith σ (f_X5_unitBit (f_X4_unitOf σ (f_X4_lastDonePlace σ a1)))) = (-1)
            · rw [if_pos c6]
              exact (show 0 ∈ ([0, 3, 4, 5] : List Nat) by decide)
            · rw [if_neg c6]
              exact (show 5 ∈ ([0, 3, 4, 5] : List Nat) by decide)
          · rw [if_neg c5]
            exact (show 5 ∈ ([0, 3, 4, 5] : List Nat) by decide)
        · rw [if_neg c4]
          exact zmem (codes_X5_checkRoomForLine σ ) (by decide)
      · rw [if_neg c3]
        exact zmem (codes_X5_checkAtWork σ ) (by decide)
  · rw [if_neg c1]
    exact zmem (codes_X5_checkProcedure σ a1) (by decide)
def f_L_undo : Nat → Int32 := fun k => if k = 0 then 0 else if k = 4 then 1 else if k = 3 then 2 else if k = 5 then 3 else 9
def zws_undo : List Cond := .codeWith yL_undo cL_undo 4 (some .int) [(0, 9, 12, 27), (0, 9, 15, 21), (0, 9, 18, 66)] :: (zcl ++ wsL_undo)
set_option maxRecDepth 100000 in
theorem c_L_undo (l : Launch) (hfl : l.stackTraces = false) (G : va_G) (cs : Nat → ClassId) (ad : Nat → Nat) (qo : Nat) (o : Nat → Int64) (qd : Nat) (d : Nat → UInt64) (σ : zS) (a1 : Int32)  : zMi l yL_undo zws_undo { frames := 8, cells := 4, slots := 24, locals := 135 } G cs [.ref (ad 0), .int a1, .ref qo] (zw cs ad σ (zt cs qo o qd d)) (f_L_undo (f_X5_undo σ a1).1) (zw cs ad (f_X5_undo σ a1).2.2 (zt cs qo (zo (f_X5_undo σ a1).1 (f_X5_undo σ a1).2.1.toInt64 o) qd d)) 4 24 := by
  intro sz
  refine z_ofWH (cc := cL_undo) (maxL := 4) (ret := (some .int)) (hh := [(0, 9, 12, 27), (0, 9, 15, 21), (0, 9, 18, 66)]) (by decide) rfl ?_
  intro p e s m args below meth c s₁ B hml hv
  obtain ⟨rfl, hsz, hP, hD0, hE⟩ := hv
  have hx := B.exec
  have hb := B.bytes
  have hr := B.returns
  have hts1 := atoms_spec (ws := zws_undo) B.pre
  have htc : ∀ w ∈ zcl, w.before _ s = true := fun w h => hts1 w (List.mem_cons_of_mem _ (List.mem_append_left _ h))
  have hts : ∀ w ∈ wsL_undo, w.before _ s = true := fun w h => hts1 w (List.mem_cons_of_mem _ (List.mem_append_right _ h))
  have hown : s.vm.findClass RL = some m.cls := findClass_of_methodNamed B.named
  have hlocks := B.notSynchronized
  have htab := vx_table (x := yL_undo) B (hts1 _ List.mem_cons_self)
  subst hsz
  have hD := hD0.self (sz := s.heap.size)
  have hA : ∀ q : Nat, s.heap.size ≤ q → (va_A (zw cs ad σ (zt cs qo o qd d)) s.heap.size) q := fun q h => Or.inr h
  generalize va_A (zw cs ad σ (zt cs qo o qd d)) s.heap.size = A at hD hE hA ⊢
  have hS : va_S A s.heap s.heap [] := va_S.rf
  have hl := lv_entry ([.ref (ad 0), .int a1, .ref qo]) (n := 4) (Nat.le_of_ble_eq_true rfl)
  rw [lg_entry_eq]
  generalize (lg_sl ([.ref (ad 0), .int a1, .ref qo]) ++ List.replicate (4 - (lg_sl ([.ref (ad 0), .int a1, .ref qo])).length) Slot.unset).toArray = ls at hl ⊢
  have hl : lv_has ls 4 [(0, .ref (ad 0)), (1, .int a1), (2, .ref qo)] := hl
  have hcd := codes_X5_undo σ a1
  obtain ⟨rv, hrv⟩ : ∃ z, z = f_L_undo (f_X5_undo σ a1).1 := ⟨_, rfl⟩
  obtain ⟨o1, ho1⟩ : ∃ z, z = zo (f_X5_undo σ a1).1 (f_X5_undo σ a1).2.1.toInt64 o := ⟨_, rfl⟩
  rw [← hrv, ← ho1]
  refine lv_aload_n hx hb dL_undo_0 rfl (lv_at hl 2 rfl) ?_
  refine lv_iconst (v := 0) hx hb dL_undo_1 (by decide) ?_
  refine lv_aload_n hx hb dL_undo_2 rfl (lv_at hl 0 rfl) ?_
  refine lv_iload_n hx hb dL_undo_3 rfl (lv_at hl 1 rfl) ?_
  refine zaxi (vx_runV (As := [.int a1]) (rest := [.int 0, .ref qo]) ⟨hx, hb, hml, hown, hts⟩ (c_X5_undo l hfl G cs ad (zt cs qo o qd d) σ a1  s.heap.size) (cwV 1 hts gL_undo_X5_undo rfl rfl rfl (by decide +kernel) ⟨Nat.le_of_ble_eq_true rfl, Nat.le_of_ble_eq_true rfl⟩) (zpv hE hP hD hS hA (zg_0 cs ad σ (zt cs qo o qd d)) rfl) rfl rfl hl.1 rfl (lv_room (Nat.le_of_ble_eq_true rfl)) dL_undo_4 ⟨Nat.le_of_ble_eq_true rfl, Nat.le_of_ble_eq_true rfl⟩) hD hS hA (fun c1 ce q9 H locs hP hD hS h1 h2 h3 => ?_) (fun c1 H locs hP hD hS => ?_)
  · have e2 : o1 = o := ho1.trans (if_neg c1)
    rw [e2]
    simp only [List.mem_cons, List.not_mem_nil, or_false] at hcd
    rcases hcd with q | q | q | q
    · exact absurd q c1
    · rw [q] at h3
      have e1 : rv = 2 := by rw [hrv, q]; rfl
      rw [e1]
      refine vx_catch (own := RL) (name := "java/lang/IllegalStateException") (E := "java/lang/IllegalStateException") hown [⟨0, 9, 12, 27⟩] ⟨0, 9, 15, 21⟩ [⟨0, 9, 18, 66⟩] htab (fun z hz => by
        simp only [List.mem_cons, List.not_mem_nil, or_false] at hz
        rcases hz with rfl
        · exact Or.inr ⟨by decide, "java/util/NoSuchElementException", htc (.classLink RL 27 "java/util/NoSuchElementException") (by decide +kernel), hE.2.2.2.2.2 ("java/lang/IllegalStateException", "java/util/NoSuchElementException") (by decide +kernel)⟩) (by decide) (by decide) (htc (.classLink RL 21 "java/lang/IllegalStateException") (by decide +kernel)) (va_Nw.use rfl (hE.2.1 _ (List.mem_of_getElem? (i := 5) rfl))) h1 h2 h3 ?_
      refine lv_astore_n (pc := 15) (lv' := [(3, .ref q9), (0, .ref (ad 0)), (1, .int a1), (2, .ref qo)]) hx hb dL_undo_15 rfl hl (by decide) rfl (fun ls hl => ?_)
      refine lv_iconst (v := 2) hx hb dL_undo_16 (by decide) ?_
      exact W.iret (v := 2) hx hb hr (fun t ht hW => ⟨⟨_, (), rfl, rfl, by rw [ht]; exact hP, hD⟩, hS.F ht⟩) hS.2.2 dL_undo_17
    · rw [q] at h3
      have e1 : rv = 1 := by rw [hrv, q]; rfl
      rw [e1]
      refine vx_catch (own := RL) (name := "java/util/NoSuchElementException") (E := "java/util/NoSuchElementException") hown [] ⟨0, 9, 12, 27⟩ [⟨0, 9, 15, 21⟩, ⟨0, 9, 18, 66⟩] htab (fun z hz => absurd hz List.not_mem_nil) (by decide) (by decide) (htc (.classLink RL 27 "java/util/NoSuchElementException") (by decide +kernel)) (va_Nw.use rfl (hE.2.1 _ (List.mem_of_getElem? (i := 6) rfl))) h1 h2 h3 ?_
      refine lv_astore_n (pc := 12) (lv' := [(3, .ref q9), (0, .ref (ad 0)), (1, .int a1), (2, .ref qo)]) hx hb dL_undo_12 rfl hl (by decide) rfl (fun ls hl => ?_)
      refine lv_iconst (v := 1) hx hb dL_undo_13 (by decide) ?_
      exact W.iret (v := 1) hx hb hr (fun t ht hW => ⟨⟨_, (), rfl, rfl, by rw [ht]; exact hP, hD⟩, hS.F ht⟩) hS.2.2 dL_undo_14
    · rw [q] at h3
      have e1 : rv = 3 := by rw [hrv, q]; rfl
      rw [e1]
      refine vx_catch (own := RL) (name := "java/lang/UnsupportedOperationException") (E := "java/lang/UnsupportedOperationException") hown [⟨0, 9, 12, 27⟩, ⟨0, 9, 15, 21⟩] ⟨0, 9, 18, 66⟩ [] htab (fun z hz => by
        simp only [List.mem_cons, List.not_mem_nil, or_false] at hz
        rcases hz with rfl | rfl
        · exact Or.inr ⟨by decide, "java/util/NoSuchElementException", htc (.classLink RL 27 "java/util/NoSuchElementException") (by decide +kernel), hE.2.2.2.2.2 ("java/lang/UnsupportedOperationException", "java/util/NoSuchElementException") (by decide +kernel)⟩
        · exact Or.inr ⟨by decide, "java/lang/IllegalStateException", htc (.classLink RL 21 "java/lang/IllegalStateException") (by decide +kernel), hE.2.2.2.2.2 ("java/lang/UnsupportedOperationException", "java/lang/IllegalStateException") (by decide +kernel)⟩) (by decide) (by decide) (htc (.classLink RL 66 "java/lang/UnsupportedOperationException") (by decide +kernel)) (va_Nw.use rfl (hE.2.1 _ (List.mem_of_getElem? (i := 7) rfl))) h1 h2 h3 ?_
      refine lv_astore_n (pc := 18) (lv' := [(3, .ref q9), (0, .ref (ad 0)), (1, .int a1), (2, .ref qo)]) hx hb dL_undo_18 rfl hl (by decide) rfl (fun ls hl => ?_)
      refine lv_iconst (v := 3) hx hb dL_undo_19 (by decide) ?_
      exact W.iret (v := 3) hx hb hr (fun t ht hW => ⟨⟨_, (), rfl, rfl, by rw [ht]; exact hP, hD⟩, hS.F ht⟩) hS.2.2 dL_undo_20
  · have e1 : rv = 0 := hrv.trans (if_pos c1)
    rw [e1]
    refine lv_i2l (v := (f_X5_undo σ a1).2.1.toInt64) hx hb dL_undo_7 rfl ?_
    have e2 : o1 = vp_updL o (0 : Int32).toNatClampNeg (f_X5_undo σ a1).2.1.toInt64 := ho1.trans ((if_pos c1).trans rfl)
    rw [e2]
    refine va_last hx hb hE.1 hP hD hS 51 3 rfl rfl z_in01 dL_undo_8 (fun H locs hP hD hS => ?_)
    have hP : va_P G vwCl (zw cs ad (f_X5_undo σ a1).2.2 (zt cs qo (vp_updL o (0 : Int32).toNatClampNeg (f_X5_undo σ a1).2.1.toInt64) qd d)) H := hP
    have hD : va_D A (zw cs ad (f_X5_undo σ a1).2.2 (zt cs qo (vp_updL o (0 : Int32).toNatClampNeg (f_X5_undo σ a1).2.1.toInt64) qd d)) := hD
    refine lv_goto (tgt := 21) hx hb dL_undo_9 (by decide) ?_
    refine lv_iconst (v := 0) hx hb dL_undo_21 (by decide) ?_
    exact W.iret (v := 0) hx hb hr (fun t ht hW => ⟨⟨_, (), rfl, rfl, by rw [ht]; exact hP, hD⟩, hS.F ht⟩) hS.2.2 dL_undo_22
theorem codes_X5_reset (σ : zS) (a1 : Int32) : (f_X5_reset σ a1).1 ∈ ([0, 3, 4] : List Nat) := by
  unfold f_X5_reset
  by_cases c1 : (f_X5_checkProcedure σ a1) = 0
  · rw [if_pos c1]
    by_cases c2 : (f_X5_checkAtWork σ ) = 0
    · rw [if_pos c2]
      exact (show _ ∈ ([0, 3, 4] : List Nat) from by rw [loop0_reset]; decide)
    · rw [if_neg c2]
      exact zmem (codes_X5_checkAtWork σ ) (by decide)
  · rw [if_neg c1]
    exact zmem (codes_X5_checkProcedure σ a1) (by decide)
def f_L_reset : Nat → Int32 := fun k => if k = 0 then 0 else if k = 4 then 1 else if k = 3 then 2 else 9
def zws_reset : List Cond := .codeWith yL_reset cL_reset 4 (some .int) [(0, 9, 12, 27), (0, 9, 15, 21)] :: (zcl ++ wsL_reset)
set_option maxRecDepth 100000 in
theorem c_L_reset (l : Launch) (hfl : l.stackTraces = false) (G : va_G) (cs : Nat → ClassId) (ad : Nat → Nat) (qo : Nat) (o : Nat → Int64) (qd : Nat) (d : Nat → UInt64) (σ : zS) (a1 : Int32)  : zMi l yL_reset zws_reset { frames := 8, cells := 2, slots := 12, locals := 134 } G cs [.ref (ad 0), .int a1, .ref qo] (zw cs ad σ (zt cs qo o qd d)) (f_L_reset (f_X5_reset σ a1).1) (zw cs ad (f_X5_reset σ a1).2.2 (zt cs qo (zo (f_X5_reset σ a1).1 (f_X5_reset σ a1).2.1.toInt64 o) qd d)) 2 12 := by
  intro sz
  refine z_ofWH (cc := cL_reset) (maxL := 4) (ret := (some .int)) (hh := [(0, 9, 12, 27), (0, 9, 15, 21)]) (by decide) rfl ?_
  intro p e s m args below meth c s₁ B hml hv
  obtain ⟨rfl, hsz, hP, hD0, hE⟩ := hv
  have hx := B.exec
  have hb := B.bytes
  have hr := B.returns
  have hts1 := atoms_spec (ws := zws_reset) B.pre
  have htc : ∀ w ∈ zcl, w.before _ s = true := fun w h => hts1 w (List.mem_cons_of_mem _ (List.mem_append_left _ h))
  have hts : ∀ w ∈ wsL_reset, w.before _ s = true := fun w h => hts1 w (List.mem_cons_of_mem _ (List.mem_append_right _ h))
  have hown : s.vm.findClass RL = some m.cls := findClass_of_methodNamed B.named
  have hlocks := B.notSynchronized
  have htab := vx_table (x := yL_reset) B (hts1 _ List.mem_cons_self)
  subst hsz
  have hD := hD0.self (sz := s.heap.size)
  have hA : ∀ q : Nat, s.heap.size ≤ q → (va_A (zw cs ad σ (zt cs qo o qd d)) s.heap.size) q := fun q h => Or.inr h
  generalize va_A (zw cs ad σ (zt cs qo o qd d)) s.heap.size = A at hD hE hA ⊢
  have hS : va_S A s.heap s.heap [] := va_S.rf
  have hl := lv_entry ([.ref (ad 0), .int a1, .ref qo]) (n := 4) (Nat.le_of_ble_eq_true rfl)
  rw [lg_entry_eq]
  generalize (lg_sl ([.ref (ad 0), .int a1, .ref qo]) ++ List.replicate (4 - (lg_sl ([.ref (ad 0), .int a1, .ref qo])).length) Slot.unset).toArray = ls at hl ⊢
  have hl : lv_has ls 4 [(0, .ref (ad 0)), (1, .int a1), (2, .ref qo)] := hl
  have hcd := codes_X5_reset σ a1
  obtain ⟨rv, hrv⟩ : ∃ z, z = f_L_reset (f_X5_reset σ a1).1 := ⟨_, rfl⟩
  obtain ⟨o1, ho1⟩ : ∃ z, z = zo (f_X5_reset σ a1).1 (f_X5_reset σ a1).2.1.toInt64 o := ⟨_, rfl⟩
  rw [← hrv, ← ho1]
  refine lv_aload_n hx hb dL_reset_0 rfl (lv_at hl 2 rfl) ?_
  refine lv_iconst (v := 0) hx hb dL_reset_1 (by decide) ?_
  refine lv_aload_n hx hb dL_reset_2 rfl (lv_at hl 0 rfl) ?_
  refine lv_iload_n hx hb dL_reset_3 rfl (lv_at hl 1 rfl) ?_
  refine zaxi (vx_runV (As := [.int a1]) (rest := [.int 0, .ref qo]) ⟨hx, hb, hml, hown, hts⟩ (c_X5_reset l hfl G cs ad (zt cs qo o qd d) σ a1  s.heap.size) (cwV 1 hts gL_reset_X5_reset rfl rfl rfl (by decide +kernel) ⟨Nat.le_of_ble_eq_true rfl, Nat.le_of_ble_eq_true rfl⟩) (zpv hE hP hD hS hA (zg_0 cs ad σ (zt cs qo o qd d)) rfl) rfl rfl hl.1 rfl (lv_room (Nat.le_of_ble_eq_true rfl)) dL_reset_4 ⟨Nat.le_of_ble_eq_true rfl, Nat.le_of_ble_eq_true rfl⟩) hD hS hA (fun c1 ce q9 H locs hP hD hS h1 h2 h3 => ?_) (fun c1 H locs hP hD hS => ?_)
  · have e2 : o1 = o := ho1.trans (if_neg c1)
    rw [e2]
    simp only [List.mem_cons, List.not_mem_nil, or_false] at hcd
    rcases hcd with q | q | q
    · exact absurd q c1
    · rw [q] at h3
      have e1 : rv = 2 := by rw [hrv, q]; rfl
      rw [e1]
      refine vx_catch (own := RL) (name := "java/lang/IllegalStateException") (E := "java/lang/IllegalStateException") hown [⟨0, 9, 12, 27⟩] ⟨0, 9, 15, 21⟩ [] htab (fun z hz => by
        simp only [List.mem_cons, List.not_mem_nil, or_false] at hz
        rcases hz with rfl
        · exact Or.inr ⟨by decide, "java/util/NoSuchElementException", htc (.classLink RL 27 "java/util/NoSuchElementException") (by decide +kernel), hE.2.2.2.2.2 ("java/lang/IllegalStateException", "java/util/NoSuchElementException") (by decide +kernel)⟩) (by decide) (by decide) (htc (.classLink RL 21 "java/lang/IllegalStateException") (by decide +kernel)) (va_Nw.use rfl (hE.2.1 _ (List.mem_of_getElem? (i := 5) rfl))) h1 h2 h3 ?_
      refine lv_astore_n (pc := 15) (lv' := [(3, .ref q9), (0, .ref (ad 0)), (1, .int a1), (2, .ref qo)]) hx hb dL_reset_15 rfl hl (by decide) rfl (fun ls hl => ?_)
      refine lv_iconst (v := 2) hx hb dL_reset_16 (by decide) ?_
      exact W.iret (v := 2) hx hb hr (fun t ht hW => ⟨⟨_, (), rfl, rfl, by rw [ht]; exact hP, hD⟩, hS.F ht⟩) hS.2.2 dL_reset_17
    · rw [q] at h3
      have e1 : rv = 1 := by rw [hrv, q]; rfl
      rw [e1]
      refine vx_catch (own := RL) (name := "java/util/NoSuchElementException") (E := "java/util/NoSuchElementException") hown [] ⟨0, 9, 12, 27⟩ [⟨0, 9, 15, 21⟩] htab (fun z hz => absurd hz List.not_mem_nil) (by decide) (by decide) (htc (.classLink RL 27 "java/util/NoSuchElementException") (by decide +kernel)) (va_Nw.use rfl (hE.2.1 _ (List.mem_of_getElem? (i := 6) rfl))) h1 h2 h3 ?_
      refine lv_astore_n (pc := 12) (lv' := [(3, .ref q9), (0, .ref (ad 0)), (1, .int a1), (2, .ref qo)]) hx hb dL_reset_12 rfl hl (by decide) rfl (fun ls hl => ?_)
      refine lv_iconst (v := 1) hx hb dL_reset_13 (by decide) ?_
      exact W.iret (v := 1) hx hb hr (fun t ht hW => ⟨⟨_, (), rfl, rfl, by rw [ht]; exact hP, hD⟩, hS.F ht⟩) hS.2.2 dL_reset_14
  · have e1 : rv = 0 := hrv.trans (if_pos c1)
    rw [e1]
    refine lv_i2l (v := (f_X5_reset σ a1).2.1.toInt64) hx hb dL_reset_7 rfl ?_
    have e2 : o1 = vp_updL o (0 : Int32).toNatClampNeg (f_X5_reset σ a1).2.1.toInt64 := ho1.trans ((if_pos c1).trans rfl)
    rw [e2]
    refine va_last hx hb hE.1 hP hD hS 51 3 rfl rfl z_in01 dL_reset_8 (fun H locs hP hD hS => ?_)
    have hP : va_P G vwCl (zw cs ad (f_X5_reset σ a1).2.2 (zt cs qo (vp_updL o (0 : Int32).toNatClampNeg (f_X5_reset σ a1).2.1.toInt64) qd d)) H := hP
    have hD : va_D A (zw cs ad (f_X5_reset σ a1).2.2 (zt cs qo (vp_updL o (0 : Int32).toNatClampNeg (f_X5_reset σ a1).2.1.toInt64) qd d)) := hD
    refine lv_goto (tgt := 18) hx hb dL_reset_9 (by decide) ?_
    refine lv_iconst (v := 0) hx hb dL_reset_18 (by decide) ?_
    exact W.iret (v := 0) hx hb hr (fun t ht hW => ⟨⟨_, (), rfl, rfl, by rw [ht]; exact hP, hD⟩, hS.F ht⟩) hS.2.2 dL_reset_19
theorem codes_X5_drill (σ : zS)  : (f_X5_drill σ ).1 ∈ ([0, 4] : List Nat) := by
  unfold f_X5_drill
  by_cases c1 : (f_X4_longestNotTaken σ ) = (-1)
  · rw [if_pos c1]
    exact (show 4 ∈ ([0, 4] : List Nat) by decide)
  · rw [if_neg c1]
    exact (show 0 ∈ ([0, 4] : List Nat) by decide)
def f_L_drill : Nat → Int32 := fun k => if k = 0 then 0 else if k = 4 then 1 else 9
def zws_drill : List Cond := .codeWith yL_drill cL_drill 3 (some .int) [(0, 8, 11, 27)] :: (zcl ++ wsL_drill)
set_option maxRecDepth 100000 in
theorem c_L_drill (l : Launch) (hfl : l.stackTraces = false) (G : va_G) (cs : Nat → ClassId) (ad : Nat → Nat) (qo : Nat) (o : Nat → Int64) (qd : Nat) (d : Nat → UInt64) (σ : zS)   : zMi l yL_drill zws_drill { frames := 7, cells := 1, slots := 6, locals := 111 } G cs [.ref (ad 0), .ref qo] (zw cs ad σ (zt cs qo o qd d)) (f_L_drill (f_X5_drill σ ).1) (zw cs ad (f_X5_drill σ ).2.2 (zt cs qo (zo (f_X5_drill σ ).1 (f_X5_drill σ ).2.1.toInt64 o) qd d)) 1 6 := by
  intro sz
  refine z_ofWH (cc := cL_drill) (maxL := 3) (ret := (some .int)) (hh := [(0, 8, 11, 27)]) (by decide) rfl ?_
  intro p e s m args below meth c s₁ B hml hv
  obtain ⟨rfl, hsz, hP, hD0, hE⟩ := hv
  have hx := B.exec
  have hb := B.bytes
  have hr := B.returns
  have hts1 := atoms_spec (ws := zws_drill) B.pre
  have htc : ∀ w ∈ zcl, w.before _ s = true := fun w h => hts1 w (List.mem_cons_of_mem _ (List.mem_append_left _ h))
  have hts : ∀ w ∈ wsL_drill, w.before _ s = true := fun w h => hts1 w (List.mem_cons_of_mem _ (List.mem_append_right _ h))
  have hown : s.vm.findClass RL = some m.cls := findClass_of_methodNamed B.named
  have hlocks := B.notSynchronized
  have htab := vx_table (x := yL_drill) B (hts1 _ List.mem_cons_self)
  subst hsz
  have hD := hD0.self (sz := s.heap.size)
  have hA : ∀ q : Nat, s.heap.size ≤ q → (va_A (zw cs ad σ (zt cs qo o qd d)) s.heap.size) q := fun q h => Or.inr h
  generalize va_A (zw cs ad σ (zt cs qo o qd d)) s.heap.size = A at hD hE hA ⊢
  have hS : va_S A s.heap s.heap [] := va_S.rf
  have hl := lv_entry ([.ref (ad 0), .ref qo]) (n := 3) (Nat.le_of_ble_eq_true rfl)
  rw [lg_entry_eq]
  generalize (lg_sl ([.ref (ad 0), .ref qo]) ++ List.replicate (3 - (lg_sl ([.ref (ad 0), .ref qo])).length) Slot.unset).toArray = ls at hl ⊢
  have hl : lv_has ls 3 [(0, .ref (ad 0)), (1, .ref qo)] := hl
  have hcd := codes_X5_drill σ 
  obtain ⟨rv, hrv⟩ : ∃ z, z = f_L_drill (f_X5_drill σ ).1 := ⟨_, rfl⟩
  obtain ⟨o1, ho1⟩ : ∃ z, z = zo (f_X5_drill σ ).1 (f_X5_drill σ ).2.1.toInt64 o := ⟨_, rfl⟩
  rw [← hrv, ← ho1]
  refine lv_aload_n hx hb dL_drill_0 rfl (lv_at hl 1 rfl) ?_
  refine lv_iconst (v := 0) hx hb dL_drill_1 (by decide) ?_
  refine lv_aload_n hx hb dL_drill_2 rfl (lv_at hl 0 rfl) ?_
  refine zaxi (vx_runV (As := []) (rest := [.int 0, .ref qo]) ⟨hx, hb, hml, hown, hts⟩ (c_X5_drill l hfl G cs ad (zt cs qo o qd d) σ   s.heap.size) (cwV 0 hts gL_drill_X5_drill rfl rfl rfl (by decide +kernel) ⟨Nat.le_of_ble_eq_true rfl, Nat.le_of_ble_eq_true rfl⟩) (zpv hE hP hD hS hA (zg_0 cs ad σ (zt cs qo o qd d)) rfl) rfl rfl hl.1 rfl (lv_room (Nat.le_of_ble_eq_true rfl)) dL_drill_3 ⟨Nat.le_of_ble_eq_true rfl, Nat.le_of_ble_eq_true rfl⟩) hD hS hA (fun c1 ce q9 H locs hP hD hS h1 h2 h3 => ?_) (fun c1 H locs hP hD hS => ?_)
  · have e2 : o1 = o := ho1.trans (if_neg c1)
    rw [e2]
    simp only [List.mem_cons, List.not_mem_nil, or_false] at hcd
    rcases hcd with q | q
    · exact absurd q c1
    · rw [q] at h3
      have e1 : rv = 1 := by rw [hrv, q]; rfl
      rw [e1]
      refine vx_catch (own := RL) (name := "java/util/NoSuchElementException") (E := "java/util/NoSuchElementException") hown [] ⟨0, 8, 11, 27⟩ [] htab (fun z hz => absurd hz List.not_mem_nil) (by decide) (by decide) (htc (.classLink RL 27 "java/util/NoSuchElementException") (by decide +kernel)) (va_Nw.use rfl (hE.2.1 _ (List.mem_of_getElem? (i := 6) rfl))) h1 h2 h3 ?_
      refine lv_astore_n (pc := 11) (lv' := [(2, .ref q9), (0, .ref (ad 0)), (1, .ref qo)]) hx hb dL_drill_11 rfl hl (by decide) rfl (fun ls hl => ?_)
      refine lv_iconst (v := 1) hx hb dL_drill_12 (by decide) ?_
      exact W.iret (v := 1) hx hb hr (fun t ht hW => ⟨⟨_, (), rfl, rfl, by rw [ht]; exact hP, hD⟩, hS.F ht⟩) hS.2.2 dL_drill_13
  · have e1 : rv = 0 := hrv.trans (if_pos c1)
    rw [e1]
    refine lv_i2l (v := (f_X5_drill σ ).2.1.toInt64) hx hb dL_drill_6 rfl ?_
    have e2 : o1 = vp_updL o (0 : Int32).toNatClampNeg (f_X5_drill σ ).2.1.toInt64 := ho1.trans ((if_pos c1).trans rfl)
    rw [e2]
    refine va_last hx hb hE.1 hP hD hS 51 3 rfl rfl z_in01 dL_drill_7 (fun H locs hP hD hS => ?_)
    have hP : va_P G vwCl (zw cs ad (f_X5_drill σ ).2.2 (zt cs qo (vp_updL o (0 : Int32).toNatClampNeg (f_X5_drill σ ).2.1.toInt64) qd d)) H := hP
    have hD : va_D A (zw cs ad (f_X5_drill σ ).2.2 (zt cs qo (vp_updL o (0 : Int32).toNatClampNeg (f_X5_drill σ ).2.1.toInt64) qd d)) := hD
    refine lv_goto (tgt := 14) hx hb dL_drill_8 (by decide) ?_
    refine lv_iconst (v := 0) hx hb dL_drill_14 (by decide) ?_
    exact W.iret (v := 0) hx hb hr (fun t ht hW => ⟨⟨_, (), rfl, rfl, by rw [ht]; exact hP, hD⟩, hS.F ht⟩) hS.2.2 dL_drill_15
theorem codes_X5_openPermit (σ : zS) (a1 : Int32) : (f_X5_openPermit σ a1).1 ∈ ([0, 2, 3, 5] : List Nat) := by
  unfold f_X5_openPermit
  by_cases c1 : a1 < 1
  · rw [if_pos c1]
    exact (show 2 ∈ ([0, 2, 3, 5] : List Nat) by decide)
  · rw [if_neg c1]
    by_cases c2 : a1 ≤ 255
    · rw [if_pos c2]
      by_cases c3 : (f_X5_checkAtWork σ ) = 0
      · rw [if_pos c3]
        by_cases c4 : (f_X3_isFull σ ) = 0
        · rw [if_pos c4]
          by_cases c5 : (f_X5_checkRoomForLine σ ) = 0
          · rw [if_pos c5]
            by_cases c6 : (f_X3_firstOpenWith σ a1) = (-1)
            · rw [if_pos c6]
              by_cases c7 : (f_X1_isWeary σ (σ 0 6)) = 0
              · rw [if_pos c7]
                exact (show 0 ∈ ([0, 2, 3, 5] : List Nat) by decide)
              · rw [if_neg c7]
                exact (show 5 ∈ ([0, 2, 3, 5] : List Nat) by decide)
            · rw [if_neg c6]
              exact (show 5 ∈ ([0, 2, 3, 5] : List Nat) by decide)
          · rw [if_neg c5]
            exact zmem (codes_X5_checkRoomForLine σ ) (by decide)
        · rw [if_neg c4]
          exact (show 3 ∈ ([0, 2, 3, 5] : List Nat) by decide)
      · rw [if_neg c3]
        exact zmem (codes_X5_checkAtWork σ ) (by decide)
    · rw [if_neg c2]
      exact (show 2 ∈ ([0, 2, 3, 5] : List Nat) by decide)
def f_L_openPermit : Nat → Int32 := fun k => if k = 0 then 0 else if k = 2 then 1 else if k = 3 then 2 else if k = 5 then 3 else 9
def zws_openPermit : List Cond := .codeWith yL_openPermit cL_openPermit 4 (some .int) [(0, 9, 12, 19), (0, 9, 15, 21), (0, 9, 18, 66)] :: (zcl ++ wsL_openPermit)
set_option maxRecDepth 100000 in
theorem c_L_openPermit (l : Launch) (hfl : l.stackTraces = false) (G : va_G) (cs : Nat → ClassId) (ad : Nat → Nat) (qo : Nat) (o : Nat → Int64) (qd : Nat) (d : Nat → UInt64) (σ : zS) (a1 : Int32)  : zMi l yL_openPermit zws_openPermit { frames := 8, cells := 3, slots := 18, locals := 131 } G cs [.ref (ad 0), .int a1, .ref qo] (zw cs ad σ (zt cs qo o qd d)) (f_L_openPermit (f_X5_openPermit σ a1).1) (zw cs ad (f_X5_openPermit σ a1).2.2 (zt cs qo (zo (f_X5_openPermit σ a1).1 (f_X5_openPermit σ a1).2.1.toInt64 o) qd d)) 3 18 := by
  intro sz
  refine z_ofWH (cc := cL_openPermit) (maxL := 4) (ret := (some .int)) (hh := [(0, 9, 12, 19), (0, 9, 15, 21), (0, 9, 18, 66)]) (by decide) rfl ?_
  intro p e s m args below meth c s₁ B hml hv
  obtain ⟨rfl, hsz, hP, hD0, hE⟩ := hv
  have hx := B.exec
  have hb := B.bytes
  have hr := B.returns
  have hts1 := atoms_spec (ws := zws_openPermit) B.pre
  have htc : ∀ w ∈ zcl, w.before _ s = true := fun w h => hts1 w (List.mem_cons_of_mem _ (List.mem_append_left _ h))
  have hts : ∀ w ∈ wsL_openPermit, w.before _ s = true := fun w h => hts1 w (List.mem_cons_of_mem _ (List.mem_append_right _ h))
  have hown : s.vm.findClass RL = some m.cls := findClass_of_methodNamed B.named
  have hlocks := B.notSynchronized
  have htab := vx_table (x := yL_openPermit) B (hts1 _ List.mem_cons_self)
  subst hsz
  have hD := hD0.self (sz := s.heap.size)
  have hA : ∀ q : Nat, s.heap.size ≤ q → (va_A (zw cs ad σ (zt cs qo o qd d)) s.heap.size) q := fun q h => Or.inr h
  generalize va_A (zw cs ad σ (zt cs qo o qd d)) s.heap.size = A at hD hE hA ⊢
  have hS : va_S A s.heap s.heap [] := va_S.rf
  have hl := lv_entry ([.ref (ad 0), .int a1, .ref qo]) (n := 4) (Nat.le_of_ble_eq_true rfl)
  rw [lg_entry_eq]
  generalize (lg_sl ([.ref (ad 0), .int a1, .ref qo]) ++ List.replicate (4 - (lg_sl ([.ref (ad 0), .int a1, .ref qo])).length) Slot.unset).toArray = ls at hl ⊢
  have hl : lv_has ls 4 [(0, .ref (ad 0)), (1, .int a1), (2, .ref qo)] := hl
  have hcd := codes_X5_openPermit σ a1
  obtain ⟨rv, hrv⟩ : ∃ z, z = f_L_openPermit (f_X5_openPermit σ a1).1 := ⟨_, rfl⟩
  obtain ⟨o1, ho1⟩ : ∃ z, z = zo (f_X5_openPermit σ a1).1 (f_X5_openPermit σ a1).2.1.toInt64 o := ⟨_, rfl⟩
  rw [← hrv, ← ho1]
  refine lv_aload_n hx hb dL_openPermit_0 rfl (lv_at hl 2 rfl) ?_
  refine lv_iconst (v := 0) hx hb dL_openPermit_1 (by decide) ?_
  refine lv_aload_n hx hb dL_openPermit_2 rfl (lv_at hl 0 rfl) ?_
  refine lv_iload_n hx hb dL_openPermit_3 rfl (lv_at hl 1 rfl) ?_
  refine zaxi (vx_runV (As := [.int a1]) (rest := [.int 0, .ref qo]) ⟨hx, hb, hml, hown, hts⟩ (c_X5_openPermit l hfl G cs ad (zt cs qo o qd d) σ a1  s.heap.size) (cwV 1 hts gL_openPermit_X5_openPermit rfl rfl rfl (by decide +kernel) ⟨Nat.le_of_ble_eq_true rfl, Nat.le_of_ble_eq_true rfl⟩) (zpv hE hP hD hS hA (zg_0 cs ad σ (zt cs qo o qd d)) rfl) rfl rfl hl.1 rfl (lv_room (Nat.le_of_ble_eq_true rfl)) dL_openPermit_4 ⟨Nat.le_of_ble_eq_true rfl, Nat.le_of_ble_eq_true rfl⟩) hD hS hA (fun c1 ce q9 H locs hP hD hS h1 h2 h3 => ?_) (fun c1 H locs hP hD hS => ?_)
  · have e2 : o1 = o := ho1.trans (if_neg c1)
    rw [e2]
    simp only [List.mem_cons, List.not_mem_nil, or_false] at hcd
    rcases hcd with q | q | q | q
    · exact absurd q c1
    · rw [q] at h3
      have e1 : rv = 1 := by rw [hrv, q]; rfl
      rw [e1]
      refine vx_catch (own := RL) (name := "java/lang/IllegalArgumentException") (E := "java/lang/IllegalArgumentException") hown [] ⟨0, 9, 12, 19⟩ [⟨0, 9, 15, 21⟩, ⟨0, 9, 18, 66⟩] htab (fun z hz => absurd hz List.not_mem_nil) (by decide) (by decide) (htc (.classLink RL 19 "java/lang/IllegalArgumentException") (by decide +kernel)) (va_Nw.use rfl (hE.2.1 _ (List.mem_of_getElem? (i := 4) rfl))) h1 h2 h3 ?_
      refine lv_astore_n (pc := 12) (lv' := [(3, .ref q9), (0, .ref (ad 0)), (1, .int a1), (2, .ref qo)]) hx hb dL_openPermit_12 rfl hl (by decide) rfl (fun ls hl => ?_)
      refine lv_iconst (v := 1) hx hb dL_openPermit_13 (by decide) ?_
      exact W.iret (v := 1) hx hb hr (fun t ht hW => ⟨⟨_, (), rfl, rfl, by rw [ht]; exact hP, hD⟩, hS.F ht⟩) hS.2.2 dL_openPermit_14
    · rw [q] at h3
      have e1 : rv = 2 := by rw [hrv, q]; rfl
      rw [e1]
      refine vx_catch (own := RL) (name := "java/lang/IllegalStateException") (E := "java/lang/IllegalStateException") hown [⟨0, 9, 12, 19⟩] ⟨0, 9, 15, 21⟩ [⟨0, 9, 18, 66⟩] htab (fun z hz => by
        simp only [List.mem_cons, List.not_mem_nil, or_false] at hz
        rcases hz with rfl
        · exact Or.inr ⟨by decide, "java/lang/IllegalArgumentException", htc (.classLink RL 19 "java/lang/IllegalArgumentException") (by decide +kernel), hE.2.2.2.2.2 ("java/lang/IllegalStateException", "java/lang/IllegalArgumentException") (by decide +kernel)⟩) (by decide) (by decide) (htc (.classLink RL 21 "java/lang/IllegalStateException") (by decide +kernel)) (va_Nw.use rfl (hE.2.1 _ (List.mem_of_getElem? (i := 5) rfl))) h1 h2 h3 ?_
      refine lv_astore_n (pc := 15) (lv' := [(3, .ref q9), (0, .ref (ad 0)), (1, .int a1), (2, .ref qo)]) hx hb dL_openPermit_15 rfl hl (by decide) rfl (fun ls hl => ?_)
      refine lv_iconst (v := 2) hx hb dL_openPermit_16 (by decide) ?_
      exact W.iret (v := 2) hx hb hr (fun t ht hW => ⟨⟨_, (), rfl, rfl, by rw [ht]; exact hP, hD⟩, hS.F ht⟩) hS.2.2 dL_openPermit_17
    · rw [q] at h3
      have e1 : rv = 3 := by rw [hrv, q]; rfl
      rw [e1]
      refine vx_catch (own := RL) (name := "java/lang/UnsupportedOperationException") (E := "java/lang/UnsupportedOperationException") hown [⟨0, 9, 12, 19⟩, ⟨0, 9, 15, 21⟩] ⟨0, 9, 18, 66⟩ [] htab (fun z hz => by
        simp only [List.mem_cons, List.not_mem_nil, or_false] at hz
        rcases hz with rfl | rfl
        · exact Or.inr ⟨by decide, "java/lang/IllegalArgumentException", htc (.classLink RL 19 "java/lang/IllegalArgumentException") (by decide +kernel), hE.2.2.2.2.2 ("java/lang/UnsupportedOperationException", "java/lang/IllegalArgumentException") (by decide +kernel)⟩
        · exact Or.inr ⟨by decide, "java/lang/IllegalStateException", htc (.classLink RL 21 "java/lang/IllegalStateException") (by decide +kernel), hE.2.2.2.2.2 ("java/lang/UnsupportedOperationException", "java/lang/IllegalStateException") (by decide +kernel)⟩) (by decide) (by decide) (htc (.classLink RL 66 "java/lang/UnsupportedOperationException") (by decide +kernel)) (va_Nw.use rfl (hE.2.1 _ (List.mem_of_getElem? (i := 7) rfl))) h1 h2 h3 ?_
      refine lv_astore_n (pc := 18) (lv' := [(3, .ref q9), (0, .ref (ad 0)), (1, .int a1), (2, .ref qo)]) hx hb dL_openPermit_18 rfl hl (by decide) rfl (fun ls hl => ?_)
      refine lv_iconst (v := 3) hx hb dL_openPermit_19 (by decide) ?_
      exact W.iret (v := 3) hx hb hr (fun t ht hW => ⟨⟨_, (), rfl, rfl, by rw [ht]; exact hP, hD⟩, hS.F ht⟩) hS.2.2 dL_openPermit_20
  · have e1 : rv = 0 := hrv.trans (if_pos c1)
    rw [e1]
    refine lv_i2l (v := (f_X5_openPermit σ a1).2.1.toInt64) hx hb dL_openPermit_7 rfl ?_
    have e2 : o1 = vp_updL o (0 : Int32).toNatClampNeg (f_X5_openPermit σ a1).2.1.toInt64 := ho1.trans ((if_pos c1).trans rfl)
    rw [e2]
    refine va_last hx hb hE.1 hP hD hS 51 3 rfl rfl z_in01 dL_openPermit_8 (fun H locs hP hD hS => ?_)
    have hP : va_P G vwCl (zw cs ad (f_X5_openPermit σ a1).2.2 (zt cs qo (vp_updL o (0 : Int32).toNatClampNeg (f_X5_openPermit σ a1).2.1.toInt64) qd d)) H := hP
    have hD : va_D A (zw cs ad (f_X5_openPermit σ a1).2.2 (zt cs qo (vp_updL o (0 : Int32).toNatClampNeg (f_X5_openPermit σ a1).2.1.toInt64) qd d)) := hD
    refine lv_goto (tgt := 21) hx hb dL_openPermit_9 (by decide) ?_
    refine lv_iconst (v := 0) hx hb dL_openPermit_21 (by decide) ?_
    exact W.iret (v := 0) hx hb hr (fun t ht hW => ⟨⟨_, (), rfl, rfl, by rw [ht]; exact hP, hD⟩, hS.F ht⟩) hS.2.2 dL_openPermit_22
theorem codes_X5_checkPermit (σ : zS) (a1 : Int32) : (f_X5_checkPermit σ a1) ∈ ([0, 4] : List Nat) := by
  unfold f_X5_checkPermit
  by_cases c1 : (f_X3_hasPermit σ a1) = 0
  · rw [if_pos c1]
    exact (show 4 ∈ ([0, 4] : List Nat) by decide)
  · rw [if_neg c1]
    exact (show 0 ∈ ([0, 4] : List Nat) by decide)
theorem codes_X5_closePermit (σ : zS) (a1 : Int32) : (f_X5_closePermit σ a1).1 ∈ ([0, 3, 4] : List Nat) := by
  unfold f_X5_closePermit
  by_cases c1 : (f_X5_checkPermit σ a1) = 0
  · rw [if_pos c1]
    by_cases c2 : (f_X3_isOpen σ a1) = 0
    · rw [if_pos c2]
      exact (show 3 ∈ ([0, 3, 4] : List Nat) by decide)
    · rw [if_neg c2]
      by_cases c3 : (f_X5_checkAtWork σ ) = 0
      · rw [if_pos c3]
        exact (show 0 ∈ ([0, 3, 4] : List Nat) by decide)
      · rw [if_neg c3]
        exact zmem (codes_X5_checkAtWork σ ) (by decide)
  · rw [if_neg c1]
    exact zmem (codes_X5_checkPermit σ a1) (by decide)
def f_L_closePermit : Nat → Int32 := fun k => if k = 0 then 0 else if k = 4 then 1 else if k = 3 then 2 else 9
def zws_closePermit : List Cond := .codeWith yL_closePermit cL_closePermit 4 (some .int) [(0, 9, 12, 27), (0, 9, 15, 21)] :: (zcl ++ wsL_closePermit)
set_option maxRecDepth 100000 in
theorem c_L_closePermit (l : Launch) (hfl : l.stackTraces = false) (G : va_G) (cs : Nat → ClassId) (ad : Nat → Nat) (qo : Nat) (o : Nat → Int64) (qd : Nat) (d : Nat → UInt64) (σ : zS) (a1 : Int32)  : zMi l yL_closePermit zws_closePermit { frames := 8, cells := 3, slots := 18, locals := 133 } G cs [.ref (ad 0), .int a1, .ref qo] (zw cs ad σ (zt cs qo o qd d)) (f_L_closePermit (f_X5_closePermit σ a1).1) (zw cs ad (f_X5_closePermit σ a1).2.2 (zt cs qo (zo (f_X5_closePermit σ a1).1 (f_X5_closePermit σ a1).2.1.toInt64 o) qd d)) 3 18 := by
  intro sz
  refine z_ofWH (cc := cL_closePermit) (maxL := 4) (ret := (some .int)) (hh := [(0, 9, 12, 27), (0, 9, 15, 21)]) (by decide) rfl ?_
  intro p e s m args below meth c s₁ B hml hv
  obtain ⟨rfl, hsz, hP, hD0, hE⟩ := hv
  have hx := B.exec
  have hb := B.bytes
  have hr := B.returns
  have hts1 := atoms_spec (ws := zws_closePermit) B.pre
  have htc : ∀ w ∈ zcl, w.before _ s = true := fun w h => hts1 w (List.mem_cons_of_mem _ (List.mem_append_left _ h))
  have hts : ∀ w ∈ wsL_closePermit, w.before _ s = true := fun w h => hts1 w (List.mem_cons_of_mem _ (List.mem_append_right _ h))
  have hown : s.vm.findClass RL = some m.cls := findClass_of_methodNamed B.named
  have hlocks := B.notSynchronized
  have htab := vx_table (x := yL_closePermit) B (hts1 _ List.mem_cons_self)
  subst hsz
  have hD := hD0.self (sz := s.heap.size)
  have hA : ∀ q : Nat, s.heap.size ≤ q → (va_A (zw cs ad σ (zt cs qo o qd d)) s.heap.size) q := fun q h => Or.inr h
  generalize va_A (zw cs ad σ (zt cs qo o qd d)) s.heap.size = A at hD hE hA ⊢
  have hS : va_S A s.heap s.heap [] := va_S.rf
  have hl := lv_entry ([.ref (ad 0), .int a1, .ref qo]) (n := 4) (Nat.le_of_ble_eq_true rfl)
  rw [lg_entry_eq]
  generalize (lg_sl ([.ref (ad 0), .int a1, .ref qo]) ++ List.replicate (4 - (lg_sl ([.ref (ad 0), .int a1, .ref qo])).length) Slot.unset).toArray = ls at hl ⊢
  have hl : lv_has ls 4 [(0, .ref (ad 0)), (1, .int a1), (2, .ref qo)] := hl
  have hcd := codes_X5_closePermit σ a1
  obtain ⟨rv, hrv⟩ : ∃ z, z = f_L_closePermit (f_X5_closePermit σ a1).1 := ⟨_, rfl⟩
  obtain ⟨o1, ho1⟩ : ∃ z, z = zo (f_X5_closePermit σ a1).1 (f_X5_closePermit σ a1).2.1.toInt64 o := ⟨_, rfl⟩
  rw [← hrv, ← ho1]
  refine lv_aload_n hx hb dL_closePermit_0 rfl (lv_at hl 2 rfl) ?_
  refine lv_iconst (v := 0) hx hb dL_closePermit_1 (by decide) ?_
  refine lv_aload_n hx hb dL_closePermit_2 rfl (lv_at hl 0 rfl) ?_
  refine lv_iload_n hx hb dL_closePermit_3 rfl (lv_at hl 1 rfl) ?_
  refine zaxi (vx_runV (As := [.int a1]) (rest := [.int 0, .ref qo]) ⟨hx, hb, hml, hown, hts⟩ (c_X5_closePermit l hfl G cs ad (zt cs qo o qd d) σ a1  s.heap.size) (cwV 1 hts gL_closePermit_X5_closePermit rfl rfl rfl (by decide +kernel) ⟨Nat.le_of_ble_eq_true rfl, Nat.le_of_ble_eq_true rfl⟩) (zpv hE hP hD hS hA (zg_0 cs ad σ (zt cs qo o qd d)) rfl) rfl rfl hl.1 rfl (lv_room (Nat.le_of_ble_eq_true rfl)) dL_closePermit_4 ⟨Nat.le_of_ble_eq_true rfl, Nat.le_of_ble_eq_true rfl⟩) hD hS hA (fun c1 ce q9 H locs hP hD hS h1 h2 h3 => ?_) (fun c1 H locs hP hD hS => ?_)
  · have e2 : o1 = o := ho1.trans (if_neg c1)
    rw [e2]
    simp only [List.mem_cons, List.not_mem_nil, or_false] at hcd
    rcases hcd with q | q | q
    · exact absurd q c1
    · rw [q] at h3
      have e1 : rv = 2 := by rw [hrv, q]; rfl
      rw [e1]
      refine vx_catch (own := RL) (name := "java/lang/IllegalStateException") (E := "java/lang/IllegalStateException") hown [⟨0, 9, 12, 27⟩] ⟨0, 9, 15, 21⟩ [] htab (fun z hz => by
        simp only [List.mem_cons, List.not_mem_nil, or_false] at hz
        rcases hz with rfl
        · exact Or.inr ⟨by decide, "java/util/NoSuchElementException", htc (.classLink RL 27 "java/util/NoSuchElementException") (by decide +kernel), hE.2.2.2.2.2 ("java/lang/IllegalStateException", "java/util/NoSuchElementException") (by decide +kernel)⟩) (by decide) (by decide) (htc (.classLink RL 21 "java/lang/IllegalStateException") (by decide +kernel)) (va_Nw.use rfl (hE.2.1 _ (List.mem_of_getElem? (i := 5) rfl))) h1 h2 h3 ?_
      refine lv_astore_n (pc := 15) (lv' := [(3, .ref q9), (0, .ref (ad 0)), (1, .int a1), (2, .ref qo)]) hx hb dL_closePermit_15 rfl hl (by decide) rfl (fun ls hl => ?_)
      refine lv_iconst (v := 2) hx hb dL_closePermit_16 (by decide) ?_
      exact W.iret (v := 2) hx hb hr (fun t ht hW => ⟨⟨_, (), rfl, rfl, by rw [ht]; exact hP, hD⟩, hS.F ht⟩) hS.2.2 dL_closePermit_17
    · rw [q] at h3
      have e1 : rv = 1 := by rw [hrv, q]; rfl
      rw [e1]
      refine vx_catch (own := RL) (name := "java/util/NoSuchElementException") (E := "java/util/NoSuchElementException") hown [] ⟨0, 9, 12, 27⟩ [⟨0, 9, 15, 21⟩] htab (fun z hz => absurd hz List.not_mem_nil) (by decide) (by decide) (htc (.classLink RL 27 "java/util/NoSuchElementException") (by decide +kernel)) (va_Nw.use rfl (hE.2.1 _ (List.mem_of_getElem? (i := 6) rfl))) h1 h2 h3 ?_
      refine lv_astore_n (pc := 12) (lv' := [(3, .ref q9), (0, .ref (ad 0)), (1, .int a1), (2, .ref qo)]) hx hb dL_closePermit_12 rfl hl (by decide) rfl (fun ls hl => ?_)
      refine lv_iconst (v := 1) hx hb dL_closePermit_13 (by decide) ?_
      exact W.iret (v := 1) hx hb hr (fun t ht hW => ⟨⟨_, (), rfl, rfl, by rw [ht]; exact hP, hD⟩, hS.F ht⟩) hS.2.2 dL_closePermit_14
  · have e1 : rv = 0 := hrv.trans (if_pos c1)
    rw [e1]
    refine lv_i2l (v := (f_X5_closePermit σ a1).2.1.toInt64) hx hb dL_closePermit_7 rfl ?_
    have e2 : o1 = vp_updL o (0 : Int32).toNatClampNeg (f_X5_closePermit σ a1).2.1.toInt64 := ho1.trans ((if_pos c1).trans rfl)
    rw [e2]
    refine va_last hx hb hE.1 hP hD hS 51 3 rfl rfl z_in01 dL_closePermit_8 (fun H locs hP hD hS => ?_)
    have hP : va_P G vwCl (zw cs ad (f_X5_closePermit σ a1).2.2 (zt cs qo (vp_updL o (0 : Int32).toNatClampNeg (f_X5_closePermit σ a1).2.1.toInt64) qd d)) H := hP
    have hD : va_D A (zw cs ad (f_X5_closePermit σ a1).2.2 (zt cs qo (vp_updL o (0 : Int32).toNatClampNeg (f_X5_closePermit σ a1).2.1.toInt64) qd d)) := hD
    refine lv_goto (tgt := 18) hx hb dL_closePermit_9 (by decide) ?_
    refine lv_iconst (v := 0) hx hb dL_closePermit_18 (by decide) ?_
    exact W.iret (v := 0) hx hb hr (fun t ht hW => ⟨⟨_, (), rfl, rfl, by rw [ht]; exact hP, hD⟩, hS.F ht⟩) hS.2.2 dL_closePermit_19
theorem codes_X5_isPermitOpen (σ : zS) (a1 : Int32) : (f_X5_isPermitOpen σ a1).1 ∈ ([0, 4] : List Nat) := by
  unfold f_X5_isPermitOpen
  by_cases c1 : (f_X5_checkPermit σ a1) = 0
  · rw [if_pos c1]
    exact (show 0 ∈ ([0, 4] : List Nat) by decide)
  · rw [if_neg c1]
    exact zmem (codes_X5_checkPermit σ a1) (by decide)
def f_L_isPermitOpen : Nat → Int32 := fun k => if k = 0 then 0 else if k = 4 then 1 else 9
def zws_isPermitOpen : List Cond := .codeWith yL_isPermitOpen cL_isPermitOpen 4 (some .int) [(0, 16, 19, 27)] :: (zcl ++ wsL_isPermitOpen)
set_option maxRecDepth 100000 in
theorem c_L_isPermitOpen (l : Launch) (hfl : l.stackTraces = false) (G : va_G) (cs : Nat → ClassId) (ad : Nat → Nat) (qo : Nat) (o : Nat → Int64) (qd : Nat) (d : Nat → UInt64) (σ : zS) (a1 : Int32)  : zMi l yL_isPermitOpen zws_isPermitOpen { frames := 8, cells := 1, slots := 6, locals := 132 } G cs [.ref (ad 0), .int a1, .ref qo] (zw cs ad σ (zt cs qo o qd d)) (f_L_isPermitOpen (f_X5_isPermitOpen σ a1).1) (zw cs ad (f_X5_isPermitOpen σ a1).2.2 (zt cs qo (zo (f_X5_isPermitOpen σ a1).1 (if (f_X5_isPermitOpen σ a1).2.1 = 0 then 0 else 1) o) qd d)) 1 6 := by
  intro sz
  refine z_ofWH (cc := cL_isPermitOpen) (maxL := 4) (ret := (some .int)) (hh := [(0, 16, 19, 27)]) (by decide) rfl ?_
  intro p e s m args below meth c s₁ B hml hv
  obtain ⟨rfl, hsz, hP, hD0, hE⟩ := hv
  have hx := B.exec
  have hb := B.bytes
  have hr := B.returns
  have hts1 := atoms_spec (ws := zws_isPermitOpen) B.pre
  have htc : ∀ w ∈ zcl, w.before _ s = true := fun w h => hts1 w (List.mem_cons_of_mem _ (List.mem_append_left _ h))
  have hts : ∀ w ∈ wsL_isPermitOpen, w.before _ s = true := fun w h => hts1 w (List.mem_cons_of_mem _ (List.mem_append_right _ h))
  have hown : s.vm.findClass RL = some m.cls := findClass_of_methodNamed B.named
  have hlocks := B.notSynchronized
  have htab := vx_table (x := yL_isPermitOpen) B (hts1 _ List.mem_cons_self)
  subst hsz
  have hD := hD0.self (sz := s.heap.size)
  have hA : ∀ q : Nat, s.heap.size ≤ q → (va_A (zw cs ad σ (zt cs qo o qd d)) s.heap.size) q := fun q h => Or.inr h
  generalize va_A (zw cs ad σ (zt cs qo o qd d)) s.heap.size = A at hD hE hA ⊢
  have hS : va_S A s.heap s.heap [] := va_S.rf
  have hl := lv_entry ([.ref (ad 0), .int a1, .ref qo]) (n := 4) (Nat.le_of_ble_eq_true rfl)
  rw [lg_entry_eq]
  generalize (lg_sl ([.ref (ad 0), .int a1, .ref qo]) ++ List.replicate (4 - (lg_sl ([.ref (ad 0), .int a1, .ref qo])).length) Slot.unset).toArray = ls at hl ⊢
  have hl : lv_has ls 4 [(0, .ref (ad 0)), (1, .int a1), (2, .ref qo)] := hl
  have hcd := codes_X5_isPermitOpen σ a1
  obtain ⟨rv, hrv⟩ : ∃ z, z = f_L_isPermitOpen (f_X5_isPermitOpen σ a1).1 := ⟨_, rfl⟩
  obtain ⟨o1, ho1⟩ : ∃ z, z = zo (f_X5_isPermitOpen σ a1).1 (if (f_X5_isPermitOpen σ a1).2.1 = 0 then 0 else 1) o := ⟨_, rfl⟩
  rw [← hrv, ← ho1]
  refine lv_aload_n hx hb dL_isPermitOpen_0 rfl (lv_at hl 2 rfl) ?_
  refine lv_iconst (v := 0) hx hb dL_isPermitOpen_1 (by decide) ?_
  refine lv_aload_n hx hb dL_isPermitOpen_2 rfl (lv_at hl 0 rfl) ?_
  refine lv_iload_n hx hb dL_isPermitOpen_3 rfl (lv_at hl 1 rfl) ?_
  refine zaxi (vx_runV (As := [.int a1]) (rest := [.int 0, .ref qo]) ⟨hx, hb, hml, hown, hts⟩ (c_X5_isPermitOpen l hfl G cs ad (zt cs qo o qd d) σ a1  s.heap.size) (cwV 1 hts gL_isPermitOpen_X5_isPermitOpen rfl rfl rfl (by decide +kernel) ⟨Nat.le_of_ble_eq_true rfl, Nat.le_of_ble_eq_true rfl⟩) (zpv hE hP hD hS hA (zg_0 cs ad σ (zt cs qo o qd d)) rfl) rfl rfl hl.1 rfl (lv_room (Nat.le_of_ble_eq_true rfl)) dL_isPermitOpen_4 ⟨Nat.le_of_ble_eq_true rfl, Nat.le_of_ble_eq_true rfl⟩) hD hS hA (fun c1 ce q9 H locs hP hD hS h1 h2 h3 => ?_) (fun c1 H locs hP hD hS => ?_)
  · have e2 : o1 = o := ho1.trans (if_neg c1)
    rw [e2]
    simp only [List.mem_cons, List.not_mem_nil, or_false] at hcd
    rcases hcd with q | q
    · exact absurd q c1
    · rw [q] at h3
      have e1 : rv = 1 := by rw [hrv, q]; rfl
      rw [e1]
      refine vx_catch (own := RL) (name := "java/util/NoSuchElementException") (E := "java/util/NoSuchElementException") hown [] ⟨0, 16, 19, 27⟩ [] htab (fun z hz => absurd hz List.not_mem_nil) (by decide) (by decide) (htc (.classLink RL 27 "java/util/NoSuchElementException") (by decide +kernel)) (va_Nw.use rfl (hE.2.1 _ (List.mem_of_getElem? (i := 6) rfl))) h1 h2 h3 ?_
      refine lv_astore_n (pc := 19) (lv' := [(3, .ref q9), (0, .ref (ad 0)), (1, .int a1), (2, .ref qo)]) hx hb dL_isPermitOpen_19 rfl hl (by decide) rfl (fun ls hl => ?_)
      refine lv_iconst (v := 1) hx hb dL_isPermitOpen_20 (by decide) ?_
      exact W.iret (v := 1) hx hb hr (fun t ht hW => ⟨⟨_, (), rfl, rfl, by rw [ht]; exact hP, hD⟩, hS.F ht⟩) hS.2.2 dL_isPermitOpen_21
  · have e1 : rv = 0 := hrv.trans (if_pos c1)
    rw [e1]
    refine lv_if_eq (tgt := 14) hx hb dL_isPermitOpen_7 (by decide) (fun c2 => ?_) (fun c2 => ?_)
    · refine lv_lconst (v := 0) hx hb dL_isPermitOpen_14 (by decide) ?_
      have e2 : o1 = vp_updL o (0 : Int32).toNatClampNeg 0 := ho1.trans ((if_pos c1).trans (by rw [if_pos c2]))
      rw [e2]
      refine va_last hx hb hE.1 hP hD hS 51 3 rfl rfl z_in01 dL_isPermitOpen_15 (fun H locs hP hD hS => ?_)
      have hP : va_P G vwCl (zw cs ad (f_X5_isPermitOpen σ a1).2.2 (zt cs qo (vp_updL o (0 : Int32).toNatClampNeg 0) qd d)) H := hP
      have hD : va_D A (zw cs ad (f_X5_isPermitOpen σ a1).2.2 (zt cs qo (vp_updL o (0 : Int32).toNatClampNeg 0) qd d)) := hD
      refine lv_goto (tgt := 22) hx hb dL_isPermitOpen_16 (by decide) ?_
      refine lv_iconst (v := 0) hx hb dL_isPermitOpen_22 (by decide) ?_
      exact W.iret (v := 0) hx hb hr (fun t ht hW => ⟨⟨_, (), rfl, rfl, by rw [ht]; exact hP, hD⟩, hS.F ht⟩) hS.2.2 dL_isPermitOpen_23
    · refine lv_lconst (v := 1) hx hb dL_isPermitOpen_10 (by decide) ?_
      refine lv_goto (tgt := 15) hx hb dL_isPermitOpen_11 (by decide) ?_
      have e2 : o1 = vp_updL o (0 : Int32).toNatClampNeg 1 := ho1.trans ((if_pos c1).trans (by rw [if_neg c2]))
      rw [e2]
      refine va_last hx hb hE.1 hP hD hS 51 3 rfl rfl z_in01 dL_isPermitOpen_15 (fun H locs hP hD hS => ?_)
      have hP : va_P G vwCl (zw cs ad (f_X5_isPermitOpen σ a1).2.2 (zt cs qo (vp_updL o (0 : Int32).toNatClampNeg 1) qd d)) H := hP
      have hD : va_D A (zw cs ad (f_X5_isPermitOpen σ a1).2.2 (zt cs qo (vp_updL o (0 : Int32).toNatClampNeg 1) qd d)) := hD
      refine lv_goto (tgt := 22) hx hb dL_isPermitOpen_16 (by decide) ?_
      refine lv_iconst (v := 0) hx hb dL_isPermitOpen_22 (by decide) ?_
      exact W.iret (v := 0) hx hb hr (fun t ht hW => ⟨⟨_, (), rfl, rfl, by rw [ht]; exact hP, hD⟩, hS.F ht⟩) hS.2.2 dL_isPermitOpen_23
theorem codes_X5_note (σ : zS)  : (f_X5_note σ ).1 ∈ ([0, 3] : List Nat) := by
  unfold f_X5_note
  by_cases c1 : (f_X5_checkRoomForLine σ ) = 0
  · rw [if_pos c1]
    exact (show 0 ∈ ([0, 3] : List Nat) by decide)
  · rw [if_neg c1]
    exact zmem (codes_X5_checkRoomForLine σ ) (by decide)
def f_L_note : Nat → Int32 := fun k => if k = 0 then 0 else if k = 3 then 1 else 9
def zws_note : List Cond := .codeWith yL_note cL_note 3 (some .int) [(0, 8, 11, 21)] :: (zcl ++ wsL_note)
set_option maxRecDepth 100000 in
theorem c_L_note (l : Launch) (hfl : l.stackTraces = false) (G : va_G) (cs : Nat → ClassId) (ad : Nat → Nat) (qo : Nat) (o : Nat → Int64) (qd : Nat) (d : Nat → UInt64) (σ : zS)   : zMi l yL_note zws_note { frames := 8, cells := 1, slots := 6, locals := 130 } G cs [.ref (ad 0), .ref qo] (zw cs ad σ (zt cs qo o qd d)) (f_L_note (f_X5_note σ ).1) (zw cs ad (f_X5_note σ ).2.2 (zt cs qo (zo (f_X5_note σ ).1 (f_X5_note σ ).2.1.toInt64 o) qd d)) 1 6 := by
  intro sz
  refine z_ofWH (cc := cL_note) (maxL := 3) (ret := (some .int)) (hh := [(0, 8, 11, 21)]) (by decide) rfl ?_
  intro p e s m args below meth c s₁ B hml hv
  obtain ⟨rfl, hsz, hP, hD0, hE⟩ := hv
  have hx := B.exec
  have hb := B.bytes
  have hr := B.returns
  have hts1 := atoms_spec (ws := zws_note) B.pre
  have htc : ∀ w ∈ zcl, w.before _ s = true := fun w h => hts1 w (List.mem_cons_of_mem _ (List.mem_append_left _ h))
  have hts : ∀ w ∈ wsL_note, w.before _ s = true := fun w h => hts1 w (List.mem_cons_of_mem _ (List.mem_append_right _ h))
  have hown : s.vm.findClass RL = some m.cls := findClass_of_methodNamed B.named
  have hlocks := B.notSynchronized
  have htab := vx_table (x := yL_note) B (hts1 _ List.mem_cons_self)
  subst hsz
  have hD := hD0.self (sz := s.heap.size)
  have hA : ∀ q : Nat, s.heap.size ≤ q → (va_A (zw cs ad σ (zt cs qo o qd d)) s.heap.size) q := fun q h => Or.inr h
  generalize va_A (zw cs ad σ (zt cs qo o qd d)) s.heap.size = A at hD hE hA ⊢
  have hS : va_S A s.heap s.heap [] := va_S.rf
  have hl := lv_entry ([.ref (ad 0), .ref qo]) (n := 3) (Nat.le_of_ble_eq_true rfl)
  rw [lg_entry_eq]
  generalize (lg_sl ([.ref (ad 0), .ref qo]) ++ List.replicate (3 - (lg_sl ([.ref (ad 0), .ref qo])).length) Slot.unset).toArray = ls at hl ⊢
  have hl : lv_has ls 3 [(0, .ref (ad 0)), (1, .ref qo)] := hl
  have hcd := codes_X5_note σ 
  obtain ⟨rv, hrv⟩ : ∃ z, z = f_L_note (f_X5_note σ ).1 := ⟨_, rfl⟩
  obtain ⟨o1, ho1⟩ : ∃ z, z = zo (f_X5_note σ ).1 (f_X5_note σ ).2.1.toInt64 o := ⟨_, rfl⟩
  rw [← hrv, ← ho1]
  refine lv_aload_n hx hb dL_note_0 rfl (lv_at hl 1 rfl) ?_
  refine lv_iconst (v := 0) hx hb dL_note_1 (by decide) ?_
  refine lv_aload_n hx hb dL_note_2 rfl (lv_at hl 0 rfl) ?_
  refine zaxi (vx_runV (As := []) (rest := [.int 0, .ref qo]) ⟨hx, hb, hml, hown, hts⟩ (c_X5_note l hfl G cs ad (zt cs qo o qd d) σ   s.heap.size) (cwV 0 hts gL_note_X5_note rfl rfl rfl (by decide +kernel) ⟨Nat.le_of_ble_eq_true rfl, Nat.le_of_ble_eq_true rfl⟩) (zpv hE hP hD hS hA (zg_0 cs ad σ (zt cs qo o qd d)) rfl) rfl rfl hl.1 rfl (lv_room (Nat.le_of_ble_eq_true rfl)) dL_note_3 ⟨Nat.le_of_ble_eq_true rfl, Nat.le_of_ble_eq_true rfl⟩) hD hS hA (fun c1 ce q9 H locs hP hD hS h1 h2 h3 => ?_) (fun c1 H locs hP hD hS => ?_)
  · have e2 : o1 = o := ho1.trans (if_neg c1)
    rw [e2]
    simp only [List.mem_cons, List.not_mem_nil, or_false] at hcd
    rcases hcd with q | q
    · exact absurd q c1
    · rw [q] at h3
      have e1 : rv = 1 := by rw [hrv, q]; rfl
      rw [e1]
      refine vx_catch (own := RL) (name := "java/lang/IllegalStateException") (E := "java/lang/IllegalStateException") hown [] ⟨0, 8, 11, 21⟩ [] htab (fun z hz => absurd hz List.not_mem_nil) (by decide) (by decide) (htc (.classLink RL 21 "java/lang/IllegalStateException") (by decide +kernel)) (va_Nw.use rfl (hE.2.1 _ (List.mem_of_getElem? (i := 5) rfl))) h1 h2 h3 ?_
      refine lv_astore_n (pc := 11) (lv' := [(2, .ref q9), (0, .ref (ad 0)), (1, .ref qo)]) hx hb dL_note_11 rfl hl (by decide) rfl (fun ls hl => ?_)
      refine lv_iconst (v := 1) hx hb dL_note_12 (by decide) ?_
      exact W.iret (v := 1) hx hb hr (fun t ht hW => ⟨⟨_, (), rfl, rfl, by rw [ht]; exact hP, hD⟩, hS.F ht⟩) hS.2.2 dL_note_13
  · have e1 : rv = 0 := hrv.trans (if_pos c1)
    rw [e1]
    refine lv_i2l (v := (f_X5_note σ ).2.1.toInt64) hx hb dL_note_6 rfl ?_
    have e2 : o1 = vp_updL o (0 : Int32).toNatClampNeg (f_X5_note σ ).2.1.toInt64 := ho1.trans ((if_pos c1).trans rfl)
    rw [e2]
    refine va_last hx hb hE.1 hP hD hS 51 3 rfl rfl z_in01 dL_note_7 (fun H locs hP hD hS => ?_)
    have hP : va_P G vwCl (zw cs ad (f_X5_note σ ).2.2 (zt cs qo (vp_updL o (0 : Int32).toNatClampNeg (f_X5_note σ ).2.1.toInt64) qd d)) H := hP
    have hD : va_D A (zw cs ad (f_X5_note σ ).2.2 (zt cs qo (vp_updL o (0 : Int32).toNatClampNeg (f_X5_note σ ).2.1.toInt64) qd d)) := hD
    refine lv_goto (tgt := 14) hx hb dL_note_8 (by decide) ?_
    refine lv_iconst (v := 0) hx hb dL_note_14 (by decide) ?_
    exact W.iret (v := 0) hx hb hr (fun t ht hW => ⟨⟨_, (), rfl, rfl, by rw [ht]; exact hP, hD⟩, hS.F ht⟩) hS.2.2 dL_note_15
theorem codes_X5_checkLine (σ : zS) (a1 : Int32) : (f_X5_checkLine σ a1) ∈ ([0, 4] : List Nat) := by
  unfold f_X5_checkLine
  by_cases c1 : (f_X2_hasLine σ a1) = 0
  · rw [if_pos c1]
    exact (show 4 ∈ ([0, 4] : List Nat) by decide)
  · rw [if_neg c1]
    exact (show 0 ∈ ([0, 4] : List Nat) by decide)
theorem codes_X5_close (σ : zS) (a1 : Int32) : (f_X5_close σ a1).1 ∈ ([0, 3, 4, 5] : List Nat) := by
  unfold f_X5_close
  by_cases c1 : (f_X5_checkLine σ a1) = 0
  · rw [if_pos c1]
    by_cases c2 : (f_X2_kindAt σ a1) = 110
    · rw [if_pos c2]
      by_cases c3 : (f_X2_isOpen σ a1) = 0
      · rw [if_pos c3]
        exact (show 3 ∈ ([0, 3, 4, 5] : List Nat) by decide)
      · rw [if_neg c3]
        exact (show 0 ∈ ([0, 3, 4, 5] : List Nat) by decide)
    · rw [if_neg c2]
      exact (show 5 ∈ ([0, 3, 4, 5] : List Nat) by decide)
  · rw [if_neg c1]
    exact zmem (codes_X5_checkLine σ a1) (by decide)
def f_L_close : Nat → Int32 := fun k => if k = 0 then 0 else if k = 4 then 1 else if k = 5 then 2 else if k = 3 then 3 else 9
def zws_close : List Cond := .codeWith yL_close cL_close 4 (some .int) [(0, 9, 12, 27), (0, 9, 15, 66), (0, 9, 18, 21)] :: (zcl ++ wsL_close)
set_option maxRecDepth 100000 in
theorem c_L_close (l : Launch) (hfl : l.stackTraces = false) (G : va_G) (cs : Nat → ClassId) (ad : Nat → Nat) (qo : Nat) (o : Nat → Int64) (qd : Nat) (d : Nat → UInt64) (σ : zS) (a1 : Int32) (hch : ∀ j : Nat, narrow .char (.int (σ 3 j)) = .int (σ 3 j)) : zMi l yL_close zws_close { frames := 8, cells := 2, slots := 12, locals := 132 } G cs [.ref (ad 0), .int a1, .ref qo] (zw cs ad σ (zt cs qo o qd d)) (f_L_close (f_X5_close σ a1).1) (zw cs ad (f_X5_close σ a1).2.2 (zt cs qo (zo (f_X5_close σ a1).1 (f_X5_close σ a1).2.1.toInt64 o) qd d)) 2 12 := by
  intro sz
  refine z_ofWH (cc := cL_close) (maxL := 4) (ret := (some .int)) (hh := [(0, 9, 12, 27), (0, 9, 15, 66), (0, 9, 18, 21)]) (by decide) rfl ?_
  intro p e s m args below meth c s₁ B hml hv
  obtain ⟨rfl, hsz, hP, hD0, hE⟩ := hv
  have hx := B.exec
  have hb := B.bytes
  have hr := B.returns
  have hts1 := atoms_spec (ws := zws_close) B.pre
  have htc : ∀ w ∈ zcl, w.before _ s = true := fun w h => hts1 w (List.mem_cons_of_mem _ (List.mem_append_left _ h))
  have hts : ∀ w ∈ wsL_close, w.before _ s = true := fun w h => hts1 w (List.mem_cons_of_mem _ (List.mem_append_right _ h))
  have hown : s.vm.findClass RL = some m.cls := findClass_of_methodNamed B.named
  have hlocks := B.notSynchronized
  have htab := vx_table (x := yL_close) B (hts1 _ List.mem_cons_self)
  subst hsz
  have hD := hD0.self (sz := s.heap.size)
  have hA : ∀ q : Nat, s.heap.size ≤ q → (va_A (zw cs ad σ (zt cs qo o qd d)) s.heap.size) q := fun q h => Or.inr h
  generalize va_A (zw cs ad σ (zt cs qo o qd d)) s.heap.size = A at hD hE hA ⊢
  have hS : va_S A s.heap s.heap [] := va_S.rf
  have hl := lv_entry ([.ref (ad 0), .int a1, .ref qo]) (n := 4) (Nat.le_of_ble_eq_true rfl)
  rw [lg_entry_eq]
  generalize (lg_sl ([.ref (ad 0), .int a1, .ref qo]) ++ List.replicate (4 - (lg_sl ([.ref (ad 0), .int a1, .ref qo])).length) Slot.unset).toArray = ls at hl ⊢
  have hl : lv_has ls 4 [(0, .ref (ad 0)), (1, .int a1), (2, .ref qo)] := hl
  have hcd := codes_X5_close σ a1
  obtain ⟨rv, hrv⟩ : ∃ z, z = f_L_close (f_X5_close σ a1).1 := ⟨_, rfl⟩
  obtain ⟨o1, ho1⟩ : ∃ z, z = zo (f_X5_close σ a1).1 (f_X5_close σ a1).2.1.toInt64 o := ⟨_, rfl⟩
  rw [← hrv, ← ho1]
  refine lv_aload_n hx hb dL_close_0 rfl (lv_at hl 2 rfl) ?_
  refine lv_iconst (v := 0) hx hb dL_close_1 (by decide) ?_
  refine lv_aload_n hx hb dL_close_2 rfl (lv_at hl 0 rfl) ?_
  refine lv_iload_n hx hb dL_close_3 rfl (lv_at hl 1 rfl) ?_
  refine zaxi (vx_runV (As := [.int a1]) (rest := [.int 0, .ref qo]) ⟨hx, hb, hml, hown, hts⟩ (c_X5_close l hfl G cs ad (zt cs qo o qd d) σ a1 hch s.heap.size) (cwV 1 hts gL_close_X5_close rfl rfl rfl (by decide +kernel) ⟨Nat.le_of_ble_eq_true rfl, Nat.le_of_ble_eq_true rfl⟩) (zpv hE hP hD hS hA (zg_0 cs ad σ (zt cs qo o qd d)) rfl) rfl rfl hl.1 rfl (lv_room (Nat.le_of_ble_eq_true rfl)) dL_close_4 ⟨Nat.le_of_ble_eq_true rfl, Nat.le_of_ble_eq_true rfl⟩) hD hS hA (fun c1 ce q9 H locs hP hD hS h1 h2 h3 => ?_) (fun c1 H locs hP hD hS => ?_)
  · have e2 : o1 = o := ho1.trans (if_neg c1)
    rw [e2]
    simp only [List.mem_cons, List.not_mem_nil, or_false] at hcd
    rcases hcd with q | q | q | q
    · exact absurd q c1
    · rw [q] at h3
      have e1 : rv = 3 := by rw [hrv, q]; rfl
      rw [e1]
      refine vx_catch (own := RL) (name := "java/lang/IllegalStateException") (E := "java/lang/IllegalStateException") hown [⟨0, 9, 12, 27⟩, ⟨0, 9, 15, 66⟩] ⟨0, 9, 18, 21⟩ [] htab (fun z hz => by
        simp only [List.mem_cons, List.not_mem_nil, or_false] at hz
        rcases hz with rfl | rfl
        · exact Or.inr ⟨by decide, "java/util/NoSuchElementException", htc (.classLink RL 27 "java/util/NoSuchElementException") (by decide +kernel), hE.2.2.2.2.2 ("java/lang/IllegalStateException", "java/util/NoSuchElementException") (by decide +kernel)⟩
        · exact Or.inr ⟨by decide, "java/lang/UnsupportedOperationException", htc (.classLink RL 66 "java/lang/UnsupportedOperationException") (by decide +kernel), hE.2.2.2.2.2 ("java/lang/IllegalStateException", "java/lang/UnsupportedOperationException") (by decide +kernel)⟩) (by decide) (by decide) (htc (.classLink RL 21 "java/lang/IllegalStateException") (by decide +kernel)) (va_Nw.use rfl (hE.2.1 _ (List.mem_of_getElem? (i := 5) rfl))) h1 h2 h3 ?_
      refine lv_astore_n (pc := 18) (lv' := [(3, .ref q9), (0, .ref (ad 0)), (1, .int a1), (2, .ref qo)]) hx hb dL_close_18 rfl hl (by decide) rfl (fun ls hl => ?_)
      refine lv_iconst (v := 3) hx hb dL_close_19 (by decide) ?_
      exact W.iret (v := 3) hx hb hr (fun t ht hW => ⟨⟨_, (), rfl, rfl, by rw [ht]; exact hP, hD⟩, hS.F ht⟩) hS.2.2 dL_close_20
    · rw [q] at h3
      have e1 : rv = 1 := by rw [hrv, q]; rfl
      rw [e1]
      refine vx_catch (own := RL) (name := "java/util/NoSuchElementException") (E := "java/util/NoSuchElementException") hown [] ⟨0, 9, 12, 27⟩ [⟨0, 9, 15, 66⟩, ⟨0, 9, 18, 21⟩] htab (fun z hz => absurd hz List.not_mem_nil) (by decide) (by decide) (htc (.classLink RL 27 "java/util/NoSuchElementException") (by decide +kernel)) (va_Nw.use rfl (hE.2.1 _ (List.mem_of_getElem? (i := 6) rfl))) h1 h2 h3 ?_
      refine lv_astore_n (pc := 12) (lv' := [(3, .ref q9), (0, .ref (ad 0)), (1, .int a1), (2, .ref qo)]) hx hb dL_close_12 rfl hl (by decide) rfl (fun ls hl => ?_)
      refine lv_iconst (v := 1) hx hb dL_close_13 (by decide) ?_
      exact W.iret (v := 1) hx hb hr (fun t ht hW => ⟨⟨_, (), rfl, rfl, by rw [ht]; exact hP, hD⟩, hS.F ht⟩) hS.2.2 dL_close_14
    · rw [q] at h3
      have e1 : rv = 2 := by rw [hrv, q]; rfl
      rw [e1]
      refine vx_catch (own := RL) (name := "java/lang/UnsupportedOperationException") (E := "java/lang/UnsupportedOperationException") hown [⟨0, 9, 12, 27⟩] ⟨0, 9, 15, 66⟩ [⟨0, 9, 18, 21⟩] htab (fun z hz => by
        simp only [List.mem_cons, List.not_mem_nil, or_false] at hz
        rcases hz with rfl
        · exact Or.inr ⟨by decide, "java/util/NoSuchElementException", htc (.classLink RL 27 "java/util/NoSuchElementException") (by decide +kernel), hE.2.2.2.2.2 ("java/lang/UnsupportedOperationException", "java/util/NoSuchElementException") (by decide +kernel)⟩) (by decide) (by decide) (htc (.classLink RL 66 "java/lang/UnsupportedOperationException") (by decide +kernel)) (va_Nw.use rfl (hE.2.1 _ (List.mem_of_getElem? (i := 7) rfl))) h1 h2 h3 ?_
      refine lv_astore_n (pc := 15) (lv' := [(3, .ref q9), (0, .ref (ad 0)), (1, .int a1), (2, .ref qo)]) hx hb dL_close_15 rfl hl (by decide) rfl (fun ls hl => ?_)
      refine lv_iconst (v := 2) hx hb dL_close_16 (by decide) ?_
      exact W.iret (v := 2) hx hb hr (fun t ht hW => ⟨⟨_, (), rfl, rfl, by rw [ht]; exact hP, hD⟩, hS.F ht⟩) hS.2.2 dL_close_17
  · have e1 : rv = 0 := hrv.trans (if_pos c1)
    rw [e1]
    refine lv_i2l (v := (f_X5_close σ a1).2.1.toInt64) hx hb dL_close_7 rfl ?_
    have e2 : o1 = vp_updL o (0 : Int32).toNatClampNeg (f_X5_close σ a1).2.1.toInt64 := ho1.trans ((if_pos c1).trans rfl)
    rw [e2]
    refine va_last hx hb hE.1 hP hD hS 51 3 rfl rfl z_in01 dL_close_8 (fun H locs hP hD hS => ?_)
    have hP : va_P G vwCl (zw cs ad (f_X5_close σ a1).2.2 (zt cs qo (vp_updL o (0 : Int32).toNatClampNeg (f_X5_close σ a1).2.1.toInt64) qd d)) H := hP
    have hD : va_D A (zw cs ad (f_X5_close σ a1).2.2 (zt cs qo (vp_updL o (0 : Int32).toNatClampNeg (f_X5_close σ a1).2.1.toInt64) qd d)) := hD
    refine lv_goto (tgt := 21) hx hb dL_close_9 (by decide) ?_
    refine lv_iconst (v := 0) hx hb dL_close_21 (by decide) ?_
    exact W.iret (v := 0) hx hb hr (fun t ht hW => ⟨⟨_, (), rfl, rfl, by rw [ht]; exact hP, hD⟩, hS.F ht⟩) hS.2.2 dL_close_22
theorem codes_X5_checkCrew (a1 : Int32) : (f_X5_checkCrew a1) ∈ ([0, 2] : List Nat) := by
  unfold f_X5_checkCrew
  by_cases c1 : (f_X5_isCrew a1) = 0
  · rw [if_pos c1]
    exact (show 2 ∈ ([0, 2] : List Nat) by decide)
  · rw [if_neg c1]
    exact (show 0 ∈ ([0, 2] : List Nat) by decide)
theorem codes_X5_begin (σ : zS) (a1 : Int32) : (f_X5_begin σ a1).1 ∈ ([0, 2, 3] : List Nat) := by
  unfold f_X5_begin
  by_cases c1 : (f_X5_checkCrew a1) = 0
  · rw [if_pos c1]
    by_cases c2 : (f_X1_crewOnDuty σ ) = (-1)
    · rw [if_pos c2]
      exact (show 0 ∈ ([0, 2, 3] : List Nat) by decide)
    · rw [if_neg c2]
      exact (show 3 ∈ ([0, 2, 3] : List Nat) by decide)
  · rw [if_neg c1]
    exact zmem (codes_X5_checkCrew a1) (by decide)
def f_L_begin : Nat → Int32 := fun k => if k = 0 then 0 else if k = 2 then 1 else if k = 3 then 2 else 9
def zws_begin : List Cond := .codeWith yL_begin cL_begin 4 (some .int) [(0, 9, 12, 19), (0, 9, 15, 21)] :: (zcl ++ wsL_begin)
set_option maxRecDepth 100000 in
theorem c_L_begin (l : Launch) (hfl : l.stackTraces = false) (G : va_G) (cs : Nat → ClassId) (ad : Nat → Nat) (qo : Nat) (o : Nat → Int64) (qd : Nat) (d : Nat → UInt64) (σ : zS) (a1 : Int32)  : zMi l yL_begin zws_begin { frames := 8, cells := 2, slots := 12, locals := 131 } G cs [.ref (ad 0), .int a1, .ref qo] (zw cs ad σ (zt cs qo o qd d)) (f_L_begin (f_X5_begin σ a1).1) (zw cs ad (f_X5_begin σ a1).2.2 (zt cs qo (zo (f_X5_begin σ a1).1 (f_X5_begin σ a1).2.1.toInt64 o) qd d)) 2 12 := by
  intro sz
  refine z_ofWH (cc := cL_begin) (maxL := 4) (ret := (some .int)) (hh := [(0, 9, 12, 19), (0, 9, 15, 21)]) (by decide) rfl ?_
  intro p e s m args below meth c s₁ B hml hv
  obtain ⟨rfl, hsz, hP, hD0, hE⟩ := hv
  have hx := B.exec
  have hb := B.bytes
  have hr := B.returns
  have hts1 := atoms_spec (ws := zws_begin) B.pre
  have htc : ∀ w ∈ zcl, w.before _ s = true := fun w h => hts1 w (List.mem_cons_of_mem _ (List.mem_append_left _ h))
  have hts : ∀ w ∈ wsL_begin, w.before _ s = true := fun w h => hts1 w (List.mem_cons_of_mem _ (List.mem_append_right _ h))
  have hown : s.vm.findClass RL = some m.cls := findClass_of_methodNamed B.named
  have hlocks := B.notSynchronized
  have htab := vx_table (x := yL_begin) B (hts1 _ List.mem_cons_self)
  subst hsz
  have hD := hD0.self (sz := s.heap.size)
  have hA : ∀ q : Nat, s.heap.size ≤ q → (va_A (zw cs ad σ (zt cs qo o qd d)) s.heap.size) q := fun q h => Or.inr h
  generalize va_A (zw cs ad σ (zt cs qo o qd d)) s.heap.size = A at hD hE hA ⊢
  have hS : va_S A s.heap s.heap [] := va_S.rf
  have hl := lv_entry ([.ref (ad 0), .int a1, .ref qo]) (n := 4) (Nat.le_of_ble_eq_true rfl)
  rw [lg_entry_eq]
  generalize (lg_sl ([.ref (ad 0), .int a1, .ref qo]) ++ List.replicate (4 - (lg_sl ([.ref (ad 0), .int a1, .ref qo])).length) Slot.unset).toArray = ls at hl ⊢
  have hl : lv_has ls 4 [(0, .ref (ad 0)), (1, .int a1), (2, .ref qo)] := hl
  have hcd := codes_X5_begin σ a1
  obtain ⟨rv, hrv⟩ : ∃ z, z = f_L_begin (f_X5_begin σ a1).1 := ⟨_, rfl⟩
  obtain ⟨o1, ho1⟩ : ∃ z, z = zo (f_X5_begin σ a1).1 (f_X5_begin σ a1).2.1.toInt64 o := ⟨_, rfl⟩
  rw [← hrv, ← ho1]
  refine lv_aload_n hx hb dL_begin_0 rfl (lv_at hl 2 rfl) ?_
  refine lv_iconst (v := 0) hx hb dL_begin_1 (by decide) ?_
  refine lv_aload_n hx hb dL_begin_2 rfl (lv_at hl 0 rfl) ?_
  refine lv_iload_n hx hb dL_begin_3 rfl (lv_at hl 1 rfl) ?_
  refine zaxi (vx_runV (As := [.int a1]) (rest := [.int 0, .ref qo]) ⟨hx, hb, hml, hown, hts⟩ (c_X5_begin l hfl G cs ad (zt cs qo o qd d) σ a1  s.heap.size) (cwV 1 hts gL_begin_X5_begin rfl rfl rfl (by decide +kernel) ⟨Nat.le_of_ble_eq_true rfl, Nat.le_of_ble_eq_true rfl⟩) (zpv hE hP hD hS hA (zg_0 cs ad σ (zt cs qo o qd d)) rfl) rfl rfl hl.1 rfl (lv_room (Nat.le_of_ble_eq_true rfl)) dL_begin_4 ⟨Nat.le_of_ble_eq_true rfl, Nat.le_of_ble_eq_true rfl⟩) hD hS hA (fun c1 ce q9 H locs hP hD hS h1 h2 h3 => ?_) (fun c1 H locs hP hD hS => ?_)
  · have e2 : o1 = o := ho1.trans (if_neg c1)
    rw [e2]
    simp only [List.mem_cons, List.not_mem_nil, or_false] at hcd
    rcases hcd with q | q | q
    · exact absurd q c1
    · rw [q] at h3
      have e1 : rv = 1 := by rw [hrv, q]; rfl
      rw [e1]
      refine vx_catch (own := RL) (name := "java/lang/IllegalArgumentException") (E := "java/lang/IllegalArgumentException") hown [] ⟨0, 9, 12, 19⟩ [⟨0, 9, 15, 21⟩] htab (fun z hz => absurd hz List.not_mem_nil) (by decide) (by decide) (htc (.classLink RL 19 "java/lang/IllegalArgumentException") (by decide +kernel)) (va_Nw.use rfl (hE.2.1 _ (List.mem_of_getElem? (i := 4) rfl))) h1 h2 h3 ?_
      refine lv_astore_n (pc := 12) (lv' := [(3, .ref q9), (0, .ref (ad 0)), (1, .int a1), (2, .ref qo)]) hx hb dL_begin_12 rfl hl (by decide) rfl (fun ls hl => ?_)
      refine lv_iconst (v := 1) hx hb dL_begin_13 (by decide) ?_
      exact W.iret (v := 1) hx hb hr (fun t ht hW => ⟨⟨_, (), rfl, rfl, by rw [ht]; exact hP, hD⟩, hS.F ht⟩) hS.2.2 dL_begin_14
    · rw [q] at h3
      have e1 : rv = 2 := by rw [hrv, q]; rfl
      rw [e1]
      refine vx_catch (own := RL) (name := "java/lang/IllegalStateException") (E := "java/lang/IllegalStateException") hown [⟨0, 9, 12, 19⟩] ⟨0, 9, 15, 21⟩ [] htab (fun z hz => by
        simp only [List.mem_cons, List.not_mem_nil, or_false] at hz
        rcases hz with rfl
        · exact Or.inr ⟨by decide, "java/lang/IllegalArgumentException", htc (.classLink RL 19 "java/lang/IllegalArgumentException") (by decide +kernel), hE.2.2.2.2.2 ("java/lang/IllegalStateException", "java/lang/IllegalArgumentException") (by decide +kernel)⟩) (by decide) (by decide) (htc (.classLink RL 21 "java/lang/IllegalStateException") (by decide +kernel)) (va_Nw.use rfl (hE.2.1 _ (List.mem_of_getElem? (i := 5) rfl))) h1 h2 h3 ?_
      refine lv_astore_n (pc := 15) (lv' := [(3, .ref q9), (0, .ref (ad 0)), (1, .int a1), (2, .ref qo)]) hx hb dL_begin_15 rfl hl (by decide) rfl (fun ls hl => ?_)
      refine lv_iconst (v := 2) hx hb dL_begin_16 (by decide) ?_
      exact W.iret (v := 2) hx hb hr (fun t ht hW => ⟨⟨_, (), rfl, rfl, by rw [ht]; exact hP, hD⟩, hS.F ht⟩) hS.2.2 dL_begin_17
  · have e1 : rv = 0 := hrv.trans (if_pos c1)
    rw [e1]
    refine lv_i2l (v := (f_X5_begin σ a1).2.1.toInt64) hx hb dL_begin_7 rfl ?_
    have e2 : o1 = vp_updL o (0 : Int32).toNatClampNeg (f_X5_begin σ a1).2.1.toInt64 := ho1.trans ((if_pos c1).trans rfl)
    rw [e2]
    refine va_last hx hb hE.1 hP hD hS 51 3 rfl rfl z_in01 dL_begin_8 (fun H locs hP hD hS => ?_)
    have hP : va_P G vwCl (zw cs ad (f_X5_begin σ a1).2.2 (zt cs qo (vp_updL o (0 : Int32).toNatClampNeg (f_X5_begin σ a1).2.1.toInt64) qd d)) H := hP
    have hD : va_D A (zw cs ad (f_X5_begin σ a1).2.2 (zt cs qo (vp_updL o (0 : Int32).toNatClampNeg (f_X5_begin σ a1).2.1.toInt64) qd d)) := hD
    refine lv_goto (tgt := 18) hx hb dL_begin_9 (by decide) ?_
    refine lv_iconst (v := 0) hx hb dL_begin_18 (by decide) ?_
    exact W.iret (v := 0) hx hb hr (fun t ht hW => ⟨⟨_, (), rfl, rfl, by rw [ht]; exact hP, hD⟩, hS.F ht⟩) hS.2.2 dL_begin_19
theorem codes_X5_handOver (σ : zS) (a1 : Int32) : (f_X5_handOver σ a1).1 ∈ ([0, 2, 3, 5] : List Nat) := by
  unfold f_X5_handOver
  by_cases c1 : (f_X5_checkCrew a1) = 0
  · rw [if_pos c1]
    by_cases c2 : (f_X5_checkAtWork σ ) = 0
    · rw [if_pos c2]
      by_cases c3 : (f_X1_crewOnDuty σ ) = a1
      · rw [if_pos c3]
        exact (show 3 ∈ ([0, 2, 3, 5] : List Nat) by decide)
      · rw [if_neg c3]
        by_cases c4 : (f_X1_restOf σ a1 (σ 0 6)) ≤ 0
        · rw [if_pos c4]
          exact (show 0 ∈ ([0, 2, 3, 5] : List Nat) by decide)
        · rw [if_neg c4]
          exact (show 5 ∈ ([0, 2, 3, 5] : List Nat) by decide)
    · rw [if_neg c2]
      exact zmem (codes_X5_checkAtWork σ ) (by decide)
  · rw [if_neg c1]
    exact zmem (codes_X5_checkCrew a1) (by decide)
def f_L_handOver : Nat → Int32 := fun k => if k = 0 then 0 else if k = 2 then 1 else if k = 3 then 2 else if k = 5 then 3 else 9
def zws_handOver : List Cond := .codeWith yL_handOver cL_handOver 4 (some .int) [(0, 9, 12, 19), (0, 9, 15, 21), (0, 9, 18, 66)] :: (zcl ++ wsL_handOver)
set_option maxRecDepth 100000 in
theorem c_L_handOver (l : Launch) (hfl : l.stackTraces = false) (G : va_G) (cs : Nat → ClassId) (ad : Nat → Nat) (qo : Nat) (o : Nat → Int64) (qd : Nat) (d : Nat → UInt64) (σ : zS) (a1 : Int32)  : zMi l yL_handOver zws_handOver { frames := 8, cells := 3, slots := 18, locals := 131 } G cs [.ref (ad 0), .int a1, .ref qo] (zw cs ad σ (zt cs qo o qd d)) (f_L_handOver (f_X5_handOver σ a1).1) (zw cs ad (f_X5_handOver σ a1).2.2 (zt cs qo (zo (f_X5_handOver σ a1).1 (f_X5_handOver σ a1).2.1.toInt64 o) qd d)) 3 18 := by
  intro sz
  refine z_ofWH (cc := cL_handOver) (maxL := 4) (ret := (some .int)) (hh := [(0, 9, 12, 19), (0, 9, 15, 21), (0, 9, 18, 66)]) (by decide) rfl ?_
  intro p e s m args below meth c s₁ B hml hv
  obtain ⟨rfl, hsz, hP, hD0, hE⟩ := hv
  have hx := B.exec
  have hb := B.bytes
  have hr := B.returns
  have hts1 := atoms_spec (ws := zws_handOver) B.pre
  have htc : ∀ w ∈ zcl, w.before _ s = true := fun w h => hts1 w (List.mem_cons_of_mem _ (List.mem_append_left _ h))
  have hts : ∀ w ∈ wsL_handOver, w.before _ s = true := fun w h => hts1 w (List.mem_cons_of_mem _ (List.mem_append_right _ h))
  have hown : s.vm.findClass RL = some m.cls := findClass_of_methodNamed B.named
  have hlocks := B.notSynchronized
  have htab := vx_table (x := yL_handOver) B (hts1 _ List.mem_cons_self)
  subst hsz
  have hD := hD0.self (sz := s.heap.size)
  have hA : ∀ q : Nat, s.heap.size ≤ q → (va_A (zw cs ad σ (zt cs qo o qd d)) s.heap.size) q := fun q h => Or.inr h
  generalize va_A (zw cs ad σ (zt cs qo o qd d)) s.heap.size = A at hD hE hA ⊢
  have hS : va_S A s.heap s.heap [] := va_S.rf
  have hl := lv_entry ([.ref (ad 0), .int a1, .ref qo]) (n := 4) (Nat.le_of_ble_eq_true rfl)
  rw [lg_entry_eq]
  generalize (lg_sl ([.ref (ad 0), .int a1, .ref qo]) ++ List.replicate (4 - (lg_sl ([.ref (ad 0), .int a1, .ref qo])).length) Slot.unset).toArray = ls at hl ⊢
  have hl : lv_has ls 4 [(0, .ref (ad 0)), (1, .int a1), (2, .ref qo)] := hl
  have hcd := codes_X5_handOver σ a1
  obtain ⟨rv, hrv⟩ : ∃ z, z = f_L_handOver (f_X5_handOver σ a1).1 := ⟨_, rfl⟩
  obtain ⟨o1, ho1⟩ : ∃ z, z = zo (f_X5_handOver σ a1).1 (f_X5_handOver σ a1).2.1.toInt64 o := ⟨_, rfl⟩
  rw [← hrv, ← ho1]
  refine lv_aload_n hx hb dL_handOver_0 rfl (lv_at hl 2 rfl) ?_
  refine lv_iconst (v := 0) hx hb dL_handOver_1 (by decide) ?_
  refine lv_aload_n hx hb dL_handOver_2 rfl (lv_at hl 0 rfl) ?_
  refine lv_iload_n hx hb dL_handOver_3 rfl (lv_at hl 1 rfl) ?_
  refine zaxi (vx_runV (As := [.int a1]) (rest := [.int 0, .ref qo]) ⟨hx, hb, hml, hown, hts⟩ (c_X5_handOver l hfl G cs ad (zt cs qo o qd d) σ a1  s.heap.size) (cwV 1 hts gL_handOver_X5_handOver rfl rfl rfl (by decide +kernel) ⟨Nat.le_of_ble_eq_true rfl, Nat.le_of_ble_eq_true rfl⟩) (zpv hE hP hD hS hA (zg_0 cs ad σ (zt cs qo o qd d)) rfl) rfl rfl hl.1 rfl (lv_room (Nat.le_of_ble_eq_true rfl)) dL_handOver_4 ⟨Nat.le_of_ble_eq_true rfl, Nat.le_of_ble_eq_true rfl⟩) hD hS hA (fun c1 ce q9 H locs hP hD hS h1 h2 h3 => ?_) (fun c1 H locs hP hD hS => ?_)
  · have e2 : o1 = o := ho1.trans (if_neg c1)
    rw [e2]
    simp only [List.mem_cons, List.not_mem_nil, or_false] at hcd
    rcases hcd with q | q | q | q
    · exact absurd q c1
    · rw [q] at h3
      have e1 : rv = 1 := by rw [hrv, q]; rfl
      rw [e1]
      refine vx_catch (own := RL) (name := "java/lang/IllegalArgumentException") (E := "java/lang/IllegalArgumentException") hown [] ⟨0, 9, 12, 19⟩ [⟨0, 9, 15, 21⟩, ⟨0, 9, 18, 66⟩] htab (fun z hz => absurd hz List.not_mem_nil) (by decide) (by decide) (htc (.classLink RL 19 "java/lang/IllegalArgumentException") (by decide +kernel)) (va_Nw.use rfl (hE.2.1 _ (List.mem_of_getElem? (i := 4) rfl))) h1 h2 h3 ?_
      refine lv_astore_n (pc := 12) (lv' := [(3, .ref q9), (0, .ref (ad 0)), (1, .int a1), (2, .ref qo)]) hx hb dL_handOver_12 rfl hl (by decide) rfl (fun ls hl => ?_)
      refine lv_iconst (v := 1) hx hb dL_handOver_13 (by decide) ?_
      exact W.iret (v := 1) hx hb hr (fun t ht hW => ⟨⟨_, (), rfl, rfl, by rw [ht]; exact hP, hD⟩, hS.F ht⟩) hS.2.2 dL_handOver_14
    · rw [q] at h3
      have e1 : rv = 2 := by rw [hrv, q]; rfl
      rw [e1]
      refine vx_catch (own := RL) (name := "java/lang/IllegalStateException") (E := "java/lang/IllegalStateException") hown [⟨0, 9, 12, 19⟩] ⟨0, 9, 15, 21⟩ [⟨0, 9, 18, 66⟩] htab (fun z hz => by
        simp only [List.mem_cons, List.not_mem_nil, or_false] at hz
        rcases hz with rfl
        · exact Or.inr ⟨by decide, "java/lang/IllegalArgumentException", htc (.classLink RL 19 "java/lang/IllegalArgumentException") (by decide +kernel), hE.2.2.2.2.2 ("java/lang/IllegalStateException", "java/lang/IllegalArgumentException") (by decide +kernel)⟩) (by decide) (by decide) (htc (.classLink RL 21 "java/lang/IllegalStateException") (by decide +kernel)) (va_Nw.use rfl (hE.2.1 _ (List.mem_of_getElem? (i := 5) rfl))) h1 h2 h3 ?_
      refine lv_astore_n (pc := 15) (lv' := [(3, .ref q9), (0, .ref (ad 0)), (1, .int a1), (2, .ref qo)]) hx hb dL_handOver_15 rfl hl (by decide) rfl (fun ls hl => ?_)
      refine lv_iconst (v := 2) hx hb dL_handOver_16 (by decide) ?_
      exact W.iret (v := 2) hx hb hr (fun t ht hW => ⟨⟨_, (), rfl, rfl, by rw [ht]; exact hP, hD⟩, hS.F ht⟩) hS.2.2 dL_handOver_17
    · rw [q] at h3
      have e1 : rv = 3 := by rw [hrv, q]; rfl
      rw [e1]
      refine vx_catch (own := RL) (name := "java/lang/UnsupportedOperationException") (E := "java/lang/UnsupportedOperationException") hown [⟨0, 9, 12, 19⟩, ⟨0, 9, 15, 21⟩] ⟨0, 9, 18, 66⟩ [] htab (fun z hz => by
        simp only [List.mem_cons, List.not_mem_nil, or_false] at hz
        rcases hz with rfl | rfl
        · exact Or.inr ⟨by decide, "java/lang/IllegalArgumentException", htc (.classLink RL 19 "java/lang/IllegalArgumentException") (by decide +kernel), hE.2.2.2.2.2 ("java/lang/UnsupportedOperationException", "java/lang/IllegalArgumentException") (by decide +kernel)⟩
        · exact Or.inr ⟨by decide, "java/lang/IllegalStateException", htc (.classLink RL 21 "java/lang/IllegalStateException") (by decide +kernel), hE.2.2.2.2.2 ("java/lang/UnsupportedOperationException", "java/lang/IllegalStateException") (by decide +kernel)⟩) (by decide) (by decide) (htc (.classLink RL 66 "java/lang/UnsupportedOperationException") (by decide +kernel)) (va_Nw.use rfl (hE.2.1 _ (List.mem_of_getElem? (i := 7) rfl))) h1 h2 h3 ?_
      refine lv_astore_n (pc := 18) (lv' := [(3, .ref q9), (0, .ref (ad 0)), (1, .int a1), (2, .ref qo)]) hx hb dL_handOver_18 rfl hl (by decide) rfl (fun ls hl => ?_)
      refine lv_iconst (v := 3) hx hb dL_handOver_19 (by decide) ?_
      exact W.iret (v := 3) hx hb hr (fun t ht hW => ⟨⟨_, (), rfl, rfl, by rw [ht]; exact hP, hD⟩, hS.F ht⟩) hS.2.2 dL_handOver_20
  · have e1 : rv = 0 := hrv.trans (if_pos c1)
    rw [e1]
    refine lv_i2l (v := (f_X5_handOver σ a1).2.1.toInt64) hx hb dL_handOver_7 rfl ?_
    have e2 : o1 = vp_updL o (0 : Int32).toNatClampNeg (f_X5_handOver σ a1).2.1.toInt64 := ho1.trans ((if_pos c1).trans rfl)
    rw [e2]
    refine va_last hx hb hE.1 hP hD hS 51 3 rfl rfl z_in01 dL_handOver_8 (fun H locs hP hD hS => ?_)
    have hP : va_P G vwCl (zw cs ad (f_X5_handOver σ a1).2.2 (zt cs qo (vp_updL o (0 : Int32).toNatClampNeg (f_X5_handOver σ a1).2.1.toInt64) qd d)) H := hP
    have hD : va_D A (zw cs ad (f_X5_handOver σ a1).2.2 (zt cs qo (vp_updL o (0 : Int32).toNatClampNeg (f_X5_handOver σ a1).2.1.toInt64) qd d)) := hD
    refine lv_goto (tgt := 21) hx hb dL_handOver_9 (by decide) ?_
    refine lv_iconst (v := 0) hx hb dL_handOver_21 (by decide) ?_
    exact W.iret (v := 0) hx hb hr (fun t ht hW => ⟨⟨_, (), rfl, rfl, by rw [ht]; exact hP, hD⟩, hS.F ht⟩) hS.2.2 dL_handOver_22
theorem codes_X5_checkHandOver (σ : zS)  : (f_X5_checkHandOver σ ) ∈ ([0, 3] : List Nat) := by
  unfold f_X5_checkHandOver
  by_cases c1 : (f_X1_isHandingOver σ ) = 0
  · rw [if_pos c1]
    exact (show 3 ∈ ([0, 3] : List Nat) by decide)
  · rw [if_neg c1]
    exact (show 0 ∈ ([0, 3] : List Nat) by decide)
theorem codes_X5_acknowledge (σ : zS) (a1 : Int32) : (f_X5_acknowledge σ a1).1 ∈ ([0, 3, 4] : List Nat) := by
  unfold f_X5_acknowledge
  by_cases c1 : (f_X5_checkLine σ a1) = 0
  · rw [if_pos c1]
    by_cases c2 : (f_X5_checkHandOver σ ) = 0
    · rw [if_pos c2]
      by_cases c3 : (f_X2_isOpen σ a1) = 0
      · rw [if_pos c3]
        exact (show 3 ∈ ([0, 3, 4] : List Nat) by decide)
      · rw [if_neg c3]
        by_cases c4 : (f_X2_isAcknowledged σ a1) = 0
        · rw [if_pos c4]
          exact (show 0 ∈ ([0, 3, 4] : List Nat) by decide)
        · rw [if_neg c4]
          exact (show 3 ∈ ([0, 3, 4] : List Nat) by decide)
    · rw [if_neg c2]
      exact zmem (codes_X5_checkHandOver σ ) (by decide)
  · rw [if_neg c1]
    exact zmem (codes_X5_checkLine σ a1) (by decide)
def f_L_acknowledge : Nat → Int32 := fun k => if k = 0 then 0 else if k = 4 then 1 else if k = 3 then 2 else 9
def zws_acknowledge : List Cond := .codeWith yL_acknowledge cL_acknowledge 4 (some .int) [(0, 9, 12, 27), (0, 9, 15, 21)] :: (zcl ++ wsL_acknowledge)
set_option maxRecDepth 100000 in
theorem c_L_acknowledge (l : Launch) (hfl : l.stackTraces = false) (G : va_G) (cs : Nat → ClassId) (ad : Nat → Nat) (qo : Nat) (o : Nat → Int64) (qd : Nat) (d : Nat → UInt64) (σ : zS) (a1 : Int32)  : zMi l yL_acknowledge zws_acknowledge { frames := 8, cells := 3, slots := 18, locals := 132 } G cs [.ref (ad 0), .int a1, .ref qo] (zw cs ad σ (zt cs qo o qd d)) (f_L_acknowledge (f_X5_acknowledge σ a1).1) (zw cs ad (f_X5_acknowledge σ a1).2.2 (zt cs qo (zo (f_X5_acknowledge σ a1).1 (f_X5_acknowledge σ a1).2.1.toInt64 o) qd d)) 3 18 := by
  intro sz
  refine z_ofWH (cc := cL_acknowledge) (maxL := 4) (ret := (some .int)) (hh := [(0, 9, 12, 27), (0, 9, 15, 21)]) (by decide) rfl ?_
  intro p e s m args below meth c s₁ B hml hv
  obtain ⟨rfl, hsz, hP, hD0, hE⟩ := hv
  have hx := B.exec
  have hb := B.bytes
  have hr := B.returns
  have hts1 := atoms_spec (ws := zws_acknowledge) B.pre
  have htc : ∀ w ∈ zcl, w.before _ s = true := fun w h => hts1 w (List.mem_cons_of_mem _ (List.mem_append_left _ h))
  have hts : ∀ w ∈ wsL_acknowledge, w.before _ s = true := fun w h => hts1 w (List.mem_cons_of_mem _ (List.mem_append_right _ h))
  have hown : s.vm.findClass RL = some m.cls := findClass_of_methodNamed B.named
  have hlocks := B.notSynchronized
  have htab := vx_table (x := yL_acknowledge) B (hts1 _ List.mem_cons_self)
  subst hsz
  have hD := hD0.self (sz := s.heap.size)
  have hA : ∀ q : Nat, s.heap.size ≤ q → (va_A (zw cs ad σ (zt cs qo o qd d)) s.heap.size) q := fun q h => Or.inr h
  generalize va_A (zw cs ad σ (zt cs qo o qd d)) s.heap.size = A at hD hE hA ⊢
  have hS : va_S A s.heap s.heap [] := va_S.rf
  have hl := lv_entry ([.ref (ad 0), .int a1, .ref qo]) (n := 4) (Nat.le_of_ble_eq_true rfl)
  rw [lg_entry_eq]
  generalize (lg_sl ([.ref (ad 0), .int a1, .ref qo]) ++ List.replicate (4 - (lg_sl ([.ref (ad 0), .int a1, .ref qo])).length) Slot.unset).toArray = ls at hl ⊢
  have hl : lv_has ls 4 [(0, .ref (ad 0)), (1, .int a1), (2, .ref qo)] := hl
  have hcd := codes_X5_acknowledge σ a1
  obtain ⟨rv, hrv⟩ : ∃ z, z = f_L_acknowledge (f_X5_acknowledge σ a1).1 := ⟨_, rfl⟩
  obtain ⟨o1, ho1⟩ : ∃ z, z = zo (f_X5_acknowledge σ a1).1 (f_X5_acknowledge σ a1).2.1.toInt64 o := ⟨_, rfl⟩
  rw [← hrv, ← ho1]
  refine lv_aload_n hx hb dL_acknowledge_0 rfl (lv_at hl 2 rfl) ?_
  refine lv_iconst (v := 0) hx hb dL_acknowledge_1 (by decide) ?_
  refine lv_aload_n hx hb dL_acknowledge_2 rfl (lv_at hl 0 rfl) ?_
  refine lv_iload_n hx hb dL_acknowledge_3 rfl (lv_at hl 1 rfl) ?_
  refine zaxi (vx_runV (As := [.int a1]) (rest := [.int 0, .ref qo]) ⟨hx, hb, hml, hown, hts⟩ (c_X5_acknowledge l hfl G cs ad (zt cs qo o qd d) σ a1  s.heap.size) (cwV 1 hts gL_acknowledge_X5_acknowledge rfl rfl rfl (by decide +kernel) ⟨Nat.le_of_ble_eq_true rfl, Nat.le_of_ble_eq_true rfl⟩) (zpv hE hP hD hS hA (zg_0 cs ad σ (zt cs qo o qd d)) rfl) rfl rfl hl.1 rfl (lv_room (Nat.le_of_ble_eq_true rfl)) dL_acknowledge_4 ⟨Nat.le_of_ble_eq_true rfl, Nat.le_of_ble_eq_true rfl⟩) hD hS hA (fun c1 ce q9 H locs hP hD hS h1 h2 h3 => ?_) (fun c1 H locs hP hD hS => ?_)
  · have e2 : o1 = o := ho1.trans (if_neg c1)
    rw [e2]
    simp only [List.mem_cons, List.not_mem_nil, or_false] at hcd
    rcases hcd with q | q | q
    · exact absurd q c1
    · rw [q] at h3
      have e1 : rv = 2 := by rw [hrv, q]; rfl
      rw [e1]
      refine vx_catch (own := RL) (name := "java/lang/IllegalStateException") (E := "java/lang/IllegalStateException") hown [⟨0, 9, 12, 27⟩] ⟨0, 9, 15, 21⟩ [] htab (fun z hz => by
        simp only [List.mem_cons, List.not_mem_nil, or_false] at hz
        rcases hz with rfl
        · exact Or.inr ⟨by decide, "java/util/NoSuchElementException", htc (.classLink RL 27 "java/util/NoSuchElementException") (by decide +kernel), hE.2.2.2.2.2 ("java/lang/IllegalStateException", "java/util/NoSuchElementException") (by decide +kernel)⟩) (by decide) (by decide) (htc (.classLink RL 21 "java/lang/IllegalStateException") (by decide +kernel)) (va_Nw.use rfl (hE.2.1 _ (List.mem_of_getElem? (i := 5) rfl))) h1 h2 h3 ?_
      refine lv_astore_n (pc := 15) (lv' := [(3, .ref q9), (0, .ref (ad 0)), (1, .int a1), (2, .ref qo)]) hx hb dL_acknowledge_15 rfl hl (by decide) rfl (fun ls hl => ?_)
      refine lv_iconst (v := 2) hx hb dL_acknowledge_16 (by decide) ?_
      exact W.iret (v := 2) hx hb hr (fun t ht hW => ⟨⟨_, (), rfl, rfl, by rw [ht]; exact hP, hD⟩, hS.F ht⟩) hS.2.2 dL_acknowledge_17
    · rw [q] at h3
      have e1 : rv = 1 := by rw [hrv, q]; rfl
      rw [e1]
      refine vx_catch (own := RL) (name := "java/util/NoSuchElementException") (E := "java/util/NoSuchElementException") hown [] ⟨0, 9, 12, 27⟩ [⟨0, 9, 15, 21⟩] htab (fun z hz => absurd hz List.not_mem_nil) (by decide) (by decide) (htc (.classLink RL 27 "java/util/NoSuchElementException") (by decide +kernel)) (va_Nw.use rfl (hE.2.1 _ (List.mem_of_getElem? (i := 6) rfl))) h1 h2 h3 ?_
      refine lv_astore_n (pc := 12) (lv' := [(3, .ref q9), (0, .ref (ad 0)), (1, .int a1), (2, .ref qo)]) hx hb dL_acknowledge_12 rfl hl (by decide) rfl (fun ls hl => ?_)
      refine lv_iconst (v := 1) hx hb dL_acknowledge_13 (by decide) ?_
      exact W.iret (v := 1) hx hb hr (fun t ht hW => ⟨⟨_, (), rfl, rfl, by rw [ht]; exact hP, hD⟩, hS.F ht⟩) hS.2.2 dL_acknowledge_14
  · have e1 : rv = 0 := hrv.trans (if_pos c1)
    rw [e1]
    refine lv_i2l (v := (f_X5_acknowledge σ a1).2.1.toInt64) hx hb dL_acknowledge_7 rfl ?_
    have e2 : o1 = vp_updL o (0 : Int32).toNatClampNeg (f_X5_acknowledge σ a1).2.1.toInt64 := ho1.trans ((if_pos c1).trans rfl)
    rw [e2]
    refine va_last hx hb hE.1 hP hD hS 51 3 rfl rfl z_in01 dL_acknowledge_8 (fun H locs hP hD hS => ?_)
    have hP : va_P G vwCl (zw cs ad (f_X5_acknowledge σ a1).2.2 (zt cs qo (vp_updL o (0 : Int32).toNatClampNeg (f_X5_acknowledge σ a1).2.1.toInt64) qd d)) H := hP
    have hD : va_D A (zw cs ad (f_X5_acknowledge σ a1).2.2 (zt cs qo (vp_updL o (0 : Int32).toNatClampNeg (f_X5_acknowledge σ a1).2.1.toInt64) qd d)) := hD
    refine lv_goto (tgt := 18) hx hb dL_acknowledge_9 (by decide) ?_
    refine lv_iconst (v := 0) hx hb dL_acknowledge_18 (by decide) ?_
    exact W.iret (v := 0) hx hb hr (fun t ht hW => ⟨⟨_, (), rfl, rfl, by rw [ht]; exact hP, hD⟩, hS.F ht⟩) hS.2.2 dL_acknowledge_19
theorem codes_X5_take (σ : zS)  : (f_X5_take σ ).1 ∈ ([0, 3, 5] : List Nat) := by
  unfold f_X5_take
  by_cases c1 : (f_X5_checkHandOver σ ) = 0
  · rw [if_pos c1]
    by_cases c2 : (f_X2_openCount σ ) ≤ (f_X2_acknowledgedCount σ )
    · rw [if_pos c2]
      exact (show 0 ∈ ([0, 3, 5] : List Nat) by decide)
    · rw [if_neg c2]
      exact (show 5 ∈ ([0, 3, 5] : List Nat) by decide)
  · rw [if_neg c1]
    exact zmem (codes_X5_checkHandOver σ ) (by decide)
def f_L_take : Nat → Int32 := fun k => if k = 0 then 0 else if k = 3 then 1 else if k = 5 then 2 else 9
def zws_take : List Cond := .codeWith yL_take cL_take 3 (some .int) [(0, 8, 11, 21), (0, 8, 14, 66)] :: (zcl ++ wsL_take)
set_option maxRecDepth 100000 in
theorem c_L_take (l : Launch) (hfl : l.stackTraces = false) (G : va_G) (cs : Nat → ClassId) (ad : Nat → Nat) (qo : Nat) (o : Nat → Int64) (qd : Nat) (d : Nat → UInt64) (σ : zS)   : zMi l yL_take zws_take { frames := 8, cells := 2, slots := 12, locals := 130 } G cs [.ref (ad 0), .ref qo] (zw cs ad σ (zt cs qo o qd d)) (f_L_take (f_X5_take σ ).1) (zw cs ad (f_X5_take σ ).2.2 (zt cs qo (zo (f_X5_take σ ).1 (f_X5_take σ ).2.1.toInt64 o) qd d)) 2 12 := by
  intro sz
  refine z_ofWH (cc := cL_take) (maxL := 3) (ret := (some .int)) (hh := [(0, 8, 11, 21), (0, 8, 14, 66)]) (by decide) rfl ?_
  intro p e s m args below meth c s₁ B hml hv
  obtain ⟨rfl, hsz, hP, hD0, hE⟩ := hv
  have hx := B.exec
  have hb := B.bytes
  have hr := B.returns
  have hts1 := atoms_spec (ws := zws_take) B.pre
  have htc : ∀ w ∈ zcl, w.before _ s = true := fun w h => hts1 w (List.mem_cons_of_mem _ (List.mem_append_left _ h))
  have hts : ∀ w ∈ wsL_take, w.before _ s = true := fun w h => hts1 w (List.mem_cons_of_mem _ (List.mem_append_right _ h))
  have hown : s.vm.findClass RL = some m.cls := findClass_of_methodNamed B.named
  have hlocks := B.notSynchronized
  have htab := vx_table (x := yL_take) B (hts1 _ List.mem_cons_self)
  subst hsz
  have hD := hD0.self (sz := s.heap.size)
  have hA : ∀ q : Nat, s.heap.size ≤ q → (va_A (zw cs ad σ (zt cs qo o qd d)) s.heap.size) q := fun q h => Or.inr h
  generalize va_A (zw cs ad σ (zt cs qo o qd d)) s.heap.size = A at hD hE hA ⊢
  have hS : va_S A s.heap s.heap [] := va_S.rf
  have hl := lv_entry ([.ref (ad 0), .ref qo]) (n := 3) (Nat.le_of_ble_eq_true rfl)
  rw [lg_entry_eq]
  generalize (lg_sl ([.ref (ad 0), .ref qo]) ++ List.replicate (3 - (lg_sl ([.ref (ad 0), .ref qo])).length) Slot.unset).toArray = ls at hl ⊢
  have hl : lv_has ls 3 [(0, .ref (ad 0)), (1, .ref qo)] := hl
  have hcd := codes_X5_take σ 
  obtain ⟨rv, hrv⟩ : ∃ z, z = f_L_take (f_X5_take σ ).1 := ⟨_, rfl⟩
  obtain ⟨o1, ho1⟩ : ∃ z, z = zo (f_X5_take σ ).1 (f_X5_take σ ).2.1.toInt64 o := ⟨_, rfl⟩
  rw [← hrv, ← ho1]
  refine lv_aload_n hx hb dL_take_0 rfl (lv_at hl 1 rfl) ?_
  refine lv_iconst (v := 0) hx hb dL_take_1 (by decide) ?_
  refine lv_aload_n hx hb dL_take_2 rfl (lv_at hl 0 rfl) ?_
  refine zaxi (vx_runV (As := []) (rest := [.int 0, .ref qo]) ⟨hx, hb, hml, hown, hts⟩ (c_X5_take l hfl G cs ad (zt cs qo o qd d) σ   s.heap.size) (cwV 0 hts gL_take_X5_take rfl rfl rfl (by decide +kernel) ⟨Nat.le_of_ble_eq_true rfl, Nat.le_of_ble_eq_true rfl⟩) (zpv hE hP hD hS hA (zg_0 cs ad σ (zt cs qo o qd d)) rfl) rfl rfl hl.1 rfl (lv_room (Nat.le_of_ble_eq_true rfl)) dL_take_3 ⟨Nat.le_of_ble_eq_true rfl, Nat.le_of_ble_eq_true rfl⟩) hD hS hA (fun c1 ce q9 H locs hP hD hS h1 h2 h3 => ?_) (fun c1 H locs hP hD hS => ?_)
  · have e2 : o1 = o := ho1.trans (if_neg c1)
    rw [e2]
    simp only [List.mem_cons, List.not_mem_nil, or_false] at hcd
    rcases hcd with q | q | q
    · exact absurd q c1
    · rw [q] at h3
      have e1 : rv = 1 := by rw [hrv, q]; rfl
      rw [e1]
      refine vx_catch (own := RL) (name := "java/lang/IllegalStateException") (E := "java/lang/IllegalStateException") hown [] ⟨0, 8, 11, 21⟩ [⟨0, 8, 14, 66⟩] htab (fun z hz => absurd hz List.not_mem_nil) (by decide) (by decide) (htc (.classLink RL 21 "java/lang/IllegalStateException") (by decide +kernel)) (va_Nw.use rfl (hE.2.1 _ (List.mem_of_getElem? (i := 5) rfl))) h1 h2 h3 ?_
      refine lv_astore_n (pc := 11) (lv' := [(2, .ref q9), (0, .ref (ad 0)), (1, .ref qo)]) hx hb dL_take_11 rfl hl (by decide) rfl (fun ls hl => ?_)
      refine lv_iconst (v := 1) hx hb dL_take_12 (by decide) ?_
      exact W.iret (v := 1) hx hb hr (fun t ht hW => ⟨⟨_, (), rfl, rfl, by rw [ht]; exact hP, hD⟩, hS.F ht⟩) hS.2.2 dL_take_13
    · rw [q] at h3
      have e1 : rv = 2 := by rw [hrv, q]; rfl
      rw [e1]
      refine vx_catch (own := RL) (name := "java/lang/UnsupportedOperationException") (E := "java/lang/UnsupportedOperationException") hown [⟨0, 8, 11, 21⟩] ⟨0, 8, 14, 66⟩ [] htab (fun z hz => by
        simp only [List.mem_cons, List.not_mem_nil, or_false] at hz
        rcases hz with rfl
        · exact Or.inr ⟨by decide, "java/lang/IllegalStateException", htc (.classLink RL 21 "java/lang/IllegalStateException") (by decide +kernel), hE.2.2.2.2.2 ("java/lang/UnsupportedOperationException", "java/lang/IllegalStateException") (by decide +kernel)⟩) (by decide) (by decide) (htc (.classLink RL 66 "java/lang/UnsupportedOperationException") (by decide +kernel)) (va_Nw.use rfl (hE.2.1 _ (List.mem_of_getElem? (i := 7) rfl))) h1 h2 h3 ?_
      refine lv_astore_n (pc := 14) (lv' := [(2, .ref q9), (0, .ref (ad 0)), (1, .ref qo)]) hx hb dL_take_14 rfl hl (by decide) rfl (fun ls hl => ?_)
      refine lv_iconst (v := 2) hx hb dL_take_15 (by decide) ?_
      exact W.iret (v := 2) hx hb hr (fun t ht hW => ⟨⟨_, (), rfl, rfl, by rw [ht]; exact hP, hD⟩, hS.F ht⟩) hS.2.2 dL_take_16
  · have e1 : rv = 0 := hrv.trans (if_pos c1)
    rw [e1]
    refine lv_i2l (v := (f_X5_take σ ).2.1.toInt64) hx hb dL_take_6 rfl ?_
    have e2 : o1 = vp_updL o (0 : Int32).toNatClampNeg (f_X5_take σ ).2.1.toInt64 := ho1.trans ((if_pos c1).trans rfl)
    rw [e2]
    refine va_last hx hb hE.1 hP hD hS 51 3 rfl rfl z_in01 dL_take_7 (fun H locs hP hD hS => ?_)
    have hP : va_P G vwCl (zw cs ad (f_X5_take σ ).2.2 (zt cs qo (vp_updL o (0 : Int32).toNatClampNeg (f_X5_take σ ).2.1.toInt64) qd d)) H := hP
    have hD : va_D A (zw cs ad (f_X5_take σ ).2.2 (zt cs qo (vp_updL o (0 : Int32).toNatClampNeg (f_X5_take σ ).2.1.toInt64) qd d)) := hD
    refine lv_goto (tgt := 17) hx hb dL_take_8 (by decide) ?_
    refine lv_iconst (v := 0) hx hb dL_take_17 (by decide) ?_
    exact W.iret (v := 0) hx hb hr (fun t ht hW => ⟨⟨_, (), rfl, rfl, by rw [ht]; exact hP, hD⟩, hS.F ht⟩) hS.2.2 dL_take_18
theorem codes_X5_cancel (σ : zS)  : (f_X5_cancel σ ).1 ∈ ([0, 3] : List Nat) := by
  unfold f_X5_cancel
  by_cases c1 : (f_X5_checkHandOver σ ) = 0
  · rw [if_pos c1]
    exact (show 0 ∈ ([0, 3] : List Nat) by decide)
  · rw [if_neg c1]
    exact zmem (codes_X5_checkHandOver σ ) (by decide)
def f_L_cancel : Nat → Int32 := fun k => if k = 0 then 0 else if k = 3 then 1 else 9
def zws_cancel : List Cond := .codeWith yL_cancel cL_cancel 3 (some .int) [(0, 8, 11, 21)] :: (zcl ++ wsL_cancel)
set_option maxRecDepth 100000 in
theorem c_L_cancel (l : Launch) (hfl : l.stackTraces = false) (G : va_G) (cs : Nat → ClassId) (ad : Nat → Nat) (qo : Nat) (o : Nat → Int64) (qd : Nat) (d : Nat → UInt64) (σ : zS)   : zMi l yL_cancel zws_cancel { frames := 8, cells := 1, slots := 6, locals := 130 } G cs [.ref (ad 0), .ref qo] (zw cs ad σ (zt cs qo o qd d)) (f_L_cancel (f_X5_cancel σ ).1) (zw cs ad (f_X5_cancel σ ).2.2 (zt cs qo (zo (f_X5_cancel σ ).1 (f_X5_cancel σ ).2.1.toInt64 o) qd d)) 1 6 := by
  intro sz
  refine z_ofWH (cc := cL_cancel) (maxL := 3) (ret := (some .int)) (hh := [(0, 8, 11, 21)]) (by decide) rfl ?_
  intro p e s m args below meth c s₁ B hml hv
  obtain ⟨rfl, hsz, hP, hD0, hE⟩ := hv
  have hx := B.exec
  have hb := B.bytes
  have hr := B.returns
  have hts1 := atoms_spec (ws := zws_cancel) B.pre
  have htc : ∀ w ∈ zcl, w.before _ s = true := fun w h => hts1 w (List.mem_cons_of_mem _ (List.mem_append_left _ h))
  have hts : ∀ w ∈ wsL_cancel, w.before _ s = true := fun w h => hts1 w (List.mem_cons_of_mem _ (List.mem_append_right _ h))
  have hown : s.vm.findClass RL = some m.cls := findClass_of_methodNamed B.named
  have hlocks := B.notSynchronized
  have htab := vx_table (x := yL_cancel) B (hts1 _ List.mem_cons_self)
  subst hsz
  have hD := hD0.self (sz := s.heap.size)
  have hA : ∀ q : Nat, s.heap.size ≤ q → (va_A (zw cs ad σ (zt cs qo o qd d)) s.heap.size) q := fun q h => Or.inr h
  generalize va_A (zw cs ad σ (zt cs qo o qd d)) s.heap.size = A at hD hE hA ⊢
  have hS : va_S A s.heap s.heap [] := va_S.rf
  have hl := lv_entry ([.ref (ad 0), .ref qo]) (n := 3) (Nat.le_of_ble_eq_true rfl)
  rw [lg_entry_eq]
  generalize (lg_sl ([.ref (ad 0), .ref qo]) ++ List.replicate (3 - (lg_sl ([.ref (ad 0), .ref qo])).length) Slot.unset).toArray = ls at hl ⊢
  have hl : lv_has ls 3 [(0, .ref (ad 0)), (1, .ref qo)] := hl
  have hcd := codes_X5_cancel σ 
  obtain ⟨rv, hrv⟩ : ∃ z, z = f_L_cancel (f_X5_cancel σ ).1 := ⟨_, rfl⟩
  obtain ⟨o1, ho1⟩ : ∃ z, z = zo (f_X5_cancel σ ).1 (f_X5_cancel σ ).2.1.toInt64 o := ⟨_, rfl⟩
  rw [← hrv, ← ho1]
  refine lv_aload_n hx hb dL_cancel_0 rfl (lv_at hl 1 rfl) ?_
  refine lv_iconst (v := 0) hx hb dL_cancel_1 (by decide) ?_
  refine lv_aload_n hx hb dL_cancel_2 rfl (lv_at hl 0 rfl) ?_
  refine zaxi (vx_runV (As := []) (rest := [.int 0, .ref qo]) ⟨hx, hb, hml, hown, hts⟩ (c_X5_cancel l hfl G cs ad (zt cs qo o qd d) σ   s.heap.size) (cwV 0 hts gL_cancel_X5_cancel rfl rfl rfl (by decide +kernel) ⟨Nat.le_of_ble_eq_true rfl, Nat.le_of_ble_eq_true rfl⟩) (zpv hE hP hD hS hA (zg_0 cs ad σ (zt cs qo o qd d)) rfl) rfl rfl hl.1 rfl (lv_room (Nat.le_of_ble_eq_true rfl)) dL_cancel_3 ⟨Nat.le_of_ble_eq_true rfl, Nat.le_of_ble_eq_true rfl⟩) hD hS hA (fun c1 ce q9 H locs hP hD hS h1 h2 h3 => ?_) (fun c1 H locs hP hD hS => ?_)
  · have e2 : o1 = o := ho1.trans (if_neg c1)
    rw [e2]
    simp only [List.mem_cons, List.not_mem_nil, or_false] at hcd
    rcases hcd with q | q
    · exact absurd q c1
    · rw [q] at h3
      have e1 : rv = 1 := by rw [hrv, q]; rfl
      rw [e1]
      refine vx_catch (own := RL) (name := "java/lang/IllegalStateException") (E := "java/lang/IllegalStateException") hown [] ⟨0, 8, 11, 21⟩ [] htab (fun z hz => absurd hz List.not_mem_nil) (by decide) (by decide) (htc (.classLink RL 21 "java/lang/IllegalStateException") (by decide +kernel)) (va_Nw.use rfl (hE.2.1 _ (List.mem_of_getElem? (i := 5) rfl))) h1 h2 h3 ?_
      refine lv_astore_n (pc := 11) (lv' := [(2, .ref q9), (0, .ref (ad 0)), (1, .ref qo)]) hx hb dL_cancel_11 rfl hl (by decide) rfl (fun ls hl => ?_)
      refine lv_iconst (v := 1) hx hb dL_cancel_12 (by decide) ?_
      exact W.iret (v := 1) hx hb hr (fun t ht hW => ⟨⟨_, (), rfl, rfl, by rw [ht]; exact hP, hD⟩, hS.F ht⟩) hS.2.2 dL_cancel_13
  · have e1 : rv = 0 := hrv.trans (if_pos c1)
    rw [e1]
    refine lv_i2l (v := (f_X5_cancel σ ).2.1.toInt64) hx hb dL_cancel_6 rfl ?_
    have e2 : o1 = vp_updL o (0 : Int32).toNatClampNeg (f_X5_cancel σ ).2.1.toInt64 := ho1.trans ((if_pos c1).trans rfl)
    rw [e2]
    refine va_last hx hb hE.1 hP hD hS 51 3 rfl rfl z_in01 dL_cancel_7 (fun H locs hP hD hS => ?_)
    have hP : va_P G vwCl (zw cs ad (f_X5_cancel σ ).2.2 (zt cs qo (vp_updL o (0 : Int32).toNatClampNeg (f_X5_cancel σ ).2.1.toInt64) qd d)) H := hP
    have hD : va_D A (zw cs ad (f_X5_cancel σ ).2.2 (zt cs qo (vp_updL o (0 : Int32).toNatClampNeg (f_X5_cancel σ ).2.1.toInt64) qd d)) := hD
    refine lv_goto (tgt := 14) hx hb dL_cancel_8 (by decide) ?_
    refine lv_iconst (v := 0) hx hb dL_cancel_14 (by decide) ?_
    exact W.iret (v := 0) hx hb hr (fun t ht hW => ⟨⟨_, (), rfl, rfl, by rw [ht]; exact hP, hD⟩, hS.F ht⟩) hS.2.2 dL_cancel_15
theorem codes_X5_pass (σ : zS) (a1 : Int32) : (f_X5_pass σ a1).1 ∈ ([0, 2] : List Nat) := by
  unfold f_X5_pass
  by_cases c1 : a1 < 1
  · rw [if_pos c1]
    exact (show 2 ∈ ([0, 2] : List Nat) by decide)
  · rw [if_neg c1]
    by_cases c2 : a1 ≤ 48
    · rw [if_pos c2]
      exact (show 0 ∈ ([0, 2] : List Nat) by decide)
    · rw [if_neg c2]
      exact (show 2 ∈ ([0, 2] : List Nat) by decide)
def f_L_pass : Nat → Int32 := fun k => if k = 0 then 0 else if k = 2 then 1 else 9
def zws_pass : List Cond := .codeWith yL_pass cL_pass 4 (some .int) [(0, 9, 12, 19)] :: (zcl ++ wsL_pass)
set_option maxRecDepth 100000 in
theorem c_L_pass (l : Launch) (hfl : l.stackTraces = false) (G : va_G) (cs : Nat → ClassId) (ad : Nat → Nat) (qo : Nat) (o : Nat → Int64) (qd : Nat) (d : Nat → UInt64) (σ : zS) (a1 : Int32)  : zMi l yL_pass zws_pass { frames := 7, cells := 1, slots := 6, locals := 112 } G cs [.ref (ad 0), .int a1, .ref qo] (zw cs ad σ (zt cs qo o qd d)) (f_L_pass (f_X5_pass σ a1).1) (zw cs ad (f_X5_pass σ a1).2.2 (zt cs qo (zo (f_X5_pass σ a1).1 (f_X5_pass σ a1).2.1.toInt64 o) qd d)) 1 6 := by
  intro sz
  refine z_ofWH (cc := cL_pass) (maxL := 4) (ret := (some .int)) (hh := [(0, 9, 12, 19)]) (by decide) rfl ?_
  intro p e s m args below meth c s₁ B hml hv
  obtain ⟨rfl, hsz, hP, hD0, hE⟩ := hv
  have hx := B.exec
  have hb := B.bytes
  have hr := B.returns
  have hts1 := atoms_spec (ws := zws_pass) B.pre
  have htc : ∀ w ∈ zcl, w.before _ s = true := fun w h => hts1 w (List.mem_cons_of_mem _ (List.mem_append_left _ h))
  have hts : ∀ w ∈ wsL_pass, w.before _ s = true := fun w h => hts1 w (List.mem_cons_of_mem _ (List.mem_append_right _ h))
  have hown : s.vm.findClass RL = some m.cls := findClass_of_methodNamed B.named
  have hlocks := B.notSynchronized
  have htab := vx_table (x := yL_pass) B (hts1 _ List.mem_cons_self)
  subst hsz
  have hD := hD0.self (sz := s.heap.size)
  have hA : ∀ q : Nat, s.heap.size ≤ q → (va_A (zw cs ad σ (zt cs qo o qd d)) s.heap.size) q := fun q h => Or.inr h
  generalize va_A (zw cs ad σ (zt cs qo o qd d)) s.heap.size = A at hD hE hA ⊢
  have hS : va_S A s.heap s.heap [] := va_S.rf
  have hl := lv_entry ([.ref (ad 0), .int a1, .ref qo]) (n := 4) (Nat.le_of_ble_eq_true rfl)
  rw [lg_entry_eq]
  generalize (lg_sl ([.ref (ad 0), .int a1, .ref qo]) ++ List.replicate (4 - (lg_sl ([.ref (ad 0), .int a1, .ref qo])).length) Slot.unset).toArray = ls at hl ⊢
  have hl : lv_has ls 4 [(0, .ref (ad 0)), (1, .int a1), (2, .ref qo)] := hl
  have hcd := codes_X5_pass σ a1
  obtain ⟨rv, hrv⟩ : ∃ z, z = f_L_pass (f_X5_pass σ a1).1 := ⟨_, rfl⟩
  obtain ⟨o1, ho1⟩ : ∃ z, z = zo (f_X5_pass σ a1).1 (f_X5_pass σ a1).2.1.toInt64 o := ⟨_, rfl⟩
  rw [← hrv, ← ho1]
  refine lv_aload_n hx hb dL_pass_0 rfl (lv_at hl 2 rfl) ?_
  refine lv_iconst (v := 0) hx hb dL_pass_1 (by decide) ?_
  refine lv_aload_n hx hb dL_pass_2 rfl (lv_at hl 0 rfl) ?_
  refine lv_iload_n hx hb dL_pass_3 rfl (lv_at hl 1 rfl) ?_
  refine zaxi (vx_runV (As := [.int a1]) (rest := [.int 0, .ref qo]) ⟨hx, hb, hml, hown, hts⟩ (c_X5_pass l hfl G cs ad (zt cs qo o qd d) σ a1  s.heap.size) (cwV 1 hts gL_pass_X5_pass rfl rfl rfl (by decide +kernel) ⟨Nat.le_of_ble_eq_true rfl, Nat.le_of_ble_eq_true rfl⟩) (zpv hE hP hD hS hA (zg_0 cs ad σ (zt cs qo o qd d)) rfl) rfl rfl hl.1 rfl (lv_room (Nat.le_of_ble_eq_true rfl)) dL_pass_4 ⟨Nat.le_of_ble_eq_true rfl, Nat.le_of_ble_eq_true rfl⟩) hD hS hA (fun c1 ce q9 H locs hP hD hS h1 h2 h3 => ?_) (fun c1 H locs hP hD hS => ?_)
  · have e2 : o1 = o := ho1.trans (if_neg c1)
    rw [e2]
    simp only [List.mem_cons, List.not_mem_nil, or_false] at hcd
    rcases hcd with q | q
    · exact absurd q c1
    · rw [q] at h3
      have e1 : rv = 1 := by rw [hrv, q]; rfl
      rw [e1]
      refine vx_catch (own := RL) (name := "java/lang/IllegalArgumentException") (E := "java/lang/IllegalArgumentException") hown [] ⟨0, 9, 12, 19⟩ [] htab (fun z hz => absurd hz List.not_mem_nil) (by decide) (by decide) (htc (.classLink RL 19 "java/lang/IllegalArgumentException") (by decide +kernel)) (va_Nw.use rfl (hE.2.1 _ (List.mem_of_getElem? (i := 4) rfl))) h1 h2 h3 ?_
      refine lv_astore_n (pc := 12) (lv' := [(3, .ref q9), (0, .ref (ad 0)), (1, .int a1), (2, .ref qo)]) hx hb dL_pass_12 rfl hl (by decide) rfl (fun ls hl => ?_)
      refine lv_iconst (v := 1) hx hb dL_pass_13 (by decide) ?_
      exact W.iret (v := 1) hx hb hr (fun t ht hW => ⟨⟨_, (), rfl, rfl, by rw [ht]; exact hP, hD⟩, hS.F ht⟩) hS.2.2 dL_pass_14
  · have e1 : rv = 0 := hrv.trans (if_pos c1)
    rw [e1]
    refine lv_i2l (v := (f_X5_pass σ a1).2.1.toInt64) hx hb dL_pass_7 rfl ?_
    have e2 : o1 = vp_updL o (0 : Int32).toNatClampNeg (f_X5_pass σ a1).2.1.toInt64 := ho1.trans ((if_pos c1).trans rfl)
    rw [e2]
    refine va_last hx hb hE.1 hP hD hS 51 3 rfl rfl z_in01 dL_pass_8 (fun H locs hP hD hS => ?_)
    have hP : va_P G vwCl (zw cs ad (f_X5_pass σ a1).2.2 (zt cs qo (vp_updL o (0 : Int32).toNatClampNeg (f_X5_pass σ a1).2.1.toInt64) qd d)) H := hP
    have hD : va_D A (zw cs ad (f_X5_pass σ a1).2.2 (zt cs qo (vp_updL o (0 : Int32).toNatClampNeg (f_X5_pass σ a1).2.1.toInt64) qd d)) := hD
    refine lv_goto (tgt := 15) hx hb dL_pass_9 (by decide) ?_
    refine lv_iconst (v := 0) hx hb dL_pass_15 (by decide) ?_
    exact W.iret (v := 0) hx hb hr (fun t ht hW => ⟨⟨_, (), rfl, rfl, by rw [ht]; exact hP, hD⟩, hS.F ht⟩) hS.2.2 dL_pass_16
theorem codes_X5_onDuty (σ : zS)  : (f_X5_onDuty σ ).1 ∈ ([0, 4] : List Nat) := by
  unfold f_X5_onDuty
  by_cases c1 : (f_X1_crewOnDuty σ ) = (-1)
  · rw [if_pos c1]
    exact (show 4 ∈ ([0, 4] : List Nat) by decide)
  · rw [if_neg c1]
    exact (show 0 ∈ ([0, 4] : List Nat) by decide)
def f_L_onDuty : Nat → Int32 := fun k => if k = 0 then 0 else if k = 4 then 1 else 9
def zws_onDuty : List Cond := .codeWith yL_onDuty cL_onDuty 3 (some .int) [(0, 8, 11, 27)] :: (zcl ++ wsL_onDuty)
set_option maxRecDepth 100000 in
theorem c_L_onDuty (l : Launch) (hfl : l.stackTraces = false) (G : va_G) (cs : Nat → ClassId) (ad : Nat → Nat) (qo : Nat) (o : Nat → Int64) (qd : Nat) (d : Nat → UInt64) (σ : zS)   : zMi l yL_onDuty zws_onDuty { frames := 7, cells := 1, slots := 6, locals := 111 } G cs [.ref (ad 0), .ref qo] (zw cs ad σ (zt cs qo o qd d)) (f_L_onDuty (f_X5_onDuty σ ).1) (zw cs ad (f_X5_onDuty σ ).2.2 (zt cs qo (zo (f_X5_onDuty σ ).1 (f_X5_onDuty σ ).2.1.toInt64 o) qd d)) 1 6 := by
  intro sz
  refine z_ofWH (cc := cL_onDuty) (maxL := 3) (ret := (some .int)) (hh := [(0, 8, 11, 27)]) (by decide) rfl ?_
  intro p e s m args below meth c s₁ B hml hv
  obtain ⟨rfl, hsz, hP, hD0, hE⟩ := hv
  have hx := B.exec
  have hb := B.bytes
  have hr := B.returns
  have hts1 := atoms_spec (ws := zws_onDuty) B.pre
  have htc : ∀ w ∈ zcl, w.before _ s = true := fun w h => hts1 w (List.mem_cons_of_mem _ (List.mem_append_left _ h))
  have hts : ∀ w ∈ wsL_onDuty, w.before _ s = true := fun w h => hts1 w (List.mem_cons_of_mem _ (List.mem_append_right _ h))
  have hown : s.vm.findClass RL = some m.cls := findClass_of_methodNamed B.named
  have hlocks := B.notSynchronized
  have htab := vx_table (x := yL_onDuty) B (hts1 _ List.mem_cons_self)
  subst hsz
  have hD := hD0.self (sz := s.heap.size)
  have hA : ∀ q : Nat, s.heap.size ≤ q → (va_A (zw cs ad σ (zt cs qo o qd d)) s.heap.size) q := fun q h => Or.inr h
  generalize va_A (zw cs ad σ (zt cs qo o qd d)) s.heap.size = A at hD hE hA ⊢
  have hS : va_S A s.heap s.heap [] := va_S.rf
  have hl := lv_entry ([.ref (ad 0), .ref qo]) (n := 3) (Nat.le_of_ble_eq_true rfl)
  rw [lg_entry_eq]
  generalize (lg_sl ([.ref (ad 0), .ref qo]) ++ List.replicate (3 - (lg_sl ([.ref (ad 0), .ref qo])).length) Slot.unset).toArray = ls at hl ⊢
  have hl : lv_has ls 3 [(0, .ref (ad 0)), (1, .ref qo)] := hl
  have hcd := codes_X5_onDuty σ 
  obtain ⟨rv, hrv⟩ : ∃ z, z = f_L_onDuty (f_X5_onDuty σ ).1 := ⟨_, rfl⟩
  obtain ⟨o1, ho1⟩ : ∃ z, z = zo (f_X5_onDuty σ ).1 (f_X5_onDuty σ ).2.1.toInt64 o := ⟨_, rfl⟩
  rw [← hrv, ← ho1]
  refine lv_aload_n hx hb dL_onDuty_0 rfl (lv_at hl 1 rfl) ?_
  refine lv_iconst (v := 0) hx hb dL_onDuty_1 (by decide) ?_
  refine lv_aload_n hx hb dL_onDuty_2 rfl (lv_at hl 0 rfl) ?_
  refine zaxi (vx_runV (As := []) (rest := [.int 0, .ref qo]) ⟨hx, hb, hml, hown, hts⟩ (c_X5_onDuty l hfl G cs ad (zt cs qo o qd d) σ   s.heap.size) (cwV 0 hts gL_onDuty_X5_onDuty rfl rfl rfl (by decide +kernel) ⟨Nat.le_of_ble_eq_true rfl, Nat.le_of_ble_eq_true rfl⟩) (zpv hE hP hD hS hA (zg_0 cs ad σ (zt cs qo o qd d)) rfl) rfl rfl hl.1 rfl (lv_room (Nat.le_of_ble_eq_true rfl)) dL_onDuty_3 ⟨Nat.le_of_ble_eq_true rfl, Nat.le_of_ble_eq_true rfl⟩) hD hS hA (fun c1 ce q9 H locs hP hD hS h1 h2 h3 => ?_) (fun c1 H locs hP hD hS => ?_)
  · have e2 : o1 = o := ho1.trans (if_neg c1)
    rw [e2]
    simp only [List.mem_cons, List.not_mem_nil, or_false] at hcd
    rcases hcd with q | q
    · exact absurd q c1
    · rw [q] at h3
      have e1 : rv = 1 := by rw [hrv, q]; rfl
      rw [e1]
      refine vx_catch (own := RL) (name := "java/util/NoSuchElementException") (E := "java/util/NoSuchElementException") hown [] ⟨0, 8, 11, 27⟩ [] htab (fun z hz => absurd hz List.not_mem_nil) (by decide) (by decide) (htc (.classLink RL 27 "java/util/NoSuchElementException") (by decide +kernel)) (va_Nw.use rfl (hE.2.1 _ (List.mem_of_getElem? (i := 6) rfl))) h1 h2 h3 ?_
      refine lv_astore_n (pc := 11) (lv' := [(2, .ref q9), (0, .ref (ad 0)), (1, .ref qo)]) hx hb dL_onDuty_11 rfl hl (by decide) rfl (fun ls hl => ?_)
      refine lv_iconst (v := 1) hx hb dL_onDuty_12 (by decide) ?_
      exact W.iret (v := 1) hx hb hr (fun t ht hW => ⟨⟨_, (), rfl, rfl, by rw [ht]; exact hP, hD⟩, hS.F ht⟩) hS.2.2 dL_onDuty_13
  · have e1 : rv = 0 := hrv.trans (if_pos c1)
    rw [e1]
    refine lv_i2l (v := (f_X5_onDuty σ ).2.1.toInt64) hx hb dL_onDuty_6 rfl ?_
    have e2 : o1 = vp_updL o (0 : Int32).toNatClampNeg (f_X5_onDuty σ ).2.1.toInt64 := ho1.trans ((if_pos c1).trans rfl)
    rw [e2]
    refine va_last hx hb hE.1 hP hD hS 51 3 rfl rfl z_in01 dL_onDuty_7 (fun H locs hP hD hS => ?_)
    have hP : va_P G vwCl (zw cs ad (f_X5_onDuty σ ).2.2 (zt cs qo (vp_updL o (0 : Int32).toNatClampNeg (f_X5_onDuty σ ).2.1.toInt64) qd d)) H := hP
    have hD : va_D A (zw cs ad (f_X5_onDuty σ ).2.2 (zt cs qo (vp_updL o (0 : Int32).toNatClampNeg (f_X5_onDuty σ ).2.1.toInt64) qd d)) := hD
    refine lv_goto (tgt := 14) hx hb dL_onDuty_8 (by decide) ?_
    refine lv_iconst (v := 0) hx hb dL_onDuty_14 (by decide) ?_
    exact W.iret (v := 0) hx hb hr (fun t ht hW => ⟨⟨_, (), rfl, rfl, by rw [ht]; exact hP, hD⟩, hS.F ht⟩) hS.2.2 dL_onDuty_15
theorem codes_X5_restLeft (σ : zS) (a1 : Int32) : (f_X5_restLeft σ a1).1 ∈ ([0, 2] : List Nat) := by
  unfold f_X5_restLeft
  by_cases c1 : (f_X5_checkCrew a1) = 0
  · rw [if_pos c1]
    exact (show 0 ∈ ([0, 2] : List Nat) by decide)
  · rw [if_neg c1]
    exact zmem (codes_X5_checkCrew a1) (by decide)
def f_L_restLeft : Nat → Int32 := fun k => if k = 0 then 0 else if k = 2 then 1 else 9
def zws_restLeft : List Cond := .codeWith yL_restLeft cL_restLeft 4 (some .int) [(0, 9, 12, 19)] :: (zcl ++ wsL_restLeft)
set_option maxRecDepth 100000 in
theorem c_L_restLeft (l : Launch) (hfl : l.stackTraces = false) (G : va_G) (cs : Nat → ClassId) (ad : Nat → Nat) (qo : Nat) (o : Nat → Int64) (qd : Nat) (d : Nat → UInt64) (σ : zS) (a1 : Int32)  : zMi l yL_restLeft zws_restLeft { frames := 8, cells := 1, slots := 6, locals := 131 } G cs [.ref (ad 0), .int a1, .ref qo] (zw cs ad σ (zt cs qo o qd d)) (f_L_restLeft (f_X5_restLeft σ a1).1) (zw cs ad (f_X5_restLeft σ a1).2.2 (zt cs qo (zo (f_X5_restLeft σ a1).1 (f_X5_restLeft σ a1).2.1.toInt64 o) qd d)) 1 6 := by
  intro sz
  refine z_ofWH (cc := cL_restLeft) (maxL := 4) (ret := (some .int)) (hh := [(0, 9, 12, 19)]) (by decide) rfl ?_
  intro p e s m args below meth c s₁ B hml hv
  obtain ⟨rfl, hsz, hP, hD0, hE⟩ := hv
  have hx := B.exec
  have hb := B.bytes
  have hr := B.returns
  have hts1 := atoms_spec (ws := zws_restLeft) B.pre
  have htc : ∀ w ∈ zcl, w.before _ s = true := fun w h => hts1 w (List.mem_cons_of_mem _ (List.mem_append_left _ h))
  have hts : ∀ w ∈ wsL_restLeft, w.before _ s = true := fun w h => hts1 w (List.mem_cons_of_mem _ (List.mem_append_right _ h))
  have hown : s.vm.findClass RL = some m.cls := findClass_of_methodNamed B.named
  have hlocks := B.notSynchronized
  have htab := vx_table (x := yL_restLeft) B (hts1 _ List.mem_cons_self)
  subst hsz
  have hD := hD0.self (sz := s.heap.size)
  have hA : ∀ q : Nat, s.heap.size ≤ q → (va_A (zw cs ad σ (zt cs qo o qd d)) s.heap.size) q := fun q h => Or.inr h
  generalize va_A (zw cs ad σ (zt cs qo o qd d)) s.heap.size = A at hD hE hA ⊢
  have hS : va_S A s.heap s.heap [] := va_S.rf
  have hl := lv_entry ([.ref (ad 0), .int a1, .ref qo]) (n := 4) (Nat.le_of_ble_eq_true rfl)
  rw [lg_entry_eq]
  generalize (lg_sl ([.ref (ad 0), .int a1, .ref qo]) ++ List.replicate (4 - (lg_sl ([.ref (ad 0), .int a1, .ref qo])).length) Slot.unset).toArray = ls at hl ⊢
  have hl : lv_has ls 4 [(0, .ref (ad 0)), (1, .int a1), (2, .ref qo)] := hl
  have hcd := codes_X5_restLeft σ a1
  obtain ⟨rv, hrv⟩ : ∃ z, z = f_L_restLeft (f_X5_restLeft σ a1).1 := ⟨_, rfl⟩
  obtain ⟨o1, ho1⟩ : ∃ z, z = zo (f_X5_restLeft σ a1).1 (f_X5_restLeft σ a1).2.1.toInt64 o := ⟨_, rfl⟩
  rw [← hrv, ← ho1]
  refine lv_aload_n hx hb dL_restLeft_0 rfl (lv_at hl 2 rfl) ?_
  refine lv_iconst (v := 0) hx hb dL_restLeft_1 (by decide) ?_
  refine lv_aload_n hx hb dL_restLeft_2 rfl (lv_at hl 0 rfl) ?_
  refine lv_iload_n hx hb dL_restLeft_3 rfl (lv_at hl 1 rfl) ?_
  refine zaxi (vx_runV (As := [.int a1]) (rest := [.int 0, .ref qo]) ⟨hx, hb, hml, hown, hts⟩ (c_X5_restLeft l hfl G cs ad (zt cs qo o qd d) σ a1  s.heap.size) (cwV 1 hts gL_restLeft_X5_restLeft rfl rfl rfl (by decide +kernel) ⟨Nat.le_of_ble_eq_true rfl, Nat.le_of_ble_eq_true rfl⟩) (zpv hE hP hD hS hA (zg_0 cs ad σ (zt cs qo o qd d)) rfl) rfl rfl hl.1 rfl (lv_room (Nat.le_of_ble_eq_true rfl)) dL_restLeft_4 ⟨Nat.le_of_ble_eq_true rfl, Nat.le_of_ble_eq_true rfl⟩) hD hS hA (fun c1 ce q9 H locs hP hD hS h1 h2 h3 => ?_) (fun c1 H locs hP hD hS => ?_)
  · have e2 : o1 = o := ho1.trans (if_neg c1)
    rw [e2]
    simp only [List.mem_cons, List.not_mem_nil, or_false] at hcd
    rcases hcd with q | q
    · exact absurd q c1
    · rw [q] at h3
      have e1 : rv = 1 := by rw [hrv, q]; rfl
      rw [e1]
      refine vx_catch (own := RL) (name := "java/lang/IllegalArgumentException") (E := "java/lang/IllegalArgumentException") hown [] ⟨0, 9, 12, 19⟩ [] htab (fun z hz => absurd hz List.not_mem_nil) (by decide) (by decide) (htc (.classLink RL 19 "java/lang/IllegalArgumentException") (by decide +kernel)) (va_Nw.use rfl (hE.2.1 _ (List.mem_of_getElem? (i := 4) rfl))) h1 h2 h3 ?_
      refine lv_astore_n (pc := 12) (lv' := [(3, .ref q9), (0, .ref (ad 0)), (1, .int a1), (2, .ref qo)]) hx hb dL_restLeft_12 rfl hl (by decide) rfl (fun ls hl => ?_)
      refine lv_iconst (v := 1) hx hb dL_restLeft_13 (by decide) ?_
      exact W.iret (v := 1) hx hb hr (fun t ht hW => ⟨⟨_, (), rfl, rfl, by rw [ht]; exact hP, hD⟩, hS.F ht⟩) hS.2.2 dL_restLeft_14
  · have e1 : rv = 0 := hrv.trans (if_pos c1)
    rw [e1]
    refine lv_i2l (v := (f_X5_restLeft σ a1).2.1.toInt64) hx hb dL_restLeft_7 rfl ?_
    have e2 : o1 = vp_updL o (0 : Int32).toNatClampNeg (f_X5_restLeft σ a1).2.1.toInt64 := ho1.trans ((if_pos c1).trans rfl)
    rw [e2]
    refine va_last hx hb hE.1 hP hD hS 51 3 rfl rfl z_in01 dL_restLeft_8 (fun H locs hP hD hS => ?_)
    have hP : va_P G vwCl (zw cs ad (f_X5_restLeft σ a1).2.2 (zt cs qo (vp_updL o (0 : Int32).toNatClampNeg (f_X5_restLeft σ a1).2.1.toInt64) qd d)) H := hP
    have hD : va_D A (zw cs ad (f_X5_restLeft σ a1).2.2 (zt cs qo (vp_updL o (0 : Int32).toNatClampNeg (f_X5_restLeft σ a1).2.1.toInt64) qd d)) := hD
    refine lv_goto (tgt := 15) hx hb dL_restLeft_9 (by decide) ?_
    refine lv_iconst (v := 0) hx hb dL_restLeft_15 (by decide) ?_
    exact W.iret (v := 0) hx hb hr (fun t ht hW => ⟨⟨_, (), rfl, rfl, by rw [ht]; exact hP, hD⟩, hS.F ht⟩) hS.2.2 dL_restLeft_16
theorem codes_X5_openAt (σ : zS) (a1 : Int32) : (f_X5_openAt σ a1).1 ∈ ([0, 1] : List Nat) := by
  unfold f_X5_openAt
  by_cases c1 : (f_X2_openLineAt σ a1) = (-1)
  · rw [if_pos c1]
    exact (show 1 ∈ ([0, 1] : List Nat) by decide)
  · rw [if_neg c1]
    exact (show 0 ∈ ([0, 1] : List Nat) by decide)
def f_L_openAt : Nat → Int32 := fun k => if k = 0 then 0 else if k = 1 then 1 else 9
def zws_openAt : List Cond := .codeWith yL_openAt cL_openAt 4 (some .int) [(0, 9, 12, 13)] :: (zcl ++ wsL_openAt)
set_option maxRecDepth 100000 in
theorem c_L_openAt (l : Launch) (hfl : l.stackTraces = false) (G : va_G) (cs : Nat → ClassId) (ad : Nat → Nat) (qo : Nat) (o : Nat → Int64) (qd : Nat) (d : Nat → UInt64) (σ : zS) (a1 : Int32)  : zMi l yL_openAt zws_openAt { frames := 7, cells := 1, slots := 6, locals := 112 } G cs [.ref (ad 0), .int a1, .ref qo] (zw cs ad σ (zt cs qo o qd d)) (f_L_openAt (f_X5_openAt σ a1).1) (zw cs ad (f_X5_openAt σ a1).2.2 (zt cs qo (zo (f_X5_openAt σ a1).1 (f_X5_openAt σ a1).2.1.toInt64 o) qd d)) 1 6 := by
  intro sz
  refine z_ofWH (cc := cL_openAt) (maxL := 4) (ret := (some .int)) (hh := [(0, 9, 12, 13)]) (by decide) rfl ?_
  intro p e s m args below meth c s₁ B hml hv
  obtain ⟨rfl, hsz, hP, hD0, hE⟩ := hv
  have hx := B.exec
  have hb := B.bytes
  have hr := B.returns
  have hts1 := atoms_spec (ws := zws_openAt) B.pre
  have htc : ∀ w ∈ zcl, w.before _ s = true := fun w h => hts1 w (List.mem_cons_of_mem _ (List.mem_append_left _ h))
  have hts : ∀ w ∈ wsL_openAt, w.before _ s = true := fun w h => hts1 w (List.mem_cons_of_mem _ (List.mem_append_right _ h))
  have hown : s.vm.findClass RL = some m.cls := findClass_of_methodNamed B.named
  have hlocks := B.notSynchronized
  have htab := vx_table (x := yL_openAt) B (hts1 _ List.mem_cons_self)
  subst hsz
  have hD := hD0.self (sz := s.heap.size)
  have hA : ∀ q : Nat, s.heap.size ≤ q → (va_A (zw cs ad σ (zt cs qo o qd d)) s.heap.size) q := fun q h => Or.inr h
  generalize va_A (zw cs ad σ (zt cs qo o qd d)) s.heap.size = A at hD hE hA ⊢
  have hS : va_S A s.heap s.heap [] := va_S.rf
  have hl := lv_entry ([.ref (ad 0), .int a1, .ref qo]) (n := 4) (Nat.le_of_ble_eq_true rfl)
  rw [lg_entry_eq]
  generalize (lg_sl ([.ref (ad 0), .int a1, .ref qo]) ++ List.replicate (4 - (lg_sl ([.ref (ad 0), .int a1, .ref qo])).length) Slot.unset).toArray = ls at hl ⊢
  have hl : lv_has ls 4 [(0, .ref (ad 0)), (1, .int a1), (2, .ref qo)] := hl
  have hcd := codes_X5_openAt σ a1
  obtain ⟨rv, hrv⟩ : ∃ z, z = f_L_openAt (f_X5_openAt σ a1).1 := ⟨_, rfl⟩
  obtain ⟨o1, ho1⟩ : ∃ z, z = zo (f_X5_openAt σ a1).1 (f_X5_openAt σ a1).2.1.toInt64 o := ⟨_, rfl⟩
  rw [← hrv, ← ho1]
  refine lv_aload_n hx hb dL_openAt_0 rfl (lv_at hl 2 rfl) ?_
  refine lv_iconst (v := 0) hx hb dL_openAt_1 (by decide) ?_
  refine lv_aload_n hx hb dL_openAt_2 rfl (lv_at hl 0 rfl) ?_
  refine lv_iload_n hx hb dL_openAt_3 rfl (lv_at hl 1 rfl) ?_
  refine zaxi (vx_runV (As := [.int a1]) (rest := [.int 0, .ref qo]) ⟨hx, hb, hml, hown, hts⟩ (c_X5_openAt l hfl G cs ad (zt cs qo o qd d) σ a1  s.heap.size) (cwV 1 hts gL_openAt_X5_openAt rfl rfl rfl (by decide +kernel) ⟨Nat.le_of_ble_eq_true rfl, Nat.le_of_ble_eq_true rfl⟩) (zpv hE hP hD hS hA (zg_0 cs ad σ (zt cs qo o qd d)) rfl) rfl rfl hl.1 rfl (lv_room (Nat.le_of_ble_eq_true rfl)) dL_openAt_4 ⟨Nat.le_of_ble_eq_true rfl, Nat.le_of_ble_eq_true rfl⟩) hD hS hA (fun c1 ce q9 H locs hP hD hS h1 h2 h3 => ?_) (fun c1 H locs hP hD hS => ?_)
  · have e2 : o1 = o := ho1.trans (if_neg c1)
    rw [e2]
    simp only [List.mem_cons, List.not_mem_nil, or_false] at hcd
    rcases hcd with q | q
    · exact absurd q c1
    · rw [q] at h3
      have e1 : rv = 1 := by rw [hrv, q]; rfl
      rw [e1]
      refine vx_catch (own := RL) (name := "java/lang/IndexOutOfBoundsException") (E := "java/lang/IndexOutOfBoundsException") hown [] ⟨0, 9, 12, 13⟩ [] htab (fun z hz => absurd hz List.not_mem_nil) (by decide) (by decide) (htc (.classLink RL 13 "java/lang/IndexOutOfBoundsException") (by decide +kernel)) (va_Nw.use rfl (hE.2.1 _ (List.mem_of_getElem? (i := 3) rfl))) h1 h2 h3 ?_
      refine lv_astore_n (pc := 12) (lv' := [(3, .ref q9), (0, .ref (ad 0)), (1, .int a1), (2, .ref qo)]) hx hb dL_openAt_12 rfl hl (by decide) rfl (fun ls hl => ?_)
      refine lv_iconst (v := 1) hx hb dL_openAt_13 (by decide) ?_
      exact W.iret (v := 1) hx hb hr (fun t ht hW => ⟨⟨_, (), rfl, rfl, by rw [ht]; exact hP, hD⟩, hS.F ht⟩) hS.2.2 dL_openAt_14
  · have e1 : rv = 0 := hrv.trans (if_pos c1)
    rw [e1]
    refine lv_i2l (v := (f_X5_openAt σ a1).2.1.toInt64) hx hb dL_openAt_7 rfl ?_
    have e2 : o1 = vp_updL o (0 : Int32).toNatClampNeg (f_X5_openAt σ a1).2.1.toInt64 := ho1.trans ((if_pos c1).trans rfl)
    rw [e2]
    refine va_last hx hb hE.1 hP hD hS 51 3 rfl rfl z_in01 dL_openAt_8 (fun H locs hP hD hS => ?_)
    have hP : va_P G vwCl (zw cs ad (f_X5_openAt σ a1).2.2 (zt cs qo (vp_updL o (0 : Int32).toNatClampNeg (f_X5_openAt σ a1).2.1.toInt64) qd d)) H := hP
    have hD : va_D A (zw cs ad (f_X5_openAt σ a1).2.2 (zt cs qo (vp_updL o (0 : Int32).toNatClampNeg (f_X5_openAt σ a1).2.1.toInt64) qd d)) := hD
    refine lv_goto (tgt := 15) hx hb dL_openAt_9 (by decide) ?_
    refine lv_iconst (v := 0) hx hb dL_openAt_15 (by decide) ?_
    exact W.iret (v := 0) hx hb hr (fun t ht hW => ⟨⟨_, (), rfl, rfl, by rw [ht]; exact hP, hD⟩, hS.F ht⟩) hS.2.2 dL_openAt_16
theorem codes_X5_kindOf (σ : zS) (a1 : Int32) : (f_X5_kindOf σ a1).1 ∈ ([0, 4] : List Nat) := by
  unfold f_X5_kindOf
  by_cases c1 : (f_X5_checkLine σ a1) = 0
  · rw [if_pos c1]
    exact (show 0 ∈ ([0, 4] : List Nat) by decide)
  · rw [if_neg c1]
    exact zmem (codes_X5_checkLine σ a1) (by decide)
def f_L_kindOf : Nat → Int32 := fun k => if k = 0 then 0 else if k = 4 then 1 else 9
def zws_kindOf : List Cond := .codeWith yL_kindOf cL_kindOf 4 (some .int) [(0, 9, 12, 27)] :: (zcl ++ wsL_kindOf)
set_option maxRecDepth 100000 in
theorem c_L_kindOf (l : Launch) (hfl : l.stackTraces = false) (G : va_G) (cs : Nat → ClassId) (ad : Nat → Nat) (qo : Nat) (o : Nat → Int64) (qd : Nat) (d : Nat → UInt64) (σ : zS) (a1 : Int32) (hch : ∀ j : Nat, narrow .char (.int (σ 3 j)) = .int (σ 3 j)) : zMi l yL_kindOf zws_kindOf { frames := 8, cells := 1, slots := 6, locals := 132 } G cs [.ref (ad 0), .int a1, .ref qo] (zw cs ad σ (zt cs qo o qd d)) (f_L_kindOf (f_X5_kindOf σ a1).1) (zw cs ad (f_X5_kindOf σ a1).2.2 (zt cs qo (zo (f_X5_kindOf σ a1).1 (f_X5_kindOf σ a1).2.1.toInt64 o) qd d)) 1 6 := by
  intro sz
  refine z_ofWH (cc := cL_kindOf) (maxL := 4) (ret := (some .int)) (hh := [(0, 9, 12, 27)]) (by decide) rfl ?_
  intro p e s m args below meth c s₁ B hml hv
  obtain ⟨rfl, hsz, hP, hD0, hE⟩ := hv
  have hx := B.exec
  have hb := B.bytes
  have hr := B.returns
  have hts1 := atoms_spec (ws := zws_kindOf) B.pre
  have htc : ∀ w ∈ zcl, w.before _ s = true := fun w h => hts1 w (List.mem_cons_of_mem _ (List.mem_append_left _ h))
  have hts : ∀ w ∈ wsL_kindOf, w.before _ s = true := fun w h => hts1 w (List.mem_cons_of_mem _ (List.mem_append_right _ h))
  have hown : s.vm.findClass RL = some m.cls := findClass_of_methodNamed B.named
  have hlocks := B.notSynchronized
  have htab := vx_table (x := yL_kindOf) B (hts1 _ List.mem_cons_self)
  subst hsz
  have hD := hD0.self (sz := s.heap.size)
  have hA : ∀ q : Nat, s.heap.size ≤ q → (va_A (zw cs ad σ (zt cs qo o qd d)) s.heap.size) q := fun q h => Or.inr h
  generalize va_A (zw cs ad σ (zt cs qo o qd d)) s.heap.size = A at hD hE hA ⊢
  have hS : va_S A s.heap s.heap [] := va_S.rf
  have hl := lv_entry ([.ref (ad 0), .int a1, .ref qo]) (n := 4) (Nat.le_of_ble_eq_true rfl)
  rw [lg_entry_eq]
  generalize (lg_sl ([.ref (ad 0), .int a1, .ref qo]) ++ List.replicate (4 - (lg_sl ([.ref (ad 0), .int a1, .ref qo])).length) Slot.unset).toArray = ls at hl ⊢
  have hl : lv_has ls 4 [(0, .ref (ad 0)), (1, .int a1), (2, .ref qo)] := hl
  have hcd := codes_X5_kindOf σ a1
  obtain ⟨rv, hrv⟩ : ∃ z, z = f_L_kindOf (f_X5_kindOf σ a1).1 := ⟨_, rfl⟩
  obtain ⟨o1, ho1⟩ : ∃ z, z = zo (f_X5_kindOf σ a1).1 (f_X5_kindOf σ a1).2.1.toInt64 o := ⟨_, rfl⟩
  rw [← hrv, ← ho1]
  refine lv_aload_n hx hb dL_kindOf_0 rfl (lv_at hl 2 rfl) ?_
  refine lv_iconst (v := 0) hx hb dL_kindOf_1 (by decide) ?_
  refine lv_aload_n hx hb dL_kindOf_2 rfl (lv_at hl 0 rfl) ?_
  refine lv_iload_n hx hb dL_kindOf_3 rfl (lv_at hl 1 rfl) ?_
  refine zaxi (vx_runV (As := [.int a1]) (rest := [.int 0, .ref qo]) ⟨hx, hb, hml, hown, hts⟩ (c_X5_kindOf l hfl G cs ad (zt cs qo o qd d) σ a1 hch s.heap.size) (cwV 1 hts gL_kindOf_X5_kindOf rfl rfl rfl (by decide +kernel) ⟨Nat.le_of_ble_eq_true rfl, Nat.le_of_ble_eq_true rfl⟩) (zpv hE hP hD hS hA (zg_0 cs ad σ (zt cs qo o qd d)) rfl) rfl rfl hl.1 rfl (lv_room (Nat.le_of_ble_eq_true rfl)) dL_kindOf_4 ⟨Nat.le_of_ble_eq_true rfl, Nat.le_of_ble_eq_true rfl⟩) hD hS hA (fun c1 ce q9 H locs hP hD hS h1 h2 h3 => ?_) (fun c1 H locs hP hD hS => ?_)
  · have e2 : o1 = o := ho1.trans (if_neg c1)
    rw [e2]
    simp only [List.mem_cons, List.not_mem_nil, or_false] at hcd
    rcases hcd with q | q
    · exact absurd q c1
    · rw [q] at h3
      have e1 : rv = 1 := by rw [hrv, q]; rfl
      rw [e1]
      refine vx_catch (own := RL) (name := "java/util/NoSuchElementException") (E := "java/util/NoSuchElementException") hown [] ⟨0, 9, 12, 27⟩ [] htab (fun z hz => absurd hz List.not_mem_nil) (by decide) (by decide) (htc (.classLink RL 27 "java/util/NoSuchElementException") (by decide +kernel)) (va_Nw.use rfl (hE.2.1 _ (List.mem_of_getElem? (i := 6) rfl))) h1 h2 h3 ?_
      refine lv_astore_n (pc := 12) (lv' := [(3, .ref q9), (0, .ref (ad 0)), (1, .int a1), (2, .ref qo)]) hx hb dL_kindOf_12 rfl hl (by decide) rfl (fun ls hl => ?_)
      refine lv_iconst (v := 1) hx hb dL_kindOf_13 (by decide) ?_
      exact W.iret (v := 1) hx hb hr (fun t ht hW => ⟨⟨_, (), rfl, rfl, by rw [ht]; exact hP, hD⟩, hS.F ht⟩) hS.2.2 dL_kindOf_14
  · have e1 : rv = 0 := hrv.trans (if_pos c1)
    rw [e1]
    refine lv_i2l (v := (f_X5_kindOf σ a1).2.1.toInt64) hx hb dL_kindOf_7 rfl ?_
    have e2 : o1 = vp_updL o (0 : Int32).toNatClampNeg (f_X5_kindOf σ a1).2.1.toInt64 := ho1.trans ((if_pos c1).trans rfl)
    rw [e2]
    refine va_last hx hb hE.1 hP hD hS 51 3 rfl rfl z_in01 dL_kindOf_8 (fun H locs hP hD hS => ?_)
    have hP : va_P G vwCl (zw cs ad (f_X5_kindOf σ a1).2.2 (zt cs qo (vp_updL o (0 : Int32).toNatClampNeg (f_X5_kindOf σ a1).2.1.toInt64) qd d)) H := hP
    have hD : va_D A (zw cs ad (f_X5_kindOf σ a1).2.2 (zt cs qo (vp_updL o (0 : Int32).toNatClampNeg (f_X5_kindOf σ a1).2.1.toInt64) qd d)) := hD
    refine lv_goto (tgt := 15) hx hb dL_kindOf_9 (by decide) ?_
    refine lv_iconst (v := 0) hx hb dL_kindOf_15 (by decide) ?_
    exact W.iret (v := 0) hx hb hr (fun t ht hW => ⟨⟨_, (), rfl, rfl, by rw [ht]; exact hP, hD⟩, hS.F ht⟩) hS.2.2 dL_kindOf_16
theorem codes_X5_passed (σ : zS) (a1 : Int32) : (f_X5_passed σ a1).1 ∈ ([0, 4] : List Nat) := by
  unfold f_X5_passed
  by_cases c1 : (f_X5_checkLine σ a1) = 0
  · rw [if_pos c1]
    exact (show 0 ∈ ([0, 4] : List Nat) by decide)
  · rw [if_neg c1]
    exact zmem (codes_X5_checkLine σ a1) (by decide)
def f_L_passed : Nat → Int32 := fun k => if k = 0 then 0 else if k = 4 then 1 else 9
def zws_passed : List Cond := .codeWith yL_passed cL_passed 4 (some .int) [(0, 9, 12, 27)] :: (zcl ++ wsL_passed)
set_option maxRecDepth 100000 in
theorem c_L_passed (l : Launch) (hfl : l.stackTraces = false) (G : va_G) (cs : Nat → ClassId) (ad : Nat → Nat) (qo : Nat) (o : Nat → Int64) (qd : Nat) (d : Nat → UInt64) (σ : zS) (a1 : Int32)  : zMi l yL_passed zws_passed { frames := 8, cells := 1, slots := 6, locals := 132 } G cs [.ref (ad 0), .int a1, .ref qo] (zw cs ad σ (zt cs qo o qd d)) (f_L_passed (f_X5_passed σ a1).1) (zw cs ad (f_X5_passed σ a1).2.2 (zt cs qo (zo (f_X5_passed σ a1).1 (f_X5_passed σ a1).2.1.toInt64 o) qd d)) 1 6 := by
  intro sz
  refine z_ofWH (cc := cL_passed) (maxL := 4) (ret := (some .int)) (hh := [(0, 9, 12, 27)]) (by decide) rfl ?_
  intro p e s m args below meth c s₁ B hml hv
  obtain ⟨rfl, hsz, hP, hD0, hE⟩ := hv
  have hx := B.exec
  have hb := B.bytes
  have hr := B.returns
  have hts1 := atoms_spec (ws := zws_passed) B.pre
  have htc : ∀ w ∈ zcl, w.before _ s = true := fun w h => hts1 w (List.mem_cons_of_mem _ (List.mem_append_left _ h))
  have hts : ∀ w ∈ wsL_passed, w.before _ s = true := fun w h => hts1 w (List.mem_cons_of_mem _ (List.mem_append_right _ h))
  have hown : s.vm.findClass RL = some m.cls := findClass_of_methodNamed B.named
  have hlocks := B.notSynchronized
  have htab := vx_table (x := yL_passed) B (hts1 _ List.mem_cons_self)
  subst hsz
  have hD := hD0.self (sz := s.heap.size)
  have hA : ∀ q : Nat, s.heap.size ≤ q → (va_A (zw cs ad σ (zt cs qo o qd d)) s.heap.size) q := fun q h => Or.inr h
  generalize va_A (zw cs ad σ (zt cs qo o qd d)) s.heap.size = A at hD hE hA ⊢
  have hS : va_S A s.heap s.heap [] := va_S.rf
  have hl := lv_entry ([.ref (ad 0), .int a1, .ref qo]) (n := 4) (Nat.le_of_ble_eq_true rfl)
  rw [lg_entry_eq]
  generalize (lg_sl ([.ref (ad 0), .int a1, .ref qo]) ++ List.replicate (4 - (lg_sl ([.ref (ad 0), .int a1, .ref qo])).length) Slot.unset).toArray = ls at hl ⊢
  have hl : lv_has ls 4 [(0, .ref (ad 0)), (1, .int a1), (2, .ref qo)] := hl
  have hcd := codes_X5_passed σ a1
  obtain ⟨rv, hrv⟩ : ∃ z, z = f_L_passed (f_X5_passed σ a1).1 := ⟨_, rfl⟩
  obtain ⟨o1, ho1⟩ : ∃ z, z = zo (f_X5_passed σ a1).1 (f_X5_passed σ a1).2.1.toInt64 o := ⟨_, rfl⟩
  rw [← hrv, ← ho1]
  refine lv_aload_n hx hb dL_passed_0 rfl (lv_at hl 2 rfl) ?_
  refine lv_iconst (v := 0) hx hb dL_passed_1 (by decide) ?_
  refine lv_aload_n hx hb dL_passed_2 rfl (lv_at hl 0 rfl) ?_
  refine lv_iload_n hx hb dL_passed_3 rfl (lv_at hl 1 rfl) ?_
  refine zaxi (vx_runV (As := [.int a1]) (rest := [.int 0, .ref qo]) ⟨hx, hb, hml, hown, hts⟩ (c_X5_passed l hfl G cs ad (zt cs qo o qd d) σ a1  s.heap.size) (cwV 1 hts gL_passed_X5_passed rfl rfl rfl (by decide +kernel) ⟨Nat.le_of_ble_eq_true rfl, Nat.le_of_ble_eq_true rfl⟩) (zpv hE hP hD hS hA (zg_0 cs ad σ (zt cs qo o qd d)) rfl) rfl rfl hl.1 rfl (lv_room (Nat.le_of_ble_eq_true rfl)) dL_passed_4 ⟨Nat.le_of_ble_eq_true rfl, Nat.le_of_ble_eq_true rfl⟩) hD hS hA (fun c1 ce q9 H locs hP hD hS h1 h2 h3 => ?_) (fun c1 H locs hP hD hS => ?_)
  · have e2 : o1 = o := ho1.trans (if_neg c1)
    rw [e2]
    simp only [List.mem_cons, List.not_mem_nil, or_false] at hcd
    rcases hcd with q | q
    · exact absurd q c1
    · rw [q] at h3
      have e1 : rv = 1 := by rw [hrv, q]; rfl
      rw [e1]
      refine vx_catch (own := RL) (name := "java/util/NoSuchElementException") (E := "java/util/NoSuchElementException") hown [] ⟨0, 9, 12, 27⟩ [] htab (fun z hz => absurd hz List.not_mem_nil) (by decide) (by decide) (htc (.classLink RL 27 "java/util/NoSuchElementException") (by decide +kernel)) (va_Nw.use rfl (hE.2.1 _ (List.mem_of_getElem? (i := 6) rfl))) h1 h2 h3 ?_
      refine lv_astore_n (pc := 12) (lv' := [(3, .ref q9), (0, .ref (ad 0)), (1, .int a1), (2, .ref qo)]) hx hb dL_passed_12 rfl hl (by decide) rfl (fun ls hl => ?_)
      refine lv_iconst (v := 1) hx hb dL_passed_13 (by decide) ?_
      exact W.iret (v := 1) hx hb hr (fun t ht hW => ⟨⟨_, (), rfl, rfl, by rw [ht]; exact hP, hD⟩, hS.F ht⟩) hS.2.2 dL_passed_14
  · have e1 : rv = 0 := hrv.trans (if_pos c1)
    rw [e1]
    refine lv_i2l (v := (f_X5_passed σ a1).2.1.toInt64) hx hb dL_passed_7 rfl ?_
    have e2 : o1 = vp_updL o (0 : Int32).toNatClampNeg (f_X5_passed σ a1).2.1.toInt64 := ho1.trans ((if_pos c1).trans rfl)
    rw [e2]
    refine va_last hx hb hE.1 hP hD hS 51 3 rfl rfl z_in01 dL_passed_8 (fun H locs hP hD hS => ?_)
    have hP : va_P G vwCl (zw cs ad (f_X5_passed σ a1).2.2 (zt cs qo (vp_updL o (0 : Int32).toNatClampNeg (f_X5_passed σ a1).2.1.toInt64) qd d)) H := hP
    have hD : va_D A (zw cs ad (f_X5_passed σ a1).2.2 (zt cs qo (vp_updL o (0 : Int32).toNatClampNeg (f_X5_passed σ a1).2.1.toInt64) qd d)) := hD
    refine lv_goto (tgt := 15) hx hb dL_passed_9 (by decide) ?_
    refine lv_iconst (v := 0) hx hb dL_passed_15 (by decide) ?_
    exact W.iret (v := 0) hx hb hr (fun t ht hW => ⟨⟨_, (), rfl, rfl, by rw [ht]; exact hP, hD⟩, hS.F ht⟩) hS.2.2 dL_passed_16
def zod (k : Nat) (v : UInt64) (d : Nat → UInt64) : Nat → UInt64 := if k = 0 then vf_upd d (0 : Int32).toNatClampNeg v else d
theorem codes_X5_closedShare (σ : zS)  : (f_X5_closedShare σ ).1 ∈ ([0, 6] : List Nat) := by
  unfold f_X5_closedShare
  by_cases c1 : (f_X2_lineCount σ ) = 0
  · rw [if_pos c1]
    exact (show 6 ∈ ([0, 6] : List Nat) by decide)
  · rw [if_neg c1]
    exact (show 0 ∈ ([0, 6] : List Nat) by decide)
def f_L_closedShare : Nat → Int32 := fun k => if k = 0 then 0 else if k = 6 then 1 else 9
def zws_closedShare : List Cond := .codeWith yL_closedShare cL_closedShare 3 (some .int) [(0, 8, 11, 127)] :: (zcl ++ wsL_closedShare)
set_option maxRecDepth 100000 in
theorem c_L_closedShare (l : Launch) (hfl : l.stackTraces = false) (G : va_G) (cs : Nat → ClassId) (ad : Nat → Nat) (qo : Nat) (o : Nat → Int64) (qd : Nat) (d : Nat → UInt64) (σ : zS) (hnn : (f_X5_closedShare σ ).1 = 0 → vf_n64 (FP.f2d (f_X5_closedShare σ ).2.1)) : zMi l yL_closedShare zws_closedShare { frames := 7, cells := 1, slots := 6, locals := 111 } G cs [.ref (ad 0), .ref qd] (zw cs ad σ (zt cs qo o qd d)) (f_L_closedShare (f_X5_closedShare σ ).1) (zw cs ad (f_X5_closedShare σ ).2.2 (zt cs qo o qd (zod (f_X5_closedShare σ ).1 (FP.f2d (f_X5_closedShare σ ).2.1) d))) 1 6 := by
  intro sz
  refine z_ofWH (cc := cL_closedShare) (maxL := 3) (ret := (some .int)) (hh := [(0, 8, 11, 127)]) (by decide) rfl ?_
  intro p e s m args below meth c s₁ B hml hv
  obtain ⟨rfl, hsz, hP, hD0, hE⟩ := hv
  have hx := B.exec
  have hb := B.bytes
  have hr := B.returns
  have hts1 := atoms_spec (ws := zws_closedShare) B.pre
  have htc : ∀ w ∈ zcl, w.before _ s = true := fun w h => hts1 w (List.mem_cons_of_mem _ (List.mem_append_left _ h))
  have hts : ∀ w ∈ wsL_closedShare, w.before _ s = true := fun w h => hts1 w (List.mem_cons_of_mem _ (List.mem_append_right _ h))
  have hown : s.vm.findClass RL = some m.cls := findClass_of_methodNamed B.named
  have hlocks := B.notSynchronized
  have htab := vx_table (x := yL_closedShare) B (hts1 _ List.mem_cons_self)
  subst hsz
  have hD := hD0.self (sz := s.heap.size)
  have hA : ∀ q : Nat, s.heap.size ≤ q → (va_A (zw cs ad σ (zt cs qo o qd d)) s.heap.size) q := fun q h => Or.inr h
  generalize va_A (zw cs ad σ (zt cs qo o qd d)) s.heap.size = A at hD hE hA ⊢
  have hS : va_S A s.heap s.heap [] := va_S.rf
  have hl := lv_entry ([.ref (ad 0), .ref qd]) (n := 3) (Nat.le_of_ble_eq_true rfl)
  rw [lg_entry_eq]
  generalize (lg_sl ([.ref (ad 0), .ref qd]) ++ List.replicate (3 - (lg_sl ([.ref (ad 0), .ref qd])).length) Slot.unset).toArray = ls at hl ⊢
  have hl : lv_has ls 3 [(0, .ref (ad 0)), (1, .ref qd)] := hl
  have hcd := codes_X5_closedShare σ
  obtain ⟨rv, hrv⟩ : ∃ z, z = f_L_closedShare (f_X5_closedShare σ ).1 := ⟨_, rfl⟩
  obtain ⟨d1, hd1⟩ : ∃ z, z = zod (f_X5_closedShare σ ).1 (FP.f2d (f_X5_closedShare σ ).2.1) d := ⟨_, rfl⟩
  rw [← hrv, ← hd1]
  refine lv_aload_n hx hb dL_closedShare_0 rfl (lv_at hl 1 rfl) ?_
  refine lv_iconst (v := 0) hx hb dL_closedShare_1 (by decide) ?_
  refine lv_aload_n hx hb dL_closedShare_2 rfl (lv_at hl 0 rfl) ?_
  refine zaxf (vx_runV (As := []) (rest := [.int 0, .ref qd]) ⟨hx, hb, hml, hown, hts⟩ (c_X5_closedShare l hfl G cs ad (zt cs qo o qd d) σ s.heap.size) (cwV 0 hts gL_closedShare_X5_closedShare rfl rfl rfl (by decide +kernel) ⟨Nat.le_of_ble_eq_true rfl, Nat.le_of_ble_eq_true rfl⟩) (zpv hE hP hD hS hA (zg_0 cs ad σ (zt cs qo o qd d)) rfl) rfl rfl hl.1 rfl (lv_room (Nat.le_of_ble_eq_true rfl)) dL_closedShare_3 ⟨Nat.le_of_ble_eq_true rfl, Nat.le_of_ble_eq_true rfl⟩) hD hS hA (fun c1 ce q9 H locs hP hD hS h1 h2 h3 => ?_) (fun c1 H locs hP hD hS => ?_)
  · have e2 : d1 = d := hd1.trans (if_neg c1)
    rw [e2]
    simp only [List.mem_cons, List.not_mem_nil, or_false] at hcd
    rcases hcd with q | q
    · exact absurd q c1
    · rw [q] at h3
      have e1 : rv = 1 := by rw [hrv, q]; rfl
      rw [e1]
      refine vx_catch (own := RL) (name := "java/lang/ArithmeticException") (E := "java/lang/ArithmeticException") hown [] ⟨0, 8, 11, 127⟩ [] htab (fun z hz => absurd hz List.not_mem_nil) (by decide) (by decide) (htc (.classLink RL 127 "java/lang/ArithmeticException") (by decide +kernel)) (va_Nw.use rfl (hE.2.1 _ (List.mem_of_getElem? (i := 8) rfl))) h1 h2 h3 ?_
      refine lv_astore_n (pc := 11) (lv' := [(2, .ref q9), (0, .ref (ad 0)), (1, .ref qd)]) hx hb dL_closedShare_11 rfl hl (by decide) rfl (fun ls hl => ?_)
      refine lv_iconst (v := 1) hx hb dL_closedShare_12 (by decide) ?_
      exact W.iret (v := 1) hx hb hr (fun t ht hW => ⟨⟨_, (), rfl, rfl, by rw [ht]; exact hP, hD⟩, hS.F ht⟩) hS.2.2 dL_closedShare_13
  · have e1 : rv = 0 := hrv.trans (if_pos c1)
    rw [e1]
    refine lv_f2d hx hb dL_closedShare_6 (hnn c1) ?_
    have e2 : d1 = vf_upd d (0 : Int32).toNatClampNeg (FP.f2d (f_X5_closedShare σ ).2.1) := hd1.trans (if_pos c1)
    rw [e2]
    refine va_dast hx hb hE.1 hP hD hS 52 4 rfl rfl z_in01 dL_closedShare_7 (fun H locs hP hD hS => ?_)
    have hP : va_P G vwCl (zw cs ad (f_X5_closedShare σ ).2.2 (zt cs qo o qd (vf_upd d (0 : Int32).toNatClampNeg (FP.f2d (f_X5_closedShare σ ).2.1)))) H := hP
    have hD : va_D A (zw cs ad (f_X5_closedShare σ ).2.2 (zt cs qo o qd (vf_upd d (0 : Int32).toNatClampNeg (FP.f2d (f_X5_closedShare σ ).2.1)))) := hD
    refine lv_goto (tgt := 14) hx hb dL_closedShare_8 (by decide) ?_
    refine lv_iconst (v := 0) hx hb dL_closedShare_14 (by decide) ?_
    exact W.iret (v := 0) hx hb hr (fun t ht hW => ⟨⟨_, (), rfl, rfl, by rw [ht]; exact hP, hD⟩, hS.F ht⟩) hS.2.2 dL_closedShare_15
theorem codes_X5_meanAge (σ : zS)  : (f_X5_meanAge σ ).1 ∈ ([0, 6] : List Nat) := by
  unfold f_X5_meanAge
  by_cases c1 : (f_X2_openCount σ ) = 0
  · rw [if_pos c1]
    exact (show 6 ∈ ([0, 6] : List Nat) by decide)
  · rw [if_neg c1]
    exact (show 0 ∈ ([0, 6] : List Nat) by decide)
def f_L_meanAge : Nat → Int32 := fun k => if k = 0 then 0 else if k = 6 then 1 else 9
def zws_meanAge : List Cond := .codeWith yL_meanAge cL_meanAge 3 (some .int) [(0, 7, 10, 127)] :: (zcl ++ wsL_meanAge)
set_option maxRecDepth 100000 in
theorem c_L_meanAge (l : Launch) (hfl : l.stackTraces = false) (G : va_G) (cs : Nat → ClassId) (ad : Nat → Nat) (qo : Nat) (o : Nat → Int64) (qd : Nat) (d : Nat → UInt64) (σ : zS) : zMi l yL_meanAge zws_meanAge { frames := 7, cells := 1, slots := 6, locals := 111 } G cs [.ref (ad 0), .ref qd] (zw cs ad σ (zt cs qo o qd d)) (f_L_meanAge (f_X5_meanAge σ ).1) (zw cs ad (f_X5_meanAge σ ).2.2 (zt cs qo o qd (zod (f_X5_meanAge σ ).1 (f_X5_meanAge σ ).2.1 d))) 1 6 := by
  intro sz
  refine z_ofWH (cc := cL_meanAge) (maxL := 3) (ret := (some .int)) (hh := [(0, 7, 10, 127)]) (by decide) rfl ?_
  intro p e s m args below meth c s₁ B hml hv
  obtain ⟨rfl, hsz, hP, hD0, hE⟩ := hv
  have hx := B.exec
  have hb := B.bytes
  have hr := B.returns
  have hts1 := atoms_spec (ws := zws_meanAge) B.pre
  have htc : ∀ w ∈ zcl, w.before _ s = true := fun w h => hts1 w (List.mem_cons_of_mem _ (List.mem_append_left _ h))
  have hts : ∀ w ∈ wsL_meanAge, w.before _ s = true := fun w h => hts1 w (List.mem_cons_of_mem _ (List.mem_append_right _ h))
  have hown : s.vm.findClass RL = some m.cls := findClass_of_methodNamed B.named
  have hlocks := B.notSynchronized
  have htab := vx_table (x := yL_meanAge) B (hts1 _ List.mem_cons_self)
  subst hsz
  have hD := hD0.self (sz := s.heap.size)
  have hA : ∀ q : Nat, s.heap.size ≤ q → (va_A (zw cs ad σ (zt cs qo o qd d)) s.heap.size) q := fun q h => Or.inr h
  generalize va_A (zw cs ad σ (zt cs qo o qd d)) s.heap.size = A at hD hE hA ⊢
  have hS : va_S A s.heap s.heap [] := va_S.rf
  have hl := lv_entry ([.ref (ad 0), .ref qd]) (n := 3) (Nat.le_of_ble_eq_true rfl)
  rw [lg_entry_eq]
  generalize (lg_sl ([.ref (ad 0), .ref qd]) ++ List.replicate (3 - (lg_sl ([.ref (ad 0), .ref qd])).length) Slot.unset).toArray = ls at hl ⊢
  have hl : lv_has ls 3 [(0, .ref (ad 0)), (1, .ref qd)] := hl
  have hcd := codes_X5_meanAge σ
  obtain ⟨rv, hrv⟩ : ∃ z, z = f_L_meanAge (f_X5_meanAge σ ).1 := ⟨_, rfl⟩
  obtain ⟨d1, hd1⟩ : ∃ z, z = zod (f_X5_meanAge σ ).1 (f_X5_meanAge σ ).2.1 d := ⟨_, rfl⟩
  rw [← hrv, ← hd1]
  refine lv_aload_n hx hb dL_meanAge_0 rfl (lv_at hl 1 rfl) ?_
  refine lv_iconst (v := 0) hx hb dL_meanAge_1 (by decide) ?_
  refine lv_aload_n hx hb dL_meanAge_2 rfl (lv_at hl 0 rfl) ?_
  refine zaxd (vx_runV (As := []) (rest := [.int 0, .ref qd]) ⟨hx, hb, hml, hown, hts⟩ (c_X5_meanAge l hfl G cs ad (zt cs qo o qd d) σ s.heap.size) (cwV 0 hts gL_meanAge_X5_meanAge rfl rfl rfl (by decide +kernel) ⟨Nat.le_of_ble_eq_true rfl, Nat.le_of_ble_eq_true rfl⟩) (zpv hE hP hD hS hA (zg_0 cs ad σ (zt cs qo o qd d)) rfl) rfl rfl hl.1 rfl (lv_room (Nat.le_of_ble_eq_true rfl)) dL_meanAge_3 ⟨Nat.le_of_ble_eq_true rfl, Nat.le_of_ble_eq_true rfl⟩) hD hS hA (fun c1 ce q9 H locs hP hD hS h1 h2 h3 => ?_) (fun c1 H locs hP hD hS => ?_)
  · have e2 : d1 = d := hd1.trans (if_neg c1)
    rw [e2]
    simp only [List.mem_cons, List.not_mem_nil, or_false] at hcd
    rcases hcd with q | q
    · exact absurd q c1
    · rw [q] at h3
      have e1 : rv = 1 := by rw [hrv, q]; rfl
      rw [e1]
      refine vx_catch (own := RL) (name := "java/lang/ArithmeticException") (E := "java/lang/ArithmeticException") hown [] ⟨0, 7, 10, 127⟩ [] htab (fun z hz => absurd hz List.not_mem_nil) (by decide) (by decide) (htc (.classLink RL 127 "java/lang/ArithmeticException") (by decide +kernel)) (va_Nw.use rfl (hE.2.1 _ (List.mem_of_getElem? (i := 8) rfl))) h1 h2 h3 ?_
      refine lv_astore_n (pc := 10) (lv' := [(2, .ref q9), (0, .ref (ad 0)), (1, .ref qd)]) hx hb dL_meanAge_10 rfl hl (by decide) rfl (fun ls hl => ?_)
      refine lv_iconst (v := 1) hx hb dL_meanAge_11 (by decide) ?_
      exact W.iret (v := 1) hx hb hr (fun t ht hW => ⟨⟨_, (), rfl, rfl, by rw [ht]; exact hP, hD⟩, hS.F ht⟩) hS.2.2 dL_meanAge_12
  · have e1 : rv = 0 := hrv.trans (if_pos c1)
    rw [e1]
    have e2 : d1 = vf_upd d (0 : Int32).toNatClampNeg (f_X5_meanAge σ ).2.1 := hd1.trans (if_pos c1)
    rw [e2]
    refine va_dast hx hb hE.1 hP hD hS 52 4 rfl rfl z_in01 dL_meanAge_6 (fun H locs hP hD hS => ?_)
    have hP : va_P G vwCl (zw cs ad (f_X5_meanAge σ ).2.2 (zt cs qo o qd (vf_upd d (0 : Int32).toNatClampNeg (f_X5_meanAge σ ).2.1))) H := hP
    have hD : va_D A (zw cs ad (f_X5_meanAge σ ).2.2 (zt cs qo o qd (vf_upd d (0 : Int32).toNatClampNeg (f_X5_meanAge σ ).2.1))) := hD
    refine lv_goto (tgt := 13) hx hb dL_meanAge_7 (by decide) ?_
    refine lv_iconst (v := 0) hx hb dL_meanAge_13 (by decide) ?_
    exact W.iret (v := 0) hx hb hr (fun t ht hW => ⟨⟨_, (), rfl, rfl, by rw [ht]; exact hP, hD⟩, hS.F ht⟩) hS.2.2 dL_meanAge_14
