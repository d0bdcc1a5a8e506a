def R_law : String := "HandoverDeckLaw"
def lw_P (b : Addr) (xs : List Int32) (args : Array Value) (s : State) : Prop := args = #[.ref b] ∧ s.IntsAt b xs ∧ xs.length ≤ 3072 ∧ (Jvm.Cond.and given_1 narrow_1).before args s = true
/-- what a walk over the start with the record d0 says of its end, said of the start itself -/
theorem lw_closed {s t : State} {o : Outcome} {d0 : Drawn} {L : List Loc} {k n : Nat} (hd0 : s.drawn.sameBut d0 lw_cs) (hv : ∃ v, o = .returned v) (hW : (s.setDrawn d0).WarmedH t.vm) (hs : (s.setDrawn d0).sameButNew ({ t with vm := s.vm } : State) L k n) : State.butDraws s t lw_cs (fun t1 => Framed s o t1 L k n) := by
  have h2 : t.drawn = d0 := congrArg State.drawn hs.1
  refine ⟨⟨hv, hW, State.sameButNew.setDrawn hs s.drawn⟩, ?_, by decide⟩
  rw [h2]
  exact hd0
def lw_Q (_ : Array Value) (s : State) (o : Outcome) (t : State) : Prop := o = .returned (some (.int 1)) ∧ State.butDraws s t lw_cs (fun t1 => Framed s o t1 [] 3165 120764)
def lw_Z (below : List Frame) (a : Array Value) (s : State) : State → Prop := fun t => ∃ o, t.status = .running ∧ Ended t below o ∧ lw_Q a s o t
/-- the law's own end, with 1 on the stack, nothing written that was there before, its room as the claim has it; d0: the record of draws at this point (at the entry s.drawn: begin with 'refine W.base ?_' and 'have hd0 := Drawn.sameBut.refl s.drawn lw_cs') -/
theorem lw_ret {p : Program} {l : Launch} {e : Env} {s : State} {m : MethodId} {below : List Frame} {meth : Method} {c : Code} {b : Nat} {d0 : Drawn} (hd0 : s.drawn.sameBut d0 lw_cs) (hx : p.tables.exec = Jvm.exec) (hb : c.code = code) (hr : meth.sig.returnType = ret) (hlocks : meth.locks = false) {pc : Nat} {H : Heap} {ls : Array Slot} (hdg : decode code pc = .ok (.ireturn, 1)) : W p l e room_1 (s.setDrawn d0) m #[Value.ref b] below meth c H [] 3165 120764 (lw_Z below #[Value.ref b] s) (F0 m pc ls [.int 1]) := by
  intro T hT X
  obtain ⟨fs, hret, hrun, hended, hW, hframe⟩ := X.leave (v := some (.int 1)) (hlocks := hlocks) (fun h => by rw [hr] at h; cases h)
  have hmeth' : T.vm.method? m = some meth := X.method'
  refine ⟨T.setFrames fs, ?_, .returned (some (.int 1)), hrun, hended, rfl, lw_closed hd0 ⟨_, rfl⟩ hW hframe⟩
  jvm_step X.here [X.here.top, hx, hb, hdg, hmeth', hr, ret, narrow_b1]
  (try refine ⟨rfl, ?_⟩); (try refine ⟨rfl, ?_⟩)
  first | (intro acts; rw [hret _ acts rfl rfl rfl]) | rw [hret _ _ rfl rfl rfl]
  exact Steps.refl _
/-- what holds at the law's entry: the machine, the code, the tables' words (any of lw_tbl by 'hts w (by decide +kernel)'), the script of L ints xs at the cell b, what the Statement gives of the start (any of its parts by flat_of_before) -/
def lw_At (p : Program) (s : State) (m : MethodId) (meth : Method) (c : Code) (b L : Nat) (xs : Nat → Int32) : Prop :=
  p.tables.exec = Jvm.exec ∧ c.code = code ∧ meth.sig.returnType = ret ∧ c.maxLocals = 9 ∧ s.vm.findClass R_law = some m.cls ∧ (∀ w ∈ lw_tbl, w.before #[Value.ref b] s = true) ∧ va_X b L xs s s.heap ∧ b < s.heap.size ∧ meth.locks = false ∧ (Jvm.Cond.and given_1 narrow_1).before #[Value.ref b] s = true
/-- the start of both systems -/
def zs0 : zS := fun k => if k = 27 then (fun j => if j = 1 then (-1) else if j = 2 then (-1) else 0) else if k = 29 then (fun j => if j = 24 then (-1) else if j = 26 then (-1) else 0) else if k = 36 then zneg 32 else if k = 50 then zneg 4 else fun _ => 0
theorem zR_0 : zR 0 zs0 := by
  have z : ∀ k : Nat, k ≠ 27 → k ≠ 29 → k ≠ 36 → k ≠ 50 → zs0 k = fun _ => 0 := fun k h1 h2 h3 h4 => by
    unfold zs0
    rw [if_neg h1, if_neg h2, if_neg h3, if_neg h4]
  have z29 : ∀ j : Nat, j ≠ 24 → j ≠ 26 → zs0 29 j = 0 := fun j h1 h2 => by
    show (if j = 24 then (-1 : Int32) else if j = 26 then (-1) else 0) = 0
    rw [if_neg h1, if_neg h2]
  have n0 : (0 : Int32) = nI 0 := rfl
  have e24 : zs0 29 24 = (-1) := rfl
  have e26 : zs0 29 26 = (-1) := rfl
  have e50 : ∀ c : Nat, c < 4 → zs0 50 c = (-1) := fun c hc => by
    show (if c < 4 then (-1 : Int32) else 0) = (-1)
    rw [if_pos hc]
  have e36 : ∀ c : Nat, c < 32 → zs0 36 c = (-1) := fun c hc => by
    show (if c < 32 then (-1 : Int32) else 0) = (-1)
    rw [if_pos hc]
  have d : ∀ k : Nat, k ≠ 27 → k ≠ 29 → k ≠ 36 → k ≠ 50 → ∀ j : Nat, zs0 k j = 0 := fun k h1 h2 h3 h4 j => by rw [z k h1 h2 h3 h4]
  refine ⟨0, 0, Nat.zero_le _, Nat.zero_le _, ?_, ?_, ?_, ?_, ?_, ?_⟩
  · refine ⟨d 0 (by decide) (by decide) (by decide) (by decide) 6, z29 0 (by decide) (by decide), fun u hu => ?_⟩
    rw [d 1 (by decide) (by decide) (by decide) (by decide), d 30 (by decide) (by decide) (by decide) (by decide)]
  · refine ⟨d 2 (by decide) (by decide) (by decide) (by decide) 6, z29 7 (by decide) (by decide), fun j => ?_, fun j => ?_, fun j hj => absurd hj (Nat.not_lt_zero _), fun j _ _ => ⟨d 6 (by decide) (by decide) (by decide) (by decide) j, d 7 (by decide) (by decide) (by decide) (by decide) j⟩, d 2 (by decide) (by decide) (by decide) (by decide) 7, 0, rfl, d 2 (by decide) (by decide) (by decide) (by decide) 8, rfl⟩
    · rw [d 3 (by decide) (by decide) (by decide) (by decide)]
      decide
    · rw [d 31 (by decide) (by decide) (by decide) (by decide)]
      decide
  · refine ⟨fun a ha => Or.inl ⟨e36 a ha, d 10 (by decide) (by decide) (by decide) (by decide) a⟩, fun a b ha hb _ h => absurd (e36 a ha) h⟩
  · refine ⟨⟨0, Nat.zero_le _, d 13 (by decide) (by decide) (by decide) (by decide) 9, z29 20 (by decide) (by decide), fun i hi => ⟨0, 0, Nat.le_refl _, Nat.zero_le _, d 14 (by decide) (by decide) (by decide) (by decide) i, d 46 (by decide) (by decide) (by decide) (by decide) i, d 15 (by decide) (by decide) (by decide) (by decide) i, d 47 (by decide) (by decide) (by decide) (by decide) i, fun _ => rfl⟩⟩, fun j hj => ?_, fun i s hi hs => ?_, fun i s i' s' hi hi' hs hs' => ?_⟩
    · rw [d 16 (by decide) (by decide) (by decide) (by decide), d 17 (by decide) (by decide) (by decide) (by decide), d 18 (by decide) (by decide) (by decide) (by decide), d 19 (by decide) (by decide) (by decide) (by decide), d 20 (by decide) (by decide) (by decide) (by decide), d 21 (by decide) (by decide) (by decide) (by decide), d 22 (by decide) (by decide) (by decide) (by decide), d 39 (by decide) (by decide) (by decide) (by decide), d 40 (by decide) (by decide) (by decide) (by decide), d 41 (by decide) (by decide) (by decide) (by decide), d 42 (by decide) (by decide) (by decide) (by decide), d 43 (by decide) (by decide) (by decide) (by decide), d 44 (by decide) (by decide) (by decide) (by decide), d 45 (by decide) (by decide) (by decide) (by decide)]
      exact ⟨rfl, rfl, rfl, rfl, rfl, rfl, rfl, ⟨0, by decide, rfl⟩, ⟨0, by decide, rfl⟩, Or.inr ⟨0, by decide, rfl⟩⟩
    · rw [d 46 (by decide) (by decide) (by decide) (by decide)] at hs
      exact absurd hs (Nat.not_lt_zero _)
    · rw [d 46 (by decide) (by decide) (by decide) (by decide)] at hs
      exact absurd hs (Nat.not_lt_zero _)
  · refine ⟨fun i hi => ⟨0, by decide, d 49 (by decide) (by decide) (by decide) (by decide) i⟩, 0, Nat.zero_le _, d 23 (by decide) (by decide) (by decide) (by decide) 3, z29 23 (by decide) (by decide), fun i hi => absurd hi (Nat.not_lt_zero _), fun i j hi => absurd hi (Nat.not_lt_zero _), fun i j hi => absurd hi (Nat.not_lt_zero _)⟩
  · refine ⟨rfl, rfl, rfl, ⟨0, Nat.le_refl _, z29 25 (by decide) (by decide)⟩, Or.inl e24, Or.inl e26, fun c hc => Or.inl ⟨e50 c hc, d 28 (by decide) (by decide) (by decide) (by decide) c⟩, fun c hc h => ?_, fun _ => e50⟩
    rw [e24] at h
    exact absurd h.symm (ni_ne (by omega))
theorem zNws_in : ∀ w ∈ zNws, w ∈ lw_tbl := by decide +kernel
theorem zNws_on : ∀ w ∈ zNws, w.onTables = true := by decide +kernel
theorem zStr_in : ∀ q ∈ zStr, Cond.stringRef RX5 q.1 q.2 ∈ lw_tbl := by decide +kernel
theorem zStr_ex : ∀ q ∈ zStr, Cond.exactly (.string RX5 q.1) "java/lang/String" ∈ flatC (Jvm.Cond.and given_1 narrow_1) := by decide +kernel
theorem zNcs_in : ∀ q ∈ zNcs, Cond.not (.castable q.1 q.2) ∈ flatC (Jvm.Cond.and given_1 narrow_1) := by decide +kernel
theorem zcl_in : ∀ w ∈ zcl, w ∈ lw_tbl := by decide +kernel
theorem zArr {s : State} {args : Array Value} {ty : FieldType} (h : (Cond.arrayClass ty).before args s = true) : ∃ cA : ClassId, ArrOfT s cA ty ∧ s.vm.findClass ("[" ++ ty.toString) = some cA := by
  obtain ⟨cA, kA, comp, h1, h2, h3⟩ := Cond.arrayClass_spec h
  exact ⟨cA, fun n z => ⟨fun k h => (by cases h), kA, h2, comp, h3⟩, h1⟩
set_option maxRecDepth 100000 in
set_option maxHeartbeats 4000000 in
theorem start_E {s : State} {b : Nat} (hts : ∀ w ∈ lw_tbl, w.before #[Value.ref b] s = true) (hgv : (Jvm.Cond.and given_1 narrow_1).before #[Value.ref b] s = true) : ∃ (G : va_G) (cs : Nat → ClassId), zE G cs (fun q => s.heap.size ≤ q) s s.heap := by
  have hs := flat_of_before _ hgv
  obtain ⟨c0, i0, k0⟩ := u_known (C := RJ0) (T := TJ0) (N := 2) (n := 4) hts inJ0 (hts (.instantiable RJ0 4) (by decide +kernel))
  obtain ⟨c1, i1, k1⟩ := u_known (C := RJx00060) (T := TJx00060) (N := 6) (n := 6) hts inJx00060 (hts (.instantiable RJx00060 6) (by decide +kernel))
  obtain ⟨c2, i2, k2⟩ := u_known (C := RX0) (T := TX0) (N := 3) (n := 3) hts inX0 (hts (.instantiable RX0 3) (by decide +kernel))
  obtain ⟨c3, i3, k3⟩ := u_known (C := RX1) (T := TX1) (N := 4) (n := 4) hts inX1 (hts (.instantiable RX1 4) (by decide +kernel))
  obtain ⟨c4, i4, k4⟩ := u_known (C := RX2) (T := TX2) (N := 9) (n := 9) hts inX2 (hts (.instantiable RX2 9) (by decide +kernel))
  obtain ⟨c5, i5, k5⟩ := u_known (C := RX3) (T := TX3) (N := 4) (n := 4) hts inX3 (hts (.instantiable RX3 4) (by decide +kernel))
  obtain ⟨c6, i6, k6⟩ := u_known (C := RX4) (T := TX4) (N := 10) (n := 10) hts inX4 (hts (.instantiable RX4 10) (by decide +kernel))
  obtain ⟨c7, i7, k7⟩ := u_known (C := RX5) (T := TX5) (N := 7) (n := 7) hts inX5 (hts (.instantiable RX5 7) (by decide +kernel))
  obtain ⟨c8, i8, k8⟩ := u_known (C := RX6) (T := TX6) (N := 29) (n := 29) hts inX6 (hts (.instantiable RX6 29) (by decide +kernel))
  obtain ⟨a0, r0, f0⟩ := zArr (hts (.arrayClass .char) (by decide +kernel))
  obtain ⟨a1, r1, f1⟩ := zArr (hts (.arrayClass .int) (by decide +kernel))
  obtain ⟨a2, r2, f2⟩ := zArr (hts (.arrayClass .boolean) (by decide +kernel))
  obtain ⟨a3, r3, f3⟩ := zArr (hts (.arrayClass .long) (by decide +kernel))
  obtain ⟨a4, r4, f4⟩ := zArr (hts (.arrayClass .double) (by decide +kernel))
  refine ⟨(fun k => match k with | 0 => c0 | 1 => c1 | 2 => c2 | 3 => c3 | 4 => c4 | 5 => c5 | 6 => c6 | 7 => c7 | _ => c8, fun k => match k with | 0 => i0 | 1 => i1 | 2 => i2 | 3 => i3 | 4 => i4 | 5 => i5 | 6 => i6 | 7 => i7 | _ => i8), fun k => match k with | 0 => a0 | 1 => a1 | 2 => a2 | 3 => a3 | _ => a4, ⟨fun k q hq => ?_, fun k q hq => ?_⟩, fun w hw => va_Nw.of (zNws_on w hw) (hts w (zNws_in w hw)), fun q hq => ?_, vx_Zqof (hts (.laysStatic Bundle.tN "UNASSIGNED_STACK" Bundle.steD) (by decide +kernel)) (hts (.initialized Bundle.tN) (by decide +kernel)) (hs (.isRef (.static Bundle.tN "UNASSIGNED_STACK" Bundle.steD)) (by decide +kernel)) (fun a ha => Nat.not_le.mpr ha), vx_Zqof (hts (.laysStatic Bundle.tN "SUPPRESSED_SENTINEL" Bundle.listD) (by decide +kernel)) (hts (.initialized Bundle.tN) (by decide +kernel)) (hs (.isRef (.static Bundle.tN "SUPPRESSED_SENTINEL" Bundle.listD)) (by decide +kernel)) (fun a ha => Nat.not_le.mpr ha), fun q hq => va_Nc.of (hs _ (zNcs_in q hq))⟩
  · match k, hq with
    | 0, hq => cases hq; exact k0
    | 1, hq => cases hq; exact k1
    | 2, hq => cases hq; exact k2
    | 3, hq => cases hq; exact k3
    | 4, hq => cases hq; exact k4
    | 5, hq => cases hq; exact k5
    | 6, hq => cases hq; exact k6
    | 7, hq => cases hq; exact k7
    | 8, hq => cases hq; exact k8
    | k + 9, hq => simp [vwCl] at hq
  · match k, hq with
    | 0, hq => cases hq; exact ⟨r0, f0⟩
    | 1, hq => cases hq; exact ⟨r1, f1⟩
    | 2, hq => cases hq; exact ⟨r2, f2⟩
    | 3, hq => cases hq; exact ⟨r3, f3⟩
    | 4, hq => cases hq; exact ⟨r4, f4⟩
    | k + 5, hq => simp [ztys] at hq
  · obtain ⟨a, c, cell, k, q1, -⟩ := Cond.exactly_spec (hs _ (zStr_ex q hq))
    exact ⟨a, vk_R.of (hts _ (zStr_in q hq)) q1⟩
theorem and63 (x : Int32) : ∃ k : Nat, k < 64 ∧ x &&& 63 = nI k := by
  refine ⟨(x.toBitVec &&& 63#32).toNat, ?_, ?_⟩
  · rw [BitVec.toNat_and]
    exact Nat.lt_of_le_of_lt Nat.and_le_right (by decide)
  · rw [← Int32.toBitVec_inj, Int32.toBitVec_and]
    show x.toBitVec &&& 63#32 = BitVec.ofNat 32 (x.toBitVec &&& 63#32).toNat
    rw [BitVec.ofNat_toNat, BitVec.setWidth_eq]
theorem lp_v {L i : Nat} (hL : L ≤ 3072) (hi : i ≤ 3072) (h : ¬ Int32.ofNat L - 6 < nI i) : i + 6 ≤ L := by
  rw [Int32.lt_iff_toInt_lt, show Int32.ofNat L = nI L from rfl, show (6 : Int32) = nI 6 from rfl, Int32.toInt_sub, ni_ti (by omega), ni_ti (by omega), ni_ti (by omega)] at h
  have : ((L : Int) - (6 : Nat)).bmod (2 ^ 32) = (L : Int) - (6 : Nat) := by
    apply Int.bmod_eq_of_le <;> omega
  rw [this] at h
  omega
theorem k39 : ∀ k : Nat, k < 39 → k = 0 ∨ k = 1 ∨ k = 2 ∨ k = 3 ∨ k = 4 ∨ k = 5 ∨ k = 6 ∨ k = 7 ∨ k = 8 ∨ k = 9 ∨ k = 10 ∨ k = 11 ∨ k = 12 ∨ k = 13 ∨ k = 14 ∨ k = 15 ∨ k = 16 ∨ k = 17 ∨ k = 18 ∨ k = 19 ∨ k = 20 ∨ k = 21 ∨ k = 22 ∨ k = 23 ∨ k = 24 ∨ k = 25 ∨ k = 26 ∨ k = 27 ∨ k = 28 ∨ k = 29 ∨ k = 30 ∨ k = 31 ∨ k = 32 ∨ k = 33 ∨ k = 34 ∨ k = 35 ∨ k = 36 ∨ k = 37 ∨ k = 38 := by
  intro k h
  omega
set_option maxRecDepth 100000 in
set_option maxHeartbeats 4000000 in
/-- the law's loop: at its head, behind t calls, both systems agree -/
theorem law_loop {p : Program} {l : Launch} {e : Env} {s : State} {m : MethodId} {below : List Frame} {meth : Method} {c : Code} {b L : Nat} {xs : Nat → Int32} {G : va_G} {cs : Nat → ClassId} (K : zCtx p l s m meth c b L xs G cs) (hlocks : meth.locks = false) (ad : Nat → Nat) (qo qd : Nat) (hL : L ≤ 3072) :
    ∀ (n t : Nat), 6 * t ≤ L → L + 6 ≤ 6 * (t + n) → ∀ (x5 : Int32) (σ : zS) (o : Nat → Int64) (d : Nat → UInt64) (H : Heap) (locs : List Loc) (ls : Array Slot), x5 = nI (6 * t) → zR t σ → va_P G vwCl (zw cs ad σ (zt cs qo o qd d)) H → va_D (fun q => s.heap.size ≤ q) (zw cs ad σ (zt cs qo o qd d)) → va_S (fun q => s.heap.size ≤ q) s.heap H locs → lv_has ls 9 [(0, .ref b), (1, .ref (ad 0)), (2, .ref (ad 29)), (3, .ref qo), (4, .ref qd), (5, .int x5)] →
      W p l e room_1 s m #[Value.ref b] below meth c H locs (53 + 6 * t) (1740 + 36 * t) (lw_Z below #[Value.ref b] s) (F0 m 28 ls []) := by
  obtain ⟨hx, hb, hr, hml, hown, hts, htc, hX, hbl, hfl, hE⟩ := id K
  have hbA : ¬ (fun q : Nat => s.heap.size ≤ q) b := Nat.not_le.mpr hbl
  intro n
  induction n with
  | zero =>
    intro t h1 h2
    exact absurd h2 (by omega)
  | succ n ih =>
    intro t ht hn x5 σ o d H locs ls ex hR hP hD hS hl
    refine lv_iload hx hb dL_law_28 (lv_at hl 5 rfl) ?_
    refine lv_aload_n hx hb dL_law_30 rfl (lv_at hl 0 rfl) ?_
    refine va_slen hx hb hX hbl hbA hS dL_law_31 ?_
    refine lv_bipush (v := 6) hx hb dL_law_32 (by decide) ?_
    refine lv_isub hx hb dL_law_34 ?_
    refine lv_icmp_gt (tgt := 2260) hx hb dL_law_35 (by decide) (fun c1 => ?_) (fun c1 => ?_)
    · refine lv_iconst (v := 1) hx hb dL_law_2260 (by decide) ?_
      refine va_forget (fun q hq => hS.2.2 q hq) ?_
      refine W.widen (k := 3165) (n := 120764) (by omega) (by omega) ?_
      refine W.base ?_
      exact lw_ret (Drawn.sameBut.refl s.drawn lw_cs) hx hb hr hlocks dL_law_2261
    · have hi : 6 * t + 6 ≤ L := by
        rw [ex] at c1
        exact lp_v hL (by omega) c1
      have hin : vp_in x5 L := by rw [ex]; exact vp_in_nI (by omega) (by omega)
      have tail : ∀ (H : Heap) (locs : List Loc) (σ : zS) (o : Nat → Int64) (d : Nat → UInt64) (ls : Array Slot), zR (t + 1) σ → va_P G vwCl (zw cs ad σ (zt cs qo o qd d)) H → va_D (fun q => s.heap.size ≤ q) (zw cs ad σ (zt cs qo o qd d)) → va_S (fun q => s.heap.size ≤ q) s.heap H locs → lv_has ls 9 [(0, .ref b), (1, .ref (ad 0)), (2, .ref (ad 29)), (3, .ref qo), (4, .ref qd), (5, .int x5)] → W p l e room_1 s m #[Value.ref b] below meth c H locs (53 + 6 * t + 6) (1740 + 36 * t + 36) (lw_Z below #[Value.ref b] s) (F0 m 2254 ls []) := by
        intro H locs σ o d ls hR hP hD hS hl
        obtain ⟨y5, ey⟩ : ∃ y : Int32, y = x5 + 6 := ⟨_, rfl⟩
        refine lv_iinc (v := y5) (lv' := [(5, .int y5), (0, .ref b), (1, .ref (ad 0)), (2, .ref (ad 29)), (3, .ref qo), (4, .ref qd)]) hx hb dL_law_2254 hl (k := 5) rfl (by rw [ey]; rfl) (by decide) rfl (fun ls hl => ?_)
        refine lv_goto (tgt := 28) hx hb dL_law_2257 (by decide) ?_
        refine W.widen (k := 53 + 6 * (t + 1)) (n := 1740 + 36 * (t + 1)) (by omega) (by omega) ?_
        refine ih (t + 1) (by omega) (by omega) y5 σ o d H locs ls ?_ hR hP hD hS (lv_sub hl [1, 2, 3, 4, 5, 0] rfl)
        rw [ey, ex, show (6 : Int32) = nI 6 from rfl, nI_add, show 6 * t + 6 = 6 * (t + 1) by omega]
      refine lv_aload_n hx hb dL_law_38 rfl (lv_at hl 0 rfl) ?_
      refine lv_iload hx hb dL_law_39 (lv_at hl 5 rfl) ?_
      refine va_sld hx hb hX hbl hbA hS hin dL_law_41 ?_
      refine lv_bipush (v := 63) hx hb dL_law_42 (by decide) ?_
      refine lv_iand hx hb dL_law_44 ?_
      obtain ⟨k, hk, ek⟩ := and63 (xs x5.toNatClampNeg)
      rw [ek]
      by_cases hk39 : k < 39
      · rcases k39 k hk39 with rfl | rfl | rfl | rfl | rfl | rfl | rfl | rfl | rfl | rfl | rfl | rfl | rfl | rfl | rfl | rfl | rfl | rfl | rfl | rfl | rfl | rfl | rfl | rfl | rfl | rfl | rfl | rfl | rfl | rfl | rfl | rfl | rfl | rfl | rfl | rfl | rfl | rfl | rfl
        · refine lv_tableIn (off := 171) (tgt := 216) hx hb dL_law_45 (by decide) (by decide) (by decide) (by decide) ?_
          exact lc_0 K ad qo qd hi hL hR (by omega) (by omega) hP hD hS ex hl tail
        · refine lv_tableIn (off := 227) (tgt := 272) hx hb dL_law_45 (by decide) (by decide) (by decide) (by decide) ?_
          exact lc_1 K ad qo qd hi hL hR (by omega) (by omega) hP hD hS ex hl tail
        · refine lv_tableIn (off := 307) (tgt := 352) hx hb dL_law_45 (by decide) (by decide) (by decide) (by decide) ?_
          exact lc_2 K ad qo qd hi hL hR (by omega) (by omega) hP hD hS ex hl tail
        · refine lv_tableIn (off := 375) (tgt := 420) hx hb dL_law_45 (by decide) (by decide) (by decide) (by decide) ?_
          exact lc_3 K ad qo qd hi hL hR (by omega) (by omega) hP hD hS ex hl tail
        · refine lv_tableIn (off := 455) (tgt := 500) hx hb dL_law_45 (by decide) (by decide) (by decide) (by decide) ?_
          exact lc_4 K ad qo qd hi hL hR (by omega) (by omega) hP hD hS ex hl tail
        · refine lv_tableIn (off := 530) (tgt := 575) hx hb dL_law_45 (by decide) (by decide) (by decide) (by decide) ?_
          exact lc_5 K ad qo qd hi hL hR (by omega) (by omega) hP hD hS ex hl tail
        · refine lv_tableIn (off := 586) (tgt := 631) hx hb dL_law_45 (by decide) (by decide) (by decide) (by decide) ?_
          exact lc_6 K ad qo qd hi hL hR (by omega) (by omega) hP hD hS ex hl tail
        · refine lv_tableIn (off := 630) (tgt := 675) hx hb dL_law_45 (by decide) (by decide) (by decide) (by decide) ?_
          exact lc_7 K ad qo qd hi hL hR (by omega) (by omega) hP hD hS ex hl tail
        · refine lv_tableIn (off := 674) (tgt := 719) hx hb dL_law_45 (by decide) (by decide) (by decide) (by decide) ?_
          exact lc_8 K ad qo qd hi hL hR (by omega) (by omega) hP hD hS ex hl tail
        · refine lv_tableIn (off := 778) (tgt := 823) hx hb dL_law_45 (by decide) (by decide) (by decide) (by decide) ?_
          exact lc_9 K ad qo qd hi hL hR (by omega) (by omega) hP hD hS ex hl tail
        · refine lv_tableIn (off := 834) (tgt := 879) hx hb dL_law_45 (by decide) (by decide) (by decide) (by decide) ?_
          exact lc_10 K ad qo qd hi hL hR (by omega) (by omega) hP hD hS ex hl tail
        · refine lv_tableIn (off := 890) (tgt := 935) hx hb dL_law_45 (by decide) (by decide) (by decide) (by decide) ?_
          exact lc_11 K ad qo qd hi hL hR (by omega) (by omega) hP hD hS ex hl tail
        · refine lv_tableIn (off := 946) (tgt := 991) hx hb dL_law_45 (by decide) (by decide) (by decide) (by decide) ?_
          exact lc_12 K ad qo qd hi hL hR (by omega) (by omega) hP hD hS ex hl tail
        · refine lv_tableIn (off := 1002) (tgt := 1047) hx hb dL_law_45 (by decide) (by decide) (by decide) (by decide) ?_
          exact lc_13 K ad qo qd hi hL hR (by omega) (by omega) hP hD hS ex hl tail
        · refine lv_tableIn (off := 1058) (tgt := 1103) hx hb dL_law_45 (by decide) (by decide) (by decide) (by decide) ?_
          exact lc_14 K ad qo qd hi hL hR (by omega) (by omega) hP hD hS ex hl tail
        · refine lv_tableIn (off := 1114) (tgt := 1159) hx hb dL_law_45 (by decide) (by decide) (by decide) (by decide) ?_
          exact lc_15 K ad qo qd hi hL hR (by omega) (by omega) hP hD hS ex hl tail
        · refine lv_tableIn (off := 1158) (tgt := 1203) hx hb dL_law_45 (by decide) (by decide) (by decide) (by decide) ?_
          exact lc_16 K ad qo qd hi hL hR (by omega) (by omega) hP hD hS ex hl tail
        · refine lv_tableIn (off := 1214) (tgt := 1259) hx hb dL_law_45 (by decide) (by decide) (by decide) (by decide) ?_
          exact lc_17 K ad qo qd hi hL hR (by omega) (by omega) hP hD hS ex hl tail
        · refine lv_tableIn (off := 1270) (tgt := 1315) hx hb dL_law_45 (by decide) (by decide) (by decide) (by decide) ?_
          exact lc_18 K ad qo qd hi hL hR (by omega) (by omega) hP hD hS ex hl tail
        · refine lv_tableIn (off := 1333) (tgt := 1378) hx hb dL_law_45 (by decide) (by decide) (by decide) (by decide) ?_
          exact lc_19 K ad qo qd hi hL hR (by omega) (by omega) hP hD hS ex hl tail
        · refine lv_tableIn (off := 1377) (tgt := 1422) hx hb dL_law_45 (by decide) (by decide) (by decide) (by decide) ?_
          exact lc_20 K ad qo qd hi hL hR (by omega) (by omega) hP hD hS ex hl tail
        · refine lv_tableIn (off := 1433) (tgt := 1478) hx hb dL_law_45 (by decide) (by decide) (by decide) (by decide) ?_
          exact lc_21 K ad qo qd hi hL hR (by omega) (by omega) hP hD hS ex hl tail
        · refine lv_tableIn (off := 1489) (tgt := 1534) hx hb dL_law_45 (by decide) (by decide) (by decide) (by decide) ?_
          exact lc_22 K ad qo qd hi hL hR (by omega) (by omega) hP hD hS ex hl tail
        · refine lv_tableIn (off := 1545) (tgt := 1590) hx hb dL_law_45 (by decide) (by decide) (by decide) (by decide) ?_
          exact lc_23 K ad qo qd hi hL hR (by omega) (by omega) hP hD hS ex hl tail
        · refine lv_tableIn (off := 1601) (tgt := 1646) hx hb dL_law_45 (by decide) (by decide) (by decide) (by decide) ?_
          exact lc_24 K ad qo qd hi hL hR (by omega) (by omega) hP hD hS ex hl tail
        · refine lv_tableIn (off := 1645) (tgt := 1690) hx hb dL_law_45 (by decide) (by decide) (by decide) (by decide) ?_
          exact lc_25 K ad qo qd hi hL hR (by omega) (by omega) hP hD hS ex hl tail
        · refine lv_tableIn (off := 1689) (tgt := 1734) hx hb dL_law_45 (by decide) (by decide) (by decide) (by decide) ?_
          exact lc_26 K ad qo qd hi hL hR (by omega) (by omega) hP hD hS ex hl tail
        · refine lv_tableIn (off := 1745) (tgt := 1790) hx hb dL_law_45 (by decide) (by decide) (by decide) (by decide) ?_
          exact lc_27 K ad qo qd hi hL hR (by omega) (by omega) hP hD hS ex hl tail
        · refine lv_tableIn (off := 1758) (tgt := 1803) hx hb dL_law_45 (by decide) (by decide) (by decide) (by decide) ?_
          exact lc_28 K ad qo qd hi hL hR (by omega) (by omega) hP hD hS ex hl tail
        · refine lv_tableIn (off := 1802) (tgt := 1847) hx hb dL_law_45 (by decide) (by decide) (by decide) (by decide) ?_
          exact lc_29 K ad qo qd hi hL hR (by omega) (by omega) hP hD hS ex hl tail
        · refine lv_tableIn (off := 1815) (tgt := 1860) hx hb dL_law_45 (by decide) (by decide) (by decide) (by decide) ?_
          exact lc_30 K ad qo qd hi hL hR (by omega) (by omega) hP hD hS ex hl tail
        · refine lv_tableIn (off := 1871) (tgt := 1916) hx hb dL_law_45 (by decide) (by decide) (by decide) (by decide) ?_
          exact lc_31 K ad qo qd hi hL hR (by omega) (by omega) hP hD hS ex hl tail
        · refine lv_tableIn (off := 1884) (tgt := 1929) hx hb dL_law_45 (by decide) (by decide) (by decide) (by decide) ?_
          exact lc_32 K ad qo qd hi hL hR (by omega) (by omega) hP hD hS ex hl tail
        · refine lv_tableIn (off := 1897) (tgt := 1942) hx hb dL_law_45 (by decide) (by decide) (by decide) (by decide) ?_
          exact lc_33 K ad qo qd hi hL hR (by omega) (by omega) hP hD hS ex hl tail
        · refine lv_tableIn (off := 1953) (tgt := 1998) hx hb dL_law_45 (by decide) (by decide) (by decide) (by decide) ?_
          exact lc_34 K ad qo qd hi hL hR (by omega) (by omega) hP hD hS ex hl tail
        · refine lv_tableIn (off := 2009) (tgt := 2054) hx hb dL_law_45 (by decide) (by decide) (by decide) (by decide) ?_
          exact lc_35 K ad qo qd hi hL hR (by omega) (by omega) hP hD hS ex hl tail
        · refine lv_tableIn (off := 2065) (tgt := 2110) hx hb dL_law_45 (by decide) (by decide) (by decide) (by decide) ?_
          exact lc_36 K ad qo qd hi hL hR (by omega) (by omega) hP hD hS ex hl tail
        · refine lv_tableIn (off := 2131) (tgt := 2176) hx hb dL_law_45 (by decide) (by decide) (by decide) (by decide) ?_
          exact lc_37 K ad qo qd hi hL hR (by omega) (by omega) hP hD hS ex hl tail
        · refine lv_tableIn (off := 2196) (tgt := 2241) hx hb dL_law_45 (by decide) (by decide) (by decide) (by decide) ?_
          exact lc_38 K ad qo qd hi hL hR (by omega) (by omega) hP hD hS ex hl tail
      · refine lv_tableOut (tgt := 2254) hx hb dL_law_45 (Or.inr (by rw [ni_ti (by omega)]; omega)) (by decide) ?_
        refine W.widen (k := 53 + 6 * t + 6) (n := 1740 + 36 * t + 36) (by omega) (by omega) ?_
        exact tail H locs σ o d ls (zR_later hR (Nat.le_succ t)) hP hD hS hl
set_option maxRecDepth 100000 in
set_option maxHeartbeats 4000000 in
/-- from the entry -/
theorem whole_start {p : Program} {e : Env} {s : State} {m : MethodId} {below : List Frame} {meth : Method} {c : Code} (l : Launch) (hflags : l.flags = flags0) {b L : Nat} {xs : Nat → Int32} (hL : L ≤ 3072) (C0 : lw_At p s m meth c b L xs) : W p l e room_1 s m #[Value.ref b] below meth c s.heap [] 0 0 (lw_Z below #[Value.ref b] s) (entryFrame m ([Value.ref b] : List Value).toArray 9) := by
  obtain ⟨hx, hb, hr, hml, hown, hts0, hX, hbl, hlocks, hgv⟩ := id C0
  obtain ⟨G, cs, hE⟩ := start_E hts0 hgv
  have hb : c.code = cL_law := hb
  have hown : s.vm.findClass RL = some m.cls := hown
  have hts : ∀ w ∈ wsL_law, w.before #[Value.ref b] s = true := fun w h => hts0 w (wsL_law_in w h)
  have htc : ∀ w ∈ zcl, w.before #[Value.ref b] s = true := fun w h => hts0 w (zcl_in w h)
  have hfl : l.stackTraces = false := by
    show (!l.flags.contains noTraceFlag) = false
    rw [hflags]
    decide +kernel
  have K : zCtx p l s m meth c b L xs G cs := ⟨hx, hb, hr, hml, hown, hts, htc, hX, hbl, hfl, hE⟩
  have hA : ∀ q : Nat, s.heap.size ≤ q → (fun q : Nat => s.heap.size ≤ q) q := fun _ h => h
  have hS : va_S (fun q : Nat => s.heap.size ≤ q) s.heap s.heap [] := va_S.rf
  have hP : va_P G vwCl [] s.heap := fun k q h => by simp at h
  have hD : va_D (fun q : Nat => s.heap.size ≤ q) [] := ⟨fun i j p q h => by simp at h, fun k q h => by simp at h⟩
  have hl := lv_entry ([.ref b]) (n := 9) (Nat.le_of_ble_eq_true rfl)
  rw [lg_entry_eq]
  generalize (lg_sl ([.ref b]) ++ List.replicate (9 - (lg_sl ([.ref b])).length) Slot.unset).toArray = ls at hl ⊢
  have hl : lv_has ls 9 [(0, .ref b)] := hl
  obtain ⟨H, hH⟩ : ∃ z, z = s.heap := ⟨_, rfl⟩
  obtain ⟨locs, hlocs⟩ : ∃ z : List Loc, z = [] := ⟨_, rfl⟩
  rw [← hH] at hP
  have hS : va_S (fun q : Nat => s.heap.size ≤ q) s.heap H locs := by rw [hH, hlocs]; exact hS
  show W _ _ _ _ _ _ _ _ _ _ s.heap [] _ _ _ _
  rw [← hH, ← hlocs]
  clear hlocs
  refine va_new (ci := 7) (fs := [.null, .null, .null, .null, .null, .null, .int 0]) (C := RX5) (T := TX5) (N := 7) hx hb hts inlX5 tyX5 tyX5_ok hown (hts (.classLink RL 8 RX5) (by decide +kernel)) (hts (.instantiable RX5 7) (by decide +kernel)) (hts (.initialized RX5) (by decide +kernel)) hE.1 hP hD hS hA rfl (fun j hj => by rcases (show j = 0 ∨ j = 1 ∨ j = 2 ∨ j = 3 ∨ j = 4 ∨ j = 5 ∨ j = 6 by omega) with rfl | rfl | rfl | rfl | rfl | rfl | rfl <;> rfl) (Nat.le_of_ble_eq_true rfl) (Nat.le_of_ble_eq_true rfl) dL_law_0 (fun p0 H hP hD hS => ?_)
  refine W.widen (k := 1) (n := 7) (Nat.le_of_ble_eq_true rfl) (Nat.le_of_ble_eq_true rfl) ?_
  have hP : va_P G vwCl [(p0, .inr (7, [.null, .null, .null, .null, .null, .null, .int 0]))] H := hP
  have hD : va_D (fun q : Nat => s.heap.size ≤ q) [(p0, .inr (7, [.null, .null, .null, .null, .null, .null, .int 0]))] := hD
  refine lv_dup hx hb dL_law_3 rfl ?_
  have hPc := hP.sub (ws' := [(p0, .inr (7, [.null, .null, .null, .null, .null, .null, .int 0]))]) [0] rfl
  have hDc := hD.sub (ws' := [(p0, .inr (7, [.null, .null, .null, .null, .null, .null, .int 0]))]) [0] (by decide) rfl
  have hFc := va_free (wc := [(p0, .inr (7, [.null, .null, .null, .null, .null, .null, .int 0]))]) hD hS hA [0] rfl
  refine va_callv (va_runI (As := []) (rest := [.ref p0]) ⟨hx, hb, hml, hown, hts⟩ (c_X5_init l G cs p0 H.size) (cwI 0 hts gL_law_X5_init rfl rfl rfl (hts (.initialized RX5) (by decide +kernel)) (hts (.methodLink RL 133 yX5_init) (by decide +kernel)) (hts (.instanceMethod yX5_init) (by decide +kernel)) rfl (by decide +kernel) ⟨Nat.le_of_ble_eq_true rfl, Nat.le_of_ble_eq_true rfl⟩) (zps hE hPc hDc hS hA) rfl rfl hl.1 rfl (lv_room (Nat.le_of_ble_eq_true rfl)) dL_law_4 ⟨Nat.le_of_ble_eq_true rfl, Nat.le_of_ble_eq_true rfl⟩) hS (fun q _ h => hFc q h) hFc (fun _ t H1 locs1 ht hvm hw hB hz1 hk1 hS => ?_)
  obtain ⟨p1, p2, p3, p4, p5, p6, p7, p8, p9, p10, p11, p12, p13, p14, p15, p16, p17, p18, p19, p20, p21, p22, p23, p24, p25, p26, p27, p28, hP1, hD1⟩ := hB
  rw [ht] at hP1
  obtain ⟨hP, hD⟩ := va_join (wr := []) (w1 := [(p0, .inr (7, [.ref p1, .ref p2, .ref p9, .ref p13, .ref p23, .ref p27, .int 0])), (p1, .inl (cs 1, 8, .inl (fun _ => 0))), (p2, .inr (4, [.ref p3, .ref p4, .ref p5, .ref p6, .ref p7, .ref p8, .int 0, .int 0, .int 0])), (p3, .inl (cs 0, 60, .inl (fun _ => 0))), (p4, .inl (cs 1, 60, .inl (fun _ => 0))), (p5, .inl (cs 2, 60, .inl (fun _ => 0))), (p6, .inl (cs 2, 60, .inl (fun _ => 0))), (p7, .inl (cs 1, 60, .inl (fun _ => 0))), (p8, .inl (cs 1, 120, .inl (fun _ => 0))), (p9, .inr (2, [.ref p10, .ref p11, .ref p12])), (p10, .inl (cs 1, 32, .inl (fun _ => 0))), (p11, .inl (cs 1, 32, .inl (fun _ => 0))), (p12, .inl (cs 1, 32, .inl (fun _ => 0))), (p13, .inr (6, [.ref p14, .ref p15, .ref p16, .ref p17, .ref p18, .ref p19, .ref p20, .ref p21, .ref p22, .int 0])), (p14, .inl (cs 1, 6, .inl (fun _ => 0))), (p15, .inl (cs 1, 6, .inl (fun _ => 0))), (p16, .inl (cs 1, 48, .inl (fun _ => 0))), (p17, .inl (cs 1, 48, .inl (fun _ => 0))), (p18, .inl (cs 1, 48, .inl (fun _ => 0))), (p19, .inl (cs 1, 48, .inl (fun _ => 0))), (p20, .inl (cs 1, 48, .inl (fun _ => 0))), (p21, .inl (cs 1, 48, .inl (fun _ => 0))), (p22, .inl (cs 1, 48, .inl (fun _ => 0))), (p23, .inr (5, [.ref p24, .ref p25, .ref p26, .int 0])), (p24, .inl (cs 1, 8, .inl (fun _ => 0))), (p25, .inl (cs 1, 8, .inl (fun _ => 0))), (p26, .inl (cs 2, 8, .inl (fun _ => 0))), (p27, .inr (3, [.ref p28, .int (-1), .int (-1), .int 0])), (p28, .inl (cs 1, 4, .inl (fun _ => 0)))]) hP hD [0] [] rfl rfl (by decide) (by decide) hk1 hFc hP1 hD1
  generalize H1 = H at hP hS ⊢
  refine W.widen (k := 29) (n := 937) (Nat.le_of_ble_eq_true rfl) (Nat.le_of_ble_eq_true rfl) ?_
  have hP : va_P G vwCl [(p0, .inr (7, [.ref p1, .ref p2, .ref p9, .ref p13, .ref p23, .ref p27, .int 0])), (p1, .inl (cs 1, 8, .inl (fun _ => 0))), (p2, .inr (4, [.ref p3, .ref p4, .ref p5, .ref p6, .ref p7, .ref p8, .int 0, .int 0, .int 0])), (p3, .inl (cs 0, 60, .inl (fun _ => 0))), (p4, .inl (cs 1, 60, .inl (fun _ => 0))), (p5, .inl (cs 2, 60, .inl (fun _ => 0))), (p6, .inl (cs 2, 60, .inl (fun _ => 0))), (p7, .inl (cs 1, 60, .inl (fun _ => 0))), (p8, .inl (cs 1, 120, .inl (fun _ => 0))), (p9, .inr (2, [.ref p10, .ref p11, .ref p12])), (p10, .inl (cs 1, 32, .inl (fun _ => 0))), (p11, .inl (cs 1, 32, .inl (fun _ => 0))), (p12, .inl (cs 1, 32, .inl (fun _ => 0))), (p13, .inr (6, [.ref p14, .ref p15, .ref p16, .ref p17, .ref p18, .ref p19, .ref p20, .ref p21, .ref p22, .int 0])), (p14, .inl (cs 1, 6, .inl (fun _ => 0))), (p15, .inl (cs 1, 6, .inl (fun _ => 0))), (p16, .inl (cs 1, 48, .inl (fun _ => 0))), (p17, .inl (cs 1, 48, .inl (fun _ => 0))), (p18, .inl (cs 1, 48, .inl (fun _ => 0))), (p19, .inl (cs 1, 48, .inl (fun _ => 0))), (p20, .inl (cs 1, 48, .inl (fun _ => 0))), (p21, .inl (cs 1, 48, .inl (fun _ => 0))), (p22, .inl (cs 1, 48, .inl (fun _ => 0))), (p23, .inr (5, [.ref p24, .ref p25, .ref p26, .int 0])), (p24, .inl (cs 1, 8, .inl (fun _ => 0))), (p25, .inl (cs 1, 8, .inl (fun _ => 0))), (p26, .inl (cs 2, 8, .inl (fun _ => 0))), (p27, .inr (3, [.ref p28, .int (-1), .int (-1), .int 0])), (p28, .inl (cs 1, 4, .inl (fun _ => 0)))] H := hP
  have hD : va_D (fun q : Nat => s.heap.size ≤ q) [(p0, .inr (7, [.ref p1, .ref p2, .ref p9, .ref p13, .ref p23, .ref p27, .int 0])), (p1, .inl (cs 1, 8, .inl (fun _ => 0))), (p2, .inr (4, [.ref p3, .ref p4, .ref p5, .ref p6, .ref p7, .ref p8, .int 0, .int 0, .int 0])), (p3, .inl (cs 0, 60, .inl (fun _ => 0))), (p4, .inl (cs 1, 60, .inl (fun _ => 0))), (p5, .inl (cs 2, 60, .inl (fun _ => 0))), (p6, .inl (cs 2, 60, .inl (fun _ => 0))), (p7, .inl (cs 1, 60, .inl (fun _ => 0))), (p8, .inl (cs 1, 120, .inl (fun _ => 0))), (p9, .inr (2, [.ref p10, .ref p11, .ref p12])), (p10, .inl (cs 1, 32, .inl (fun _ => 0))), (p11, .inl (cs 1, 32, .inl (fun _ => 0))), (p12, .inl (cs 1, 32, .inl (fun _ => 0))), (p13, .inr (6, [.ref p14, .ref p15, .ref p16, .ref p17, .ref p18, .ref p19, .ref p20, .ref p21, .ref p22, .int 0])), (p14, .inl (cs 1, 6, .inl (fun _ => 0))), (p15, .inl (cs 1, 6, .inl (fun _ => 0))), (p16, .inl (cs 1, 48, .inl (fun _ => 0))), (p17, .inl (cs 1, 48, .inl (fun _ => 0))), (p18, .inl (cs 1, 48, .inl (fun _ => 0))), (p19, .inl (cs 1, 48, .inl (fun _ => 0))), (p20, .inl (cs 1, 48, .inl (fun _ => 0))), (p21, .inl (cs 1, 48, .inl (fun _ => 0))), (p22, .inl (cs 1, 48, .inl (fun _ => 0))), (p23, .inr (5, [.ref p24, .ref p25, .ref p26, .int 0])), (p24, .inl (cs 1, 8, .inl (fun _ => 0))), (p25, .inl (cs 1, 8, .inl (fun _ => 0))), (p26, .inl (cs 2, 8, .inl (fun _ => 0))), (p27, .inr (3, [.ref p28, .int (-1), .int (-1), .int 0])), (p28, .inl (cs 1, 4, .inl (fun _ => 0)))] := hD
  refine lv_astore_n (lv' := [(1, .ref p0), (0, .ref b)]) hx hb dL_law_7 rfl hl (by decide) rfl (fun ls hl => ?_)
  refine va_new (ci := 8) (fs := [.int 0, .null, .null, .null, .null, .null, .null, .int 0, .null, .null, .null, .null, .null, .null, .null, .null, .null, .null, .null, .null, .int 0, .null, .null, .int 0, .int 0, .int 0, .int 0, .null, .int 0]) (C := RX6) (T := TX6) (N := 29) hx hb hts inlX6 tyX6 tyX6_ok hown (hts (.classLink RL 134 RX6) (by decide +kernel)) (hts (.instantiable RX6 29) (by decide +kernel)) (hts (.initialized RX6) (by decide +kernel)) hE.1 hP hD hS hA rfl (fun j hj => by rcases (show j = 0 ∨ j = 1 ∨ j = 2 ∨ j = 3 ∨ j = 4 ∨ j = 5 ∨ j = 6 ∨ j = 7 ∨ j = 8 ∨ j = 9 ∨ j = 10 ∨ j = 11 ∨ j = 12 ∨ j = 13 ∨ j = 14 ∨ j = 15 ∨ j = 16 ∨ j = 17 ∨ j = 18 ∨ j = 19 ∨ j = 20 ∨ j = 21 ∨ j = 22 ∨ j = 23 ∨ j = 24 ∨ j = 25 ∨ j = 26 ∨ j = 27 ∨ j = 28 by omega) with rfl | rfl | rfl | rfl | rfl | rfl | rfl | rfl | rfl | rfl | rfl | rfl | rfl | rfl | rfl | rfl | rfl | rfl | rfl | rfl | rfl | rfl | rfl | rfl | rfl | rfl | rfl | rfl | rfl <;> rfl) (Nat.le_of_ble_eq_true rfl) (Nat.le_of_ble_eq_true rfl) dL_law_8 (fun g0 H hP hD hS => ?_)
  refine W.widen (k := 30) (n := 966) (Nat.le_of_ble_eq_true rfl) (Nat.le_of_ble_eq_true rfl) ?_
  have hP : va_P G vwCl [(p0, .inr (7, [.ref p1, .ref p2, .ref p9, .ref p13, .ref p23, .ref p27, .int 0])), (p1, .inl (cs 1, 8, .inl (fun _ => 0))), (p2, .inr (4, [.ref p3, .ref p4, .ref p5, .ref p6, .ref p7, .ref p8, .int 0, .int 0, .int 0])), (p3, .inl (cs 0, 60, .inl (fun _ => 0))), (p4, .inl (cs 1, 60, .inl (fun _ => 0))), (p5, .inl (cs 2, 60, .inl (fun _ => 0))), (p6, .inl (cs 2, 60, .inl (fun _ => 0))), (p7, .inl (cs 1, 60, .inl (fun _ => 0))), (p8, .inl (cs 1, 120, .inl (fun _ => 0))), (p9, .inr (2, [.ref p10, .ref p11, .ref p12])), (p10, .inl (cs 1, 32, .inl (fun _ => 0))), (p11, .inl (cs 1, 32, .inl (fun _ => 0))), (p12, .inl (cs 1, 32, .inl (fun _ => 0))), (p13, .inr (6, [.ref p14, .ref p15, .ref p16, .ref p17, .ref p18, .ref p19, .ref p20, .ref p21, .ref p22, .int 0])), (p14, .inl (cs 1, 6, .inl (fun _ => 0))), (p15, .inl (cs 1, 6, .inl (fun _ => 0))), (p16, .inl (cs 1, 48, .inl (fun _ => 0))), (p17, .inl (cs 1, 48, .inl (fun _ => 0))), (p18, .inl (cs 1, 48, .inl (fun _ => 0))), (p19, .inl (cs 1, 48, .inl (fun _ => 0))), (p20, .inl (cs 1, 48, .inl (fun _ => 0))), (p21, .inl (cs 1, 48, .inl (fun _ => 0))), (p22, .inl (cs 1, 48, .inl (fun _ => 0))), (p23, .inr (5, [.ref p24, .ref p25, .ref p26, .int 0])), (p24, .inl (cs 1, 8, .inl (fun _ => 0))), (p25, .inl (cs 1, 8, .inl (fun _ => 0))), (p26, .inl (cs 2, 8, .inl (fun _ => 0))), (p27, .inr (3, [.ref p28, .int (-1), .int (-1), .int 0])), (p28, .inl (cs 1, 4, .inl (fun _ => 0))), (g0, .inr (8, [.int 0, .null, .null, .null, .null, .null, .null, .int 0, .null, .null, .null, .null, .null, .null, .null, .null, .null, .null, .null, .null, .int 0, .null, .null, .int 0, .int 0, .int 0, .int 0, .null, .int 0]))] H := hP
  have hD : va_D (fun q : Nat => s.heap.size ≤ q) [(p0, .inr (7, [.ref p1, .ref p2, .ref p9, .ref p13, .ref p23, .ref p27, .int 0])), (p1, .inl (cs 1, 8, .inl (fun _ => 0))), (p2, .inr (4, [.ref p3, .ref p4, .ref p5, .ref p6, .ref p7, .ref p8, .int 0, .int 0, .int 0])), (p3, .inl (cs 0, 60, .inl (fun _ => 0))), (p4, .inl (cs 1, 60, .inl (fun _ => 0))), (p5, .inl (cs 2, 60, .inl (fun _ => 0))), (p6, .inl (cs 2, 60, .inl (fun _ => 0))), (p7, .inl (cs 1, 60, .inl (fun _ => 0))), (p8, .inl (cs 1, 120, .inl (fun _ => 0))), (p9, .inr (2, [.ref p10, .ref p11, .ref p12])), (p10, .inl (cs 1, 32, .inl (fun _ => 0))), (p11, .inl (cs 1, 32, .inl (fun _ => 0))), (p12, .inl (cs 1, 32, .inl (fun _ => 0))), (p13, .inr (6, [.ref p14, .ref p15, .ref p16, .ref p17, .ref p18, .ref p19, .ref p20, .ref p21, .ref p22, .int 0])), (p14, .inl (cs 1, 6, .inl (fun _ => 0))), (p15, .inl (cs 1, 6, .inl (fun _ => 0))), (p16, .inl (cs 1, 48, .inl (fun _ => 0))), (p17, .inl (cs 1, 48, .inl (fun _ => 0))), (p18, .inl (cs 1, 48, .inl (fun _ => 0))), (p19, .inl (cs 1, 48, .inl (fun _ => 0))), (p20, .inl (cs 1, 48, .inl (fun _ => 0))), (p21, .inl (cs 1, 48, .inl (fun _ => 0))), (p22, .inl (cs 1, 48, .inl (fun _ => 0))), (p23, .inr (5, [.ref p24, .ref p25, .ref p26, .int 0])), (p24, .inl (cs 1, 8, .inl (fun _ => 0))), (p25, .inl (cs 1, 8, .inl (fun _ => 0))), (p26, .inl (cs 2, 8, .inl (fun _ => 0))), (p27, .inr (3, [.ref p28, .int (-1), .int (-1), .int 0])), (p28, .inl (cs 1, 4, .inl (fun _ => 0))), (g0, .inr (8, [.int 0, .null, .null, .null, .null, .null, .null, .int 0, .null, .null, .null, .null, .null, .null, .null, .null, .null, .null, .null, .null, .int 0, .null, .null, .int 0, .int 0, .int 0, .int 0, .null, .int 0]))] := hD
  refine lv_dup hx hb dL_law_11 rfl ?_
  have hPc := hP.sub (ws' := [(g0, .inr (8, [.int 0, .null, .null, .null, .null, .null, .null, .int 0, .null, .null, .null, .null, .null, .null, .null, .null, .null, .null, .null, .null, .int 0, .null, .null, .int 0, .int 0, .int 0, .int 0, .null, .int 0]))]) [29] rfl
  have hDc := hD.sub (ws' := [(g0, .inr (8, [.int 0, .null, .null, .null, .null, .null, .null, .int 0, .null, .null, .null, .null, .null, .null, .null, .null, .null, .null, .null, .null, .int 0, .null, .null, .int 0, .int 0, .int 0, .int 0, .null, .int 0]))]) [29] (by decide) rfl
  have hFc := va_free (wc := [(g0, .inr (8, [.int 0, .null, .null, .null, .null, .null, .null, .int 0, .null, .null, .null, .null, .null, .null, .null, .null, .null, .null, .null, .null, .int 0, .null, .null, .int 0, .int 0, .int 0, .int 0, .null, .int 0]))]) hD hS hA [29] rfl
  refine va_callv (va_runI (As := []) (rest := [.ref g0]) ⟨hx, hb, hml, hown, hts⟩ (c_X6_init l G cs g0 H.size) (cwI 0 hts gL_law_X6_init rfl rfl rfl (hts (.initialized RX6) (by decide +kernel)) (hts (.methodLink RL 136 yX6_init) (by decide +kernel)) (hts (.instanceMethod yX6_init) (by decide +kernel)) rfl (by decide +kernel) ⟨Nat.le_of_ble_eq_true rfl, Nat.le_of_ble_eq_true rfl⟩) (zps hE hPc hDc hS hA) rfl rfl hl.1 rfl (lv_room (Nat.le_of_ble_eq_true rfl)) dL_law_12 ⟨Nat.le_of_ble_eq_true rfl, Nat.le_of_ble_eq_true rfl⟩) hS (fun q _ h => hFc q h) hFc (fun _ t H1 locs1 ht hvm hw hB hz1 hk1 hS => ?_)
  obtain ⟨g1, g2, g3, g4, g5, g6, g7, g8, g9, g10, g11, g12, g13, g14, g15, g16, g17, g18, g19, g20, g21, hP1, hD1⟩ := hB
  rw [ht] at hP1
  obtain ⟨hP, hD⟩ := va_join (wr := [(p0, .inr (7, [.ref p1, .ref p2, .ref p9, .ref p13, .ref p23, .ref p27, .int 0])), (p1, .inl (cs 1, 8, .inl (fun _ => 0))), (p2, .inr (4, [.ref p3, .ref p4, .ref p5, .ref p6, .ref p7, .ref p8, .int 0, .int 0, .int 0])), (p3, .inl (cs 0, 60, .inl (fun _ => 0))), (p4, .inl (cs 1, 60, .inl (fun _ => 0))), (p5, .inl (cs 2, 60, .inl (fun _ => 0))), (p6, .inl (cs 2, 60, .inl (fun _ => 0))), (p7, .inl (cs 1, 60, .inl (fun _ => 0))), (p8, .inl (cs 1, 120, .inl (fun _ => 0))), (p9, .inr (2, [.ref p10, .ref p11, .ref p12])), (p10, .inl (cs 1, 32, .inl (fun _ => 0))), (p11, .inl (cs 1, 32, .inl (fun _ => 0))), (p12, .inl (cs 1, 32, .inl (fun _ => 0))), (p13, .inr (6, [.ref p14, .ref p15, .ref p16, .ref p17, .ref p18, .ref p19, .ref p20, .ref p21, .ref p22, .int 0])), (p14, .inl (cs 1, 6, .inl (fun _ => 0))), (p15, .inl (cs 1, 6, .inl (fun _ => 0))), (p16, .inl (cs 1, 48, .inl (fun _ => 0))), (p17, .inl (cs 1, 48, .inl (fun _ => 0))), (p18, .inl (cs 1, 48, .inl (fun _ => 0))), (p19, .inl (cs 1, 48, .inl (fun _ => 0))), (p20, .inl (cs 1, 48, .inl (fun _ => 0))), (p21, .inl (cs 1, 48, .inl (fun _ => 0))), (p22, .inl (cs 1, 48, .inl (fun _ => 0))), (p23, .inr (5, [.ref p24, .ref p25, .ref p26, .int 0])), (p24, .inl (cs 1, 8, .inl (fun _ => 0))), (p25, .inl (cs 1, 8, .inl (fun _ => 0))), (p26, .inl (cs 2, 8, .inl (fun _ => 0))), (p27, .inr (3, [.ref p28, .int (-1), .int (-1), .int 0])), (p28, .inl (cs 1, 4, .inl (fun _ => 0)))]) (w1 := [(g0, .inr (8, [.int 0, .ref g1, .ref g2, .ref g3, .ref g4, .ref g5, .ref g6, .int 0, .ref g7, .ref g8, .ref g9, .ref g10, .ref g11, .ref g12, .ref g13, .ref g14, .ref g15, .ref g16, .ref g17, .ref g18, .int 0, .ref g19, .ref g20, .int 0, .int (-1), .int 0, .int (-1), .ref g21, .int 0])), (g1, .inl (cs 1, 8, .inl (fun _ => 0))), (g2, .inl (cs 0, 60, .inl (fun _ => 0))), (g3, .inl (cs 2, 60, .inl (fun _ => 0))), (g4, .inl (cs 1, 60, .inl (fun _ => 0))), (g5, .inl (cs 1, 60, .inl (fun _ => 0))), (g6, .inl (cs 2, 60, .inl (fun _ => 0))), (g7, .inl (cs 1, 32, .inl (zneg 32))), (g8, .inl (cs 1, 32, .inl (fun _ => 0))), (g9, .inl (cs 1, 32, .inl (fun _ => 0))), (g10, .inl (cs 1, 48, .inl (fun _ => 0))), (g11, .inl (cs 1, 48, .inl (fun _ => 0))), (g12, .inl (cs 1, 48, .inl (fun _ => 0))), (g13, .inl (cs 1, 48, .inl (fun _ => 0))), (g14, .inl (cs 1, 48, .inl (fun _ => 0))), (g15, .inl (cs 1, 48, .inl (fun _ => 0))), (g16, .inl (cs 1, 48, .inl (fun _ => 0))), (g17, .inl (cs 1, 6, .inl (fun _ => 0))), (g18, .inl (cs 1, 6, .inl (fun _ => 0))), (g19, .inl (cs 1, 8, .inl (fun _ => 0))), (g20, .inl (cs 1, 8, .inl (fun _ => 0))), (g21, .inl (cs 1, 4, .inl (zneg 4)))]) hP hD [29] [0, 1, 2, 3, 4, 5, 6, 7, 8, 9, 10, 11, 12, 13, 14, 15, 16, 17, 18, 19, 20, 21, 22, 23, 24, 25, 26, 27, 28] rfl rfl (by decide) (by decide) hk1 hFc hP1 hD1
  generalize H1 = H at hP hS ⊢
  refine W.widen (k := 51) (n := 1738) (Nat.le_of_ble_eq_true rfl) (Nat.le_of_ble_eq_true rfl) ?_
  have hP : va_P G vwCl [(p0, .inr (7, [.ref p1, .ref p2, .ref p9, .ref p13, .ref p23, .ref p27, .int 0])), (p1, .inl (cs 1, 8, .inl (fun _ => 0))), (p2, .inr (4, [.ref p3, .ref p4, .ref p5, .ref p6, .ref p7, .ref p8, .int 0, .int 0, .int 0])), (p3, .inl (cs 0, 60, .inl (fun _ => 0))), (p4, .inl (cs 1, 60, .inl (fun _ => 0))), (p5, .inl (cs 2, 60, .inl (fun _ => 0))), (p6, .inl (cs 2, 60, .inl (fun _ => 0))), (p7, .inl (cs 1, 60, .inl (fun _ => 0))), (p8, .inl (cs 1, 120, .inl (fun _ => 0))), (p9, .inr (2, [.ref p10, .ref p11, .ref p12])), (p10, .inl (cs 1, 32, .inl (fun _ => 0))), (p11, .inl (cs 1, 32, .inl (fun _ => 0))), (p12, .inl (cs 1, 32, .inl (fun _ => 0))), (p13, .inr (6, [.ref p14, .ref p15, .ref p16, .ref p17, .ref p18, .ref p19, .ref p20, .ref p21, .ref p22, .int 0])), (p14, .inl (cs 1, 6, .inl (fun _ => 0))), (p15, .inl (cs 1, 6, .inl (fun _ => 0))), (p16, .inl (cs 1, 48, .inl (fun _ => 0))), (p17, .inl (cs 1, 48, .inl (fun _ => 0))), (p18, .inl (cs 1, 48, .inl (fun _ => 0))), (p19, .inl (cs 1, 48, .inl (fun _ => 0))), (p20, .inl (cs 1, 48, .inl (fun _ => 0))), (p21, .inl (cs 1, 48, .inl (fun _ => 0))), (p22, .inl (cs 1, 48, .inl (fun _ => 0))), (p23, .inr (5, [.ref p24, .ref p25, .ref p26, .int 0])), (p24, .inl (cs 1, 8, .inl (fun _ => 0))), (p25, .inl (cs 1, 8, .inl (fun _ => 0))), (p26, .inl (cs 2, 8, .inl (fun _ => 0))), (p27, .inr (3, [.ref p28, .int (-1), .int (-1), .int 0])), (p28, .inl (cs 1, 4, .inl (fun _ => 0))), (g0, .inr (8, [.int 0, .ref g1, .ref g2, .ref g3, .ref g4, .ref g5, .ref g6, .int 0, .ref g7, .ref g8, .ref g9, .ref g10, .ref g11, .ref g12, .ref g13, .ref g14, .ref g15, .ref g16, .ref g17, .ref g18, .int 0, .ref g19, .ref g20, .int 0, .int (-1), .int 0, .int (-1), .ref g21, .int 0])), (g1, .inl (cs 1, 8, .inl (fun _ => 0))), (g2, .inl (cs 0, 60, .inl (fun _ => 0))), (g3, .inl (cs 2, 60, .inl (fun _ => 0))), (g4, .inl (cs 1, 60, .inl (fun _ => 0))), (g5, .inl (cs 1, 60, .inl (fun _ => 0))), (g6, .inl (cs 2, 60, .inl (fun _ => 0))), (g7, .inl (cs 1, 32, .inl (zneg 32))), (g8, .inl (cs 1, 32, .inl (fun _ => 0))), (g9, .inl (cs 1, 32, .inl (fun _ => 0))), (g10, .inl (cs 1, 48, .inl (fun _ => 0))), (g11, .inl (cs 1, 48, .inl (fun _ => 0))), (g12, .inl (cs 1, 48, .inl (fun _ => 0))), (g13, .inl (cs 1, 48, .inl (fun _ => 0))), (g14, .inl (cs 1, 48, .inl (fun _ => 0))), (g15, .inl (cs 1, 48, .inl (fun _ => 0))), (g16, .inl (cs 1, 48, .inl (fun _ => 0))), (g17, .inl (cs 1, 6, .inl (fun _ => 0))), (g18, .inl (cs 1, 6, .inl (fun _ => 0))), (g19, .inl (cs 1, 8, .inl (fun _ => 0))), (g20, .inl (cs 1, 8, .inl (fun _ => 0))), (g21, .inl (cs 1, 4, .inl (zneg 4)))] H := hP
  have hD : va_D (fun q : Nat => s.heap.size ≤ q) [(p0, .inr (7, [.ref p1, .ref p2, .ref p9, .ref p13, .ref p23, .ref p27, .int 0])), (p1, .inl (cs 1, 8, .inl (fun _ => 0))), (p2, .inr (4, [.ref p3, .ref p4, .ref p5, .ref p6, .ref p7, .ref p8, .int 0, .int 0, .int 0])), (p3, .inl (cs 0, 60, .inl (fun _ => 0))), (p4, .inl (cs 1, 60, .inl (fun _ => 0))), (p5, .inl (cs 2, 60, .inl (fun _ => 0))), (p6, .inl (cs 2, 60, .inl (fun _ => 0))), (p7, .inl (cs 1, 60, .inl (fun _ => 0))), (p8, .inl (cs 1, 120, .inl (fun _ => 0))), (p9, .inr (2, [.ref p10, .ref p11, .ref p12])), (p10, .inl (cs 1, 32, .inl (fun _ => 0))), (p11, .inl (cs 1, 32, .inl (fun _ => 0))), (p12, .inl (cs 1, 32, .inl (fun _ => 0))), (p13, .inr (6, [.ref p14, .ref p15, .ref p16, .ref p17, .ref p18, .ref p19, .ref p20, .ref p21, .ref p22, .int 0])), (p14, .inl (cs 1, 6, .inl (fun _ => 0))), (p15, .inl (cs 1, 6, .inl (fun _ => 0))), (p16, .inl (cs 1, 48, .inl (fun _ => 0))), (p17, .inl (cs 1, 48, .inl (fun _ => 0))), (p18, .inl (cs 1, 48, .inl (fun _ => 0))), (p19, .inl (cs 1, 48, .inl (fun _ => 0))), (p20, .inl (cs 1, 48, .inl (fun _ => 0))), (p21, .inl (cs 1, 48, .inl (fun _ => 0))), (p22, .inl (cs 1, 48, .inl (fun _ => 0))), (p23, .inr (5, [.ref p24, .ref p25, .ref p26, .int 0])), (p24, .inl (cs 1, 8, .inl (fun _ => 0))), (p25, .inl (cs 1, 8, .inl (fun _ => 0))), (p26, .inl (cs 2, 8, .inl (fun _ => 0))), (p27, .inr (3, [.ref p28, .int (-1), .int (-1), .int 0])), (p28, .inl (cs 1, 4, .inl (fun _ => 0))), (g0, .inr (8, [.int 0, .ref g1, .ref g2, .ref g3, .ref g4, .ref g5, .ref g6, .int 0, .ref g7, .ref g8, .ref g9, .ref g10, .ref g11, .ref g12, .ref g13, .ref g14, .ref g15, .ref g16, .ref g17, .ref g18, .int 0, .ref g19, .ref g20, .int 0, .int (-1), .int 0, .int (-1), .ref g21, .int 0])), (g1, .inl (cs 1, 8, .inl (fun _ => 0))), (g2, .inl (cs 0, 60, .inl (fun _ => 0))), (g3, .inl (cs 2, 60, .inl (fun _ => 0))), (g4, .inl (cs 1, 60, .inl (fun _ => 0))), (g5, .inl (cs 1, 60, .inl (fun _ => 0))), (g6, .inl (cs 2, 60, .inl (fun _ => 0))), (g7, .inl (cs 1, 32, .inl (zneg 32))), (g8, .inl (cs 1, 32, .inl (fun _ => 0))), (g9, .inl (cs 1, 32, .inl (fun _ => 0))), (g10, .inl (cs 1, 48, .inl (fun _ => 0))), (g11, .inl (cs 1, 48, .inl (fun _ => 0))), (g12, .inl (cs 1, 48, .inl (fun _ => 0))), (g13, .inl (cs 1, 48, .inl (fun _ => 0))), (g14, .inl (cs 1, 48, .inl (fun _ => 0))), (g15, .inl (cs 1, 48, .inl (fun _ => 0))), (g16, .inl (cs 1, 48, .inl (fun _ => 0))), (g17, .inl (cs 1, 6, .inl (fun _ => 0))), (g18, .inl (cs 1, 6, .inl (fun _ => 0))), (g19, .inl (cs 1, 8, .inl (fun _ => 0))), (g20, .inl (cs 1, 8, .inl (fun _ => 0))), (g21, .inl (cs 1, 4, .inl (zneg 4)))] := hD
  refine lv_astore_n (lv' := [(2, .ref g0), (1, .ref p0), (0, .ref b)]) hx hb dL_law_15 rfl hl (by decide) rfl (fun ls hl => ?_)
  refine lv_iconst (v := 1) hx hb dL_law_16 (by decide) ?_
  refine z_newa (ty := .long) (t := 3) hx hb (atype := .long) (hts (.arrayClass .long) (by decide +kernel)) rfl hE rfl hP hD hS hA (n := 1) (N' := 1) (a0 := (1, .inr (.inl (fun _ => 0)))) (fun _ => rfl) (by decide) (by decide) (Nat.le_of_ble_eq_true rfl) (Nat.le_of_ble_eq_true rfl) (Nat.le_of_ble_eq_true rfl) dL_law_17 (fun qo H hP hD hS => ?_)
  refine lv_astore_n (lv' := [(3, .ref qo), (2, .ref g0), (1, .ref p0), (0, .ref b)]) hx hb dL_law_19 rfl hl (by decide) rfl (fun ls hl => ?_)
  refine lv_iconst (v := 1) hx hb dL_law_20 (by decide) ?_
  refine z_newa (ty := .double) (t := 4) hx hb (atype := .double) (hts (.arrayClass .double) (by decide +kernel)) rfl hE rfl hP hD hS hA (n := 1) (N' := 1) (a0 := (1, .inr (.inr (.inr (.inl (fun _ => 0)))))) (fun _ => rfl) (by decide) (by decide) (Nat.le_of_ble_eq_true rfl) (Nat.le_of_ble_eq_true rfl) (Nat.le_of_ble_eq_true rfl) dL_law_21 (fun qd H hP hD hS => ?_)
  refine lv_astore (lv' := [(4, .ref qd), (3, .ref qo), (2, .ref g0), (1, .ref p0), (0, .ref b)]) hx hb dL_law_23 hl (by decide) rfl (fun ls hl => ?_)
  refine lv_iconst (v := 0) hx hb dL_law_25 (by decide) ?_
  refine lv_istore (lv' := [(5, .int 0), (4, .ref qd), (3, .ref qo), (2, .ref g0), (1, .ref p0), (0, .ref b)]) hx hb dL_law_26 hl (by decide) rfl (fun ls hl => ?_)
  refine W.widen (k := 53 + 6 * 0) (n := 1740 + 36 * 0) (Nat.le_of_ble_eq_true rfl) (Nat.le_of_ble_eq_true rfl) ?_
  have hP : va_P G vwCl (zw cs (fun k => ([p0, p1, p2, p3, p4, p5, p6, p7, p8, p9, p10, p11, p12, p13, p14, p15, p16, p17, p18, p19, p20, p21, p22, p23, p24, p25, p26, p27, p28, g0, g1, g2, g3, g4, g5, g6, g7, g8, g9, g10, g11, g12, g13, g14, g15, g16, g17, g18, g19, g20, g21] : List Nat).getD k 0) zs0 (zt cs qo (fun _ => 0) qd (fun _ => 0))) H := hP
  have hD : va_D (fun q : Nat => s.heap.size ≤ q) (zw cs (fun k => ([p0, p1, p2, p3, p4, p5, p6, p7, p8, p9, p10, p11, p12, p13, p14, p15, p16, p17, p18, p19, p20, p21, p22, p23, p24, p25, p26, p27, p28, g0, g1, g2, g3, g4, g5, g6, g7, g8, g9, g10, g11, g12, g13, g14, g15, g16, g17, g18, g19, g20, g21] : List Nat).getD k 0) zs0 (zt cs qo (fun _ => 0) qd (fun _ => 0))) := hD
  exact law_loop K hlocks (fun k => ([p0, p1, p2, p3, p4, p5, p6, p7, p8, p9, p10, p11, p12, p13, p14, p15, p16, p17, p18, p19, p20, p21, p22, p23, p24, p25, p26, p27, p28, g0, g1, g2, g3, g4, g5, g6, g7, g8, g9, g10, g11, g12, g13, g14, g15, g16, g17, g18, g19, g20, g21] : List Nat).getD k 0) qo qd hL (L + 6) 0 (by omega) (by omega) 0 zs0 (fun _ => 0) (fun _ => 0) H _ ls rfl zR_0 hP hD hS (lv_sub hl [5, 4, 3, 2, 1, 0] rfl)
set_option maxHeartbeats 4000000 in
theorem lw_walk (l : Launch) (hflags : l.flags = flags0) (b : Addr) (xs : List Int32) : MetFree l x (headSpec (Jvm.Cond.code x code maxLocals ret :: tables_1) room_1) (lw_P b xs) (fun _ _ _ _ _ => True) lw_Q := by
  refine MetFree.of_bodyS (code := code) (maxLocals := maxLocals) (ret := ret) (by decide) ?_ ?_
  · intro args s m h hn
    obtain ⟨meth, c, h1, h2, h3, h4, h5, h6, -, -⟩ := Cond.code_spec hn (atoms_spec (ws := Jvm.Cond.code x code maxLocals ret :: tables_1) h _ List.mem_cons_self)
    exact ⟨meth, c, h1, h2, h3, h4, h5, h6⟩
  · intro p e s m args below meth c s₁ B hml0 hP _
    obtain ⟨rfl, hx, hbd, hgv⟩ := hP
    obtain ⟨scr, harrAt, hlist, hof, hsmall⟩ := hx
    obtain ⟨hcb, hkn, -, -⟩ := State.arrayAt?_spec harrAt
    have hown : s.vm.findClass R_law = some m.cls := findClass_of_methodNamed B.named
    have hts0 : ∀ c ∈ (Jvm.Cond.code x code maxLocals ret :: tables_1), c.before #[Value.ref b] s = true := atoms_spec (ws := Jvm.Cond.code x code maxLocals ret :: tables_1) B.pre
    have hts : ∀ w ∈ lw_tbl, w.before #[Value.ref b] s = true := k2_hts_sels lw_privs (fun w hw => hts0 w (List.mem_cons_of_mem _ hw)) lw_privs_ok
    have hml : c.maxLocals = 9 := B.maxLocals_eq (hts0 _ List.mem_cons_self)
    have X₀ : Stand p l e room_1 s m #[Value.ref b] below meth c s₁ [] 0 0 := Stand.of_body B
    have hh0 : s₁.heap = s.heap := by rw [B.state]; rfl
    have hsz : scr.slots.size = xs.length := by rw [← Array.length_toList, hlist, List.length_map]
    have hval : ∀ j : Nat, j < xs.length → scr.slots[j]? = some (.int (xs.getD j 0)) := fun j hj => by
      rw [← Array.getElem?_toList, hlist]
      simp [hj]
    have hbl : b < s.heap.size := (Array.getElem?_eq_some_iff.mp hcb).1
    have hX : va_X b xs.length (fun j => xs.getD j 0) s s.heap := ⟨scr, hcb, hof, hkn, hsz, hval⟩
    have K : W p l e room_1 s m #[Value.ref b] below meth c s₁.heap [] 0 0 (lw_Z below #[Value.ref b] s) (entryFrame m ([Value.ref b] : List Value).toArray 9) := by
      rw [hh0]
      exact whole_start l hflags hbd ⟨B.exec, B.bytes, B.returns, hml, hown, hts, hX, hbl, B.notSynchronized, hgv⟩
    obtain ⟨t, a1, o, b1, b2, b3⟩ := K s₁ rfl X₀
    exact ⟨t, o, a1, b1, b2, b3⟩
theorem lw_pre_spec {args : Array Value} {s : State} (h : (Jvm.Cond.and given_1 narrow_1).before args s = true) (hr : rest_1_c.before args s = true) : ∃ (b : Addr) (xs : List Int32), lw_P b xs args s := by
  have hs := flat_of_before _ h
  have hq := flat_of_before _ hr
  have hc : (Cond.count 1).before args s = true := hs _ (by decide +kernel)
  have harr : (Cond.arrayOf (.arg 0) .int).before args s = true := hs _ (by decide +kernel)
  have hle : (Cond.le (.length (.arg 0)) (.int 3072)).before args s = true := hs _ (by decide +kernel)
  have hlen : (Cond.isInt (.length (.arg 0))).before args s = true := hq _ (by decide +kernel)
  have hall : (Cond.all (.arg 0) (.isInt (.elem (.arg 0) (.index 0)))).before args s = true := hq _ (by decide +kernel)
  obtain ⟨b, xs, hb, hx⟩ := State.ints_of_pre rfl harr hlen hall
  have hsm : xs.length < 2 ^ 31 := hx.choose_spec.2.2.2
  have hev : (Term.length (.arg 0)).eval args s none [] s = some (.int xs.length.toInt32) := hx.length_eval hb
  have hv := Cond.le_ints hev (show (Term.int 3072).eval args s none [] s = some (.int 3072) from rfl)
  have hd : xs.length.toInt32 ≤ 3072 := by
    simpa [Cond.before, Cond.holds, hv] using hle
  have hN : xs.length ≤ 3072 := (Int32.ofNat_le_ofNat hsm (by decide)).mp (show Int32.ofNat xs.length ≤ Int32.ofNat 3072 from hd)
  exact ⟨b, xs, Cond.one_arg hc (show args[0]? = some (.ref b) from hb), hx, hN, h⟩
theorem lw_comes (l : Launch) (hflags : l.flags = flags0) : Comes l x (Jvm.Cond.code x code maxLocals ret :: tables_1) room_1 (fun tb e args s => Calls_1 tb e args s ∧ rest_1 tb e args s ∧ Pre_1 tb e args s)
    (fun _ _ args s o t => lw_Q args s o t) := by
  intro p e ha hc hk s m args below hf hfit hheap happ hpre
  obtain ⟨b, xs, hP⟩ := lw_pre_spec hpre.2.2 hpre.2.1
  obtain ⟨k, o, h1, h2, h3, hQ⟩ := lw_walk l hflags b xs p e ha hc hk s m args below hf ((Spec.applies_iff_loose hf).mp happ).1 hP trivial
  exact ⟨k, o, h1, h2, h3, hQ⟩
theorem lw_frame {s t : State} {o : Outcome} {args : Array Value} (h : State.butDraws s t lw_cs (fun t1 => Framed s o t1 [] 3165 120764)) :
    State.butDraws s t [Jvm.Choice.named "NaN.bits"] (fun t1 => Framed s o t1 (fieldLocs frame_1_writes args s ++ arrayLocs frame_1_arrays args s ++ staticLocs frame_1_statics s) 3165 120764) := h
theorem lw_limb (L : Cond) (hL : ∀ (args : Array Value) (s t : State), L.after args s (.returned (some (.int 1))) t = true) :
    ArmFor flags0 classFile x code maxLocals ret World_1 tables_1 room_1 Calls_1 rest_1 Pre_1
      (fun tb e a s o t => postC L tb e a s o t ∧ State.butDraws s t [Jvm.Choice.named "NaN.bits"] (fun t1 => Framed s o t1 (fieldLocs frame_1_writes a s ++ arrayLocs frame_1_arrays a s ++ staticLocs frame_1_statics s) 3165 120764)) := by
  intro l hflags _ _ p e ha hc hk s m args below hf hfit hheap happ hpre
  obtain ⟨k, o, h1, h2, h3, rfl, hF⟩ := lw_comes l hflags p e ha hc hk s m args below hf hfit hheap happ hpre
  exact ⟨k, _, h1, h2, h3, hL args s _, lw_frame hF⟩
theorem i_vc : Claimed_1_1 ∧ Claimed_1_2 := ⟨lw_limb limb_1_1 (fun args s t => by simp [limb_1_1, Cond.after, Cond.holds, Cond.value]), lw_limb limb_1_2 (fun args s t => Cond.after_iff.mpr (by
  first | (rw [show limb_1_2 = Cond.eq .result (.int 1) from rfl, Cond.eq_ints (x := 1) (y := 1) rfl rfl]; simp; done) | (simp [limb_1_2, Cond.value, Term.eval]; done)))⟩
