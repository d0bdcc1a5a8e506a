def zMf (l : Launch) (y : MethodName) (ws : List Cond) (rm : Room) (G : va_G) (cs : Nat → ClassId) (As : List Value) (w0 : va_W) (v : UInt32) (w1 : va_W) (mc ms : Nat) : Prop :=
  ∀ sz : Nat, Met l y ws rm (va_Pc As (zPre G cs sz w0)) (va_Qf (fun (r : UInt32) (_ : Unit) => r = v) (fun _ t => zPo G (va_A w0 sz) w1 t) (va_A w0 sz)) mc ms (va_A w0 sz)
def zXf (l : Launch) (y : MethodName) (ws : List Cond) (rm : Room) (G : va_G) (cs : Nat → ClassId) (As : List Value) (w0 : va_W) (k : Nat) (v : UInt32) (w1 : va_W) (mc ms : Nat) : Prop :=
  ∀ sz : Nat, vx_Met l y ws rm (va_Pc As (zPre G cs sz w0)) (va_Qf (fun (r : UInt32) (_ : Unit) => k = 0 ∧ r = v) (fun _ t => zPo G (va_A w0 sz) w1 t) (va_A w0 sz)) (vx_X (fun (_ : Unit) => ¬ k = 0) (fun E _ t => E = zen k ∧ zPo G (va_A w0 sz) w1 t) (va_A w0 sz)) mc ms (va_A w0 sz)
def zMd (l : Launch) (y : MethodName) (ws : List Cond) (rm : Room) (G : va_G) (cs : Nat → ClassId) (As : List Value) (w0 : va_W) (v : UInt64) (w1 : va_W) (mc ms : Nat) : Prop :=
  ∀ sz : Nat, Met l y ws rm (va_Pc As (zPre G cs sz w0)) (va_Qd (fun (r : UInt64) (_ : Unit) => r = v) (fun _ t => zPo G (va_A w0 sz) w1 t) (va_A w0 sz)) mc ms (va_A w0 sz)
def zXd (l : Launch) (y : MethodName) (ws : List Cond) (rm : Room) (G : va_G) (cs : Nat → ClassId) (As : List Value) (w0 : va_W) (k : Nat) (v : UInt64) (w1 : va_W) (mc ms : Nat) : Prop :=
  ∀ sz : Nat, vx_Met l y ws rm (va_Pc As (zPre G cs sz w0)) (va_Qd (fun (r : UInt64) (_ : Unit) => k = 0 ∧ r = v) (fun _ t => zPo G (va_A w0 sz) w1 t) (va_A w0 sz)) (vx_X (fun (_ : Unit) => ¬ k = 0) (fun E _ t => E = zen k ∧ zPo G (va_A w0 sz) w1 t) (va_A w0 sz)) mc ms (va_A w0 sz)
section ZF
variable {p : Program} {l : Launch} {e : Env} {R : Room} {s : State} {m : MethodId} {args : Array Value} {below : List Frame} {meth : Method} {c : Code} {H : Heap} {locs : List Loc} {cells slots : Nat} {Q : State → Prop}
variable {pc : Nat} {ls : Array Slot} {rest st0 : List Value} {a : Array Value} {A : Nat → Prop} {mc ms : Nat} {G : va_G} {cs : Nat → ClassId} {w0 w1 : va_W} {v : Int32} {k : Nat}
theorem zaf {v : UInt32} (hr : va_Run p l e R s m args below meth c H locs cells slots mc ms (F0 m pc ls st0) rest (va_Qf (fun (r : UInt32) (_ : Unit) => r = v) (fun _ t => zPo G (va_A w0 H.size) w1 t) (va_A w0 H.size) a) (va_A w0 H.size)) (hD : va_D A w0) (hS : va_S A s.heap H locs) (hA : ∀ q, s.heap.size ≤ q → A q)
    (kk : ∀ (H1 : Heap) (locs1 : List Loc), va_P G vwCl w1 H1 → va_D A w1 → va_S A s.heap H1 locs1 → W p l e R s m args below meth c H1 locs1 (cells + mc) (slots + ms) Q (F0 m (pc + 3) ls (.float v :: rest))) : W p l e R s m args below meth c H locs cells slots Q (F0 m pc ls st0) := by
  have hF := zsub hD hS hA
  refine va_callf hr hS (fun q _ h => hF q h) hF (fun r _ t H1 locs1 ht hvm hw hB hz1 hk1 hS1 => ?_)
  obtain ⟨hP1, hD1⟩ := hB
  rw [ht] at hP1
  rw [hw]
  exact kk H1 locs1 hP1 (hD1.weaken fun _ q _ h => hF q.1 h) hS1
theorem zaxf {v : UInt32} (hr : vx_Run p l e R s m args below meth c H locs cells slots mc ms (F0 m pc ls st0) rest (va_Qf (fun (r : UInt32) (_ : Unit) => k = 0 ∧ r = v) (fun _ t => zPo G (va_A w0 H.size) w1 t) (va_A w0 H.size) a) (vx_X (fun (_ : Unit) => ¬ k = 0) (fun E _ t => E = zen k ∧ zPo G (va_A w0 H.size) w1 t) (va_A w0 H.size)) (va_A w0 H.size)) (hD : va_D A w0) (hS : va_S A s.heap H locs) (hA : ∀ q, s.heap.size ≤ q → A q)
    (kx : ¬ k = 0 → ∀ (ce : Cell) (q9 : Addr) (H1 : Heap) (locs1 : List Loc), va_P G vwCl w1 H1 → va_D A w1 → va_S A s.heap H1 locs1 → H1[q9]? = some ce → ce.vm = .none → s.vm.findClass (zen k) = some ce.cls → vx_W p l e R s m args below meth c H1 locs1 (cells + mc) (slots + ms) Q (F0 m pc ls rest) q9)
    (kk : k = 0 → ∀ (H1 : Heap) (locs1 : List Loc), va_P G vwCl w1 H1 → va_D A w1 → va_S A s.heap H1 locs1 → W p l e R s m args below meth c H1 locs1 (cells + mc) (slots + ms) Q (F0 m (pc + 3) ls (.float v :: rest))) : W p l e R s m args below meth c H locs cells slots Q (F0 m pc ls st0) := by
  have hF := zsub hD hS hA
  refine vx_callf hr hS (fun q _ h => hF q h) hF (fun q _ h => hF q h) (fun E ce q9 _ t H1 locs1 ht hvm hw hB hz1 hk1 hS1 h1 h2 h3 => ?_) (fun r _ t H1 locs1 ht hvm hw hB hz1 hk1 hS1 => ?_)
  · obtain ⟨rfl, hP1, hD1⟩ := hB
    rw [ht] at hP1
    exact kx hw ce q9 H1 locs1 hP1 (hD1.weaken fun _ q _ h => hF q.1 h) hS1 h1 h2 h3
  · obtain ⟨hP1, hD1⟩ := hB
    rw [ht] at hP1
    rw [hw.2]
    exact kk hw.1 H1 locs1 hP1 (hD1.weaken fun _ q _ h => hF q.1 h) hS1
theorem zad {v : UInt64} (hr : va_Run p l e R s m args below meth c H locs cells slots mc ms (F0 m pc ls st0) rest (va_Qd (fun (r : UInt64) (_ : Unit) => r = v) (fun _ t => zPo G (va_A w0 H.size) w1 t) (va_A w0 H.size) a) (va_A w0 H.size)) (hD : va_D A w0) (hS : va_S A s.heap H locs) (hA : ∀ q, s.heap.size ≤ q → A q)
    (kk : ∀ (H1 : Heap) (locs1 : List Loc), va_P G vwCl w1 H1 → va_D A w1 → va_S A s.heap H1 locs1 → W p l e R s m args below meth c H1 locs1 (cells + mc) (slots + ms) Q (F0 m (pc + 3) ls (.double v :: rest))) : W p l e R s m args below meth c H locs cells slots Q (F0 m pc ls st0) := by
  have hF := zsub hD hS hA
  refine va_calld hr hS (fun q _ h => hF q h) hF (fun r _ t H1 locs1 ht hvm hw hB hz1 hk1 hS1 => ?_)
  obtain ⟨hP1, hD1⟩ := hB
  rw [ht] at hP1
  rw [hw]
  exact kk H1 locs1 hP1 (hD1.weaken fun _ q _ h => hF q.1 h) hS1
theorem zaxd {v : UInt64} (hr : vx_Run p l e R s m args below meth c H locs cells slots mc ms (F0 m pc ls st0) rest (va_Qd (fun (r : UInt64) (_ : Unit) => k = 0 ∧ r = v) (fun _ t => zPo G (va_A w0 H.size) w1 t) (va_A w0 H.size) a) (vx_X (fun (_ : Unit) => ¬ k = 0) (fun E _ t => E = zen k ∧ zPo G (va_A w0 H.size) w1 t) (va_A w0 H.size)) (va_A w0 H.size)) (hD : va_D A w0) (hS : va_S A s.heap H locs) (hA : ∀ q, s.heap.size ≤ q → A q)
    (kx : ¬ k = 0 → ∀ (ce : Cell) (q9 : Addr) (H1 : Heap) (locs1 : List Loc), va_P G vwCl w1 H1 → va_D A w1 → va_S A s.heap H1 locs1 → H1[q9]? = some ce → ce.vm = .none → s.vm.findClass (zen k) = some ce.cls → vx_W p l e R s m args below meth c H1 locs1 (cells + mc) (slots + ms) Q (F0 m pc ls rest) q9)
    (kk : k = 0 → ∀ (H1 : Heap) (locs1 : List Loc), va_P G vwCl w1 H1 → va_D A w1 → va_S A s.heap H1 locs1 → W p l e R s m args below meth c H1 locs1 (cells + mc) (slots + ms) Q (F0 m (pc + 3) ls (.double v :: rest))) : W p l e R s m args below meth c H locs cells slots Q (F0 m pc ls st0) := by
  have hF := zsub hD hS hA
  refine vx_calld hr hS (fun q _ h => hF q h) hF (fun q _ h => hF q h) (fun E ce q9 _ t H1 locs1 ht hvm hw hB hz1 hk1 hS1 h1 h2 h3 => ?_) (fun r _ t H1 locs1 ht hvm hw hB hz1 hk1 hS1 => ?_)
  · obtain ⟨rfl, hP1, hD1⟩ := hB
    rw [ht] at hP1
    exact kx hw ce q9 H1 locs1 hP1 (hD1.weaken fun _ q _ h => hF q.1 h) hS1 h1 h2 h3
  · obtain ⟨hP1, hD1⟩ := hB
    rw [ht] at hP1
    rw [hw.2]
    exact kk hw.1 H1 locs1 hP1 (hD1.weaken fun _ q _ h => hF q.1 h) hS1
end ZF
theorem nn64 {r : UInt64} (h : Jvm.FP.Core.dIsNaN r = false) : vf_n64 r := by
  rw [← Bool.not_eq_true, Jvm.FP.Core.isNaN_bits] at h
  unfold vf_n64
  rw [UInt64.le_iff_toNat_le, UInt64.toNat_and]
  show r.toNat &&& (2 ^ 63 - 1) ≤ 9218868437227405312
  rw [Nat.and_two_pow_sub_one_eq_mod]
  omega
theorem nn32 {r : UInt32} (h : Jvm.FP.Core.fIsNaN r = false) : vf_n32 r := by
  rw [← Bool.not_eq_true, Jvm.FP.Core.isNaN_bits32] at h
  unfold vf_n32
  rw [UInt32.le_iff_toNat_le, UInt32.toNat_and]
  show r.toNat &&& (2 ^ 31 - 1) ≤ 2139095040
  rw [Nat.and_two_pow_sub_one_eq_mod]
  omega
theorem fl_d0 (x y : Int32) (h : ¬ y = 0) : Jvm.FP.Core.dIsNaN (FP.ddiv (FP.i2d x) (FP.i2d y)) = false :=
  Jvm.FP.Core.ddiv_out ((Jvm.FP.Core.notNaN_iff _).mpr (Jvm.FP.Core.i2d_fin x).ne_nan) (Jvm.FP.Core.i2d_fin y) (fun z => Jvm.FP.Core.i2d_ne_zero h ((Jvm.FP.Core.zero_bits2 _).mp z))
theorem fl_f0 (x y : Int32) (h : ¬ y = 0) : Jvm.FP.Core.fIsNaN (FP.fdiv (FP.i2f x) (FP.i2f y)) = false :=
  Jvm.FP.Core.fdiv_out ((Jvm.FP.Core.notNaN_iff32 _).mpr (Jvm.FP.Core.i2f_fin x).ne_nan) (Jvm.FP.Core.i2f_fin y) (fun z => Jvm.FP.Core.i2f_ne_zero h ((Jvm.FP.Core.zero_bits232 _).mp z))
theorem fl_d (x y : Int32) (h : ¬ y = 0) : vf_n64 (FP.ddiv (FP.i2d x) (FP.i2d y)) := nn64 (fl_d0 x y h)
theorem fl_f (x y : Int32) (h : ¬ y = 0) : vf_n32 (FP.fdiv (FP.i2f x) (FP.i2f y)) := nn32 (fl_f0 x y h)
theorem fl_fd (x y : Int32) (h : ¬ y = 0) : vf_n64 (FP.f2d (FP.fdiv (FP.i2f x) (FP.i2f y))) := nn64 ((Jvm.FP.f2d_nan _).trans (fl_f0 x y h))
theorem L_open_congr {σ τ : zS} (h1 : σ 29 7 = τ 29 7) (h2 : σ 32 = τ 32) : ∀ (n : Nat) (a b : Int32), L_X6_open_4 σ n a b = L_X6_open_4 τ n a b := by
  intro n
  induction n with
  | zero => intro a b; rfl
  | succ n ih =>
    intro a b
    rw [L_X6_open_4, L_X6_open_4, h1, h2]
    simp only [ih]
theorem open_thr {σ : zS} {x : Int32} : f_X6_open (zs σ 29 28 x) = f_X6_open σ := by
  unfold f_X6_open
  exact L_open_congr (σ := zs σ 29 28 x) (τ := σ) (zs_nf (by decide)) (zs_ne (by decide)) 61 0 0
def f_X5_closedShare (σ : zS)  : Nat × UInt32 × zS := (if (f_X2_lineCount σ ) = 0 then (6, 0, σ) else (0, (FP.fdiv (FP.i2f ((f_X2_lineCount σ ) - (f_X2_openCount σ ))) (FP.i2f (f_X2_lineCount σ ))), σ))
theorem iX5_closedShare : ∀ w ∈ u_ws RX5 TX5 7, w ∈ wsX5_closedShare := by decide +kernel
set_option maxRecDepth 100000 in
theorem c_X5_closedShare (l : Launch) (hfl : l.stackTraces = false) (G : va_G) (cs : Nat → ClassId) (ad : Nat → Nat) (tl : va_W) (σ : zS)   : zXf l yX5_closedShare wsX5_closedShare { frames := 6, cells := 1, slots := 6, locals := 90 } G cs [.ref (ad 0)] (zw cs ad σ tl) (f_X5_closedShare σ ).1 (f_X5_closedShare σ ).2.1 (zw cs ad (f_X5_closedShare σ ).2.2 tl) 1 6 := by
  intro sz
  refine vx_ofW (cc := cX5_closedShare) (maxL := 2) (ret := (some .float)) (by decide) rfl ?_
  intro p e s m args below meth c s₁ B hml htab hv
  obtain ⟨rfl, hsz, hP, hD0, hE⟩ := hv
  have hx := B.exec
  have hb := B.bytes
  have hr := B.returns
  have hts := atoms_spec (ws := wsX5_closedShare) B.pre
  have hown : s.vm.findClass RX5 = some m.cls := findClass_of_methodNamed B.named
  have hlocks := B.notSynchronized
  subst hsz
  have hD := hD0.self (sz := s.heap.size)
  have hA : ∀ q : Nat, s.heap.size ≤ q → (va_A (zw cs ad σ tl) s.heap.size) q := fun q h => Or.inr h
  generalize va_A (zw cs ad σ tl) s.heap.size = A at hD hE hA ⊢
  have hS : va_S A s.heap s.heap [] := va_S.rf
  have hl := lv_entry ([.ref (ad 0)]) (n := 2) (Nat.le_of_ble_eq_true rfl)
  rw [lg_entry_eq]
  generalize (lg_sl ([.ref (ad 0)]) ++ List.replicate (2 - (lg_sl ([.ref (ad 0)])).length) Slot.unset).toArray = ls at hl ⊢
  have hl : lv_has ls 2 [(0, .ref (ad 0))] := hl
  generalize hR : (f_X5_closedShare σ ) = RV
  have hR := hR.symm
  unfold f_X5_closedShare at hR
  obtain ⟨RVk, RVv, RVs⟩ := RV
  dsimp only
  obtain ⟨H, hH⟩ : ∃ z, z = s.heap := ⟨_, rfl⟩
  obtain ⟨locs, hlocs⟩ : ∃ z : List Loc, z = [] := ⟨_, rfl⟩
  rw [← hH] at hP
  have hS : va_S A s.heap H locs := by rw [hH, hlocs]; exact hS
  show W _ _ _ _ _ _ _ _ _ _ s.heap [] _ _ _ _
  rw [← hH, ← hlocs]
  clear hlocs
  refine lv_aload_n hx hb dX5_closedShare_0 rfl (lv_at hl 0 rfl) ?_
  refine va_get (D := G) (ci := 7) (v := .ref (ad 2)) (C := RX5) (T := TX5) (N := 7) hx hb hts iX5_closedShare hown hE.1 hP 0 (zg_0 cs ad σ tl) rfl 1 (by decide) (hts (.fieldLink RX5 16 "HandoverDeck" "log" "LHandoverDeck$Log;") (by decide +kernel)) (fun _ h9 => h9) rfl dX5_closedShare_1 ?_
  refine zai (va_runV (As := []) (rest := []) ⟨hx, hb, hml, hown, hts⟩ (c_X2_lineCount l G cs ad tl σ   H.size) (cwV 0 hts gX5_closedShare_X2_lineCount rfl rfl rfl (by decide +kernel) ⟨Nat.le_of_ble_eq_true rfl, Nat.le_of_ble_eq_true rfl⟩) (zpv hE hP hD hS hA (zg_2 cs ad σ tl) rfl) rfl rfl hl.1 rfl (lv_room (Nat.le_of_ble_eq_true rfl)) dX5_closedShare_4 ⟨Nat.le_of_ble_eq_true rfl, Nat.le_of_ble_eq_true rfl⟩) hD hS hA (fun H locs hP hD hS => ?_)
  refine lv_istore_n (lv' := [(1, .int (f_X2_lineCount σ )), (0, .ref (ad 0))]) hx hb dX5_closedShare_7 rfl hl (by decide) rfl (fun ls hl => ?_)
  refine lv_iload_n hx hb dX5_closedShare_8 rfl (lv_at hl 0 rfl) ?_
  refine lv_if_ne (tgt := 23) hx hb dX5_closedShare_9 (by decide) (fun c_1 => ?_) (fun c_1 => ?_)
  · have hR := hR.trans (if_neg c_1)
    refine lv_iload_n hx hb dX5_closedShare_23 rfl (lv_at hl 0 rfl) ?_
    refine lv_aload_n hx hb dX5_closedShare_24 rfl (lv_at hl 1 rfl) ?_
    refine va_get (D := G) (ci := 7) (v := .ref (ad 2)) (C := RX5) (T := TX5) (N := 7) hx hb hts iX5_closedShare hown hE.1 hP 0 (zg_0 cs ad σ tl) rfl 1 (by decide) (hts (.fieldLink RX5 16 "HandoverDeck" "log" "LHandoverDeck$Log;") (by decide +kernel)) (fun _ h9 => h9) rfl dX5_closedShare_25 ?_
    refine zai (va_runV (As := []) (rest := [.int (f_X2_lineCount σ )]) ⟨hx, hb, hml, hown, hts⟩ (c_X2_openCount l G cs ad tl σ   H.size) (cwV 0 hts gX5_closedShare_X2_openCount rfl rfl rfl (by decide +kernel) ⟨Nat.le_of_ble_eq_true rfl, Nat.le_of_ble_eq_true rfl⟩) (zpv hE hP hD hS hA (zg_2 cs ad σ tl) rfl) rfl rfl hl.1 rfl (lv_room (Nat.le_of_ble_eq_true rfl)) dX5_closedShare_28 ⟨Nat.le_of_ble_eq_true rfl, Nat.le_of_ble_eq_true rfl⟩) hD hS hA (fun H locs hP hD hS => ?_)
    refine lv_isub hx hb dX5_closedShare_31 ?_
    refine lv_i2f hx hb dX5_closedShare_32 ?_
    refine lv_iload_n hx hb dX5_closedShare_33 rfl (lv_at hl 0 rfl) ?_
    refine lv_i2f hx hb dX5_closedShare_34 ?_
    refine lv_fdiv hx hb dX5_closedShare_35 (fl_f _ _ c_1) ?_
    obtain ⟨e1, e2, e3⟩ := z3 hR.symm
    subst e1; subst e2; subst e3
    refine W.widen (k := 1) (n := 6) (by decide) (by decide) ?_
    refine vx_ret ?_
    exact W.fret (v := (FP.fdiv (FP.i2f ((f_X2_lineCount σ ) - (f_X2_openCount σ ))) (FP.i2f (f_X2_lineCount σ )))) hx hb hr (fun t ht hW => ⟨⟨_, (), rfl, ⟨rfl, rfl⟩, by rw [ht]; exact hP, hD⟩, hS.F ht⟩) hS.2.2 dX5_closedShare_36
  · have hR := hR.trans (if_pos c_1)
    obtain ⟨e1, e2, e3⟩ := z3 hR.symm
    subst e1; subst e2; subst e3
    exact z_thrW (k := 6) (is := 341) (text := "there are no lines") hx hb hfl zf_6.1 zf_6.2.1 zf_6.2.2 (fun w h => hts w (List.mem_cons_of_mem _ (List.mem_append_right _ h))) (hts (.classLink RX5 339 "java/lang/ArithmeticException") (by decide +kernel)) (hts (.initialized "java/lang/ArithmeticException") (by decide +kernel)) (hE.2.1 _ (List.mem_of_getElem? (i := 8) rfl)) (hE.2.2.1 (341, "there are no lines") (by decide +kernel)) hown hE hP hD hS (by rw [hl.1, hml]) dX5_closedShare_12 dX5_closedShare_15 dX5_closedShare_16 dX5_closedShare_19 dX5_closedShare_22 htab (by decide) (by decide) (by decide) (by decide) hlocks (by decide) rfl (by decide) (by decide)
def f_X5_meanAge (σ : zS)  : Nat × UInt64 × zS := (if (f_X2_openCount σ ) = 0 then (6, 0, σ) else (0, (FP.ddiv (FP.i2d (f_X2_sumOfAges σ (σ 0 6))) (FP.i2d (f_X2_openCount σ ))), σ))
theorem iX5_meanAge : ∀ w ∈ u_ws RX5 TX5 7, w ∈ wsX5_meanAge := by decide +kernel
set_option maxRecDepth 100000 in
theorem c_X5_meanAge (l : Launch) (hfl : l.stackTraces = false) (G : va_G) (cs : Nat → ClassId) (ad : Nat → Nat) (tl : va_W) (σ : zS)   : zXd l yX5_meanAge wsX5_meanAge { frames := 6, cells := 1, slots := 6, locals := 90 } G cs [.ref (ad 0)] (zw cs ad σ tl) (f_X5_meanAge σ ).1 (f_X5_meanAge σ ).2.1 (zw cs ad (f_X5_meanAge σ ).2.2 tl) 1 6 := by
  intro sz
  refine vx_ofW (cc := cX5_meanAge) (maxL := 2) (ret := (some .double)) (by decide) rfl ?_
  intro p e s m args below meth c s₁ B hml htab hv
  obtain ⟨rfl, hsz, hP, hD0, hE⟩ := hv
  have hx := B.exec
  have hb := B.bytes
  have hr := B.returns
  have hts := atoms_spec (ws := wsX5_meanAge) B.pre
  have hown : s.vm.findClass RX5 = some m.cls := findClass_of_methodNamed B.named
  have hlocks := B.notSynchronized
  subst hsz
  have hD := hD0.self (sz := s.heap.size)
  have hA : ∀ q : Nat, s.heap.size ≤ q → (va_A (zw cs ad σ tl) s.heap.size) q := fun q h => Or.inr h
  generalize va_A (zw cs ad σ tl) s.heap.size = A at hD hE hA ⊢
  have hS : va_S A s.heap s.heap [] := va_S.rf
  have hl := lv_entry ([.ref (ad 0)]) (n := 2) (Nat.le_of_ble_eq_true rfl)
  rw [lg_entry_eq]
  generalize (lg_sl ([.ref (ad 0)]) ++ List.replicate (2 - (lg_sl ([.ref (ad 0)])).length) Slot.unset).toArray = ls at hl ⊢
  have hl : lv_has ls 2 [(0, .ref (ad 0))] := hl
  generalize hR : (f_X5_meanAge σ ) = RV
  have hR := hR.symm
  unfold f_X5_meanAge at hR
  obtain ⟨RVk, RVv, RVs⟩ := RV
  dsimp only
  obtain ⟨H, hH⟩ : ∃ z, z = s.heap := ⟨_, rfl⟩
  obtain ⟨locs, hlocs⟩ : ∃ z : List Loc, z = [] := ⟨_, rfl⟩
  rw [← hH] at hP
  have hS : va_S A s.heap H locs := by rw [hH, hlocs]; exact hS
  show W _ _ _ _ _ _ _ _ _ _ s.heap [] _ _ _ _
  rw [← hH, ← hlocs]
  clear hlocs
  refine lv_aload_n hx hb dX5_meanAge_0 rfl (lv_at hl 0 rfl) ?_
  refine va_get (D := G) (ci := 7) (v := .ref (ad 2)) (C := RX5) (T := TX5) (N := 7) hx hb hts iX5_meanAge hown hE.1 hP 0 (zg_0 cs ad σ tl) rfl 1 (by decide) (hts (.fieldLink RX5 16 "HandoverDeck" "log" "LHandoverDeck$Log;") (by decide +kernel)) (fun _ h9 => h9) rfl dX5_meanAge_1 ?_
  refine zai (va_runV (As := []) (rest := []) ⟨hx, hb, hml, hown, hts⟩ (c_X2_openCount l G cs ad tl σ   H.size) (cwV 0 hts gX5_meanAge_X2_openCount rfl rfl rfl (by decide +kernel) ⟨Nat.le_of_ble_eq_true rfl, Nat.le_of_ble_eq_true rfl⟩) (zpv hE hP hD hS hA (zg_2 cs ad σ tl) rfl) rfl rfl hl.1 rfl (lv_room (Nat.le_of_ble_eq_true rfl)) dX5_meanAge_4 ⟨Nat.le_of_ble_eq_true rfl, Nat.le_of_ble_eq_true rfl⟩) hD hS hA (fun H locs hP hD hS => ?_)
  refine lv_istore_n (lv' := [(1, .int (f_X2_openCount σ )), (0, .ref (ad 0))]) hx hb dX5_meanAge_7 rfl hl (by decide) rfl (fun ls hl => ?_)
  refine lv_iload_n hx hb dX5_meanAge_8 rfl (lv_at hl 0 rfl) ?_
  refine lv_if_ne (tgt := 23) hx hb dX5_meanAge_9 (by decide) (fun c_1 => ?_) (fun c_1 => ?_)
  · have hR := hR.trans (if_neg c_1)
    refine lv_aload_n hx hb dX5_meanAge_23 rfl (lv_at hl 1 rfl) ?_
    refine va_get (D := G) (ci := 7) (v := .ref (ad 2)) (C := RX5) (T := TX5) (N := 7) hx hb hts iX5_meanAge hown hE.1 hP 0 (zg_0 cs ad σ tl) rfl 1 (by decide) (hts (.fieldLink RX5 16 "HandoverDeck" "log" "LHandoverDeck$Log;") (by decide +kernel)) (fun _ h9 => h9) rfl dX5_meanAge_24 ?_
    refine lv_aload_n hx hb dX5_meanAge_27 rfl (lv_at hl 1 rfl) ?_
    refine va_get (D := G) (ci := 7) (v := .int (σ 0 6)) (C := RX5) (T := TX5) (N := 7) hx hb hts iX5_meanAge hown hE.1 hP 0 (zg_0 cs ad σ tl) rfl 6 (by decide) (hts (.fieldLink RX5 81 "HandoverDeck" "now" "I") (by decide +kernel)) (fun _ h9 => h9) rfl dX5_meanAge_28 ?_
    refine zai (va_runV (As := [.int (σ 0 6)]) (rest := []) ⟨hx, hb, hml, hown, hts⟩ (c_X2_sumOfAges l G cs ad tl σ (σ 0 6)  H.size) (cwV 1 hts gX5_meanAge_X2_sumOfAges rfl rfl rfl (by decide +kernel) ⟨Nat.le_of_ble_eq_true rfl, Nat.le_of_ble_eq_true rfl⟩) (zpv hE hP hD hS hA (zg_2 cs ad σ tl) rfl) rfl rfl hl.1 rfl (lv_room (Nat.le_of_ble_eq_true rfl)) dX5_meanAge_31 ⟨Nat.le_of_ble_eq_true rfl, Nat.le_of_ble_eq_true rfl⟩) hD hS hA (fun H locs hP hD hS => ?_)
    refine lv_i2d hx hb dX5_meanAge_34 ?_
    refine lv_iload_n hx hb dX5_meanAge_35 rfl (lv_at hl 0 rfl) ?_
    refine lv_i2d hx hb dX5_meanAge_36 ?_
    refine lv_ddiv hx hb dX5_meanAge_37 (fl_d _ _ c_1) ?_
    obtain ⟨e1, e2, e3⟩ := z3 hR.symm
    subst e1; subst e2; subst e3
    refine W.widen (k := 1) (n := 6) (by decide) (by decide) ?_
    refine vx_ret ?_
    exact W.dret (v := (FP.ddiv (FP.i2d (f_X2_sumOfAges σ (σ 0 6))) (FP.i2d (f_X2_openCount σ )))) hx hb hr (fun t ht hW => ⟨⟨_, (), rfl, ⟨rfl, rfl⟩, by rw [ht]; exact hP, hD⟩, hS.F ht⟩) hS.2.2 dX5_meanAge_38
  · have hR := hR.trans (if_pos c_1)
    obtain ⟨e1, e2, e3⟩ := z3 hR.symm
    subst e1; subst e2; subst e3
    exact z_thrW (k := 6) (is := 344) (text := "there are no open lines") hx hb hfl zf_6.1 zf_6.2.1 zf_6.2.2 (fun w h => hts w (List.mem_cons_of_mem _ (List.mem_append_left _ (List.mem_append_right _ h)))) (hts (.classLink RX5 339 "java/lang/ArithmeticException") (by decide +kernel)) (hts (.initialized "java/lang/ArithmeticException") (by decide +kernel)) (hE.2.1 _ (List.mem_of_getElem? (i := 8) rfl)) (hE.2.2.1 (344, "there are no open lines") (by decide +kernel)) hown hE hP hD hS (by rw [hl.1, hml]) dX5_meanAge_12 dX5_meanAge_15 dX5_meanAge_16 dX5_meanAge_19 dX5_meanAge_22 htab (by decide) (by decide) (by decide) (by decide) hlocks (by decide) rfl (by decide) (by decide)
def f_X6_closedShare (σ : zS)  : UInt32 × zS := (if (σ 29 7) = 0 then (FP.fconst0, (zs σ 29 28 1)) else ((FP.fdiv (FP.i2f ((σ 29 7) - (f_X6_open (zs σ 29 28 0) ))) (FP.i2f (σ 29 7))), (zs σ 29 28 0)))
theorem iX6_closedShare : ∀ w ∈ u_ws RX6 TX6 29, w ∈ wsX6_closedShare := by decide +kernel
set_option maxRecDepth 100000 in
theorem c_X6_closedShare (l : Launch) (G : va_G) (cs : Nat → ClassId) (ad : Nat → Nat) (tl : va_W) (σ : zS)  (hI : zI σ) : zMf l yX6_closedShare wsX6_closedShare { frames := 1, cells := 0, slots := 0, locals := 22 } G cs [.ref (ad 29)] (zw cs ad σ tl) (f_X6_closedShare σ ).1 (zw cs ad (f_X6_closedShare σ ).2 tl) 0 0 := by
  intro sz
  refine Met.ofW (cc := cX6_closedShare) (maxL := 1) (ret := (some .float)) (by decide) rfl ?_
  intro p e s m args below meth c s₁ B hml hv
  obtain ⟨rfl, hsz, hP, hD0, hE⟩ := hv
  have hx := B.exec
  have hb := B.bytes
  have hr := B.returns
  have hts := atoms_spec (ws := wsX6_closedShare) B.pre
  have hown : s.vm.findClass RX6 = some m.cls := findClass_of_methodNamed B.named
  have hlocks := B.notSynchronized
  subst hsz
  have hD := hD0.self (sz := s.heap.size)
  have hA : ∀ q : Nat, s.heap.size ≤ q → (va_A (zw cs ad σ tl) s.heap.size) q := fun q h => Or.inr h
  generalize va_A (zw cs ad σ tl) s.heap.size = A at hD hE hA ⊢
  have hS : va_S A s.heap s.heap [] := va_S.rf
  have hl := lv_entry ([.ref (ad 29)]) (n := 1) (Nat.le_of_ble_eq_true rfl)
  rw [lg_entry_eq]
  generalize (lg_sl ([.ref (ad 29)]) ++ List.replicate (1 - (lg_sl ([.ref (ad 29)])).length) Slot.unset).toArray = ls at hl ⊢
  have hl : lv_has ls 1 [(0, .ref (ad 29))] := hl
  generalize hR : (f_X6_closedShare σ ) = RV
  have hR := hR.symm
  unfold f_X6_closedShare at hR
  obtain ⟨RVv, RVs⟩ := RV
  dsimp only
  obtain ⟨H, hH⟩ : ∃ z, z = s.heap := ⟨_, rfl⟩
  obtain ⟨locs, hlocs⟩ : ∃ z : List Loc, z = [] := ⟨_, rfl⟩
  rw [← hH] at hP
  have hS : va_S A s.heap H locs := by rw [hH, hlocs]; exact hS
  show W _ _ _ _ _ _ _ _ _ _ s.heap [] _ _ _ _
  rw [← hH, ← hlocs]
  clear hlocs
  refine lv_aload_n hx hb dX6_closedShare_0 rfl (lv_at hl 0 rfl) ?_
  refine lv_aload_n hx hb dX6_closedShare_1 rfl (lv_at hl 0 rfl) ?_
  refine va_get (D := G) (ci := 8) (v := .int (σ 29 7)) (C := RX6) (T := TX6) (N := 29) hx hb hts iX6_closedShare hown hE.1 hP 29 (zg_29 cs ad σ tl) rfl 7 (by decide) (hts (.fieldLink RX6 95 "HandoverDeckModel" "lines" "I") (by decide +kernel)) (fun _ h9 => h9) rfl dX6_closedShare_2 ?_
  refine lv_if_ne (tgt := 12) hx hb dX6_closedShare_5 (by decide) (fun c_1 => ?_) (fun c_1 => ?_)
  · have hR := hR.trans (if_neg c_1)
    refine lv_iconst (v := 0) hx hb dX6_closedShare_12 (by decide) ?_
    refine va_put (D := G) (ci := 8) (v := .int 0) (ty := .int) (C := RX6) (T := TX6) (N := 29) hx hb hts iX6_closedShare tyX6 tyX6_ok nmX6 hown hE.1 hP hD hS 29 (zg_29 cs ad σ tl) rfl 28 (by decide) (hts (.fieldLink RX6 82 "HandoverDeckModel" "thrown" "I") (by decide +kernel)) (fun _ h9 => h9) rfl (by decide +kernel) rfl rfl (Nat.le_of_ble_eq_true rfl) dX6_closedShare_13 (fun H locs hP hD hS => ?_)
    rw [zb_29_28 cs ad σ tl] at hP hD
    refine lv_aload_n hx hb dX6_closedShare_16 rfl (lv_at hl 0 rfl) ?_
    refine va_get (D := G) (ci := 8) (v := .int 0) (C := RX6) (T := TX6) (N := 29) hx hb hts iX6_closedShare hown hE.1 hP 29 (zg_29 cs ad (zs σ 29 28 0) tl) rfl 28 (by decide) (hts (.fieldLink RX6 82 "HandoverDeckModel" "thrown" "I") (by decide +kernel)) (fun _ h9 => h9) rfl dX6_closedShare_17 ?_
    refine lv_if_ne (tgt := 42) hx hb dX6_closedShare_20 (by decide) (fun c => absurd c (by decide)) (fun _ => ?_)
    refine lv_aload_n hx hb dX6_closedShare_23 rfl (lv_at hl 0 rfl) ?_
    refine va_get (D := G) (ci := 8) (v := .int (σ 29 7)) (C := RX6) (T := TX6) (N := 29) hx hb hts iX6_closedShare hown hE.1 hP 29 (zg_29 cs ad (zs σ 29 28 0) tl) rfl 7 (by decide) (hts (.fieldLink RX6 95 "HandoverDeckModel" "lines" "I") (by decide +kernel)) (fun _ h9 => h9) rfl dX6_closedShare_24 ?_
    refine lv_aload_n hx hb dX6_closedShare_27 rfl (lv_at hl 0 rfl) ?_
    refine zai (va_runV (As := []) (rest := [.int (σ 29 7)]) ⟨hx, hb, hml, hown, hts⟩ (c_X6_open l G cs ad tl (zs σ 29 28 0)  hI.1 H.size) (cwV 0 hts gX6_closedShare_X6_open rfl rfl rfl (by decide +kernel) ⟨Nat.le_of_ble_eq_true rfl, Nat.le_of_ble_eq_true rfl⟩) (zpv hE hP hD hS hA (zg_29 cs ad (zs σ 29 28 0) tl) rfl) rfl rfl hl.1 rfl (lv_room (Nat.le_of_ble_eq_true rfl)) dX6_closedShare_28 ⟨Nat.le_of_ble_eq_true rfl, Nat.le_of_ble_eq_true rfl⟩) hD hS hA (fun H locs hP hD hS => ?_)
    refine lv_isub hx hb dX6_closedShare_31 ?_
    refine lv_i2f hx hb dX6_closedShare_32 ?_
    refine lv_aload_n hx hb dX6_closedShare_33 rfl (lv_at hl 0 rfl) ?_
    refine va_get (D := G) (ci := 8) (v := .int (σ 29 7)) (C := RX6) (T := TX6) (N := 29) hx hb hts iX6_closedShare hown hE.1 hP 29 (zg_29 cs ad (zs σ 29 28 0) tl) rfl 7 (by decide) (hts (.fieldLink RX6 95 "HandoverDeckModel" "lines" "I") (by decide +kernel)) (fun _ h9 => h9) rfl dX6_closedShare_34 ?_
    refine lv_i2f hx hb dX6_closedShare_37 ?_
    refine lv_fdiv hx hb dX6_closedShare_38 (fl_f _ _ c_1) ?_
    refine lv_goto (tgt := 43) hx hb dX6_closedShare_39 (by decide) ?_
    obtain ⟨e1, e2⟩ := z2 hR.symm
    subst e1; subst e2
    exact W.fret (v := (FP.fdiv (FP.i2f ((σ 29 7) - (f_X6_open (zs σ 29 28 0) ))) (FP.i2f (σ 29 7)))) hx hb hr (fun t ht hW => ⟨⟨_, (), rfl, rfl, by rw [ht]; exact hP, hD⟩, hS.F ht⟩) hS.2.2 dX6_closedShare_43
  · have hR := hR.trans (if_pos c_1)
    refine lv_iconst (v := 1) hx hb dX6_closedShare_8 (by decide) ?_
    refine lv_goto (tgt := 13) hx hb dX6_closedShare_9 (by decide) ?_
    refine va_put (D := G) (ci := 8) (v := .int 1) (ty := .int) (C := RX6) (T := TX6) (N := 29) hx hb hts iX6_closedShare tyX6 tyX6_ok nmX6 hown hE.1 hP hD hS 29 (zg_29 cs ad σ tl) rfl 28 (by decide) (hts (.fieldLink RX6 82 "HandoverDeckModel" "thrown" "I") (by decide +kernel)) (fun _ h9 => h9) rfl (by decide +kernel) rfl rfl (Nat.le_of_ble_eq_true rfl) dX6_closedShare_13 (fun H locs hP hD hS => ?_)
    rw [zb_29_28 cs ad σ tl] at hP hD
    refine lv_aload_n hx hb dX6_closedShare_16 rfl (lv_at hl 0 rfl) ?_
    refine va_get (D := G) (ci := 8) (v := .int 1) (C := RX6) (T := TX6) (N := 29) hx hb hts iX6_closedShare hown hE.1 hP 29 (zg_29 cs ad (zs σ 29 28 1) tl) rfl 28 (by decide) (hts (.fieldLink RX6 82 "HandoverDeckModel" "thrown" "I") (by decide +kernel)) (fun _ h9 => h9) rfl dX6_closedShare_17 ?_
    refine lv_if_ne (tgt := 42) hx hb dX6_closedShare_20 (by decide) (fun _ => ?_) (fun c => absurd c (by decide))
    refine lv_fconst0 hx hb dX6_closedShare_42 ?_
    obtain ⟨e1, e2⟩ := z2 hR.symm
    subst e1; subst e2
    exact W.fret (v := FP.fconst0) hx hb hr (fun t ht hW => ⟨⟨_, (), rfl, rfl, by rw [ht]; exact hP, hD⟩, hS.F ht⟩) hS.2.2 dX6_closedShare_43
def L_X6_meanAge_4 (σ : zS)  : Nat → Int32 → Int32 → UInt64 × zS
  | 0, _, _ => (0, σ)
  | n + 1, x1, x2 => (if (σ 29 7) ≤ x2 then (if (f_X6_open σ ) = 0 then (FP.dconst0, (zs σ 29 28 1)) else ((FP.ddiv (FP.i2d x1) (FP.i2d (f_X6_open (zs σ 29 28 0) ))), (zs σ 29 28 0))) else (if (σ 32 x2.toNatClampNeg) = 0 then (L_X6_meanAge_4 σ  n (x1 + 0) (x2 + 1)) else (L_X6_meanAge_4 σ  n (x1 + ((σ 29 0) - (σ 33 x2.toNatClampNeg))) (x2 + 1))))
def f_X6_meanAge (σ : zS)  : UInt64 × zS := (L_X6_meanAge_4 σ  61 0 0)
theorem iX6_meanAge : ∀ w ∈ u_ws RX6 TX6 29, w ∈ wsX6_meanAge := by decide +kernel
set_option maxRecDepth 100000 in
theorem c_X6_meanAge (l : Launch) (G : va_G) (cs : Nat → ClassId) (ad : Nat → Nat) (tl : va_W) (σ : zS)  (hI : zI σ) : zMd l yX6_meanAge wsX6_meanAge { frames := 1, cells := 0, slots := 0, locals := 22 } G cs [.ref (ad 29)] (zw cs ad σ tl) (f_X6_meanAge σ ).1 (zw cs ad (f_X6_meanAge σ ).2 tl) 0 0 := by
  intro sz
  refine Met.ofW (cc := cX6_meanAge) (maxL := 3) (ret := (some .double)) (by decide) rfl ?_
  intro p e s m args below meth c s₁ B hml hv
  obtain ⟨rfl, hsz, hP, hD0, hE⟩ := hv
  have hx := B.exec
  have hb := B.bytes
  have hr := B.returns
  have hts := atoms_spec (ws := wsX6_meanAge) B.pre
  have hown : s.vm.findClass RX6 = some m.cls := findClass_of_methodNamed B.named
  have hlocks := B.notSynchronized
  subst hsz
  have hD := hD0.self (sz := s.heap.size)
  have hA : ∀ q : Nat, s.heap.size ≤ q → (va_A (zw cs ad σ tl) s.heap.size) q := fun q h => Or.inr h
  generalize va_A (zw cs ad σ tl) s.heap.size = A at hD hE hA ⊢
  have hS : va_S A s.heap s.heap [] := va_S.rf
  have hl := lv_entry ([.ref (ad 29)]) (n := 3) (Nat.le_of_ble_eq_true rfl)
  rw [lg_entry_eq]
  generalize (lg_sl ([.ref (ad 29)]) ++ List.replicate (3 - (lg_sl ([.ref (ad 29)])).length) Slot.unset).toArray = ls at hl ⊢
  have hl : lv_has ls 3 [(0, .ref (ad 29))] := hl
  generalize hR : (f_X6_meanAge σ ) = RV
  have hR := hR.symm
  unfold f_X6_meanAge at hR
  obtain ⟨RVv, RVs⟩ := RV
  dsimp only
  obtain ⟨H, hH⟩ : ∃ z, z = s.heap := ⟨_, rfl⟩
  obtain ⟨locs, hlocs⟩ : ∃ z : List Loc, z = [] := ⟨_, rfl⟩
  rw [← hH] at hP
  have hS : va_S A s.heap H locs := by rw [hH, hlocs]; exact hS
  show W _ _ _ _ _ _ _ _ _ _ s.heap [] _ _ _ _
  rw [← hH, ← hlocs]
  clear hlocs
  obtain ⟨Ln, hLn60, hLn⟩ := hI.1
  refine lv_iconst (v := 0) hx hb dX6_meanAge_0 (by decide) ?_
  refine lv_istore_n (lv' := [(1, .int 0), (0, .ref (ad 29))]) hx hb dX6_meanAge_1 rfl hl (by decide) rfl (fun ls hl => ?_)
  refine lv_iconst (v := 0) hx hb dX6_meanAge_2 (by decide) ?_
  refine lv_istore_n (lv' := [(2, .int 0), (1, .int 0), (0, .ref (ad 29))]) hx hb dX6_meanAge_3 rfl hl (by decide) rfl (fun ls hl => ?_)
  have loop_4 : ∀ (n k : Nat) (x1 : Int32) (x2 : Int32), x2 = nI (k) → k ≤ Ln → k + n = 61 → (RVv, RVs) = L_X6_meanAge_4 σ  n x1 x2 → ∀ (H : Heap) (locs : List Loc), va_P G vwCl (zw cs ad σ tl) H → va_D A (zw cs ad σ tl) → va_S A s.heap H locs → ∀ ls : Array Slot, lv_has ls 3 [(0, .ref (ad 29)), (1, .int x1), (2, .int x2)] → W p l e (headSpec wsX6_meanAge { frames := 1, cells := 0, slots := 0, locals := 22 }).room s m (List.toArray [.ref (ad 29)]) below meth c H locs 0 0 (MQ below (va_Qd (fun (r : UInt64) (_ : Unit) => r = RVv) (fun _ t => zPo G A (zw cs ad RVs tl) t) A) (List.toArray [.ref (ad 29)]) s 0 0 A) (F0 m 4 ls []) := by
    intro n
    induction n with
    | zero => intro k  x1 x2 ex hk hn; omega
    | succ n ih =>
      intro k  x1 x2 ex hk hn hR H locs hP hD hS ls hl
      rw [L_X6_meanAge_4] at hR
      refine lv_iload_n hx hb dX6_meanAge_4 rfl (lv_at hl 2 rfl) ?_
      refine lv_aload_n hx hb dX6_meanAge_5 rfl (lv_at hl 0 rfl) ?_
      refine va_get (D := G) (ci := 8) (v := .int (σ 29 7)) (C := RX6) (T := TX6) (N := 29) hx hb hts iX6_meanAge hown hE.1 hP 29 (zg_29 cs ad σ tl) rfl 7 (by decide) (hts (.fieldLink RX6 95 "HandoverDeckModel" "lines" "I") (by decide +kernel)) (fun _ h9 => h9) rfl dX6_meanAge_6 ?_
      refine lv_icmp_ge (tgt := 45) hx hb dX6_meanAge_9 (by decide) (fun c_1 => ?_) (fun c_1 => ?_)
      · have hR := hR.trans (if_pos c_1)
        refine lv_aload_n hx hb dX6_meanAge_45 rfl (lv_at hl 0 rfl) ?_
        refine lv_aload_n hx hb dX6_meanAge_46 rfl (lv_at hl 0 rfl) ?_
        refine zai (va_runV (As := []) (rest := [.ref (ad 29)]) ⟨hx, hb, hml, hown, hts⟩ (c_X6_open l G cs ad tl σ  hI.1 H.size) (cwV 0 hts gX6_meanAge_X6_open rfl rfl rfl (by decide +kernel) ⟨Nat.le_of_ble_eq_true rfl, Nat.le_of_ble_eq_true rfl⟩) (zpv hE hP hD hS hA (zg_29 cs ad σ tl) rfl) rfl rfl hl.1 rfl (lv_room (Nat.le_of_ble_eq_true rfl)) dX6_meanAge_47 ⟨Nat.le_of_ble_eq_true rfl, Nat.le_of_ble_eq_true rfl⟩) hD hS hA (fun H locs hP hD hS => ?_)
        refine lv_if_ne (tgt := 57) hx hb dX6_meanAge_50 (by decide) (fun c_2 => ?_) (fun c_2 => ?_)
        · have hR := hR.trans (if_neg c_2)
          refine lv_iconst (v := 0) hx hb dX6_meanAge_57 (by decide) ?_
          refine va_put (D := G) (ci := 8) (v := .int 0) (ty := .int) (C := RX6) (T := TX6) (N := 29) hx hb hts iX6_meanAge tyX6 tyX6_ok nmX6 hown hE.1 hP hD hS 29 (zg_29 cs ad σ tl) rfl 28 (by decide) (hts (.fieldLink RX6 82 "HandoverDeckModel" "thrown" "I") (by decide +kernel)) (fun _ h9 => h9) rfl (by decide +kernel) rfl rfl (Nat.le_of_ble_eq_true rfl) dX6_meanAge_58 (fun H locs hP hD hS => ?_)
          rw [zb_29_28 cs ad σ tl] at hP hD
          refine lv_aload_n hx hb dX6_meanAge_61 rfl (lv_at hl 0 rfl) ?_
          refine va_get (D := G) (ci := 8) (v := .int 0) (C := RX6) (T := TX6) (N := 29) hx hb hts iX6_meanAge hown hE.1 hP 29 (zg_29 cs ad (zs σ 29 28 0) tl) rfl 28 (by decide) (hts (.fieldLink RX6 82 "HandoverDeckModel" "thrown" "I") (by decide +kernel)) (fun _ h9 => h9) rfl dX6_meanAge_62 ?_
          refine lv_if_ne (tgt := 79) hx hb dX6_meanAge_65 (by decide) (fun c => absurd c (by decide)) (fun _ => ?_)
          refine lv_iload_n hx hb dX6_meanAge_68 rfl (lv_at hl 1 rfl) ?_
          refine lv_i2d hx hb dX6_meanAge_69 ?_
          refine lv_aload_n hx hb dX6_meanAge_70 rfl (lv_at hl 0 rfl) ?_
          refine zai (va_runV (As := []) (rest := [.double (FP.i2d x1)]) ⟨hx, hb, hml, hown, hts⟩ (c_X6_open l G cs ad tl (zs σ 29 28 0)  hI.1 H.size) (cwV 0 hts gX6_meanAge_X6_open rfl rfl rfl (by decide +kernel) ⟨Nat.le_of_ble_eq_true rfl, Nat.le_of_ble_eq_true rfl⟩) (zpv hE hP hD hS hA (zg_29 cs ad (zs σ 29 28 0) tl) rfl) rfl rfl hl.1 rfl (lv_room (Nat.le_of_ble_eq_true rfl)) dX6_meanAge_71 ⟨Nat.le_of_ble_eq_true rfl, Nat.le_of_ble_eq_true rfl⟩) hD hS hA (fun H locs hP hD hS => ?_)
          refine lv_i2d hx hb dX6_meanAge_74 ?_
          refine lv_ddiv hx hb dX6_meanAge_75 (fl_d _ _ (by rw [open_thr]; exact c_2)) ?_
          refine lv_goto (tgt := 80) hx hb dX6_meanAge_76 (by decide) ?_
          obtain ⟨e1, e2⟩ := z2 hR.symm
          subst e1; subst e2
          exact W.dret (v := (FP.ddiv (FP.i2d x1) (FP.i2d (f_X6_open (zs σ 29 28 0) )))) hx hb hr (fun t ht hW => ⟨⟨_, (), rfl, rfl, by rw [ht]; exact hP, hD⟩, hS.F ht⟩) hS.2.2 dX6_meanAge_80
        · have hR := hR.trans (if_pos c_2)
          refine lv_iconst (v := 1) hx hb dX6_meanAge_53 (by decide) ?_
          refine lv_goto (tgt := 58) hx hb dX6_meanAge_54 (by decide) ?_
          refine va_put (D := G) (ci := 8) (v := .int 1) (ty := .int) (C := RX6) (T := TX6) (N := 29) hx hb hts iX6_meanAge tyX6 tyX6_ok nmX6 hown hE.1 hP hD hS 29 (zg_29 cs ad σ tl) rfl 28 (by decide) (hts (.fieldLink RX6 82 "HandoverDeckModel" "thrown" "I") (by decide +kernel)) (fun _ h9 => h9) rfl (by decide +kernel) rfl rfl (Nat.le_of_ble_eq_true rfl) dX6_meanAge_58 (fun H locs hP hD hS => ?_)
          rw [zb_29_28 cs ad σ tl] at hP hD
          refine lv_aload_n hx hb dX6_meanAge_61 rfl (lv_at hl 0 rfl) ?_
          refine va_get (D := G) (ci := 8) (v := .int 1) (C := RX6) (T := TX6) (N := 29) hx hb hts iX6_meanAge hown hE.1 hP 29 (zg_29 cs ad (zs σ 29 28 1) tl) rfl 28 (by decide) (hts (.fieldLink RX6 82 "HandoverDeckModel" "thrown" "I") (by decide +kernel)) (fun _ h9 => h9) rfl dX6_meanAge_62 ?_
          refine lv_if_ne (tgt := 79) hx hb dX6_meanAge_65 (by decide) (fun _ => ?_) (fun c => absurd c (by decide))
          refine lv_dconst0 hx hb dX6_meanAge_79 ?_
          obtain ⟨e1, e2⟩ := z2 hR.symm
          subst e1; subst e2
          exact W.dret (v := FP.dconst0) hx hb hr (fun t ht hW => ⟨⟨_, (), rfl, rfl, by rw [ht]; exact hP, hD⟩, hS.F ht⟩) hS.2.2 dX6_meanAge_80
      · have hR := hR.trans (if_neg c_1)
        have hkB : k < Ln := zlt ex (by omega) ⟨hLn, by omega⟩ c_1
        refine lv_iload_n hx hb dX6_meanAge_12 rfl (lv_at hl 1 rfl) ?_
        refine lv_aload_n hx hb dX6_meanAge_13 rfl (lv_at hl 0 rfl) ?_
        refine va_get (D := G) (ci := 8) (v := .ref (ad 32)) (C := RX6) (T := TX6) (N := 29) hx hb hts iX6_meanAge hown hE.1 hP 29 (zg_29 cs ad σ tl) rfl 3 (by decide) (hts (.fieldLink RX6 17 "HandoverDeckModel" "isOpen" "[Z") (by decide +kernel)) (fun _ h9 => h9) rfl dX6_meanAge_14 ?_
        refine lv_iload_n hx hb dX6_meanAge_17 rfl (lv_at hl 2 rfl) ?_
        refine z_zald (v := (σ 32 x2.toNatClampNeg)) hx hb hE hP (zg_32 cs ad σ tl) (by rw [ex]; exact vp_in_nI (by omega) (by decide)) rfl dX6_meanAge_18 ?_
        refine lv_if_eq (tgt := 36) hx hb dX6_meanAge_19 (by decide) (fun c_3 => ?_) (fun c_3 => ?_)
        · have hR := hR.trans (if_pos c_3)
          refine lv_iconst (v := 0) hx hb dX6_meanAge_36 (by decide) ?_
          refine lv_iadd hx hb dX6_meanAge_37 ?_
          refine lv_istore_n (lv' := [(1, .int (x1 + 0)), (0, .ref (ad 29)), (2, .int x2)]) hx hb dX6_meanAge_38 rfl hl (by decide) rfl (fun ls hl => ?_)
          refine lv_iinc (v := (x2 + 1)) (lv' := [(2, .int (x2 + 1)), (1, .int (x1 + 0)), (0, .ref (ad 29))]) hx hb dX6_meanAge_39 hl (k := 2) rfl rfl (by decide) rfl (fun ls hl => ?_)
          refine lv_goto (tgt := 4) hx hb dX6_meanAge_42 (by decide) ?_
          exact ih (k + 1)  (x1 + 0) (x2 + 1) (by rw [ex]; exact nI_1 _) (by omega) (by omega)  hR H locs hP hD hS ls (lv_sub hl [2, 1, 0] rfl)
        · have hR := hR.trans (if_neg c_3)
          refine lv_aload_n hx hb dX6_meanAge_22 rfl (lv_at hl 0 rfl) ?_
          refine va_get (D := G) (ci := 8) (v := .int (σ 29 0)) (C := RX6) (T := TX6) (N := 29) hx hb hts iX6_meanAge hown hE.1 hP 29 (zg_29 cs ad σ tl) rfl 0 (by decide) (hts (.fieldLink RX6 98 "HandoverDeckModel" "hour" "I") (by decide +kernel)) (fun _ h9 => h9) rfl dX6_meanAge_23 ?_
          refine lv_aload_n hx hb dX6_meanAge_26 rfl (lv_at hl 0 rfl) ?_
          refine va_get (D := G) (ci := 8) (v := .ref (ad 33)) (C := RX6) (T := TX6) (N := 29) hx hb hts iX6_meanAge hown hE.1 hP 29 (zg_29 cs ad σ tl) rfl 4 (by decide) (hts (.fieldLink RX6 21 "HandoverDeckModel" "openedAt" "[I") (by decide +kernel)) (fun _ h9 => h9) rfl dX6_meanAge_27 ?_
          refine lv_iload_n hx hb dX6_meanAge_30 rfl (lv_at hl 2 rfl) ?_
          refine z_iald (v := (σ 33 x2.toNatClampNeg)) hx hb hE hP (zg_33 cs ad σ tl) (by rw [ex]; exact vp_in_nI (by omega) (by decide)) rfl dX6_meanAge_31 ?_
          refine lv_isub hx hb dX6_meanAge_32 ?_
          refine lv_goto (tgt := 37) hx hb dX6_meanAge_33 (by decide) ?_
          refine lv_iadd hx hb dX6_meanAge_37 ?_
          refine lv_istore_n (lv' := [(1, .int (x1 + ((σ 29 0) - (σ 33 x2.toNatClampNeg)))), (0, .ref (ad 29)), (2, .int x2)]) hx hb dX6_meanAge_38 rfl hl (by decide) rfl (fun ls hl => ?_)
          refine lv_iinc (v := (x2 + 1)) (lv' := [(2, .int (x2 + 1)), (1, .int (x1 + ((σ 29 0) - (σ 33 x2.toNatClampNeg)))), (0, .ref (ad 29))]) hx hb dX6_meanAge_39 hl (k := 2) rfl rfl (by decide) rfl (fun ls hl => ?_)
          refine lv_goto (tgt := 4) hx hb dX6_meanAge_42 (by decide) ?_
          exact ih (k + 1)  (x1 + ((σ 29 0) - (σ 33 x2.toNatClampNeg))) (x2 + 1) (by rw [ex]; exact nI_1 _) (by omega) (by omega)  hR H locs hP hD hS ls (lv_sub hl [2, 1, 0] rfl)
  exact loop_4 61 0  0 0 nI_0.symm (by omega) (by omega)  hR H locs hP hD hS ls (lv_sub hl [2, 1, 0] rfl)
def L_X6_drill_17 (σ : zS)  (x1 : Int32) (x2 : Int32) (Kq : Int32 → Int32 → Int32 × zS) : Nat → Int32 → Int32 → Int32 × zS
  | 0, _, _ => (0, σ)
  | nq + 1, x1q, x3q => (if ((8 * x2) + (σ 46 x2.toNatClampNeg)) ≤ x3q then (Kq x1q (x2 + 1)) else (if x1q = (-1) then (L_X6_drill_17 σ  x1 x2 Kq nq x3q (x3q + 1)) else (if (σ 44 x1q.toNatClampNeg) ≤ (σ 44 x3q.toNatClampNeg) then (L_X6_drill_17 σ  x1 x2 Kq nq x1q (x3q + 1)) else (L_X6_drill_17 σ  x1 x2 Kq nq x3q (x3q + 1)))))
def L_X6_drill_4 (σ : zS)  : Nat → Int32 → Int32 → Int32 × zS
  | 0, _, _ => (0, σ)
  | n + 1, x1, x2 => (if (σ 29 20) ≤ x2 then (if x1 = (-1) then (x1, (zs σ 29 28 1)) else (x1, (zs σ 29 28 0))) else (L_X6_drill_17 σ  x1 x2 (fun y1 y2 => L_X6_drill_4 σ  n y1 y2) 9 x1 (8 * x2)))
def f_X6_drill (σ : zS)  : Int32 × zS := (L_X6_drill_4 σ  7 (-1) 0)
theorem iX6_drill : ∀ w ∈ u_ws RX6 TX6 29, w ∈ wsX6_drill := by decide +kernel
set_option maxRecDepth 100000 in
theorem c_X6_drill (l : Launch) (G : va_G) (cs : Nat → ClassId) (ad : Nat → Nat) (tl : va_W) (σ : zS)  (hI : zI σ) : zMi l yX6_drill wsX6_drill { frames := 0, cells := 0, slots := 0, locals := 0 } G cs [.ref (ad 29)] (zw cs ad σ tl) (f_X6_drill σ ).1 (zw cs ad (f_X6_drill σ ).2 tl) 0 0 := by
  intro sz
  refine Met.ofW (cc := cX6_drill) (maxL := 4) (ret := (some .int)) (by decide) rfl ?_
  intro p e s m args below meth c s₁ B hml hv
  obtain ⟨rfl, hsz, hP, hD0, hE⟩ := hv
  have hx := B.exec
  have hb := B.bytes
  have hr := B.returns
  have hts := atoms_spec (ws := wsX6_drill) B.pre
  have hown : s.vm.findClass RX6 = some m.cls := findClass_of_methodNamed B.named
  have hlocks := B.notSynchronized
  subst hsz
  have hD := hD0.self (sz := s.heap.size)
  have hA : ∀ q : Nat, s.heap.size ≤ q → (va_A (zw cs ad σ tl) s.heap.size) q := fun q h => Or.inr h
  generalize va_A (zw cs ad σ tl) s.heap.size = A at hD hE hA ⊢
  have hS : va_S A s.heap s.heap [] := va_S.rf
  have hl := lv_entry ([.ref (ad 29)]) (n := 4) (Nat.le_of_ble_eq_true rfl)
  rw [lg_entry_eq]
  generalize (lg_sl ([.ref (ad 29)]) ++ List.replicate (4 - (lg_sl ([.ref (ad 29)])).length) Slot.unset).toArray = ls at hl ⊢
  have hl : lv_has ls 4 [(0, .ref (ad 29))] := hl
  generalize hR : (f_X6_drill σ ) = RV
  have hR := hR.symm
  unfold f_X6_drill at hR
  obtain ⟨RVv, RVs⟩ := RV
  dsimp only
  obtain ⟨H, hH⟩ : ∃ z, z = s.heap := ⟨_, rfl⟩
  obtain ⟨locs, hlocs⟩ : ∃ z : List Loc, z = [] := ⟨_, rfl⟩
  rw [← hH] at hP
  have hS : va_S A s.heap H locs := by rw [hH, hlocs]; exact hS
  show W _ _ _ _ _ _ _ _ _ _ s.heap [] _ _ _ _
  rw [← hH, ← hlocs]
  clear hlocs
  obtain ⟨Pn, hPn6, hPn⟩ := hI.2.1
  refine lv_iconst (v := (-1)) hx hb dX6_drill_0 (by decide) ?_
  refine lv_istore_n (lv' := [(1, .int (-1)), (0, .ref (ad 29))]) hx hb dX6_drill_1 rfl hl (by decide) rfl (fun ls hl => ?_)
  refine lv_iconst (v := 0) hx hb dX6_drill_2 (by decide) ?_
  refine lv_istore_n (lv' := [(2, .int 0), (1, .int (-1)), (0, .ref (ad 29))]) hx hb dX6_drill_3 rfl hl (by decide) rfl (fun ls hl => ?_)
  have loop_7 : ∀ (n k : Nat) (x1 : Int32) (x2 : Int32), x2 = nI (k) → k ≤ Pn → k + n = 7 → (x1 = (-1) ∨ vp_in x1 48) → (RVv, RVs) = L_X6_drill_4 σ  n x1 x2 → ∀ (H : Heap) (locs : List Loc), va_P G vwCl (zw cs ad σ tl) H → va_D A (zw cs ad σ tl) → va_S A s.heap H locs → ∀ ls : Array Slot, lv_has ls 4 [(0, .ref (ad 29)), (1, .int x1), (2, .int x2)] → W p l e (headSpec wsX6_drill { frames := 0, cells := 0, slots := 0, locals := 0 }).room s m (List.toArray [.ref (ad 29)]) below meth c H locs 0 0 (MQ below (va_Qi (fun (r : Int32) (_ : Unit) => r = RVv) (fun _ t => zPo G A (zw cs ad RVs tl) t) A) (List.toArray [.ref (ad 29)]) s 0 0 A) (F0 m 4 ls []) := by
    intro n
    induction n with
    | zero => intro k  x1 x2 ex hk hn; omega
    | succ n ih =>
      intro k  x1 x2 ex hk hn hbo hR H locs hP hD hS ls hl
      rw [L_X6_drill_4] at hR
      refine lv_iload_n hx hb dX6_drill_4 rfl (lv_at hl 2 rfl) ?_
      refine lv_aload_n hx hb dX6_drill_5 rfl (lv_at hl 0 rfl) ?_
      refine va_get (D := G) (ci := 8) (v := .int (σ 29 20)) (C := RX6) (T := TX6) (N := 29) hx hb hts iX6_drill hown hE.1 hP 29 (zg_29 cs ad σ tl) rfl 20 (by decide) (hts (.fieldLink RX6 118 "HandoverDeckModel" "procedures" "I") (by decide +kernel)) (fun _ h9 => h9) rfl dX6_drill_6 ?_
      refine lv_icmp_ge (tgt := 70) hx hb dX6_drill_9 (by decide) (fun c_1 => ?_) (fun c_1 => ?_)
      · have hR := hR.trans (if_pos c_1)
        refine lv_aload_n hx hb dX6_drill_70 rfl (lv_at hl 0 rfl) ?_
        refine lv_iload_n hx hb dX6_drill_71 rfl (lv_at hl 1 rfl) ?_
        refine lv_iconst (v := (-1)) hx hb dX6_drill_72 (by decide) ?_
        refine lv_icmp_ne (tgt := 80) hx hb dX6_drill_73 (by decide) (fun c_2 => ?_) (fun c_2 => ?_)
        · have hR := hR.trans (if_neg c_2)
          refine lv_iconst (v := 0) hx hb dX6_drill_80 (by decide) ?_
          refine va_put (D := G) (ci := 8) (v := .int 0) (ty := .int) (C := RX6) (T := TX6) (N := 29) hx hb hts iX6_drill tyX6 tyX6_ok nmX6 hown hE.1 hP hD hS 29 (zg_29 cs ad σ tl) rfl 28 (by decide) (hts (.fieldLink RX6 82 "HandoverDeckModel" "thrown" "I") (by decide +kernel)) (fun _ h9 => h9) rfl (by decide +kernel) rfl rfl (Nat.le_of_ble_eq_true rfl) dX6_drill_81 (fun H locs hP hD hS => ?_)
          rw [zb_29_28 cs ad σ tl] at hP hD
          refine lv_iload_n hx hb dX6_drill_84 rfl (lv_at hl 1 rfl) ?_
          obtain ⟨e1, e2⟩ := z2 hR.symm
          subst e1; subst e2
          exact W.iret (v := x1) hx hb hr (fun t ht hW => ⟨⟨_, (), rfl, rfl, by rw [ht]; exact hP, hD⟩, hS.F ht⟩) hS.2.2 dX6_drill_85
        · have hR := hR.trans (if_pos c_2)
          refine lv_iconst (v := 1) hx hb dX6_drill_76 (by decide) ?_
          refine lv_goto (tgt := 81) hx hb dX6_drill_77 (by decide) ?_
          refine va_put (D := G) (ci := 8) (v := .int 1) (ty := .int) (C := RX6) (T := TX6) (N := 29) hx hb hts iX6_drill tyX6 tyX6_ok nmX6 hown hE.1 hP hD hS 29 (zg_29 cs ad σ tl) rfl 28 (by decide) (hts (.fieldLink RX6 82 "HandoverDeckModel" "thrown" "I") (by decide +kernel)) (fun _ h9 => h9) rfl (by decide +kernel) rfl rfl (Nat.le_of_ble_eq_true rfl) dX6_drill_81 (fun H locs hP hD hS => ?_)
          rw [zb_29_28 cs ad σ tl] at hP hD
          refine lv_iload_n hx hb dX6_drill_84 rfl (lv_at hl 1 rfl) ?_
          obtain ⟨e1, e2⟩ := z2 hR.symm
          subst e1; subst e2
          exact W.iret (v := x1) hx hb hr (fun t ht hW => ⟨⟨_, (), rfl, rfl, by rw [ht]; exact hP, hD⟩, hS.F ht⟩) hS.2.2 dX6_drill_85
      · have hR := hR.trans (if_neg c_1)
        have hkB : k < Pn := zlt ex (by omega) ⟨hPn, by omega⟩ c_1
        refine lv_bipush (v := 8) hx hb dX6_drill_12 (by decide) ?_
        refine lv_iload_n hx hb dX6_drill_14 rfl (lv_at hl 2 rfl) ?_
        refine lv_imul hx hb dX6_drill_15 ?_
        refine lv_istore_n (lv' := [(3, .int (8 * x2)), (0, .ref (ad 29)), (1, .int x1), (2, .int x2)]) hx hb dX6_drill_16 rfl hl (by decide) rfl (fun ls hl => ?_)
        obtain ⟨Sn, hSn8, hSn⟩ := vi_steps hI (show vp_in x2 6 by rw [ex]; exact vp_in_nI (by omega) (by decide))
        have loopq_6 : ∀ (nq kq : Nat) (x1q : Int32) (x3q : Int32), x3q = nI (8 * k + kq) → kq ≤ Sn → kq + nq = 9 → (x1q = (-1) ∨ vp_in x1q 48) → (RVv, RVs) = L_X6_drill_17 σ  x1 x2 (fun y1 y2 => L_X6_drill_4 σ  n y1 y2) nq x1q x3q → ∀ (H : Heap) (locs : List Loc), va_P G vwCl (zw cs ad σ tl) H → va_D A (zw cs ad σ tl) → va_S A s.heap H locs → ∀ ls : Array Slot, lv_has ls 4 [(0, .ref (ad 29)), (1, .int x1q), (2, .int x2), (3, .int x3q)] → W p l e (headSpec wsX6_drill { frames := 0, cells := 0, slots := 0, locals := 0 }).room s m (List.toArray [.ref (ad 29)]) below meth c H locs 0 0 (MQ below (va_Qi (fun (r : Int32) (_ : Unit) => r = RVv) (fun _ t => zPo G A (zw cs ad RVs tl) t) A) (List.toArray [.ref (ad 29)]) s 0 0 A) (F0 m 17 ls []) := by
          intro nq
          induction nq with
          | zero => intro kq  x1q x3q exq hkq hnq; omega
          | succ nq ihq =>
            intro kq  x1q x3q exq hkq hnq hbi hR H locs hP hD hS ls hl
            rw [L_X6_drill_17] at hR
            refine lv_iload_n hx hb dX6_drill_17 rfl (lv_at hl 3 rfl) ?_
            refine lv_bipush (v := 8) hx hb dX6_drill_18 (by decide) ?_
            refine lv_iload_n hx hb dX6_drill_20 rfl (lv_at hl 2 rfl) ?_
            refine lv_imul hx hb dX6_drill_21 ?_
            refine lv_aload_n hx hb dX6_drill_22 rfl (lv_at hl 0 rfl) ?_
            refine va_get (D := G) (ci := 8) (v := .ref (ad 46)) (C := RX6) (T := TX6) (N := 29) hx hb hts iX6_drill hown hE.1 hP 29 (zg_29 cs ad σ tl) rfl 18 (by decide) (hts (.fieldLink RX6 60 "HandoverDeckModel" "stepsOf" "[I") (by decide +kernel)) (fun _ h9 => h9) rfl dX6_drill_23 ?_
            refine lv_iload_n hx hb dX6_drill_26 rfl (lv_at hl 2 rfl) ?_
            refine z_iald (v := (σ 46 x2.toNatClampNeg)) hx hb hE hP (zg_46 cs ad σ tl) (by rw [ex]; exact vp_in_nI (by omega) (by decide)) rfl dX6_drill_27 ?_
            refine lv_iadd hx hb dX6_drill_28 ?_
            refine lv_icmp_ge (tgt := 64) hx hb dX6_drill_29 (by decide) (fun c_3 => ?_) (fun c_3 => ?_)
            · have hR := hR.trans (if_pos c_3)
              refine lv_iinc (v := (x2 + 1)) (lv' := [(2, .int (x2 + 1)), (0, .ref (ad 29)), (1, .int x1q), (3, .int x3q)]) hx hb dX6_drill_64 hl (k := 2) rfl rfl (by decide) rfl (fun ls hl => ?_)
              refine lv_goto (tgt := 4) hx hb dX6_drill_67 (by decide) ?_
              exact ih (k + 1)  x1q (x2 + 1) (by rw [ex]; exact nI_1 _) (by omega) (by omega) (by first | exact hbi | exact hbo) hR H locs hP hD hS ls (lv_sub hl [1, 2, 0] rfl)
            · have hR := hR.trans (if_neg c_3)
              have hkBq : 8 * k + kq < 8 * k + Sn := zlt exq (by omega) ⟨by rw [hSn, ex, show (8 : Int32) = nI 8 from rfl, pk_mul, nI_add], by omega⟩ c_3
              refine lv_iload_n hx hb dX6_drill_32 rfl (lv_at hl 1 rfl) ?_
              refine lv_iconst (v := (-1)) hx hb dX6_drill_33 (by decide) ?_
              refine lv_icmp_eq (tgt := 52) hx hb dX6_drill_34 (by decide) (fun c_4 => ?_) (fun c_4 => ?_)
              · have hR := hR.trans (if_pos c_4)
                refine lv_iload_n hx hb dX6_drill_52 rfl (lv_at hl 3 rfl) ?_
                refine lv_goto (tgt := 57) hx hb dX6_drill_53 (by decide) ?_
                refine lv_istore_n (lv' := [(1, .int x3q), (0, .ref (ad 29)), (2, .int x2), (3, .int x3q)]) hx hb dX6_drill_57 rfl hl (by decide) rfl (fun ls hl => ?_)
                refine lv_iinc (v := (x3q + 1)) (lv' := [(3, .int (x3q + 1)), (1, .int x3q), (0, .ref (ad 29)), (2, .int x2)]) hx hb dX6_drill_58 hl (k := 3) rfl rfl (by decide) rfl (fun ls hl => ?_)
                refine lv_goto (tgt := 17) hx hb dX6_drill_61 (by decide) ?_
                exact ihq (kq + 1)  x3q (x3q + 1) (by rw [exq]; exact nI_1 _) (by omega) (by omega) (by first | exact hbi | exact Or.inr (by rw [exq]; exact vp_in_nI (by omega) (by decide))) hR H locs hP hD hS ls (lv_sub hl [2, 1, 3, 0] rfl)
              · have hR := hR.trans (if_neg c_4)
                refine lv_aload_n hx hb dX6_drill_37 rfl (lv_at hl 0 rfl) ?_
                refine va_get (D := G) (ci := 8) (v := .ref (ad 44)) (C := RX6) (T := TX6) (N := 29) hx hb hts iX6_drill hown hE.1 hP 29 (zg_29 cs ad σ tl) rfl 16 (by decide) (hts (.fieldLink RX6 54 "HandoverDeckModel" "takenAt" "[I") (by decide +kernel)) (fun _ h9 => h9) rfl dX6_drill_38 ?_
                refine lv_iload_n hx hb dX6_drill_41 rfl (lv_at hl 3 rfl) ?_
                refine z_iald (v := (σ 44 x3q.toNatClampNeg)) hx hb hE hP (zg_44 cs ad σ tl) (by rw [exq]; exact vp_in_nI (by omega) (by decide)) rfl dX6_drill_42 ?_
                refine lv_aload_n hx hb dX6_drill_43 rfl (lv_at hl 0 rfl) ?_
                refine va_get (D := G) (ci := 8) (v := .ref (ad 44)) (C := RX6) (T := TX6) (N := 29) hx hb hts iX6_drill hown hE.1 hP 29 (zg_29 cs ad σ tl) rfl 16 (by decide) (hts (.fieldLink RX6 54 "HandoverDeckModel" "takenAt" "[I") (by decide +kernel)) (fun _ h9 => h9) rfl dX6_drill_44 ?_
                refine lv_iload_n hx hb dX6_drill_47 rfl (lv_at hl 1 rfl) ?_
                refine z_iald (v := (σ 44 x1q.toNatClampNeg)) hx hb hE hP (zg_44 cs ad σ tl) (hbi.resolve_left c_4) rfl dX6_drill_48 ?_
                refine lv_icmp_ge (tgt := 56) hx hb dX6_drill_49 (by decide) (fun c_5 => ?_) (fun c_5 => ?_)
                · have hR := hR.trans (if_pos c_5)
                  refine lv_iload_n hx hb dX6_drill_56 rfl (lv_at hl 1 rfl) ?_
                  refine lv_istore_n (lv' := [(1, .int x1q), (0, .ref (ad 29)), (2, .int x2), (3, .int x3q)]) hx hb dX6_drill_57 rfl hl (by decide) rfl (fun ls hl => ?_)
                  refine lv_iinc (v := (x3q + 1)) (lv' := [(3, .int (x3q + 1)), (1, .int x1q), (0, .ref (ad 29)), (2, .int x2)]) hx hb dX6_drill_58 hl (k := 3) rfl rfl (by decide) rfl (fun ls hl => ?_)
                  refine lv_goto (tgt := 17) hx hb dX6_drill_61 (by decide) ?_
                  exact ihq (kq + 1)  x1q (x3q + 1) (by rw [exq]; exact nI_1 _) (by omega) (by omega) (by first | exact hbi | exact Or.inr (by rw [exq]; exact vp_in_nI (by omega) (by decide))) hR H locs hP hD hS ls (lv_sub hl [2, 1, 3, 0] rfl)
                · have hR := hR.trans (if_neg c_5)
                  refine lv_iload_n hx hb dX6_drill_52 rfl (lv_at hl 3 rfl) ?_
                  refine lv_goto (tgt := 57) hx hb dX6_drill_53 (by decide) ?_
                  refine lv_istore_n (lv' := [(1, .int x3q), (0, .ref (ad 29)), (2, .int x2), (3, .int x3q)]) hx hb dX6_drill_57 rfl hl (by decide) rfl (fun ls hl => ?_)
                  refine lv_iinc (v := (x3q + 1)) (lv' := [(3, .int (x3q + 1)), (1, .int x3q), (0, .ref (ad 29)), (2, .int x2)]) hx hb dX6_drill_58 hl (k := 3) rfl rfl (by decide) rfl (fun ls hl => ?_)
                  refine lv_goto (tgt := 17) hx hb dX6_drill_61 (by decide) ?_
                  exact ihq (kq + 1)  x3q (x3q + 1) (by rw [exq]; exact nI_1 _) (by omega) (by omega) (by first | exact hbi | exact Or.inr (by rw [exq]; exact vp_in_nI (by omega) (by decide))) hR H locs hP hD hS ls (lv_sub hl [2, 1, 3, 0] rfl)
        exact loopq_6 9 0  x1 (8 * x2) (by rw [ex, show (8 : Int32) = nI 8 from rfl, pk_mul]; rfl) (by omega) (by omega) hbo hR H locs hP hD hS ls (lv_sub hl [1, 2, 3, 0] rfl)
  exact loop_7 7 0  (-1) 0 nI_0.symm (by omega) (by omega) (Or.inl rfl) hR H locs hP hD hS ls (lv_sub hl [2, 1, 0] rfl)
