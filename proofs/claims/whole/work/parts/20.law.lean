def wsLaw2 : List Cond := zcl ++ wsL_law
theorem up2 {X : List Cond} (h : GoodIn wsL_law X) : GoodIn wsLaw2 X := fun w hw => ⟨List.mem_append_right _ (h w hw).1, (h w hw).2⟩
theorem zclG : GoodIn wsLaw2 zcl := goodIn_sub (fun _ h => List.mem_append_left _ h) (by decide +kernel)
def zCtx (p : Program) (l : Launch) (s : State) (m : MethodId) (meth : Method) (c : Code) (b L : Nat) (xs : Nat → Int32) (G : va_G) (cs : Nat → ClassId) : Prop := p.tables.exec = Jvm.exec ∧ c.code = cL_law ∧ meth.sig.returnType = ret ∧ c.maxLocals = 9 ∧ s.vm.findClass RL = some m.cls ∧ (∀ w ∈ wsL_law, w.before #[Value.ref b] s = true) ∧ (∀ w ∈ zcl, w.before #[Value.ref b] s = true) ∧ va_X b L xs s s.heap ∧ b < s.heap.size ∧ l.stackTraces = false ∧ zE G cs (fun q => s.heap.size ≤ q) s s.heap
theorem lg_cmp_self (x : Int64) : lg_cmp x x = 0 := by
  unfold lg_cmp
  rw [if_neg (by simp), if_pos rfl]
theorem dcmp_self0 {x : UInt64} (h : Jvm.FP.Core.dIsNaN x = false) : Op.cmpValue (FP.dcmp x x) CmpOp.l = 0 := by
  rw [show FP.dcmp x x = some .eq from Jvm.FP.Core.dcmp_self ((Jvm.FP.Core.notNaN_iff _).mp h)]; rfl
set_option maxRecDepth 100000 in
theorem lc_0 {p : Program} {l : Launch} {e : Env} {s : State} {m : MethodId} {below : List Frame} {meth : Method} {c : Code} {b L : Nat} {xs : Nat → Int32} {G : va_G} {cs : Nat → ClassId} (K : zCtx p l s m meth c b L xs G cs) (ad : Nat → Nat) (qo qd : Nat) {Q : State → Prop} {C D t : Nat} {σ : zS} {o : Nat → Int64} {d : Nat → UInt64} {H : Heap} {locs : List Loc} {ls : Array Slot} {x5 : Int32} (hi : 6 * t + 6 ≤ L) (hL : L ≤ 3072) (hR : zR t σ) (hC : C + 6 ≤ 3165) (hC2 : D + 36 ≤ 120764)
    (hP : va_P G vwCl (zw cs ad σ (zt cs qo o qd d)) H) (hD : va_D (fun q => s.heap.size ≤ q) (zw cs ad σ (zt cs qo o qd d))) (hS : va_S (fun q => s.heap.size ≤ q) s.heap H locs) (ex : x5 = nI (6 * t)) (hl : lv_has ls 9 [(0, .ref b), (1, .ref (ad 0)), (2, .ref (ad 29)), (3, .ref qo), (4, .ref qd), (5, .int x5)])
    (hk : ∀ (H : Heap) (locs : List Loc) (σ : zS) (o : Nat → Int64) (d : Nat → UInt64) (ls : Array Slot), zR (t + 1) σ → va_P G vwCl (zw cs ad σ (zt cs qo o qd d)) H → va_D (fun q => s.heap.size ≤ q) (zw cs ad σ (zt cs qo o qd d)) → va_S (fun q => s.heap.size ≤ q) s.heap H locs → lv_has ls 9 [(0, .ref b), (1, .ref (ad 0)), (2, .ref (ad 29)), (3, .ref qo), (4, .ref qd), (5, .int x5)] → W p l e room_1 s m #[Value.ref b] below meth c H locs (C + 6) (D + 36) Q (F0 m 2254 ls [])) :
    W p l e room_1 s m #[Value.ref b] below meth c H locs C D Q (F0 m 216 ls []) := by
  obtain ⟨hx, hb, hr, hml, hown, hts, htc, hX, hbl, hfl, hE⟩ := K
  have hts2 : ∀ w ∈ wsLaw2, w.before #[Value.ref b] s = true := fun w h => (List.mem_append.mp h).elim (htc w) (hts w)
  have hA : ∀ q : Nat, s.heap.size ≤ q → (fun q : Nat => s.heap.size ≤ q) q := fun _ h => h
  have hbA : ¬ (fun q : Nat => s.heap.size ≤ q) b := Nat.not_le.mpr hbl
  have hin1 : vp_in (x5 + 1) L := by rw [ex, show (1 : Int32) = nI 1 from rfl, nI_add]; exact vp_in_nI (by omega) (by omega)
  obtain ⟨hI, hs2, hs3, hs4⟩ := sim_state hR (by omega) (xs (x5 + 1).toNatClampNeg)
  refine lv_aload_n hx hb dL_law_216 rfl (lv_at hl 1 rfl) ?_
  refine lv_aload_n hx hb dL_law_217 rfl (lv_at hl 0 rfl) ?_
  refine lv_iload hx hb dL_law_218 (lv_at hl 5 rfl) ?_
  refine lv_iconst (v := 1) hx hb dL_law_220 (by decide) ?_
  refine lv_iadd hx hb dL_law_221 ?_
  refine va_sld hx hb hX hbl hbA hS hin1 dL_law_222 ?_
  refine lv_aload_n hx hb dL_law_223 rfl (lv_at hl 3 rfl) ?_
  refine zai (vx_runSW (As := [.ref (ad 0), .int (xs (x5 + 1).toNatClampNeg), .ref qo]) (rest := []) ⟨hx, hb, hml, hown, hts⟩ (c_L_state l hfl G cs ad qo o qd d σ (xs (x5 + 1).toNatClampNeg)  H.size) (vx_cwSW 3 hts2 (z_gl rfl (up2 gL_law_L_state) zclG) rfl rfl rfl (by decide +kernel) ⟨Nat.le_of_ble_eq_true rfl, Nat.le_of_ble_eq_true rfl⟩) (zps hE hP hD hS hA) rfl rfl hl.1 rfl (lv_room (Nat.le_of_ble_eq_true rfl)) dL_law_224 ⟨show C + 1 ≤ 3165 by omega, show D + 6 ≤ 120764 by omega⟩) hD hS hA (fun H locs hP hD hS => ?_)
  refine lv_istore (lv' := [(6, .int (f_L_state (f_X5_state σ (xs (x5 + 1).toNatClampNeg)).1)), (0, .ref b), (1, .ref (ad 0)), (2, .ref (ad 29)), (3, .ref qo), (4, .ref qd), (5, .int x5)]) hx hb dL_law_227 hl (by decide) rfl (fun ls hl => ?_)
  refine lv_aload_n hx hb dL_law_229 rfl (lv_at hl 3 rfl) ?_
  refine lv_aload_n hx hb dL_law_230 rfl (lv_at hl 1 rfl) ?_
  refine lv_iload hx hb dL_law_231 (lv_at hl 6 rfl) ?_
  refine lv_iconst (v := 1) hx hb dL_law_233 (by decide) ?_
  refine lv_iadd hx hb dL_law_234 ?_
  refine va_sld hx hb hX hbl hbA hS hin1 dL_law_235 ?_
  refine zai (va_runV (As := [.int (xs (x5 + 1).toNatClampNeg)]) (rest := []) ⟨hx, hb, hml, hown, hts⟩ (c_X6_state l G cs ad (zt cs qo (zo (f_X5_state σ (xs (x5 + 1).toNatClampNeg)).1 (f_X5_state σ (xs (x5 + 1).toNatClampNeg)).2.1.toInt64 o) qd d) (f_X5_state σ (xs (x5 + 1).toNatClampNeg)).2.2 (xs (x5 + 1).toNatClampNeg)  H.size) (cwV 1 hts gL_law_X6_state rfl rfl rfl (by decide +kernel) ⟨Nat.le_of_ble_eq_true rfl, Nat.le_of_ble_eq_true rfl⟩) (zpv hE hP hD hS hA (zg_29 cs ad (f_X5_state σ (xs (x5 + 1).toNatClampNeg)).2.2 (zt cs qo (zo (f_X5_state σ (xs (x5 + 1).toNatClampNeg)).1 (f_X5_state σ (xs (x5 + 1).toNatClampNeg)).2.1.toInt64 o) qd d)) rfl) rfl rfl hl.1 rfl (lv_room (Nat.le_of_ble_eq_true rfl)) dL_law_236 ⟨show C + 1 + 0 ≤ 3165 by omega, show D + 6 + 0 ≤ 120764 by omega⟩) hD hS hA (fun H locs hP hD hS => ?_)
  refine lv_istore (lv' := [(7, .int (f_X6_state (f_X5_state σ (xs (x5 + 1).toNatClampNeg)).2.2 (xs (x5 + 1).toNatClampNeg)).1), (6, .int (f_L_state (f_X5_state σ (xs (x5 + 1).toNatClampNeg)).1)), (0, .ref b), (1, .ref (ad 0)), (2, .ref (ad 29)), (3, .ref qo), (4, .ref qd), (5, .int x5)]) hx hb dL_law_239 hl (by decide) rfl (fun ls hl => ?_)
  refine lv_aload_n hx hb dL_law_241 rfl (lv_at hl 4 rfl) ?_
  refine zai (va_runV (As := []) (rest := []) ⟨hx, hb, hml, hown, hts⟩ (c_X6_thrown l G cs ad (zt cs qo (zo (f_X5_state σ (xs (x5 + 1).toNatClampNeg)).1 (f_X5_state σ (xs (x5 + 1).toNatClampNeg)).2.1.toInt64 o) qd d) (f_X6_state (f_X5_state σ (xs (x5 + 1).toNatClampNeg)).2.2 (xs (x5 + 1).toNatClampNeg)).2 H.size) (cwV 0 hts gL_law_X6_thrown rfl rfl rfl (by decide +kernel) ⟨Nat.le_of_ble_eq_true rfl, Nat.le_of_ble_eq_true rfl⟩) (zpv hE hP hD hS hA (zg_29 cs ad (f_X6_state (f_X5_state σ (xs (x5 + 1).toNatClampNeg)).2.2 (xs (x5 + 1).toNatClampNeg)).2 (zt cs qo (zo (f_X5_state σ (xs (x5 + 1).toNatClampNeg)).1 (f_X5_state σ (xs (x5 + 1).toNatClampNeg)).2.1.toInt64 o) qd d)) rfl) rfl rfl hl.1 rfl (lv_room (Nat.le_of_ble_eq_true rfl)) dL_law_242 ⟨show C + 1 + 0 + 0 ≤ 3165 by omega, show D + 6 + 0 + 0 ≤ 120764 by omega⟩) hD hS hA (fun H locs hP hD hS => ?_)
  refine lv_iload hx hb dL_law_245 (lv_at hl 1 rfl) ?_
  refine lv_icmp_eq (tgt := 252) hx hb dL_law_247 (by decide) (fun _ => ?_) (fun h9 => absurd hs2 h9)
  refine lv_iload hx hb dL_law_252 (lv_at hl 1 rfl) ?_
  refine lv_if_ne (tgt := 269) hx hb dL_law_254 (by decide) (fun h8 => ?_) (fun h8 => ?_)
  · skip
    refine lv_goto (tgt := 2254) hx hb dL_law_269 (by decide) ?_
    refine W.widen (k := C + 6) (n := D + 36) (by omega) (by omega) ?_
    exact hk H locs _ _ _ ls hs4 hP hD hS (lv_sub hl [2, 3, 4, 5, 6, 7] rfl)
  · obtain ⟨h7, h6⟩ := hs3 h8
    refine lv_aload_n hx hb dL_law_257 rfl (lv_at hl 5 rfl) ?_
    refine lv_iconst (v := 0) hx hb dL_law_258 (by decide) ?_
    have e0 : zo (f_X5_state σ (xs (x5 + 1).toNatClampNeg)).1 (f_X5_state σ (xs (x5 + 1).toNatClampNeg)).2.1.toInt64 o (0 : Int32).toNatClampNeg = (f_X5_state σ (xs (x5 + 1).toNatClampNeg)).2.1.toInt64 := by unfold zo; rw [if_pos h7]; exact if_pos rfl
    refine va_lald hx hb hE.1 hP 51 3 rfl rfl z_in01 dL_law_259 ?_
    rw [e0]
    refine lv_iload hx hb dL_law_260 (lv_at hl 0 rfl) ?_
    refine lv_i2l (v := (f_X6_state (f_X5_state σ (xs (x5 + 1).toNatClampNeg)).2.2 (xs (x5 + 1).toNatClampNeg)).1.toInt64) hx hb dL_law_262 rfl ?_
    refine W.lcmp hx hb dL_law_263 ?_
    refine lv_if_eq (tgt := 269) hx hb dL_law_264 (by decide) (fun _ => ?_) (fun h9 => absurd (by rw [h6]; exact lg_cmp_self _) h9)
    refine lv_goto (tgt := 2254) hx hb dL_law_269 (by decide) ?_
    refine W.widen (k := C + 6) (n := D + 36) (by omega) (by omega) ?_
    exact hk H locs _ _ _ ls hs4 hP hD hS (lv_sub hl [2, 3, 4, 5, 6, 7] rfl)
set_option maxRecDepth 100000 in
theorem lc_1 {p : Program} {l : Launch} {e : Env} {s : State} {m : MethodId} {below : List Frame} {meth : Method} {c : Code} {b L : Nat} {xs : Nat → Int32} {G : va_G} {cs : Nat → ClassId} (K : zCtx p l s m meth c b L xs G cs) (ad : Nat → Nat) (qo qd : Nat) {Q : State → Prop} {C D t : Nat} {σ : zS} {o : Nat → Int64} {d : Nat → UInt64} {H : Heap} {locs : List Loc} {ls : Array Slot} {x5 : Int32} (hi : 6 * t + 6 ≤ L) (hL : L ≤ 3072) (hR : zR t σ) (hC : C + 6 ≤ 3165) (hC2 : D + 36 ≤ 120764)
    (hP : va_P G vwCl (zw cs ad σ (zt cs qo o qd d)) H) (hD : va_D (fun q => s.heap.size ≤ q) (zw cs ad σ (zt cs qo o qd d))) (hS : va_S (fun q => s.heap.size ≤ q) s.heap H locs) (ex : x5 = nI (6 * t)) (hl : lv_has ls 9 [(0, .ref b), (1, .ref (ad 0)), (2, .ref (ad 29)), (3, .ref qo), (4, .ref qd), (5, .int x5)])
    (hk : ∀ (H : Heap) (locs : List Loc) (σ : zS) (o : Nat → Int64) (d : Nat → UInt64) (ls : Array Slot), zR (t + 1) σ → va_P G vwCl (zw cs ad σ (zt cs qo o qd d)) H → va_D (fun q => s.heap.size ≤ q) (zw cs ad σ (zt cs qo o qd d)) → va_S (fun q => s.heap.size ≤ q) s.heap H locs → lv_has ls 9 [(0, .ref b), (1, .ref (ad 0)), (2, .ref (ad 29)), (3, .ref qo), (4, .ref qd), (5, .int x5)] → W p l e room_1 s m #[Value.ref b] below meth c H locs (C + 6) (D + 36) Q (F0 m 2254 ls [])) :
    W p l e room_1 s m #[Value.ref b] below meth c H locs C D Q (F0 m 272 ls []) := by
  obtain ⟨hx, hb, hr, hml, hown, hts, htc, hX, hbl, hfl, hE⟩ := K
  have hts2 : ∀ w ∈ wsLaw2, w.before #[Value.ref b] s = true := fun w h => (List.mem_append.mp h).elim (htc w) (hts w)
  have hA : ∀ q : Nat, s.heap.size ≤ q → (fun q : Nat => s.heap.size ≤ q) q := fun _ h => h
  have hbA : ¬ (fun q : Nat => s.heap.size ≤ q) b := Nat.not_le.mpr hbl
  have hin1 : vp_in (x5 + 1) L := by rw [ex, show (1 : Int32) = nI 1 from rfl, nI_add]; exact vp_in_nI (by omega) (by omega)
  have hin2 : vp_in (x5 + 2) L := by rw [ex, show (2 : Int32) = nI 2 from rfl, nI_add]; exact vp_in_nI (by omega) (by omega)
  have hin3 : vp_in (x5 + 3) L := by rw [ex, show (3 : Int32) = nI 3 from rfl, nI_add]; exact vp_in_nI (by omega) (by omega)
  obtain ⟨hI, hs2, hs3, hs4⟩ := sim_raise hR (by omega) (xs (x5 + 1).toNatClampNeg) (xs (x5 + 2).toNatClampNeg) (xs (x5 + 3).toNatClampNeg)
  refine lv_aload_n hx hb dL_law_272 rfl (lv_at hl 1 rfl) ?_
  refine lv_aload_n hx hb dL_law_273 rfl (lv_at hl 0 rfl) ?_
  refine lv_iload hx hb dL_law_274 (lv_at hl 5 rfl) ?_
  refine lv_iconst (v := 1) hx hb dL_law_276 (by decide) ?_
  refine lv_iadd hx hb dL_law_277 ?_
  refine va_sld hx hb hX hbl hbA hS hin1 dL_law_278 ?_
  refine lv_aload_n hx hb dL_law_279 rfl (lv_at hl 0 rfl) ?_
  refine lv_iload hx hb dL_law_280 (lv_at hl 5 rfl) ?_
  refine lv_iconst (v := 2) hx hb dL_law_282 (by decide) ?_
  refine lv_iadd hx hb dL_law_283 ?_
  refine va_sld hx hb hX hbl hbA hS hin2 dL_law_284 ?_
  refine lv_aload_n hx hb dL_law_285 rfl (lv_at hl 0 rfl) ?_
  refine lv_iload hx hb dL_law_286 (lv_at hl 5 rfl) ?_
  refine lv_iconst (v := 3) hx hb dL_law_288 (by decide) ?_
  refine lv_iadd hx hb dL_law_289 ?_
  refine va_sld hx hb hX hbl hbA hS hin3 dL_law_290 ?_
  refine lv_aload_n hx hb dL_law_291 rfl (lv_at hl 3 rfl) ?_
  refine zai (vx_runSW (As := [.ref (ad 0), .int (xs (x5 + 1).toNatClampNeg), .int (xs (x5 + 2).toNatClampNeg), .int (xs (x5 + 3).toNatClampNeg), .ref qo]) (rest := []) ⟨hx, hb, hml, hown, hts⟩ (c_L_raise l hfl G cs ad qo o qd d σ (xs (x5 + 1).toNatClampNeg) (xs (x5 + 2).toNatClampNeg) (xs (x5 + 3).toNatClampNeg)  H.size) (vx_cwSW 5 hts2 (z_gl rfl (up2 gL_law_L_raise) zclG) rfl rfl rfl (by decide +kernel) ⟨Nat.le_of_ble_eq_true rfl, Nat.le_of_ble_eq_true rfl⟩) (zps hE hP hD hS hA) rfl rfl hl.1 rfl (lv_room (Nat.le_of_ble_eq_true rfl)) dL_law_292 ⟨show C + 5 ≤ 3165 by omega, show D + 30 ≤ 120764 by omega⟩) hD hS hA (fun H locs hP hD hS => ?_)
  refine lv_istore (lv' := [(6, .int (f_L_raise (f_X5_raise σ (xs (x5 + 1).toNatClampNeg) (xs (x5 + 2).toNatClampNeg) (xs (x5 + 3).toNatClampNeg)).1)), (0, .ref b), (1, .ref (ad 0)), (2, .ref (ad 29)), (3, .ref qo), (4, .ref qd), (5, .int x5)]) hx hb dL_law_295 hl (by decide) rfl (fun ls hl => ?_)
  refine lv_aload_n hx hb dL_law_297 rfl (lv_at hl 3 rfl) ?_
  refine lv_aload_n hx hb dL_law_298 rfl (lv_at hl 1 rfl) ?_
  refine lv_iload hx hb dL_law_299 (lv_at hl 6 rfl) ?_
  refine lv_iconst (v := 1) hx hb dL_law_301 (by decide) ?_
  refine lv_iadd hx hb dL_law_302 ?_
  refine va_sld hx hb hX hbl hbA hS hin1 dL_law_303 ?_
  refine lv_aload_n hx hb dL_law_304 rfl (lv_at hl 1 rfl) ?_
  refine lv_iload hx hb dL_law_305 (lv_at hl 6 rfl) ?_
  refine lv_iconst (v := 2) hx hb dL_law_307 (by decide) ?_
  refine lv_iadd hx hb dL_law_308 ?_
  refine va_sld hx hb hX hbl hbA hS hin2 dL_law_309 ?_
  refine lv_aload_n hx hb dL_law_310 rfl (lv_at hl 1 rfl) ?_
  refine lv_iload hx hb dL_law_311 (lv_at hl 6 rfl) ?_
  refine lv_iconst (v := 3) hx hb dL_law_313 (by decide) ?_
  refine lv_iadd hx hb dL_law_314 ?_
  refine va_sld hx hb hX hbl hbA hS hin3 dL_law_315 ?_
  refine zai (va_runV (As := [.int (xs (x5 + 1).toNatClampNeg), .int (xs (x5 + 2).toNatClampNeg), .int (xs (x5 + 3).toNatClampNeg)]) (rest := []) ⟨hx, hb, hml, hown, hts⟩ (c_X6_raise l G cs ad (zt cs qo (zo (f_X5_raise σ (xs (x5 + 1).toNatClampNeg) (xs (x5 + 2).toNatClampNeg) (xs (x5 + 3).toNatClampNeg)).1 (f_X5_raise σ (xs (x5 + 1).toNatClampNeg) (xs (x5 + 2).toNatClampNeg) (xs (x5 + 3).toNatClampNeg)).2.1.toInt64 o) qd d) (f_X5_raise σ (xs (x5 + 1).toNatClampNeg) (xs (x5 + 2).toNatClampNeg) (xs (x5 + 3).toNatClampNeg)).2.2 (xs (x5 + 1).toNatClampNeg) (xs (x5 + 2).toNatClampNeg) (xs (x5 + 3).toNatClampNeg) hI H.size) (cwV 3 hts gL_law_X6_raise rfl rfl rfl (by decide +kernel) ⟨Nat.le_of_ble_eq_true rfl, Nat.le_of_ble_eq_true rfl⟩) (zpv hE hP hD hS hA (zg_29 cs ad (f_X5_raise σ (xs (x5 + 1).toNatClampNeg) (xs (x5 + 2).toNatClampNeg) (xs (x5 + 3).toNatClampNeg)).2.2 (zt cs qo (zo (f_X5_raise σ (xs (x5 + 1).toNatClampNeg) (xs (x5 + 2).toNatClampNeg) (xs (x5 + 3).toNatClampNeg)).1 (f_X5_raise σ (xs (x5 + 1).toNatClampNeg) (xs (x5 + 2).toNatClampNeg) (xs (x5 + 3).toNatClampNeg)).2.1.toInt64 o) qd d)) rfl) rfl rfl hl.1 rfl (lv_room (Nat.le_of_ble_eq_true rfl)) dL_law_316 ⟨show C + 5 + 0 ≤ 3165 by omega, show D + 30 + 0 ≤ 120764 by omega⟩) hD hS hA (fun H locs hP hD hS => ?_)
  refine lv_istore (lv' := [(7, .int (f_X6_raise (f_X5_raise σ (xs (x5 + 1).toNatClampNeg) (xs (x5 + 2).toNatClampNeg) (xs (x5 + 3).toNatClampNeg)).2.2 (xs (x5 + 1).toNatClampNeg) (xs (x5 + 2).toNatClampNeg) (xs (x5 + 3).toNatClampNeg)).1), (6, .int (f_L_raise (f_X5_raise σ (xs (x5 + 1).toNatClampNeg) (xs (x5 + 2).toNatClampNeg) (xs (x5 + 3).toNatClampNeg)).1)), (0, .ref b), (1, .ref (ad 0)), (2, .ref (ad 29)), (3, .ref qo), (4, .ref qd), (5, .int x5)]) hx hb dL_law_319 hl (by decide) rfl (fun ls hl => ?_)
  refine lv_aload_n hx hb dL_law_321 rfl (lv_at hl 4 rfl) ?_
  refine zai (va_runV (As := []) (rest := []) ⟨hx, hb, hml, hown, hts⟩ (c_X6_thrown l G cs ad (zt cs qo (zo (f_X5_raise σ (xs (x5 + 1).toNatClampNeg) (xs (x5 + 2).toNatClampNeg) (xs (x5 + 3).toNatClampNeg)).1 (f_X5_raise σ (xs (x5 + 1).toNatClampNeg) (xs (x5 + 2).toNatClampNeg) (xs (x5 + 3).toNatClampNeg)).2.1.toInt64 o) qd d) (f_X6_raise (f_X5_raise σ (xs (x5 + 1).toNatClampNeg) (xs (x5 + 2).toNatClampNeg) (xs (x5 + 3).toNatClampNeg)).2.2 (xs (x5 + 1).toNatClampNeg) (xs (x5 + 2).toNatClampNeg) (xs (x5 + 3).toNatClampNeg)).2 H.size) (cwV 0 hts gL_law_X6_thrown rfl rfl rfl (by decide +kernel) ⟨Nat.le_of_ble_eq_true rfl, Nat.le_of_ble_eq_true rfl⟩) (zpv hE hP hD hS hA (zg_29 cs ad (f_X6_raise (f_X5_raise σ (xs (x5 + 1).toNatClampNeg) (xs (x5 + 2).toNatClampNeg) (xs (x5 + 3).toNatClampNeg)).2.2 (xs (x5 + 1).toNatClampNeg) (xs (x5 + 2).toNatClampNeg) (xs (x5 + 3).toNatClampNeg)).2 (zt cs qo (zo (f_X5_raise σ (xs (x5 + 1).toNatClampNeg) (xs (x5 + 2).toNatClampNeg) (xs (x5 + 3).toNatClampNeg)).1 (f_X5_raise σ (xs (x5 + 1).toNatClampNeg) (xs (x5 + 2).toNatClampNeg) (xs (x5 + 3).toNatClampNeg)).2.1.toInt64 o) qd d)) rfl) rfl rfl hl.1 rfl (lv_room (Nat.le_of_ble_eq_true rfl)) dL_law_322 ⟨show C + 5 + 0 + 0 ≤ 3165 by omega, show D + 30 + 0 + 0 ≤ 120764 by omega⟩) hD hS hA (fun H locs hP hD hS => ?_)
  refine lv_iload hx hb dL_law_325 (lv_at hl 1 rfl) ?_
  refine lv_icmp_eq (tgt := 332) hx hb dL_law_327 (by decide) (fun _ => ?_) (fun h9 => absurd hs2 h9)
  refine lv_iload hx hb dL_law_332 (lv_at hl 1 rfl) ?_
  refine lv_if_ne (tgt := 349) hx hb dL_law_334 (by decide) (fun h8 => ?_) (fun h8 => ?_)
  · skip
    refine lv_goto (tgt := 2254) hx hb dL_law_349 (by decide) ?_
    refine W.widen (k := C + 6) (n := D + 36) (by omega) (by omega) ?_
    exact hk H locs _ _ _ ls hs4 hP hD hS (lv_sub hl [2, 3, 4, 5, 6, 7] rfl)
  · obtain ⟨h7, h6⟩ := hs3 h8
    refine lv_aload_n hx hb dL_law_337 rfl (lv_at hl 5 rfl) ?_
    refine lv_iconst (v := 0) hx hb dL_law_338 (by decide) ?_
    have e0 : zo (f_X5_raise σ (xs (x5 + 1).toNatClampNeg) (xs (x5 + 2).toNatClampNeg) (xs (x5 + 3).toNatClampNeg)).1 (f_X5_raise σ (xs (x5 + 1).toNatClampNeg) (xs (x5 + 2).toNatClampNeg) (xs (x5 + 3).toNatClampNeg)).2.1.toInt64 o (0 : Int32).toNatClampNeg = (f_X5_raise σ (xs (x5 + 1).toNatClampNeg) (xs (x5 + 2).toNatClampNeg) (xs (x5 + 3).toNatClampNeg)).2.1.toInt64 := by unfold zo; rw [if_pos h7]; exact if_pos rfl
    refine va_lald hx hb hE.1 hP 51 3 rfl rfl z_in01 dL_law_339 ?_
    rw [e0]
    refine lv_iload hx hb dL_law_340 (lv_at hl 0 rfl) ?_
    refine lv_i2l (v := (f_X6_raise (f_X5_raise σ (xs (x5 + 1).toNatClampNeg) (xs (x5 + 2).toNatClampNeg) (xs (x5 + 3).toNatClampNeg)).2.2 (xs (x5 + 1).toNatClampNeg) (xs (x5 + 2).toNatClampNeg) (xs (x5 + 3).toNatClampNeg)).1.toInt64) hx hb dL_law_342 rfl ?_
    refine W.lcmp hx hb dL_law_343 ?_
    refine lv_if_eq (tgt := 349) hx hb dL_law_344 (by decide) (fun _ => ?_) (fun h9 => absurd (by rw [h6]; exact lg_cmp_self _) h9)
    refine lv_goto (tgt := 2254) hx hb dL_law_349 (by decide) ?_
    refine W.widen (k := C + 6) (n := D + 36) (by omega) (by omega) ?_
    exact hk H locs _ _ _ ls hs4 hP hD hS (lv_sub hl [2, 3, 4, 5, 6, 7] rfl)
set_option maxRecDepth 100000 in
theorem lc_2 {p : Program} {l : Launch} {e : Env} {s : State} {m : MethodId} {below : List Frame} {meth : Method} {c : Code} {b L : Nat} {xs : Nat → Int32} {G : va_G} {cs : Nat → ClassId} (K : zCtx p l s m meth c b L xs G cs) (ad : Nat → Nat) (qo qd : Nat) {Q : State → Prop} {C D t : Nat} {σ : zS} {o : Nat → Int64} {d : Nat → UInt64} {H : Heap} {locs : List Loc} {ls : Array Slot} {x5 : Int32} (hi : 6 * t + 6 ≤ L) (hL : L ≤ 3072) (hR : zR t σ) (hC : C + 6 ≤ 3165) (hC2 : D + 36 ≤ 120764)
    (hP : va_P G vwCl (zw cs ad σ (zt cs qo o qd d)) H) (hD : va_D (fun q => s.heap.size ≤ q) (zw cs ad σ (zt cs qo o qd d))) (hS : va_S (fun q => s.heap.size ≤ q) s.heap H locs) (ex : x5 = nI (6 * t)) (hl : lv_has ls 9 [(0, .ref b), (1, .ref (ad 0)), (2, .ref (ad 29)), (3, .ref qo), (4, .ref qd), (5, .int x5)])
    (hk : ∀ (H : Heap) (locs : List Loc) (σ : zS) (o : Nat → Int64) (d : Nat → UInt64) (ls : Array Slot), zR (t + 1) σ → va_P G vwCl (zw cs ad σ (zt cs qo o qd d)) H → va_D (fun q => s.heap.size ≤ q) (zw cs ad σ (zt cs qo o qd d)) → va_S (fun q => s.heap.size ≤ q) s.heap H locs → lv_has ls 9 [(0, .ref b), (1, .ref (ad 0)), (2, .ref (ad 29)), (3, .ref qo), (4, .ref qd), (5, .int x5)] → W p l e room_1 s m #[Value.ref b] below meth c H locs (C + 6) (D + 36) Q (F0 m 2254 ls [])) :
    W p l e room_1 s m #[Value.ref b] below meth c H locs C D Q (F0 m 352 ls []) := by
  obtain ⟨hx, hb, hr, hml, hown, hts, htc, hX, hbl, hfl, hE⟩ := K
  have hts2 : ∀ w ∈ wsLaw2, w.before #[Value.ref b] s = true := fun w h => (List.mem_append.mp h).elim (htc w) (hts w)
  have hA : ∀ q : Nat, s.heap.size ≤ q → (fun q : Nat => s.heap.size ≤ q) q := fun _ h => h
  have hbA : ¬ (fun q : Nat => s.heap.size ≤ q) b := Nat.not_le.mpr hbl
  have hin1 : vp_in (x5 + 1) L := by rw [ex, show (1 : Int32) = nI 1 from rfl, nI_add]; exact vp_in_nI (by omega) (by omega)
  have hin2 : vp_in (x5 + 2) L := by rw [ex, show (2 : Int32) = nI 2 from rfl, nI_add]; exact vp_in_nI (by omega) (by omega)
  obtain ⟨hI, hs2, hs3, hs4⟩ := sim_clear hR (by omega) (xs (x5 + 1).toNatClampNeg) (xs (x5 + 2).toNatClampNeg)
  refine lv_aload_n hx hb dL_law_352 rfl (lv_at hl 1 rfl) ?_
  refine lv_aload_n hx hb dL_law_353 rfl (lv_at hl 0 rfl) ?_
  refine lv_iload hx hb dL_law_354 (lv_at hl 5 rfl) ?_
  refine lv_iconst (v := 1) hx hb dL_law_356 (by decide) ?_
  refine lv_iadd hx hb dL_law_357 ?_
  refine va_sld hx hb hX hbl hbA hS hin1 dL_law_358 ?_
  refine lv_aload_n hx hb dL_law_359 rfl (lv_at hl 0 rfl) ?_
  refine lv_iload hx hb dL_law_360 (lv_at hl 5 rfl) ?_
  refine lv_iconst (v := 2) hx hb dL_law_362 (by decide) ?_
  refine lv_iadd hx hb dL_law_363 ?_
  refine va_sld hx hb hX hbl hbA hS hin2 dL_law_364 ?_
  refine lv_aload_n hx hb dL_law_365 rfl (lv_at hl 3 rfl) ?_
  refine zai (vx_runSW (As := [.ref (ad 0), .int (xs (x5 + 1).toNatClampNeg), .int (xs (x5 + 2).toNatClampNeg), .ref qo]) (rest := []) ⟨hx, hb, hml, hown, hts⟩ (c_L_clear l hfl G cs ad qo o qd d σ (xs (x5 + 1).toNatClampNeg) (xs (x5 + 2).toNatClampNeg)  H.size) (vx_cwSW 4 hts2 (z_gl rfl (up2 gL_law_L_clear) zclG) rfl rfl rfl (by decide +kernel) ⟨Nat.le_of_ble_eq_true rfl, Nat.le_of_ble_eq_true rfl⟩) (zps hE hP hD hS hA) rfl rfl hl.1 rfl (lv_room (Nat.le_of_ble_eq_true rfl)) dL_law_366 ⟨show C + 3 ≤ 3165 by omega, show D + 18 ≤ 120764 by omega⟩) hD hS hA (fun H locs hP hD hS => ?_)
  refine lv_istore (lv' := [(6, .int (f_L_clear (f_X5_clear σ (xs (x5 + 1).toNatClampNeg) (xs (x5 + 2).toNatClampNeg)).1)), (0, .ref b), (1, .ref (ad 0)), (2, .ref (ad 29)), (3, .ref qo), (4, .ref qd), (5, .int x5)]) hx hb dL_law_369 hl (by decide) rfl (fun ls hl => ?_)
  refine lv_aload_n hx hb dL_law_371 rfl (lv_at hl 3 rfl) ?_
  refine lv_aload_n hx hb dL_law_372 rfl (lv_at hl 1 rfl) ?_
  refine lv_iload hx hb dL_law_373 (lv_at hl 6 rfl) ?_
  refine lv_iconst (v := 1) hx hb dL_law_375 (by decide) ?_
  refine lv_iadd hx hb dL_law_376 ?_
  refine va_sld hx hb hX hbl hbA hS hin1 dL_law_377 ?_
  refine lv_aload_n hx hb dL_law_378 rfl (lv_at hl 1 rfl) ?_
  refine lv_iload hx hb dL_law_379 (lv_at hl 6 rfl) ?_
  refine lv_iconst (v := 2) hx hb dL_law_381 (by decide) ?_
  refine lv_iadd hx hb dL_law_382 ?_
  refine va_sld hx hb hX hbl hbA hS hin2 dL_law_383 ?_
  refine zai (va_runV (As := [.int (xs (x5 + 1).toNatClampNeg), .int (xs (x5 + 2).toNatClampNeg)]) (rest := []) ⟨hx, hb, hml, hown, hts⟩ (c_X6_clear l G cs ad (zt cs qo (zo (f_X5_clear σ (xs (x5 + 1).toNatClampNeg) (xs (x5 + 2).toNatClampNeg)).1 (f_X5_clear σ (xs (x5 + 1).toNatClampNeg) (xs (x5 + 2).toNatClampNeg)).2.1.toInt64 o) qd d) (f_X5_clear σ (xs (x5 + 1).toNatClampNeg) (xs (x5 + 2).toNatClampNeg)).2.2 (xs (x5 + 1).toNatClampNeg) (xs (x5 + 2).toNatClampNeg) hI H.size) (cwV 2 hts gL_law_X6_clear rfl rfl rfl (by decide +kernel) ⟨Nat.le_of_ble_eq_true rfl, Nat.le_of_ble_eq_true rfl⟩) (zpv hE hP hD hS hA (zg_29 cs ad (f_X5_clear σ (xs (x5 + 1).toNatClampNeg) (xs (x5 + 2).toNatClampNeg)).2.2 (zt cs qo (zo (f_X5_clear σ (xs (x5 + 1).toNatClampNeg) (xs (x5 + 2).toNatClampNeg)).1 (f_X5_clear σ (xs (x5 + 1).toNatClampNeg) (xs (x5 + 2).toNatClampNeg)).2.1.toInt64 o) qd d)) rfl) rfl rfl hl.1 rfl (lv_room (Nat.le_of_ble_eq_true rfl)) dL_law_384 ⟨show C + 3 + 0 ≤ 3165 by omega, show D + 18 + 0 ≤ 120764 by omega⟩) hD hS hA (fun H locs hP hD hS => ?_)
  refine lv_istore (lv' := [(7, .int (f_X6_clear (f_X5_clear σ (xs (x5 + 1).toNatClampNeg) (xs (x5 + 2).toNatClampNeg)).2.2 (xs (x5 + 1).toNatClampNeg) (xs (x5 + 2).toNatClampNeg)).1), (6, .int (f_L_clear (f_X5_clear σ (xs (x5 + 1).toNatClampNeg) (xs (x5 + 2).toNatClampNeg)).1)), (0, .ref b), (1, .ref (ad 0)), (2, .ref (ad 29)), (3, .ref qo), (4, .ref qd), (5, .int x5)]) hx hb dL_law_387 hl (by decide) rfl (fun ls hl => ?_)
  refine lv_aload_n hx hb dL_law_389 rfl (lv_at hl 4 rfl) ?_
  refine zai (va_runV (As := []) (rest := []) ⟨hx, hb, hml, hown, hts⟩ (c_X6_thrown l G cs ad (zt cs qo (zo (f_X5_clear σ (xs (x5 + 1).toNatClampNeg) (xs (x5 + 2).toNatClampNeg)).1 (f_X5_clear σ (xs (x5 + 1).toNatClampNeg) (xs (x5 + 2).toNatClampNeg)).2.1.toInt64 o) qd d) (f_X6_clear (f_X5_clear σ (xs (x5 + 1).toNatClampNeg) (xs (x5 + 2).toNatClampNeg)).2.2 (xs (x5 + 1).toNatClampNeg) (xs (x5 + 2).toNatClampNeg)).2 H.size) (cwV 0 hts gL_law_X6_thrown rfl rfl rfl (by decide +kernel) ⟨Nat.le_of_ble_eq_true rfl, Nat.le_of_ble_eq_true rfl⟩) (zpv hE hP hD hS hA (zg_29 cs ad (f_X6_clear (f_X5_clear σ (xs (x5 + 1).toNatClampNeg) (xs (x5 + 2).toNatClampNeg)).2.2 (xs (x5 + 1).toNatClampNeg) (xs (x5 + 2).toNatClampNeg)).2 (zt cs qo (zo (f_X5_clear σ (xs (x5 + 1).toNatClampNeg) (xs (x5 + 2).toNatClampNeg)).1 (f_X5_clear σ (xs (x5 + 1).toNatClampNeg) (xs (x5 + 2).toNatClampNeg)).2.1.toInt64 o) qd d)) rfl) rfl rfl hl.1 rfl (lv_room (Nat.le_of_ble_eq_true rfl)) dL_law_390 ⟨show C + 3 + 0 + 0 ≤ 3165 by omega, show D + 18 + 0 + 0 ≤ 120764 by omega⟩) hD hS hA (fun H locs hP hD hS => ?_)
  refine lv_iload hx hb dL_law_393 (lv_at hl 1 rfl) ?_
  refine lv_icmp_eq (tgt := 400) hx hb dL_law_395 (by decide) (fun _ => ?_) (fun h9 => absurd hs2 h9)
  refine lv_iload hx hb dL_law_400 (lv_at hl 1 rfl) ?_
  refine lv_if_ne (tgt := 417) hx hb dL_law_402 (by decide) (fun h8 => ?_) (fun h8 => ?_)
  · skip
    refine lv_goto (tgt := 2254) hx hb dL_law_417 (by decide) ?_
    refine W.widen (k := C + 6) (n := D + 36) (by omega) (by omega) ?_
    exact hk H locs _ _ _ ls hs4 hP hD hS (lv_sub hl [2, 3, 4, 5, 6, 7] rfl)
  · obtain ⟨h7, h6⟩ := hs3 h8
    refine lv_aload_n hx hb dL_law_405 rfl (lv_at hl 5 rfl) ?_
    refine lv_iconst (v := 0) hx hb dL_law_406 (by decide) ?_
    have e0 : zo (f_X5_clear σ (xs (x5 + 1).toNatClampNeg) (xs (x5 + 2).toNatClampNeg)).1 (f_X5_clear σ (xs (x5 + 1).toNatClampNeg) (xs (x5 + 2).toNatClampNeg)).2.1.toInt64 o (0 : Int32).toNatClampNeg = (f_X5_clear σ (xs (x5 + 1).toNatClampNeg) (xs (x5 + 2).toNatClampNeg)).2.1.toInt64 := by unfold zo; rw [if_pos h7]; exact if_pos rfl
    refine va_lald hx hb hE.1 hP 51 3 rfl rfl z_in01 dL_law_407 ?_
    rw [e0]
    refine lv_iload hx hb dL_law_408 (lv_at hl 0 rfl) ?_
    refine lv_i2l (v := (f_X6_clear (f_X5_clear σ (xs (x5 + 1).toNatClampNeg) (xs (x5 + 2).toNatClampNeg)).2.2 (xs (x5 + 1).toNatClampNeg) (xs (x5 + 2).toNatClampNeg)).1.toInt64) hx hb dL_law_410 rfl ?_
    refine W.lcmp hx hb dL_law_411 ?_
    refine lv_if_eq (tgt := 417) hx hb dL_law_412 (by decide) (fun _ => ?_) (fun h9 => absurd (by rw [h6]; exact lg_cmp_self _) h9)
    refine lv_goto (tgt := 2254) hx hb dL_law_417 (by decide) ?_
    refine W.widen (k := C + 6) (n := D + 36) (by omega) (by omega) ?_
    exact hk H locs _ _ _ ls hs4 hP hD hS (lv_sub hl [2, 3, 4, 5, 6, 7] rfl)
set_option maxRecDepth 100000 in
theorem lc_3 {p : Program} {l : Launch} {e : Env} {s : State} {m : MethodId} {below : List Frame} {meth : Method} {c : Code} {b L : Nat} {xs : Nat → Int32} {G : va_G} {cs : Nat → ClassId} (K : zCtx p l s m meth c b L xs G cs) (ad : Nat → Nat) (qo qd : Nat) {Q : State → Prop} {C D t : Nat} {σ : zS} {o : Nat → Int64} {d : Nat → UInt64} {H : Heap} {locs : List Loc} {ls : Array Slot} {x5 : Int32} (hi : 6 * t + 6 ≤ L) (hL : L ≤ 3072) (hR : zR t σ) (hC : C + 6 ≤ 3165) (hC2 : D + 36 ≤ 120764)
    (hP : va_P G vwCl (zw cs ad σ (zt cs qo o qd d)) H) (hD : va_D (fun q => s.heap.size ≤ q) (zw cs ad σ (zt cs qo o qd d))) (hS : va_S (fun q => s.heap.size ≤ q) s.heap H locs) (ex : x5 = nI (6 * t)) (hl : lv_has ls 9 [(0, .ref b), (1, .ref (ad 0)), (2, .ref (ad 29)), (3, .ref qo), (4, .ref qd), (5, .int x5)])
    (hk : ∀ (H : Heap) (locs : List Loc) (σ : zS) (o : Nat → Int64) (d : Nat → UInt64) (ls : Array Slot), zR (t + 1) σ → va_P G vwCl (zw cs ad σ (zt cs qo o qd d)) H → va_D (fun q => s.heap.size ≤ q) (zw cs ad σ (zt cs qo o qd d)) → va_S (fun q => s.heap.size ≤ q) s.heap H locs → lv_has ls 9 [(0, .ref b), (1, .ref (ad 0)), (2, .ref (ad 29)), (3, .ref qo), (4, .ref qd), (5, .int x5)] → W p l e room_1 s m #[Value.ref b] below meth c H locs (C + 6) (D + 36) Q (F0 m 2254 ls [])) :
    W p l e room_1 s m #[Value.ref b] below meth c H locs C D Q (F0 m 420 ls []) := by
  obtain ⟨hx, hb, hr, hml, hown, hts, htc, hX, hbl, hfl, hE⟩ := K
  have hts2 : ∀ w ∈ wsLaw2, w.before #[Value.ref b] s = true := fun w h => (List.mem_append.mp h).elim (htc w) (hts w)
  have hA : ∀ q : Nat, s.heap.size ≤ q → (fun q : Nat => s.heap.size ≤ q) q := fun _ h => h
  have hbA : ¬ (fun q : Nat => s.heap.size ≤ q) b := Nat.not_le.mpr hbl
  have hin1 : vp_in (x5 + 1) L := by rw [ex, show (1 : Int32) = nI 1 from rfl, nI_add]; exact vp_in_nI (by omega) (by omega)
  have hin2 : vp_in (x5 + 2) L := by rw [ex, show (2 : Int32) = nI 2 from rfl, nI_add]; exact vp_in_nI (by omega) (by omega)
  have hin3 : vp_in (x5 + 3) L := by rw [ex, show (3 : Int32) = nI 3 from rfl, nI_add]; exact vp_in_nI (by omega) (by omega)
  obtain ⟨hI, hs2, hs3, hs4⟩ := sim_shelve hR (by omega) (xs (x5 + 1).toNatClampNeg) (xs (x5 + 2).toNatClampNeg) (xs (x5 + 3).toNatClampNeg)
  refine lv_aload_n hx hb dL_law_420 rfl (lv_at hl 1 rfl) ?_
  refine lv_aload_n hx hb dL_law_421 rfl (lv_at hl 0 rfl) ?_
  refine lv_iload hx hb dL_law_422 (lv_at hl 5 rfl) ?_
  refine lv_iconst (v := 1) hx hb dL_law_424 (by decide) ?_
  refine lv_iadd hx hb dL_law_425 ?_
  refine va_sld hx hb hX hbl hbA hS hin1 dL_law_426 ?_
  refine lv_aload_n hx hb dL_law_427 rfl (lv_at hl 0 rfl) ?_
  refine lv_iload hx hb dL_law_428 (lv_at hl 5 rfl) ?_
  refine lv_iconst (v := 2) hx hb dL_law_430 (by decide) ?_
  refine lv_iadd hx hb dL_law_431 ?_
  refine va_sld hx hb hX hbl hbA hS hin2 dL_law_432 ?_
  refine lv_aload_n hx hb dL_law_433 rfl (lv_at hl 0 rfl) ?_
  refine lv_iload hx hb dL_law_434 (lv_at hl 5 rfl) ?_
  refine lv_iconst (v := 3) hx hb dL_law_436 (by decide) ?_
  refine lv_iadd hx hb dL_law_437 ?_
  refine va_sld hx hb hX hbl hbA hS hin3 dL_law_438 ?_
  refine lv_aload_n hx hb dL_law_439 rfl (lv_at hl 3 rfl) ?_
  refine zai (vx_runSW (As := [.ref (ad 0), .int (xs (x5 + 1).toNatClampNeg), .int (xs (x5 + 2).toNatClampNeg), .int (xs (x5 + 3).toNatClampNeg), .ref qo]) (rest := []) ⟨hx, hb, hml, hown, hts⟩ (c_L_shelve l hfl G cs ad qo o qd d σ (xs (x5 + 1).toNatClampNeg) (xs (x5 + 2).toNatClampNeg) (xs (x5 + 3).toNatClampNeg)  H.size) (vx_cwSW 5 hts2 (z_gl rfl (up2 gL_law_L_shelve) zclG) rfl rfl rfl (by decide +kernel) ⟨Nat.le_of_ble_eq_true rfl, Nat.le_of_ble_eq_true rfl⟩) (zps hE hP hD hS hA) rfl rfl hl.1 rfl (lv_room (Nat.le_of_ble_eq_true rfl)) dL_law_440 ⟨show C + 4 ≤ 3165 by omega, show D + 24 ≤ 120764 by omega⟩) hD hS hA (fun H locs hP hD hS => ?_)
  refine lv_istore (lv' := [(6, .int (f_L_shelve (f_X5_shelve σ (xs (x5 + 1).toNatClampNeg) (xs (x5 + 2).toNatClampNeg) (xs (x5 + 3).toNatClampNeg)).1)), (0, .ref b), (1, .ref (ad 0)), (2, .ref (ad 29)), (3, .ref qo), (4, .ref qd), (5, .int x5)]) hx hb dL_law_443 hl (by decide) rfl (fun ls hl => ?_)
  refine lv_aload_n hx hb dL_law_445 rfl (lv_at hl 3 rfl) ?_
  refine lv_aload_n hx hb dL_law_446 rfl (lv_at hl 1 rfl) ?_
  refine lv_iload hx hb dL_law_447 (lv_at hl 6 rfl) ?_
  refine lv_iconst (v := 1) hx hb dL_law_449 (by decide) ?_
  refine lv_iadd hx hb dL_law_450 ?_
  refine va_sld hx hb hX hbl hbA hS hin1 dL_law_451 ?_
  refine lv_aload_n hx hb dL_law_452 rfl (lv_at hl 1 rfl) ?_
  refine lv_iload hx hb dL_law_453 (lv_at hl 6 rfl) ?_
  refine lv_iconst (v := 2) hx hb dL_law_455 (by decide) ?_
  refine lv_iadd hx hb dL_law_456 ?_
  refine va_sld hx hb hX hbl hbA hS hin2 dL_law_457 ?_
  refine lv_aload_n hx hb dL_law_458 rfl (lv_at hl 1 rfl) ?_
  refine lv_iload hx hb dL_law_459 (lv_at hl 6 rfl) ?_
  refine lv_iconst (v := 3) hx hb dL_law_461 (by decide) ?_
  refine lv_iadd hx hb dL_law_462 ?_
  refine va_sld hx hb hX hbl hbA hS hin3 dL_law_463 ?_
  refine zai (va_runV (As := [.int (xs (x5 + 1).toNatClampNeg), .int (xs (x5 + 2).toNatClampNeg), .int (xs (x5 + 3).toNatClampNeg)]) (rest := []) ⟨hx, hb, hml, hown, hts⟩ (c_X6_shelve l G cs ad (zt cs qo (zo (f_X5_shelve σ (xs (x5 + 1).toNatClampNeg) (xs (x5 + 2).toNatClampNeg) (xs (x5 + 3).toNatClampNeg)).1 (f_X5_shelve σ (xs (x5 + 1).toNatClampNeg) (xs (x5 + 2).toNatClampNeg) (xs (x5 + 3).toNatClampNeg)).2.1.toInt64 o) qd d) (f_X5_shelve σ (xs (x5 + 1).toNatClampNeg) (xs (x5 + 2).toNatClampNeg) (xs (x5 + 3).toNatClampNeg)).2.2 (xs (x5 + 1).toNatClampNeg) (xs (x5 + 2).toNatClampNeg) (xs (x5 + 3).toNatClampNeg) hI H.size) (cwV 3 hts gL_law_X6_shelve rfl rfl rfl (by decide +kernel) ⟨Nat.le_of_ble_eq_true rfl, Nat.le_of_ble_eq_true rfl⟩) (zpv hE hP hD hS hA (zg_29 cs ad (f_X5_shelve σ (xs (x5 + 1).toNatClampNeg) (xs (x5 + 2).toNatClampNeg) (xs (x5 + 3).toNatClampNeg)).2.2 (zt cs qo (zo (f_X5_shelve σ (xs (x5 + 1).toNatClampNeg) (xs (x5 + 2).toNatClampNeg) (xs (x5 + 3).toNatClampNeg)).1 (f_X5_shelve σ (xs (x5 + 1).toNatClampNeg) (xs (x5 + 2).toNatClampNeg) (xs (x5 + 3).toNatClampNeg)).2.1.toInt64 o) qd d)) rfl) rfl rfl hl.1 rfl (lv_room (Nat.le_of_ble_eq_true rfl)) dL_law_464 ⟨show C + 4 + 0 ≤ 3165 by omega, show D + 24 + 0 ≤ 120764 by omega⟩) hD hS hA (fun H locs hP hD hS => ?_)
  refine lv_istore (lv' := [(7, .int (f_X6_shelve (f_X5_shelve σ (xs (x5 + 1).toNatClampNeg) (xs (x5 + 2).toNatClampNeg) (xs (x5 + 3).toNatClampNeg)).2.2 (xs (x5 + 1).toNatClampNeg) (xs (x5 + 2).toNatClampNeg) (xs (x5 + 3).toNatClampNeg)).1), (6, .int (f_L_shelve (f_X5_shelve σ (xs (x5 + 1).toNatClampNeg) (xs (x5 + 2).toNatClampNeg) (xs (x5 + 3).toNatClampNeg)).1)), (0, .ref b), (1, .ref (ad 0)), (2, .ref (ad 29)), (3, .ref qo), (4, .ref qd), (5, .int x5)]) hx hb dL_law_467 hl (by decide) rfl (fun ls hl => ?_)
  refine lv_aload_n hx hb dL_law_469 rfl (lv_at hl 4 rfl) ?_
  refine zai (va_runV (As := []) (rest := []) ⟨hx, hb, hml, hown, hts⟩ (c_X6_thrown l G cs ad (zt cs qo (zo (f_X5_shelve σ (xs (x5 + 1).toNatClampNeg) (xs (x5 + 2).toNatClampNeg) (xs (x5 + 3).toNatClampNeg)).1 (f_X5_shelve σ (xs (x5 + 1).toNatClampNeg) (xs (x5 + 2).toNatClampNeg) (xs (x5 + 3).toNatClampNeg)).2.1.toInt64 o) qd d) (f_X6_shelve (f_X5_shelve σ (xs (x5 + 1).toNatClampNeg) (xs (x5 + 2).toNatClampNeg) (xs (x5 + 3).toNatClampNeg)).2.2 (xs (x5 + 1).toNatClampNeg) (xs (x5 + 2).toNatClampNeg) (xs (x5 + 3).toNatClampNeg)).2 H.size) (cwV 0 hts gL_law_X6_thrown rfl rfl rfl (by decide +kernel) ⟨Nat.le_of_ble_eq_true rfl, Nat.le_of_ble_eq_true rfl⟩) (zpv hE hP hD hS hA (zg_29 cs ad (f_X6_shelve (f_X5_shelve σ (xs (x5 + 1).toNatClampNeg) (xs (x5 + 2).toNatClampNeg) (xs (x5 + 3).toNatClampNeg)).2.2 (xs (x5 + 1).toNatClampNeg) (xs (x5 + 2).toNatClampNeg) (xs (x5 + 3).toNatClampNeg)).2 (zt cs qo (zo (f_X5_shelve σ (xs (x5 + 1).toNatClampNeg) (xs (x5 + 2).toNatClampNeg) (xs (x5 + 3).toNatClampNeg)).1 (f_X5_shelve σ (xs (x5 + 1).toNatClampNeg) (xs (x5 + 2).toNatClampNeg) (xs (x5 + 3).toNatClampNeg)).2.1.toInt64 o) qd d)) rfl) rfl rfl hl.1 rfl (lv_room (Nat.le_of_ble_eq_true rfl)) dL_law_470 ⟨show C + 4 + 0 + 0 ≤ 3165 by omega, show D + 24 + 0 + 0 ≤ 120764 by omega⟩) hD hS hA (fun H locs hP hD hS => ?_)
  refine lv_iload hx hb dL_law_473 (lv_at hl 1 rfl) ?_
  refine lv_icmp_eq (tgt := 480) hx hb dL_law_475 (by decide) (fun _ => ?_) (fun h9 => absurd hs2 h9)
  refine lv_iload hx hb dL_law_480 (lv_at hl 1 rfl) ?_
  refine lv_if_ne (tgt := 497) hx hb dL_law_482 (by decide) (fun h8 => ?_) (fun h8 => ?_)
  · skip
    refine lv_goto (tgt := 2254) hx hb dL_law_497 (by decide) ?_
    refine W.widen (k := C + 6) (n := D + 36) (by omega) (by omega) ?_
    exact hk H locs _ _ _ ls hs4 hP hD hS (lv_sub hl [2, 3, 4, 5, 6, 7] rfl)
  · obtain ⟨h7, h6⟩ := hs3 h8
    refine lv_aload_n hx hb dL_law_485 rfl (lv_at hl 5 rfl) ?_
    refine lv_iconst (v := 0) hx hb dL_law_486 (by decide) ?_
    have e0 : zo (f_X5_shelve σ (xs (x5 + 1).toNatClampNeg) (xs (x5 + 2).toNatClampNeg) (xs (x5 + 3).toNatClampNeg)).1 (f_X5_shelve σ (xs (x5 + 1).toNatClampNeg) (xs (x5 + 2).toNatClampNeg) (xs (x5 + 3).toNatClampNeg)).2.1.toInt64 o (0 : Int32).toNatClampNeg = (f_X5_shelve σ (xs (x5 + 1).toNatClampNeg) (xs (x5 + 2).toNatClampNeg) (xs (x5 + 3).toNatClampNeg)).2.1.toInt64 := by unfold zo; rw [if_pos h7]; exact if_pos rfl
    refine va_lald hx hb hE.1 hP 51 3 rfl rfl z_in01 dL_law_487 ?_
    rw [e0]
    refine lv_iload hx hb dL_law_488 (lv_at hl 0 rfl) ?_
    refine lv_i2l (v := (f_X6_shelve (f_X5_shelve σ (xs (x5 + 1).toNatClampNeg) (xs (x5 + 2).toNatClampNeg) (xs (x5 + 3).toNatClampNeg)).2.2 (xs (x5 + 1).toNatClampNeg) (xs (x5 + 2).toNatClampNeg) (xs (x5 + 3).toNatClampNeg)).1.toInt64) hx hb dL_law_490 rfl ?_
    refine W.lcmp hx hb dL_law_491 ?_
    refine lv_if_eq (tgt := 497) hx hb dL_law_492 (by decide) (fun _ => ?_) (fun h9 => absurd (by rw [h6]; exact lg_cmp_self _) h9)
    refine lv_goto (tgt := 2254) hx hb dL_law_497 (by decide) ?_
    refine W.widen (k := C + 6) (n := D + 36) (by omega) (by omega) ?_
    exact hk H locs _ _ _ ls hs4 hP hD hS (lv_sub hl [2, 3, 4, 5, 6, 7] rfl)
set_option maxRecDepth 100000 in
theorem lc_4 {p : Program} {l : Launch} {e : Env} {s : State} {m : MethodId} {below : List Frame} {meth : Method} {c : Code} {b L : Nat} {xs : Nat → Int32} {G : va_G} {cs : Nat → ClassId} (K : zCtx p l s m meth c b L xs G cs) (ad : Nat → Nat) (qo qd : Nat) {Q : State → Prop} {C D t : Nat} {σ : zS} {o : Nat → Int64} {d : Nat → UInt64} {H : Heap} {locs : List Loc} {ls : Array Slot} {x5 : Int32} (hi : 6 * t + 6 ≤ L) (hL : L ≤ 3072) (hR : zR t σ) (hC : C + 6 ≤ 3165) (hC2 : D + 36 ≤ 120764)
    (hP : va_P G vwCl (zw cs ad σ (zt cs qo o qd d)) H) (hD : va_D (fun q => s.heap.size ≤ q) (zw cs ad σ (zt cs qo o qd d))) (hS : va_S (fun q => s.heap.size ≤ q) s.heap H locs) (ex : x5 = nI (6 * t)) (hl : lv_has ls 9 [(0, .ref b), (1, .ref (ad 0)), (2, .ref (ad 29)), (3, .ref qo), (4, .ref qd), (5, .int x5)])
    (hk : ∀ (H : Heap) (locs : List Loc) (σ : zS) (o : Nat → Int64) (d : Nat → UInt64) (ls : Array Slot), zR (t + 1) σ → va_P G vwCl (zw cs ad σ (zt cs qo o qd d)) H → va_D (fun q => s.heap.size ≤ q) (zw cs ad σ (zt cs qo o qd d)) → va_S (fun q => s.heap.size ≤ q) s.heap H locs → lv_has ls 9 [(0, .ref b), (1, .ref (ad 0)), (2, .ref (ad 29)), (3, .ref qo), (4, .ref qd), (5, .int x5)] → W p l e room_1 s m #[Value.ref b] below meth c H locs (C + 6) (D + 36) Q (F0 m 2254 ls [])) :
    W p l e room_1 s m #[Value.ref b] below meth c H locs C D Q (F0 m 500 ls []) := by
  obtain ⟨hx, hb, hr, hml, hown, hts, htc, hX, hbl, hfl, hE⟩ := K
  have hts2 : ∀ w ∈ wsLaw2, w.before #[Value.ref b] s = true := fun w h => (List.mem_append.mp h).elim (htc w) (hts w)
  have hA : ∀ q : Nat, s.heap.size ≤ q → (fun q : Nat => s.heap.size ≤ q) q := fun _ h => h
  have hbA : ¬ (fun q : Nat => s.heap.size ≤ q) b := Nat.not_le.mpr hbl
  have hin1 : vp_in (x5 + 1) L := by rw [ex, show (1 : Int32) = nI 1 from rfl, nI_add]; exact vp_in_nI (by omega) (by omega)
  have hin2 : vp_in (x5 + 2) L := by rw [ex, show (2 : Int32) = nI 2 from rfl, nI_add]; exact vp_in_nI (by omega) (by omega)
  obtain ⟨hI, hs2, hs3, hs4⟩ := sim_isShelved hR (by omega) (xs (x5 + 1).toNatClampNeg) (xs (x5 + 2).toNatClampNeg)
  refine lv_aload_n hx hb dL_law_500 rfl (lv_at hl 1 rfl) ?_
  refine lv_aload_n hx hb dL_law_501 rfl (lv_at hl 0 rfl) ?_
  refine lv_iload hx hb dL_law_502 (lv_at hl 5 rfl) ?_
  refine lv_iconst (v := 1) hx hb dL_law_504 (by decide) ?_
  refine lv_iadd hx hb dL_law_505 ?_
  refine va_sld hx hb hX hbl hbA hS hin1 dL_law_506 ?_
  refine lv_aload_n hx hb dL_law_507 rfl (lv_at hl 0 rfl) ?_
  refine lv_iload hx hb dL_law_508 (lv_at hl 5 rfl) ?_
  refine lv_iconst (v := 2) hx hb dL_law_510 (by decide) ?_
  refine lv_iadd hx hb dL_law_511 ?_
  refine va_sld hx hb hX hbl hbA hS hin2 dL_law_512 ?_
  refine lv_aload_n hx hb dL_law_513 rfl (lv_at hl 3 rfl) ?_
  refine zai (vx_runSW (As := [.ref (ad 0), .int (xs (x5 + 1).toNatClampNeg), .int (xs (x5 + 2).toNatClampNeg), .ref qo]) (rest := []) ⟨hx, hb, hml, hown, hts⟩ (c_L_isShelved l hfl G cs ad qo o qd d σ (xs (x5 + 1).toNatClampNeg) (xs (x5 + 2).toNatClampNeg)  H.size) (vx_cwSW 4 hts2 (z_gl rfl (up2 gL_law_L_isShelved) zclG) rfl rfl rfl (by decide +kernel) ⟨Nat.le_of_ble_eq_true rfl, Nat.le_of_ble_eq_true rfl⟩) (zps hE hP hD hS hA) rfl rfl hl.1 rfl (lv_room (Nat.le_of_ble_eq_true rfl)) dL_law_514 ⟨show C + 2 ≤ 3165 by omega, show D + 12 ≤ 120764 by omega⟩) hD hS hA (fun H locs hP hD hS => ?_)
  refine lv_istore (lv' := [(6, .int (f_L_isShelved (f_X5_isShelved σ (xs (x5 + 1).toNatClampNeg) (xs (x5 + 2).toNatClampNeg)).1)), (0, .ref b), (1, .ref (ad 0)), (2, .ref (ad 29)), (3, .ref qo), (4, .ref qd), (5, .int x5)]) hx hb dL_law_517 hl (by decide) rfl (fun ls hl => ?_)
  refine lv_aload_n hx hb dL_law_519 rfl (lv_at hl 3 rfl) ?_
  refine lv_aload_n hx hb dL_law_520 rfl (lv_at hl 1 rfl) ?_
  refine lv_iload hx hb dL_law_521 (lv_at hl 6 rfl) ?_
  refine lv_iconst (v := 1) hx hb dL_law_523 (by decide) ?_
  refine lv_iadd hx hb dL_law_524 ?_
  refine va_sld hx hb hX hbl hbA hS hin1 dL_law_525 ?_
  refine lv_aload_n hx hb dL_law_526 rfl (lv_at hl 1 rfl) ?_
  refine lv_iload hx hb dL_law_527 (lv_at hl 6 rfl) ?_
  refine lv_iconst (v := 2) hx hb dL_law_529 (by decide) ?_
  refine lv_iadd hx hb dL_law_530 ?_
  refine va_sld hx hb hX hbl hbA hS hin2 dL_law_531 ?_
  refine zai (va_runV (As := [.int (xs (x5 + 1).toNatClampNeg), .int (xs (x5 + 2).toNatClampNeg)]) (rest := []) ⟨hx, hb, hml, hown, hts⟩ (c_X6_isShelved_ l G cs ad (zt cs qo (zo (f_X5_isShelved σ (xs (x5 + 1).toNatClampNeg) (xs (x5 + 2).toNatClampNeg)).1 (if (f_X5_isShelved σ (xs (x5 + 1).toNatClampNeg) (xs (x5 + 2).toNatClampNeg)).2.1 = 0 then 0 else 1) o) qd d) (f_X5_isShelved σ (xs (x5 + 1).toNatClampNeg) (xs (x5 + 2).toNatClampNeg)).2.2 (xs (x5 + 1).toNatClampNeg) (xs (x5 + 2).toNatClampNeg)  H.size) (cwV 2 hts gL_law_X6_isShelved_ rfl rfl rfl (by decide +kernel) ⟨Nat.le_of_ble_eq_true rfl, Nat.le_of_ble_eq_true rfl⟩) (zpv hE hP hD hS hA (zg_29 cs ad (f_X5_isShelved σ (xs (x5 + 1).toNatClampNeg) (xs (x5 + 2).toNatClampNeg)).2.2 (zt cs qo (zo (f_X5_isShelved σ (xs (x5 + 1).toNatClampNeg) (xs (x5 + 2).toNatClampNeg)).1 (if (f_X5_isShelved σ (xs (x5 + 1).toNatClampNeg) (xs (x5 + 2).toNatClampNeg)).2.1 = 0 then 0 else 1) o) qd d)) rfl) rfl rfl hl.1 rfl (lv_room (Nat.le_of_ble_eq_true rfl)) dL_law_532 ⟨show C + 2 + 0 ≤ 3165 by omega, show D + 12 + 0 ≤ 120764 by omega⟩) hD hS hA (fun H locs hP hD hS => ?_)
  refine lv_istore (lv' := [(7, .int (f_X6_isShelved_ (f_X5_isShelved σ (xs (x5 + 1).toNatClampNeg) (xs (x5 + 2).toNatClampNeg)).2.2 (xs (x5 + 1).toNatClampNeg) (xs (x5 + 2).toNatClampNeg)).1), (6, .int (f_L_isShelved (f_X5_isShelved σ (xs (x5 + 1).toNatClampNeg) (xs (x5 + 2).toNatClampNeg)).1)), (0, .ref b), (1, .ref (ad 0)), (2, .ref (ad 29)), (3, .ref qo), (4, .ref qd), (5, .int x5)]) hx hb dL_law_535 hl (by decide) rfl (fun ls hl => ?_)
  refine lv_aload_n hx hb dL_law_537 rfl (lv_at hl 4 rfl) ?_
  refine zai (va_runV (As := []) (rest := []) ⟨hx, hb, hml, hown, hts⟩ (c_X6_thrown l G cs ad (zt cs qo (zo (f_X5_isShelved σ (xs (x5 + 1).toNatClampNeg) (xs (x5 + 2).toNatClampNeg)).1 (if (f_X5_isShelved σ (xs (x5 + 1).toNatClampNeg) (xs (x5 + 2).toNatClampNeg)).2.1 = 0 then 0 else 1) o) qd d) (f_X6_isShelved_ (f_X5_isShelved σ (xs (x5 + 1).toNatClampNeg) (xs (x5 + 2).toNatClampNeg)).2.2 (xs (x5 + 1).toNatClampNeg) (xs (x5 + 2).toNatClampNeg)).2 H.size) (cwV 0 hts gL_law_X6_thrown rfl rfl rfl (by decide +kernel) ⟨Nat.le_of_ble_eq_true rfl, Nat.le_of_ble_eq_true rfl⟩) (zpv hE hP hD hS hA (zg_29 cs ad (f_X6_isShelved_ (f_X5_isShelved σ (xs (x5 + 1).toNatClampNeg) (xs (x5 + 2).toNatClampNeg)).2.2 (xs (x5 + 1).toNatClampNeg) (xs (x5 + 2).toNatClampNeg)).2 (zt cs qo (zo (f_X5_isShelved σ (xs (x5 + 1).toNatClampNeg) (xs (x5 + 2).toNatClampNeg)).1 (if (f_X5_isShelved σ (xs (x5 + 1).toNatClampNeg) (xs (x5 + 2).toNatClampNeg)).2.1 = 0 then 0 else 1) o) qd d)) rfl) rfl rfl hl.1 rfl (lv_room (Nat.le_of_ble_eq_true rfl)) dL_law_538 ⟨show C + 2 + 0 + 0 ≤ 3165 by omega, show D + 12 + 0 + 0 ≤ 120764 by omega⟩) hD hS hA (fun H locs hP hD hS => ?_)
  refine lv_iload hx hb dL_law_541 (lv_at hl 1 rfl) ?_
  refine lv_icmp_eq (tgt := 548) hx hb dL_law_543 (by decide) (fun _ => ?_) (fun h9 => absurd hs2 h9)
  refine lv_iload hx hb dL_law_548 (lv_at hl 1 rfl) ?_
  refine lv_if_ne (tgt := 572) hx hb dL_law_550 (by decide) (fun h8 => ?_) (fun h8 => ?_)
  · skip
    refine lv_goto (tgt := 2254) hx hb dL_law_572 (by decide) ?_
    refine W.widen (k := C + 6) (n := D + 36) (by omega) (by omega) ?_
    exact hk H locs _ _ _ ls hs4 hP hD hS (lv_sub hl [2, 3, 4, 5, 6, 7] rfl)
  · obtain ⟨h7, h6⟩ := hs3 h8
    refine lv_aload_n hx hb dL_law_553 rfl (lv_at hl 5 rfl) ?_
    refine lv_iconst (v := 0) hx hb dL_law_554 (by decide) ?_
    have e0 : zo (f_X5_isShelved σ (xs (x5 + 1).toNatClampNeg) (xs (x5 + 2).toNatClampNeg)).1 (if (f_X5_isShelved σ (xs (x5 + 1).toNatClampNeg) (xs (x5 + 2).toNatClampNeg)).2.1 = 0 then 0 else 1) o (0 : Int32).toNatClampNeg = (if (f_X5_isShelved σ (xs (x5 + 1).toNatClampNeg) (xs (x5 + 2).toNatClampNeg)).2.1 = 0 then 0 else 1) := by unfold zo; rw [if_pos h7]; exact if_pos rfl
    refine va_lald hx hb hE.1 hP 51 3 rfl rfl z_in01 dL_law_555 ?_
    rw [e0]
    refine lv_iload hx hb dL_law_556 (lv_at hl 0 rfl) ?_
    refine lv_if_eq (tgt := 565) hx hb dL_law_558 (by decide) (fun h4 => ?_) (fun h4 => ?_)
    · refine lv_lconst (v := 0) hx hb dL_law_565 (by decide) ?_
      refine W.lcmp hx hb dL_law_566 ?_
      refine lv_if_eq (tgt := 572) hx hb dL_law_567 (by decide) (fun _ => ?_) (fun h9 => absurd (by rw [if_pos (h6.symm.trans h4)]; exact lg_cmp_self _) h9)
      refine lv_goto (tgt := 2254) hx hb dL_law_572 (by decide) ?_
      refine W.widen (k := C + 6) (n := D + 36) (by omega) (by omega) ?_
      exact hk H locs _ _ _ ls hs4 hP hD hS (lv_sub hl [2, 3, 4, 5, 6, 7] rfl)
    · refine lv_lconst (v := 1) hx hb dL_law_561 (by decide) ?_
      refine lv_goto (tgt := 566) hx hb dL_law_562 (by decide) ?_
      refine W.lcmp hx hb dL_law_566 ?_
      refine lv_if_eq (tgt := 572) hx hb dL_law_567 (by decide) (fun _ => ?_) (fun h9 => absurd (by rw [if_neg (fun z => h4 (h6.trans z))]; exact lg_cmp_self _) h9)
      refine lv_goto (tgt := 2254) hx hb dL_law_572 (by decide) ?_
      refine W.widen (k := C + 6) (n := D + 36) (by omega) (by omega) ?_
      exact hk H locs _ _ _ ls hs4 hP hD hS (lv_sub hl [2, 3, 4, 5, 6, 7] rfl)
set_option maxRecDepth 100000 in
theorem lc_5 {p : Program} {l : Launch} {e : Env} {s : State} {m : MethodId} {below : List Frame} {meth : Method} {c : Code} {b L : Nat} {xs : Nat → Int32} {G : va_G} {cs : Nat → ClassId} (K : zCtx p l s m meth c b L xs G cs) (ad : Nat → Nat) (qo qd : Nat) {Q : State → Prop} {C D t : Nat} {σ : zS} {o : Nat → Int64} {d : Nat → UInt64} {H : Heap} {locs : List Loc} {ls : Array Slot} {x5 : Int32} (hi : 6 * t + 6 ≤ L) (hL : L ≤ 3072) (hR : zR t σ) (hC : C + 6 ≤ 3165) (hC2 : D + 36 ≤ 120764)
    (hP : va_P G vwCl (zw cs ad σ (zt cs qo o qd d)) H) (hD : va_D (fun q => s.heap.size ≤ q) (zw cs ad σ (zt cs qo o qd d))) (hS : va_S (fun q => s.heap.size ≤ q) s.heap H locs) (ex : x5 = nI (6 * t)) (hl : lv_has ls 9 [(0, .ref b), (1, .ref (ad 0)), (2, .ref (ad 29)), (3, .ref qo), (4, .ref qd), (5, .int x5)])
    (hk : ∀ (H : Heap) (locs : List Loc) (σ : zS) (o : Nat → Int64) (d : Nat → UInt64) (ls : Array Slot), zR (t + 1) σ → va_P G vwCl (zw cs ad σ (zt cs qo o qd d)) H → va_D (fun q => s.heap.size ≤ q) (zw cs ad σ (zt cs qo o qd d)) → va_S (fun q => s.heap.size ≤ q) s.heap H locs → lv_has ls 9 [(0, .ref b), (1, .ref (ad 0)), (2, .ref (ad 29)), (3, .ref qo), (4, .ref qd), (5, .int x5)] → W p l e room_1 s m #[Value.ref b] below meth c H locs (C + 6) (D + 36) Q (F0 m 2254 ls [])) :
    W p l e room_1 s m #[Value.ref b] below meth c H locs C D Q (F0 m 575 ls []) := by
  obtain ⟨hx, hb, hr, hml, hown, hts, htc, hX, hbl, hfl, hE⟩ := K
  have hts2 : ∀ w ∈ wsLaw2, w.before #[Value.ref b] s = true := fun w h => (List.mem_append.mp h).elim (htc w) (hts w)
  have hA : ∀ q : Nat, s.heap.size ≤ q → (fun q : Nat => s.heap.size ≤ q) q := fun _ h => h
  have hbA : ¬ (fun q : Nat => s.heap.size ≤ q) b := Nat.not_le.mpr hbl
  have hin1 : vp_in (x5 + 1) L := by rw [ex, show (1 : Int32) = nI 1 from rfl, nI_add]; exact vp_in_nI (by omega) (by omega)
  obtain ⟨hI, hs2, hs3, hs4⟩ := sim_alarms hR (by omega) (xs (x5 + 1).toNatClampNeg)
  refine lv_aload_n hx hb dL_law_575 rfl (lv_at hl 1 rfl) ?_
  refine lv_aload_n hx hb dL_law_576 rfl (lv_at hl 0 rfl) ?_
  refine lv_iload hx hb dL_law_577 (lv_at hl 5 rfl) ?_
  refine lv_iconst (v := 1) hx hb dL_law_579 (by decide) ?_
  refine lv_iadd hx hb dL_law_580 ?_
  refine va_sld hx hb hX hbl hbA hS hin1 dL_law_581 ?_
  refine lv_aload_n hx hb dL_law_582 rfl (lv_at hl 3 rfl) ?_
  refine zai (vx_runSW (As := [.ref (ad 0), .int (xs (x5 + 1).toNatClampNeg), .ref qo]) (rest := []) ⟨hx, hb, hml, hown, hts⟩ (c_L_alarms l hfl G cs ad qo o qd d σ (xs (x5 + 1).toNatClampNeg)  H.size) (vx_cwSW 3 hts2 (z_gl rfl (up2 gL_law_L_alarms) zclG) rfl rfl rfl (by decide +kernel) ⟨Nat.le_of_ble_eq_true rfl, Nat.le_of_ble_eq_true rfl⟩) (zps hE hP hD hS hA) rfl rfl hl.1 rfl (lv_room (Nat.le_of_ble_eq_true rfl)) dL_law_583 ⟨show C + 1 ≤ 3165 by omega, show D + 6 ≤ 120764 by omega⟩) hD hS hA (fun H locs hP hD hS => ?_)
  refine lv_istore (lv' := [(6, .int (f_L_alarms (f_X5_alarms σ (xs (x5 + 1).toNatClampNeg)).1)), (0, .ref b), (1, .ref (ad 0)), (2, .ref (ad 29)), (3, .ref qo), (4, .ref qd), (5, .int x5)]) hx hb dL_law_586 hl (by decide) rfl (fun ls hl => ?_)
  refine lv_aload_n hx hb dL_law_588 rfl (lv_at hl 3 rfl) ?_
  refine lv_aload_n hx hb dL_law_589 rfl (lv_at hl 1 rfl) ?_
  refine lv_iload hx hb dL_law_590 (lv_at hl 6 rfl) ?_
  refine lv_iconst (v := 1) hx hb dL_law_592 (by decide) ?_
  refine lv_iadd hx hb dL_law_593 ?_
  refine va_sld hx hb hX hbl hbA hS hin1 dL_law_594 ?_
  refine zai (va_runV (As := [.int (xs (x5 + 1).toNatClampNeg)]) (rest := []) ⟨hx, hb, hml, hown, hts⟩ (c_X6_alarms l G cs ad (zt cs qo (zo (f_X5_alarms σ (xs (x5 + 1).toNatClampNeg)).1 (f_X5_alarms σ (xs (x5 + 1).toNatClampNeg)).2.1.toInt64 o) qd d) (f_X5_alarms σ (xs (x5 + 1).toNatClampNeg)).2.2 (xs (x5 + 1).toNatClampNeg)  H.size) (cwV 1 hts gL_law_X6_alarms rfl rfl rfl (by decide +kernel) ⟨Nat.le_of_ble_eq_true rfl, Nat.le_of_ble_eq_true rfl⟩) (zpv hE hP hD hS hA (zg_29 cs ad (f_X5_alarms σ (xs (x5 + 1).toNatClampNeg)).2.2 (zt cs qo (zo (f_X5_alarms σ (xs (x5 + 1).toNatClampNeg)).1 (f_X5_alarms σ (xs (x5 + 1).toNatClampNeg)).2.1.toInt64 o) qd d)) rfl) rfl rfl hl.1 rfl (lv_room (Nat.le_of_ble_eq_true rfl)) dL_law_595 ⟨show C + 1 + 0 ≤ 3165 by omega, show D + 6 + 0 ≤ 120764 by omega⟩) hD hS hA (fun H locs hP hD hS => ?_)
  refine lv_istore (lv' := [(7, .int (f_X6_alarms (f_X5_alarms σ (xs (x5 + 1).toNatClampNeg)).2.2 (xs (x5 + 1).toNatClampNeg)).1), (6, .int (f_L_alarms (f_X5_alarms σ (xs (x5 + 1).toNatClampNeg)).1)), (0, .ref b), (1, .ref (ad 0)), (2, .ref (ad 29)), (3, .ref qo), (4, .ref qd), (5, .int x5)]) hx hb dL_law_598 hl (by decide) rfl (fun ls hl => ?_)
  refine lv_aload_n hx hb dL_law_600 rfl (lv_at hl 4 rfl) ?_
  refine zai (va_runV (As := []) (rest := []) ⟨hx, hb, hml, hown, hts⟩ (c_X6_thrown l G cs ad (zt cs qo (zo (f_X5_alarms σ (xs (x5 + 1).toNatClampNeg)).1 (f_X5_alarms σ (xs (x5 + 1).toNatClampNeg)).2.1.toInt64 o) qd d) (f_X6_alarms (f_X5_alarms σ (xs (x5 + 1).toNatClampNeg)).2.2 (xs (x5 + 1).toNatClampNeg)).2 H.size) (cwV 0 hts gL_law_X6_thrown rfl rfl rfl (by decide +kernel) ⟨Nat.le_of_ble_eq_true rfl, Nat.le_of_ble_eq_true rfl⟩) (zpv hE hP hD hS hA (zg_29 cs ad (f_X6_alarms (f_X5_alarms σ (xs (x5 + 1).toNatClampNeg)).2.2 (xs (x5 + 1).toNatClampNeg)).2 (zt cs qo (zo (f_X5_alarms σ (xs (x5 + 1).toNatClampNeg)).1 (f_X5_alarms σ (xs (x5 + 1).toNatClampNeg)).2.1.toInt64 o) qd d)) rfl) rfl rfl hl.1 rfl (lv_room (Nat.le_of_ble_eq_true rfl)) dL_law_601 ⟨show C + 1 + 0 + 0 ≤ 3165 by omega, show D + 6 + 0 + 0 ≤ 120764 by omega⟩) hD hS hA (fun H locs hP hD hS => ?_)
  refine lv_iload hx hb dL_law_604 (lv_at hl 1 rfl) ?_
  refine lv_icmp_eq (tgt := 611) hx hb dL_law_606 (by decide) (fun _ => ?_) (fun h9 => absurd hs2 h9)
  refine lv_iload hx hb dL_law_611 (lv_at hl 1 rfl) ?_
  refine lv_if_ne (tgt := 628) hx hb dL_law_613 (by decide) (fun h8 => ?_) (fun h8 => ?_)
  · skip
    refine lv_goto (tgt := 2254) hx hb dL_law_628 (by decide) ?_
    refine W.widen (k := C + 6) (n := D + 36) (by omega) (by omega) ?_
    exact hk H locs _ _ _ ls hs4 hP hD hS (lv_sub hl [2, 3, 4, 5, 6, 7] rfl)
  · obtain ⟨h7, h6⟩ := hs3 h8
    refine lv_aload_n hx hb dL_law_616 rfl (lv_at hl 5 rfl) ?_
    refine lv_iconst (v := 0) hx hb dL_law_617 (by decide) ?_
    have e0 : zo (f_X5_alarms σ (xs (x5 + 1).toNatClampNeg)).1 (f_X5_alarms σ (xs (x5 + 1).toNatClampNeg)).2.1.toInt64 o (0 : Int32).toNatClampNeg = (f_X5_alarms σ (xs (x5 + 1).toNatClampNeg)).2.1.toInt64 := by unfold zo; rw [if_pos h7]; exact if_pos rfl
    refine va_lald hx hb hE.1 hP 51 3 rfl rfl z_in01 dL_law_618 ?_
    rw [e0]
    refine lv_iload hx hb dL_law_619 (lv_at hl 0 rfl) ?_
    refine lv_i2l (v := (f_X6_alarms (f_X5_alarms σ (xs (x5 + 1).toNatClampNeg)).2.2 (xs (x5 + 1).toNatClampNeg)).1.toInt64) hx hb dL_law_621 rfl ?_
    refine W.lcmp hx hb dL_law_622 ?_
    refine lv_if_eq (tgt := 628) hx hb dL_law_623 (by decide) (fun _ => ?_) (fun h9 => absurd (by rw [h6]; exact lg_cmp_self _) h9)
    refine lv_goto (tgt := 2254) hx hb dL_law_628 (by decide) ?_
    refine W.widen (k := C + 6) (n := D + 36) (by omega) (by omega) ?_
    exact hk H locs _ _ _ ls hs4 hP hD hS (lv_sub hl [2, 3, 4, 5, 6, 7] rfl)
set_option maxRecDepth 100000 in
theorem lc_6 {p : Program} {l : Launch} {e : Env} {s : State} {m : MethodId} {below : List Frame} {meth : Method} {c : Code} {b L : Nat} {xs : Nat → Int32} {G : va_G} {cs : Nat → ClassId} (K : zCtx p l s m meth c b L xs G cs) (ad : Nat → Nat) (qo qd : Nat) {Q : State → Prop} {C D t : Nat} {σ : zS} {o : Nat → Int64} {d : Nat → UInt64} {H : Heap} {locs : List Loc} {ls : Array Slot} {x5 : Int32} (hi : 6 * t + 6 ≤ L) (hL : L ≤ 3072) (hR : zR t σ) (hC : C + 6 ≤ 3165) (hC2 : D + 36 ≤ 120764)
    (hP : va_P G vwCl (zw cs ad σ (zt cs qo o qd d)) H) (hD : va_D (fun q => s.heap.size ≤ q) (zw cs ad σ (zt cs qo o qd d))) (hS : va_S (fun q => s.heap.size ≤ q) s.heap H locs) (ex : x5 = nI (6 * t)) (hl : lv_has ls 9 [(0, .ref b), (1, .ref (ad 0)), (2, .ref (ad 29)), (3, .ref qo), (4, .ref qd), (5, .int x5)])
    (hk : ∀ (H : Heap) (locs : List Loc) (σ : zS) (o : Nat → Int64) (d : Nat → UInt64) (ls : Array Slot), zR (t + 1) σ → va_P G vwCl (zw cs ad σ (zt cs qo o qd d)) H → va_D (fun q => s.heap.size ≤ q) (zw cs ad σ (zt cs qo o qd d)) → va_S (fun q => s.heap.size ≤ q) s.heap H locs → lv_has ls 9 [(0, .ref b), (1, .ref (ad 0)), (2, .ref (ad 29)), (3, .ref qo), (4, .ref qd), (5, .int x5)] → W p l e room_1 s m #[Value.ref b] below meth c H locs (C + 6) (D + 36) Q (F0 m 2254 ls [])) :
    W p l e room_1 s m #[Value.ref b] below meth c H locs C D Q (F0 m 631 ls []) := by
  obtain ⟨hx, hb, hr, hml, hown, hts, htc, hX, hbl, hfl, hE⟩ := K
  have hts2 : ∀ w ∈ wsLaw2, w.before #[Value.ref b] s = true := fun w h => (List.mem_append.mp h).elim (htc w) (hts w)
  have hA : ∀ q : Nat, s.heap.size ≤ q → (fun q : Nat => s.heap.size ≤ q) q := fun _ h => h
  have hbA : ¬ (fun q : Nat => s.heap.size ≤ q) b := Nat.not_le.mpr hbl
  obtain ⟨hI, hs2, hs3, hs4⟩ := sim_top hR (by omega) 
  refine lv_aload_n hx hb dL_law_631 rfl (lv_at hl 1 rfl) ?_
  refine lv_aload_n hx hb dL_law_632 rfl (lv_at hl 3 rfl) ?_
  refine zai (vx_runSW (As := [.ref (ad 0), .ref qo]) (rest := []) ⟨hx, hb, hml, hown, hts⟩ (c_L_top l hfl G cs ad qo o qd d σ   H.size) (vx_cwSW 2 hts2 (z_gl rfl (up2 gL_law_L_top) zclG) rfl rfl rfl (by decide +kernel) ⟨Nat.le_of_ble_eq_true rfl, Nat.le_of_ble_eq_true rfl⟩) (zps hE hP hD hS hA) rfl rfl hl.1 rfl (lv_room (Nat.le_of_ble_eq_true rfl)) dL_law_633 ⟨show C + 1 ≤ 3165 by omega, show D + 6 ≤ 120764 by omega⟩) hD hS hA (fun H locs hP hD hS => ?_)
  refine lv_istore (lv' := [(6, .int (f_L_top (f_X5_top σ ).1)), (0, .ref b), (1, .ref (ad 0)), (2, .ref (ad 29)), (3, .ref qo), (4, .ref qd), (5, .int x5)]) hx hb dL_law_636 hl (by decide) rfl (fun ls hl => ?_)
  refine lv_aload_n hx hb dL_law_638 rfl (lv_at hl 3 rfl) ?_
  refine zai (va_runV (As := []) (rest := []) ⟨hx, hb, hml, hown, hts⟩ (c_X6_top l G cs ad (zt cs qo (zo (f_X5_top σ ).1 (f_X5_top σ ).2.1.toInt64 o) qd d) (f_X5_top σ ).2.2   H.size) (cwV 0 hts gL_law_X6_top rfl rfl rfl (by decide +kernel) ⟨Nat.le_of_ble_eq_true rfl, Nat.le_of_ble_eq_true rfl⟩) (zpv hE hP hD hS hA (zg_29 cs ad (f_X5_top σ ).2.2 (zt cs qo (zo (f_X5_top σ ).1 (f_X5_top σ ).2.1.toInt64 o) qd d)) rfl) rfl rfl hl.1 rfl (lv_room (Nat.le_of_ble_eq_true rfl)) dL_law_639 ⟨show C + 1 + 0 ≤ 3165 by omega, show D + 6 + 0 ≤ 120764 by omega⟩) hD hS hA (fun H locs hP hD hS => ?_)
  refine lv_istore (lv' := [(7, .int (f_X6_top (f_X5_top σ ).2.2 ).1), (6, .int (f_L_top (f_X5_top σ ).1)), (0, .ref b), (1, .ref (ad 0)), (2, .ref (ad 29)), (3, .ref qo), (4, .ref qd), (5, .int x5)]) hx hb dL_law_642 hl (by decide) rfl (fun ls hl => ?_)
  refine lv_aload_n hx hb dL_law_644 rfl (lv_at hl 4 rfl) ?_
  refine zai (va_runV (As := []) (rest := []) ⟨hx, hb, hml, hown, hts⟩ (c_X6_thrown l G cs ad (zt cs qo (zo (f_X5_top σ ).1 (f_X5_top σ ).2.1.toInt64 o) qd d) (f_X6_top (f_X5_top σ ).2.2 ).2 H.size) (cwV 0 hts gL_law_X6_thrown rfl rfl rfl (by decide +kernel) ⟨Nat.le_of_ble_eq_true rfl, Nat.le_of_ble_eq_true rfl⟩) (zpv hE hP hD hS hA (zg_29 cs ad (f_X6_top (f_X5_top σ ).2.2 ).2 (zt cs qo (zo (f_X5_top σ ).1 (f_X5_top σ ).2.1.toInt64 o) qd d)) rfl) rfl rfl hl.1 rfl (lv_room (Nat.le_of_ble_eq_true rfl)) dL_law_645 ⟨show C + 1 + 0 + 0 ≤ 3165 by omega, show D + 6 + 0 + 0 ≤ 120764 by omega⟩) hD hS hA (fun H locs hP hD hS => ?_)
  refine lv_iload hx hb dL_law_648 (lv_at hl 1 rfl) ?_
  refine lv_icmp_eq (tgt := 655) hx hb dL_law_650 (by decide) (fun _ => ?_) (fun h9 => absurd hs2 h9)
  refine lv_iload hx hb dL_law_655 (lv_at hl 1 rfl) ?_
  refine lv_if_ne (tgt := 672) hx hb dL_law_657 (by decide) (fun h8 => ?_) (fun h8 => ?_)
  · skip
    refine lv_goto (tgt := 2254) hx hb dL_law_672 (by decide) ?_
    refine W.widen (k := C + 6) (n := D + 36) (by omega) (by omega) ?_
    exact hk H locs _ _ _ ls hs4 hP hD hS (lv_sub hl [2, 3, 4, 5, 6, 7] rfl)
  · obtain ⟨h7, h6⟩ := hs3 h8
    refine lv_aload_n hx hb dL_law_660 rfl (lv_at hl 5 rfl) ?_
    refine lv_iconst (v := 0) hx hb dL_law_661 (by decide) ?_
    have e0 : zo (f_X5_top σ ).1 (f_X5_top σ ).2.1.toInt64 o (0 : Int32).toNatClampNeg = (f_X5_top σ ).2.1.toInt64 := by unfold zo; rw [if_pos h7]; exact if_pos rfl
    refine va_lald hx hb hE.1 hP 51 3 rfl rfl z_in01 dL_law_662 ?_
    rw [e0]
    refine lv_iload hx hb dL_law_663 (lv_at hl 0 rfl) ?_
    refine lv_i2l (v := (f_X6_top (f_X5_top σ ).2.2 ).1.toInt64) hx hb dL_law_665 rfl ?_
    refine W.lcmp hx hb dL_law_666 ?_
    refine lv_if_eq (tgt := 672) hx hb dL_law_667 (by decide) (fun _ => ?_) (fun h9 => absurd (by rw [h6]; exact lg_cmp_self _) h9)
    refine lv_goto (tgt := 2254) hx hb dL_law_672 (by decide) ?_
    refine W.widen (k := C + 6) (n := D + 36) (by omega) (by omega) ?_
    exact hk H locs _ _ _ ls hs4 hP hD hS (lv_sub hl [2, 3, 4, 5, 6, 7] rfl)
set_option maxRecDepth 100000 in
theorem lc_7 {p : Program} {l : Launch} {e : Env} {s : State} {m : MethodId} {below : List Frame} {meth : Method} {c : Code} {b L : Nat} {xs : Nat → Int32} {G : va_G} {cs : Nat → ClassId} (K : zCtx p l s m meth c b L xs G cs) (ad : Nat → Nat) (qo qd : Nat) {Q : State → Prop} {C D t : Nat} {σ : zS} {o : Nat → Int64} {d : Nat → UInt64} {H : Heap} {locs : List Loc} {ls : Array Slot} {x5 : Int32} (hi : 6 * t + 6 ≤ L) (hL : L ≤ 3072) (hR : zR t σ) (hC : C + 6 ≤ 3165) (hC2 : D + 36 ≤ 120764)
    (hP : va_P G vwCl (zw cs ad σ (zt cs qo o qd d)) H) (hD : va_D (fun q => s.heap.size ≤ q) (zw cs ad σ (zt cs qo o qd d))) (hS : va_S (fun q => s.heap.size ≤ q) s.heap H locs) (ex : x5 = nI (6 * t)) (hl : lv_has ls 9 [(0, .ref b), (1, .ref (ad 0)), (2, .ref (ad 29)), (3, .ref qo), (4, .ref qd), (5, .int x5)])
    (hk : ∀ (H : Heap) (locs : List Loc) (σ : zS) (o : Nat → Int64) (d : Nat → UInt64) (ls : Array Slot), zR (t + 1) σ → va_P G vwCl (zw cs ad σ (zt cs qo o qd d)) H → va_D (fun q => s.heap.size ≤ q) (zw cs ad σ (zt cs qo o qd d)) → va_S (fun q => s.heap.size ≤ q) s.heap H locs → lv_has ls 9 [(0, .ref b), (1, .ref (ad 0)), (2, .ref (ad 29)), (3, .ref qo), (4, .ref qd), (5, .int x5)] → W p l e room_1 s m #[Value.ref b] below meth c H locs (C + 6) (D + 36) Q (F0 m 2254 ls [])) :
    W p l e room_1 s m #[Value.ref b] below meth c H locs C D Q (F0 m 675 ls []) := by
  obtain ⟨hx, hb, hr, hml, hown, hts, htc, hX, hbl, hfl, hE⟩ := K
  have hts2 : ∀ w ∈ wsLaw2, w.before #[Value.ref b] s = true := fun w h => (List.mem_append.mp h).elim (htc w) (hts w)
  have hA : ∀ q : Nat, s.heap.size ≤ q → (fun q : Nat => s.heap.size ≤ q) q := fun _ h => h
  have hbA : ¬ (fun q : Nat => s.heap.size ≤ q) b := Nat.not_le.mpr hbl
  obtain ⟨hI, hs2, hs3, hs4⟩ := sim_addProcedure hR (by omega) 
  refine lv_aload_n hx hb dL_law_675 rfl (lv_at hl 1 rfl) ?_
  refine lv_aload_n hx hb dL_law_676 rfl (lv_at hl 3 rfl) ?_
  refine zai (vx_runSW (As := [.ref (ad 0), .ref qo]) (rest := []) ⟨hx, hb, hml, hown, hts⟩ (c_L_addProcedure l hfl G cs ad qo o qd d σ   H.size) (vx_cwSW 2 hts2 (z_gl rfl (up2 gL_law_L_addProcedure) zclG) rfl rfl rfl (by decide +kernel) ⟨Nat.le_of_ble_eq_true rfl, Nat.le_of_ble_eq_true rfl⟩) (zps hE hP hD hS hA) rfl rfl hl.1 rfl (lv_room (Nat.le_of_ble_eq_true rfl)) dL_law_677 ⟨show C + 1 ≤ 3165 by omega, show D + 6 ≤ 120764 by omega⟩) hD hS hA (fun H locs hP hD hS => ?_)
  refine lv_istore (lv' := [(6, .int (f_L_addProcedure (f_X5_addProcedure σ ).1)), (0, .ref b), (1, .ref (ad 0)), (2, .ref (ad 29)), (3, .ref qo), (4, .ref qd), (5, .int x5)]) hx hb dL_law_680 hl (by decide) rfl (fun ls hl => ?_)
  refine lv_aload_n hx hb dL_law_682 rfl (lv_at hl 3 rfl) ?_
  refine zai (va_runV (As := []) (rest := []) ⟨hx, hb, hml, hown, hts⟩ (c_X6_addProcedure l G cs ad (zt cs qo (zo (f_X5_addProcedure σ ).1 (f_X5_addProcedure σ ).2.1.toInt64 o) qd d) (f_X5_addProcedure σ ).2.2   H.size) (cwV 0 hts gL_law_X6_addProcedure rfl rfl rfl (by decide +kernel) ⟨Nat.le_of_ble_eq_true rfl, Nat.le_of_ble_eq_true rfl⟩) (zpv hE hP hD hS hA (zg_29 cs ad (f_X5_addProcedure σ ).2.2 (zt cs qo (zo (f_X5_addProcedure σ ).1 (f_X5_addProcedure σ ).2.1.toInt64 o) qd d)) rfl) rfl rfl hl.1 rfl (lv_room (Nat.le_of_ble_eq_true rfl)) dL_law_683 ⟨show C + 1 + 0 ≤ 3165 by omega, show D + 6 + 0 ≤ 120764 by omega⟩) hD hS hA (fun H locs hP hD hS => ?_)
  refine lv_istore (lv' := [(7, .int (f_X6_addProcedure (f_X5_addProcedure σ ).2.2 ).1), (6, .int (f_L_addProcedure (f_X5_addProcedure σ ).1)), (0, .ref b), (1, .ref (ad 0)), (2, .ref (ad 29)), (3, .ref qo), (4, .ref qd), (5, .int x5)]) hx hb dL_law_686 hl (by decide) rfl (fun ls hl => ?_)
  refine lv_aload_n hx hb dL_law_688 rfl (lv_at hl 4 rfl) ?_
  refine zai (va_runV (As := []) (rest := []) ⟨hx, hb, hml, hown, hts⟩ (c_X6_thrown l G cs ad (zt cs qo (zo (f_X5_addProcedure σ ).1 (f_X5_addProcedure σ ).2.1.toInt64 o) qd d) (f_X6_addProcedure (f_X5_addProcedure σ ).2.2 ).2 H.size) (cwV 0 hts gL_law_X6_thrown rfl rfl rfl (by decide +kernel) ⟨Nat.le_of_ble_eq_true rfl, Nat.le_of_ble_eq_true rfl⟩) (zpv hE hP hD hS hA (zg_29 cs ad (f_X6_addProcedure (f_X5_addProcedure σ ).2.2 ).2 (zt cs qo (zo (f_X5_addProcedure σ ).1 (f_X5_addProcedure σ ).2.1.toInt64 o) qd d)) rfl) rfl rfl hl.1 rfl (lv_room (Nat.le_of_ble_eq_true rfl)) dL_law_689 ⟨show C + 1 + 0 + 0 ≤ 3165 by omega, show D + 6 + 0 + 0 ≤ 120764 by omega⟩) hD hS hA (fun H locs hP hD hS => ?_)
  refine lv_iload hx hb dL_law_692 (lv_at hl 1 rfl) ?_
  refine lv_icmp_eq (tgt := 699) hx hb dL_law_694 (by decide) (fun _ => ?_) (fun h9 => absurd hs2 h9)
  refine lv_iload hx hb dL_law_699 (lv_at hl 1 rfl) ?_
  refine lv_if_ne (tgt := 716) hx hb dL_law_701 (by decide) (fun h8 => ?_) (fun h8 => ?_)
  · skip
    refine lv_goto (tgt := 2254) hx hb dL_law_716 (by decide) ?_
    refine W.widen (k := C + 6) (n := D + 36) (by omega) (by omega) ?_
    exact hk H locs _ _ _ ls hs4 hP hD hS (lv_sub hl [2, 3, 4, 5, 6, 7] rfl)
  · obtain ⟨h7, h6⟩ := hs3 h8
    refine lv_aload_n hx hb dL_law_704 rfl (lv_at hl 5 rfl) ?_
    refine lv_iconst (v := 0) hx hb dL_law_705 (by decide) ?_
    have e0 : zo (f_X5_addProcedure σ ).1 (f_X5_addProcedure σ ).2.1.toInt64 o (0 : Int32).toNatClampNeg = (f_X5_addProcedure σ ).2.1.toInt64 := by unfold zo; rw [if_pos h7]; exact if_pos rfl
    refine va_lald hx hb hE.1 hP 51 3 rfl rfl z_in01 dL_law_706 ?_
    rw [e0]
    refine lv_iload hx hb dL_law_707 (lv_at hl 0 rfl) ?_
    refine lv_i2l (v := (f_X6_addProcedure (f_X5_addProcedure σ ).2.2 ).1.toInt64) hx hb dL_law_709 rfl ?_
    refine W.lcmp hx hb dL_law_710 ?_
    refine lv_if_eq (tgt := 716) hx hb dL_law_711 (by decide) (fun _ => ?_) (fun h9 => absurd (by rw [h6]; exact lg_cmp_self _) h9)
    refine lv_goto (tgt := 2254) hx hb dL_law_716 (by decide) ?_
    refine W.widen (k := C + 6) (n := D + 36) (by omega) (by omega) ?_
    exact hk H locs _ _ _ ls hs4 hP hD hS (lv_sub hl [2, 3, 4, 5, 6, 7] rfl)
set_option maxRecDepth 100000 in
theorem lc_8 {p : Program} {l : Launch} {e : Env} {s : State} {m : MethodId} {below : List Frame} {meth : Method} {c : Code} {b L : Nat} {xs : Nat → Int32} {G : va_G} {cs : Nat → ClassId} (K : zCtx p l s m meth c b L xs G cs) (ad : Nat → Nat) (qo qd : Nat) {Q : State → Prop} {C D t : Nat} {σ : zS} {o : Nat → Int64} {d : Nat → UInt64} {H : Heap} {locs : List Loc} {ls : Array Slot} {x5 : Int32} (hi : 6 * t + 6 ≤ L) (hL : L ≤ 3072) (hR : zR t σ) (hC : C + 6 ≤ 3165) (hC2 : D + 36 ≤ 120764)
    (hP : va_P G vwCl (zw cs ad σ (zt cs qo o qd d)) H) (hD : va_D (fun q => s.heap.size ≤ q) (zw cs ad σ (zt cs qo o qd d))) (hS : va_S (fun q => s.heap.size ≤ q) s.heap H locs) (ex : x5 = nI (6 * t)) (hl : lv_has ls 9 [(0, .ref b), (1, .ref (ad 0)), (2, .ref (ad 29)), (3, .ref qo), (4, .ref qd), (5, .int x5)])
    (hk : ∀ (H : Heap) (locs : List Loc) (σ : zS) (o : Nat → Int64) (d : Nat → UInt64) (ls : Array Slot), zR (t + 1) σ → va_P G vwCl (zw cs ad σ (zt cs qo o qd d)) H → va_D (fun q => s.heap.size ≤ q) (zw cs ad σ (zt cs qo o qd d)) → va_S (fun q => s.heap.size ≤ q) s.heap H locs → lv_has ls 9 [(0, .ref b), (1, .ref (ad 0)), (2, .ref (ad 29)), (3, .ref qo), (4, .ref qd), (5, .int x5)] → W p l e room_1 s m #[Value.ref b] below meth c H locs (C + 6) (D + 36) Q (F0 m 2254 ls [])) :
    W p l e room_1 s m #[Value.ref b] below meth c H locs C D Q (F0 m 719 ls []) := by
  obtain ⟨hx, hb, hr, hml, hown, hts, htc, hX, hbl, hfl, hE⟩ := K
  have hts2 : ∀ w ∈ wsLaw2, w.before #[Value.ref b] s = true := fun w h => (List.mem_append.mp h).elim (htc w) (hts w)
  have hA : ∀ q : Nat, s.heap.size ≤ q → (fun q : Nat => s.heap.size ≤ q) q := fun _ h => h
  have hbA : ¬ (fun q : Nat => s.heap.size ≤ q) b := Nat.not_le.mpr hbl
  have hin1 : vp_in (x5 + 1) L := by rw [ex, show (1 : Int32) = nI 1 from rfl, nI_add]; exact vp_in_nI (by omega) (by omega)
  have hin2 : vp_in (x5 + 2) L := by rw [ex, show (2 : Int32) = nI 2 from rfl, nI_add]; exact vp_in_nI (by omega) (by omega)
  have hin3 : vp_in (x5 + 3) L := by rw [ex, show (3 : Int32) = nI 3 from rfl, nI_add]; exact vp_in_nI (by omega) (by omega)
  have hin4 : vp_in (x5 + 4) L := by rw [ex, show (4 : Int32) = nI 4 from rfl, nI_add]; exact vp_in_nI (by omega) (by omega)
  have hin5 : vp_in (x5 + 5) L := by rw [ex, show (5 : Int32) = nI 5 from rfl, nI_add]; exact vp_in_nI (by omega) (by omega)
  obtain ⟨hI, hs2, hs3, hs4⟩ := sim_addStep hR (by omega) (xs (x5 + 1).toNatClampNeg) (xs (x5 + 2).toNatClampNeg) (xs (x5 + 3).toNatClampNeg) (xs (x5 + 4).toNatClampNeg) (xs (x5 + 5).toNatClampNeg)
  refine lv_aload_n hx hb dL_law_719 rfl (lv_at hl 1 rfl) ?_
  refine lv_aload_n hx hb dL_law_720 rfl (lv_at hl 0 rfl) ?_
  refine lv_iload hx hb dL_law_721 (lv_at hl 5 rfl) ?_
  refine lv_iconst (v := 1) hx hb dL_law_723 (by decide) ?_
  refine lv_iadd hx hb dL_law_724 ?_
  refine va_sld hx hb hX hbl hbA hS hin1 dL_law_725 ?_
  refine lv_aload_n hx hb dL_law_726 rfl (lv_at hl 0 rfl) ?_
  refine lv_iload hx hb dL_law_727 (lv_at hl 5 rfl) ?_
  refine lv_iconst (v := 2) hx hb dL_law_729 (by decide) ?_
  refine lv_iadd hx hb dL_law_730 ?_
  refine va_sld hx hb hX hbl hbA hS hin2 dL_law_731 ?_
  refine lv_aload_n hx hb dL_law_732 rfl (lv_at hl 0 rfl) ?_
  refine lv_iload hx hb dL_law_733 (lv_at hl 5 rfl) ?_
  refine lv_iconst (v := 3) hx hb dL_law_735 (by decide) ?_
  refine lv_iadd hx hb dL_law_736 ?_
  refine va_sld hx hb hX hbl hbA hS hin3 dL_law_737 ?_
  refine lv_aload_n hx hb dL_law_738 rfl (lv_at hl 0 rfl) ?_
  refine lv_iload hx hb dL_law_739 (lv_at hl 5 rfl) ?_
  refine lv_iconst (v := 4) hx hb dL_law_741 (by decide) ?_
  refine lv_iadd hx hb dL_law_742 ?_
  refine va_sld hx hb hX hbl hbA hS hin4 dL_law_743 ?_
  refine lv_aload_n hx hb dL_law_744 rfl (lv_at hl 0 rfl) ?_
  refine lv_iload hx hb dL_law_745 (lv_at hl 5 rfl) ?_
  refine lv_iconst (v := 5) hx hb dL_law_747 (by decide) ?_
  refine lv_iadd hx hb dL_law_748 ?_
  refine va_sld hx hb hX hbl hbA hS hin5 dL_law_749 ?_
  refine lv_aload_n hx hb dL_law_750 rfl (lv_at hl 3 rfl) ?_
  refine zai (vx_runSW (As := [.ref (ad 0), .int (xs (x5 + 1).toNatClampNeg), .int (xs (x5 + 2).toNatClampNeg), .int (xs (x5 + 3).toNatClampNeg), .int (xs (x5 + 4).toNatClampNeg), .int (xs (x5 + 5).toNatClampNeg), .ref qo]) (rest := []) ⟨hx, hb, hml, hown, hts⟩ (c_L_addStep l hfl G cs ad qo o qd d σ (xs (x5 + 1).toNatClampNeg) (xs (x5 + 2).toNatClampNeg) (xs (x5 + 3).toNatClampNeg) (xs (x5 + 4).toNatClampNeg) (xs (x5 + 5).toNatClampNeg)  H.size) (vx_cwSW 7 hts2 (z_gl rfl (up2 gL_law_L_addStep) zclG) rfl rfl rfl (by decide +kernel) ⟨Nat.le_of_ble_eq_true rfl, Nat.le_of_ble_eq_true rfl⟩) (zps hE hP hD hS hA) rfl rfl hl.1 rfl (lv_room (Nat.le_of_ble_eq_true rfl)) dL_law_751 ⟨show C + 6 ≤ 3165 by omega, show D + 36 ≤ 120764 by omega⟩) hD hS hA (fun H locs hP hD hS => ?_)
  refine lv_istore (lv' := [(6, .int (f_L_addStep (f_X5_addStep σ (xs (x5 + 1).toNatClampNeg) (xs (x5 + 2).toNatClampNeg) (xs (x5 + 3).toNatClampNeg) (xs (x5 + 4).toNatClampNeg) (xs (x5 + 5).toNatClampNeg)).1)), (0, .ref b), (1, .ref (ad 0)), (2, .ref (ad 29)), (3, .ref qo), (4, .ref qd), (5, .int x5)]) hx hb dL_law_754 hl (by decide) rfl (fun ls hl => ?_)
  refine lv_aload_n hx hb dL_law_756 rfl (lv_at hl 3 rfl) ?_
  refine lv_aload_n hx hb dL_law_757 rfl (lv_at hl 1 rfl) ?_
  refine lv_iload hx hb dL_law_758 (lv_at hl 6 rfl) ?_
  refine lv_iconst (v := 1) hx hb dL_law_760 (by decide) ?_
  refine lv_iadd hx hb dL_law_761 ?_
  refine va_sld hx hb hX hbl hbA hS hin1 dL_law_762 ?_
  refine lv_aload_n hx hb dL_law_763 rfl (lv_at hl 1 rfl) ?_
  refine lv_iload hx hb dL_law_764 (lv_at hl 6 rfl) ?_
  refine lv_iconst (v := 2) hx hb dL_law_766 (by decide) ?_
  refine lv_iadd hx hb dL_law_767 ?_
  refine va_sld hx hb hX hbl hbA hS hin2 dL_law_768 ?_
  refine lv_aload_n hx hb dL_law_769 rfl (lv_at hl 1 rfl) ?_
  refine lv_iload hx hb dL_law_770 (lv_at hl 6 rfl) ?_
  refine lv_iconst (v := 3) hx hb dL_law_772 (by decide) ?_
  refine lv_iadd hx hb dL_law_773 ?_
  refine va_sld hx hb hX hbl hbA hS hin3 dL_law_774 ?_
  refine lv_aload_n hx hb dL_law_775 rfl (lv_at hl 1 rfl) ?_
  refine lv_iload hx hb dL_law_776 (lv_at hl 6 rfl) ?_
  refine lv_iconst (v := 4) hx hb dL_law_778 (by decide) ?_
  refine lv_iadd hx hb dL_law_779 ?_
  refine va_sld hx hb hX hbl hbA hS hin4 dL_law_780 ?_
  refine lv_aload_n hx hb dL_law_781 rfl (lv_at hl 1 rfl) ?_
  refine lv_iload hx hb dL_law_782 (lv_at hl 6 rfl) ?_
  refine lv_iconst (v := 5) hx hb dL_law_784 (by decide) ?_
  refine lv_iadd hx hb dL_law_785 ?_
  refine va_sld hx hb hX hbl hbA hS hin5 dL_law_786 ?_
  refine zai (va_runV (As := [.int (xs (x5 + 1).toNatClampNeg), .int (xs (x5 + 2).toNatClampNeg), .int (xs (x5 + 3).toNatClampNeg), .int (xs (x5 + 4).toNatClampNeg), .int (xs (x5 + 5).toNatClampNeg)]) (rest := []) ⟨hx, hb, hml, hown, hts⟩ (c_X6_addStep l G cs ad (zt cs qo (zo (f_X5_addStep σ (xs (x5 + 1).toNatClampNeg) (xs (x5 + 2).toNatClampNeg) (xs (x5 + 3).toNatClampNeg) (xs (x5 + 4).toNatClampNeg) (xs (x5 + 5).toNatClampNeg)).1 (f_X5_addStep σ (xs (x5 + 1).toNatClampNeg) (xs (x5 + 2).toNatClampNeg) (xs (x5 + 3).toNatClampNeg) (xs (x5 + 4).toNatClampNeg) (xs (x5 + 5).toNatClampNeg)).2.1.toInt64 o) qd d) (f_X5_addStep σ (xs (x5 + 1).toNatClampNeg) (xs (x5 + 2).toNatClampNeg) (xs (x5 + 3).toNatClampNeg) (xs (x5 + 4).toNatClampNeg) (xs (x5 + 5).toNatClampNeg)).2.2 (xs (x5 + 1).toNatClampNeg) (xs (x5 + 2).toNatClampNeg) (xs (x5 + 3).toNatClampNeg) (xs (x5 + 4).toNatClampNeg) (xs (x5 + 5).toNatClampNeg) hI H.size) (cwV 5 hts gL_law_X6_addStep rfl rfl rfl (by decide +kernel) ⟨Nat.le_of_ble_eq_true rfl, Nat.le_of_ble_eq_true rfl⟩) (zpv hE hP hD hS hA (zg_29 cs ad (f_X5_addStep σ (xs (x5 + 1).toNatClampNeg) (xs (x5 + 2).toNatClampNeg) (xs (x5 + 3).toNatClampNeg) (xs (x5 + 4).toNatClampNeg) (xs (x5 + 5).toNatClampNeg)).2.2 (zt cs qo (zo (f_X5_addStep σ (xs (x5 + 1).toNatClampNeg) (xs (x5 + 2).toNatClampNeg) (xs (x5 + 3).toNatClampNeg) (xs (x5 + 4).toNatClampNeg) (xs (x5 + 5).toNatClampNeg)).1 (f_X5_addStep σ (xs (x5 + 1).toNatClampNeg) (xs (x5 + 2).toNatClampNeg) (xs (x5 + 3).toNatClampNeg) (xs (x5 + 4).toNatClampNeg) (xs (x5 + 5).toNatClampNeg)).2.1.toInt64 o) qd d)) rfl) rfl rfl hl.1 rfl (lv_room (Nat.le_of_ble_eq_true rfl)) dL_law_787 ⟨show C + 6 + 0 ≤ 3165 by omega, show D + 36 + 0 ≤ 120764 by omega⟩) hD hS hA (fun H locs hP hD hS => ?_)
  refine lv_istore (lv' := [(7, .int (f_X6_addStep (f_X5_addStep σ (xs (x5 + 1).toNatClampNeg) (xs (x5 + 2).toNatClampNeg) (xs (x5 + 3).toNatClampNeg) (xs (x5 + 4).toNatClampNeg) (xs (x5 + 5).toNatClampNeg)).2.2 (xs (x5 + 1).toNatClampNeg) (xs (x5 + 2).toNatClampNeg) (xs (x5 + 3).toNatClampNeg) (xs (x5 + 4).toNatClampNeg) (xs (x5 + 5).toNatClampNeg)).1), (6, .int (f_L_addStep (f_X5_addStep σ (xs (x5 + 1).toNatClampNeg) (xs (x5 + 2).toNatClampNeg) (xs (x5 + 3).toNatClampNeg) (xs (x5 + 4).toNatClampNeg) (xs (x5 + 5).toNatClampNeg)).1)), (0, .ref b), (1, .ref (ad 0)), (2, .ref (ad 29)), (3, .ref qo), (4, .ref qd), (5, .int x5)]) hx hb dL_law_790 hl (by decide) rfl (fun ls hl => ?_)
  refine lv_aload_n hx hb dL_law_792 rfl (lv_at hl 4 rfl) ?_
  refine zai (va_runV (As := []) (rest := []) ⟨hx, hb, hml, hown, hts⟩ (c_X6_thrown l G cs ad (zt cs qo (zo (f_X5_addStep σ (xs (x5 + 1).toNatClampNeg) (xs (x5 + 2).toNatClampNeg) (xs (x5 + 3).toNatClampNeg) (xs (x5 + 4).toNatClampNeg) (xs (x5 + 5).toNatClampNeg)).1 (f_X5_addStep σ (xs (x5 + 1).toNatClampNeg) (xs (x5 + 2).toNatClampNeg) (xs (x5 + 3).toNatClampNeg) (xs (x5 + 4).toNatClampNeg) (xs (x5 + 5).toNatClampNeg)).2.1.toInt64 o) qd d) (f_X6_addStep (f_X5_addStep σ (xs (x5 + 1).toNatClampNeg) (xs (x5 + 2).toNatClampNeg) (xs (x5 + 3).toNatClampNeg) (xs (x5 + 4).toNatClampNeg) (xs (x5 + 5).toNatClampNeg)).2.2 (xs (x5 + 1).toNatClampNeg) (xs (x5 + 2).toNatClampNeg) (xs (x5 + 3).toNatClampNeg) (xs (x5 + 4).toNatClampNeg) (xs (x5 + 5).toNatClampNeg)).2 H.size) (cwV 0 hts gL_law_X6_thrown rfl rfl rfl (by decide +kernel) ⟨Nat.le_of_ble_eq_true rfl, Nat.le_of_ble_eq_true rfl⟩) (zpv hE hP hD hS hA (zg_29 cs ad (f_X6_addStep (f_X5_addStep σ (xs (x5 + 1).toNatClampNeg) (xs (x5 + 2).toNatClampNeg) (xs (x5 + 3).toNatClampNeg) (xs (x5 + 4).toNatClampNeg) (xs (x5 + 5).toNatClampNeg)).2.2 (xs (x5 + 1).toNatClampNeg) (xs (x5 + 2).toNatClampNeg) (xs (x5 + 3).toNatClampNeg) (xs (x5 + 4).toNatClampNeg) (xs (x5 + 5).toNatClampNeg)).2 (zt cs qo (zo (f_X5_addStep σ (xs (x5 + 1).toNatClampNeg) (xs (x5 + 2).toNatClampNeg) (xs (x5 + 3).toNatClampNeg) (xs (x5 + 4).toNatClampNeg) (xs (x5 + 5).toNatClampNeg)).1 (f_X5_addStep σ (xs (x5 + 1).toNatClampNeg) (xs (x5 + 2).toNatClampNeg) (xs (x5 + 3).toNatClampNeg) (xs (x5 + 4).toNatClampNeg) (xs (x5 + 5).toNatClampNeg)).2.1.toInt64 o) qd d)) rfl) rfl rfl hl.1 rfl (lv_room (Nat.le_of_ble_eq_true rfl)) dL_law_793 ⟨show C + 6 + 0 + 0 ≤ 3165 by omega, show D + 36 + 0 + 0 ≤ 120764 by omega⟩) hD hS hA (fun H locs hP hD hS => ?_)
  refine lv_iload hx hb dL_law_796 (lv_at hl 1 rfl) ?_
  refine lv_icmp_eq (tgt := 803) hx hb dL_law_798 (by decide) (fun _ => ?_) (fun h9 => absurd hs2 h9)
  refine lv_iload hx hb dL_law_803 (lv_at hl 1 rfl) ?_
  refine lv_if_ne (tgt := 820) hx hb dL_law_805 (by decide) (fun h8 => ?_) (fun h8 => ?_)
  · skip
    refine lv_goto (tgt := 2254) hx hb dL_law_820 (by decide) ?_
    refine W.widen (k := C + 6) (n := D + 36) (by omega) (by omega) ?_
    exact hk H locs _ _ _ ls hs4 hP hD hS (lv_sub hl [2, 3, 4, 5, 6, 7] rfl)
  · obtain ⟨h7, h6⟩ := hs3 h8
    refine lv_aload_n hx hb dL_law_808 rfl (lv_at hl 5 rfl) ?_
    refine lv_iconst (v := 0) hx hb dL_law_809 (by decide) ?_
    have e0 : zo (f_X5_addStep σ (xs (x5 + 1).toNatClampNeg) (xs (x5 + 2).toNatClampNeg) (xs (x5 + 3).toNatClampNeg) (xs (x5 + 4).toNatClampNeg) (xs (x5 + 5).toNatClampNeg)).1 (f_X5_addStep σ (xs (x5 + 1).toNatClampNeg) (xs (x5 + 2).toNatClampNeg) (xs (x5 + 3).toNatClampNeg) (xs (x5 + 4).toNatClampNeg) (xs (x5 + 5).toNatClampNeg)).2.1.toInt64 o (0 : Int32).toNatClampNeg = (f_X5_addStep σ (xs (x5 + 1).toNatClampNeg) (xs (x5 + 2).toNatClampNeg) (xs (x5 + 3).toNatClampNeg) (xs (x5 + 4).toNatClampNeg) (xs (x5 + 5).toNatClampNeg)).2.1.toInt64 := by unfold zo; rw [if_pos h7]; exact if_pos rfl
    refine va_lald hx hb hE.1 hP 51 3 rfl rfl z_in01 dL_law_810 ?_
    rw [e0]
    refine lv_iload hx hb dL_law_811 (lv_at hl 0 rfl) ?_
    refine lv_i2l (v := (f_X6_addStep (f_X5_addStep σ (xs (x5 + 1).toNatClampNeg) (xs (x5 + 2).toNatClampNeg) (xs (x5 + 3).toNatClampNeg) (xs (x5 + 4).toNatClampNeg) (xs (x5 + 5).toNatClampNeg)).2.2 (xs (x5 + 1).toNatClampNeg) (xs (x5 + 2).toNatClampNeg) (xs (x5 + 3).toNatClampNeg) (xs (x5 + 4).toNatClampNeg) (xs (x5 + 5).toNatClampNeg)).1.toInt64) hx hb dL_law_813 rfl ?_
    refine W.lcmp hx hb dL_law_814 ?_
    refine lv_if_eq (tgt := 820) hx hb dL_law_815 (by decide) (fun _ => ?_) (fun h9 => absurd (by rw [h6]; exact lg_cmp_self _) h9)
    refine lv_goto (tgt := 2254) hx hb dL_law_820 (by decide) ?_
    refine W.widen (k := C + 6) (n := D + 36) (by omega) (by omega) ?_
    exact hk H locs _ _ _ ls hs4 hP hD hS (lv_sub hl [2, 3, 4, 5, 6, 7] rfl)
set_option maxRecDepth 100000 in
theorem lc_9 {p : Program} {l : Launch} {e : Env} {s : State} {m : MethodId} {below : List Frame} {meth : Method} {c : Code} {b L : Nat} {xs : Nat → Int32} {G : va_G} {cs : Nat → ClassId} (K : zCtx p l s m meth c b L xs G cs) (ad : Nat → Nat) (qo qd : Nat) {Q : State → Prop} {C D t : Nat} {σ : zS} {o : Nat → Int64} {d : Nat → UInt64} {H : Heap} {locs : List Loc} {ls : Array Slot} {x5 : Int32} (hi : 6 * t + 6 ≤ L) (hL : L ≤ 3072) (hR : zR t σ) (hC : C + 6 ≤ 3165) (hC2 : D + 36 ≤ 120764)
    (hP : va_P G vwCl (zw cs ad σ (zt cs qo o qd d)) H) (hD : va_D (fun q => s.heap.size ≤ q) (zw cs ad σ (zt cs qo o qd d))) (hS : va_S (fun q => s.heap.size ≤ q) s.heap H locs) (ex : x5 = nI (6 * t)) (hl : lv_has ls 9 [(0, .ref b), (1, .ref (ad 0)), (2, .ref (ad 29)), (3, .ref qo), (4, .ref qd), (5, .int x5)])
    (hk : ∀ (H : Heap) (locs : List Loc) (σ : zS) (o : Nat → Int64) (d : Nat → UInt64) (ls : Array Slot), zR (t + 1) σ → va_P G vwCl (zw cs ad σ (zt cs qo o qd d)) H → va_D (fun q => s.heap.size ≤ q) (zw cs ad σ (zt cs qo o qd d)) → va_S (fun q => s.heap.size ≤ q) s.heap H locs → lv_has ls 9 [(0, .ref b), (1, .ref (ad 0)), (2, .ref (ad 29)), (3, .ref qo), (4, .ref qd), (5, .int x5)] → W p l e room_1 s m #[Value.ref b] below meth c H locs (C + 6) (D + 36) Q (F0 m 2254 ls [])) :
    W p l e room_1 s m #[Value.ref b] below meth c H locs C D Q (F0 m 823 ls []) := by
  obtain ⟨hx, hb, hr, hml, hown, hts, htc, hX, hbl, hfl, hE⟩ := K
  have hts2 : ∀ w ∈ wsLaw2, w.before #[Value.ref b] s = true := fun w h => (List.mem_append.mp h).elim (htc w) (hts w)
  have hA : ∀ q : Nat, s.heap.size ≤ q → (fun q : Nat => s.heap.size ≤ q) q := fun _ h => h
  have hbA : ¬ (fun q : Nat => s.heap.size ≤ q) b := Nat.not_le.mpr hbl
  have hin1 : vp_in (x5 + 1) L := by rw [ex, show (1 : Int32) = nI 1 from rfl, nI_add]; exact vp_in_nI (by omega) (by omega)
  obtain ⟨hI, hs2, hs3, hs4⟩ := sim_done hR (by omega) (xs (x5 + 1).toNatClampNeg)
  refine lv_aload_n hx hb dL_law_823 rfl (lv_at hl 1 rfl) ?_
  refine lv_aload_n hx hb dL_law_824 rfl (lv_at hl 0 rfl) ?_
  refine lv_iload hx hb dL_law_825 (lv_at hl 5 rfl) ?_
  refine lv_iconst (v := 1) hx hb dL_law_827 (by decide) ?_
  refine lv_iadd hx hb dL_law_828 ?_
  refine va_sld hx hb hX hbl hbA hS hin1 dL_law_829 ?_
  refine lv_aload_n hx hb dL_law_830 rfl (lv_at hl 3 rfl) ?_
  refine zai (vx_runSW (As := [.ref (ad 0), .int (xs (x5 + 1).toNatClampNeg), .ref qo]) (rest := []) ⟨hx, hb, hml, hown, hts⟩ (c_L_done l hfl G cs ad qo o qd d σ (xs (x5 + 1).toNatClampNeg)  H.size) (vx_cwSW 3 hts2 (z_gl rfl (up2 gL_law_L_done) zclG) rfl rfl rfl (by decide +kernel) ⟨Nat.le_of_ble_eq_true rfl, Nat.le_of_ble_eq_true rfl⟩) (zps hE hP hD hS hA) rfl rfl hl.1 rfl (lv_room (Nat.le_of_ble_eq_true rfl)) dL_law_831 ⟨show C + 1 ≤ 3165 by omega, show D + 6 ≤ 120764 by omega⟩) hD hS hA (fun H locs hP hD hS => ?_)
  refine lv_istore (lv' := [(6, .int (f_L_done (f_X5_done σ (xs (x5 + 1).toNatClampNeg)).1)), (0, .ref b), (1, .ref (ad 0)), (2, .ref (ad 29)), (3, .ref qo), (4, .ref qd), (5, .int x5)]) hx hb dL_law_834 hl (by decide) rfl (fun ls hl => ?_)
  refine lv_aload_n hx hb dL_law_836 rfl (lv_at hl 3 rfl) ?_
  refine lv_aload_n hx hb dL_law_837 rfl (lv_at hl 1 rfl) ?_
  refine lv_iload hx hb dL_law_838 (lv_at hl 6 rfl) ?_
  refine lv_iconst (v := 1) hx hb dL_law_840 (by decide) ?_
  refine lv_iadd hx hb dL_law_841 ?_
  refine va_sld hx hb hX hbl hbA hS hin1 dL_law_842 ?_
  refine zai (va_runV (As := [.int (xs (x5 + 1).toNatClampNeg)]) (rest := []) ⟨hx, hb, hml, hown, hts⟩ (c_X6_done l G cs ad (zt cs qo (zo (f_X5_done σ (xs (x5 + 1).toNatClampNeg)).1 (f_X5_done σ (xs (x5 + 1).toNatClampNeg)).2.1.toInt64 o) qd d) (f_X5_done σ (xs (x5 + 1).toNatClampNeg)).2.2 (xs (x5 + 1).toNatClampNeg) hI H.size) (cwV 1 hts gL_law_X6_done rfl rfl rfl (by decide +kernel) ⟨Nat.le_of_ble_eq_true rfl, Nat.le_of_ble_eq_true rfl⟩) (zpv hE hP hD hS hA (zg_29 cs ad (f_X5_done σ (xs (x5 + 1).toNatClampNeg)).2.2 (zt cs qo (zo (f_X5_done σ (xs (x5 + 1).toNatClampNeg)).1 (f_X5_done σ (xs (x5 + 1).toNatClampNeg)).2.1.toInt64 o) qd d)) rfl) rfl rfl hl.1 rfl (lv_room (Nat.le_of_ble_eq_true rfl)) dL_law_843 ⟨show C + 1 + 0 ≤ 3165 by omega, show D + 6 + 0 ≤ 120764 by omega⟩) hD hS hA (fun H locs hP hD hS => ?_)
  refine lv_istore (lv' := [(7, .int (f_X6_done (f_X5_done σ (xs (x5 + 1).toNatClampNeg)).2.2 (xs (x5 + 1).toNatClampNeg)).1), (6, .int (f_L_done (f_X5_done σ (xs (x5 + 1).toNatClampNeg)).1)), (0, .ref b), (1, .ref (ad 0)), (2, .ref (ad 29)), (3, .ref qo), (4, .ref qd), (5, .int x5)]) hx hb dL_law_846 hl (by decide) rfl (fun ls hl => ?_)
  refine lv_aload_n hx hb dL_law_848 rfl (lv_at hl 4 rfl) ?_
  refine zai (va_runV (As := []) (rest := []) ⟨hx, hb, hml, hown, hts⟩ (c_X6_thrown l G cs ad (zt cs qo (zo (f_X5_done σ (xs (x5 + 1).toNatClampNeg)).1 (f_X5_done σ (xs (x5 + 1).toNatClampNeg)).2.1.toInt64 o) qd d) (f_X6_done (f_X5_done σ (xs (x5 + 1).toNatClampNeg)).2.2 (xs (x5 + 1).toNatClampNeg)).2 H.size) (cwV 0 hts gL_law_X6_thrown rfl rfl rfl (by decide +kernel) ⟨Nat.le_of_ble_eq_true rfl, Nat.le_of_ble_eq_true rfl⟩) (zpv hE hP hD hS hA (zg_29 cs ad (f_X6_done (f_X5_done σ (xs (x5 + 1).toNatClampNeg)).2.2 (xs (x5 + 1).toNatClampNeg)).2 (zt cs qo (zo (f_X5_done σ (xs (x5 + 1).toNatClampNeg)).1 (f_X5_done σ (xs (x5 + 1).toNatClampNeg)).2.1.toInt64 o) qd d)) rfl) rfl rfl hl.1 rfl (lv_room (Nat.le_of_ble_eq_true rfl)) dL_law_849 ⟨show C + 1 + 0 + 0 ≤ 3165 by omega, show D + 6 + 0 + 0 ≤ 120764 by omega⟩) hD hS hA (fun H locs hP hD hS => ?_)
  refine lv_iload hx hb dL_law_852 (lv_at hl 1 rfl) ?_
  refine lv_icmp_eq (tgt := 859) hx hb dL_law_854 (by decide) (fun _ => ?_) (fun h9 => absurd hs2 h9)
  refine lv_iload hx hb dL_law_859 (lv_at hl 1 rfl) ?_
  refine lv_if_ne (tgt := 876) hx hb dL_law_861 (by decide) (fun h8 => ?_) (fun h8 => ?_)
  · skip
    refine lv_goto (tgt := 2254) hx hb dL_law_876 (by decide) ?_
    refine W.widen (k := C + 6) (n := D + 36) (by omega) (by omega) ?_
    exact hk H locs _ _ _ ls hs4 hP hD hS (lv_sub hl [2, 3, 4, 5, 6, 7] rfl)
  · obtain ⟨h7, h6⟩ := hs3 h8
    refine lv_aload_n hx hb dL_law_864 rfl (lv_at hl 5 rfl) ?_
    refine lv_iconst (v := 0) hx hb dL_law_865 (by decide) ?_
    have e0 : zo (f_X5_done σ (xs (x5 + 1).toNatClampNeg)).1 (f_X5_done σ (xs (x5 + 1).toNatClampNeg)).2.1.toInt64 o (0 : Int32).toNatClampNeg = (f_X5_done σ (xs (x5 + 1).toNatClampNeg)).2.1.toInt64 := by unfold zo; rw [if_pos h7]; exact if_pos rfl
    refine va_lald hx hb hE.1 hP 51 3 rfl rfl z_in01 dL_law_866 ?_
    rw [e0]
    refine lv_iload hx hb dL_law_867 (lv_at hl 0 rfl) ?_
    refine lv_i2l (v := (f_X6_done (f_X5_done σ (xs (x5 + 1).toNatClampNeg)).2.2 (xs (x5 + 1).toNatClampNeg)).1.toInt64) hx hb dL_law_869 rfl ?_
    refine W.lcmp hx hb dL_law_870 ?_
    refine lv_if_eq (tgt := 876) hx hb dL_law_871 (by decide) (fun _ => ?_) (fun h9 => absurd (by rw [h6]; exact lg_cmp_self _) h9)
    refine lv_goto (tgt := 2254) hx hb dL_law_876 (by decide) ?_
    refine W.widen (k := C + 6) (n := D + 36) (by omega) (by omega) ?_
    exact hk H locs _ _ _ ls hs4 hP hD hS (lv_sub hl [2, 3, 4, 5, 6, 7] rfl)
set_option maxRecDepth 100000 in
theorem lc_10 {p : Program} {l : Launch} {e : Env} {s : State} {m : MethodId} {below : List Frame} {meth : Method} {c : Code} {b L : Nat} {xs : Nat → Int32} {G : va_G} {cs : Nat → ClassId} (K : zCtx p l s m meth c b L xs G cs) (ad : Nat → Nat) (qo qd : Nat) {Q : State → Prop} {C D t : Nat} {σ : zS} {o : Nat → Int64} {d : Nat → UInt64} {H : Heap} {locs : List Loc} {ls : Array Slot} {x5 : Int32} (hi : 6 * t + 6 ≤ L) (hL : L ≤ 3072) (hR : zR t σ) (hC : C + 6 ≤ 3165) (hC2 : D + 36 ≤ 120764)
    (hP : va_P G vwCl (zw cs ad σ (zt cs qo o qd d)) H) (hD : va_D (fun q => s.heap.size ≤ q) (zw cs ad σ (zt cs qo o qd d))) (hS : va_S (fun q => s.heap.size ≤ q) s.heap H locs) (ex : x5 = nI (6 * t)) (hl : lv_has ls 9 [(0, .ref b), (1, .ref (ad 0)), (2, .ref (ad 29)), (3, .ref qo), (4, .ref qd), (5, .int x5)])
    (hk : ∀ (H : Heap) (locs : List Loc) (σ : zS) (o : Nat → Int64) (d : Nat → UInt64) (ls : Array Slot), zR (t + 1) σ → va_P G vwCl (zw cs ad σ (zt cs qo o qd d)) H → va_D (fun q => s.heap.size ≤ q) (zw cs ad σ (zt cs qo o qd d)) → va_S (fun q => s.heap.size ≤ q) s.heap H locs → lv_has ls 9 [(0, .ref b), (1, .ref (ad 0)), (2, .ref (ad 29)), (3, .ref qo), (4, .ref qd), (5, .int x5)] → W p l e room_1 s m #[Value.ref b] below meth c H locs (C + 6) (D + 36) Q (F0 m 2254 ls [])) :
    W p l e room_1 s m #[Value.ref b] below meth c H locs C D Q (F0 m 879 ls []) := by
  obtain ⟨hx, hb, hr, hml, hown, hts, htc, hX, hbl, hfl, hE⟩ := K
  have hts2 : ∀ w ∈ wsLaw2, w.before #[Value.ref b] s = true := fun w h => (List.mem_append.mp h).elim (htc w) (hts w)
  have hA : ∀ q : Nat, s.heap.size ≤ q → (fun q : Nat => s.heap.size ≤ q) q := fun _ h => h
  have hbA : ¬ (fun q : Nat => s.heap.size ≤ q) b := Nat.not_le.mpr hbl
  have hin1 : vp_in (x5 + 1) L := by rw [ex, show (1 : Int32) = nI 1 from rfl, nI_add]; exact vp_in_nI (by omega) (by omega)
  obtain ⟨hI, hs2, hs3, hs4⟩ := sim_reason hR (by omega) (xs (x5 + 1).toNatClampNeg)
  refine lv_aload_n hx hb dL_law_879 rfl (lv_at hl 1 rfl) ?_
  refine lv_aload_n hx hb dL_law_880 rfl (lv_at hl 0 rfl) ?_
  refine lv_iload hx hb dL_law_881 (lv_at hl 5 rfl) ?_
  refine lv_iconst (v := 1) hx hb dL_law_883 (by decide) ?_
  refine lv_iadd hx hb dL_law_884 ?_
  refine va_sld hx hb hX hbl hbA hS hin1 dL_law_885 ?_
  refine lv_aload_n hx hb dL_law_886 rfl (lv_at hl 3 rfl) ?_
  refine zai (vx_runSW (As := [.ref (ad 0), .int (xs (x5 + 1).toNatClampNeg), .ref qo]) (rest := []) ⟨hx, hb, hml, hown, hts⟩ (c_L_reason l hfl G cs ad qo o qd d σ (xs (x5 + 1).toNatClampNeg)  H.size) (vx_cwSW 3 hts2 (z_gl rfl (up2 gL_law_L_reason) zclG) rfl rfl rfl (by decide +kernel) ⟨Nat.le_of_ble_eq_true rfl, Nat.le_of_ble_eq_true rfl⟩) (zps hE hP hD hS hA) rfl rfl hl.1 rfl (lv_room (Nat.le_of_ble_eq_true rfl)) dL_law_887 ⟨show C + 1 ≤ 3165 by omega, show D + 6 ≤ 120764 by omega⟩) hD hS hA (fun H locs hP hD hS => ?_)
  refine lv_istore (lv' := [(6, .int (f_L_reason (f_X5_reason σ (xs (x5 + 1).toNatClampNeg)).1)), (0, .ref b), (1, .ref (ad 0)), (2, .ref (ad 29)), (3, .ref qo), (4, .ref qd), (5, .int x5)]) hx hb dL_law_890 hl (by decide) rfl (fun ls hl => ?_)
  refine lv_aload_n hx hb dL_law_892 rfl (lv_at hl 3 rfl) ?_
  refine lv_aload_n hx hb dL_law_893 rfl (lv_at hl 1 rfl) ?_
  refine lv_iload hx hb dL_law_894 (lv_at hl 6 rfl) ?_
  refine lv_iconst (v := 1) hx hb dL_law_896 (by decide) ?_
  refine lv_iadd hx hb dL_law_897 ?_
  refine va_sld hx hb hX hbl hbA hS hin1 dL_law_898 ?_
  refine zai (va_runV (As := [.int (xs (x5 + 1).toNatClampNeg)]) (rest := []) ⟨hx, hb, hml, hown, hts⟩ (c_X6_reason l G cs ad (zt cs qo (zo (f_X5_reason σ (xs (x5 + 1).toNatClampNeg)).1 (f_X5_reason σ (xs (x5 + 1).toNatClampNeg)).2.1.toInt64 o) qd d) (f_X5_reason σ (xs (x5 + 1).toNatClampNeg)).2.2 (xs (x5 + 1).toNatClampNeg) hI H.size) (cwV 1 hts gL_law_X6_reason rfl rfl rfl (by decide +kernel) ⟨Nat.le_of_ble_eq_true rfl, Nat.le_of_ble_eq_true rfl⟩) (zpv hE hP hD hS hA (zg_29 cs ad (f_X5_reason σ (xs (x5 + 1).toNatClampNeg)).2.2 (zt cs qo (zo (f_X5_reason σ (xs (x5 + 1).toNatClampNeg)).1 (f_X5_reason σ (xs (x5 + 1).toNatClampNeg)).2.1.toInt64 o) qd d)) rfl) rfl rfl hl.1 rfl (lv_room (Nat.le_of_ble_eq_true rfl)) dL_law_899 ⟨show C + 1 + 0 ≤ 3165 by omega, show D + 6 + 0 ≤ 120764 by omega⟩) hD hS hA (fun H locs hP hD hS => ?_)
  refine lv_istore (lv' := [(7, .int (f_X6_reason (f_X5_reason σ (xs (x5 + 1).toNatClampNeg)).2.2 (xs (x5 + 1).toNatClampNeg)).1), (6, .int (f_L_reason (f_X5_reason σ (xs (x5 + 1).toNatClampNeg)).1)), (0, .ref b), (1, .ref (ad 0)), (2, .ref (ad 29)), (3, .ref qo), (4, .ref qd), (5, .int x5)]) hx hb dL_law_902 hl (by decide) rfl (fun ls hl => ?_)
  refine lv_aload_n hx hb dL_law_904 rfl (lv_at hl 4 rfl) ?_
  refine zai (va_runV (As := []) (rest := []) ⟨hx, hb, hml, hown, hts⟩ (c_X6_thrown l G cs ad (zt cs qo (zo (f_X5_reason σ (xs (x5 + 1).toNatClampNeg)).1 (f_X5_reason σ (xs (x5 + 1).toNatClampNeg)).2.1.toInt64 o) qd d) (f_X6_reason (f_X5_reason σ (xs (x5 + 1).toNatClampNeg)).2.2 (xs (x5 + 1).toNatClampNeg)).2 H.size) (cwV 0 hts gL_law_X6_thrown rfl rfl rfl (by decide +kernel) ⟨Nat.le_of_ble_eq_true rfl, Nat.le_of_ble_eq_true rfl⟩) (zpv hE hP hD hS hA (zg_29 cs ad (f_X6_reason (f_X5_reason σ (xs (x5 + 1).toNatClampNeg)).2.2 (xs (x5 + 1).toNatClampNeg)).2 (zt cs qo (zo (f_X5_reason σ (xs (x5 + 1).toNatClampNeg)).1 (f_X5_reason σ (xs (x5 + 1).toNatClampNeg)).2.1.toInt64 o) qd d)) rfl) rfl rfl hl.1 rfl (lv_room (Nat.le_of_ble_eq_true rfl)) dL_law_905 ⟨show C + 1 + 0 + 0 ≤ 3165 by omega, show D + 6 + 0 + 0 ≤ 120764 by omega⟩) hD hS hA (fun H locs hP hD hS => ?_)
  refine lv_iload hx hb dL_law_908 (lv_at hl 1 rfl) ?_
  refine lv_icmp_eq (tgt := 915) hx hb dL_law_910 (by decide) (fun _ => ?_) (fun h9 => absurd hs2 h9)
  refine lv_iload hx hb dL_law_915 (lv_at hl 1 rfl) ?_
  refine lv_if_ne (tgt := 932) hx hb dL_law_917 (by decide) (fun h8 => ?_) (fun h8 => ?_)
  · skip
    refine lv_goto (tgt := 2254) hx hb dL_law_932 (by decide) ?_
    refine W.widen (k := C + 6) (n := D + 36) (by omega) (by omega) ?_
    exact hk H locs _ _ _ ls hs4 hP hD hS (lv_sub hl [2, 3, 4, 5, 6, 7] rfl)
  · obtain ⟨h7, h6⟩ := hs3 h8
    refine lv_aload_n hx hb dL_law_920 rfl (lv_at hl 5 rfl) ?_
    refine lv_iconst (v := 0) hx hb dL_law_921 (by decide) ?_
    have e0 : zo (f_X5_reason σ (xs (x5 + 1).toNatClampNeg)).1 (f_X5_reason σ (xs (x5 + 1).toNatClampNeg)).2.1.toInt64 o (0 : Int32).toNatClampNeg = (f_X5_reason σ (xs (x5 + 1).toNatClampNeg)).2.1.toInt64 := by unfold zo; rw [if_pos h7]; exact if_pos rfl
    refine va_lald hx hb hE.1 hP 51 3 rfl rfl z_in01 dL_law_922 ?_
    rw [e0]
    refine lv_iload hx hb dL_law_923 (lv_at hl 0 rfl) ?_
    refine lv_i2l (v := (f_X6_reason (f_X5_reason σ (xs (x5 + 1).toNatClampNeg)).2.2 (xs (x5 + 1).toNatClampNeg)).1.toInt64) hx hb dL_law_925 rfl ?_
    refine W.lcmp hx hb dL_law_926 ?_
    refine lv_if_eq (tgt := 932) hx hb dL_law_927 (by decide) (fun _ => ?_) (fun h9 => absurd (by rw [h6]; exact lg_cmp_self _) h9)
    refine lv_goto (tgt := 2254) hx hb dL_law_932 (by decide) ?_
    refine W.widen (k := C + 6) (n := D + 36) (by omega) (by omega) ?_
    exact hk H locs _ _ _ ls hs4 hP hD hS (lv_sub hl [2, 3, 4, 5, 6, 7] rfl)
set_option maxRecDepth 100000 in
theorem lc_11 {p : Program} {l : Launch} {e : Env} {s : State} {m : MethodId} {below : List Frame} {meth : Method} {c : Code} {b L : Nat} {xs : Nat → Int32} {G : va_G} {cs : Nat → ClassId} (K : zCtx p l s m meth c b L xs G cs) (ad : Nat → Nat) (qo qd : Nat) {Q : State → Prop} {C D t : Nat} {σ : zS} {o : Nat → Int64} {d : Nat → UInt64} {H : Heap} {locs : List Loc} {ls : Array Slot} {x5 : Int32} (hi : 6 * t + 6 ≤ L) (hL : L ≤ 3072) (hR : zR t σ) (hC : C + 6 ≤ 3165) (hC2 : D + 36 ≤ 120764)
    (hP : va_P G vwCl (zw cs ad σ (zt cs qo o qd d)) H) (hD : va_D (fun q => s.heap.size ≤ q) (zw cs ad σ (zt cs qo o qd d))) (hS : va_S (fun q => s.heap.size ≤ q) s.heap H locs) (ex : x5 = nI (6 * t)) (hl : lv_has ls 9 [(0, .ref b), (1, .ref (ad 0)), (2, .ref (ad 29)), (3, .ref qo), (4, .ref qd), (5, .int x5)])
    (hk : ∀ (H : Heap) (locs : List Loc) (σ : zS) (o : Nat → Int64) (d : Nat → UInt64) (ls : Array Slot), zR (t + 1) σ → va_P G vwCl (zw cs ad σ (zt cs qo o qd d)) H → va_D (fun q => s.heap.size ≤ q) (zw cs ad σ (zt cs qo o qd d)) → va_S (fun q => s.heap.size ≤ q) s.heap H locs → lv_has ls 9 [(0, .ref b), (1, .ref (ad 0)), (2, .ref (ad 29)), (3, .ref qo), (4, .ref qd), (5, .int x5)] → W p l e room_1 s m #[Value.ref b] below meth c H locs (C + 6) (D + 36) Q (F0 m 2254 ls [])) :
    W p l e room_1 s m #[Value.ref b] below meth c H locs C D Q (F0 m 935 ls []) := by
  obtain ⟨hx, hb, hr, hml, hown, hts, htc, hX, hbl, hfl, hE⟩ := K
  have hts2 : ∀ w ∈ wsLaw2, w.before #[Value.ref b] s = true := fun w h => (List.mem_append.mp h).elim (htc w) (hts w)
  have hA : ∀ q : Nat, s.heap.size ≤ q → (fun q : Nat => s.heap.size ≤ q) q := fun _ h => h
  have hbA : ¬ (fun q : Nat => s.heap.size ≤ q) b := Nat.not_le.mpr hbl
  have hin1 : vp_in (x5 + 1) L := by rw [ex, show (1 : Int32) = nI 1 from rfl, nI_add]; exact vp_in_nI (by omega) (by omega)
  obtain ⟨hI, hs2, hs3, hs4⟩ := sim_barredBy hR (by omega) (xs (x5 + 1).toNatClampNeg)
  refine lv_aload_n hx hb dL_law_935 rfl (lv_at hl 1 rfl) ?_
  refine lv_aload_n hx hb dL_law_936 rfl (lv_at hl 0 rfl) ?_
  refine lv_iload hx hb dL_law_937 (lv_at hl 5 rfl) ?_
  refine lv_iconst (v := 1) hx hb dL_law_939 (by decide) ?_
  refine lv_iadd hx hb dL_law_940 ?_
  refine va_sld hx hb hX hbl hbA hS hin1 dL_law_941 ?_
  refine lv_aload_n hx hb dL_law_942 rfl (lv_at hl 3 rfl) ?_
  refine zai (vx_runSW (As := [.ref (ad 0), .int (xs (x5 + 1).toNatClampNeg), .ref qo]) (rest := []) ⟨hx, hb, hml, hown, hts⟩ (c_L_barredBy l hfl G cs ad qo o qd d σ (xs (x5 + 1).toNatClampNeg)  H.size) (vx_cwSW 3 hts2 (z_gl rfl (up2 gL_law_L_barredBy) zclG) rfl rfl rfl (by decide +kernel) ⟨Nat.le_of_ble_eq_true rfl, Nat.le_of_ble_eq_true rfl⟩) (zps hE hP hD hS hA) rfl rfl hl.1 rfl (lv_room (Nat.le_of_ble_eq_true rfl)) dL_law_943 ⟨show C + 2 ≤ 3165 by omega, show D + 12 ≤ 120764 by omega⟩) hD hS hA (fun H locs hP hD hS => ?_)
  refine lv_istore (lv' := [(6, .int (f_L_barredBy (f_X5_barredBy σ (xs (x5 + 1).toNatClampNeg)).1)), (0, .ref b), (1, .ref (ad 0)), (2, .ref (ad 29)), (3, .ref qo), (4, .ref qd), (5, .int x5)]) hx hb dL_law_946 hl (by decide) rfl (fun ls hl => ?_)
  refine lv_aload_n hx hb dL_law_948 rfl (lv_at hl 3 rfl) ?_
  refine lv_aload_n hx hb dL_law_949 rfl (lv_at hl 1 rfl) ?_
  refine lv_iload hx hb dL_law_950 (lv_at hl 6 rfl) ?_
  refine lv_iconst (v := 1) hx hb dL_law_952 (by decide) ?_
  refine lv_iadd hx hb dL_law_953 ?_
  refine va_sld hx hb hX hbl hbA hS hin1 dL_law_954 ?_
  refine zai (va_runV (As := [.int (xs (x5 + 1).toNatClampNeg)]) (rest := []) ⟨hx, hb, hml, hown, hts⟩ (c_X6_barredBy l G cs ad (zt cs qo (zo (f_X5_barredBy σ (xs (x5 + 1).toNatClampNeg)).1 (f_X5_barredBy σ (xs (x5 + 1).toNatClampNeg)).2.1.toInt64 o) qd d) (f_X5_barredBy σ (xs (x5 + 1).toNatClampNeg)).2.2 (xs (x5 + 1).toNatClampNeg) hI H.size) (cwV 1 hts gL_law_X6_barredBy rfl rfl rfl (by decide +kernel) ⟨Nat.le_of_ble_eq_true rfl, Nat.le_of_ble_eq_true rfl⟩) (zpv hE hP hD hS hA (zg_29 cs ad (f_X5_barredBy σ (xs (x5 + 1).toNatClampNeg)).2.2 (zt cs qo (zo (f_X5_barredBy σ (xs (x5 + 1).toNatClampNeg)).1 (f_X5_barredBy σ (xs (x5 + 1).toNatClampNeg)).2.1.toInt64 o) qd d)) rfl) rfl rfl hl.1 rfl (lv_room (Nat.le_of_ble_eq_true rfl)) dL_law_955 ⟨show C + 2 + 0 ≤ 3165 by omega, show D + 12 + 0 ≤ 120764 by omega⟩) hD hS hA (fun H locs hP hD hS => ?_)
  refine lv_istore (lv' := [(7, .int (f_X6_barredBy (f_X5_barredBy σ (xs (x5 + 1).toNatClampNeg)).2.2 (xs (x5 + 1).toNatClampNeg)).1), (6, .int (f_L_barredBy (f_X5_barredBy σ (xs (x5 + 1).toNatClampNeg)).1)), (0, .ref b), (1, .ref (ad 0)), (2, .ref (ad 29)), (3, .ref qo), (4, .ref qd), (5, .int x5)]) hx hb dL_law_958 hl (by decide) rfl (fun ls hl => ?_)
  refine lv_aload_n hx hb dL_law_960 rfl (lv_at hl 4 rfl) ?_
  refine zai (va_runV (As := []) (rest := []) ⟨hx, hb, hml, hown, hts⟩ (c_X6_thrown l G cs ad (zt cs qo (zo (f_X5_barredBy σ (xs (x5 + 1).toNatClampNeg)).1 (f_X5_barredBy σ (xs (x5 + 1).toNatClampNeg)).2.1.toInt64 o) qd d) (f_X6_barredBy (f_X5_barredBy σ (xs (x5 + 1).toNatClampNeg)).2.2 (xs (x5 + 1).toNatClampNeg)).2 H.size) (cwV 0 hts gL_law_X6_thrown rfl rfl rfl (by decide +kernel) ⟨Nat.le_of_ble_eq_true rfl, Nat.le_of_ble_eq_true rfl⟩) (zpv hE hP hD hS hA (zg_29 cs ad (f_X6_barredBy (f_X5_barredBy σ (xs (x5 + 1).toNatClampNeg)).2.2 (xs (x5 + 1).toNatClampNeg)).2 (zt cs qo (zo (f_X5_barredBy σ (xs (x5 + 1).toNatClampNeg)).1 (f_X5_barredBy σ (xs (x5 + 1).toNatClampNeg)).2.1.toInt64 o) qd d)) rfl) rfl rfl hl.1 rfl (lv_room (Nat.le_of_ble_eq_true rfl)) dL_law_961 ⟨show C + 2 + 0 + 0 ≤ 3165 by omega, show D + 12 + 0 + 0 ≤ 120764 by omega⟩) hD hS hA (fun H locs hP hD hS => ?_)
  refine lv_iload hx hb dL_law_964 (lv_at hl 1 rfl) ?_
  refine lv_icmp_eq (tgt := 971) hx hb dL_law_966 (by decide) (fun _ => ?_) (fun h9 => absurd hs2 h9)
  refine lv_iload hx hb dL_law_971 (lv_at hl 1 rfl) ?_
  refine lv_if_ne (tgt := 988) hx hb dL_law_973 (by decide) (fun h8 => ?_) (fun h8 => ?_)
  · skip
    refine lv_goto (tgt := 2254) hx hb dL_law_988 (by decide) ?_
    refine W.widen (k := C + 6) (n := D + 36) (by omega) (by omega) ?_
    exact hk H locs _ _ _ ls hs4 hP hD hS (lv_sub hl [2, 3, 4, 5, 6, 7] rfl)
  · obtain ⟨h7, h6⟩ := hs3 h8
    refine lv_aload_n hx hb dL_law_976 rfl (lv_at hl 5 rfl) ?_
    refine lv_iconst (v := 0) hx hb dL_law_977 (by decide) ?_
    have e0 : zo (f_X5_barredBy σ (xs (x5 + 1).toNatClampNeg)).1 (f_X5_barredBy σ (xs (x5 + 1).toNatClampNeg)).2.1.toInt64 o (0 : Int32).toNatClampNeg = (f_X5_barredBy σ (xs (x5 + 1).toNatClampNeg)).2.1.toInt64 := by unfold zo; rw [if_pos h7]; exact if_pos rfl
    refine va_lald hx hb hE.1 hP 51 3 rfl rfl z_in01 dL_law_978 ?_
    rw [e0]
    refine lv_iload hx hb dL_law_979 (lv_at hl 0 rfl) ?_
    refine lv_i2l (v := (f_X6_barredBy (f_X5_barredBy σ (xs (x5 + 1).toNatClampNeg)).2.2 (xs (x5 + 1).toNatClampNeg)).1.toInt64) hx hb dL_law_981 rfl ?_
    refine W.lcmp hx hb dL_law_982 ?_
    refine lv_if_eq (tgt := 988) hx hb dL_law_983 (by decide) (fun _ => ?_) (fun h9 => absurd (by rw [h6]; exact lg_cmp_self _) h9)
    refine lv_goto (tgt := 2254) hx hb dL_law_988 (by decide) ?_
    refine W.widen (k := C + 6) (n := D + 36) (by omega) (by omega) ?_
    exact hk H locs _ _ _ ls hs4 hP hD hS (lv_sub hl [2, 3, 4, 5, 6, 7] rfl)
set_option maxRecDepth 100000 in
theorem lc_12 {p : Program} {l : Launch} {e : Env} {s : State} {m : MethodId} {below : List Frame} {meth : Method} {c : Code} {b L : Nat} {xs : Nat → Int32} {G : va_G} {cs : Nat → ClassId} (K : zCtx p l s m meth c b L xs G cs) (ad : Nat → Nat) (qo qd : Nat) {Q : State → Prop} {C D t : Nat} {σ : zS} {o : Nat → Int64} {d : Nat → UInt64} {H : Heap} {locs : List Loc} {ls : Array Slot} {x5 : Int32} (hi : 6 * t + 6 ≤ L) (hL : L ≤ 3072) (hR : zR t σ) (hC : C + 6 ≤ 3165) (hC2 : D + 36 ≤ 120764)
    (hP : va_P G vwCl (zw cs ad σ (zt cs qo o qd d)) H) (hD : va_D (fun q => s.heap.size ≤ q) (zw cs ad σ (zt cs qo o qd d))) (hS : va_S (fun q => s.heap.size ≤ q) s.heap H locs) (ex : x5 = nI (6 * t)) (hl : lv_has ls 9 [(0, .ref b), (1, .ref (ad 0)), (2, .ref (ad 29)), (3, .ref qo), (4, .ref qd), (5, .int x5)])
    (hk : ∀ (H : Heap) (locs : List Loc) (σ : zS) (o : Nat → Int64) (d : Nat → UInt64) (ls : Array Slot), zR (t + 1) σ → va_P G vwCl (zw cs ad σ (zt cs qo o qd d)) H → va_D (fun q => s.heap.size ≤ q) (zw cs ad σ (zt cs qo o qd d)) → va_S (fun q => s.heap.size ≤ q) s.heap H locs → lv_has ls 9 [(0, .ref b), (1, .ref (ad 0)), (2, .ref (ad 29)), (3, .ref qo), (4, .ref qd), (5, .int x5)] → W p l e room_1 s m #[Value.ref b] below meth c H locs (C + 6) (D + 36) Q (F0 m 2254 ls [])) :
    W p l e room_1 s m #[Value.ref b] below meth c H locs C D Q (F0 m 991 ls []) := by
  obtain ⟨hx, hb, hr, hml, hown, hts, htc, hX, hbl, hfl, hE⟩ := K
  have hts2 : ∀ w ∈ wsLaw2, w.before #[Value.ref b] s = true := fun w h => (List.mem_append.mp h).elim (htc w) (hts w)
  have hA : ∀ q : Nat, s.heap.size ≤ q → (fun q : Nat => s.heap.size ≤ q) q := fun _ h => h
  have hbA : ¬ (fun q : Nat => s.heap.size ≤ q) b := Nat.not_le.mpr hbl
  have hin1 : vp_in (x5 + 1) L := by rw [ex, show (1 : Int32) = nI 1 from rfl, nI_add]; exact vp_in_nI (by omega) (by omega)
  obtain ⟨hI, hs2, hs3, hs4⟩ := sim_step hR (by omega) (xs (x5 + 1).toNatClampNeg)
  refine lv_aload_n hx hb dL_law_991 rfl (lv_at hl 1 rfl) ?_
  refine lv_aload_n hx hb dL_law_992 rfl (lv_at hl 0 rfl) ?_
  refine lv_iload hx hb dL_law_993 (lv_at hl 5 rfl) ?_
  refine lv_iconst (v := 1) hx hb dL_law_995 (by decide) ?_
  refine lv_iadd hx hb dL_law_996 ?_
  refine va_sld hx hb hX hbl hbA hS hin1 dL_law_997 ?_
  refine lv_aload_n hx hb dL_law_998 rfl (lv_at hl 3 rfl) ?_
  refine zai (vx_runSW (As := [.ref (ad 0), .int (xs (x5 + 1).toNatClampNeg), .ref qo]) (rest := []) ⟨hx, hb, hml, hown, hts⟩ (c_L_step l hfl G cs ad qo o qd d σ (xs (x5 + 1).toNatClampNeg)  H.size) (vx_cwSW 3 hts2 (z_gl rfl (up2 gL_law_L_step) zclG) rfl rfl rfl (by decide +kernel) ⟨Nat.le_of_ble_eq_true rfl, Nat.le_of_ble_eq_true rfl⟩) (zps hE hP hD hS hA) rfl rfl hl.1 rfl (lv_room (Nat.le_of_ble_eq_true rfl)) dL_law_999 ⟨show C + 2 ≤ 3165 by omega, show D + 12 ≤ 120764 by omega⟩) hD hS hA (fun H locs hP hD hS => ?_)
  refine lv_istore (lv' := [(6, .int (f_L_step (f_X5_step σ (xs (x5 + 1).toNatClampNeg)).1)), (0, .ref b), (1, .ref (ad 0)), (2, .ref (ad 29)), (3, .ref qo), (4, .ref qd), (5, .int x5)]) hx hb dL_law_1002 hl (by decide) rfl (fun ls hl => ?_)
  refine lv_aload_n hx hb dL_law_1004 rfl (lv_at hl 3 rfl) ?_
  refine lv_aload_n hx hb dL_law_1005 rfl (lv_at hl 1 rfl) ?_
  refine lv_iload hx hb dL_law_1006 (lv_at hl 6 rfl) ?_
  refine lv_iconst (v := 1) hx hb dL_law_1008 (by decide) ?_
  refine lv_iadd hx hb dL_law_1009 ?_
  refine va_sld hx hb hX hbl hbA hS hin1 dL_law_1010 ?_
  refine zai (va_runV (As := [.int (xs (x5 + 1).toNatClampNeg)]) (rest := []) ⟨hx, hb, hml, hown, hts⟩ (c_X6_step l G cs ad (zt cs qo (zo (f_X5_step σ (xs (x5 + 1).toNatClampNeg)).1 (f_X5_step σ (xs (x5 + 1).toNatClampNeg)).2.1.toInt64 o) qd d) (f_X5_step σ (xs (x5 + 1).toNatClampNeg)).2.2 (xs (x5 + 1).toNatClampNeg) hI H.size) (cwV 1 hts gL_law_X6_step rfl rfl rfl (by decide +kernel) ⟨Nat.le_of_ble_eq_true rfl, Nat.le_of_ble_eq_true rfl⟩) (zpv hE hP hD hS hA (zg_29 cs ad (f_X5_step σ (xs (x5 + 1).toNatClampNeg)).2.2 (zt cs qo (zo (f_X5_step σ (xs (x5 + 1).toNatClampNeg)).1 (f_X5_step σ (xs (x5 + 1).toNatClampNeg)).2.1.toInt64 o) qd d)) rfl) rfl rfl hl.1 rfl (lv_room (Nat.le_of_ble_eq_true rfl)) dL_law_1011 ⟨show C + 2 + 0 ≤ 3165 by omega, show D + 12 + 0 ≤ 120764 by omega⟩) hD hS hA (fun H locs hP hD hS => ?_)
  refine lv_istore (lv' := [(7, .int (f_X6_step (f_X5_step σ (xs (x5 + 1).toNatClampNeg)).2.2 (xs (x5 + 1).toNatClampNeg)).1), (6, .int (f_L_step (f_X5_step σ (xs (x5 + 1).toNatClampNeg)).1)), (0, .ref b), (1, .ref (ad 0)), (2, .ref (ad 29)), (3, .ref qo), (4, .ref qd), (5, .int x5)]) hx hb dL_law_1014 hl (by decide) rfl (fun ls hl => ?_)
  refine lv_aload_n hx hb dL_law_1016 rfl (lv_at hl 4 rfl) ?_
  refine zai (va_runV (As := []) (rest := []) ⟨hx, hb, hml, hown, hts⟩ (c_X6_thrown l G cs ad (zt cs qo (zo (f_X5_step σ (xs (x5 + 1).toNatClampNeg)).1 (f_X5_step σ (xs (x5 + 1).toNatClampNeg)).2.1.toInt64 o) qd d) (f_X6_step (f_X5_step σ (xs (x5 + 1).toNatClampNeg)).2.2 (xs (x5 + 1).toNatClampNeg)).2 H.size) (cwV 0 hts gL_law_X6_thrown rfl rfl rfl (by decide +kernel) ⟨Nat.le_of_ble_eq_true rfl, Nat.le_of_ble_eq_true rfl⟩) (zpv hE hP hD hS hA (zg_29 cs ad (f_X6_step (f_X5_step σ (xs (x5 + 1).toNatClampNeg)).2.2 (xs (x5 + 1).toNatClampNeg)).2 (zt cs qo (zo (f_X5_step σ (xs (x5 + 1).toNatClampNeg)).1 (f_X5_step σ (xs (x5 + 1).toNatClampNeg)).2.1.toInt64 o) qd d)) rfl) rfl rfl hl.1 rfl (lv_room (Nat.le_of_ble_eq_true rfl)) dL_law_1017 ⟨show C + 2 + 0 + 0 ≤ 3165 by omega, show D + 12 + 0 + 0 ≤ 120764 by omega⟩) hD hS hA (fun H locs hP hD hS => ?_)
  refine lv_iload hx hb dL_law_1020 (lv_at hl 1 rfl) ?_
  refine lv_icmp_eq (tgt := 1027) hx hb dL_law_1022 (by decide) (fun _ => ?_) (fun h9 => absurd hs2 h9)
  refine lv_iload hx hb dL_law_1027 (lv_at hl 1 rfl) ?_
  refine lv_if_ne (tgt := 1044) hx hb dL_law_1029 (by decide) (fun h8 => ?_) (fun h8 => ?_)
  · skip
    refine lv_goto (tgt := 2254) hx hb dL_law_1044 (by decide) ?_
    refine W.widen (k := C + 6) (n := D + 36) (by omega) (by omega) ?_
    exact hk H locs _ _ _ ls hs4 hP hD hS (lv_sub hl [2, 3, 4, 5, 6, 7] rfl)
  · obtain ⟨h7, h6⟩ := hs3 h8
    refine lv_aload_n hx hb dL_law_1032 rfl (lv_at hl 5 rfl) ?_
    refine lv_iconst (v := 0) hx hb dL_law_1033 (by decide) ?_
    have e0 : zo (f_X5_step σ (xs (x5 + 1).toNatClampNeg)).1 (f_X5_step σ (xs (x5 + 1).toNatClampNeg)).2.1.toInt64 o (0 : Int32).toNatClampNeg = (f_X5_step σ (xs (x5 + 1).toNatClampNeg)).2.1.toInt64 := by unfold zo; rw [if_pos h7]; exact if_pos rfl
    refine va_lald hx hb hE.1 hP 51 3 rfl rfl z_in01 dL_law_1034 ?_
    rw [e0]
    refine lv_iload hx hb dL_law_1035 (lv_at hl 0 rfl) ?_
    refine lv_i2l (v := (f_X6_step (f_X5_step σ (xs (x5 + 1).toNatClampNeg)).2.2 (xs (x5 + 1).toNatClampNeg)).1.toInt64) hx hb dL_law_1037 rfl ?_
    refine W.lcmp hx hb dL_law_1038 ?_
    refine lv_if_eq (tgt := 1044) hx hb dL_law_1039 (by decide) (fun _ => ?_) (fun h9 => absurd (by rw [h6]; exact lg_cmp_self _) h9)
    refine lv_goto (tgt := 2254) hx hb dL_law_1044 (by decide) ?_
    refine W.widen (k := C + 6) (n := D + 36) (by omega) (by omega) ?_
    exact hk H locs _ _ _ ls hs4 hP hD hS (lv_sub hl [2, 3, 4, 5, 6, 7] rfl)
set_option maxRecDepth 100000 in
theorem lc_13 {p : Program} {l : Launch} {e : Env} {s : State} {m : MethodId} {below : List Frame} {meth : Method} {c : Code} {b L : Nat} {xs : Nat → Int32} {G : va_G} {cs : Nat → ClassId} (K : zCtx p l s m meth c b L xs G cs) (ad : Nat → Nat) (qo qd : Nat) {Q : State → Prop} {C D t : Nat} {σ : zS} {o : Nat → Int64} {d : Nat → UInt64} {H : Heap} {locs : List Loc} {ls : Array Slot} {x5 : Int32} (hi : 6 * t + 6 ≤ L) (hL : L ≤ 3072) (hR : zR t σ) (hC : C + 6 ≤ 3165) (hC2 : D + 36 ≤ 120764)
    (hP : va_P G vwCl (zw cs ad σ (zt cs qo o qd d)) H) (hD : va_D (fun q => s.heap.size ≤ q) (zw cs ad σ (zt cs qo o qd d))) (hS : va_S (fun q => s.heap.size ≤ q) s.heap H locs) (ex : x5 = nI (6 * t)) (hl : lv_has ls 9 [(0, .ref b), (1, .ref (ad 0)), (2, .ref (ad 29)), (3, .ref qo), (4, .ref qd), (5, .int x5)])
    (hk : ∀ (H : Heap) (locs : List Loc) (σ : zS) (o : Nat → Int64) (d : Nat → UInt64) (ls : Array Slot), zR (t + 1) σ → va_P G vwCl (zw cs ad σ (zt cs qo o qd d)) H → va_D (fun q => s.heap.size ≤ q) (zw cs ad σ (zt cs qo o qd d)) → va_S (fun q => s.heap.size ≤ q) s.heap H locs → lv_has ls 9 [(0, .ref b), (1, .ref (ad 0)), (2, .ref (ad 29)), (3, .ref qo), (4, .ref qd), (5, .int x5)] → W p l e room_1 s m #[Value.ref b] below meth c H locs (C + 6) (D + 36) Q (F0 m 2254 ls [])) :
    W p l e room_1 s m #[Value.ref b] below meth c H locs C D Q (F0 m 1047 ls []) := by
  obtain ⟨hx, hb, hr, hml, hown, hts, htc, hX, hbl, hfl, hE⟩ := K
  have hts2 : ∀ w ∈ wsLaw2, w.before #[Value.ref b] s = true := fun w h => (List.mem_append.mp h).elim (htc w) (hts w)
  have hA : ∀ q : Nat, s.heap.size ≤ q → (fun q : Nat => s.heap.size ≤ q) q := fun _ h => h
  have hbA : ¬ (fun q : Nat => s.heap.size ≤ q) b := Nat.not_le.mpr hbl
  have hin1 : vp_in (x5 + 1) L := by rw [ex, show (1 : Int32) = nI 1 from rfl, nI_add]; exact vp_in_nI (by omega) (by omega)
  obtain ⟨hI, hs2, hs3, hs4⟩ := sim_undo hR (by omega) (xs (x5 + 1).toNatClampNeg)
  refine lv_aload_n hx hb dL_law_1047 rfl (lv_at hl 1 rfl) ?_
  refine lv_aload_n hx hb dL_law_1048 rfl (lv_at hl 0 rfl) ?_
  refine lv_iload hx hb dL_law_1049 (lv_at hl 5 rfl) ?_
  refine lv_iconst (v := 1) hx hb dL_law_1051 (by decide) ?_
  refine lv_iadd hx hb dL_law_1052 ?_
  refine va_sld hx hb hX hbl hbA hS hin1 dL_law_1053 ?_
  refine lv_aload_n hx hb dL_law_1054 rfl (lv_at hl 3 rfl) ?_
  refine zai (vx_runSW (As := [.ref (ad 0), .int (xs (x5 + 1).toNatClampNeg), .ref qo]) (rest := []) ⟨hx, hb, hml, hown, hts⟩ (c_L_undo l hfl G cs ad qo o qd d σ (xs (x5 + 1).toNatClampNeg)  H.size) (vx_cwSW 3 hts2 (z_gl rfl (up2 gL_law_L_undo) zclG) rfl rfl rfl (by decide +kernel) ⟨Nat.le_of_ble_eq_true rfl, Nat.le_of_ble_eq_true rfl⟩) (zps hE hP hD hS hA) rfl rfl hl.1 rfl (lv_room (Nat.le_of_ble_eq_true rfl)) dL_law_1055 ⟨show C + 4 ≤ 3165 by omega, show D + 24 ≤ 120764 by omega⟩) hD hS hA (fun H locs hP hD hS => ?_)
  refine lv_istore (lv' := [(6, .int (f_L_undo (f_X5_undo σ (xs (x5 + 1).toNatClampNeg)).1)), (0, .ref b), (1, .ref (ad 0)), (2, .ref (ad 29)), (3, .ref qo), (4, .ref qd), (5, .int x5)]) hx hb dL_law_1058 hl (by decide) rfl (fun ls hl => ?_)
  refine lv_aload_n hx hb dL_law_1060 rfl (lv_at hl 3 rfl) ?_
  refine lv_aload_n hx hb dL_law_1061 rfl (lv_at hl 1 rfl) ?_
  refine lv_iload hx hb dL_law_1062 (lv_at hl 6 rfl) ?_
  refine lv_iconst (v := 1) hx hb dL_law_1064 (by decide) ?_
  refine lv_iadd hx hb dL_law_1065 ?_
  refine va_sld hx hb hX hbl hbA hS hin1 dL_law_1066 ?_
  refine zai (va_runV (As := [.int (xs (x5 + 1).toNatClampNeg)]) (rest := []) ⟨hx, hb, hml, hown, hts⟩ (c_X6_undo l G cs ad (zt cs qo (zo (f_X5_undo σ (xs (x5 + 1).toNatClampNeg)).1 (f_X5_undo σ (xs (x5 + 1).toNatClampNeg)).2.1.toInt64 o) qd d) (f_X5_undo σ (xs (x5 + 1).toNatClampNeg)).2.2 (xs (x5 + 1).toNatClampNeg) hI H.size) (cwV 1 hts gL_law_X6_undo rfl rfl rfl (by decide +kernel) ⟨Nat.le_of_ble_eq_true rfl, Nat.le_of_ble_eq_true rfl⟩) (zpv hE hP hD hS hA (zg_29 cs ad (f_X5_undo σ (xs (x5 + 1).toNatClampNeg)).2.2 (zt cs qo (zo (f_X5_undo σ (xs (x5 + 1).toNatClampNeg)).1 (f_X5_undo σ (xs (x5 + 1).toNatClampNeg)).2.1.toInt64 o) qd d)) rfl) rfl rfl hl.1 rfl (lv_room (Nat.le_of_ble_eq_true rfl)) dL_law_1067 ⟨show C + 4 + 0 ≤ 3165 by omega, show D + 24 + 0 ≤ 120764 by omega⟩) hD hS hA (fun H locs hP hD hS => ?_)
  refine lv_istore (lv' := [(7, .int (f_X6_undo (f_X5_undo σ (xs (x5 + 1).toNatClampNeg)).2.2 (xs (x5 + 1).toNatClampNeg)).1), (6, .int (f_L_undo (f_X5_undo σ (xs (x5 + 1).toNatClampNeg)).1)), (0, .ref b), (1, .ref (ad 0)), (2, .ref (ad 29)), (3, .ref qo), (4, .ref qd), (5, .int x5)]) hx hb dL_law_1070 hl (by decide) rfl (fun ls hl => ?_)
  refine lv_aload_n hx hb dL_law_1072 rfl (lv_at hl 4 rfl) ?_
  refine zai (va_runV (As := []) (rest := []) ⟨hx, hb, hml, hown, hts⟩ (c_X6_thrown l G cs ad (zt cs qo (zo (f_X5_undo σ (xs (x5 + 1).toNatClampNeg)).1 (f_X5_undo σ (xs (x5 + 1).toNatClampNeg)).2.1.toInt64 o) qd d) (f_X6_undo (f_X5_undo σ (xs (x5 + 1).toNatClampNeg)).2.2 (xs (x5 + 1).toNatClampNeg)).2 H.size) (cwV 0 hts gL_law_X6_thrown rfl rfl rfl (by decide +kernel) ⟨Nat.le_of_ble_eq_true rfl, Nat.le_of_ble_eq_true rfl⟩) (zpv hE hP hD hS hA (zg_29 cs ad (f_X6_undo (f_X5_undo σ (xs (x5 + 1).toNatClampNeg)).2.2 (xs (x5 + 1).toNatClampNeg)).2 (zt cs qo (zo (f_X5_undo σ (xs (x5 + 1).toNatClampNeg)).1 (f_X5_undo σ (xs (x5 + 1).toNatClampNeg)).2.1.toInt64 o) qd d)) rfl) rfl rfl hl.1 rfl (lv_room (Nat.le_of_ble_eq_true rfl)) dL_law_1073 ⟨show C + 4 + 0 + 0 ≤ 3165 by omega, show D + 24 + 0 + 0 ≤ 120764 by omega⟩) hD hS hA (fun H locs hP hD hS => ?_)
  refine lv_iload hx hb dL_law_1076 (lv_at hl 1 rfl) ?_
  refine lv_icmp_eq (tgt := 1083) hx hb dL_law_1078 (by decide) (fun _ => ?_) (fun h9 => absurd hs2 h9)
  refine lv_iload hx hb dL_law_1083 (lv_at hl 1 rfl) ?_
  refine lv_if_ne (tgt := 1100) hx hb dL_law_1085 (by decide) (fun h8 => ?_) (fun h8 => ?_)
  · skip
    refine lv_goto (tgt := 2254) hx hb dL_law_1100 (by decide) ?_
    refine W.widen (k := C + 6) (n := D + 36) (by omega) (by omega) ?_
    exact hk H locs _ _ _ ls hs4 hP hD hS (lv_sub hl [2, 3, 4, 5, 6, 7] rfl)
  · obtain ⟨h7, h6⟩ := hs3 h8
    refine lv_aload_n hx hb dL_law_1088 rfl (lv_at hl 5 rfl) ?_
    refine lv_iconst (v := 0) hx hb dL_law_1089 (by decide) ?_
    have e0 : zo (f_X5_undo σ (xs (x5 + 1).toNatClampNeg)).1 (f_X5_undo σ (xs (x5 + 1).toNatClampNeg)).2.1.toInt64 o (0 : Int32).toNatClampNeg = (f_X5_undo σ (xs (x5 + 1).toNatClampNeg)).2.1.toInt64 := by unfold zo; rw [if_pos h7]; exact if_pos rfl
    refine va_lald hx hb hE.1 hP 51 3 rfl rfl z_in01 dL_law_1090 ?_
    rw [e0]
    refine lv_iload hx hb dL_law_1091 (lv_at hl 0 rfl) ?_
    refine lv_i2l (v := (f_X6_undo (f_X5_undo σ (xs (x5 + 1).toNatClampNeg)).2.2 (xs (x5 + 1).toNatClampNeg)).1.toInt64) hx hb dL_law_1093 rfl ?_
    refine W.lcmp hx hb dL_law_1094 ?_
    refine lv_if_eq (tgt := 1100) hx hb dL_law_1095 (by decide) (fun _ => ?_) (fun h9 => absurd (by rw [h6]; exact lg_cmp_self _) h9)
    refine lv_goto (tgt := 2254) hx hb dL_law_1100 (by decide) ?_
    refine W.widen (k := C + 6) (n := D + 36) (by omega) (by omega) ?_
    exact hk H locs _ _ _ ls hs4 hP hD hS (lv_sub hl [2, 3, 4, 5, 6, 7] rfl)
set_option maxRecDepth 100000 in
theorem lc_14 {p : Program} {l : Launch} {e : Env} {s : State} {m : MethodId} {below : List Frame} {meth : Method} {c : Code} {b L : Nat} {xs : Nat → Int32} {G : va_G} {cs : Nat → ClassId} (K : zCtx p l s m meth c b L xs G cs) (ad : Nat → Nat) (qo qd : Nat) {Q : State → Prop} {C D t : Nat} {σ : zS} {o : Nat → Int64} {d : Nat → UInt64} {H : Heap} {locs : List Loc} {ls : Array Slot} {x5 : Int32} (hi : 6 * t + 6 ≤ L) (hL : L ≤ 3072) (hR : zR t σ) (hC : C + 6 ≤ 3165) (hC2 : D + 36 ≤ 120764)
    (hP : va_P G vwCl (zw cs ad σ (zt cs qo o qd d)) H) (hD : va_D (fun q => s.heap.size ≤ q) (zw cs ad σ (zt cs qo o qd d))) (hS : va_S (fun q => s.heap.size ≤ q) s.heap H locs) (ex : x5 = nI (6 * t)) (hl : lv_has ls 9 [(0, .ref b), (1, .ref (ad 0)), (2, .ref (ad 29)), (3, .ref qo), (4, .ref qd), (5, .int x5)])
    (hk : ∀ (H : Heap) (locs : List Loc) (σ : zS) (o : Nat → Int64) (d : Nat → UInt64) (ls : Array Slot), zR (t + 1) σ → va_P G vwCl (zw cs ad σ (zt cs qo o qd d)) H → va_D (fun q => s.heap.size ≤ q) (zw cs ad σ (zt cs qo o qd d)) → va_S (fun q => s.heap.size ≤ q) s.heap H locs → lv_has ls 9 [(0, .ref b), (1, .ref (ad 0)), (2, .ref (ad 29)), (3, .ref qo), (4, .ref qd), (5, .int x5)] → W p l e room_1 s m #[Value.ref b] below meth c H locs (C + 6) (D + 36) Q (F0 m 2254 ls [])) :
    W p l e room_1 s m #[Value.ref b] below meth c H locs C D Q (F0 m 1103 ls []) := by
  obtain ⟨hx, hb, hr, hml, hown, hts, htc, hX, hbl, hfl, hE⟩ := K
  have hts2 : ∀ w ∈ wsLaw2, w.before #[Value.ref b] s = true := fun w h => (List.mem_append.mp h).elim (htc w) (hts w)
  have hA : ∀ q : Nat, s.heap.size ≤ q → (fun q : Nat => s.heap.size ≤ q) q := fun _ h => h
  have hbA : ¬ (fun q : Nat => s.heap.size ≤ q) b := Nat.not_le.mpr hbl
  have hin1 : vp_in (x5 + 1) L := by rw [ex, show (1 : Int32) = nI 1 from rfl, nI_add]; exact vp_in_nI (by omega) (by omega)
  obtain ⟨hI, hs2, hs3, hs4⟩ := sim_reset hR (by omega) (xs (x5 + 1).toNatClampNeg)
  refine lv_aload_n hx hb dL_law_1103 rfl (lv_at hl 1 rfl) ?_
  refine lv_aload_n hx hb dL_law_1104 rfl (lv_at hl 0 rfl) ?_
  refine lv_iload hx hb dL_law_1105 (lv_at hl 5 rfl) ?_
  refine lv_iconst (v := 1) hx hb dL_law_1107 (by decide) ?_
  refine lv_iadd hx hb dL_law_1108 ?_
  refine va_sld hx hb hX hbl hbA hS hin1 dL_law_1109 ?_
  refine lv_aload_n hx hb dL_law_1110 rfl (lv_at hl 3 rfl) ?_
  refine zai (vx_runSW (As := [.ref (ad 0), .int (xs (x5 + 1).toNatClampNeg), .ref qo]) (rest := []) ⟨hx, hb, hml, hown, hts⟩ (c_L_reset l hfl G cs ad qo o qd d σ (xs (x5 + 1).toNatClampNeg)  H.size) (vx_cwSW 3 hts2 (z_gl rfl (up2 gL_law_L_reset) zclG) rfl rfl rfl (by decide +kernel) ⟨Nat.le_of_ble_eq_true rfl, Nat.le_of_ble_eq_true rfl⟩) (zps hE hP hD hS hA) rfl rfl hl.1 rfl (lv_room (Nat.le_of_ble_eq_true rfl)) dL_law_1111 ⟨show C + 2 ≤ 3165 by omega, show D + 12 ≤ 120764 by omega⟩) hD hS hA (fun H locs hP hD hS => ?_)
  refine lv_istore (lv' := [(6, .int (f_L_reset (f_X5_reset σ (xs (x5 + 1).toNatClampNeg)).1)), (0, .ref b), (1, .ref (ad 0)), (2, .ref (ad 29)), (3, .ref qo), (4, .ref qd), (5, .int x5)]) hx hb dL_law_1114 hl (by decide) rfl (fun ls hl => ?_)
  refine lv_aload_n hx hb dL_law_1116 rfl (lv_at hl 3 rfl) ?_
  refine lv_aload_n hx hb dL_law_1117 rfl (lv_at hl 1 rfl) ?_
  refine lv_iload hx hb dL_law_1118 (lv_at hl 6 rfl) ?_
  refine lv_iconst (v := 1) hx hb dL_law_1120 (by decide) ?_
  refine lv_iadd hx hb dL_law_1121 ?_
  refine va_sld hx hb hX hbl hbA hS hin1 dL_law_1122 ?_
  refine zai (va_runV (As := [.int (xs (x5 + 1).toNatClampNeg)]) (rest := []) ⟨hx, hb, hml, hown, hts⟩ (c_X6_reset l G cs ad (zt cs qo (zo (f_X5_reset σ (xs (x5 + 1).toNatClampNeg)).1 (f_X5_reset σ (xs (x5 + 1).toNatClampNeg)).2.1.toInt64 o) qd d) (f_X5_reset σ (xs (x5 + 1).toNatClampNeg)).2.2 (xs (x5 + 1).toNatClampNeg) hI H.size) (cwV 1 hts gL_law_X6_reset rfl rfl rfl (by decide +kernel) ⟨Nat.le_of_ble_eq_true rfl, Nat.le_of_ble_eq_true rfl⟩) (zpv hE hP hD hS hA (zg_29 cs ad (f_X5_reset σ (xs (x5 + 1).toNatClampNeg)).2.2 (zt cs qo (zo (f_X5_reset σ (xs (x5 + 1).toNatClampNeg)).1 (f_X5_reset σ (xs (x5 + 1).toNatClampNeg)).2.1.toInt64 o) qd d)) rfl) rfl rfl hl.1 rfl (lv_room (Nat.le_of_ble_eq_true rfl)) dL_law_1123 ⟨show C + 2 + 0 ≤ 3165 by omega, show D + 12 + 0 ≤ 120764 by omega⟩) hD hS hA (fun H locs hP hD hS => ?_)
  refine lv_istore (lv' := [(7, .int (f_X6_reset (f_X5_reset σ (xs (x5 + 1).toNatClampNeg)).2.2 (xs (x5 + 1).toNatClampNeg)).1), (6, .int (f_L_reset (f_X5_reset σ (xs (x5 + 1).toNatClampNeg)).1)), (0, .ref b), (1, .ref (ad 0)), (2, .ref (ad 29)), (3, .ref qo), (4, .ref qd), (5, .int x5)]) hx hb dL_law_1126 hl (by decide) rfl (fun ls hl => ?_)
  refine lv_aload_n hx hb dL_law_1128 rfl (lv_at hl 4 rfl) ?_
  refine zai (va_runV (As := []) (rest := []) ⟨hx, hb, hml, hown, hts⟩ (c_X6_thrown l G cs ad (zt cs qo (zo (f_X5_reset σ (xs (x5 + 1).toNatClampNeg)).1 (f_X5_reset σ (xs (x5 + 1).toNatClampNeg)).2.1.toInt64 o) qd d) (f_X6_reset (f_X5_reset σ (xs (x5 + 1).toNatClampNeg)).2.2 (xs (x5 + 1).toNatClampNeg)).2 H.size) (cwV 0 hts gL_law_X6_thrown rfl rfl rfl (by decide +kernel) ⟨Nat.le_of_ble_eq_true rfl, Nat.le_of_ble_eq_true rfl⟩) (zpv hE hP hD hS hA (zg_29 cs ad (f_X6_reset (f_X5_reset σ (xs (x5 + 1).toNatClampNeg)).2.2 (xs (x5 + 1).toNatClampNeg)).2 (zt cs qo (zo (f_X5_reset σ (xs (x5 + 1).toNatClampNeg)).1 (f_X5_reset σ (xs (x5 + 1).toNatClampNeg)).2.1.toInt64 o) qd d)) rfl) rfl rfl hl.1 rfl (lv_room (Nat.le_of_ble_eq_true rfl)) dL_law_1129 ⟨show C + 2 + 0 + 0 ≤ 3165 by omega, show D + 12 + 0 + 0 ≤ 120764 by omega⟩) hD hS hA (fun H locs hP hD hS => ?_)
  refine lv_iload hx hb dL_law_1132 (lv_at hl 1 rfl) ?_
  refine lv_icmp_eq (tgt := 1139) hx hb dL_law_1134 (by decide) (fun _ => ?_) (fun h9 => absurd hs2 h9)
  refine lv_iload hx hb dL_law_1139 (lv_at hl 1 rfl) ?_
  refine lv_if_ne (tgt := 1156) hx hb dL_law_1141 (by decide) (fun h8 => ?_) (fun h8 => ?_)
  · skip
    refine lv_goto (tgt := 2254) hx hb dL_law_1156 (by decide) ?_
    refine W.widen (k := C + 6) (n := D + 36) (by omega) (by omega) ?_
    exact hk H locs _ _ _ ls hs4 hP hD hS (lv_sub hl [2, 3, 4, 5, 6, 7] rfl)
  · obtain ⟨h7, h6⟩ := hs3 h8
    refine lv_aload_n hx hb dL_law_1144 rfl (lv_at hl 5 rfl) ?_
    refine lv_iconst (v := 0) hx hb dL_law_1145 (by decide) ?_
    have e0 : zo (f_X5_reset σ (xs (x5 + 1).toNatClampNeg)).1 (f_X5_reset σ (xs (x5 + 1).toNatClampNeg)).2.1.toInt64 o (0 : Int32).toNatClampNeg = (f_X5_reset σ (xs (x5 + 1).toNatClampNeg)).2.1.toInt64 := by unfold zo; rw [if_pos h7]; exact if_pos rfl
    refine va_lald hx hb hE.1 hP 51 3 rfl rfl z_in01 dL_law_1146 ?_
    rw [e0]
    refine lv_iload hx hb dL_law_1147 (lv_at hl 0 rfl) ?_
    refine lv_i2l (v := (f_X6_reset (f_X5_reset σ (xs (x5 + 1).toNatClampNeg)).2.2 (xs (x5 + 1).toNatClampNeg)).1.toInt64) hx hb dL_law_1149 rfl ?_
    refine W.lcmp hx hb dL_law_1150 ?_
    refine lv_if_eq (tgt := 1156) hx hb dL_law_1151 (by decide) (fun _ => ?_) (fun h9 => absurd (by rw [h6]; exact lg_cmp_self _) h9)
    refine lv_goto (tgt := 2254) hx hb dL_law_1156 (by decide) ?_
    refine W.widen (k := C + 6) (n := D + 36) (by omega) (by omega) ?_
    exact hk H locs _ _ _ ls hs4 hP hD hS (lv_sub hl [2, 3, 4, 5, 6, 7] rfl)
set_option maxRecDepth 100000 in
theorem lc_15 {p : Program} {l : Launch} {e : Env} {s : State} {m : MethodId} {below : List Frame} {meth : Method} {c : Code} {b L : Nat} {xs : Nat → Int32} {G : va_G} {cs : Nat → ClassId} (K : zCtx p l s m meth c b L xs G cs) (ad : Nat → Nat) (qo qd : Nat) {Q : State → Prop} {C D t : Nat} {σ : zS} {o : Nat → Int64} {d : Nat → UInt64} {H : Heap} {locs : List Loc} {ls : Array Slot} {x5 : Int32} (hi : 6 * t + 6 ≤ L) (hL : L ≤ 3072) (hR : zR t σ) (hC : C + 6 ≤ 3165) (hC2 : D + 36 ≤ 120764)
    (hP : va_P G vwCl (zw cs ad σ (zt cs qo o qd d)) H) (hD : va_D (fun q => s.heap.size ≤ q) (zw cs ad σ (zt cs qo o qd d))) (hS : va_S (fun q => s.heap.size ≤ q) s.heap H locs) (ex : x5 = nI (6 * t)) (hl : lv_has ls 9 [(0, .ref b), (1, .ref (ad 0)), (2, .ref (ad 29)), (3, .ref qo), (4, .ref qd), (5, .int x5)])
    (hk : ∀ (H : Heap) (locs : List Loc) (σ : zS) (o : Nat → Int64) (d : Nat → UInt64) (ls : Array Slot), zR (t + 1) σ → va_P G vwCl (zw cs ad σ (zt cs qo o qd d)) H → va_D (fun q => s.heap.size ≤ q) (zw cs ad σ (zt cs qo o qd d)) → va_S (fun q => s.heap.size ≤ q) s.heap H locs → lv_has ls 9 [(0, .ref b), (1, .ref (ad 0)), (2, .ref (ad 29)), (3, .ref qo), (4, .ref qd), (5, .int x5)] → W p l e room_1 s m #[Value.ref b] below meth c H locs (C + 6) (D + 36) Q (F0 m 2254 ls [])) :
    W p l e room_1 s m #[Value.ref b] below meth c H locs C D Q (F0 m 1159 ls []) := by
  obtain ⟨hx, hb, hr, hml, hown, hts, htc, hX, hbl, hfl, hE⟩ := K
  have hts2 : ∀ w ∈ wsLaw2, w.before #[Value.ref b] s = true := fun w h => (List.mem_append.mp h).elim (htc w) (hts w)
  have hA : ∀ q : Nat, s.heap.size ≤ q → (fun q : Nat => s.heap.size ≤ q) q := fun _ h => h
  have hbA : ¬ (fun q : Nat => s.heap.size ≤ q) b := Nat.not_le.mpr hbl
  obtain ⟨hI, hs2, hs3, hs4⟩ := sim_drill hR (by omega) 
  refine lv_aload_n hx hb dL_law_1159 rfl (lv_at hl 1 rfl) ?_
  refine lv_aload_n hx hb dL_law_1160 rfl (lv_at hl 3 rfl) ?_
  refine zai (vx_runSW (As := [.ref (ad 0), .ref qo]) (rest := []) ⟨hx, hb, hml, hown, hts⟩ (c_L_drill l hfl G cs ad qo o qd d σ   H.size) (vx_cwSW 2 hts2 (z_gl rfl (up2 gL_law_L_drill) zclG) rfl rfl rfl (by decide +kernel) ⟨Nat.le_of_ble_eq_true rfl, Nat.le_of_ble_eq_true rfl⟩) (zps hE hP hD hS hA) rfl rfl hl.1 rfl (lv_room (Nat.le_of_ble_eq_true rfl)) dL_law_1161 ⟨show C + 1 ≤ 3165 by omega, show D + 6 ≤ 120764 by omega⟩) hD hS hA (fun H locs hP hD hS => ?_)
  refine lv_istore (lv' := [(6, .int (f_L_drill (f_X5_drill σ ).1)), (0, .ref b), (1, .ref (ad 0)), (2, .ref (ad 29)), (3, .ref qo), (4, .ref qd), (5, .int x5)]) hx hb dL_law_1164 hl (by decide) rfl (fun ls hl => ?_)
  refine lv_aload_n hx hb dL_law_1166 rfl (lv_at hl 3 rfl) ?_
  refine zai (va_runV (As := []) (rest := []) ⟨hx, hb, hml, hown, hts⟩ (c_X6_drill l G cs ad (zt cs qo (zo (f_X5_drill σ ).1 (f_X5_drill σ ).2.1.toInt64 o) qd d) (f_X5_drill σ ).2.2  hI H.size) (cwV 0 hts gL_law_X6_drill rfl rfl rfl (by decide +kernel) ⟨Nat.le_of_ble_eq_true rfl, Nat.le_of_ble_eq_true rfl⟩) (zpv hE hP hD hS hA (zg_29 cs ad (f_X5_drill σ ).2.2 (zt cs qo (zo (f_X5_drill σ ).1 (f_X5_drill σ ).2.1.toInt64 o) qd d)) rfl) rfl rfl hl.1 rfl (lv_room (Nat.le_of_ble_eq_true rfl)) dL_law_1167 ⟨show C + 1 + 0 ≤ 3165 by omega, show D + 6 + 0 ≤ 120764 by omega⟩) hD hS hA (fun H locs hP hD hS => ?_)
  refine lv_istore (lv' := [(7, .int (f_X6_drill (f_X5_drill σ ).2.2 ).1), (6, .int (f_L_drill (f_X5_drill σ ).1)), (0, .ref b), (1, .ref (ad 0)), (2, .ref (ad 29)), (3, .ref qo), (4, .ref qd), (5, .int x5)]) hx hb dL_law_1170 hl (by decide) rfl (fun ls hl => ?_)
  refine lv_aload_n hx hb dL_law_1172 rfl (lv_at hl 4 rfl) ?_
  refine zai (va_runV (As := []) (rest := []) ⟨hx, hb, hml, hown, hts⟩ (c_X6_thrown l G cs ad (zt cs qo (zo (f_X5_drill σ ).1 (f_X5_drill σ ).2.1.toInt64 o) qd d) (f_X6_drill (f_X5_drill σ ).2.2 ).2 H.size) (cwV 0 hts gL_law_X6_thrown rfl rfl rfl (by decide +kernel) ⟨Nat.le_of_ble_eq_true rfl, Nat.le_of_ble_eq_true rfl⟩) (zpv hE hP hD hS hA (zg_29 cs ad (f_X6_drill (f_X5_drill σ ).2.2 ).2 (zt cs qo (zo (f_X5_drill σ ).1 (f_X5_drill σ ).2.1.toInt64 o) qd d)) rfl) rfl rfl hl.1 rfl (lv_room (Nat.le_of_ble_eq_true rfl)) dL_law_1173 ⟨show C + 1 + 0 + 0 ≤ 3165 by omega, show D + 6 + 0 + 0 ≤ 120764 by omega⟩) hD hS hA (fun H locs hP hD hS => ?_)
  refine lv_iload hx hb dL_law_1176 (lv_at hl 1 rfl) ?_
  refine lv_icmp_eq (tgt := 1183) hx hb dL_law_1178 (by decide) (fun _ => ?_) (fun h9 => absurd hs2 h9)
  refine lv_iload hx hb dL_law_1183 (lv_at hl 1 rfl) ?_
  refine lv_if_ne (tgt := 1200) hx hb dL_law_1185 (by decide) (fun h8 => ?_) (fun h8 => ?_)
  · skip
    refine lv_goto (tgt := 2254) hx hb dL_law_1200 (by decide) ?_
    refine W.widen (k := C + 6) (n := D + 36) (by omega) (by omega) ?_
    exact hk H locs _ _ _ ls hs4 hP hD hS (lv_sub hl [2, 3, 4, 5, 6, 7] rfl)
  · obtain ⟨h7, h6⟩ := hs3 h8
    refine lv_aload_n hx hb dL_law_1188 rfl (lv_at hl 5 rfl) ?_
    refine lv_iconst (v := 0) hx hb dL_law_1189 (by decide) ?_
    have e0 : zo (f_X5_drill σ ).1 (f_X5_drill σ ).2.1.toInt64 o (0 : Int32).toNatClampNeg = (f_X5_drill σ ).2.1.toInt64 := by unfold zo; rw [if_pos h7]; exact if_pos rfl
    refine va_lald hx hb hE.1 hP 51 3 rfl rfl z_in01 dL_law_1190 ?_
    rw [e0]
    refine lv_iload hx hb dL_law_1191 (lv_at hl 0 rfl) ?_
    refine lv_i2l (v := (f_X6_drill (f_X5_drill σ ).2.2 ).1.toInt64) hx hb dL_law_1193 rfl ?_
    refine W.lcmp hx hb dL_law_1194 ?_
    refine lv_if_eq (tgt := 1200) hx hb dL_law_1195 (by decide) (fun _ => ?_) (fun h9 => absurd (by rw [h6]; exact lg_cmp_self _) h9)
    refine lv_goto (tgt := 2254) hx hb dL_law_1200 (by decide) ?_
    refine W.widen (k := C + 6) (n := D + 36) (by omega) (by omega) ?_
    exact hk H locs _ _ _ ls hs4 hP hD hS (lv_sub hl [2, 3, 4, 5, 6, 7] rfl)
set_option maxRecDepth 100000 in
theorem lc_16 {p : Program} {l : Launch} {e : Env} {s : State} {m : MethodId} {below : List Frame} {meth : Method} {c : Code} {b L : Nat} {xs : Nat → Int32} {G : va_G} {cs : Nat → ClassId} (K : zCtx p l s m meth c b L xs G cs) (ad : Nat → Nat) (qo qd : Nat) {Q : State → Prop} {C D t : Nat} {σ : zS} {o : Nat → Int64} {d : Nat → UInt64} {H : Heap} {locs : List Loc} {ls : Array Slot} {x5 : Int32} (hi : 6 * t + 6 ≤ L) (hL : L ≤ 3072) (hR : zR t σ) (hC : C + 6 ≤ 3165) (hC2 : D + 36 ≤ 120764)
    (hP : va_P G vwCl (zw cs ad σ (zt cs qo o qd d)) H) (hD : va_D (fun q => s.heap.size ≤ q) (zw cs ad σ (zt cs qo o qd d))) (hS : va_S (fun q => s.heap.size ≤ q) s.heap H locs) (ex : x5 = nI (6 * t)) (hl : lv_has ls 9 [(0, .ref b), (1, .ref (ad 0)), (2, .ref (ad 29)), (3, .ref qo), (4, .ref qd), (5, .int x5)])
    (hk : ∀ (H : Heap) (locs : List Loc) (σ : zS) (o : Nat → Int64) (d : Nat → UInt64) (ls : Array Slot), zR (t + 1) σ → va_P G vwCl (zw cs ad σ (zt cs qo o qd d)) H → va_D (fun q => s.heap.size ≤ q) (zw cs ad σ (zt cs qo o qd d)) → va_S (fun q => s.heap.size ≤ q) s.heap H locs → lv_has ls 9 [(0, .ref b), (1, .ref (ad 0)), (2, .ref (ad 29)), (3, .ref qo), (4, .ref qd), (5, .int x5)] → W p l e room_1 s m #[Value.ref b] below meth c H locs (C + 6) (D + 36) Q (F0 m 2254 ls [])) :
    W p l e room_1 s m #[Value.ref b] below meth c H locs C D Q (F0 m 1203 ls []) := by
  obtain ⟨hx, hb, hr, hml, hown, hts, htc, hX, hbl, hfl, hE⟩ := K
  have hts2 : ∀ w ∈ wsLaw2, w.before #[Value.ref b] s = true := fun w h => (List.mem_append.mp h).elim (htc w) (hts w)
  have hA : ∀ q : Nat, s.heap.size ≤ q → (fun q : Nat => s.heap.size ≤ q) q := fun _ h => h
  have hbA : ¬ (fun q : Nat => s.heap.size ≤ q) b := Nat.not_le.mpr hbl
  have hin1 : vp_in (x5 + 1) L := by rw [ex, show (1 : Int32) = nI 1 from rfl, nI_add]; exact vp_in_nI (by omega) (by omega)
  obtain ⟨hI, hs2, hs3, hs4⟩ := sim_openPermit hR (by omega) (xs (x5 + 1).toNatClampNeg)
  refine lv_aload_n hx hb dL_law_1203 rfl (lv_at hl 1 rfl) ?_
  refine lv_aload_n hx hb dL_law_1204 rfl (lv_at hl 0 rfl) ?_
  refine lv_iload hx hb dL_law_1205 (lv_at hl 5 rfl) ?_
  refine lv_iconst (v := 1) hx hb dL_law_1207 (by decide) ?_
  refine lv_iadd hx hb dL_law_1208 ?_
  refine va_sld hx hb hX hbl hbA hS hin1 dL_law_1209 ?_
  refine lv_aload_n hx hb dL_law_1210 rfl (lv_at hl 3 rfl) ?_
  refine zai (vx_runSW (As := [.ref (ad 0), .int (xs (x5 + 1).toNatClampNeg), .ref qo]) (rest := []) ⟨hx, hb, hml, hown, hts⟩ (c_L_openPermit l hfl G cs ad qo o qd d σ (xs (x5 + 1).toNatClampNeg)  H.size) (vx_cwSW 3 hts2 (z_gl rfl (up2 gL_law_L_openPermit) zclG) rfl rfl rfl (by decide +kernel) ⟨Nat.le_of_ble_eq_true rfl, Nat.le_of_ble_eq_true rfl⟩) (zps hE hP hD hS hA) rfl rfl hl.1 rfl (lv_room (Nat.le_of_ble_eq_true rfl)) dL_law_1211 ⟨show C + 3 ≤ 3165 by omega, show D + 18 ≤ 120764 by omega⟩) hD hS hA (fun H locs hP hD hS => ?_)
  refine lv_istore (lv' := [(6, .int (f_L_openPermit (f_X5_openPermit σ (xs (x5 + 1).toNatClampNeg)).1)), (0, .ref b), (1, .ref (ad 0)), (2, .ref (ad 29)), (3, .ref qo), (4, .ref qd), (5, .int x5)]) hx hb dL_law_1214 hl (by decide) rfl (fun ls hl => ?_)
  refine lv_aload_n hx hb dL_law_1216 rfl (lv_at hl 3 rfl) ?_
  refine lv_aload_n hx hb dL_law_1217 rfl (lv_at hl 1 rfl) ?_
  refine lv_iload hx hb dL_law_1218 (lv_at hl 6 rfl) ?_
  refine lv_iconst (v := 1) hx hb dL_law_1220 (by decide) ?_
  refine lv_iadd hx hb dL_law_1221 ?_
  refine va_sld hx hb hX hbl hbA hS hin1 dL_law_1222 ?_
  refine zai (va_runV (As := [.int (xs (x5 + 1).toNatClampNeg)]) (rest := []) ⟨hx, hb, hml, hown, hts⟩ (c_X6_openPermit l G cs ad (zt cs qo (zo (f_X5_openPermit σ (xs (x5 + 1).toNatClampNeg)).1 (f_X5_openPermit σ (xs (x5 + 1).toNatClampNeg)).2.1.toInt64 o) qd d) (f_X5_openPermit σ (xs (x5 + 1).toNatClampNeg)).2.2 (xs (x5 + 1).toNatClampNeg) hI H.size) (cwV 1 hts gL_law_X6_openPermit rfl rfl rfl (by decide +kernel) ⟨Nat.le_of_ble_eq_true rfl, Nat.le_of_ble_eq_true rfl⟩) (zpv hE hP hD hS hA (zg_29 cs ad (f_X5_openPermit σ (xs (x5 + 1).toNatClampNeg)).2.2 (zt cs qo (zo (f_X5_openPermit σ (xs (x5 + 1).toNatClampNeg)).1 (f_X5_openPermit σ (xs (x5 + 1).toNatClampNeg)).2.1.toInt64 o) qd d)) rfl) rfl rfl hl.1 rfl (lv_room (Nat.le_of_ble_eq_true rfl)) dL_law_1223 ⟨show C + 3 + 0 ≤ 3165 by omega, show D + 18 + 0 ≤ 120764 by omega⟩) hD hS hA (fun H locs hP hD hS => ?_)
  refine lv_istore (lv' := [(7, .int (f_X6_openPermit (f_X5_openPermit σ (xs (x5 + 1).toNatClampNeg)).2.2 (xs (x5 + 1).toNatClampNeg)).1), (6, .int (f_L_openPermit (f_X5_openPermit σ (xs (x5 + 1).toNatClampNeg)).1)), (0, .ref b), (1, .ref (ad 0)), (2, .ref (ad 29)), (3, .ref qo), (4, .ref qd), (5, .int x5)]) hx hb dL_law_1226 hl (by decide) rfl (fun ls hl => ?_)
  refine lv_aload_n hx hb dL_law_1228 rfl (lv_at hl 4 rfl) ?_
  refine zai (va_runV (As := []) (rest := []) ⟨hx, hb, hml, hown, hts⟩ (c_X6_thrown l G cs ad (zt cs qo (zo (f_X5_openPermit σ (xs (x5 + 1).toNatClampNeg)).1 (f_X5_openPermit σ (xs (x5 + 1).toNatClampNeg)).2.1.toInt64 o) qd d) (f_X6_openPermit (f_X5_openPermit σ (xs (x5 + 1).toNatClampNeg)).2.2 (xs (x5 + 1).toNatClampNeg)).2 H.size) (cwV 0 hts gL_law_X6_thrown rfl rfl rfl (by decide +kernel) ⟨Nat.le_of_ble_eq_true rfl, Nat.le_of_ble_eq_true rfl⟩) (zpv hE hP hD hS hA (zg_29 cs ad (f_X6_openPermit (f_X5_openPermit σ (xs (x5 + 1).toNatClampNeg)).2.2 (xs (x5 + 1).toNatClampNeg)).2 (zt cs qo (zo (f_X5_openPermit σ (xs (x5 + 1).toNatClampNeg)).1 (f_X5_openPermit σ (xs (x5 + 1).toNatClampNeg)).2.1.toInt64 o) qd d)) rfl) rfl rfl hl.1 rfl (lv_room (Nat.le_of_ble_eq_true rfl)) dL_law_1229 ⟨show C + 3 + 0 + 0 ≤ 3165 by omega, show D + 18 + 0 + 0 ≤ 120764 by omega⟩) hD hS hA (fun H locs hP hD hS => ?_)
  refine lv_iload hx hb dL_law_1232 (lv_at hl 1 rfl) ?_
  refine lv_icmp_eq (tgt := 1239) hx hb dL_law_1234 (by decide) (fun _ => ?_) (fun h9 => absurd hs2 h9)
  refine lv_iload hx hb dL_law_1239 (lv_at hl 1 rfl) ?_
  refine lv_if_ne (tgt := 1256) hx hb dL_law_1241 (by decide) (fun h8 => ?_) (fun h8 => ?_)
  · skip
    refine lv_goto (tgt := 2254) hx hb dL_law_1256 (by decide) ?_
    refine W.widen (k := C + 6) (n := D + 36) (by omega) (by omega) ?_
    exact hk H locs _ _ _ ls hs4 hP hD hS (lv_sub hl [2, 3, 4, 5, 6, 7] rfl)
  · obtain ⟨h7, h6⟩ := hs3 h8
    refine lv_aload_n hx hb dL_law_1244 rfl (lv_at hl 5 rfl) ?_
    refine lv_iconst (v := 0) hx hb dL_law_1245 (by decide) ?_
    have e0 : zo (f_X5_openPermit σ (xs (x5 + 1).toNatClampNeg)).1 (f_X5_openPermit σ (xs (x5 + 1).toNatClampNeg)).2.1.toInt64 o (0 : Int32).toNatClampNeg = (f_X5_openPermit σ (xs (x5 + 1).toNatClampNeg)).2.1.toInt64 := by unfold zo; rw [if_pos h7]; exact if_pos rfl
    refine va_lald hx hb hE.1 hP 51 3 rfl rfl z_in01 dL_law_1246 ?_
    rw [e0]
    refine lv_iload hx hb dL_law_1247 (lv_at hl 0 rfl) ?_
    refine lv_i2l (v := (f_X6_openPermit (f_X5_openPermit σ (xs (x5 + 1).toNatClampNeg)).2.2 (xs (x5 + 1).toNatClampNeg)).1.toInt64) hx hb dL_law_1249 rfl ?_
    refine W.lcmp hx hb dL_law_1250 ?_
    refine lv_if_eq (tgt := 1256) hx hb dL_law_1251 (by decide) (fun _ => ?_) (fun h9 => absurd (by rw [h6]; exact lg_cmp_self _) h9)
    refine lv_goto (tgt := 2254) hx hb dL_law_1256 (by decide) ?_
    refine W.widen (k := C + 6) (n := D + 36) (by omega) (by omega) ?_
    exact hk H locs _ _ _ ls hs4 hP hD hS (lv_sub hl [2, 3, 4, 5, 6, 7] rfl)
set_option maxRecDepth 100000 in
theorem lc_17 {p : Program} {l : Launch} {e : Env} {s : State} {m : MethodId} {below : List Frame} {meth : Method} {c : Code} {b L : Nat} {xs : Nat → Int32} {G : va_G} {cs : Nat → ClassId} (K : zCtx p l s m meth c b L xs G cs) (ad : Nat → Nat) (qo qd : Nat) {Q : State → Prop} {C D t : Nat} {σ : zS} {o : Nat → Int64} {d : Nat → UInt64} {H : Heap} {locs : List Loc} {ls : Array Slot} {x5 : Int32} (hi : 6 * t + 6 ≤ L) (hL : L ≤ 3072) (hR : zR t σ) (hC : C + 6 ≤ 3165) (hC2 : D + 36 ≤ 120764)
    (hP : va_P G vwCl (zw cs ad σ (zt cs qo o qd d)) H) (hD : va_D (fun q => s.heap.size ≤ q) (zw cs ad σ (zt cs qo o qd d))) (hS : va_S (fun q => s.heap.size ≤ q) s.heap H locs) (ex : x5 = nI (6 * t)) (hl : lv_has ls 9 [(0, .ref b), (1, .ref (ad 0)), (2, .ref (ad 29)), (3, .ref qo), (4, .ref qd), (5, .int x5)])
    (hk : ∀ (H : Heap) (locs : List Loc) (σ : zS) (o : Nat → Int64) (d : Nat → UInt64) (ls : Array Slot), zR (t + 1) σ → va_P G vwCl (zw cs ad σ (zt cs qo o qd d)) H → va_D (fun q => s.heap.size ≤ q) (zw cs ad σ (zt cs qo o qd d)) → va_S (fun q => s.heap.size ≤ q) s.heap H locs → lv_has ls 9 [(0, .ref b), (1, .ref (ad 0)), (2, .ref (ad 29)), (3, .ref qo), (4, .ref qd), (5, .int x5)] → W p l e room_1 s m #[Value.ref b] below meth c H locs (C + 6) (D + 36) Q (F0 m 2254 ls [])) :
    W p l e room_1 s m #[Value.ref b] below meth c H locs C D Q (F0 m 1259 ls []) := by
  obtain ⟨hx, hb, hr, hml, hown, hts, htc, hX, hbl, hfl, hE⟩ := K
  have hts2 : ∀ w ∈ wsLaw2, w.before #[Value.ref b] s = true := fun w h => (List.mem_append.mp h).elim (htc w) (hts w)
  have hA : ∀ q : Nat, s.heap.size ≤ q → (fun q : Nat => s.heap.size ≤ q) q := fun _ h => h
  have hbA : ¬ (fun q : Nat => s.heap.size ≤ q) b := Nat.not_le.mpr hbl
  have hin1 : vp_in (x5 + 1) L := by rw [ex, show (1 : Int32) = nI 1 from rfl, nI_add]; exact vp_in_nI (by omega) (by omega)
  obtain ⟨hI, hs2, hs3, hs4⟩ := sim_closePermit hR (by omega) (xs (x5 + 1).toNatClampNeg)
  refine lv_aload_n hx hb dL_law_1259 rfl (lv_at hl 1 rfl) ?_
  refine lv_aload_n hx hb dL_law_1260 rfl (lv_at hl 0 rfl) ?_
  refine lv_iload hx hb dL_law_1261 (lv_at hl 5 rfl) ?_
  refine lv_iconst (v := 1) hx hb dL_law_1263 (by decide) ?_
  refine lv_iadd hx hb dL_law_1264 ?_
  refine va_sld hx hb hX hbl hbA hS hin1 dL_law_1265 ?_
  refine lv_aload_n hx hb dL_law_1266 rfl (lv_at hl 3 rfl) ?_
  refine zai (vx_runSW (As := [.ref (ad 0), .int (xs (x5 + 1).toNatClampNeg), .ref qo]) (rest := []) ⟨hx, hb, hml, hown, hts⟩ (c_L_closePermit l hfl G cs ad qo o qd d σ (xs (x5 + 1).toNatClampNeg)  H.size) (vx_cwSW 3 hts2 (z_gl rfl (up2 gL_law_L_closePermit) zclG) rfl rfl rfl (by decide +kernel) ⟨Nat.le_of_ble_eq_true rfl, Nat.le_of_ble_eq_true rfl⟩) (zps hE hP hD hS hA) rfl rfl hl.1 rfl (lv_room (Nat.le_of_ble_eq_true rfl)) dL_law_1267 ⟨show C + 3 ≤ 3165 by omega, show D + 18 ≤ 120764 by omega⟩) hD hS hA (fun H locs hP hD hS => ?_)
  refine lv_istore (lv' := [(6, .int (f_L_closePermit (f_X5_closePermit σ (xs (x5 + 1).toNatClampNeg)).1)), (0, .ref b), (1, .ref (ad 0)), (2, .ref (ad 29)), (3, .ref qo), (4, .ref qd), (5, .int x5)]) hx hb dL_law_1270 hl (by decide) rfl (fun ls hl => ?_)
  refine lv_aload_n hx hb dL_law_1272 rfl (lv_at hl 3 rfl) ?_
  refine lv_aload_n hx hb dL_law_1273 rfl (lv_at hl 1 rfl) ?_
  refine lv_iload hx hb dL_law_1274 (lv_at hl 6 rfl) ?_
  refine lv_iconst (v := 1) hx hb dL_law_1276 (by decide) ?_
  refine lv_iadd hx hb dL_law_1277 ?_
  refine va_sld hx hb hX hbl hbA hS hin1 dL_law_1278 ?_
  refine zai (va_runV (As := [.int (xs (x5 + 1).toNatClampNeg)]) (rest := []) ⟨hx, hb, hml, hown, hts⟩ (c_X6_closePermit l G cs ad (zt cs qo (zo (f_X5_closePermit σ (xs (x5 + 1).toNatClampNeg)).1 (f_X5_closePermit σ (xs (x5 + 1).toNatClampNeg)).2.1.toInt64 o) qd d) (f_X5_closePermit σ (xs (x5 + 1).toNatClampNeg)).2.2 (xs (x5 + 1).toNatClampNeg) hI H.size) (cwV 1 hts gL_law_X6_closePermit rfl rfl rfl (by decide +kernel) ⟨Nat.le_of_ble_eq_true rfl, Nat.le_of_ble_eq_true rfl⟩) (zpv hE hP hD hS hA (zg_29 cs ad (f_X5_closePermit σ (xs (x5 + 1).toNatClampNeg)).2.2 (zt cs qo (zo (f_X5_closePermit σ (xs (x5 + 1).toNatClampNeg)).1 (f_X5_closePermit σ (xs (x5 + 1).toNatClampNeg)).2.1.toInt64 o) qd d)) rfl) rfl rfl hl.1 rfl (lv_room (Nat.le_of_ble_eq_true rfl)) dL_law_1279 ⟨show C + 3 + 0 ≤ 3165 by omega, show D + 18 + 0 ≤ 120764 by omega⟩) hD hS hA (fun H locs hP hD hS => ?_)
  refine lv_istore (lv' := [(7, .int (f_X6_closePermit (f_X5_closePermit σ (xs (x5 + 1).toNatClampNeg)).2.2 (xs (x5 + 1).toNatClampNeg)).1), (6, .int (f_L_closePermit (f_X5_closePermit σ (xs (x5 + 1).toNatClampNeg)).1)), (0, .ref b), (1, .ref (ad 0)), (2, .ref (ad 29)), (3, .ref qo), (4, .ref qd), (5, .int x5)]) hx hb dL_law_1282 hl (by decide) rfl (fun ls hl => ?_)
  refine lv_aload_n hx hb dL_law_1284 rfl (lv_at hl 4 rfl) ?_
  refine zai (va_runV (As := []) (rest := []) ⟨hx, hb, hml, hown, hts⟩ (c_X6_thrown l G cs ad (zt cs qo (zo (f_X5_closePermit σ (xs (x5 + 1).toNatClampNeg)).1 (f_X5_closePermit σ (xs (x5 + 1).toNatClampNeg)).2.1.toInt64 o) qd d) (f_X6_closePermit (f_X5_closePermit σ (xs (x5 + 1).toNatClampNeg)).2.2 (xs (x5 + 1).toNatClampNeg)).2 H.size) (cwV 0 hts gL_law_X6_thrown rfl rfl rfl (by decide +kernel) ⟨Nat.le_of_ble_eq_true rfl, Nat.le_of_ble_eq_true rfl⟩) (zpv hE hP hD hS hA (zg_29 cs ad (f_X6_closePermit (f_X5_closePermit σ (xs (x5 + 1).toNatClampNeg)).2.2 (xs (x5 + 1).toNatClampNeg)).2 (zt cs qo (zo (f_X5_closePermit σ (xs (x5 + 1).toNatClampNeg)).1 (f_X5_closePermit σ (xs (x5 + 1).toNatClampNeg)).2.1.toInt64 o) qd d)) rfl) rfl rfl hl.1 rfl (lv_room (Nat.le_of_ble_eq_true rfl)) dL_law_1285 ⟨show C + 3 + 0 + 0 ≤ 3165 by omega, show D + 18 + 0 + 0 ≤ 120764 by omega⟩) hD hS hA (fun H locs hP hD hS => ?_)
  refine lv_iload hx hb dL_law_1288 (lv_at hl 1 rfl) ?_
  refine lv_icmp_eq (tgt := 1295) hx hb dL_law_1290 (by decide) (fun _ => ?_) (fun h9 => absurd hs2 h9)
  refine lv_iload hx hb dL_law_1295 (lv_at hl 1 rfl) ?_
  refine lv_if_ne (tgt := 1312) hx hb dL_law_1297 (by decide) (fun h8 => ?_) (fun h8 => ?_)
  · skip
    refine lv_goto (tgt := 2254) hx hb dL_law_1312 (by decide) ?_
    refine W.widen (k := C + 6) (n := D + 36) (by omega) (by omega) ?_
    exact hk H locs _ _ _ ls hs4 hP hD hS (lv_sub hl [2, 3, 4, 5, 6, 7] rfl)
  · obtain ⟨h7, h6⟩ := hs3 h8
    refine lv_aload_n hx hb dL_law_1300 rfl (lv_at hl 5 rfl) ?_
    refine lv_iconst (v := 0) hx hb dL_law_1301 (by decide) ?_
    have e0 : zo (f_X5_closePermit σ (xs (x5 + 1).toNatClampNeg)).1 (f_X5_closePermit σ (xs (x5 + 1).toNatClampNeg)).2.1.toInt64 o (0 : Int32).toNatClampNeg = (f_X5_closePermit σ (xs (x5 + 1).toNatClampNeg)).2.1.toInt64 := by unfold zo; rw [if_pos h7]; exact if_pos rfl
    refine va_lald hx hb hE.1 hP 51 3 rfl rfl z_in01 dL_law_1302 ?_
    rw [e0]
    refine lv_iload hx hb dL_law_1303 (lv_at hl 0 rfl) ?_
    refine lv_i2l (v := (f_X6_closePermit (f_X5_closePermit σ (xs (x5 + 1).toNatClampNeg)).2.2 (xs (x5 + 1).toNatClampNeg)).1.toInt64) hx hb dL_law_1305 rfl ?_
    refine W.lcmp hx hb dL_law_1306 ?_
    refine lv_if_eq (tgt := 1312) hx hb dL_law_1307 (by decide) (fun _ => ?_) (fun h9 => absurd (by rw [h6]; exact lg_cmp_self _) h9)
    refine lv_goto (tgt := 2254) hx hb dL_law_1312 (by decide) ?_
    refine W.widen (k := C + 6) (n := D + 36) (by omega) (by omega) ?_
    exact hk H locs _ _ _ ls hs4 hP hD hS (lv_sub hl [2, 3, 4, 5, 6, 7] rfl)
set_option maxRecDepth 100000 in
theorem lc_18 {p : Program} {l : Launch} {e : Env} {s : State} {m : MethodId} {below : List Frame} {meth : Method} {c : Code} {b L : Nat} {xs : Nat → Int32} {G : va_G} {cs : Nat → ClassId} (K : zCtx p l s m meth c b L xs G cs) (ad : Nat → Nat) (qo qd : Nat) {Q : State → Prop} {C D t : Nat} {σ : zS} {o : Nat → Int64} {d : Nat → UInt64} {H : Heap} {locs : List Loc} {ls : Array Slot} {x5 : Int32} (hi : 6 * t + 6 ≤ L) (hL : L ≤ 3072) (hR : zR t σ) (hC : C + 6 ≤ 3165) (hC2 : D + 36 ≤ 120764)
    (hP : va_P G vwCl (zw cs ad σ (zt cs qo o qd d)) H) (hD : va_D (fun q => s.heap.size ≤ q) (zw cs ad σ (zt cs qo o qd d))) (hS : va_S (fun q => s.heap.size ≤ q) s.heap H locs) (ex : x5 = nI (6 * t)) (hl : lv_has ls 9 [(0, .ref b), (1, .ref (ad 0)), (2, .ref (ad 29)), (3, .ref qo), (4, .ref qd), (5, .int x5)])
    (hk : ∀ (H : Heap) (locs : List Loc) (σ : zS) (o : Nat → Int64) (d : Nat → UInt64) (ls : Array Slot), zR (t + 1) σ → va_P G vwCl (zw cs ad σ (zt cs qo o qd d)) H → va_D (fun q => s.heap.size ≤ q) (zw cs ad σ (zt cs qo o qd d)) → va_S (fun q => s.heap.size ≤ q) s.heap H locs → lv_has ls 9 [(0, .ref b), (1, .ref (ad 0)), (2, .ref (ad 29)), (3, .ref qo), (4, .ref qd), (5, .int x5)] → W p l e room_1 s m #[Value.ref b] below meth c H locs (C + 6) (D + 36) Q (F0 m 2254 ls [])) :
    W p l e room_1 s m #[Value.ref b] below meth c H locs C D Q (F0 m 1315 ls []) := by
  obtain ⟨hx, hb, hr, hml, hown, hts, htc, hX, hbl, hfl, hE⟩ := K
  have hts2 : ∀ w ∈ wsLaw2, w.before #[Value.ref b] s = true := fun w h => (List.mem_append.mp h).elim (htc w) (hts w)
  have hA : ∀ q : Nat, s.heap.size ≤ q → (fun q : Nat => s.heap.size ≤ q) q := fun _ h => h
  have hbA : ¬ (fun q : Nat => s.heap.size ≤ q) b := Nat.not_le.mpr hbl
  have hin1 : vp_in (x5 + 1) L := by rw [ex, show (1 : Int32) = nI 1 from rfl, nI_add]; exact vp_in_nI (by omega) (by omega)
  obtain ⟨hI, hs2, hs3, hs4⟩ := sim_isPermitOpen hR (by omega) (xs (x5 + 1).toNatClampNeg)
  refine lv_aload_n hx hb dL_law_1315 rfl (lv_at hl 1 rfl) ?_
  refine lv_aload_n hx hb dL_law_1316 rfl (lv_at hl 0 rfl) ?_
  refine lv_iload hx hb dL_law_1317 (lv_at hl 5 rfl) ?_
  refine lv_iconst (v := 1) hx hb dL_law_1319 (by decide) ?_
  refine lv_iadd hx hb dL_law_1320 ?_
  refine va_sld hx hb hX hbl hbA hS hin1 dL_law_1321 ?_
  refine lv_aload_n hx hb dL_law_1322 rfl (lv_at hl 3 rfl) ?_
  refine zai (vx_runSW (As := [.ref (ad 0), .int (xs (x5 + 1).toNatClampNeg), .ref qo]) (rest := []) ⟨hx, hb, hml, hown, hts⟩ (c_L_isPermitOpen l hfl G cs ad qo o qd d σ (xs (x5 + 1).toNatClampNeg)  H.size) (vx_cwSW 3 hts2 (z_gl rfl (up2 gL_law_L_isPermitOpen) zclG) rfl rfl rfl (by decide +kernel) ⟨Nat.le_of_ble_eq_true rfl, Nat.le_of_ble_eq_true rfl⟩) (zps hE hP hD hS hA) rfl rfl hl.1 rfl (lv_room (Nat.le_of_ble_eq_true rfl)) dL_law_1323 ⟨show C + 1 ≤ 3165 by omega, show D + 6 ≤ 120764 by omega⟩) hD hS hA (fun H locs hP hD hS => ?_)
  refine lv_istore (lv' := [(6, .int (f_L_isPermitOpen (f_X5_isPermitOpen σ (xs (x5 + 1).toNatClampNeg)).1)), (0, .ref b), (1, .ref (ad 0)), (2, .ref (ad 29)), (3, .ref qo), (4, .ref qd), (5, .int x5)]) hx hb dL_law_1326 hl (by decide) rfl (fun ls hl => ?_)
  refine lv_aload_n hx hb dL_law_1328 rfl (lv_at hl 3 rfl) ?_
  refine lv_aload_n hx hb dL_law_1329 rfl (lv_at hl 1 rfl) ?_
  refine lv_iload hx hb dL_law_1330 (lv_at hl 6 rfl) ?_
  refine lv_iconst (v := 1) hx hb dL_law_1332 (by decide) ?_
  refine lv_iadd hx hb dL_law_1333 ?_
  refine va_sld hx hb hX hbl hbA hS hin1 dL_law_1334 ?_
  refine zai (va_runV (As := [.int (xs (x5 + 1).toNatClampNeg)]) (rest := []) ⟨hx, hb, hml, hown, hts⟩ (c_X6_isPermitOpen l G cs ad (zt cs qo (zo (f_X5_isPermitOpen σ (xs (x5 + 1).toNatClampNeg)).1 (if (f_X5_isPermitOpen σ (xs (x5 + 1).toNatClampNeg)).2.1 = 0 then 0 else 1) o) qd d) (f_X5_isPermitOpen σ (xs (x5 + 1).toNatClampNeg)).2.2 (xs (x5 + 1).toNatClampNeg) hI H.size) (cwV 1 hts gL_law_X6_isPermitOpen rfl rfl rfl (by decide +kernel) ⟨Nat.le_of_ble_eq_true rfl, Nat.le_of_ble_eq_true rfl⟩) (zpv hE hP hD hS hA (zg_29 cs ad (f_X5_isPermitOpen σ (xs (x5 + 1).toNatClampNeg)).2.2 (zt cs qo (zo (f_X5_isPermitOpen σ (xs (x5 + 1).toNatClampNeg)).1 (if (f_X5_isPermitOpen σ (xs (x5 + 1).toNatClampNeg)).2.1 = 0 then 0 else 1) o) qd d)) rfl) rfl rfl hl.1 rfl (lv_room (Nat.le_of_ble_eq_true rfl)) dL_law_1335 ⟨show C + 1 + 0 ≤ 3165 by omega, show D + 6 + 0 ≤ 120764 by omega⟩) hD hS hA (fun H locs hP hD hS => ?_)
  refine lv_istore (lv' := [(7, .int (f_X6_isPermitOpen (f_X5_isPermitOpen σ (xs (x5 + 1).toNatClampNeg)).2.2 (xs (x5 + 1).toNatClampNeg)).1), (6, .int (f_L_isPermitOpen (f_X5_isPermitOpen σ (xs (x5 + 1).toNatClampNeg)).1)), (0, .ref b), (1, .ref (ad 0)), (2, .ref (ad 29)), (3, .ref qo), (4, .ref qd), (5, .int x5)]) hx hb dL_law_1338 hl (by decide) rfl (fun ls hl => ?_)
  refine lv_aload_n hx hb dL_law_1340 rfl (lv_at hl 4 rfl) ?_
  refine zai (va_runV (As := []) (rest := []) ⟨hx, hb, hml, hown, hts⟩ (c_X6_thrown l G cs ad (zt cs qo (zo (f_X5_isPermitOpen σ (xs (x5 + 1).toNatClampNeg)).1 (if (f_X5_isPermitOpen σ (xs (x5 + 1).toNatClampNeg)).2.1 = 0 then 0 else 1) o) qd d) (f_X6_isPermitOpen (f_X5_isPermitOpen σ (xs (x5 + 1).toNatClampNeg)).2.2 (xs (x5 + 1).toNatClampNeg)).2 H.size) (cwV 0 hts gL_law_X6_thrown rfl rfl rfl (by decide +kernel) ⟨Nat.le_of_ble_eq_true rfl, Nat.le_of_ble_eq_true rfl⟩) (zpv hE hP hD hS hA (zg_29 cs ad (f_X6_isPermitOpen (f_X5_isPermitOpen σ (xs (x5 + 1).toNatClampNeg)).2.2 (xs (x5 + 1).toNatClampNeg)).2 (zt cs qo (zo (f_X5_isPermitOpen σ (xs (x5 + 1).toNatClampNeg)).1 (if (f_X5_isPermitOpen σ (xs (x5 + 1).toNatClampNeg)).2.1 = 0 then 0 else 1) o) qd d)) rfl) rfl rfl hl.1 rfl (lv_room (Nat.le_of_ble_eq_true rfl)) dL_law_1341 ⟨show C + 1 + 0 + 0 ≤ 3165 by omega, show D + 6 + 0 + 0 ≤ 120764 by omega⟩) hD hS hA (fun H locs hP hD hS => ?_)
  refine lv_iload hx hb dL_law_1344 (lv_at hl 1 rfl) ?_
  refine lv_icmp_eq (tgt := 1351) hx hb dL_law_1346 (by decide) (fun _ => ?_) (fun h9 => absurd hs2 h9)
  refine lv_iload hx hb dL_law_1351 (lv_at hl 1 rfl) ?_
  refine lv_if_ne (tgt := 1375) hx hb dL_law_1353 (by decide) (fun h8 => ?_) (fun h8 => ?_)
  · skip
    refine lv_goto (tgt := 2254) hx hb dL_law_1375 (by decide) ?_
    refine W.widen (k := C + 6) (n := D + 36) (by omega) (by omega) ?_
    exact hk H locs _ _ _ ls hs4 hP hD hS (lv_sub hl [2, 3, 4, 5, 6, 7] rfl)
  · obtain ⟨h7, h6⟩ := hs3 h8
    refine lv_aload_n hx hb dL_law_1356 rfl (lv_at hl 5 rfl) ?_
    refine lv_iconst (v := 0) hx hb dL_law_1357 (by decide) ?_
    have e0 : zo (f_X5_isPermitOpen σ (xs (x5 + 1).toNatClampNeg)).1 (if (f_X5_isPermitOpen σ (xs (x5 + 1).toNatClampNeg)).2.1 = 0 then 0 else 1) o (0 : Int32).toNatClampNeg = (if (f_X5_isPermitOpen σ (xs (x5 + 1).toNatClampNeg)).2.1 = 0 then 0 else 1) := by unfold zo; rw [if_pos h7]; exact if_pos rfl
    refine va_lald hx hb hE.1 hP 51 3 rfl rfl z_in01 dL_law_1358 ?_
    rw [e0]
    refine lv_iload hx hb dL_law_1359 (lv_at hl 0 rfl) ?_
    refine lv_if_eq (tgt := 1368) hx hb dL_law_1361 (by decide) (fun h4 => ?_) (fun h4 => ?_)
    · refine lv_lconst (v := 0) hx hb dL_law_1368 (by decide) ?_
      refine W.lcmp hx hb dL_law_1369 ?_
      refine lv_if_eq (tgt := 1375) hx hb dL_law_1370 (by decide) (fun _ => ?_) (fun h9 => absurd (by rw [if_pos (h6.symm.trans h4)]; exact lg_cmp_self _) h9)
      refine lv_goto (tgt := 2254) hx hb dL_law_1375 (by decide) ?_
      refine W.widen (k := C + 6) (n := D + 36) (by omega) (by omega) ?_
      exact hk H locs _ _ _ ls hs4 hP hD hS (lv_sub hl [2, 3, 4, 5, 6, 7] rfl)
    · refine lv_lconst (v := 1) hx hb dL_law_1364 (by decide) ?_
      refine lv_goto (tgt := 1369) hx hb dL_law_1365 (by decide) ?_
      refine W.lcmp hx hb dL_law_1369 ?_
      refine lv_if_eq (tgt := 1375) hx hb dL_law_1370 (by decide) (fun _ => ?_) (fun h9 => absurd (by rw [if_neg (fun z => h4 (h6.trans z))]; exact lg_cmp_self _) h9)
      refine lv_goto (tgt := 2254) hx hb dL_law_1375 (by decide) ?_
      refine W.widen (k := C + 6) (n := D + 36) (by omega) (by omega) ?_
      exact hk H locs _ _ _ ls hs4 hP hD hS (lv_sub hl [2, 3, 4, 5, 6, 7] rfl)
set_option maxRecDepth 100000 in
theorem lc_19 {p : Program} {l : Launch} {e : Env} {s : State} {m : MethodId} {below : List Frame} {meth : Method} {c : Code} {b L : Nat} {xs : Nat → Int32} {G : va_G} {cs : Nat → ClassId} (K : zCtx p l s m meth c b L xs G cs) (ad : Nat → Nat) (qo qd : Nat) {Q : State → Prop} {C D t : Nat} {σ : zS} {o : Nat → Int64} {d : Nat → UInt64} {H : Heap} {locs : List Loc} {ls : Array Slot} {x5 : Int32} (hi : 6 * t + 6 ≤ L) (hL : L ≤ 3072) (hR : zR t σ) (hC : C + 6 ≤ 3165) (hC2 : D + 36 ≤ 120764)
    (hP : va_P G vwCl (zw cs ad σ (zt cs qo o qd d)) H) (hD : va_D (fun q => s.heap.size ≤ q) (zw cs ad σ (zt cs qo o qd d))) (hS : va_S (fun q => s.heap.size ≤ q) s.heap H locs) (ex : x5 = nI (6 * t)) (hl : lv_has ls 9 [(0, .ref b), (1, .ref (ad 0)), (2, .ref (ad 29)), (3, .ref qo), (4, .ref qd), (5, .int x5)])
    (hk : ∀ (H : Heap) (locs : List Loc) (σ : zS) (o : Nat → Int64) (d : Nat → UInt64) (ls : Array Slot), zR (t + 1) σ → va_P G vwCl (zw cs ad σ (zt cs qo o qd d)) H → va_D (fun q => s.heap.size ≤ q) (zw cs ad σ (zt cs qo o qd d)) → va_S (fun q => s.heap.size ≤ q) s.heap H locs → lv_has ls 9 [(0, .ref b), (1, .ref (ad 0)), (2, .ref (ad 29)), (3, .ref qo), (4, .ref qd), (5, .int x5)] → W p l e room_1 s m #[Value.ref b] below meth c H locs (C + 6) (D + 36) Q (F0 m 2254 ls [])) :
    W p l e room_1 s m #[Value.ref b] below meth c H locs C D Q (F0 m 1378 ls []) := by
  obtain ⟨hx, hb, hr, hml, hown, hts, htc, hX, hbl, hfl, hE⟩ := K
  have hts2 : ∀ w ∈ wsLaw2, w.before #[Value.ref b] s = true := fun w h => (List.mem_append.mp h).elim (htc w) (hts w)
  have hA : ∀ q : Nat, s.heap.size ≤ q → (fun q : Nat => s.heap.size ≤ q) q := fun _ h => h
  have hbA : ¬ (fun q : Nat => s.heap.size ≤ q) b := Nat.not_le.mpr hbl
  obtain ⟨hI, hs2, hs3, hs4⟩ := sim_note hR (by omega) 
  refine lv_aload_n hx hb dL_law_1378 rfl (lv_at hl 1 rfl) ?_
  refine lv_aload_n hx hb dL_law_1379 rfl (lv_at hl 3 rfl) ?_
  refine zai (vx_runSW (As := [.ref (ad 0), .ref qo]) (rest := []) ⟨hx, hb, hml, hown, hts⟩ (c_L_note l hfl G cs ad qo o qd d σ   H.size) (vx_cwSW 2 hts2 (z_gl rfl (up2 gL_law_L_note) zclG) rfl rfl rfl (by decide +kernel) ⟨Nat.le_of_ble_eq_true rfl, Nat.le_of_ble_eq_true rfl⟩) (zps hE hP hD hS hA) rfl rfl hl.1 rfl (lv_room (Nat.le_of_ble_eq_true rfl)) dL_law_1380 ⟨show C + 1 ≤ 3165 by omega, show D + 6 ≤ 120764 by omega⟩) hD hS hA (fun H locs hP hD hS => ?_)
  refine lv_istore (lv' := [(6, .int (f_L_note (f_X5_note σ ).1)), (0, .ref b), (1, .ref (ad 0)), (2, .ref (ad 29)), (3, .ref qo), (4, .ref qd), (5, .int x5)]) hx hb dL_law_1383 hl (by decide) rfl (fun ls hl => ?_)
  refine lv_aload_n hx hb dL_law_1385 rfl (lv_at hl 3 rfl) ?_
  refine zai (va_runV (As := []) (rest := []) ⟨hx, hb, hml, hown, hts⟩ (c_X6_note l G cs ad (zt cs qo (zo (f_X5_note σ ).1 (f_X5_note σ ).2.1.toInt64 o) qd d) (f_X5_note σ ).2.2  hI H.size) (cwV 0 hts gL_law_X6_note rfl rfl rfl (by decide +kernel) ⟨Nat.le_of_ble_eq_true rfl, Nat.le_of_ble_eq_true rfl⟩) (zpv hE hP hD hS hA (zg_29 cs ad (f_X5_note σ ).2.2 (zt cs qo (zo (f_X5_note σ ).1 (f_X5_note σ ).2.1.toInt64 o) qd d)) rfl) rfl rfl hl.1 rfl (lv_room (Nat.le_of_ble_eq_true rfl)) dL_law_1386 ⟨show C + 1 + 0 ≤ 3165 by omega, show D + 6 + 0 ≤ 120764 by omega⟩) hD hS hA (fun H locs hP hD hS => ?_)
  refine lv_istore (lv' := [(7, .int (f_X6_note (f_X5_note σ ).2.2 ).1), (6, .int (f_L_note (f_X5_note σ ).1)), (0, .ref b), (1, .ref (ad 0)), (2, .ref (ad 29)), (3, .ref qo), (4, .ref qd), (5, .int x5)]) hx hb dL_law_1389 hl (by decide) rfl (fun ls hl => ?_)
  refine lv_aload_n hx hb dL_law_1391 rfl (lv_at hl 4 rfl) ?_
  refine zai (va_runV (As := []) (rest := []) ⟨hx, hb, hml, hown, hts⟩ (c_X6_thrown l G cs ad (zt cs qo (zo (f_X5_note σ ).1 (f_X5_note σ ).2.1.toInt64 o) qd d) (f_X6_note (f_X5_note σ ).2.2 ).2 H.size) (cwV 0 hts gL_law_X6_thrown rfl rfl rfl (by decide +kernel) ⟨Nat.le_of_ble_eq_true rfl, Nat.le_of_ble_eq_true rfl⟩) (zpv hE hP hD hS hA (zg_29 cs ad (f_X6_note (f_X5_note σ ).2.2 ).2 (zt cs qo (zo (f_X5_note σ ).1 (f_X5_note σ ).2.1.toInt64 o) qd d)) rfl) rfl rfl hl.1 rfl (lv_room (Nat.le_of_ble_eq_true rfl)) dL_law_1392 ⟨show C + 1 + 0 + 0 ≤ 3165 by omega, show D + 6 + 0 + 0 ≤ 120764 by omega⟩) hD hS hA (fun H locs hP hD hS => ?_)
  refine lv_iload hx hb dL_law_1395 (lv_at hl 1 rfl) ?_
  refine lv_icmp_eq (tgt := 1402) hx hb dL_law_1397 (by decide) (fun _ => ?_) (fun h9 => absurd hs2 h9)
  refine lv_iload hx hb dL_law_1402 (lv_at hl 1 rfl) ?_
  refine lv_if_ne (tgt := 1419) hx hb dL_law_1404 (by decide) (fun h8 => ?_) (fun h8 => ?_)
  · skip
    refine lv_goto (tgt := 2254) hx hb dL_law_1419 (by decide) ?_
    refine W.widen (k := C + 6) (n := D + 36) (by omega) (by omega) ?_
    exact hk H locs _ _ _ ls hs4 hP hD hS (lv_sub hl [2, 3, 4, 5, 6, 7] rfl)
  · obtain ⟨h7, h6⟩ := hs3 h8
    refine lv_aload_n hx hb dL_law_1407 rfl (lv_at hl 5 rfl) ?_
    refine lv_iconst (v := 0) hx hb dL_law_1408 (by decide) ?_
    have e0 : zo (f_X5_note σ ).1 (f_X5_note σ ).2.1.toInt64 o (0 : Int32).toNatClampNeg = (f_X5_note σ ).2.1.toInt64 := by unfold zo; rw [if_pos h7]; exact if_pos rfl
    refine va_lald hx hb hE.1 hP 51 3 rfl rfl z_in01 dL_law_1409 ?_
    rw [e0]
    refine lv_iload hx hb dL_law_1410 (lv_at hl 0 rfl) ?_
    refine lv_i2l (v := (f_X6_note (f_X5_note σ ).2.2 ).1.toInt64) hx hb dL_law_1412 rfl ?_
    refine W.lcmp hx hb dL_law_1413 ?_
    refine lv_if_eq (tgt := 1419) hx hb dL_law_1414 (by decide) (fun _ => ?_) (fun h9 => absurd (by rw [h6]; exact lg_cmp_self _) h9)
    refine lv_goto (tgt := 2254) hx hb dL_law_1419 (by decide) ?_
    refine W.widen (k := C + 6) (n := D + 36) (by omega) (by omega) ?_
    exact hk H locs _ _ _ ls hs4 hP hD hS (lv_sub hl [2, 3, 4, 5, 6, 7] rfl)
set_option maxRecDepth 100000 in
theorem lc_20 {p : Program} {l : Launch} {e : Env} {s : State} {m : MethodId} {below : List Frame} {meth : Method} {c : Code} {b L : Nat} {xs : Nat → Int32} {G : va_G} {cs : Nat → ClassId} (K : zCtx p l s m meth c b L xs G cs) (ad : Nat → Nat) (qo qd : Nat) {Q : State → Prop} {C D t : Nat} {σ : zS} {o : Nat → Int64} {d : Nat → UInt64} {H : Heap} {locs : List Loc} {ls : Array Slot} {x5 : Int32} (hi : 6 * t + 6 ≤ L) (hL : L ≤ 3072) (hR : zR t σ) (hC : C + 6 ≤ 3165) (hC2 : D + 36 ≤ 120764)
    (hP : va_P G vwCl (zw cs ad σ (zt cs qo o qd d)) H) (hD : va_D (fun q => s.heap.size ≤ q) (zw cs ad σ (zt cs qo o qd d))) (hS : va_S (fun q => s.heap.size ≤ q) s.heap H locs) (ex : x5 = nI (6 * t)) (hl : lv_has ls 9 [(0, .ref b), (1, .ref (ad 0)), (2, .ref (ad 29)), (3, .ref qo), (4, .ref qd), (5, .int x5)])
    (hk : ∀ (H : Heap) (locs : List Loc) (σ : zS) (o : Nat → Int64) (d : Nat → UInt64) (ls : Array Slot), zR (t + 1) σ → va_P G vwCl (zw cs ad σ (zt cs qo o qd d)) H → va_D (fun q => s.heap.size ≤ q) (zw cs ad σ (zt cs qo o qd d)) → va_S (fun q => s.heap.size ≤ q) s.heap H locs → lv_has ls 9 [(0, .ref b), (1, .ref (ad 0)), (2, .ref (ad 29)), (3, .ref qo), (4, .ref qd), (5, .int x5)] → W p l e room_1 s m #[Value.ref b] below meth c H locs (C + 6) (D + 36) Q (F0 m 2254 ls [])) :
    W p l e room_1 s m #[Value.ref b] below meth c H locs C D Q (F0 m 1422 ls []) := by
  obtain ⟨hx, hb, hr, hml, hown, hts, htc, hX, hbl, hfl, hE⟩ := K
  have hts2 : ∀ w ∈ wsLaw2, w.before #[Value.ref b] s = true := fun w h => (List.mem_append.mp h).elim (htc w) (hts w)
  have hA : ∀ q : Nat, s.heap.size ≤ q → (fun q : Nat => s.heap.size ≤ q) q := fun _ h => h
  have hbA : ¬ (fun q : Nat => s.heap.size ≤ q) b := Nat.not_le.mpr hbl
  have hin1 : vp_in (x5 + 1) L := by rw [ex, show (1 : Int32) = nI 1 from rfl, nI_add]; exact vp_in_nI (by omega) (by omega)
  obtain ⟨hI, hs2, hs3, hs4⟩ := sim_close hR (by omega) (xs (x5 + 1).toNatClampNeg)
  refine lv_aload_n hx hb dL_law_1422 rfl (lv_at hl 1 rfl) ?_
  refine lv_aload_n hx hb dL_law_1423 rfl (lv_at hl 0 rfl) ?_
  refine lv_iload hx hb dL_law_1424 (lv_at hl 5 rfl) ?_
  refine lv_iconst (v := 1) hx hb dL_law_1426 (by decide) ?_
  refine lv_iadd hx hb dL_law_1427 ?_
  refine va_sld hx hb hX hbl hbA hS hin1 dL_law_1428 ?_
  refine lv_aload_n hx hb dL_law_1429 rfl (lv_at hl 3 rfl) ?_
  refine zai (vx_runSW (As := [.ref (ad 0), .int (xs (x5 + 1).toNatClampNeg), .ref qo]) (rest := []) ⟨hx, hb, hml, hown, hts⟩ (c_L_close l hfl G cs ad qo o qd d σ (xs (x5 + 1).toNatClampNeg) (zR_ch hR) H.size) (vx_cwSW 3 hts2 (z_gl rfl (up2 gL_law_L_close) zclG) rfl rfl rfl (by decide +kernel) ⟨Nat.le_of_ble_eq_true rfl, Nat.le_of_ble_eq_true rfl⟩) (zps hE hP hD hS hA) rfl rfl hl.1 rfl (lv_room (Nat.le_of_ble_eq_true rfl)) dL_law_1430 ⟨show C + 2 ≤ 3165 by omega, show D + 12 ≤ 120764 by omega⟩) hD hS hA (fun H locs hP hD hS => ?_)
  refine lv_istore (lv' := [(6, .int (f_L_close (f_X5_close σ (xs (x5 + 1).toNatClampNeg)).1)), (0, .ref b), (1, .ref (ad 0)), (2, .ref (ad 29)), (3, .ref qo), (4, .ref qd), (5, .int x5)]) hx hb dL_law_1433 hl (by decide) rfl (fun ls hl => ?_)
  refine lv_aload_n hx hb dL_law_1435 rfl (lv_at hl 3 rfl) ?_
  refine lv_aload_n hx hb dL_law_1436 rfl (lv_at hl 1 rfl) ?_
  refine lv_iload hx hb dL_law_1437 (lv_at hl 6 rfl) ?_
  refine lv_iconst (v := 1) hx hb dL_law_1439 (by decide) ?_
  refine lv_iadd hx hb dL_law_1440 ?_
  refine va_sld hx hb hX hbl hbA hS hin1 dL_law_1441 ?_
  refine zai (va_runV (As := [.int (xs (x5 + 1).toNatClampNeg)]) (rest := []) ⟨hx, hb, hml, hown, hts⟩ (c_X6_close l G cs ad (zt cs qo (zo (f_X5_close σ (xs (x5 + 1).toNatClampNeg)).1 (f_X5_close σ (xs (x5 + 1).toNatClampNeg)).2.1.toInt64 o) qd d) (f_X5_close σ (xs (x5 + 1).toNatClampNeg)).2.2 (xs (x5 + 1).toNatClampNeg) hI H.size) (cwV 1 hts gL_law_X6_close rfl rfl rfl (by decide +kernel) ⟨Nat.le_of_ble_eq_true rfl, Nat.le_of_ble_eq_true rfl⟩) (zpv hE hP hD hS hA (zg_29 cs ad (f_X5_close σ (xs (x5 + 1).toNatClampNeg)).2.2 (zt cs qo (zo (f_X5_close σ (xs (x5 + 1).toNatClampNeg)).1 (f_X5_close σ (xs (x5 + 1).toNatClampNeg)).2.1.toInt64 o) qd d)) rfl) rfl rfl hl.1 rfl (lv_room (Nat.le_of_ble_eq_true rfl)) dL_law_1442 ⟨show C + 2 + 0 ≤ 3165 by omega, show D + 12 + 0 ≤ 120764 by omega⟩) hD hS hA (fun H locs hP hD hS => ?_)
  refine lv_istore (lv' := [(7, .int (f_X6_close (f_X5_close σ (xs (x5 + 1).toNatClampNeg)).2.2 (xs (x5 + 1).toNatClampNeg)).1), (6, .int (f_L_close (f_X5_close σ (xs (x5 + 1).toNatClampNeg)).1)), (0, .ref b), (1, .ref (ad 0)), (2, .ref (ad 29)), (3, .ref qo), (4, .ref qd), (5, .int x5)]) hx hb dL_law_1445 hl (by decide) rfl (fun ls hl => ?_)
  refine lv_aload_n hx hb dL_law_1447 rfl (lv_at hl 4 rfl) ?_
  refine zai (va_runV (As := []) (rest := []) ⟨hx, hb, hml, hown, hts⟩ (c_X6_thrown l G cs ad (zt cs qo (zo (f_X5_close σ (xs (x5 + 1).toNatClampNeg)).1 (f_X5_close σ (xs (x5 + 1).toNatClampNeg)).2.1.toInt64 o) qd d) (f_X6_close (f_X5_close σ (xs (x5 + 1).toNatClampNeg)).2.2 (xs (x5 + 1).toNatClampNeg)).2 H.size) (cwV 0 hts gL_law_X6_thrown rfl rfl rfl (by decide +kernel) ⟨Nat.le_of_ble_eq_true rfl, Nat.le_of_ble_eq_true rfl⟩) (zpv hE hP hD hS hA (zg_29 cs ad (f_X6_close (f_X5_close σ (xs (x5 + 1).toNatClampNeg)).2.2 (xs (x5 + 1).toNatClampNeg)).2 (zt cs qo (zo (f_X5_close σ (xs (x5 + 1).toNatClampNeg)).1 (f_X5_close σ (xs (x5 + 1).toNatClampNeg)).2.1.toInt64 o) qd d)) rfl) rfl rfl hl.1 rfl (lv_room (Nat.le_of_ble_eq_true rfl)) dL_law_1448 ⟨show C + 2 + 0 + 0 ≤ 3165 by omega, show D + 12 + 0 + 0 ≤ 120764 by omega⟩) hD hS hA (fun H locs hP hD hS => ?_)
  refine lv_iload hx hb dL_law_1451 (lv_at hl 1 rfl) ?_
  refine lv_icmp_eq (tgt := 1458) hx hb dL_law_1453 (by decide) (fun _ => ?_) (fun h9 => absurd hs2 h9)
  refine lv_iload hx hb dL_law_1458 (lv_at hl 1 rfl) ?_
  refine lv_if_ne (tgt := 1475) hx hb dL_law_1460 (by decide) (fun h8 => ?_) (fun h8 => ?_)
  · skip
    refine lv_goto (tgt := 2254) hx hb dL_law_1475 (by decide) ?_
    refine W.widen (k := C + 6) (n := D + 36) (by omega) (by omega) ?_
    exact hk H locs _ _ _ ls hs4 hP hD hS (lv_sub hl [2, 3, 4, 5, 6, 7] rfl)
  · obtain ⟨h7, h6⟩ := hs3 h8
    refine lv_aload_n hx hb dL_law_1463 rfl (lv_at hl 5 rfl) ?_
    refine lv_iconst (v := 0) hx hb dL_law_1464 (by decide) ?_
    have e0 : zo (f_X5_close σ (xs (x5 + 1).toNatClampNeg)).1 (f_X5_close σ (xs (x5 + 1).toNatClampNeg)).2.1.toInt64 o (0 : Int32).toNatClampNeg = (f_X5_close σ (xs (x5 + 1).toNatClampNeg)).2.1.toInt64 := by unfold zo; rw [if_pos h7]; exact if_pos rfl
    refine va_lald hx hb hE.1 hP 51 3 rfl rfl z_in01 dL_law_1465 ?_
    rw [e0]
    refine lv_iload hx hb dL_law_1466 (lv_at hl 0 rfl) ?_
    refine lv_i2l (v := (f_X6_close (f_X5_close σ (xs (x5 + 1).toNatClampNeg)).2.2 (xs (x5 + 1).toNatClampNeg)).1.toInt64) hx hb dL_law_1468 rfl ?_
    refine W.lcmp hx hb dL_law_1469 ?_
    refine lv_if_eq (tgt := 1475) hx hb dL_law_1470 (by decide) (fun _ => ?_) (fun h9 => absurd (by rw [h6]; exact lg_cmp_self _) h9)
    refine lv_goto (tgt := 2254) hx hb dL_law_1475 (by decide) ?_
    refine W.widen (k := C + 6) (n := D + 36) (by omega) (by omega) ?_
    exact hk H locs _ _ _ ls hs4 hP hD hS (lv_sub hl [2, 3, 4, 5, 6, 7] rfl)
set_option maxRecDepth 100000 in
theorem lc_21 {p : Program} {l : Launch} {e : Env} {s : State} {m : MethodId} {below : List Frame} {meth : Method} {c : Code} {b L : Nat} {xs : Nat → Int32} {G : va_G} {cs : Nat → ClassId} (K : zCtx p l s m meth c b L xs G cs) (ad : Nat → Nat) (qo qd : Nat) {Q : State → Prop} {C D t : Nat} {σ : zS} {o : Nat → Int64} {d : Nat → UInt64} {H : Heap} {locs : List Loc} {ls : Array Slot} {x5 : Int32} (hi : 6 * t + 6 ≤ L) (hL : L ≤ 3072) (hR : zR t σ) (hC : C + 6 ≤ 3165) (hC2 : D + 36 ≤ 120764)
    (hP : va_P G vwCl (zw cs ad σ (zt cs qo o qd d)) H) (hD : va_D (fun q => s.heap.size ≤ q) (zw cs ad σ (zt cs qo o qd d))) (hS : va_S (fun q => s.heap.size ≤ q) s.heap H locs) (ex : x5 = nI (6 * t)) (hl : lv_has ls 9 [(0, .ref b), (1, .ref (ad 0)), (2, .ref (ad 29)), (3, .ref qo), (4, .ref qd), (5, .int x5)])
    (hk : ∀ (H : Heap) (locs : List Loc) (σ : zS) (o : Nat → Int64) (d : Nat → UInt64) (ls : Array Slot), zR (t + 1) σ → va_P G vwCl (zw cs ad σ (zt cs qo o qd d)) H → va_D (fun q => s.heap.size ≤ q) (zw cs ad σ (zt cs qo o qd d)) → va_S (fun q => s.heap.size ≤ q) s.heap H locs → lv_has ls 9 [(0, .ref b), (1, .ref (ad 0)), (2, .ref (ad 29)), (3, .ref qo), (4, .ref qd), (5, .int x5)] → W p l e room_1 s m #[Value.ref b] below meth c H locs (C + 6) (D + 36) Q (F0 m 2254 ls [])) :
    W p l e room_1 s m #[Value.ref b] below meth c H locs C D Q (F0 m 1478 ls []) := by
  obtain ⟨hx, hb, hr, hml, hown, hts, htc, hX, hbl, hfl, hE⟩ := K
  have hts2 : ∀ w ∈ wsLaw2, w.before #[Value.ref b] s = true := fun w h => (List.mem_append.mp h).elim (htc w) (hts w)
  have hA : ∀ q : Nat, s.heap.size ≤ q → (fun q : Nat => s.heap.size ≤ q) q := fun _ h => h
  have hbA : ¬ (fun q : Nat => s.heap.size ≤ q) b := Nat.not_le.mpr hbl
  have hin1 : vp_in (x5 + 1) L := by rw [ex, show (1 : Int32) = nI 1 from rfl, nI_add]; exact vp_in_nI (by omega) (by omega)
  obtain ⟨hI, hs2, hs3, hs4⟩ := sim_begin hR (by omega) (xs (x5 + 1).toNatClampNeg)
  refine lv_aload_n hx hb dL_law_1478 rfl (lv_at hl 1 rfl) ?_
  refine lv_aload_n hx hb dL_law_1479 rfl (lv_at hl 0 rfl) ?_
  refine lv_iload hx hb dL_law_1480 (lv_at hl 5 rfl) ?_
  refine lv_iconst (v := 1) hx hb dL_law_1482 (by decide) ?_
  refine lv_iadd hx hb dL_law_1483 ?_
  refine va_sld hx hb hX hbl hbA hS hin1 dL_law_1484 ?_
  refine lv_aload_n hx hb dL_law_1485 rfl (lv_at hl 3 rfl) ?_
  refine zai (vx_runSW (As := [.ref (ad 0), .int (xs (x5 + 1).toNatClampNeg), .ref qo]) (rest := []) ⟨hx, hb, hml, hown, hts⟩ (c_L_begin l hfl G cs ad qo o qd d σ (xs (x5 + 1).toNatClampNeg)  H.size) (vx_cwSW 3 hts2 (z_gl rfl (up2 gL_law_L_begin) zclG) rfl rfl rfl (by decide +kernel) ⟨Nat.le_of_ble_eq_true rfl, Nat.le_of_ble_eq_true rfl⟩) (zps hE hP hD hS hA) rfl rfl hl.1 rfl (lv_room (Nat.le_of_ble_eq_true rfl)) dL_law_1486 ⟨show C + 2 ≤ 3165 by omega, show D + 12 ≤ 120764 by omega⟩) hD hS hA (fun H locs hP hD hS => ?_)
  refine lv_istore (lv' := [(6, .int (f_L_begin (f_X5_begin σ (xs (x5 + 1).toNatClampNeg)).1)), (0, .ref b), (1, .ref (ad 0)), (2, .ref (ad 29)), (3, .ref qo), (4, .ref qd), (5, .int x5)]) hx hb dL_law_1489 hl (by decide) rfl (fun ls hl => ?_)
  refine lv_aload_n hx hb dL_law_1491 rfl (lv_at hl 3 rfl) ?_
  refine lv_aload_n hx hb dL_law_1492 rfl (lv_at hl 1 rfl) ?_
  refine lv_iload hx hb dL_law_1493 (lv_at hl 6 rfl) ?_
  refine lv_iconst (v := 1) hx hb dL_law_1495 (by decide) ?_
  refine lv_iadd hx hb dL_law_1496 ?_
  refine va_sld hx hb hX hbl hbA hS hin1 dL_law_1497 ?_
  refine zai (va_runV (As := [.int (xs (x5 + 1).toNatClampNeg)]) (rest := []) ⟨hx, hb, hml, hown, hts⟩ (c_X6_begin l G cs ad (zt cs qo (zo (f_X5_begin σ (xs (x5 + 1).toNatClampNeg)).1 (f_X5_begin σ (xs (x5 + 1).toNatClampNeg)).2.1.toInt64 o) qd d) (f_X5_begin σ (xs (x5 + 1).toNatClampNeg)).2.2 (xs (x5 + 1).toNatClampNeg)  H.size) (cwV 1 hts gL_law_X6_begin rfl rfl rfl (by decide +kernel) ⟨Nat.le_of_ble_eq_true rfl, Nat.le_of_ble_eq_true rfl⟩) (zpv hE hP hD hS hA (zg_29 cs ad (f_X5_begin σ (xs (x5 + 1).toNatClampNeg)).2.2 (zt cs qo (zo (f_X5_begin σ (xs (x5 + 1).toNatClampNeg)).1 (f_X5_begin σ (xs (x5 + 1).toNatClampNeg)).2.1.toInt64 o) qd d)) rfl) rfl rfl hl.1 rfl (lv_room (Nat.le_of_ble_eq_true rfl)) dL_law_1498 ⟨show C + 2 + 0 ≤ 3165 by omega, show D + 12 + 0 ≤ 120764 by omega⟩) hD hS hA (fun H locs hP hD hS => ?_)
  refine lv_istore (lv' := [(7, .int (f_X6_begin (f_X5_begin σ (xs (x5 + 1).toNatClampNeg)).2.2 (xs (x5 + 1).toNatClampNeg)).1), (6, .int (f_L_begin (f_X5_begin σ (xs (x5 + 1).toNatClampNeg)).1)), (0, .ref b), (1, .ref (ad 0)), (2, .ref (ad 29)), (3, .ref qo), (4, .ref qd), (5, .int x5)]) hx hb dL_law_1501 hl (by decide) rfl (fun ls hl => ?_)
  refine lv_aload_n hx hb dL_law_1503 rfl (lv_at hl 4 rfl) ?_
  refine zai (va_runV (As := []) (rest := []) ⟨hx, hb, hml, hown, hts⟩ (c_X6_thrown l G cs ad (zt cs qo (zo (f_X5_begin σ (xs (x5 + 1).toNatClampNeg)).1 (f_X5_begin σ (xs (x5 + 1).toNatClampNeg)).2.1.toInt64 o) qd d) (f_X6_begin (f_X5_begin σ (xs (x5 + 1).toNatClampNeg)).2.2 (xs (x5 + 1).toNatClampNeg)).2 H.size) (cwV 0 hts gL_law_X6_thrown rfl rfl rfl (by decide +kernel) ⟨Nat.le_of_ble_eq_true rfl, Nat.le_of_ble_eq_true rfl⟩) (zpv hE hP hD hS hA (zg_29 cs ad (f_X6_begin (f_X5_begin σ (xs (x5 + 1).toNatClampNeg)).2.2 (xs (x5 + 1).toNatClampNeg)).2 (zt cs qo (zo (f_X5_begin σ (xs (x5 + 1).toNatClampNeg)).1 (f_X5_begin σ (xs (x5 + 1).toNatClampNeg)).2.1.toInt64 o) qd d)) rfl) rfl rfl hl.1 rfl (lv_room (Nat.le_of_ble_eq_true rfl)) dL_law_1504 ⟨show C + 2 + 0 + 0 ≤ 3165 by omega, show D + 12 + 0 + 0 ≤ 120764 by omega⟩) hD hS hA (fun H locs hP hD hS => ?_)
  refine lv_iload hx hb dL_law_1507 (lv_at hl 1 rfl) ?_
  refine lv_icmp_eq (tgt := 1514) hx hb dL_law_1509 (by decide) (fun _ => ?_) (fun h9 => absurd hs2 h9)
  refine lv_iload hx hb dL_law_1514 (lv_at hl 1 rfl) ?_
  refine lv_if_ne (tgt := 1531) hx hb dL_law_1516 (by decide) (fun h8 => ?_) (fun h8 => ?_)
  · skip
    refine lv_goto (tgt := 2254) hx hb dL_law_1531 (by decide) ?_
    refine W.widen (k := C + 6) (n := D + 36) (by omega) (by omega) ?_
    exact hk H locs _ _ _ ls hs4 hP hD hS (lv_sub hl [2, 3, 4, 5, 6, 7] rfl)
  · obtain ⟨h7, h6⟩ := hs3 h8
    refine lv_aload_n hx hb dL_law_1519 rfl (lv_at hl 5 rfl) ?_
    refine lv_iconst (v := 0) hx hb dL_law_1520 (by decide) ?_
    have e0 : zo (f_X5_begin σ (xs (x5 + 1).toNatClampNeg)).1 (f_X5_begin σ (xs (x5 + 1).toNatClampNeg)).2.1.toInt64 o (0 : Int32).toNatClampNeg = (f_X5_begin σ (xs (x5 + 1).toNatClampNeg)).2.1.toInt64 := by unfold zo; rw [if_pos h7]; exact if_pos rfl
    refine va_lald hx hb hE.1 hP 51 3 rfl rfl z_in01 dL_law_1521 ?_
    rw [e0]
    refine lv_iload hx hb dL_law_1522 (lv_at hl 0 rfl) ?_
    refine lv_i2l (v := (f_X6_begin (f_X5_begin σ (xs (x5 + 1).toNatClampNeg)).2.2 (xs (x5 + 1).toNatClampNeg)).1.toInt64) hx hb dL_law_1524 rfl ?_
    refine W.lcmp hx hb dL_law_1525 ?_
    refine lv_if_eq (tgt := 1531) hx hb dL_law_1526 (by decide) (fun _ => ?_) (fun h9 => absurd (by rw [h6]; exact lg_cmp_self _) h9)
    refine lv_goto (tgt := 2254) hx hb dL_law_1531 (by decide) ?_
    refine W.widen (k := C + 6) (n := D + 36) (by omega) (by omega) ?_
    exact hk H locs _ _ _ ls hs4 hP hD hS (lv_sub hl [2, 3, 4, 5, 6, 7] rfl)
set_option maxRecDepth 100000 in
theorem lc_22 {p : Program} {l : Launch} {e : Env} {s : State} {m : MethodId} {below : List Frame} {meth : Method} {c : Code} {b L : Nat} {xs : Nat → Int32} {G : va_G} {cs : Nat → ClassId} (K : zCtx p l s m meth c b L xs G cs) (ad : Nat → Nat) (qo qd : Nat) {Q : State → Prop} {C D t : Nat} {σ : zS} {o : Nat → Int64} {d : Nat → UInt64} {H : Heap} {locs : List Loc} {ls : Array Slot} {x5 : Int32} (hi : 6 * t + 6 ≤ L) (hL : L ≤ 3072) (hR : zR t σ) (hC : C + 6 ≤ 3165) (hC2 : D + 36 ≤ 120764)
    (hP : va_P G vwCl (zw cs ad σ (zt cs qo o qd d)) H) (hD : va_D (fun q => s.heap.size ≤ q) (zw cs ad σ (zt cs qo o qd d))) (hS : va_S (fun q => s.heap.size ≤ q) s.heap H locs) (ex : x5 = nI (6 * t)) (hl : lv_has ls 9 [(0, .ref b), (1, .ref (ad 0)), (2, .ref (ad 29)), (3, .ref qo), (4, .ref qd), (5, .int x5)])
    (hk : ∀ (H : Heap) (locs : List Loc) (σ : zS) (o : Nat → Int64) (d : Nat → UInt64) (ls : Array Slot), zR (t + 1) σ → va_P G vwCl (zw cs ad σ (zt cs qo o qd d)) H → va_D (fun q => s.heap.size ≤ q) (zw cs ad σ (zt cs qo o qd d)) → va_S (fun q => s.heap.size ≤ q) s.heap H locs → lv_has ls 9 [(0, .ref b), (1, .ref (ad 0)), (2, .ref (ad 29)), (3, .ref qo), (4, .ref qd), (5, .int x5)] → W p l e room_1 s m #[Value.ref b] below meth c H locs (C + 6) (D + 36) Q (F0 m 2254 ls [])) :
    W p l e room_1 s m #[Value.ref b] below meth c H locs C D Q (F0 m 1534 ls []) := by
  obtain ⟨hx, hb, hr, hml, hown, hts, htc, hX, hbl, hfl, hE⟩ := K
  have hts2 : ∀ w ∈ wsLaw2, w.before #[Value.ref b] s = true := fun w h => (List.mem_append.mp h).elim (htc w) (hts w)
  have hA : ∀ q : Nat, s.heap.size ≤ q → (fun q : Nat => s.heap.size ≤ q) q := fun _ h => h
  have hbA : ¬ (fun q : Nat => s.heap.size ≤ q) b := Nat.not_le.mpr hbl
  have hin1 : vp_in (x5 + 1) L := by rw [ex, show (1 : Int32) = nI 1 from rfl, nI_add]; exact vp_in_nI (by omega) (by omega)
  obtain ⟨hI, hs2, hs3, hs4⟩ := sim_handOver hR (by omega) (xs (x5 + 1).toNatClampNeg)
  refine lv_aload_n hx hb dL_law_1534 rfl (lv_at hl 1 rfl) ?_
  refine lv_aload_n hx hb dL_law_1535 rfl (lv_at hl 0 rfl) ?_
  refine lv_iload hx hb dL_law_1536 (lv_at hl 5 rfl) ?_
  refine lv_iconst (v := 1) hx hb dL_law_1538 (by decide) ?_
  refine lv_iadd hx hb dL_law_1539 ?_
  refine va_sld hx hb hX hbl hbA hS hin1 dL_law_1540 ?_
  refine lv_aload_n hx hb dL_law_1541 rfl (lv_at hl 3 rfl) ?_
  refine zai (vx_runSW (As := [.ref (ad 0), .int (xs (x5 + 1).toNatClampNeg), .ref qo]) (rest := []) ⟨hx, hb, hml, hown, hts⟩ (c_L_handOver l hfl G cs ad qo o qd d σ (xs (x5 + 1).toNatClampNeg)  H.size) (vx_cwSW 3 hts2 (z_gl rfl (up2 gL_law_L_handOver) zclG) rfl rfl rfl (by decide +kernel) ⟨Nat.le_of_ble_eq_true rfl, Nat.le_of_ble_eq_true rfl⟩) (zps hE hP hD hS hA) rfl rfl hl.1 rfl (lv_room (Nat.le_of_ble_eq_true rfl)) dL_law_1542 ⟨show C + 3 ≤ 3165 by omega, show D + 18 ≤ 120764 by omega⟩) hD hS hA (fun H locs hP hD hS => ?_)
  refine lv_istore (lv' := [(6, .int (f_L_handOver (f_X5_handOver σ (xs (x5 + 1).toNatClampNeg)).1)), (0, .ref b), (1, .ref (ad 0)), (2, .ref (ad 29)), (3, .ref qo), (4, .ref qd), (5, .int x5)]) hx hb dL_law_1545 hl (by decide) rfl (fun ls hl => ?_)
  refine lv_aload_n hx hb dL_law_1547 rfl (lv_at hl 3 rfl) ?_
  refine lv_aload_n hx hb dL_law_1548 rfl (lv_at hl 1 rfl) ?_
  refine lv_iload hx hb dL_law_1549 (lv_at hl 6 rfl) ?_
  refine lv_iconst (v := 1) hx hb dL_law_1551 (by decide) ?_
  refine lv_iadd hx hb dL_law_1552 ?_
  refine va_sld hx hb hX hbl hbA hS hin1 dL_law_1553 ?_
  refine zai (va_runV (As := [.int (xs (x5 + 1).toNatClampNeg)]) (rest := []) ⟨hx, hb, hml, hown, hts⟩ (c_X6_handOver l G cs ad (zt cs qo (zo (f_X5_handOver σ (xs (x5 + 1).toNatClampNeg)).1 (f_X5_handOver σ (xs (x5 + 1).toNatClampNeg)).2.1.toInt64 o) qd d) (f_X5_handOver σ (xs (x5 + 1).toNatClampNeg)).2.2 (xs (x5 + 1).toNatClampNeg) hI H.size) (cwV 1 hts gL_law_X6_handOver rfl rfl rfl (by decide +kernel) ⟨Nat.le_of_ble_eq_true rfl, Nat.le_of_ble_eq_true rfl⟩) (zpv hE hP hD hS hA (zg_29 cs ad (f_X5_handOver σ (xs (x5 + 1).toNatClampNeg)).2.2 (zt cs qo (zo (f_X5_handOver σ (xs (x5 + 1).toNatClampNeg)).1 (f_X5_handOver σ (xs (x5 + 1).toNatClampNeg)).2.1.toInt64 o) qd d)) rfl) rfl rfl hl.1 rfl (lv_room (Nat.le_of_ble_eq_true rfl)) dL_law_1554 ⟨show C + 3 + 0 ≤ 3165 by omega, show D + 18 + 0 ≤ 120764 by omega⟩) hD hS hA (fun H locs hP hD hS => ?_)
  refine lv_istore (lv' := [(7, .int (f_X6_handOver (f_X5_handOver σ (xs (x5 + 1).toNatClampNeg)).2.2 (xs (x5 + 1).toNatClampNeg)).1), (6, .int (f_L_handOver (f_X5_handOver σ (xs (x5 + 1).toNatClampNeg)).1)), (0, .ref b), (1, .ref (ad 0)), (2, .ref (ad 29)), (3, .ref qo), (4, .ref qd), (5, .int x5)]) hx hb dL_law_1557 hl (by decide) rfl (fun ls hl => ?_)
  refine lv_aload_n hx hb dL_law_1559 rfl (lv_at hl 4 rfl) ?_
  refine zai (va_runV (As := []) (rest := []) ⟨hx, hb, hml, hown, hts⟩ (c_X6_thrown l G cs ad (zt cs qo (zo (f_X5_handOver σ (xs (x5 + 1).toNatClampNeg)).1 (f_X5_handOver σ (xs (x5 + 1).toNatClampNeg)).2.1.toInt64 o) qd d) (f_X6_handOver (f_X5_handOver σ (xs (x5 + 1).toNatClampNeg)).2.2 (xs (x5 + 1).toNatClampNeg)).2 H.size) (cwV 0 hts gL_law_X6_thrown rfl rfl rfl (by decide +kernel) ⟨Nat.le_of_ble_eq_true rfl, Nat.le_of_ble_eq_true rfl⟩) (zpv hE hP hD hS hA (zg_29 cs ad (f_X6_handOver (f_X5_handOver σ (xs (x5 + 1).toNatClampNeg)).2.2 (xs (x5 + 1).toNatClampNeg)).2 (zt cs qo (zo (f_X5_handOver σ (xs (x5 + 1).toNatClampNeg)).1 (f_X5_handOver σ (xs (x5 + 1).toNatClampNeg)).2.1.toInt64 o) qd d)) rfl) rfl rfl hl.1 rfl (lv_room (Nat.le_of_ble_eq_true rfl)) dL_law_1560 ⟨show C + 3 + 0 + 0 ≤ 3165 by omega, show D + 18 + 0 + 0 ≤ 120764 by omega⟩) hD hS hA (fun H locs hP hD hS => ?_)
  refine lv_iload hx hb dL_law_1563 (lv_at hl 1 rfl) ?_
  refine lv_icmp_eq (tgt := 1570) hx hb dL_law_1565 (by decide) (fun _ => ?_) (fun h9 => absurd hs2 h9)
  refine lv_iload hx hb dL_law_1570 (lv_at hl 1 rfl) ?_
  refine lv_if_ne (tgt := 1587) hx hb dL_law_1572 (by decide) (fun h8 => ?_) (fun h8 => ?_)
  · skip
    refine lv_goto (tgt := 2254) hx hb dL_law_1587 (by decide) ?_
    refine W.widen (k := C + 6) (n := D + 36) (by omega) (by omega) ?_
    exact hk H locs _ _ _ ls hs4 hP hD hS (lv_sub hl [2, 3, 4, 5, 6, 7] rfl)
  · obtain ⟨h7, h6⟩ := hs3 h8
    refine lv_aload_n hx hb dL_law_1575 rfl (lv_at hl 5 rfl) ?_
    refine lv_iconst (v := 0) hx hb dL_law_1576 (by decide) ?_
    have e0 : zo (f_X5_handOver σ (xs (x5 + 1).toNatClampNeg)).1 (f_X5_handOver σ (xs (x5 + 1).toNatClampNeg)).2.1.toInt64 o (0 : Int32).toNatClampNeg = (f_X5_handOver σ (xs (x5 + 1).toNatClampNeg)).2.1.toInt64 := by unfold zo; rw [if_pos h7]; exact if_pos rfl
    refine va_lald hx hb hE.1 hP 51 3 rfl rfl z_in01 dL_law_1577 ?_
    rw [e0]
    refine lv_iload hx hb dL_law_1578 (lv_at hl 0 rfl) ?_
    refine lv_i2l (v := (f_X6_handOver (f_X5_handOver σ (xs (x5 + 1).toNatClampNeg)).2.2 (xs (x5 + 1).toNatClampNeg)).1.toInt64) hx hb dL_law_1580 rfl ?_
    refine W.lcmp hx hb dL_law_1581 ?_
    refine lv_if_eq (tgt := 1587) hx hb dL_law_1582 (by decide) (fun _ => ?_) (fun h9 => absurd (by rw [h6]; exact lg_cmp_self _) h9)
    refine lv_goto (tgt := 2254) hx hb dL_law_1587 (by decide) ?_
    refine W.widen (k := C + 6) (n := D + 36) (by omega) (by omega) ?_
    exact hk H locs _ _ _ ls hs4 hP hD hS (lv_sub hl [2, 3, 4, 5, 6, 7] rfl)
set_option maxRecDepth 100000 in
theorem lc_23 {p : Program} {l : Launch} {e : Env} {s : State} {m : MethodId} {below : List Frame} {meth : Method} {c : Code} {b L : Nat} {xs : Nat → Int32} {G : va_G} {cs : Nat → ClassId} (K : zCtx p l s m meth c b L xs G cs) (ad : Nat → Nat) (qo qd : Nat) {Q : State → Prop} {C D t : Nat} {σ : zS} {o : Nat → Int64} {d : Nat → UInt64} {H : Heap} {locs : List Loc} {ls : Array Slot} {x5 : Int32} (hi : 6 * t + 6 ≤ L) (hL : L ≤ 3072) (hR : zR t σ) (hC : C + 6 ≤ 3165) (hC2 : D + 36 ≤ 120764)
    (hP : va_P G vwCl (zw cs ad σ (zt cs qo o qd d)) H) (hD : va_D (fun q => s.heap.size ≤ q) (zw cs ad σ (zt cs qo o qd d))) (hS : va_S (fun q => s.heap.size ≤ q) s.heap H locs) (ex : x5 = nI (6 * t)) (hl : lv_has ls 9 [(0, .ref b), (1, .ref (ad 0)), (2, .ref (ad 29)), (3, .ref qo), (4, .ref qd), (5, .int x5)])
    (hk : ∀ (H : Heap) (locs : List Loc) (σ : zS) (o : Nat → Int64) (d : Nat → UInt64) (ls : Array Slot), zR (t + 1) σ → va_P G vwCl (zw cs ad σ (zt cs qo o qd d)) H → va_D (fun q => s.heap.size ≤ q) (zw cs ad σ (zt cs qo o qd d)) → va_S (fun q => s.heap.size ≤ q) s.heap H locs → lv_has ls 9 [(0, .ref b), (1, .ref (ad 0)), (2, .ref (ad 29)), (3, .ref qo), (4, .ref qd), (5, .int x5)] → W p l e room_1 s m #[Value.ref b] below meth c H locs (C + 6) (D + 36) Q (F0 m 2254 ls [])) :
    W p l e room_1 s m #[Value.ref b] below meth c H locs C D Q (F0 m 1590 ls []) := by
  obtain ⟨hx, hb, hr, hml, hown, hts, htc, hX, hbl, hfl, hE⟩ := K
  have hts2 : ∀ w ∈ wsLaw2, w.before #[Value.ref b] s = true := fun w h => (List.mem_append.mp h).elim (htc w) (hts w)
  have hA : ∀ q : Nat, s.heap.size ≤ q → (fun q : Nat => s.heap.size ≤ q) q := fun _ h => h
  have hbA : ¬ (fun q : Nat => s.heap.size ≤ q) b := Nat.not_le.mpr hbl
  have hin1 : vp_in (x5 + 1) L := by rw [ex, show (1 : Int32) = nI 1 from rfl, nI_add]; exact vp_in_nI (by omega) (by omega)
  obtain ⟨hI, hs2, hs3, hs4⟩ := sim_acknowledge hR (by omega) (xs (x5 + 1).toNatClampNeg)
  refine lv_aload_n hx hb dL_law_1590 rfl (lv_at hl 1 rfl) ?_
  refine lv_aload_n hx hb dL_law_1591 rfl (lv_at hl 0 rfl) ?_
  refine lv_iload hx hb dL_law_1592 (lv_at hl 5 rfl) ?_
  refine lv_iconst (v := 1) hx hb dL_law_1594 (by decide) ?_
  refine lv_iadd hx hb dL_law_1595 ?_
  refine va_sld hx hb hX hbl hbA hS hin1 dL_law_1596 ?_
  refine lv_aload_n hx hb dL_law_1597 rfl (lv_at hl 3 rfl) ?_
  refine zai (vx_runSW (As := [.ref (ad 0), .int (xs (x5 + 1).toNatClampNeg), .ref qo]) (rest := []) ⟨hx, hb, hml, hown, hts⟩ (c_L_acknowledge l hfl G cs ad qo o qd d σ (xs (x5 + 1).toNatClampNeg)  H.size) (vx_cwSW 3 hts2 (z_gl rfl (up2 gL_law_L_acknowledge) zclG) rfl rfl rfl (by decide +kernel) ⟨Nat.le_of_ble_eq_true rfl, Nat.le_of_ble_eq_true rfl⟩) (zps hE hP hD hS hA) rfl rfl hl.1 rfl (lv_room (Nat.le_of_ble_eq_true rfl)) dL_law_1598 ⟨show C + 3 ≤ 3165 by omega, show D + 18 ≤ 120764 by omega⟩) hD hS hA (fun H locs hP hD hS => ?_)
  refine lv_istore (lv' := [(6, .int (f_L_acknowledge (f_X5_acknowledge σ (xs (x5 + 1).toNatClampNeg)).1)), (0, .ref b), (1, .ref (ad 0)), (2, .ref (ad 29)), (3, .ref qo), (4, .ref qd), (5, .int x5)]) hx hb dL_law_1601 hl (by decide) rfl (fun ls hl => ?_)
  refine lv_aload_n hx hb dL_law_1603 rfl (lv_at hl 3 rfl) ?_
  refine lv_aload_n hx hb dL_law_1604 rfl (lv_at hl 1 rfl) ?_
  refine lv_iload hx hb dL_law_1605 (lv_at hl 6 rfl) ?_
  refine lv_iconst (v := 1) hx hb dL_law_1607 (by decide) ?_
  refine lv_iadd hx hb dL_law_1608 ?_
  refine va_sld hx hb hX hbl hbA hS hin1 dL_law_1609 ?_
  refine zai (va_runV (As := [.int (xs (x5 + 1).toNatClampNeg)]) (rest := []) ⟨hx, hb, hml, hown, hts⟩ (c_X6_acknowledge l G cs ad (zt cs qo (zo (f_X5_acknowledge σ (xs (x5 + 1).toNatClampNeg)).1 (f_X5_acknowledge σ (xs (x5 + 1).toNatClampNeg)).2.1.toInt64 o) qd d) (f_X5_acknowledge σ (xs (x5 + 1).toNatClampNeg)).2.2 (xs (x5 + 1).toNatClampNeg) hI H.size) (cwV 1 hts gL_law_X6_acknowledge rfl rfl rfl (by decide +kernel) ⟨Nat.le_of_ble_eq_true rfl, Nat.le_of_ble_eq_true rfl⟩) (zpv hE hP hD hS hA (zg_29 cs ad (f_X5_acknowledge σ (xs (x5 + 1).toNatClampNeg)).2.2 (zt cs qo (zo (f_X5_acknowledge σ (xs (x5 + 1).toNatClampNeg)).1 (f_X5_acknowledge σ (xs (x5 + 1).toNatClampNeg)).2.1.toInt64 o) qd d)) rfl) rfl rfl hl.1 rfl (lv_room (Nat.le_of_ble_eq_true rfl)) dL_law_1610 ⟨show C + 3 + 0 ≤ 3165 by omega, show D + 18 + 0 ≤ 120764 by omega⟩) hD hS hA (fun H locs hP hD hS => ?_)
  refine lv_istore (lv' := [(7, .int (f_X6_acknowledge (f_X5_acknowledge σ (xs (x5 + 1).toNatClampNeg)).2.2 (xs (x5 + 1).toNatClampNeg)).1), (6, .int (f_L_acknowledge (f_X5_acknowledge σ (xs (x5 + 1).toNatClampNeg)).1)), (0, .ref b), (1, .ref (ad 0)), (2, .ref (ad 29)), (3, .ref qo), (4, .ref qd), (5, .int x5)]) hx hb dL_law_1613 hl (by decide) rfl (fun ls hl => ?_)
  refine lv_aload_n hx hb dL_law_1615 rfl (lv_at hl 4 rfl) ?_
  refine zai (va_runV (As := []) (rest := []) ⟨hx, hb, hml, hown, hts⟩ (c_X6_thrown l G cs ad (zt cs qo (zo (f_X5_acknowledge σ (xs (x5 + 1).toNatClampNeg)).1 (f_X5_acknowledge σ (xs (x5 + 1).toNatClampNeg)).2.1.toInt64 o) qd d) (f_X6_acknowledge (f_X5_acknowledge σ (xs (x5 + 1).toNatClampNeg)).2.2 (xs (x5 + 1).toNatClampNeg)).2 H.size) (cwV 0 hts gL_law_X6_thrown rfl rfl rfl (by decide +kernel) ⟨Nat.le_of_ble_eq_true rfl, Nat.le_of_ble_eq_true rfl⟩) (zpv hE hP hD hS hA (zg_29 cs ad (f_X6_acknowledge (f_X5_acknowledge σ (xs (x5 + 1).toNatClampNeg)).2.2 (xs (x5 + 1).toNatClampNeg)).2 (zt cs qo (zo (f_X5_acknowledge σ (xs (x5 + 1).toNatClampNeg)).1 (f_X5_acknowledge σ (xs (x5 + 1).toNatClampNeg)).2.1.toInt64 o) qd d)) rfl) rfl rfl hl.1 rfl (lv_room (Nat.le_of_ble_eq_true rfl)) dL_law_1616 ⟨show C + 3 + 0 + 0 ≤ 3165 by omega, show D + 18 + 0 + 0 ≤ 120764 by omega⟩) hD hS hA (fun H locs hP hD hS => ?_)
  refine lv_iload hx hb dL_law_1619 (lv_at hl 1 rfl) ?_
  refine lv_icmp_eq (tgt := 1626) hx hb dL_law_1621 (by decide) (fun _ => ?_) (fun h9 => absurd hs2 h9)
  refine lv_iload hx hb dL_law_1626 (lv_at hl 1 rfl) ?_
  refine lv_if_ne (tgt := 1643) hx hb dL_law_1628 (by decide) (fun h8 => ?_) (fun h8 => ?_)
  · skip
    refine lv_goto (tgt := 2254) hx hb dL_law_1643 (by decide) ?_
    refine W.widen (k := C + 6) (n := D + 36) (by omega) (by omega) ?_
    exact hk H locs _ _ _ ls hs4 hP hD hS (lv_sub hl [2, 3, 4, 5, 6, 7] rfl)
  · obtain ⟨h7, h6⟩ := hs3 h8
    refine lv_aload_n hx hb dL_law_1631 rfl (lv_at hl 5 rfl) ?_
    refine lv_iconst (v := 0) hx hb dL_law_1632 (by decide) ?_
    have e0 : zo (f_X5_acknowledge σ (xs (x5 + 1).toNatClampNeg)).1 (f_X5_acknowledge σ (xs (x5 + 1).toNatClampNeg)).2.1.toInt64 o (0 : Int32).toNatClampNeg = (f_X5_acknowledge σ (xs (x5 + 1).toNatClampNeg)).2.1.toInt64 := by unfold zo; rw [if_pos h7]; exact if_pos rfl
    refine va_lald hx hb hE.1 hP 51 3 rfl rfl z_in01 dL_law_1633 ?_
    rw [e0]
    refine lv_iload hx hb dL_law_1634 (lv_at hl 0 rfl) ?_
    refine lv_i2l (v := (f_X6_acknowledge (f_X5_acknowledge σ (xs (x5 + 1).toNatClampNeg)).2.2 (xs (x5 + 1).toNatClampNeg)).1.toInt64) hx hb dL_law_1636 rfl ?_
    refine W.lcmp hx hb dL_law_1637 ?_
    refine lv_if_eq (tgt := 1643) hx hb dL_law_1638 (by decide) (fun _ => ?_) (fun h9 => absurd (by rw [h6]; exact lg_cmp_self _) h9)
    refine lv_goto (tgt := 2254) hx hb dL_law_1643 (by decide) ?_
    refine W.widen (k := C + 6) (n := D + 36) (by omega) (by omega) ?_
    exact hk H locs _ _ _ ls hs4 hP hD hS (lv_sub hl [2, 3, 4, 5, 6, 7] rfl)
set_option maxRecDepth 100000 in
theorem lc_24 {p : Program} {l : Launch} {e : Env} {s : State} {m : MethodId} {below : List Frame} {meth : Method} {c : Code} {b L : Nat} {xs : Nat → Int32} {G : va_G} {cs : Nat → ClassId} (K : zCtx p l s m meth c b L xs G cs) (ad : Nat → Nat) (qo qd : Nat) {Q : State → Prop} {C D t : Nat} {σ : zS} {o : Nat → Int64} {d : Nat → UInt64} {H : Heap} {locs : List Loc} {ls : Array Slot} {x5 : Int32} (hi : 6 * t + 6 ≤ L) (hL : L ≤ 3072) (hR : zR t σ) (hC : C + 6 ≤ 3165) (hC2 : D + 36 ≤ 120764)
    (hP : va_P G vwCl (zw cs ad σ (zt cs qo o qd d)) H) (hD : va_D (fun q => s.heap.size ≤ q) (zw cs ad σ (zt cs qo o qd d))) (hS : va_S (fun q => s.heap.size ≤ q) s.heap H locs) (ex : x5 = nI (6 * t)) (hl : lv_has ls 9 [(0, .ref b), (1, .ref (ad 0)), (2, .ref (ad 29)), (3, .ref qo), (4, .ref qd), (5, .int x5)])
    (hk : ∀ (H : Heap) (locs : List Loc) (σ : zS) (o : Nat → Int64) (d : Nat → UInt64) (ls : Array Slot), zR (t + 1) σ → va_P G vwCl (zw cs ad σ (zt cs qo o qd d)) H → va_D (fun q => s.heap.size ≤ q) (zw cs ad σ (zt cs qo o qd d)) → va_S (fun q => s.heap.size ≤ q) s.heap H locs → lv_has ls 9 [(0, .ref b), (1, .ref (ad 0)), (2, .ref (ad 29)), (3, .ref qo), (4, .ref qd), (5, .int x5)] → W p l e room_1 s m #[Value.ref b] below meth c H locs (C + 6) (D + 36) Q (F0 m 2254 ls [])) :
    W p l e room_1 s m #[Value.ref b] below meth c H locs C D Q (F0 m 1646 ls []) := by
  obtain ⟨hx, hb, hr, hml, hown, hts, htc, hX, hbl, hfl, hE⟩ := K
  have hts2 : ∀ w ∈ wsLaw2, w.before #[Value.ref b] s = true := fun w h => (List.mem_append.mp h).elim (htc w) (hts w)
  have hA : ∀ q : Nat, s.heap.size ≤ q → (fun q : Nat => s.heap.size ≤ q) q := fun _ h => h
  have hbA : ¬ (fun q : Nat => s.heap.size ≤ q) b := Nat.not_le.mpr hbl
  obtain ⟨hI, hs2, hs3, hs4⟩ := sim_take hR (by omega) 
  refine lv_aload_n hx hb dL_law_1646 rfl (lv_at hl 1 rfl) ?_
  refine lv_aload_n hx hb dL_law_1647 rfl (lv_at hl 3 rfl) ?_
  refine zai (vx_runSW (As := [.ref (ad 0), .ref qo]) (rest := []) ⟨hx, hb, hml, hown, hts⟩ (c_L_take l hfl G cs ad qo o qd d σ   H.size) (vx_cwSW 2 hts2 (z_gl rfl (up2 gL_law_L_take) zclG) rfl rfl rfl (by decide +kernel) ⟨Nat.le_of_ble_eq_true rfl, Nat.le_of_ble_eq_true rfl⟩) (zps hE hP hD hS hA) rfl rfl hl.1 rfl (lv_room (Nat.le_of_ble_eq_true rfl)) dL_law_1648 ⟨show C + 2 ≤ 3165 by omega, show D + 12 ≤ 120764 by omega⟩) hD hS hA (fun H locs hP hD hS => ?_)
  refine lv_istore (lv' := [(6, .int (f_L_take (f_X5_take σ ).1)), (0, .ref b), (1, .ref (ad 0)), (2, .ref (ad 29)), (3, .ref qo), (4, .ref qd), (5, .int x5)]) hx hb dL_law_1651 hl (by decide) rfl (fun ls hl => ?_)
  refine lv_aload_n hx hb dL_law_1653 rfl (lv_at hl 3 rfl) ?_
  refine zai (va_runV (As := []) (rest := []) ⟨hx, hb, hml, hown, hts⟩ (c_X6_take l G cs ad (zt cs qo (zo (f_X5_take σ ).1 (f_X5_take σ ).2.1.toInt64 o) qd d) (f_X5_take σ ).2.2  hI H.size) (cwV 0 hts gL_law_X6_take rfl rfl rfl (by decide +kernel) ⟨Nat.le_of_ble_eq_true rfl, Nat.le_of_ble_eq_true rfl⟩) (zpv hE hP hD hS hA (zg_29 cs ad (f_X5_take σ ).2.2 (zt cs qo (zo (f_X5_take σ ).1 (f_X5_take σ ).2.1.toInt64 o) qd d)) rfl) rfl rfl hl.1 rfl (lv_room (Nat.le_of_ble_eq_true rfl)) dL_law_1654 ⟨show C + 2 + 0 ≤ 3165 by omega, show D + 12 + 0 ≤ 120764 by omega⟩) hD hS hA (fun H locs hP hD hS => ?_)
  refine lv_istore (lv' := [(7, .int (f_X6_take (f_X5_take σ ).2.2 ).1), (6, .int (f_L_take (f_X5_take σ ).1)), (0, .ref b), (1, .ref (ad 0)), (2, .ref (ad 29)), (3, .ref qo), (4, .ref qd), (5, .int x5)]) hx hb dL_law_1657 hl (by decide) rfl (fun ls hl => ?_)
  refine lv_aload_n hx hb dL_law_1659 rfl (lv_at hl 4 rfl) ?_
  refine zai (va_runV (As := []) (rest := []) ⟨hx, hb, hml, hown, hts⟩ (c_X6_thrown l G cs ad (zt cs qo (zo (f_X5_take σ ).1 (f_X5_take σ ).2.1.toInt64 o) qd d) (f_X6_take (f_X5_take σ ).2.2 ).2 H.size) (cwV 0 hts gL_law_X6_thrown rfl rfl rfl (by decide +kernel) ⟨Nat.le_of_ble_eq_true rfl, Nat.le_of_ble_eq_true rfl⟩) (zpv hE hP hD hS hA (zg_29 cs ad (f_X6_take (f_X5_take σ ).2.2 ).2 (zt cs qo (zo (f_X5_take σ ).1 (f_X5_take σ ).2.1.toInt64 o) qd d)) rfl) rfl rfl hl.1 rfl (lv_room (Nat.le_of_ble_eq_true rfl)) dL_law_1660 ⟨show C + 2 + 0 + 0 ≤ 3165 by omega, show D + 12 + 0 + 0 ≤ 120764 by omega⟩) hD hS hA (fun H locs hP hD hS => ?_)
  refine lv_iload hx hb dL_law_1663 (lv_at hl 1 rfl) ?_
  refine lv_icmp_eq (tgt := 1670) hx hb dL_law_1665 (by decide) (fun _ => ?_) (fun h9 => absurd hs2 h9)
  refine lv_iload hx hb dL_law_1670 (lv_at hl 1 rfl) ?_
  refine lv_if_ne (tgt := 1687) hx hb dL_law_1672 (by decide) (fun h8 => ?_) (fun h8 => ?_)
  · skip
    refine lv_goto (tgt := 2254) hx hb dL_law_1687 (by decide) ?_
    refine W.widen (k := C + 6) (n := D + 36) (by omega) (by omega) ?_
    exact hk H locs _ _ _ ls hs4 hP hD hS (lv_sub hl [2, 3, 4, 5, 6, 7] rfl)
  · obtain ⟨h7, h6⟩ := hs3 h8
    refine lv_aload_n hx hb dL_law_1675 rfl (lv_at hl 5 rfl) ?_
    refine lv_iconst (v := 0) hx hb dL_law_1676 (by decide) ?_
    have e0 : zo (f_X5_take σ ).1 (f_X5_take σ ).2.1.toInt64 o (0 : Int32).toNatClampNeg = (f_X5_take σ ).2.1.toInt64 := by unfold zo; rw [if_pos h7]; exact if_pos rfl
    refine va_lald hx hb hE.1 hP 51 3 rfl rfl z_in01 dL_law_1677 ?_
    rw [e0]
    refine lv_iload hx hb dL_law_1678 (lv_at hl 0 rfl) ?_
    refine lv_i2l (v := (f_X6_take (f_X5_take σ ).2.2 ).1.toInt64) hx hb dL_law_1680 rfl ?_
    refine W.lcmp hx hb dL_law_1681 ?_
    refine lv_if_eq (tgt := 1687) hx hb dL_law_1682 (by decide) (fun _ => ?_) (fun h9 => absurd (by rw [h6]; exact lg_cmp_self _) h9)
    refine lv_goto (tgt := 2254) hx hb dL_law_1687 (by decide) ?_
    refine W.widen (k := C + 6) (n := D + 36) (by omega) (by omega) ?_
    exact hk H locs _ _ _ ls hs4 hP hD hS (lv_sub hl [2, 3, 4, 5, 6, 7] rfl)
set_option maxRecDepth 100000 in
theorem lc_25 {p : Program} {l : Launch} {e : Env} {s : State} {m : MethodId} {below : List Frame} {meth : Method} {c : Code} {b L : Nat} {xs : Nat → Int32} {G : va_G} {cs : Nat → ClassId} (K : zCtx p l s m meth c b L xs G cs) (ad : Nat → Nat) (qo qd : Nat) {Q : State → Prop} {C D t : Nat} {σ : zS} {o : Nat → Int64} {d : Nat → UInt64} {H : Heap} {locs : List Loc} {ls : Array Slot} {x5 : Int32} (hi : 6 * t + 6 ≤ L) (hL : L ≤ 3072) (hR : zR t σ) (hC : C + 6 ≤ 3165) (hC2 : D + 36 ≤ 120764)
    (hP : va_P G vwCl (zw cs ad σ (zt cs qo o qd d)) H) (hD : va_D (fun q => s.heap.size ≤ q) (zw cs ad σ (zt cs qo o qd d))) (hS : va_S (fun q => s.heap.size ≤ q) s.heap H locs) (ex : x5 = nI (6 * t)) (hl : lv_has ls 9 [(0, .ref b), (1, .ref (ad 0)), (2, .ref (ad 29)), (3, .ref qo), (4, .ref qd), (5, .int x5)])
    (hk : ∀ (H : Heap) (locs : List Loc) (σ : zS) (o : Nat → Int64) (d : Nat → UInt64) (ls : Array Slot), zR (t + 1) σ → va_P G vwCl (zw cs ad σ (zt cs qo o qd d)) H → va_D (fun q => s.heap.size ≤ q) (zw cs ad σ (zt cs qo o qd d)) → va_S (fun q => s.heap.size ≤ q) s.heap H locs → lv_has ls 9 [(0, .ref b), (1, .ref (ad 0)), (2, .ref (ad 29)), (3, .ref qo), (4, .ref qd), (5, .int x5)] → W p l e room_1 s m #[Value.ref b] below meth c H locs (C + 6) (D + 36) Q (F0 m 2254 ls [])) :
    W p l e room_1 s m #[Value.ref b] below meth c H locs C D Q (F0 m 1690 ls []) := by
  obtain ⟨hx, hb, hr, hml, hown, hts, htc, hX, hbl, hfl, hE⟩ := K
  have hts2 : ∀ w ∈ wsLaw2, w.before #[Value.ref b] s = true := fun w h => (List.mem_append.mp h).elim (htc w) (hts w)
  have hA : ∀ q : Nat, s.heap.size ≤ q → (fun q : Nat => s.heap.size ≤ q) q := fun _ h => h
  have hbA : ¬ (fun q : Nat => s.heap.size ≤ q) b := Nat.not_le.mpr hbl
  obtain ⟨hI, hs2, hs3, hs4⟩ := sim_cancel hR (by omega) 
  refine lv_aload_n hx hb dL_law_1690 rfl (lv_at hl 1 rfl) ?_
  refine lv_aload_n hx hb dL_law_1691 rfl (lv_at hl 3 rfl) ?_
  refine zai (vx_runSW (As := [.ref (ad 0), .ref qo]) (rest := []) ⟨hx, hb, hml, hown, hts⟩ (c_L_cancel l hfl G cs ad qo o qd d σ   H.size) (vx_cwSW 2 hts2 (z_gl rfl (up2 gL_law_L_cancel) zclG) rfl rfl rfl (by decide +kernel) ⟨Nat.le_of_ble_eq_true rfl, Nat.le_of_ble_eq_true rfl⟩) (zps hE hP hD hS hA) rfl rfl hl.1 rfl (lv_room (Nat.le_of_ble_eq_true rfl)) dL_law_1692 ⟨show C + 1 ≤ 3165 by omega, show D + 6 ≤ 120764 by omega⟩) hD hS hA (fun H locs hP hD hS => ?_)
  refine lv_istore (lv' := [(6, .int (f_L_cancel (f_X5_cancel σ ).1)), (0, .ref b), (1, .ref (ad 0)), (2, .ref (ad 29)), (3, .ref qo), (4, .ref qd), (5, .int x5)]) hx hb dL_law_1695 hl (by decide) rfl (fun ls hl => ?_)
  refine lv_aload_n hx hb dL_law_1697 rfl (lv_at hl 3 rfl) ?_
  refine zai (va_runV (As := []) (rest := []) ⟨hx, hb, hml, hown, hts⟩ (c_X6_cancel l G cs ad (zt cs qo (zo (f_X5_cancel σ ).1 (f_X5_cancel σ ).2.1.toInt64 o) qd d) (f_X5_cancel σ ).2.2  hI H.size) (cwV 0 hts gL_law_X6_cancel rfl rfl rfl (by decide +kernel) ⟨Nat.le_of_ble_eq_true rfl, Nat.le_of_ble_eq_true rfl⟩) (zpv hE hP hD hS hA (zg_29 cs ad (f_X5_cancel σ ).2.2 (zt cs qo (zo (f_X5_cancel σ ).1 (f_X5_cancel σ ).2.1.toInt64 o) qd d)) rfl) rfl rfl hl.1 rfl (lv_room (Nat.le_of_ble_eq_true rfl)) dL_law_1698 ⟨show C + 1 + 0 ≤ 3165 by omega, show D + 6 + 0 ≤ 120764 by omega⟩) hD hS hA (fun H locs hP hD hS => ?_)
  refine lv_istore (lv' := [(7, .int (f_X6_cancel (f_X5_cancel σ ).2.2 ).1), (6, .int (f_L_cancel (f_X5_cancel σ ).1)), (0, .ref b), (1, .ref (ad 0)), (2, .ref (ad 29)), (3, .ref qo), (4, .ref qd), (5, .int x5)]) hx hb dL_law_1701 hl (by decide) rfl (fun ls hl => ?_)
  refine lv_aload_n hx hb dL_law_1703 rfl (lv_at hl 4 rfl) ?_
  refine zai (va_runV (As := []) (rest := []) ⟨hx, hb, hml, hown, hts⟩ (c_X6_thrown l G cs ad (zt cs qo (zo (f_X5_cancel σ ).1 (f_X5_cancel σ ).2.1.toInt64 o) qd d) (f_X6_cancel (f_X5_cancel σ ).2.2 ).2 H.size) (cwV 0 hts gL_law_X6_thrown rfl rfl rfl (by decide +kernel) ⟨Nat.le_of_ble_eq_true rfl, Nat.le_of_ble_eq_true rfl⟩) (zpv hE hP hD hS hA (zg_29 cs ad (f_X6_cancel (f_X5_cancel σ ).2.2 ).2 (zt cs qo (zo (f_X5_cancel σ ).1 (f_X5_cancel σ ).2.1.toInt64 o) qd d)) rfl) rfl rfl hl.1 rfl (lv_room (Nat.le_of_ble_eq_true rfl)) dL_law_1704 ⟨show C + 1 + 0 + 0 ≤ 3165 by omega, show D + 6 + 0 + 0 ≤ 120764 by omega⟩) hD hS hA (fun H locs hP hD hS => ?_)
  refine lv_iload hx hb dL_law_1707 (lv_at hl 1 rfl) ?_
  refine lv_icmp_eq (tgt := 1714) hx hb dL_law_1709 (by decide) (fun _ => ?_) (fun h9 => absurd hs2 h9)
  refine lv_iload hx hb dL_law_1714 (lv_at hl 1 rfl) ?_
  refine lv_if_ne (tgt := 1731) hx hb dL_law_1716 (by decide) (fun h8 => ?_) (fun h8 => ?_)
  · skip
    refine lv_goto (tgt := 2254) hx hb dL_law_1731 (by decide) ?_
    refine W.widen (k := C + 6) (n := D + 36) (by omega) (by omega) ?_
    exact hk H locs _ _ _ ls hs4 hP hD hS (lv_sub hl [2, 3, 4, 5, 6, 7] rfl)
  · obtain ⟨h7, h6⟩ := hs3 h8
    refine lv_aload_n hx hb dL_law_1719 rfl (lv_at hl 5 rfl) ?_
    refine lv_iconst (v := 0) hx hb dL_law_1720 (by decide) ?_
    have e0 : zo (f_X5_cancel σ ).1 (f_X5_cancel σ ).2.1.toInt64 o (0 : Int32).toNatClampNeg = (f_X5_cancel σ ).2.1.toInt64 := by unfold zo; rw [if_pos h7]; exact if_pos rfl
    refine va_lald hx hb hE.1 hP 51 3 rfl rfl z_in01 dL_law_1721 ?_
    rw [e0]
    refine lv_iload hx hb dL_law_1722 (lv_at hl 0 rfl) ?_
    refine lv_i2l (v := (f_X6_cancel (f_X5_cancel σ ).2.2 ).1.toInt64) hx hb dL_law_1724 rfl ?_
    refine W.lcmp hx hb dL_law_1725 ?_
    refine lv_if_eq (tgt := 1731) hx hb dL_law_1726 (by decide) (fun _ => ?_) (fun h9 => absurd (by rw [h6]; exact lg_cmp_self _) h9)
    refine lv_goto (tgt := 2254) hx hb dL_law_1731 (by decide) ?_
    refine W.widen (k := C + 6) (n := D + 36) (by omega) (by omega) ?_
    exact hk H locs _ _ _ ls hs4 hP hD hS (lv_sub hl [2, 3, 4, 5, 6, 7] rfl)
set_option maxRecDepth 100000 in
theorem lc_26 {p : Program} {l : Launch} {e : Env} {s : State} {m : MethodId} {below : List Frame} {meth : Method} {c : Code} {b L : Nat} {xs : Nat → Int32} {G : va_G} {cs : Nat → ClassId} (K : zCtx p l s m meth c b L xs G cs) (ad : Nat → Nat) (qo qd : Nat) {Q : State → Prop} {C D t : Nat} {σ : zS} {o : Nat → Int64} {d : Nat → UInt64} {H : Heap} {locs : List Loc} {ls : Array Slot} {x5 : Int32} (hi : 6 * t + 6 ≤ L) (hL : L ≤ 3072) (hR : zR t σ) (hC : C + 6 ≤ 3165) (hC2 : D + 36 ≤ 120764)
    (hP : va_P G vwCl (zw cs ad σ (zt cs qo o qd d)) H) (hD : va_D (fun q => s.heap.size ≤ q) (zw cs ad σ (zt cs qo o qd d))) (hS : va_S (fun q => s.heap.size ≤ q) s.heap H locs) (ex : x5 = nI (6 * t)) (hl : lv_has ls 9 [(0, .ref b), (1, .ref (ad 0)), (2, .ref (ad 29)), (3, .ref qo), (4, .ref qd), (5, .int x5)])
    (hk : ∀ (H : Heap) (locs : List Loc) (σ : zS) (o : Nat → Int64) (d : Nat → UInt64) (ls : Array Slot), zR (t + 1) σ → va_P G vwCl (zw cs ad σ (zt cs qo o qd d)) H → va_D (fun q => s.heap.size ≤ q) (zw cs ad σ (zt cs qo o qd d)) → va_S (fun q => s.heap.size ≤ q) s.heap H locs → lv_has ls 9 [(0, .ref b), (1, .ref (ad 0)), (2, .ref (ad 29)), (3, .ref qo), (4, .ref qd), (5, .int x5)] → W p l e room_1 s m #[Value.ref b] below meth c H locs (C + 6) (D + 36) Q (F0 m 2254 ls [])) :
    W p l e room_1 s m #[Value.ref b] below meth c H locs C D Q (F0 m 1734 ls []) := by
  obtain ⟨hx, hb, hr, hml, hown, hts, htc, hX, hbl, hfl, hE⟩ := K
  have hts2 : ∀ w ∈ wsLaw2, w.before #[Value.ref b] s = true := fun w h => (List.mem_append.mp h).elim (htc w) (hts w)
  have hA : ∀ q : Nat, s.heap.size ≤ q → (fun q : Nat => s.heap.size ≤ q) q := fun _ h => h
  have hbA : ¬ (fun q : Nat => s.heap.size ≤ q) b := Nat.not_le.mpr hbl
  have hin1 : vp_in (x5 + 1) L := by rw [ex, show (1 : Int32) = nI 1 from rfl, nI_add]; exact vp_in_nI (by omega) (by omega)
  obtain ⟨hI, hs2, hs3, hs4⟩ := sim_pass hR (by omega) (xs (x5 + 1).toNatClampNeg)
  refine lv_aload_n hx hb dL_law_1734 rfl (lv_at hl 1 rfl) ?_
  refine lv_aload_n hx hb dL_law_1735 rfl (lv_at hl 0 rfl) ?_
  refine lv_iload hx hb dL_law_1736 (lv_at hl 5 rfl) ?_
  refine lv_iconst (v := 1) hx hb dL_law_1738 (by decide) ?_
  refine lv_iadd hx hb dL_law_1739 ?_
  refine va_sld hx hb hX hbl hbA hS hin1 dL_law_1740 ?_
  refine lv_aload_n hx hb dL_law_1741 rfl (lv_at hl 3 rfl) ?_
  refine zai (vx_runSW (As := [.ref (ad 0), .int (xs (x5 + 1).toNatClampNeg), .ref qo]) (rest := []) ⟨hx, hb, hml, hown, hts⟩ (c_L_pass l hfl G cs ad qo o qd d σ (xs (x5 + 1).toNatClampNeg)  H.size) (vx_cwSW 3 hts2 (z_gl rfl (up2 gL_law_L_pass) zclG) rfl rfl rfl (by decide +kernel) ⟨Nat.le_of_ble_eq_true rfl, Nat.le_of_ble_eq_true rfl⟩) (zps hE hP hD hS hA) rfl rfl hl.1 rfl (lv_room (Nat.le_of_ble_eq_true rfl)) dL_law_1742 ⟨show C + 1 ≤ 3165 by omega, show D + 6 ≤ 120764 by omega⟩) hD hS hA (fun H locs hP hD hS => ?_)
  refine lv_istore (lv' := [(6, .int (f_L_pass (f_X5_pass σ (xs (x5 + 1).toNatClampNeg)).1)), (0, .ref b), (1, .ref (ad 0)), (2, .ref (ad 29)), (3, .ref qo), (4, .ref qd), (5, .int x5)]) hx hb dL_law_1745 hl (by decide) rfl (fun ls hl => ?_)
  refine lv_aload_n hx hb dL_law_1747 rfl (lv_at hl 3 rfl) ?_
  refine lv_aload_n hx hb dL_law_1748 rfl (lv_at hl 1 rfl) ?_
  refine lv_iload hx hb dL_law_1749 (lv_at hl 6 rfl) ?_
  refine lv_iconst (v := 1) hx hb dL_law_1751 (by decide) ?_
  refine lv_iadd hx hb dL_law_1752 ?_
  refine va_sld hx hb hX hbl hbA hS hin1 dL_law_1753 ?_
  refine zai (va_runV (As := [.int (xs (x5 + 1).toNatClampNeg)]) (rest := []) ⟨hx, hb, hml, hown, hts⟩ (c_X6_pass l G cs ad (zt cs qo (zo (f_X5_pass σ (xs (x5 + 1).toNatClampNeg)).1 (f_X5_pass σ (xs (x5 + 1).toNatClampNeg)).2.1.toInt64 o) qd d) (f_X5_pass σ (xs (x5 + 1).toNatClampNeg)).2.2 (xs (x5 + 1).toNatClampNeg)  H.size) (cwV 1 hts gL_law_X6_pass rfl rfl rfl (by decide +kernel) ⟨Nat.le_of_ble_eq_true rfl, Nat.le_of_ble_eq_true rfl⟩) (zpv hE hP hD hS hA (zg_29 cs ad (f_X5_pass σ (xs (x5 + 1).toNatClampNeg)).2.2 (zt cs qo (zo (f_X5_pass σ (xs (x5 + 1).toNatClampNeg)).1 (f_X5_pass σ (xs (x5 + 1).toNatClampNeg)).2.1.toInt64 o) qd d)) rfl) rfl rfl hl.1 rfl (lv_room (Nat.le_of_ble_eq_true rfl)) dL_law_1754 ⟨show C + 1 + 0 ≤ 3165 by omega, show D + 6 + 0 ≤ 120764 by omega⟩) hD hS hA (fun H locs hP hD hS => ?_)
  refine lv_istore (lv' := [(7, .int (f_X6_pass (f_X5_pass σ (xs (x5 + 1).toNatClampNeg)).2.2 (xs (x5 + 1).toNatClampNeg)).1), (6, .int (f_L_pass (f_X5_pass σ (xs (x5 + 1).toNatClampNeg)).1)), (0, .ref b), (1, .ref (ad 0)), (2, .ref (ad 29)), (3, .ref qo), (4, .ref qd), (5, .int x5)]) hx hb dL_law_1757 hl (by decide) rfl (fun ls hl => ?_)
  refine lv_aload_n hx hb dL_law_1759 rfl (lv_at hl 4 rfl) ?_
  refine zai (va_runV (As := []) (rest := []) ⟨hx, hb, hml, hown, hts⟩ (c_X6_thrown l G cs ad (zt cs qo (zo (f_X5_pass σ (xs (x5 + 1).toNatClampNeg)).1 (f_X5_pass σ (xs (x5 + 1).toNatClampNeg)).2.1.toInt64 o) qd d) (f_X6_pass (f_X5_pass σ (xs (x5 + 1).toNatClampNeg)).2.2 (xs (x5 + 1).toNatClampNeg)).2 H.size) (cwV 0 hts gL_law_X6_thrown rfl rfl rfl (by decide +kernel) ⟨Nat.le_of_ble_eq_true rfl, Nat.le_of_ble_eq_true rfl⟩) (zpv hE hP hD hS hA (zg_29 cs ad (f_X6_pass (f_X5_pass σ (xs (x5 + 1).toNatClampNeg)).2.2 (xs (x5 + 1).toNatClampNeg)).2 (zt cs qo (zo (f_X5_pass σ (xs (x5 + 1).toNatClampNeg)).1 (f_X5_pass σ (xs (x5 + 1).toNatClampNeg)).2.1.toInt64 o) qd d)) rfl) rfl rfl hl.1 rfl (lv_room (Nat.le_of_ble_eq_true rfl)) dL_law_1760 ⟨show C + 1 + 0 + 0 ≤ 3165 by omega, show D + 6 + 0 + 0 ≤ 120764 by omega⟩) hD hS hA (fun H locs hP hD hS => ?_)
  refine lv_iload hx hb dL_law_1763 (lv_at hl 1 rfl) ?_
  refine lv_icmp_eq (tgt := 1770) hx hb dL_law_1765 (by decide) (fun _ => ?_) (fun h9 => absurd hs2 h9)
  refine lv_iload hx hb dL_law_1770 (lv_at hl 1 rfl) ?_
  refine lv_if_ne (tgt := 1787) hx hb dL_law_1772 (by decide) (fun h8 => ?_) (fun h8 => ?_)
  · skip
    refine lv_goto (tgt := 2254) hx hb dL_law_1787 (by decide) ?_
    refine W.widen (k := C + 6) (n := D + 36) (by omega) (by omega) ?_
    exact hk H locs _ _ _ ls hs4 hP hD hS (lv_sub hl [2, 3, 4, 5, 6, 7] rfl)
  · obtain ⟨h7, h6⟩ := hs3 h8
    refine lv_aload_n hx hb dL_law_1775 rfl (lv_at hl 5 rfl) ?_
    refine lv_iconst (v := 0) hx hb dL_law_1776 (by decide) ?_
    have e0 : zo (f_X5_pass σ (xs (x5 + 1).toNatClampNeg)).1 (f_X5_pass σ (xs (x5 + 1).toNatClampNeg)).2.1.toInt64 o (0 : Int32).toNatClampNeg = (f_X5_pass σ (xs (x5 + 1).toNatClampNeg)).2.1.toInt64 := by unfold zo; rw [if_pos h7]; exact if_pos rfl
    refine va_lald hx hb hE.1 hP 51 3 rfl rfl z_in01 dL_law_1777 ?_
    rw [e0]
    refine lv_iload hx hb dL_law_1778 (lv_at hl 0 rfl) ?_
    refine lv_i2l (v := (f_X6_pass (f_X5_pass σ (xs (x5 + 1).toNatClampNeg)).2.2 (xs (x5 + 1).toNatClampNeg)).1.toInt64) hx hb dL_law_1780 rfl ?_
    refine W.lcmp hx hb dL_law_1781 ?_
    refine lv_if_eq (tgt := 1787) hx hb dL_law_1782 (by decide) (fun _ => ?_) (fun h9 => absurd (by rw [h6]; exact lg_cmp_self _) h9)
    refine lv_goto (tgt := 2254) hx hb dL_law_1787 (by decide) ?_
    refine W.widen (k := C + 6) (n := D + 36) (by omega) (by omega) ?_
    exact hk H locs _ _ _ ls hs4 hP hD hS (lv_sub hl [2, 3, 4, 5, 6, 7] rfl)
set_option maxRecDepth 100000 in
theorem lc_27 {p : Program} {l : Launch} {e : Env} {s : State} {m : MethodId} {below : List Frame} {meth : Method} {c : Code} {b L : Nat} {xs : Nat → Int32} {G : va_G} {cs : Nat → ClassId} (K : zCtx p l s m meth c b L xs G cs) (ad : Nat → Nat) (qo qd : Nat) {Q : State → Prop} {C D t : Nat} {σ : zS} {o : Nat → Int64} {d : Nat → UInt64} {H : Heap} {locs : List Loc} {ls : Array Slot} {x5 : Int32} (hi : 6 * t + 6 ≤ L) (hL : L ≤ 3072) (hR : zR t σ) (hC : C + 6 ≤ 3165) (hC2 : D + 36 ≤ 120764)
    (hP : va_P G vwCl (zw cs ad σ (zt cs qo o qd d)) H) (hD : va_D (fun q => s.heap.size ≤ q) (zw cs ad σ (zt cs qo o qd d))) (hS : va_S (fun q => s.heap.size ≤ q) s.heap H locs) (ex : x5 = nI (6 * t)) (hl : lv_has ls 9 [(0, .ref b), (1, .ref (ad 0)), (2, .ref (ad 29)), (3, .ref qo), (4, .ref qd), (5, .int x5)])
    (hk : ∀ (H : Heap) (locs : List Loc) (σ : zS) (o : Nat → Int64) (d : Nat → UInt64) (ls : Array Slot), zR (t + 1) σ → va_P G vwCl (zw cs ad σ (zt cs qo o qd d)) H → va_D (fun q => s.heap.size ≤ q) (zw cs ad σ (zt cs qo o qd d)) → va_S (fun q => s.heap.size ≤ q) s.heap H locs → lv_has ls 9 [(0, .ref b), (1, .ref (ad 0)), (2, .ref (ad 29)), (3, .ref qo), (4, .ref qd), (5, .int x5)] → W p l e room_1 s m #[Value.ref b] below meth c H locs (C + 6) (D + 36) Q (F0 m 2254 ls [])) :
    W p l e room_1 s m #[Value.ref b] below meth c H locs C D Q (F0 m 1790 ls []) := by
  obtain ⟨hx, hb, hr, hml, hown, hts, htc, hX, hbl, hfl, hE⟩ := K
  have hts2 : ∀ w ∈ wsLaw2, w.before #[Value.ref b] s = true := fun w h => (List.mem_append.mp h).elim (htc w) (hts w)
  have hA : ∀ q : Nat, s.heap.size ≤ q → (fun q : Nat => s.heap.size ≤ q) q := fun _ h => h
  have hbA : ¬ (fun q : Nat => s.heap.size ≤ q) b := Nat.not_le.mpr hbl
  obtain ⟨hI, hs2, hs4⟩ := sim_hour hR (by omega)
  refine lv_aload_n hx hb dL_law_1790 rfl (lv_at hl 1 rfl) ?_
  refine zai (va_runV (As := []) (rest := []) ⟨hx, hb, hml, hown, hts⟩ (c_X5_hour l G cs ad (zt cs qo o qd d) σ H.size) (cwV 0 hts gL_law_X5_hour rfl rfl rfl (by decide +kernel) ⟨Nat.le_of_ble_eq_true rfl, Nat.le_of_ble_eq_true rfl⟩) (zpv hE hP hD hS hA (zg_0 cs ad σ (zt cs qo o qd d)) rfl) rfl rfl hl.1 rfl (lv_room (Nat.le_of_ble_eq_true rfl)) dL_law_1791 ⟨show C + 0 ≤ 3165 by omega, show D + 0 ≤ 120764 by omega⟩) hD hS hA (fun H locs hP hD hS => ?_)
  refine lv_aload_n hx hb dL_law_1794 rfl (lv_at hl 2 rfl) ?_
  refine zai (va_runV (As := []) (rest := [.int (f_X5_hour σ )]) ⟨hx, hb, hml, hown, hts⟩ (c_X6_hour l G cs ad (zt cs qo o qd d) σ  H.size) (cwV 0 hts gL_law_X6_hour rfl rfl rfl (by decide +kernel) ⟨Nat.le_of_ble_eq_true rfl, Nat.le_of_ble_eq_true rfl⟩) (zpv hE hP hD hS hA (zg_29 cs ad σ (zt cs qo o qd d)) rfl) rfl rfl hl.1 rfl (lv_room (Nat.le_of_ble_eq_true rfl)) dL_law_1795 ⟨show C + 0 + 0 ≤ 3165 by omega, show D + 0 + 0 ≤ 120764 by omega⟩) hD hS hA (fun H locs hP hD hS => ?_)
  refine lv_icmp_eq (tgt := 2254) hx hb dL_law_1798 (by decide) (fun _ => ?_) (fun h9 => absurd hs2 h9)
  refine W.widen (k := C + 6) (n := D + 36) (by omega) (by omega) ?_
  exact hk H locs _ o d ls hs4 hP hD hS hl
set_option maxRecDepth 100000 in
theorem lc_28 {p : Program} {l : Launch} {e : Env} {s : State} {m : MethodId} {below : List Frame} {meth : Method} {c : Code} {b L : Nat} {xs : Nat → Int32} {G : va_G} {cs : Nat → ClassId} (K : zCtx p l s m meth c b L xs G cs) (ad : Nat → Nat) (qo qd : Nat) {Q : State → Prop} {C D t : Nat} {σ : zS} {o : Nat → Int64} {d : Nat → UInt64} {H : Heap} {locs : List Loc} {ls : Array Slot} {x5 : Int32} (hi : 6 * t + 6 ≤ L) (hL : L ≤ 3072) (hR : zR t σ) (hC : C + 6 ≤ 3165) (hC2 : D + 36 ≤ 120764)
    (hP : va_P G vwCl (zw cs ad σ (zt cs qo o qd d)) H) (hD : va_D (fun q => s.heap.size ≤ q) (zw cs ad σ (zt cs qo o qd d))) (hS : va_S (fun q => s.heap.size ≤ q) s.heap H locs) (ex : x5 = nI (6 * t)) (hl : lv_has ls 9 [(0, .ref b), (1, .ref (ad 0)), (2, .ref (ad 29)), (3, .ref qo), (4, .ref qd), (5, .int x5)])
    (hk : ∀ (H : Heap) (locs : List Loc) (σ : zS) (o : Nat → Int64) (d : Nat → UInt64) (ls : Array Slot), zR (t + 1) σ → va_P G vwCl (zw cs ad σ (zt cs qo o qd d)) H → va_D (fun q => s.heap.size ≤ q) (zw cs ad σ (zt cs qo o qd d)) → va_S (fun q => s.heap.size ≤ q) s.heap H locs → lv_has ls 9 [(0, .ref b), (1, .ref (ad 0)), (2, .ref (ad 29)), (3, .ref qo), (4, .ref qd), (5, .int x5)] → W p l e room_1 s m #[Value.ref b] below meth c H locs (C + 6) (D + 36) Q (F0 m 2254 ls [])) :
    W p l e room_1 s m #[Value.ref b] below meth c H locs C D Q (F0 m 1803 ls []) := by
  obtain ⟨hx, hb, hr, hml, hown, hts, htc, hX, hbl, hfl, hE⟩ := K
  have hts2 : ∀ w ∈ wsLaw2, w.before #[Value.ref b] s = true := fun w h => (List.mem_append.mp h).elim (htc w) (hts w)
  have hA : ∀ q : Nat, s.heap.size ≤ q → (fun q : Nat => s.heap.size ≤ q) q := fun _ h => h
  have hbA : ¬ (fun q : Nat => s.heap.size ≤ q) b := Nat.not_le.mpr hbl
  obtain ⟨hI, hs2, hs3, hs4⟩ := sim_onDuty hR (by omega) 
  refine lv_aload_n hx hb dL_law_1803 rfl (lv_at hl 1 rfl) ?_
  refine lv_aload_n hx hb dL_law_1804 rfl (lv_at hl 3 rfl) ?_
  refine zai (vx_runSW (As := [.ref (ad 0), .ref qo]) (rest := []) ⟨hx, hb, hml, hown, hts⟩ (c_L_onDuty l hfl G cs ad qo o qd d σ   H.size) (vx_cwSW 2 hts2 (z_gl rfl (up2 gL_law_L_onDuty) zclG) rfl rfl rfl (by decide +kernel) ⟨Nat.le_of_ble_eq_true rfl, Nat.le_of_ble_eq_true rfl⟩) (zps hE hP hD hS hA) rfl rfl hl.1 rfl (lv_room (Nat.le_of_ble_eq_true rfl)) dL_law_1805 ⟨show C + 1 ≤ 3165 by omega, show D + 6 ≤ 120764 by omega⟩) hD hS hA (fun H locs hP hD hS => ?_)
  refine lv_istore (lv' := [(6, .int (f_L_onDuty (f_X5_onDuty σ ).1)), (0, .ref b), (1, .ref (ad 0)), (2, .ref (ad 29)), (3, .ref qo), (4, .ref qd), (5, .int x5)]) hx hb dL_law_1808 hl (by decide) rfl (fun ls hl => ?_)
  refine lv_aload_n hx hb dL_law_1810 rfl (lv_at hl 3 rfl) ?_
  refine zai (va_runV (As := []) (rest := []) ⟨hx, hb, hml, hown, hts⟩ (c_X6_onDuty l G cs ad (zt cs qo (zo (f_X5_onDuty σ ).1 (f_X5_onDuty σ ).2.1.toInt64 o) qd d) (f_X5_onDuty σ ).2.2   H.size) (cwV 0 hts gL_law_X6_onDuty rfl rfl rfl (by decide +kernel) ⟨Nat.le_of_ble_eq_true rfl, Nat.le_of_ble_eq_true rfl⟩) (zpv hE hP hD hS hA (zg_29 cs ad (f_X5_onDuty σ ).2.2 (zt cs qo (zo (f_X5_onDuty σ ).1 (f_X5_onDuty σ ).2.1.toInt64 o) qd d)) rfl) rfl rfl hl.1 rfl (lv_room (Nat.le_of_ble_eq_true rfl)) dL_law_1811 ⟨show C + 1 + 0 ≤ 3165 by omega, show D + 6 + 0 ≤ 120764 by omega⟩) hD hS hA (fun H locs hP hD hS => ?_)
  refine lv_istore (lv' := [(7, .int (f_X6_onDuty (f_X5_onDuty σ ).2.2 ).1), (6, .int (f_L_onDuty (f_X5_onDuty σ ).1)), (0, .ref b), (1, .ref (ad 0)), (2, .ref (ad 29)), (3, .ref qo), (4, .ref qd), (5, .int x5)]) hx hb dL_law_1814 hl (by decide) rfl (fun ls hl => ?_)
  refine lv_aload_n hx hb dL_law_1816 rfl (lv_at hl 4 rfl) ?_
  refine zai (va_runV (As := []) (rest := []) ⟨hx, hb, hml, hown, hts⟩ (c_X6_thrown l G cs ad (zt cs qo (zo (f_X5_onDuty σ ).1 (f_X5_onDuty σ ).2.1.toInt64 o) qd d) (f_X6_onDuty (f_X5_onDuty σ ).2.2 ).2 H.size) (cwV 0 hts gL_law_X6_thrown rfl rfl rfl (by decide +kernel) ⟨Nat.le_of_ble_eq_true rfl, Nat.le_of_ble_eq_true rfl⟩) (zpv hE hP hD hS hA (zg_29 cs ad (f_X6_onDuty (f_X5_onDuty σ ).2.2 ).2 (zt cs qo (zo (f_X5_onDuty σ ).1 (f_X5_onDuty σ ).2.1.toInt64 o) qd d)) rfl) rfl rfl hl.1 rfl (lv_room (Nat.le_of_ble_eq_true rfl)) dL_law_1817 ⟨show C + 1 + 0 + 0 ≤ 3165 by omega, show D + 6 + 0 + 0 ≤ 120764 by omega⟩) hD hS hA (fun H locs hP hD hS => ?_)
  refine lv_iload hx hb dL_law_1820 (lv_at hl 1 rfl) ?_
  refine lv_icmp_eq (tgt := 1827) hx hb dL_law_1822 (by decide) (fun _ => ?_) (fun h9 => absurd hs2 h9)
  refine lv_iload hx hb dL_law_1827 (lv_at hl 1 rfl) ?_
  refine lv_if_ne (tgt := 1844) hx hb dL_law_1829 (by decide) (fun h8 => ?_) (fun h8 => ?_)
  · skip
    refine lv_goto (tgt := 2254) hx hb dL_law_1844 (by decide) ?_
    refine W.widen (k := C + 6) (n := D + 36) (by omega) (by omega) ?_
    exact hk H locs _ _ _ ls hs4 hP hD hS (lv_sub hl [2, 3, 4, 5, 6, 7] rfl)
  · obtain ⟨h7, h6⟩ := hs3 h8
    refine lv_aload_n hx hb dL_law_1832 rfl (lv_at hl 5 rfl) ?_
    refine lv_iconst (v := 0) hx hb dL_law_1833 (by decide) ?_
    have e0 : zo (f_X5_onDuty σ ).1 (f_X5_onDuty σ ).2.1.toInt64 o (0 : Int32).toNatClampNeg = (f_X5_onDuty σ ).2.1.toInt64 := by unfold zo; rw [if_pos h7]; exact if_pos rfl
    refine va_lald hx hb hE.1 hP 51 3 rfl rfl z_in01 dL_law_1834 ?_
    rw [e0]
    refine lv_iload hx hb dL_law_1835 (lv_at hl 0 rfl) ?_
    refine lv_i2l (v := (f_X6_onDuty (f_X5_onDuty σ ).2.2 ).1.toInt64) hx hb dL_law_1837 rfl ?_
    refine W.lcmp hx hb dL_law_1838 ?_
    refine lv_if_eq (tgt := 1844) hx hb dL_law_1839 (by decide) (fun _ => ?_) (fun h9 => absurd (by rw [h6]; exact lg_cmp_self _) h9)
    refine lv_goto (tgt := 2254) hx hb dL_law_1844 (by decide) ?_
    refine W.widen (k := C + 6) (n := D + 36) (by omega) (by omega) ?_
    exact hk H locs _ _ _ ls hs4 hP hD hS (lv_sub hl [2, 3, 4, 5, 6, 7] rfl)
set_option maxRecDepth 100000 in
theorem lc_29 {p : Program} {l : Launch} {e : Env} {s : State} {m : MethodId} {below : List Frame} {meth : Method} {c : Code} {b L : Nat} {xs : Nat → Int32} {G : va_G} {cs : Nat → ClassId} (K : zCtx p l s m meth c b L xs G cs) (ad : Nat → Nat) (qo qd : Nat) {Q : State → Prop} {C D t : Nat} {σ : zS} {o : Nat → Int64} {d : Nat → UInt64} {H : Heap} {locs : List Loc} {ls : Array Slot} {x5 : Int32} (hi : 6 * t + 6 ≤ L) (hL : L ≤ 3072) (hR : zR t σ) (hC : C + 6 ≤ 3165) (hC2 : D + 36 ≤ 120764)
    (hP : va_P G vwCl (zw cs ad σ (zt cs qo o qd d)) H) (hD : va_D (fun q => s.heap.size ≤ q) (zw cs ad σ (zt cs qo o qd d))) (hS : va_S (fun q => s.heap.size ≤ q) s.heap H locs) (ex : x5 = nI (6 * t)) (hl : lv_has ls 9 [(0, .ref b), (1, .ref (ad 0)), (2, .ref (ad 29)), (3, .ref qo), (4, .ref qd), (5, .int x5)])
    (hk : ∀ (H : Heap) (locs : List Loc) (σ : zS) (o : Nat → Int64) (d : Nat → UInt64) (ls : Array Slot), zR (t + 1) σ → va_P G vwCl (zw cs ad σ (zt cs qo o qd d)) H → va_D (fun q => s.heap.size ≤ q) (zw cs ad σ (zt cs qo o qd d)) → va_S (fun q => s.heap.size ≤ q) s.heap H locs → lv_has ls 9 [(0, .ref b), (1, .ref (ad 0)), (2, .ref (ad 29)), (3, .ref qo), (4, .ref qd), (5, .int x5)] → W p l e room_1 s m #[Value.ref b] below meth c H locs (C + 6) (D + 36) Q (F0 m 2254 ls [])) :
    W p l e room_1 s m #[Value.ref b] below meth c H locs C D Q (F0 m 1847 ls []) := by
  obtain ⟨hx, hb, hr, hml, hown, hts, htc, hX, hbl, hfl, hE⟩ := K
  have hts2 : ∀ w ∈ wsLaw2, w.before #[Value.ref b] s = true := fun w h => (List.mem_append.mp h).elim (htc w) (hts w)
  have hA : ∀ q : Nat, s.heap.size ≤ q → (fun q : Nat => s.heap.size ≤ q) q := fun _ h => h
  have hbA : ¬ (fun q : Nat => s.heap.size ≤ q) b := Nat.not_le.mpr hbl
  obtain ⟨hI, hs2, hs4⟩ := sim_isTired hR (by omega)
  refine lv_aload_n hx hb dL_law_1847 rfl (lv_at hl 1 rfl) ?_
  refine zai (va_runV (As := []) (rest := []) ⟨hx, hb, hml, hown, hts⟩ (c_X5_isTired l G cs ad (zt cs qo o qd d) σ H.size) (cwV 0 hts gL_law_X5_isTired rfl rfl rfl (by decide +kernel) ⟨Nat.le_of_ble_eq_true rfl, Nat.le_of_ble_eq_true rfl⟩) (zpv hE hP hD hS hA (zg_0 cs ad σ (zt cs qo o qd d)) rfl) rfl rfl hl.1 rfl (lv_room (Nat.le_of_ble_eq_true rfl)) dL_law_1848 ⟨show C + 0 ≤ 3165 by omega, show D + 0 ≤ 120764 by omega⟩) hD hS hA (fun H locs hP hD hS => ?_)
  refine lv_aload_n hx hb dL_law_1851 rfl (lv_at hl 2 rfl) ?_
  refine zai (va_runV (As := []) (rest := [.int (f_X5_isTired σ )]) ⟨hx, hb, hml, hown, hts⟩ (c_X6_isTired l G cs ad (zt cs qo o qd d) σ  H.size) (cwV 0 hts gL_law_X6_isTired rfl rfl rfl (by decide +kernel) ⟨Nat.le_of_ble_eq_true rfl, Nat.le_of_ble_eq_true rfl⟩) (zpv hE hP hD hS hA (zg_29 cs ad σ (zt cs qo o qd d)) rfl) rfl rfl hl.1 rfl (lv_room (Nat.le_of_ble_eq_true rfl)) dL_law_1852 ⟨show C + 0 + 0 ≤ 3165 by omega, show D + 0 + 0 ≤ 120764 by omega⟩) hD hS hA (fun H locs hP hD hS => ?_)
  refine lv_icmp_eq (tgt := 2254) hx hb dL_law_1855 (by decide) (fun _ => ?_) (fun h9 => absurd hs2 h9)
  refine W.widen (k := C + 6) (n := D + 36) (by omega) (by omega) ?_
  exact hk H locs _ o d ls hs4 hP hD hS hl
set_option maxRecDepth 100000 in
theorem lc_30 {p : Program} {l : Launch} {e : Env} {s : State} {m : MethodId} {below : List Frame} {meth : Method} {c : Code} {b L : Nat} {xs : Nat → Int32} {G : va_G} {cs : Nat → ClassId} (K : zCtx p l s m meth c b L xs G cs) (ad : Nat → Nat) (qo qd : Nat) {Q : State → Prop} {C D t : Nat} {σ : zS} {o : Nat → Int64} {d : Nat → UInt64} {H : Heap} {locs : List Loc} {ls : Array Slot} {x5 : Int32} (hi : 6 * t + 6 ≤ L) (hL : L ≤ 3072) (hR : zR t σ) (hC : C + 6 ≤ 3165) (hC2 : D + 36 ≤ 120764)
    (hP : va_P G vwCl (zw cs ad σ (zt cs qo o qd d)) H) (hD : va_D (fun q => s.heap.size ≤ q) (zw cs ad σ (zt cs qo o qd d))) (hS : va_S (fun q => s.heap.size ≤ q) s.heap H locs) (ex : x5 = nI (6 * t)) (hl : lv_has ls 9 [(0, .ref b), (1, .ref (ad 0)), (2, .ref (ad 29)), (3, .ref qo), (4, .ref qd), (5, .int x5)])
    (hk : ∀ (H : Heap) (locs : List Loc) (σ : zS) (o : Nat → Int64) (d : Nat → UInt64) (ls : Array Slot), zR (t + 1) σ → va_P G vwCl (zw cs ad σ (zt cs qo o qd d)) H → va_D (fun q => s.heap.size ≤ q) (zw cs ad σ (zt cs qo o qd d)) → va_S (fun q => s.heap.size ≤ q) s.heap H locs → lv_has ls 9 [(0, .ref b), (1, .ref (ad 0)), (2, .ref (ad 29)), (3, .ref qo), (4, .ref qd), (5, .int x5)] → W p l e room_1 s m #[Value.ref b] below meth c H locs (C + 6) (D + 36) Q (F0 m 2254 ls [])) :
    W p l e room_1 s m #[Value.ref b] below meth c H locs C D Q (F0 m 1860 ls []) := by
  obtain ⟨hx, hb, hr, hml, hown, hts, htc, hX, hbl, hfl, hE⟩ := K
  have hts2 : ∀ w ∈ wsLaw2, w.before #[Value.ref b] s = true := fun w h => (List.mem_append.mp h).elim (htc w) (hts w)
  have hA : ∀ q : Nat, s.heap.size ≤ q → (fun q : Nat => s.heap.size ≤ q) q := fun _ h => h
  have hbA : ¬ (fun q : Nat => s.heap.size ≤ q) b := Nat.not_le.mpr hbl
  have hin1 : vp_in (x5 + 1) L := by rw [ex, show (1 : Int32) = nI 1 from rfl, nI_add]; exact vp_in_nI (by omega) (by omega)
  obtain ⟨hI, hs2, hs3, hs4⟩ := sim_restLeft hR (by omega) (xs (x5 + 1).toNatClampNeg)
  refine lv_aload_n hx hb dL_law_1860 rfl (lv_at hl 1 rfl) ?_
  refine lv_aload_n hx hb dL_law_1861 rfl (lv_at hl 0 rfl) ?_
  refine lv_iload hx hb dL_law_1862 (lv_at hl 5 rfl) ?_
  refine lv_iconst (v := 1) hx hb dL_law_1864 (by decide) ?_
  refine lv_iadd hx hb dL_law_1865 ?_
  refine va_sld hx hb hX hbl hbA hS hin1 dL_law_1866 ?_
  refine lv_aload_n hx hb dL_law_1867 rfl (lv_at hl 3 rfl) ?_
  refine zai (vx_runSW (As := [.ref (ad 0), .int (xs (x5 + 1).toNatClampNeg), .ref qo]) (rest := []) ⟨hx, hb, hml, hown, hts⟩ (c_L_restLeft l hfl G cs ad qo o qd d σ (xs (x5 + 1).toNatClampNeg)  H.size) (vx_cwSW 3 hts2 (z_gl rfl (up2 gL_law_L_restLeft) zclG) rfl rfl rfl (by decide +kernel) ⟨Nat.le_of_ble_eq_true rfl, Nat.le_of_ble_eq_true rfl⟩) (zps hE hP hD hS hA) rfl rfl hl.1 rfl (lv_room (Nat.le_of_ble_eq_true rfl)) dL_law_1868 ⟨show C + 1 ≤ 3165 by omega, show D + 6 ≤ 120764 by omega⟩) hD hS hA (fun H locs hP hD hS => ?_)
  refine lv_istore (lv' := [(6, .int (f_L_restLeft (f_X5_restLeft σ (xs (x5 + 1).toNatClampNeg)).1)), (0, .ref b), (1, .ref (ad 0)), (2, .ref (ad 29)), (3, .ref qo), (4, .ref qd), (5, .int x5)]) hx hb dL_law_1871 hl (by decide) rfl (fun ls hl => ?_)
  refine lv_aload_n hx hb dL_law_1873 rfl (lv_at hl 3 rfl) ?_
  refine lv_aload_n hx hb dL_law_1874 rfl (lv_at hl 1 rfl) ?_
  refine lv_iload hx hb dL_law_1875 (lv_at hl 6 rfl) ?_
  refine lv_iconst (v := 1) hx hb dL_law_1877 (by decide) ?_
  refine lv_iadd hx hb dL_law_1878 ?_
  refine va_sld hx hb hX hbl hbA hS hin1 dL_law_1879 ?_
  refine zai (va_runV (As := [.int (xs (x5 + 1).toNatClampNeg)]) (rest := []) ⟨hx, hb, hml, hown, hts⟩ (c_X6_restLeft l G cs ad (zt cs qo (zo (f_X5_restLeft σ (xs (x5 + 1).toNatClampNeg)).1 (f_X5_restLeft σ (xs (x5 + 1).toNatClampNeg)).2.1.toInt64 o) qd d) (f_X5_restLeft σ (xs (x5 + 1).toNatClampNeg)).2.2 (xs (x5 + 1).toNatClampNeg)  H.size) (cwV 1 hts gL_law_X6_restLeft rfl rfl rfl (by decide +kernel) ⟨Nat.le_of_ble_eq_true rfl, Nat.le_of_ble_eq_true rfl⟩) (zpv hE hP hD hS hA (zg_29 cs ad (f_X5_restLeft σ (xs (x5 + 1).toNatClampNeg)).2.2 (zt cs qo (zo (f_X5_restLeft σ (xs (x5 + 1).toNatClampNeg)).1 (f_X5_restLeft σ (xs (x5 + 1).toNatClampNeg)).2.1.toInt64 o) qd d)) rfl) rfl rfl hl.1 rfl (lv_room (Nat.le_of_ble_eq_true rfl)) dL_law_1880 ⟨show C + 1 + 0 ≤ 3165 by omega, show D + 6 + 0 ≤ 120764 by omega⟩) hD hS hA (fun H locs hP hD hS => ?_)
  refine lv_istore (lv' := [(7, .int (f_X6_restLeft (f_X5_restLeft σ (xs (x5 + 1).toNatClampNeg)).2.2 (xs (x5 + 1).toNatClampNeg)).1), (6, .int (f_L_restLeft (f_X5_restLeft σ (xs (x5 + 1).toNatClampNeg)).1)), (0, .ref b), (1, .ref (ad 0)), (2, .ref (ad 29)), (3, .ref qo), (4, .ref qd), (5, .int x5)]) hx hb dL_law_1883 hl (by decide) rfl (fun ls hl => ?_)
  refine lv_aload_n hx hb dL_law_1885 rfl (lv_at hl 4 rfl) ?_
  refine zai (va_runV (As := []) (rest := []) ⟨hx, hb, hml, hown, hts⟩ (c_X6_thrown l G cs ad (zt cs qo (zo (f_X5_restLeft σ (xs (x5 + 1).toNatClampNeg)).1 (f_X5_restLeft σ (xs (x5 + 1).toNatClampNeg)).2.1.toInt64 o) qd d) (f_X6_restLeft (f_X5_restLeft σ (xs (x5 + 1).toNatClampNeg)).2.2 (xs (x5 + 1).toNatClampNeg)).2 H.size) (cwV 0 hts gL_law_X6_thrown rfl rfl rfl (by decide +kernel) ⟨Nat.le_of_ble_eq_true rfl, Nat.le_of_ble_eq_true rfl⟩) (zpv hE hP hD hS hA (zg_29 cs ad (f_X6_restLeft (f_X5_restLeft σ (xs (x5 + 1).toNatClampNeg)).2.2 (xs (x5 + 1).toNatClampNeg)).2 (zt cs qo (zo (f_X5_restLeft σ (xs (x5 + 1).toNatClampNeg)).1 (f_X5_restLeft σ (xs (x5 + 1).toNatClampNeg)).2.1.toInt64 o) qd d)) rfl) rfl rfl hl.1 rfl (lv_room (Nat.le_of_ble_eq_true rfl)) dL_law_1886 ⟨show C + 1 + 0 + 0 ≤ 3165 by omega, show D + 6 + 0 + 0 ≤ 120764 by omega⟩) hD hS hA (fun H locs hP hD hS => ?_)
  refine lv_iload hx hb dL_law_1889 (lv_at hl 1 rfl) ?_
  refine lv_icmp_eq (tgt := 1896) hx hb dL_law_1891 (by decide) (fun _ => ?_) (fun h9 => absurd hs2 h9)
  refine lv_iload hx hb dL_law_1896 (lv_at hl 1 rfl) ?_
  refine lv_if_ne (tgt := 1913) hx hb dL_law_1898 (by decide) (fun h8 => ?_) (fun h8 => ?_)
  · skip
    refine lv_goto (tgt := 2254) hx hb dL_law_1913 (by decide) ?_
    refine W.widen (k := C + 6) (n := D + 36) (by omega) (by omega) ?_
    exact hk H locs _ _ _ ls hs4 hP hD hS (lv_sub hl [2, 3, 4, 5, 6, 7] rfl)
  · obtain ⟨h7, h6⟩ := hs3 h8
    refine lv_aload_n hx hb dL_law_1901 rfl (lv_at hl 5 rfl) ?_
    refine lv_iconst (v := 0) hx hb dL_law_1902 (by decide) ?_
    have e0 : zo (f_X5_restLeft σ (xs (x5 + 1).toNatClampNeg)).1 (f_X5_restLeft σ (xs (x5 + 1).toNatClampNeg)).2.1.toInt64 o (0 : Int32).toNatClampNeg = (f_X5_restLeft σ (xs (x5 + 1).toNatClampNeg)).2.1.toInt64 := by unfold zo; rw [if_pos h7]; exact if_pos rfl
    refine va_lald hx hb hE.1 hP 51 3 rfl rfl z_in01 dL_law_1903 ?_
    rw [e0]
    refine lv_iload hx hb dL_law_1904 (lv_at hl 0 rfl) ?_
    refine lv_i2l (v := (f_X6_restLeft (f_X5_restLeft σ (xs (x5 + 1).toNatClampNeg)).2.2 (xs (x5 + 1).toNatClampNeg)).1.toInt64) hx hb dL_law_1906 rfl ?_
    refine W.lcmp hx hb dL_law_1907 ?_
    refine lv_if_eq (tgt := 1913) hx hb dL_law_1908 (by decide) (fun _ => ?_) (fun h9 => absurd (by rw [h6]; exact lg_cmp_self _) h9)
    refine lv_goto (tgt := 2254) hx hb dL_law_1913 (by decide) ?_
    refine W.widen (k := C + 6) (n := D + 36) (by omega) (by omega) ?_
    exact hk H locs _ _ _ ls hs4 hP hD hS (lv_sub hl [2, 3, 4, 5, 6, 7] rfl)
set_option maxRecDepth 100000 in
theorem lc_31 {p : Program} {l : Launch} {e : Env} {s : State} {m : MethodId} {below : List Frame} {meth : Method} {c : Code} {b L : Nat} {xs : Nat → Int32} {G : va_G} {cs : Nat → ClassId} (K : zCtx p l s m meth c b L xs G cs) (ad : Nat → Nat) (qo qd : Nat) {Q : State → Prop} {C D t : Nat} {σ : zS} {o : Nat → Int64} {d : Nat → UInt64} {H : Heap} {locs : List Loc} {ls : Array Slot} {x5 : Int32} (hi : 6 * t + 6 ≤ L) (hL : L ≤ 3072) (hR : zR t σ) (hC : C + 6 ≤ 3165) (hC2 : D + 36 ≤ 120764)
    (hP : va_P G vwCl (zw cs ad σ (zt cs qo o qd d)) H) (hD : va_D (fun q => s.heap.size ≤ q) (zw cs ad σ (zt cs qo o qd d))) (hS : va_S (fun q => s.heap.size ≤ q) s.heap H locs) (ex : x5 = nI (6 * t)) (hl : lv_has ls 9 [(0, .ref b), (1, .ref (ad 0)), (2, .ref (ad 29)), (3, .ref qo), (4, .ref qd), (5, .int x5)])
    (hk : ∀ (H : Heap) (locs : List Loc) (σ : zS) (o : Nat → Int64) (d : Nat → UInt64) (ls : Array Slot), zR (t + 1) σ → va_P G vwCl (zw cs ad σ (zt cs qo o qd d)) H → va_D (fun q => s.heap.size ≤ q) (zw cs ad σ (zt cs qo o qd d)) → va_S (fun q => s.heap.size ≤ q) s.heap H locs → lv_has ls 9 [(0, .ref b), (1, .ref (ad 0)), (2, .ref (ad 29)), (3, .ref qo), (4, .ref qd), (5, .int x5)] → W p l e room_1 s m #[Value.ref b] below meth c H locs (C + 6) (D + 36) Q (F0 m 2254 ls [])) :
    W p l e room_1 s m #[Value.ref b] below meth c H locs C D Q (F0 m 1916 ls []) := by
  obtain ⟨hx, hb, hr, hml, hown, hts, htc, hX, hbl, hfl, hE⟩ := K
  have hts2 : ∀ w ∈ wsLaw2, w.before #[Value.ref b] s = true := fun w h => (List.mem_append.mp h).elim (htc w) (hts w)
  have hA : ∀ q : Nat, s.heap.size ≤ q → (fun q : Nat => s.heap.size ≤ q) q := fun _ h => h
  have hbA : ¬ (fun q : Nat => s.heap.size ≤ q) b := Nat.not_le.mpr hbl
  obtain ⟨hI, hs2, hs4⟩ := sim_openLines hR (by omega)
  refine lv_aload_n hx hb dL_law_1916 rfl (lv_at hl 1 rfl) ?_
  refine zai (va_runV (As := []) (rest := []) ⟨hx, hb, hml, hown, hts⟩ (c_X5_openLines l G cs ad (zt cs qo o qd d) σ H.size) (cwV 0 hts gL_law_X5_openLines rfl rfl rfl (by decide +kernel) ⟨Nat.le_of_ble_eq_true rfl, Nat.le_of_ble_eq_true rfl⟩) (zpv hE hP hD hS hA (zg_0 cs ad σ (zt cs qo o qd d)) rfl) rfl rfl hl.1 rfl (lv_room (Nat.le_of_ble_eq_true rfl)) dL_law_1917 ⟨show C + 0 ≤ 3165 by omega, show D + 0 ≤ 120764 by omega⟩) hD hS hA (fun H locs hP hD hS => ?_)
  refine lv_aload_n hx hb dL_law_1920 rfl (lv_at hl 2 rfl) ?_
  refine zai (va_runV (As := []) (rest := [.int (f_X5_openLines σ )]) ⟨hx, hb, hml, hown, hts⟩ (c_X6_openLines l G cs ad (zt cs qo o qd d) σ hI H.size) (cwV 0 hts gL_law_X6_openLines rfl rfl rfl (by decide +kernel) ⟨Nat.le_of_ble_eq_true rfl, Nat.le_of_ble_eq_true rfl⟩) (zpv hE hP hD hS hA (zg_29 cs ad σ (zt cs qo o qd d)) rfl) rfl rfl hl.1 rfl (lv_room (Nat.le_of_ble_eq_true rfl)) dL_law_1921 ⟨show C + 0 + 0 ≤ 3165 by omega, show D + 0 + 0 ≤ 120764 by omega⟩) hD hS hA (fun H locs hP hD hS => ?_)
  refine lv_icmp_eq (tgt := 2254) hx hb dL_law_1924 (by decide) (fun _ => ?_) (fun h9 => absurd hs2 h9)
  refine W.widen (k := C + 6) (n := D + 36) (by omega) (by omega) ?_
  exact hk H locs _ o d ls hs4 hP hD hS hl
set_option maxRecDepth 100000 in
theorem lc_32 {p : Program} {l : Launch} {e : Env} {s : State} {m : MethodId} {below : List Frame} {meth : Method} {c : Code} {b L : Nat} {xs : Nat → Int32} {G : va_G} {cs : Nat → ClassId} (K : zCtx p l s m meth c b L xs G cs) (ad : Nat → Nat) (qo qd : Nat) {Q : State → Prop} {C D t : Nat} {σ : zS} {o : Nat → Int64} {d : Nat → UInt64} {H : Heap} {locs : List Loc} {ls : Array Slot} {x5 : Int32} (hi : 6 * t + 6 ≤ L) (hL : L ≤ 3072) (hR : zR t σ) (hC : C + 6 ≤ 3165) (hC2 : D + 36 ≤ 120764)
    (hP : va_P G vwCl (zw cs ad σ (zt cs qo o qd d)) H) (hD : va_D (fun q => s.heap.size ≤ q) (zw cs ad σ (zt cs qo o qd d))) (hS : va_S (fun q => s.heap.size ≤ q) s.heap H locs) (ex : x5 = nI (6 * t)) (hl : lv_has ls 9 [(0, .ref b), (1, .ref (ad 0)), (2, .ref (ad 29)), (3, .ref qo), (4, .ref qd), (5, .int x5)])
    (hk : ∀ (H : Heap) (locs : List Loc) (σ : zS) (o : Nat → Int64) (d : Nat → UInt64) (ls : Array Slot), zR (t + 1) σ → va_P G vwCl (zw cs ad σ (zt cs qo o qd d)) H → va_D (fun q => s.heap.size ≤ q) (zw cs ad σ (zt cs qo o qd d)) → va_S (fun q => s.heap.size ≤ q) s.heap H locs → lv_has ls 9 [(0, .ref b), (1, .ref (ad 0)), (2, .ref (ad 29)), (3, .ref qo), (4, .ref qd), (5, .int x5)] → W p l e room_1 s m #[Value.ref b] below meth c H locs (C + 6) (D + 36) Q (F0 m 2254 ls [])) :
    W p l e room_1 s m #[Value.ref b] below meth c H locs C D Q (F0 m 1929 ls []) := by
  obtain ⟨hx, hb, hr, hml, hown, hts, htc, hX, hbl, hfl, hE⟩ := K
  have hts2 : ∀ w ∈ wsLaw2, w.before #[Value.ref b] s = true := fun w h => (List.mem_append.mp h).elim (htc w) (hts w)
  have hA : ∀ q : Nat, s.heap.size ≤ q → (fun q : Nat => s.heap.size ≤ q) q := fun _ h => h
  have hbA : ¬ (fun q : Nat => s.heap.size ≤ q) b := Nat.not_le.mpr hbl
  obtain ⟨hI, hs2, hs4⟩ := sim_openByLog hR (by omega)
  refine lv_aload_n hx hb dL_law_1929 rfl (lv_at hl 1 rfl) ?_
  refine zai (va_runV (As := []) (rest := []) ⟨hx, hb, hml, hown, hts⟩ (c_X5_openByLog l G cs ad (zt cs qo o qd d) σ H.size) (cwV 0 hts gL_law_X5_openByLog rfl rfl rfl (by decide +kernel) ⟨Nat.le_of_ble_eq_true rfl, Nat.le_of_ble_eq_true rfl⟩) (zpv hE hP hD hS hA (zg_0 cs ad σ (zt cs qo o qd d)) rfl) rfl rfl hl.1 rfl (lv_room (Nat.le_of_ble_eq_true rfl)) dL_law_1930 ⟨show C + 0 ≤ 3165 by omega, show D + 0 ≤ 120764 by omega⟩) hD hS hA (fun H locs hP hD hS => ?_)
  refine lv_aload_n hx hb dL_law_1933 rfl (lv_at hl 2 rfl) ?_
  refine zai (va_runV (As := []) (rest := [.int (f_X5_openByLog σ )]) ⟨hx, hb, hml, hown, hts⟩ (c_X6_openByLog l G cs ad (zt cs qo o qd d) σ hI H.size) (cwV 0 hts gL_law_X6_openByLog rfl rfl rfl (by decide +kernel) ⟨Nat.le_of_ble_eq_true rfl, Nat.le_of_ble_eq_true rfl⟩) (zpv hE hP hD hS hA (zg_29 cs ad σ (zt cs qo o qd d)) rfl) rfl rfl hl.1 rfl (lv_room (Nat.le_of_ble_eq_true rfl)) dL_law_1934 ⟨show C + 0 + 0 ≤ 3165 by omega, show D + 0 + 0 ≤ 120764 by omega⟩) hD hS hA (fun H locs hP hD hS => ?_)
  refine lv_icmp_eq (tgt := 2254) hx hb dL_law_1937 (by decide) (fun _ => ?_) (fun h9 => absurd hs2 h9)
  refine W.widen (k := C + 6) (n := D + 36) (by omega) (by omega) ?_
  exact hk H locs _ o d ls hs4 hP hD hS hl
set_option maxRecDepth 100000 in
theorem lc_33 {p : Program} {l : Launch} {e : Env} {s : State} {m : MethodId} {below : List Frame} {meth : Method} {c : Code} {b L : Nat} {xs : Nat → Int32} {G : va_G} {cs : Nat → ClassId} (K : zCtx p l s m meth c b L xs G cs) (ad : Nat → Nat) (qo qd : Nat) {Q : State → Prop} {C D t : Nat} {σ : zS} {o : Nat → Int64} {d : Nat → UInt64} {H : Heap} {locs : List Loc} {ls : Array Slot} {x5 : Int32} (hi : 6 * t + 6 ≤ L) (hL : L ≤ 3072) (hR : zR t σ) (hC : C + 6 ≤ 3165) (hC2 : D + 36 ≤ 120764)
    (hP : va_P G vwCl (zw cs ad σ (zt cs qo o qd d)) H) (hD : va_D (fun q => s.heap.size ≤ q) (zw cs ad σ (zt cs qo o qd d))) (hS : va_S (fun q => s.heap.size ≤ q) s.heap H locs) (ex : x5 = nI (6 * t)) (hl : lv_has ls 9 [(0, .ref b), (1, .ref (ad 0)), (2, .ref (ad 29)), (3, .ref qo), (4, .ref qd), (5, .int x5)])
    (hk : ∀ (H : Heap) (locs : List Loc) (σ : zS) (o : Nat → Int64) (d : Nat → UInt64) (ls : Array Slot), zR (t + 1) σ → va_P G vwCl (zw cs ad σ (zt cs qo o qd d)) H → va_D (fun q => s.heap.size ≤ q) (zw cs ad σ (zt cs qo o qd d)) → va_S (fun q => s.heap.size ≤ q) s.heap H locs → lv_has ls 9 [(0, .ref b), (1, .ref (ad 0)), (2, .ref (ad 29)), (3, .ref qo), (4, .ref qd), (5, .int x5)] → W p l e room_1 s m #[Value.ref b] below meth c H locs (C + 6) (D + 36) Q (F0 m 2254 ls [])) :
    W p l e room_1 s m #[Value.ref b] below meth c H locs C D Q (F0 m 1942 ls []) := by
  obtain ⟨hx, hb, hr, hml, hown, hts, htc, hX, hbl, hfl, hE⟩ := K
  have hts2 : ∀ w ∈ wsLaw2, w.before #[Value.ref b] s = true := fun w h => (List.mem_append.mp h).elim (htc w) (hts w)
  have hA : ∀ q : Nat, s.heap.size ≤ q → (fun q : Nat => s.heap.size ≤ q) q := fun _ h => h
  have hbA : ¬ (fun q : Nat => s.heap.size ≤ q) b := Nat.not_le.mpr hbl
  have hin1 : vp_in (x5 + 1) L := by rw [ex, show (1 : Int32) = nI 1 from rfl, nI_add]; exact vp_in_nI (by omega) (by omega)
  obtain ⟨hI, hs2, hs3, hs4⟩ := sim_openAt hR (by omega) (xs (x5 + 1).toNatClampNeg)
  refine lv_aload_n hx hb dL_law_1942 rfl (lv_at hl 1 rfl) ?_
  refine lv_aload_n hx hb dL_law_1943 rfl (lv_at hl 0 rfl) ?_
  refine lv_iload hx hb dL_law_1944 (lv_at hl 5 rfl) ?_
  refine lv_iconst (v := 1) hx hb dL_law_1946 (by decide) ?_
  refine lv_iadd hx hb dL_law_1947 ?_
  refine va_sld hx hb hX hbl hbA hS hin1 dL_law_1948 ?_
  refine lv_aload_n hx hb dL_law_1949 rfl (lv_at hl 3 rfl) ?_
  refine zai (vx_runSW (As := [.ref (ad 0), .int (xs (x5 + 1).toNatClampNeg), .ref qo]) (rest := []) ⟨hx, hb, hml, hown, hts⟩ (c_L_openAt l hfl G cs ad qo o qd d σ (xs (x5 + 1).toNatClampNeg)  H.size) (vx_cwSW 3 hts2 (z_gl rfl (up2 gL_law_L_openAt) zclG) rfl rfl rfl (by decide +kernel) ⟨Nat.le_of_ble_eq_true rfl, Nat.le_of_ble_eq_true rfl⟩) (zps hE hP hD hS hA) rfl rfl hl.1 rfl (lv_room (Nat.le_of_ble_eq_true rfl)) dL_law_1950 ⟨show C + 1 ≤ 3165 by omega, show D + 6 ≤ 120764 by omega⟩) hD hS hA (fun H locs hP hD hS => ?_)
  refine lv_istore (lv' := [(6, .int (f_L_openAt (f_X5_openAt σ (xs (x5 + 1).toNatClampNeg)).1)), (0, .ref b), (1, .ref (ad 0)), (2, .ref (ad 29)), (3, .ref qo), (4, .ref qd), (5, .int x5)]) hx hb dL_law_1953 hl (by decide) rfl (fun ls hl => ?_)
  refine lv_aload_n hx hb dL_law_1955 rfl (lv_at hl 3 rfl) ?_
  refine lv_aload_n hx hb dL_law_1956 rfl (lv_at hl 1 rfl) ?_
  refine lv_iload hx hb dL_law_1957 (lv_at hl 6 rfl) ?_
  refine lv_iconst (v := 1) hx hb dL_law_1959 (by decide) ?_
  refine lv_iadd hx hb dL_law_1960 ?_
  refine va_sld hx hb hX hbl hbA hS hin1 dL_law_1961 ?_
  refine zai (va_runV (As := [.int (xs (x5 + 1).toNatClampNeg)]) (rest := []) ⟨hx, hb, hml, hown, hts⟩ (c_X6_openAt l G cs ad (zt cs qo (zo (f_X5_openAt σ (xs (x5 + 1).toNatClampNeg)).1 (f_X5_openAt σ (xs (x5 + 1).toNatClampNeg)).2.1.toInt64 o) qd d) (f_X5_openAt σ (xs (x5 + 1).toNatClampNeg)).2.2 (xs (x5 + 1).toNatClampNeg) hI H.size) (cwV 1 hts gL_law_X6_openAt rfl rfl rfl (by decide +kernel) ⟨Nat.le_of_ble_eq_true rfl, Nat.le_of_ble_eq_true rfl⟩) (zpv hE hP hD hS hA (zg_29 cs ad (f_X5_openAt σ (xs (x5 + 1).toNatClampNeg)).2.2 (zt cs qo (zo (f_X5_openAt σ (xs (x5 + 1).toNatClampNeg)).1 (f_X5_openAt σ (xs (x5 + 1).toNatClampNeg)).2.1.toInt64 o) qd d)) rfl) rfl rfl hl.1 rfl (lv_room (Nat.le_of_ble_eq_true rfl)) dL_law_1962 ⟨show C + 1 + 0 ≤ 3165 by omega, show D + 6 + 0 ≤ 120764 by omega⟩) hD hS hA (fun H locs hP hD hS => ?_)
  refine lv_istore (lv' := [(7, .int (f_X6_openAt (f_X5_openAt σ (xs (x5 + 1).toNatClampNeg)).2.2 (xs (x5 + 1).toNatClampNeg)).1), (6, .int (f_L_openAt (f_X5_openAt σ (xs (x5 + 1).toNatClampNeg)).1)), (0, .ref b), (1, .ref (ad 0)), (2, .ref (ad 29)), (3, .ref qo), (4, .ref qd), (5, .int x5)]) hx hb dL_law_1965 hl (by decide) rfl (fun ls hl => ?_)
  refine lv_aload_n hx hb dL_law_1967 rfl (lv_at hl 4 rfl) ?_
  refine zai (va_runV (As := []) (rest := []) ⟨hx, hb, hml, hown, hts⟩ (c_X6_thrown l G cs ad (zt cs qo (zo (f_X5_openAt σ (xs (x5 + 1).toNatClampNeg)).1 (f_X5_openAt σ (xs (x5 + 1).toNatClampNeg)).2.1.toInt64 o) qd d) (f_X6_openAt (f_X5_openAt σ (xs (x5 + 1).toNatClampNeg)).2.2 (xs (x5 + 1).toNatClampNeg)).2 H.size) (cwV 0 hts gL_law_X6_thrown rfl rfl rfl (by decide +kernel) ⟨Nat.le_of_ble_eq_true rfl, Nat.le_of_ble_eq_true rfl⟩) (zpv hE hP hD hS hA (zg_29 cs ad (f_X6_openAt (f_X5_openAt σ (xs (x5 + 1).toNatClampNeg)).2.2 (xs (x5 + 1).toNatClampNeg)).2 (zt cs qo (zo (f_X5_openAt σ (xs (x5 + 1).toNatClampNeg)).1 (f_X5_openAt σ (xs (x5 + 1).toNatClampNeg)).2.1.toInt64 o) qd d)) rfl) rfl rfl hl.1 rfl (lv_room (Nat.le_of_ble_eq_true rfl)) dL_law_1968 ⟨show C + 1 + 0 + 0 ≤ 3165 by omega, show D + 6 + 0 + 0 ≤ 120764 by omega⟩) hD hS hA (fun H locs hP hD hS => ?_)
  refine lv_iload hx hb dL_law_1971 (lv_at hl 1 rfl) ?_
  refine lv_icmp_eq (tgt := 1978) hx hb dL_law_1973 (by decide) (fun _ => ?_) (fun h9 => absurd hs2 h9)
  refine lv_iload hx hb dL_law_1978 (lv_at hl 1 rfl) ?_
  refine lv_if_ne (tgt := 1995) hx hb dL_law_1980 (by decide) (fun h8 => ?_) (fun h8 => ?_)
  · skip
    refine lv_goto (tgt := 2254) hx hb dL_law_1995 (by decide) ?_
    refine W.widen (k := C + 6) (n := D + 36) (by omega) (by omega) ?_
    exact hk H locs _ _ _ ls hs4 hP hD hS (lv_sub hl [2, 3, 4, 5, 6, 7] rfl)
  · obtain ⟨h7, h6⟩ := hs3 h8
    refine lv_aload_n hx hb dL_law_1983 rfl (lv_at hl 5 rfl) ?_
    refine lv_iconst (v := 0) hx hb dL_law_1984 (by decide) ?_
    have e0 : zo (f_X5_openAt σ (xs (x5 + 1).toNatClampNeg)).1 (f_X5_openAt σ (xs (x5 + 1).toNatClampNeg)).2.1.toInt64 o (0 : Int32).toNatClampNeg = (f_X5_openAt σ (xs (x5 + 1).toNatClampNeg)).2.1.toInt64 := by unfold zo; rw [if_pos h7]; exact if_pos rfl
    refine va_lald hx hb hE.1 hP 51 3 rfl rfl z_in01 dL_law_1985 ?_
    rw [e0]
    refine lv_iload hx hb dL_law_1986 (lv_at hl 0 rfl) ?_
    refine lv_i2l (v := (f_X6_openAt (f_X5_openAt σ (xs (x5 + 1).toNatClampNeg)).2.2 (xs (x5 + 1).toNatClampNeg)).1.toInt64) hx hb dL_law_1988 rfl ?_
    refine W.lcmp hx hb dL_law_1989 ?_
    refine lv_if_eq (tgt := 1995) hx hb dL_law_1990 (by decide) (fun _ => ?_) (fun h9 => absurd (by rw [h6]; exact lg_cmp_self _) h9)
    refine lv_goto (tgt := 2254) hx hb dL_law_1995 (by decide) ?_
    refine W.widen (k := C + 6) (n := D + 36) (by omega) (by omega) ?_
    exact hk H locs _ _ _ ls hs4 hP hD hS (lv_sub hl [2, 3, 4, 5, 6, 7] rfl)
set_option maxRecDepth 100000 in
theorem lc_34 {p : Program} {l : Launch} {e : Env} {s : State} {m : MethodId} {below : List Frame} {meth : Method} {c : Code} {b L : Nat} {xs : Nat → Int32} {G : va_G} {cs : Nat → ClassId} (K : zCtx p l s m meth c b L xs G cs) (ad : Nat → Nat) (qo qd : Nat) {Q : State → Prop} {C D t : Nat} {σ : zS} {o : Nat → Int64} {d : Nat → UInt64} {H : Heap} {locs : List Loc} {ls : Array Slot} {x5 : Int32} (hi : 6 * t + 6 ≤ L) (hL : L ≤ 3072) (hR : zR t σ) (hC : C + 6 ≤ 3165) (hC2 : D + 36 ≤ 120764)
    (hP : va_P G vwCl (zw cs ad σ (zt cs qo o qd d)) H) (hD : va_D (fun q => s.heap.size ≤ q) (zw cs ad σ (zt cs qo o qd d))) (hS : va_S (fun q => s.heap.size ≤ q) s.heap H locs) (ex : x5 = nI (6 * t)) (hl : lv_has ls 9 [(0, .ref b), (1, .ref (ad 0)), (2, .ref (ad 29)), (3, .ref qo), (4, .ref qd), (5, .int x5)])
    (hk : ∀ (H : Heap) (locs : List Loc) (σ : zS) (o : Nat → Int64) (d : Nat → UInt64) (ls : Array Slot), zR (t + 1) σ → va_P G vwCl (zw cs ad σ (zt cs qo o qd d)) H → va_D (fun q => s.heap.size ≤ q) (zw cs ad σ (zt cs qo o qd d)) → va_S (fun q => s.heap.size ≤ q) s.heap H locs → lv_has ls 9 [(0, .ref b), (1, .ref (ad 0)), (2, .ref (ad 29)), (3, .ref qo), (4, .ref qd), (5, .int x5)] → W p l e room_1 s m #[Value.ref b] below meth c H locs (C + 6) (D + 36) Q (F0 m 2254 ls [])) :
    W p l e room_1 s m #[Value.ref b] below meth c H locs C D Q (F0 m 1998 ls []) := by
  obtain ⟨hx, hb, hr, hml, hown, hts, htc, hX, hbl, hfl, hE⟩ := K
  have hts2 : ∀ w ∈ wsLaw2, w.before #[Value.ref b] s = true := fun w h => (List.mem_append.mp h).elim (htc w) (hts w)
  have hA : ∀ q : Nat, s.heap.size ≤ q → (fun q : Nat => s.heap.size ≤ q) q := fun _ h => h
  have hbA : ¬ (fun q : Nat => s.heap.size ≤ q) b := Nat.not_le.mpr hbl
  have hin1 : vp_in (x5 + 1) L := by rw [ex, show (1 : Int32) = nI 1 from rfl, nI_add]; exact vp_in_nI (by omega) (by omega)
  obtain ⟨hI, hs2, hs3, hs4⟩ := sim_kindOf hR (by omega) (xs (x5 + 1).toNatClampNeg)
  refine lv_aload_n hx hb dL_law_1998 rfl (lv_at hl 1 rfl) ?_
  refine lv_aload_n hx hb dL_law_1999 rfl (lv_at hl 0 rfl) ?_
  refine lv_iload hx hb dL_law_2000 (lv_at hl 5 rfl) ?_
  refine lv_iconst (v := 1) hx hb dL_law_2002 (by decide) ?_
  refine lv_iadd hx hb dL_law_2003 ?_
  refine va_sld hx hb hX hbl hbA hS hin1 dL_law_2004 ?_
  refine lv_aload_n hx hb dL_law_2005 rfl (lv_at hl 3 rfl) ?_
  refine zai (vx_runSW (As := [.ref (ad 0), .int (xs (x5 + 1).toNatClampNeg), .ref qo]) (rest := []) ⟨hx, hb, hml, hown, hts⟩ (c_L_kindOf l hfl G cs ad qo o qd d σ (xs (x5 + 1).toNatClampNeg) (zR_ch hR) H.size) (vx_cwSW 3 hts2 (z_gl rfl (up2 gL_law_L_kindOf) zclG) rfl rfl rfl (by decide +kernel) ⟨Nat.le_of_ble_eq_true rfl, Nat.le_of_ble_eq_true rfl⟩) (zps hE hP hD hS hA) rfl rfl hl.1 rfl (lv_room (Nat.le_of_ble_eq_true rfl)) dL_law_2006 ⟨show C + 1 ≤ 3165 by omega, show D + 6 ≤ 120764 by omega⟩) hD hS hA (fun H locs hP hD hS => ?_)
  refine lv_istore (lv' := [(6, .int (f_L_kindOf (f_X5_kindOf σ (xs (x5 + 1).toNatClampNeg)).1)), (0, .ref b), (1, .ref (ad 0)), (2, .ref (ad 29)), (3, .ref qo), (4, .ref qd), (5, .int x5)]) hx hb dL_law_2009 hl (by decide) rfl (fun ls hl => ?_)
  refine lv_aload_n hx hb dL_law_2011 rfl (lv_at hl 3 rfl) ?_
  refine lv_aload_n hx hb dL_law_2012 rfl (lv_at hl 1 rfl) ?_
  refine lv_iload hx hb dL_law_2013 (lv_at hl 6 rfl) ?_
  refine lv_iconst (v := 1) hx hb dL_law_2015 (by decide) ?_
  refine lv_iadd hx hb dL_law_2016 ?_
  refine va_sld hx hb hX hbl hbA hS hin1 dL_law_2017 ?_
  refine zai (va_runV (As := [.int (xs (x5 + 1).toNatClampNeg)]) (rest := []) ⟨hx, hb, hml, hown, hts⟩ (c_X6_kindOf l G cs ad (zt cs qo (zo (f_X5_kindOf σ (xs (x5 + 1).toNatClampNeg)).1 (f_X5_kindOf σ (xs (x5 + 1).toNatClampNeg)).2.1.toInt64 o) qd d) (f_X5_kindOf σ (xs (x5 + 1).toNatClampNeg)).2.2 (xs (x5 + 1).toNatClampNeg) hI H.size) (cwV 1 hts gL_law_X6_kindOf rfl rfl rfl (by decide +kernel) ⟨Nat.le_of_ble_eq_true rfl, Nat.le_of_ble_eq_true rfl⟩) (zpv hE hP hD hS hA (zg_29 cs ad (f_X5_kindOf σ (xs (x5 + 1).toNatClampNeg)).2.2 (zt cs qo (zo (f_X5_kindOf σ (xs (x5 + 1).toNatClampNeg)).1 (f_X5_kindOf σ (xs (x5 + 1).toNatClampNeg)).2.1.toInt64 o) qd d)) rfl) rfl rfl hl.1 rfl (lv_room (Nat.le_of_ble_eq_true rfl)) dL_law_2018 ⟨show C + 1 + 0 ≤ 3165 by omega, show D + 6 + 0 ≤ 120764 by omega⟩) hD hS hA (fun H locs hP hD hS => ?_)
  refine lv_istore (lv' := [(7, .int (f_X6_kindOf (f_X5_kindOf σ (xs (x5 + 1).toNatClampNeg)).2.2 (xs (x5 + 1).toNatClampNeg)).1), (6, .int (f_L_kindOf (f_X5_kindOf σ (xs (x5 + 1).toNatClampNeg)).1)), (0, .ref b), (1, .ref (ad 0)), (2, .ref (ad 29)), (3, .ref qo), (4, .ref qd), (5, .int x5)]) hx hb dL_law_2021 hl (by decide) rfl (fun ls hl => ?_)
  refine lv_aload_n hx hb dL_law_2023 rfl (lv_at hl 4 rfl) ?_
  refine zai (va_runV (As := []) (rest := []) ⟨hx, hb, hml, hown, hts⟩ (c_X6_thrown l G cs ad (zt cs qo (zo (f_X5_kindOf σ (xs (x5 + 1).toNatClampNeg)).1 (f_X5_kindOf σ (xs (x5 + 1).toNatClampNeg)).2.1.toInt64 o) qd d) (f_X6_kindOf (f_X5_kindOf σ (xs (x5 + 1).toNatClampNeg)).2.2 (xs (x5 + 1).toNatClampNeg)).2 H.size) (cwV 0 hts gL_law_X6_thrown rfl rfl rfl (by decide +kernel) ⟨Nat.le_of_ble_eq_true rfl, Nat.le_of_ble_eq_true rfl⟩) (zpv hE hP hD hS hA (zg_29 cs ad (f_X6_kindOf (f_X5_kindOf σ (xs (x5 + 1).toNatClampNeg)).2.2 (xs (x5 + 1).toNatClampNeg)).2 (zt cs qo (zo (f_X5_kindOf σ (xs (x5 + 1).toNatClampNeg)).1 (f_X5_kindOf σ (xs (x5 + 1).toNatClampNeg)).2.1.toInt64 o) qd d)) rfl) rfl rfl hl.1 rfl (lv_room (Nat.le_of_ble_eq_true rfl)) dL_law_2024 ⟨show C + 1 + 0 + 0 ≤ 3165 by omega, show D + 6 + 0 + 0 ≤ 120764 by omega⟩) hD hS hA (fun H locs hP hD hS => ?_)
  refine lv_iload hx hb dL_law_2027 (lv_at hl 1 rfl) ?_
  refine lv_icmp_eq (tgt := 2034) hx hb dL_law_2029 (by decide) (fun _ => ?_) (fun h9 => absurd hs2 h9)
  refine lv_iload hx hb dL_law_2034 (lv_at hl 1 rfl) ?_
  refine lv_if_ne (tgt := 2051) hx hb dL_law_2036 (by decide) (fun h8 => ?_) (fun h8 => ?_)
  · skip
    refine lv_goto (tgt := 2254) hx hb dL_law_2051 (by decide) ?_
    refine W.widen (k := C + 6) (n := D + 36) (by omega) (by omega) ?_
    exact hk H locs _ _ _ ls hs4 hP hD hS (lv_sub hl [2, 3, 4, 5, 6, 7] rfl)
  · obtain ⟨h7, h6⟩ := hs3 h8
    refine lv_aload_n hx hb dL_law_2039 rfl (lv_at hl 5 rfl) ?_
    refine lv_iconst (v := 0) hx hb dL_law_2040 (by decide) ?_
    have e0 : zo (f_X5_kindOf σ (xs (x5 + 1).toNatClampNeg)).1 (f_X5_kindOf σ (xs (x5 + 1).toNatClampNeg)).2.1.toInt64 o (0 : Int32).toNatClampNeg = (f_X5_kindOf σ (xs (x5 + 1).toNatClampNeg)).2.1.toInt64 := by unfold zo; rw [if_pos h7]; exact if_pos rfl
    refine va_lald hx hb hE.1 hP 51 3 rfl rfl z_in01 dL_law_2041 ?_
    rw [e0]
    refine lv_iload hx hb dL_law_2042 (lv_at hl 0 rfl) ?_
    refine lv_i2l (v := (f_X6_kindOf (f_X5_kindOf σ (xs (x5 + 1).toNatClampNeg)).2.2 (xs (x5 + 1).toNatClampNeg)).1.toInt64) hx hb dL_law_2044 rfl ?_
    refine W.lcmp hx hb dL_law_2045 ?_
    refine lv_if_eq (tgt := 2051) hx hb dL_law_2046 (by decide) (fun _ => ?_) (fun h9 => absurd (by rw [h6]; exact lg_cmp_self _) h9)
    refine lv_goto (tgt := 2254) hx hb dL_law_2051 (by decide) ?_
    refine W.widen (k := C + 6) (n := D + 36) (by omega) (by omega) ?_
    exact hk H locs _ _ _ ls hs4 hP hD hS (lv_sub hl [2, 3, 4, 5, 6, 7] rfl)
set_option maxRecDepth 100000 in
theorem lc_35 {p : Program} {l : Launch} {e : Env} {s : State} {m : MethodId} {below : List Frame} {meth : Method} {c : Code} {b L : Nat} {xs : Nat → Int32} {G : va_G} {cs : Nat → ClassId} (K : zCtx p l s m meth c b L xs G cs) (ad : Nat → Nat) (qo qd : Nat) {Q : State → Prop} {C D t : Nat} {σ : zS} {o : Nat → Int64} {d : Nat → UInt64} {H : Heap} {locs : List Loc} {ls : Array Slot} {x5 : Int32} (hi : 6 * t + 6 ≤ L) (hL : L ≤ 3072) (hR : zR t σ) (hC : C + 6 ≤ 3165) (hC2 : D + 36 ≤ 120764)
    (hP : va_P G vwCl (zw cs ad σ (zt cs qo o qd d)) H) (hD : va_D (fun q => s.heap.size ≤ q) (zw cs ad σ (zt cs qo o qd d))) (hS : va_S (fun q => s.heap.size ≤ q) s.heap H locs) (ex : x5 = nI (6 * t)) (hl : lv_has ls 9 [(0, .ref b), (1, .ref (ad 0)), (2, .ref (ad 29)), (3, .ref qo), (4, .ref qd), (5, .int x5)])
    (hk : ∀ (H : Heap) (locs : List Loc) (σ : zS) (o : Nat → Int64) (d : Nat → UInt64) (ls : Array Slot), zR (t + 1) σ → va_P G vwCl (zw cs ad σ (zt cs qo o qd d)) H → va_D (fun q => s.heap.size ≤ q) (zw cs ad σ (zt cs qo o qd d)) → va_S (fun q => s.heap.size ≤ q) s.heap H locs → lv_has ls 9 [(0, .ref b), (1, .ref (ad 0)), (2, .ref (ad 29)), (3, .ref qo), (4, .ref qd), (5, .int x5)] → W p l e room_1 s m #[Value.ref b] below meth c H locs (C + 6) (D + 36) Q (F0 m 2254 ls [])) :
    W p l e room_1 s m #[Value.ref b] below meth c H locs C D Q (F0 m 2054 ls []) := by
  obtain ⟨hx, hb, hr, hml, hown, hts, htc, hX, hbl, hfl, hE⟩ := K
  have hts2 : ∀ w ∈ wsLaw2, w.before #[Value.ref b] s = true := fun w h => (List.mem_append.mp h).elim (htc w) (hts w)
  have hA : ∀ q : Nat, s.heap.size ≤ q → (fun q : Nat => s.heap.size ≤ q) q := fun _ h => h
  have hbA : ¬ (fun q : Nat => s.heap.size ≤ q) b := Nat.not_le.mpr hbl
  have hin1 : vp_in (x5 + 1) L := by rw [ex, show (1 : Int32) = nI 1 from rfl, nI_add]; exact vp_in_nI (by omega) (by omega)
  obtain ⟨hI, hs2, hs3, hs4⟩ := sim_passed hR (by omega) (xs (x5 + 1).toNatClampNeg)
  refine lv_aload_n hx hb dL_law_2054 rfl (lv_at hl 1 rfl) ?_
  refine lv_aload_n hx hb dL_law_2055 rfl (lv_at hl 0 rfl) ?_
  refine lv_iload hx hb dL_law_2056 (lv_at hl 5 rfl) ?_
  refine lv_iconst (v := 1) hx hb dL_law_2058 (by decide) ?_
  refine lv_iadd hx hb dL_law_2059 ?_
  refine va_sld hx hb hX hbl hbA hS hin1 dL_law_2060 ?_
  refine lv_aload_n hx hb dL_law_2061 rfl (lv_at hl 3 rfl) ?_
  refine zai (vx_runSW (As := [.ref (ad 0), .int (xs (x5 + 1).toNatClampNeg), .ref qo]) (rest := []) ⟨hx, hb, hml, hown, hts⟩ (c_L_passed l hfl G cs ad qo o qd d σ (xs (x5 + 1).toNatClampNeg)  H.size) (vx_cwSW 3 hts2 (z_gl rfl (up2 gL_law_L_passed) zclG) rfl rfl rfl (by decide +kernel) ⟨Nat.le_of_ble_eq_true rfl, Nat.le_of_ble_eq_true rfl⟩) (zps hE hP hD hS hA) rfl rfl hl.1 rfl (lv_room (Nat.le_of_ble_eq_true rfl)) dL_law_2062 ⟨show C + 1 ≤ 3165 by omega, show D + 6 ≤ 120764 by omega⟩) hD hS hA (fun H locs hP hD hS => ?_)
  refine lv_istore (lv' := [(6, .int (f_L_passed (f_X5_passed σ (xs (x5 + 1).toNatClampNeg)).1)), (0, .ref b), (1, .ref (ad 0)), (2, .ref (ad 29)), (3, .ref qo), (4, .ref qd), (5, .int x5)]) hx hb dL_law_2065 hl (by decide) rfl (fun ls hl => ?_)
  refine lv_aload_n hx hb dL_law_2067 rfl (lv_at hl 3 rfl) ?_
  refine lv_aload_n hx hb dL_law_2068 rfl (lv_at hl 1 rfl) ?_
  refine lv_iload hx hb dL_law_2069 (lv_at hl 6 rfl) ?_
  refine lv_iconst (v := 1) hx hb dL_law_2071 (by decide) ?_
  refine lv_iadd hx hb dL_law_2072 ?_
  refine va_sld hx hb hX hbl hbA hS hin1 dL_law_2073 ?_
  refine zai (va_runV (As := [.int (xs (x5 + 1).toNatClampNeg)]) (rest := []) ⟨hx, hb, hml, hown, hts⟩ (c_X6_passed l G cs ad (zt cs qo (zo (f_X5_passed σ (xs (x5 + 1).toNatClampNeg)).1 (f_X5_passed σ (xs (x5 + 1).toNatClampNeg)).2.1.toInt64 o) qd d) (f_X5_passed σ (xs (x5 + 1).toNatClampNeg)).2.2 (xs (x5 + 1).toNatClampNeg) hI H.size) (cwV 1 hts gL_law_X6_passed rfl rfl rfl (by decide +kernel) ⟨Nat.le_of_ble_eq_true rfl, Nat.le_of_ble_eq_true rfl⟩) (zpv hE hP hD hS hA (zg_29 cs ad (f_X5_passed σ (xs (x5 + 1).toNatClampNeg)).2.2 (zt cs qo (zo (f_X5_passed σ (xs (x5 + 1).toNatClampNeg)).1 (f_X5_passed σ (xs (x5 + 1).toNatClampNeg)).2.1.toInt64 o) qd d)) rfl) rfl rfl hl.1 rfl (lv_room (Nat.le_of_ble_eq_true rfl)) dL_law_2074 ⟨show C + 1 + 0 ≤ 3165 by omega, show D + 6 + 0 ≤ 120764 by omega⟩) hD hS hA (fun H locs hP hD hS => ?_)
  refine lv_istore (lv' := [(7, .int (f_X6_passed (f_X5_passed σ (xs (x5 + 1).toNatClampNeg)).2.2 (xs (x5 + 1).toNatClampNeg)).1), (6, .int (f_L_passed (f_X5_passed σ (xs (x5 + 1).toNatClampNeg)).1)), (0, .ref b), (1, .ref (ad 0)), (2, .ref (ad 29)), (3, .ref qo), (4, .ref qd), (5, .int x5)]) hx hb dL_law_2077 hl (by decide) rfl (fun ls hl => ?_)
  refine lv_aload_n hx hb dL_law_2079 rfl (lv_at hl 4 rfl) ?_
  refine zai (va_runV (As := []) (rest := []) ⟨hx, hb, hml, hown, hts⟩ (c_X6_thrown l G cs ad (zt cs qo (zo (f_X5_passed σ (xs (x5 + 1).toNatClampNeg)).1 (f_X5_passed σ (xs (x5 + 1).toNatClampNeg)).2.1.toInt64 o) qd d) (f_X6_passed (f_X5_passed σ (xs (x5 + 1).toNatClampNeg)).2.2 (xs (x5 + 1).toNatClampNeg)).2 H.size) (cwV 0 hts gL_law_X6_thrown rfl rfl rfl (by decide +kernel) ⟨Nat.le_of_ble_eq_true rfl, Nat.le_of_ble_eq_true rfl⟩) (zpv hE hP hD hS hA (zg_29 cs ad (f_X6_passed (f_X5_passed σ (xs (x5 + 1).toNatClampNeg)).2.2 (xs (x5 + 1).toNatClampNeg)).2 (zt cs qo (zo (f_X5_passed σ (xs (x5 + 1).toNatClampNeg)).1 (f_X5_passed σ (xs (x5 + 1).toNatClampNeg)).2.1.toInt64 o) qd d)) rfl) rfl rfl hl.1 rfl (lv_room (Nat.le_of_ble_eq_true rfl)) dL_law_2080 ⟨show C + 1 + 0 + 0 ≤ 3165 by omega, show D + 6 + 0 + 0 ≤ 120764 by omega⟩) hD hS hA (fun H locs hP hD hS => ?_)
  refine lv_iload hx hb dL_law_2083 (lv_at hl 1 rfl) ?_
  refine lv_icmp_eq (tgt := 2090) hx hb dL_law_2085 (by decide) (fun _ => ?_) (fun h9 => absurd hs2 h9)
  refine lv_iload hx hb dL_law_2090 (lv_at hl 1 rfl) ?_
  refine lv_if_ne (tgt := 2107) hx hb dL_law_2092 (by decide) (fun h8 => ?_) (fun h8 => ?_)
  · skip
    refine lv_goto (tgt := 2254) hx hb dL_law_2107 (by decide) ?_
    refine W.widen (k := C + 6) (n := D + 36) (by omega) (by omega) ?_
    exact hk H locs _ _ _ ls hs4 hP hD hS (lv_sub hl [2, 3, 4, 5, 6, 7] rfl)
  · obtain ⟨h7, h6⟩ := hs3 h8
    refine lv_aload_n hx hb dL_law_2095 rfl (lv_at hl 5 rfl) ?_
    refine lv_iconst (v := 0) hx hb dL_law_2096 (by decide) ?_
    have e0 : zo (f_X5_passed σ (xs (x5 + 1).toNatClampNeg)).1 (f_X5_passed σ (xs (x5 + 1).toNatClampNeg)).2.1.toInt64 o (0 : Int32).toNatClampNeg = (f_X5_passed σ (xs (x5 + 1).toNatClampNeg)).2.1.toInt64 := by unfold zo; rw [if_pos h7]; exact if_pos rfl
    refine va_lald hx hb hE.1 hP 51 3 rfl rfl z_in01 dL_law_2097 ?_
    rw [e0]
    refine lv_iload hx hb dL_law_2098 (lv_at hl 0 rfl) ?_
    refine lv_i2l (v := (f_X6_passed (f_X5_passed σ (xs (x5 + 1).toNatClampNeg)).2.2 (xs (x5 + 1).toNatClampNeg)).1.toInt64) hx hb dL_law_2100 rfl ?_
    refine W.lcmp hx hb dL_law_2101 ?_
    refine lv_if_eq (tgt := 2107) hx hb dL_law_2102 (by decide) (fun _ => ?_) (fun h9 => absurd (by rw [h6]; exact lg_cmp_self _) h9)
    refine lv_goto (tgt := 2254) hx hb dL_law_2107 (by decide) ?_
    refine W.widen (k := C + 6) (n := D + 36) (by omega) (by omega) ?_
    exact hk H locs _ _ _ ls hs4 hP hD hS (lv_sub hl [2, 3, 4, 5, 6, 7] rfl)
set_option maxRecDepth 100000 in
theorem lc_36 {p : Program} {l : Launch} {e : Env} {s : State} {m : MethodId} {below : List Frame} {meth : Method} {c : Code} {b L : Nat} {xs : Nat → Int32} {G : va_G} {cs : Nat → ClassId} (K : zCtx p l s m meth c b L xs G cs) (ad : Nat → Nat) (qo qd : Nat) {Q : State → Prop} {C D t : Nat} {σ : zS} {o : Nat → Int64} {d : Nat → UInt64} {H : Heap} {locs : List Loc} {ls : Array Slot} {x5 : Int32} (hi : 6 * t + 6 ≤ L) (hL : L ≤ 3072) (hR : zR t σ) (hC : C + 6 ≤ 3165) (hC2 : D + 36 ≤ 120764)
    (hP : va_P G vwCl (zw cs ad σ (zt cs qo o qd d)) H) (hD : va_D (fun q => s.heap.size ≤ q) (zw cs ad σ (zt cs qo o qd d))) (hS : va_S (fun q => s.heap.size ≤ q) s.heap H locs) (ex : x5 = nI (6 * t)) (hl : lv_has ls 9 [(0, .ref b), (1, .ref (ad 0)), (2, .ref (ad 29)), (3, .ref qo), (4, .ref qd), (5, .int x5)])
    (hk : ∀ (H : Heap) (locs : List Loc) (σ : zS) (o : Nat → Int64) (d : Nat → UInt64) (ls : Array Slot), zR (t + 1) σ → va_P G vwCl (zw cs ad σ (zt cs qo o qd d)) H → va_D (fun q => s.heap.size ≤ q) (zw cs ad σ (zt cs qo o qd d)) → va_S (fun q => s.heap.size ≤ q) s.heap H locs → lv_has ls 9 [(0, .ref b), (1, .ref (ad 0)), (2, .ref (ad 29)), (3, .ref qo), (4, .ref qd), (5, .int x5)] → W p l e room_1 s m #[Value.ref b] below meth c H locs (C + 6) (D + 36) Q (F0 m 2254 ls [])) :
    W p l e room_1 s m #[Value.ref b] below meth c H locs C D Q (F0 m 2110 ls []) := by
  obtain ⟨hx, hb, hr, hml, hown, hts, htc, hX, hbl, hfl, hE⟩ := K
  have hts2 : ∀ w ∈ wsLaw2, w.before #[Value.ref b] s = true := fun w h => (List.mem_append.mp h).elim (htc w) (hts w)
  have hA : ∀ q : Nat, s.heap.size ≤ q → (fun q : Nat => s.heap.size ≤ q) q := fun _ h => h
  have hbA : ¬ (fun q : Nat => s.heap.size ≤ q) b := Nat.not_le.mpr hbl
  obtain ⟨hI, hs2, hs3, hs4⟩ := sim_closedShare hR (by omega) 
  refine lv_aload_n hx hb dL_law_2110 rfl (lv_at hl 1 rfl) ?_
  refine lv_aload hx hb dL_law_2111 (lv_at hl 4 rfl) ?_
  refine zai (vx_runSW (As := [.ref (ad 0), .ref qd]) (rest := []) ⟨hx, hb, hml, hown, hts⟩ (c_L_closedShare l hfl G cs ad qo o qd d σ  (fun z => nn64 ((Jvm.FP.f2d_nan _).trans (closedShare_nn z))) H.size) (vx_cwSW 2 hts2 (z_gl rfl (up2 gL_law_L_closedShare) zclG) rfl rfl rfl (by decide +kernel) ⟨Nat.le_of_ble_eq_true rfl, Nat.le_of_ble_eq_true rfl⟩) (zps hE hP hD hS hA) rfl rfl hl.1 rfl (lv_room (Nat.le_of_ble_eq_true rfl)) dL_law_2113 ⟨show C + 1 ≤ 3165 by omega, show D + 6 ≤ 120764 by omega⟩) hD hS hA (fun H locs hP hD hS => ?_)
  refine lv_istore (lv' := [(6, .int (f_L_closedShare (f_X5_closedShare σ ).1)), (0, .ref b), (1, .ref (ad 0)), (2, .ref (ad 29)), (3, .ref qo), (4, .ref qd), (5, .int x5)]) hx hb dL_law_2116 hl (by decide) rfl (fun ls hl => ?_)
  refine lv_aload_n hx hb dL_law_2118 rfl (lv_at hl 3 rfl) ?_
  refine zaf (va_runV (As := []) (rest := []) ⟨hx, hb, hml, hown, hts⟩ (c_X6_closedShare l G cs ad (zt cs qo o qd (zod (f_X5_closedShare σ ).1 (FP.f2d (f_X5_closedShare σ ).2.1) d)) (f_X5_closedShare σ ).2.2  hI H.size) (cwV 0 hts gL_law_X6_closedShare rfl rfl rfl (by decide +kernel) ⟨Nat.le_of_ble_eq_true rfl, Nat.le_of_ble_eq_true rfl⟩) (zpv hE hP hD hS hA (zg_29 cs ad (f_X5_closedShare σ ).2.2 (zt cs qo o qd (zod (f_X5_closedShare σ ).1 (FP.f2d (f_X5_closedShare σ ).2.1) d))) rfl) rfl rfl hl.1 rfl (lv_room (Nat.le_of_ble_eq_true rfl)) dL_law_2119 ⟨show C + 1 + 0 ≤ 3165 by omega, show D + 6 + 0 ≤ 120764 by omega⟩) hD hS hA (fun H locs hP hD hS => ?_)
  refine lv_fstore (lv' := [(7, .float (f_X6_closedShare (f_X5_closedShare σ ).2.2 ).1), (6, .int (f_L_closedShare (f_X5_closedShare σ ).1)), (0, .ref b), (1, .ref (ad 0)), (2, .ref (ad 29)), (3, .ref qo), (4, .ref qd), (5, .int x5)]) hx hb dL_law_2122 hl (by decide) rfl (fun ls hl => ?_)
  refine lv_aload_n hx hb dL_law_2124 rfl (lv_at hl 4 rfl) ?_
  refine zai (va_runV (As := []) (rest := []) ⟨hx, hb, hml, hown, hts⟩ (c_X6_thrown l G cs ad (zt cs qo o qd (zod (f_X5_closedShare σ ).1 (FP.f2d (f_X5_closedShare σ ).2.1) d)) (f_X6_closedShare (f_X5_closedShare σ ).2.2 ).2 H.size) (cwV 0 hts gL_law_X6_thrown rfl rfl rfl (by decide +kernel) ⟨Nat.le_of_ble_eq_true rfl, Nat.le_of_ble_eq_true rfl⟩) (zpv hE hP hD hS hA (zg_29 cs ad (f_X6_closedShare (f_X5_closedShare σ ).2.2 ).2 (zt cs qo o qd (zod (f_X5_closedShare σ ).1 (FP.f2d (f_X5_closedShare σ ).2.1) d))) rfl) rfl rfl hl.1 rfl (lv_room (Nat.le_of_ble_eq_true rfl)) dL_law_2125 ⟨show C + 1 + 0 + 0 ≤ 3165 by omega, show D + 6 + 0 + 0 ≤ 120764 by omega⟩) hD hS hA (fun H locs hP hD hS => ?_)
  refine lv_iload hx hb dL_law_2128 (lv_at hl 1 rfl) ?_
  refine lv_icmp_eq (tgt := 2135) hx hb dL_law_2130 (by decide) (fun _ => ?_) (fun h9 => absurd hs2 h9)
  refine lv_iload hx hb dL_law_2135 (lv_at hl 1 rfl) ?_
  refine lv_if_ne (tgt := 2173) hx hb dL_law_2137 (by decide) (fun h8 => ?_) (fun h8 => ?_)
  · skip
    refine lv_goto (tgt := 2254) hx hb dL_law_2173 (by decide) ?_
    refine W.widen (k := C + 6) (n := D + 36) (by omega) (by omega) ?_
    exact hk H locs _ _ _ ls hs4 hP hD hS (lv_sub hl [2, 3, 4, 5, 6, 7] rfl)
  · obtain ⟨h7, h6⟩ := hs3 h8
    have h5 := closedShare_nn h7
    refine lv_aload hx hb dL_law_2140 (lv_at hl 6 rfl) ?_
    refine lv_iconst (v := 0) hx hb dL_law_2142 (by decide) ?_
    have e0 : zod (f_X5_closedShare σ ).1 (FP.f2d (f_X5_closedShare σ ).2.1) d (0 : Int32).toNatClampNeg = (FP.f2d (f_X5_closedShare σ ).2.1) := by unfold zod; rw [if_pos h7]; exact if_pos rfl
    refine va_dald hx hb hE.1 hP 52 4 rfl rfl z_in01 dL_law_2143 ?_
    rw [e0]
    refine lv_fload hx hb dL_law_2144 (lv_at hl 0 rfl) ?_
    refine lv_f2d hx hb dL_law_2146 (nn64 ((Jvm.FP.f2d_nan _).trans (by rw [h6]; exact h5))) ?_
    refine lv_dcmp hx hb dL_law_2147 ?_
    refine lv_if_eq (tgt := 2173) hx hb dL_law_2148 (by decide) (fun _ => ?_) (fun h9 => absurd (by rw [h6]; exact dcmp_self0 ((Jvm.FP.f2d_nan _).trans h5)) h9)
    refine lv_goto (tgt := 2254) hx hb dL_law_2173 (by decide) ?_
    refine W.widen (k := C + 6) (n := D + 36) (by omega) (by omega) ?_
    exact hk H locs _ _ _ ls hs4 hP hD hS (lv_sub hl [2, 3, 4, 5, 6, 7] rfl)
set_option maxRecDepth 100000 in
theorem lc_37 {p : Program} {l : Launch} {e : Env} {s : State} {m : MethodId} {below : List Frame} {meth : Method} {c : Code} {b L : Nat} {xs : Nat → Int32} {G : va_G} {cs : Nat → ClassId} (K : zCtx p l s m meth c b L xs G cs) (ad : Nat → Nat) (qo qd : Nat) {Q : State → Prop} {C D t : Nat} {σ : zS} {o : Nat → Int64} {d : Nat → UInt64} {H : Heap} {locs : List Loc} {ls : Array Slot} {x5 : Int32} (hi : 6 * t + 6 ≤ L) (hL : L ≤ 3072) (hR : zR t σ) (hC : C + 6 ≤ 3165) (hC2 : D + 36 ≤ 120764)
    (hP : va_P G vwCl (zw cs ad σ (zt cs qo o qd d)) H) (hD : va_D (fun q => s.heap.size ≤ q) (zw cs ad σ (zt cs qo o qd d))) (hS : va_S (fun q => s.heap.size ≤ q) s.heap H locs) (ex : x5 = nI (6 * t)) (hl : lv_has ls 9 [(0, .ref b), (1, .ref (ad 0)), (2, .ref (ad 29)), (3, .ref qo), (4, .ref qd), (5, .int x5)])
    (hk : ∀ (H : Heap) (locs : List Loc) (σ : zS) (o : Nat → Int64) (d : Nat → UInt64) (ls : Array Slot), zR (t + 1) σ → va_P G vwCl (zw cs ad σ (zt cs qo o qd d)) H → va_D (fun q => s.heap.size ≤ q) (zw cs ad σ (zt cs qo o qd d)) → va_S (fun q => s.heap.size ≤ q) s.heap H locs → lv_has ls 9 [(0, .ref b), (1, .ref (ad 0)), (2, .ref (ad 29)), (3, .ref qo), (4, .ref qd), (5, .int x5)] → W p l e room_1 s m #[Value.ref b] below meth c H locs (C + 6) (D + 36) Q (F0 m 2254 ls [])) :
    W p l e room_1 s m #[Value.ref b] below meth c H locs C D Q (F0 m 2176 ls []) := by
  obtain ⟨hx, hb, hr, hml, hown, hts, htc, hX, hbl, hfl, hE⟩ := K
  have hts2 : ∀ w ∈ wsLaw2, w.before #[Value.ref b] s = true := fun w h => (List.mem_append.mp h).elim (htc w) (hts w)
  have hA : ∀ q : Nat, s.heap.size ≤ q → (fun q : Nat => s.heap.size ≤ q) q := fun _ h => h
  have hbA : ¬ (fun q : Nat => s.heap.size ≤ q) b := Nat.not_le.mpr hbl
  obtain ⟨hI, hs2, hs3, hs4⟩ := sim_meanAge hR (by omega) 
  refine lv_aload_n hx hb dL_law_2176 rfl (lv_at hl 1 rfl) ?_
  refine lv_aload hx hb dL_law_2177 (lv_at hl 4 rfl) ?_
  refine zai (vx_runSW (As := [.ref (ad 0), .ref qd]) (rest := []) ⟨hx, hb, hml, hown, hts⟩ (c_L_meanAge l hfl G cs ad qo o qd d σ   H.size) (vx_cwSW 2 hts2 (z_gl rfl (up2 gL_law_L_meanAge) zclG) rfl rfl rfl (by decide +kernel) ⟨Nat.le_of_ble_eq_true rfl, Nat.le_of_ble_eq_true rfl⟩) (zps hE hP hD hS hA) rfl rfl hl.1 rfl (lv_room (Nat.le_of_ble_eq_true rfl)) dL_law_2179 ⟨show C + 1 ≤ 3165 by omega, show D + 6 ≤ 120764 by omega⟩) hD hS hA (fun H locs hP hD hS => ?_)
  refine lv_istore (lv' := [(6, .int (f_L_meanAge (f_X5_meanAge σ ).1)), (0, .ref b), (1, .ref (ad 0)), (2, .ref (ad 29)), (3, .ref qo), (4, .ref qd), (5, .int x5)]) hx hb dL_law_2182 hl (by decide) rfl (fun ls hl => ?_)
  refine lv_aload_n hx hb dL_law_2184 rfl (lv_at hl 3 rfl) ?_
  refine zad (va_runV (As := []) (rest := []) ⟨hx, hb, hml, hown, hts⟩ (c_X6_meanAge l G cs ad (zt cs qo o qd (zod (f_X5_meanAge σ ).1 (f_X5_meanAge σ ).2.1 d)) (f_X5_meanAge σ ).2.2  hI H.size) (cwV 0 hts gL_law_X6_meanAge rfl rfl rfl (by decide +kernel) ⟨Nat.le_of_ble_eq_true rfl, Nat.le_of_ble_eq_true rfl⟩) (zpv hE hP hD hS hA (zg_29 cs ad (f_X5_meanAge σ ).2.2 (zt cs qo o qd (zod (f_X5_meanAge σ ).1 (f_X5_meanAge σ ).2.1 d))) rfl) rfl rfl hl.1 rfl (lv_room (Nat.le_of_ble_eq_true rfl)) dL_law_2185 ⟨show C + 1 + 0 ≤ 3165 by omega, show D + 6 + 0 ≤ 120764 by omega⟩) hD hS hA (fun H locs hP hD hS => ?_)
  refine lv_dstore (lv' := [(7, .double (f_X6_meanAge (f_X5_meanAge σ ).2.2 ).1), (6, .int (f_L_meanAge (f_X5_meanAge σ ).1)), (0, .ref b), (1, .ref (ad 0)), (2, .ref (ad 29)), (3, .ref qo), (4, .ref qd), (5, .int x5)]) hx hb dL_law_2188 hl (by decide) rfl (fun ls hl => ?_)
  refine lv_aload_n hx hb dL_law_2190 rfl (lv_at hl 4 rfl) ?_
  refine zai (va_runV (As := []) (rest := []) ⟨hx, hb, hml, hown, hts⟩ (c_X6_thrown l G cs ad (zt cs qo o qd (zod (f_X5_meanAge σ ).1 (f_X5_meanAge σ ).2.1 d)) (f_X6_meanAge (f_X5_meanAge σ ).2.2 ).2 H.size) (cwV 0 hts gL_law_X6_thrown rfl rfl rfl (by decide +kernel) ⟨Nat.le_of_ble_eq_true rfl, Nat.le_of_ble_eq_true rfl⟩) (zpv hE hP hD hS hA (zg_29 cs ad (f_X6_meanAge (f_X5_meanAge σ ).2.2 ).2 (zt cs qo o qd (zod (f_X5_meanAge σ ).1 (f_X5_meanAge σ ).2.1 d))) rfl) rfl rfl hl.1 rfl (lv_room (Nat.le_of_ble_eq_true rfl)) dL_law_2191 ⟨show C + 1 + 0 + 0 ≤ 3165 by omega, show D + 6 + 0 + 0 ≤ 120764 by omega⟩) hD hS hA (fun H locs hP hD hS => ?_)
  refine lv_iload hx hb dL_law_2194 (lv_at hl 1 rfl) ?_
  refine lv_icmp_eq (tgt := 2201) hx hb dL_law_2196 (by decide) (fun _ => ?_) (fun h9 => absurd hs2 h9)
  refine lv_iload hx hb dL_law_2201 (lv_at hl 1 rfl) ?_
  refine lv_if_ne (tgt := 2238) hx hb dL_law_2203 (by decide) (fun h8 => ?_) (fun h8 => ?_)
  · skip
    refine lv_goto (tgt := 2254) hx hb dL_law_2238 (by decide) ?_
    refine W.widen (k := C + 6) (n := D + 36) (by omega) (by omega) ?_
    exact hk H locs _ _ _ ls hs4 hP hD hS (lv_sub hl [2, 3, 4, 5, 6, 7] rfl)
  · obtain ⟨h7, h6⟩ := hs3 h8
    have h5 := meanAge_nn h7
    refine lv_aload hx hb dL_law_2206 (lv_at hl 6 rfl) ?_
    refine lv_iconst (v := 0) hx hb dL_law_2208 (by decide) ?_
    have e0 : zod (f_X5_meanAge σ ).1 (f_X5_meanAge σ ).2.1 d (0 : Int32).toNatClampNeg = (f_X5_meanAge σ ).2.1 := by unfold zod; rw [if_pos h7]; exact if_pos rfl
    refine va_dald hx hb hE.1 hP 52 4 rfl rfl z_in01 dL_law_2209 ?_
    rw [e0]
    refine lv_dload hx hb dL_law_2210 (lv_at hl 0 rfl) ?_
    refine lv_dcmp hx hb dL_law_2212 ?_
    refine lv_if_eq (tgt := 2238) hx hb dL_law_2213 (by decide) (fun _ => ?_) (fun h9 => absurd (by rw [h6]; exact dcmp_self0 h5) h9)
    refine lv_goto (tgt := 2254) hx hb dL_law_2238 (by decide) ?_
    refine W.widen (k := C + 6) (n := D + 36) (by omega) (by omega) ?_
    exact hk H locs _ _ _ ls hs4 hP hD hS (lv_sub hl [2, 3, 4, 5, 6, 7] rfl)
set_option maxRecDepth 100000 in
theorem lc_38 {p : Program} {l : Launch} {e : Env} {s : State} {m : MethodId} {below : List Frame} {meth : Method} {c : Code} {b L : Nat} {xs : Nat → Int32} {G : va_G} {cs : Nat → ClassId} (K : zCtx p l s m meth c b L xs G cs) (ad : Nat → Nat) (qo qd : Nat) {Q : State → Prop} {C D t : Nat} {σ : zS} {o : Nat → Int64} {d : Nat → UInt64} {H : Heap} {locs : List Loc} {ls : Array Slot} {x5 : Int32} (hi : 6 * t + 6 ≤ L) (hL : L ≤ 3072) (hR : zR t σ) (hC : C + 6 ≤ 3165) (hC2 : D + 36 ≤ 120764)
    (hP : va_P G vwCl (zw cs ad σ (zt cs qo o qd d)) H) (hD : va_D (fun q => s.heap.size ≤ q) (zw cs ad σ (zt cs qo o qd d))) (hS : va_S (fun q => s.heap.size ≤ q) s.heap H locs) (ex : x5 = nI (6 * t)) (hl : lv_has ls 9 [(0, .ref b), (1, .ref (ad 0)), (2, .ref (ad 29)), (3, .ref qo), (4, .ref qd), (5, .int x5)])
    (hk : ∀ (H : Heap) (locs : List Loc) (σ : zS) (o : Nat → Int64) (d : Nat → UInt64) (ls : Array Slot), zR (t + 1) σ → va_P G vwCl (zw cs ad σ (zt cs qo o qd d)) H → va_D (fun q => s.heap.size ≤ q) (zw cs ad σ (zt cs qo o qd d)) → va_S (fun q => s.heap.size ≤ q) s.heap H locs → lv_has ls 9 [(0, .ref b), (1, .ref (ad 0)), (2, .ref (ad 29)), (3, .ref qo), (4, .ref qd), (5, .int x5)] → W p l e room_1 s m #[Value.ref b] below meth c H locs (C + 6) (D + 36) Q (F0 m 2254 ls [])) :
    W p l e room_1 s m #[Value.ref b] below meth c H locs C D Q (F0 m 2241 ls []) := by
  obtain ⟨hx, hb, hr, hml, hown, hts, htc, hX, hbl, hfl, hE⟩ := K
  have hts2 : ∀ w ∈ wsLaw2, w.before #[Value.ref b] s = true := fun w h => (List.mem_append.mp h).elim (htc w) (hts w)
  have hA : ∀ q : Nat, s.heap.size ≤ q → (fun q : Nat => s.heap.size ≤ q) q := fun _ h => h
  have hbA : ¬ (fun q : Nat => s.heap.size ≤ q) b := Nat.not_le.mpr hbl
  obtain ⟨hI, hs2, hs4⟩ := sim_isSound hR (by omega)
  refine lv_aload_n hx hb dL_law_2241 rfl (lv_at hl 1 rfl) ?_
  refine zai (va_runV (As := []) (rest := []) ⟨hx, hb, hml, hown, hts⟩ (c_X5_isSound l G cs ad (zt cs qo o qd d) σ H.size) (cwV 0 hts gL_law_X5_isSound rfl rfl rfl (by decide +kernel) ⟨Nat.le_of_ble_eq_true rfl, Nat.le_of_ble_eq_true rfl⟩) (zpv hE hP hD hS hA (zg_0 cs ad σ (zt cs qo o qd d)) rfl) rfl rfl hl.1 rfl (lv_room (Nat.le_of_ble_eq_true rfl)) dL_law_2242 ⟨show C + 0 ≤ 3165 by omega, show D + 0 ≤ 120764 by omega⟩) hD hS hA (fun H locs hP hD hS => ?_)
  refine lv_aload_n hx hb dL_law_2245 rfl (lv_at hl 2 rfl) ?_
  refine zai (va_runV (As := []) (rest := [.int (f_X5_isSound σ )]) ⟨hx, hb, hml, hown, hts⟩ (c_X6_isSound l G cs ad (zt cs qo o qd d) σ  H.size) (cwV 0 hts gL_law_X6_isSound rfl rfl rfl (by decide +kernel) ⟨Nat.le_of_ble_eq_true rfl, Nat.le_of_ble_eq_true rfl⟩) (zpv hE hP hD hS hA (zg_29 cs ad σ (zt cs qo o qd d)) rfl) rfl rfl hl.1 rfl (lv_room (Nat.le_of_ble_eq_true rfl)) dL_law_2246 ⟨show C + 0 + 0 ≤ 3165 by omega, show D + 0 + 0 ≤ 120764 by omega⟩) hD hS hA (fun H locs hP hD hS => ?_)
  refine lv_icmp_eq (tgt := 2254) hx hb dL_law_2249 (by decide) (fun _ => ?_) (fun h9 => absurd hs2 h9)
  refine W.widen (k := C + 6) (n := D + 36) (by omega) (by omega) ?_
  exact hk H locs _ o d ls hs4 hP hD hS hl
