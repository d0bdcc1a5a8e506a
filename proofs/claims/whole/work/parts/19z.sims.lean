theorem sim_state {t : Nat} {σ : zS} (h : zR t σ) (ht : t < 512) (a1 : Int32) : zI (f_X5_state σ a1).2.2 ∧ f_X6_thrown (f_X6_state (f_X5_state σ a1).2.2 a1).2 = f_L_state (f_X5_state σ a1).1 ∧ (f_L_state (f_X5_state σ a1).1 = 0 → (f_X5_state σ a1).1 = 0 ∧ (f_X6_state (f_X5_state σ a1).2.2 a1).1 = (f_X5_state σ a1).2.1) ∧ zR (t + 1) (f_X6_state (f_X5_state σ a1).2.2 a1).2 := by
  sorry
theorem sim_raise {t : Nat} {σ : zS} (h : zR t σ) (ht : t < 512) (a1 : Int32) (a2 : Int32) (a3 : Int32) : zI (f_X5_raise σ a1 a2 a3).2.2 ∧ f_X6_thrown (f_X6_raise (f_X5_raise σ a1 a2 a3).2.2 a1 a2 a3).2 = f_L_raise (f_X5_raise σ a1 a2 a3).1 ∧ (f_L_raise (f_X5_raise σ a1 a2 a3).1 = 0 → (f_X5_raise σ a1 a2 a3).1 = 0 ∧ (f_X6_raise (f_X5_raise σ a1 a2 a3).2.2 a1 a2 a3).1 = (f_X5_raise σ a1 a2 a3).2.1) ∧ zR (t + 1) (f_X6_raise (f_X5_raise σ a1 a2 a3).2.2 a1 a2 a3).2 := by
  sorry
theorem sim_clear {t : Nat} {σ : zS} (h : zR t σ) (ht : t < 512) (a1 : Int32) (a2 : Int32) : zI (f_X5_clear σ a1 a2).2.2 ∧ f_X6_thrown (f_X6_clear (f_X5_clear σ a1 a2).2.2 a1 a2).2 = f_L_clear (f_X5_clear σ a1 a2).1 ∧ (f_L_clear (f_X5_clear σ a1 a2).1 = 0 → (f_X5_clear σ a1 a2).1 = 0 ∧ (f_X6_clear (f_X5_clear σ a1 a2).2.2 a1 a2).1 = (f_X5_clear σ a1 a2).2.1) ∧ zR (t + 1) (f_X6_clear (f_X5_clear σ a1 a2).2.2 a1 a2).2 := by
  sorry
theorem sim_shelve {t : Nat} {σ : zS} (h : zR t σ) (ht : t < 512) (a1 : Int32) (a2 : Int32) (a3 : Int32) : zI (f_X5_shelve σ a1 a2 a3).2.2 ∧ f_X6_thrown (f_X6_shelve (f_X5_shelve σ a1 a2 a3).2.2 a1 a2 a3).2 = f_L_shelve (f_X5_shelve σ a1 a2 a3).1 ∧ (f_L_shelve (f_X5_shelve σ a1 a2 a3).1 = 0 → (f_X5_shelve σ a1 a2 a3).1 = 0 ∧ (f_X6_shelve (f_X5_shelve σ a1 a2 a3).2.2 a1 a2 a3).1 = (f_X5_shelve σ a1 a2 a3).2.1) ∧ zR (t + 1) (f_X6_shelve (f_X5_shelve σ a1 a2 a3).2.2 a1 a2 a3).2 := by
  sorry
theorem sim_isShelved {t : Nat} {σ : zS} (h : zR t σ) (ht : t < 512) (a1 : Int32) (a2 : Int32) : zI (f_X5_isShelved σ a1 a2).2.2 ∧ f_X6_thrown (f_X6_isShelved_ (f_X5_isShelved σ a1 a2).2.2 a1 a2).2 = f_L_isShelved (f_X5_isShelved σ a1 a2).1 ∧ (f_L_isShelved (f_X5_isShelved σ a1 a2).1 = 0 → (f_X5_isShelved σ a1 a2).1 = 0 ∧ (f_X6_isShelved_ (f_X5_isShelved σ a1 a2).2.2 a1 a2).1 = (f_X5_isShelved σ a1 a2).2.1) ∧ zR (t + 1) (f_X6_isShelved_ (f_X5_isShelved σ a1 a2).2.2 a1 a2).2 := by
  sorry
theorem sim_alarms {t : Nat} {σ : zS} (h : zR t σ) (ht : t < 512) (a1 : Int32) : zI (f_X5_alarms σ a1).2.2 ∧ f_X6_thrown (f_X6_alarms (f_X5_alarms σ a1).2.2 a1).2 = f_L_alarms (f_X5_alarms σ a1).1 ∧ (f_L_alarms (f_X5_alarms σ a1).1 = 0 → (f_X5_alarms σ a1).1 = 0 ∧ (f_X6_alarms (f_X5_alarms σ a1).2.2 a1).1 = (f_X5_alarms σ a1).2.1) ∧ zR (t + 1) (f_X6_alarms (f_X5_alarms σ a1).2.2 a1).2 := by
  sorry
theorem sim_top {t : Nat} {σ : zS} (h : zR t σ) (ht : t < 512)  : zI (f_X5_top σ ).2.2 ∧ f_X6_thrown (f_X6_top (f_X5_top σ ).2.2 ).2 = f_L_top (f_X5_top σ ).1 ∧ (f_L_top (f_X5_top σ ).1 = 0 → (f_X5_top σ ).1 = 0 ∧ (f_X6_top (f_X5_top σ ).2.2 ).1 = (f_X5_top σ ).2.1) ∧ zR (t + 1) (f_X6_top (f_X5_top σ ).2.2 ).2 := by
  sorry
theorem sim_addProcedure {t : Nat} {σ : zS} (h : zR t σ) (ht : t < 512)  : zI (f_X5_addProcedure σ ).2.2 ∧ f_X6_thrown (f_X6_addProcedure (f_X5_addProcedure σ ).2.2 ).2 = f_L_addProcedure (f_X5_addProcedure σ ).1 ∧ (f_L_addProcedure (f_X5_addProcedure σ ).1 = 0 → (f_X5_addProcedure σ ).1 = 0 ∧ (f_X6_addProcedure (f_X5_addProcedure σ ).2.2 ).1 = (f_X5_addProcedure σ ).2.1) ∧ zR (t + 1) (f_X6_addProcedure (f_X5_addProcedure σ ).2.2 ).2 := by
  sorry
theorem sim_addStep {t : Nat} {σ : zS} (h : zR t σ) (ht : t < 512) (a1 : Int32) (a2 : Int32) (a3 : Int32) (a4 : Int32) (a5 : Int32) : zI (f_X5_addStep σ a1 a2 a3 a4 a5).2.2 ∧ f_X6_thrown (f_X6_addStep (f_X5_addStep σ a1 a2 a3 a4 a5).2.2 a1 a2 a3 a4 a5).2 = f_L_addStep (f_X5_addStep σ a1 a2 a3 a4 a5).1 ∧ (f_L_addStep (f_X5_addStep σ a1 a2 a3 a4 a5).1 = 0 → (f_X5_addStep σ a1 a2 a3 a4 a5).1 = 0 ∧ (f_X6_addStep (f_X5_addStep σ a1 a2 a3 a4 a5).2.2 a1 a2 a3 a4 a5).1 = (f_X5_addStep σ a1 a2 a3 a4 a5).2.1) ∧ zR (t + 1) (f_X6_addStep (f_X5_addStep σ a1 a2 a3 a4 a5).2.2 a1 a2 a3 a4 a5).2 := by
  sorry
theorem sim_done {t : Nat} {σ : zS} (h : zR t σ) (ht : t < 512) (a1 : Int32) : zI (f_X5_done σ a1).2.2 ∧ f_X6_thrown (f_X6_done (f_X5_done σ a1).2.2 a1).2 = f_L_done (f_X5_done σ a1).1 ∧ (f_L_done (f_X5_done σ a1).1 = 0 → (f_X5_done σ a1).1 = 0 ∧ (f_X6_done (f_X5_done σ a1).2.2 a1).1 = (f_X5_done σ a1).2.1) ∧ zR (t + 1) (f_X6_done (f_X5_done σ a1).2.2 a1).2 := by
  sorry
theorem sim_reason {t : Nat} {σ : zS} (h : zR t σ) (ht : t < 512) (a1 : Int32) : zI (f_X5_reason σ a1).2.2 ∧ f_X6_thrown (f_X6_reason (f_X5_reason σ a1).2.2 a1).2 = f_L_reason (f_X5_reason σ a1).1 ∧ (f_L_reason (f_X5_reason σ a1).1 = 0 → (f_X5_reason σ a1).1 = 0 ∧ (f_X6_reason (f_X5_reason σ a1).2.2 a1).1 = (f_X5_reason σ a1).2.1) ∧ zR (t + 1) (f_X6_reason (f_X5_reason σ a1).2.2 a1).2 := by
  sorry
theorem sim_barredBy {t : Nat} {σ : zS} (h : zR t σ) (ht : t < 512) (a1 : Int32) : zI (f_X5_barredBy σ a1).2.2 ∧ f_X6_thrown (f_X6_barredBy (f_X5_barredBy σ a1).2.2 a1).2 = f_L_barredBy (f_X5_barredBy σ a1).1 ∧ (f_L_barredBy (f_X5_barredBy σ a1).1 = 0 → (f_X5_barredBy σ a1).1 = 0 ∧ (f_X6_barredBy (f_X5_barredBy σ a1).2.2 a1).1 = (f_X5_barredBy σ a1).2.1) ∧ zR (t + 1) (f_X6_barredBy (f_X5_barredBy σ a1).2.2 a1).2 := by
  sorry
theorem sim_step {t : Nat} {σ : zS} (h : zR t σ) (ht : t < 512) (a1 : Int32) : zI (f_X5_step σ a1).2.2 ∧ f_X6_thrown (f_X6_step (f_X5_step σ a1).2.2 a1).2 = f_L_step (f_X5_step σ a1).1 ∧ (f_L_step (f_X5_step σ a1).1 = 0 → (f_X5_step σ a1).1 = 0 ∧ (f_X6_step (f_X5_step σ a1).2.2 a1).1 = (f_X5_step σ a1).2.1) ∧ zR (t + 1) (f_X6_step (f_X5_step σ a1).2.2 a1).2 := by
  sorry
theorem sim_undo {t : Nat} {σ : zS} (h : zR t σ) (ht : t < 512) (a1 : Int32) : zI (f_X5_undo σ a1).2.2 ∧ f_X6_thrown (f_X6_undo (f_X5_undo σ a1).2.2 a1).2 = f_L_undo (f_X5_undo σ a1).1 ∧ (f_L_undo (f_X5_undo σ a1).1 = 0 → (f_X5_undo σ a1).1 = 0 ∧ (f_X6_undo (f_X5_undo σ a1).2.2 a1).1 = (f_X5_undo σ a1).2.1) ∧ zR (t + 1) (f_X6_undo (f_X5_undo σ a1).2.2 a1).2 := by
  sorry
theorem sim_reset {t : Nat} {σ : zS} (h : zR t σ) (ht : t < 512) (a1 : Int32) : zI (f_X5_reset σ a1).2.2 ∧ f_X6_thrown (f_X6_reset (f_X5_reset σ a1).2.2 a1).2 = f_L_reset (f_X5_reset σ a1).1 ∧ (f_L_reset (f_X5_reset σ a1).1 = 0 → (f_X5_reset σ a1).1 = 0 ∧ (f_X6_reset (f_X5_reset σ a1).2.2 a1).1 = (f_X5_reset σ a1).2.1) ∧ zR (t + 1) (f_X6_reset (f_X5_reset σ a1).2.2 a1).2 := by
  sorry
theorem sim_drill {t : Nat} {σ : zS} (h : zR t σ) (ht : t < 512)  : zI (f_X5_drill σ ).2.2 ∧ f_X6_thrown (f_X6_drill (f_X5_drill σ ).2.2 ).2 = f_L_drill (f_X5_drill σ ).1 ∧ (f_L_drill (f_X5_drill σ ).1 = 0 → (f_X5_drill σ ).1 = 0 ∧ (f_X6_drill (f_X5_drill σ ).2.2 ).1 = (f_X5_drill σ ).2.1) ∧ zR (t + 1) (f_X6_drill (f_X5_drill σ ).2.2 ).2 := by
  sorry
theorem sim_openPermit {t : Nat} {σ : zS} (h : zR t σ) (ht : t < 512) (a1 : Int32) : zI (f_X5_openPermit σ a1).2.2 ∧ f_X6_thrown (f_X6_openPermit (f_X5_openPermit σ a1).2.2 a1).2 = f_L_openPermit (f_X5_openPermit σ a1).1 ∧ (f_L_openPermit (f_X5_openPermit σ a1).1 = 0 → (f_X5_openPermit σ a1).1 = 0 ∧ (f_X6_openPermit (f_X5_openPermit σ a1).2.2 a1).1 = (f_X5_openPermit σ a1).2.1) ∧ zR (t + 1) (f_X6_openPermit (f_X5_openPermit σ a1).2.2 a1).2 := by
  sorry
theorem sim_closePermit {t : Nat} {σ : zS} (h : zR t σ) (ht : t < 512) (a1 : Int32) : zI (f_X5_closePermit σ a1).2.2 ∧ f_X6_thrown (f_X6_closePermit (f_X5_closePermit σ a1).2.2 a1).2 = f_L_closePermit (f_X5_closePermit σ a1).1 ∧ (f_L_closePermit (f_X5_closePermit σ a1).1 = 0 → (f_X5_closePermit σ a1).1 = 0 ∧ (f_X6_closePermit (f_X5_closePermit σ a1).2.2 a1).1 = (f_X5_closePermit σ a1).2.1) ∧ zR (t + 1) (f_X6_closePermit (f_X5_closePermit σ a1).2.2 a1).2 := by
  sorry
theorem sim_isPermitOpen {t : Nat} {σ : zS} (h : zR t σ) (ht : t < 512) (a1 : Int32) : zI (f_X5_isPermitOpen σ a1).2.2 ∧ f_X6_thrown (f_X6_isPermitOpen (f_X5_isPermitOpen σ a1).2.2 a1).2 = f_L_isPermitOpen (f_X5_isPermitOpen σ a1).1 ∧ (f_L_isPermitOpen (f_X5_isPermitOpen σ a1).1 = 0 → (f_X5_isPermitOpen σ a1).1 = 0 ∧ (f_X6_isPermitOpen (f_X5_isPermitOpen σ a1).2.2 a1).1 = (f_X5_isPermitOpen σ a1).2.1) ∧ zR (t + 1) (f_X6_isPermitOpen (f_X5_isPermitOpen σ a1).2.2 a1).2 := by
  sorry
theorem sim_note {t : Nat} {σ : zS} (h : zR t σ) (ht : t < 512)  : zI (f_X5_note σ ).2.2 ∧ f_X6_thrown (f_X6_note (f_X5_note σ ).2.2 ).2 = f_L_note (f_X5_note σ ).1 ∧ (f_L_note (f_X5_note σ ).1 = 0 → (f_X5_note σ ).1 = 0 ∧ (f_X6_note (f_X5_note σ ).2.2 ).1 = (f_X5_note σ ).2.1) ∧ zR (t + 1) (f_X6_note (f_X5_note σ ).2.2 ).2 := by
  sorry
theorem sim_close {t : Nat} {σ : zS} (h : zR t σ) (ht : t < 512) (a1 : Int32) : zI (f_X5_close σ a1).2.2 ∧ f_X6_thrown (f_X6_close (f_X5_close σ a1).2.2 a1).2 = f_L_close (f_X5_close σ a1).1 ∧ (f_L_close (f_X5_close σ a1).1 = 0 → (f_X5_close σ a1).1 = 0 ∧ (f_X6_close (f_X5_close σ a1).2.2 a1).1 = (f_X5_close σ a1).2.1) ∧ zR (t + 1) (f_X6_close (f_X5_close σ a1).2.2 a1).2 := by
  sorry
theorem sim_begin {t : Nat} {σ : zS} (h : zR t σ) (ht : t < 512) (a1 : Int32) : zI (f_X5_begin σ a1).2.2 ∧ f_X6_thrown (f_X6_begin (f_X5_begin σ a1).2.2 a1).2 = f_L_begin (f_X5_begin σ a1).1 ∧ (f_L_begin (f_X5_begin σ a1).1 = 0 → (f_X5_begin σ a1).1 = 0 ∧ (f_X6_begin (f_X5_begin σ a1).2.2 a1).1 = (f_X5_begin σ a1).2.1) ∧ zR (t + 1) (f_X6_begin (f_X5_begin σ a1).2.2 a1).2 := by
  sorry
theorem sim_handOver {t : Nat} {σ : zS} (h : zR t σ) (ht : t < 512) (a1 : Int32) : zI (f_X5_handOver σ a1).2.2 ∧ f_X6_thrown (f_X6_handOver (f_X5_handOver σ a1).2.2 a1).2 = f_L_handOver (f_X5_handOver σ a1).1 ∧ (f_L_handOver (f_X5_handOver σ a1).1 = 0 → (f_X5_handOver σ a1).1 = 0 ∧ (f_X6_handOver (f_X5_handOver σ a1).2.2 a1).1 = (f_X5_handOver σ a1).2.1) ∧ zR (t + 1) (f_X6_handOver (f_X5_handOver σ a1).2.2 a1).2 := by
  sorry
theorem sim_acknowledge {t : Nat} {σ : zS} (h : zR t σ) (ht : t < 512) (a1 : Int32) : zI (f_X5_acknowledge σ a1).2.2 ∧ f_X6_thrown (f_X6_acknowledge (f_X5_acknowledge σ a1).2.2 a1).2 = f_L_acknowledge (f_X5_acknowledge σ a1).1 ∧ (f_L_acknowledge (f_X5_acknowledge σ a1).1 = 0 → (f_X5_acknowledge σ a1).1 = 0 ∧ (f_X6_acknowledge (f_X5_acknowledge σ a1).2.2 a1).1 = (f_X5_acknowledge σ a1).2.1) ∧ zR (t + 1) (f_X6_acknowledge (f_X5_acknowledge σ a1).2.2 a1).2 := by
  sorry
theorem sim_take {t : Nat} {σ : zS} (h : zR t σ) (ht : t < 512)  : zI (f_X5_take σ ).2.2 ∧ f_X6_thrown (f_X6_take (f_X5_take σ ).2.2 ).2 = f_L_take (f_X5_take σ ).1 ∧ (f_L_take (f_X5_take σ ).1 = 0 → (f_X5_take σ ).1 = 0 ∧ (f_X6_take (f_X5_take σ ).2.2 ).1 = (f_X5_take σ ).2.1) ∧ zR (t + 1) (f_X6_take (f_X5_take σ ).2.2 ).2 := by
  sorry
theorem sim_cancel {t : Nat} {σ : zS} (h : zR t σ) (ht : t < 512)  : zI (f_X5_cancel σ ).2.2 ∧ f_X6_thrown (f_X6_cancel (f_X5_cancel σ ).2.2 ).2 = f_L_cancel (f_X5_cancel σ ).1 ∧ (f_L_cancel (f_X5_cancel σ ).1 = 0 → (f_X5_cancel σ ).1 = 0 ∧ (f_X6_cancel (f_X5_cancel σ ).2.2 ).1 = (f_X5_cancel σ ).2.1) ∧ zR (t + 1) (f_X6_cancel (f_X5_cancel σ ).2.2 ).2 := by
  sorry
theorem sim_pass {t : Nat} {σ : zS} (h : zR t σ) (ht : t < 512) (a1 : Int32) : zI (f_X5_pass σ a1).2.2 ∧ f_X6_thrown (f_X6_pass (f_X5_pass σ a1).2.2 a1).2 = f_L_pass (f_X5_pass σ a1).1 ∧ (f_L_pass (f_X5_pass σ a1).1 = 0 → (f_X5_pass σ a1).1 = 0 ∧ (f_X6_pass (f_X5_pass σ a1).2.2 a1).1 = (f_X5_pass σ a1).2.1) ∧ zR (t + 1) (f_X6_pass (f_X5_pass σ a1).2.2 a1).2 := by
  sorry
theorem sim_hour {t : Nat} {σ : zS} (h : zR t σ) (ht : t < 512) : zI σ ∧ (f_X5_hour σ ) = (f_X6_hour σ ).1 ∧ zR (t + 1) (f_X6_hour σ ).2 := by
  sorry
theorem sim_onDuty {t : Nat} {σ : zS} (h : zR t σ) (ht : t < 512)  : zI (f_X5_onDuty σ ).2.2 ∧ f_X6_thrown (f_X6_onDuty (f_X5_onDuty σ ).2.2 ).2 = f_L_onDuty (f_X5_onDuty σ ).1 ∧ (f_L_onDuty (f_X5_onDuty σ ).1 = 0 → (f_X5_onDuty σ ).1 = 0 ∧ (f_X6_onDuty (f_X5_onDuty σ ).2.2 ).1 = (f_X5_onDuty σ ).2.1) ∧ zR (t + 1) (f_X6_onDuty (f_X5_onDuty σ ).2.2 ).2 := by
  sorry
theorem sim_isTired {t : Nat} {σ : zS} (h : zR t σ) (ht : t < 512) : zI σ ∧ (f_X5_isTired σ ) = (f_X6_isTired σ ).1 ∧ zR (t + 1) (f_X6_isTired σ ).2 := by
  sorry
theorem sim_restLeft {t : Nat} {σ : zS} (h : zR t σ) (ht : t < 512) (a1 : Int32) : zI (f_X5_restLeft σ a1).2.2 ∧ f_X6_thrown (f_X6_restLeft (f_X5_restLeft σ a1).2.2 a1).2 = f_L_restLeft (f_X5_restLeft σ a1).1 ∧ (f_L_restLeft (f_X5_restLeft σ a1).1 = 0 → (f_X5_restLeft σ a1).1 = 0 ∧ (f_X6_restLeft (f_X5_restLeft σ a1).2.2 a1).1 = (f_X5_restLeft σ a1).2.1) ∧ zR (t + 1) (f_X6_restLeft (f_X5_restLeft σ a1).2.2 a1).2 := by
  sorry
theorem sim_openLines {t : Nat} {σ : zS} (h : zR t σ) (ht : t < 512) : zI σ ∧ (f_X5_openLines σ ) = (f_X6_openLines σ ).1 ∧ zR (t + 1) (f_X6_openLines σ ).2 := by
  sorry
theorem sim_openByLog {t : Nat} {σ : zS} (h : zR t σ) (ht : t < 512) : zI σ ∧ (f_X5_openByLog σ ) = (f_X6_openByLog σ ).1 ∧ zR (t + 1) (f_X6_openByLog σ ).2 := by
  sorry
theorem sim_openAt {t : Nat} {σ : zS} (h : zR t σ) (ht : t < 512) (a1 : Int32) : zI (f_X5_openAt σ a1).2.2 ∧ f_X6_thrown (f_X6_openAt (f_X5_openAt σ a1).2.2 a1).2 = f_L_openAt (f_X5_openAt σ a1).1 ∧ (f_L_openAt (f_X5_openAt σ a1).1 = 0 → (f_X5_openAt σ a1).1 = 0 ∧ (f_X6_openAt (f_X5_openAt σ a1).2.2 a1).1 = (f_X5_openAt σ a1).2.1) ∧ zR (t + 1) (f_X6_openAt (f_X5_openAt σ a1).2.2 a1).2 := by
  sorry
theorem sim_kindOf {t : Nat} {σ : zS} (h : zR t σ) (ht : t < 512) (a1 : Int32) : zI (f_X5_kindOf σ a1).2.2 ∧ f_X6_thrown (f_X6_kindOf (f_X5_kindOf σ a1).2.2 a1).2 = f_L_kindOf (f_X5_kindOf σ a1).1 ∧ (f_L_kindOf (f_X5_kindOf σ a1).1 = 0 → (f_X5_kindOf σ a1).1 = 0 ∧ (f_X6_kindOf (f_X5_kindOf σ a1).2.2 a1).1 = (f_X5_kindOf σ a1).2.1) ∧ zR (t + 1) (f_X6_kindOf (f_X5_kindOf σ a1).2.2 a1).2 := by
  sorry
theorem sim_passed {t : Nat} {σ : zS} (h : zR t σ) (ht : t < 512) (a1 : Int32) : zI (f_X5_passed σ a1).2.2 ∧ f_X6_thrown (f_X6_passed (f_X5_passed σ a1).2.2 a1).2 = f_L_passed (f_X5_passed σ a1).1 ∧ (f_L_passed (f_X5_passed σ a1).1 = 0 → (f_X5_passed σ a1).1 = 0 ∧ (f_X6_passed (f_X5_passed σ a1).2.2 a1).1 = (f_X5_passed σ a1).2.1) ∧ zR (t + 1) (f_X6_passed (f_X5_passed σ a1).2.2 a1).2 := by
  sorry
theorem sim_closedShare {t : Nat} {σ : zS} (h : zR t σ) (ht : t < 512)  : zI (f_X5_closedShare σ ).2.2 ∧ f_X6_thrown (f_X6_closedShare (f_X5_closedShare σ ).2.2 ).2 = f_L_closedShare (f_X5_closedShare σ ).1 ∧ (f_L_closedShare (f_X5_closedShare σ ).1 = 0 → (f_X5_closedShare σ ).1 = 0 ∧ (f_X6_closedShare (f_X5_closedShare σ ).2.2 ).1 = (f_X5_closedShare σ ).2.1) ∧ zR (t + 1) (f_X6_closedShare (f_X5_closedShare σ ).2.2 ).2 := by
  sorry
theorem sim_meanAge {t : Nat} {σ : zS} (h : zR t σ) (ht : t < 512)  : zI (f_X5_meanAge σ ).2.2 ∧ f_X6_thrown (f_X6_meanAge (f_X5_meanAge σ ).2.2 ).2 = f_L_meanAge (f_X5_meanAge σ ).1 ∧ (f_L_meanAge (f_X5_meanAge σ ).1 = 0 → (f_X5_meanAge σ ).1 = 0 ∧ (f_X6_meanAge (f_X5_meanAge σ ).2.2 ).1 = (f_X5_meanAge σ ).2.1) ∧ zR (t + 1) (f_X6_meanAge (f_X5_meanAge σ ).2.2 ).2 := by
  sorry
theorem sim_isSound {t : Nat} {σ : zS} (h : zR t σ) (ht : t < 512) : zI σ ∧ (f_X5_isSound σ ) = (f_X6_isSound σ ).1 ∧ zR (t + 1) (f_X6_isSound σ ).2 := by
  sorry
