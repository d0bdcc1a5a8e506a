set_option maxRecDepth 20000 in
theorem ggX5_init_X2_init : GoodIn wsX5_init wsX2_init := goodIn_r _ [27, 28, 2, 3, 29, 30, 4, 31, 32, 33, 34, 35, 36, 74, 75, 76, 77, 78, 79, 80, 81, 82] (by decide +kernel) (by decide +kernel)
set_option maxRecDepth 20000 in
theorem gX5_init_X2_init_n15 : GoodIn wsX5_init (wsX2_init) := ggX5_init_X2_init
set_option maxRecDepth 20000 in
theorem ggX5_init_X0_init : GoodIn wsX5_init wsX0_init := goodIn_r _ [38, 39, 2, 3, 4, 40, 41, 42, 83, 84, 85] (by decide +kernel) (by decide +kernel)
set_option maxRecDepth 20000 in
theorem gX5_init_X0_init_n22 : GoodIn wsX5_init (wsX0_init) := ggX5_init_X0_init
set_option maxRecDepth 20000 in
theorem ggX5_init_X4_init : GoodIn wsX5_init wsX4_init := goodIn_r _ [44, 45, 2, 3, 4, 46, 47, 48, 49, 50, 51, 52, 53, 54, 86, 87, 88, 89, 90, 91, 92, 93, 94, 95] (by decide +kernel) (by decide +kernel)
set_option maxRecDepth 20000 in
theorem gX5_init_X4_init_n29 : GoodIn wsX5_init (wsX4_init) := ggX5_init_X4_init
set_option maxRecDepth 20000 in
theorem ggX5_init_X3_init : GoodIn wsX5_init wsX3_init := goodIn_r _ [56, 57, 2, 3, 4, 58, 59, 32, 60, 96, 97, 98, 99] (by decide +kernel) (by decide +kernel)
set_option maxRecDepth 20000 in
theorem gX5_init_X3_init_n36 : GoodIn wsX5_init (wsX3_init) := ggX5_init_X3_init
set_option maxRecDepth 20000 in
theorem ggX5_init_X1_init : GoodIn wsX5_init wsX1_init := goodIn_r _ [62, 63, 2, 3, 4, 64, 65, 66, 100, 101, 102, 103] (by decide +kernel) (by decide +kernel)
set_option maxRecDepth 20000 in
theorem gX5_init_X1_init_n43 : GoodIn wsX5_init (wsX1_init) := ggX5_init_X1_init
theorem dX5_init_0 : decode cX5_init 0 = .ok (.aload_n 0, 1) := by decide +kernel
theorem dX5_init_1 : decode cX5_init 1 = .ok (.invokespecial 3, 3) := by decide +kernel
theorem dX5_init_4 : decode cX5_init 4 = .ok (.aload_n 0, 1) := by decide +kernel
theorem dX5_init_5 : decode cX5_init 5 = .ok (.bipush 8, 2) := by decide +kernel
theorem dX5_init_7 : decode cX5_init 7 = .ok (.newarray .int, 2) := by decide +kernel
theorem dX5_init_9 : decode cX5_init 9 = .ok (.putfield 9, 3) := by decide +kernel
theorem dX5_init_12 : decode cX5_init 12 = .ok (.aload_n 0, 1) := by decide +kernel
theorem dX5_init_13 : decode cX5_init 13 = .ok (.new 13, 3) := by decide +kernel
theorem dX5_init_16 : decode cX5_init 16 = .ok (.dup, 1) := by decide +kernel
theorem dX5_init_17 : decode cX5_init 17 = .ok (.invokespecial 15, 3) := by decide +kernel
theorem dX5_init_20 : decode cX5_init 20 = .ok (.putfield 16, 3) := by decide +kernel
theorem dX5_init_23 : decode cX5_init 23 = .ok (.aload_n 0, 1) := by decide +kernel
theorem dX5_init_24 : decode cX5_init 24 = .ok (.new 20, 3) := by decide +kernel
theorem dX5_init_27 : decode cX5_init 27 = .ok (.dup, 1) := by decide +kernel
theorem dX5_init_28 : decode cX5_init 28 = .ok (.invokespecial 22, 3) := by decide +kernel
theorem dX5_init_31 : decode cX5_init 31 = .ok (.putfield 23, 3) := by decide +kernel
theorem dX5_init_34 : decode cX5_init 34 = .ok (.aload_n 0, 1) := by decide +kernel
theorem dX5_init_35 : decode cX5_init 35 = .ok (.new 27, 3) := by decide +kernel
theorem dX5_init_38 : decode cX5_init 38 = .ok (.dup, 1) := by decide +kernel
theorem dX5_init_39 : decode cX5_init 39 = .ok (.invokespecial 29, 3) := by decide +kernel
theorem dX5_init_42 : decode cX5_init 42 = .ok (.putfield 30, 3) := by decide +kernel
theorem dX5_init_45 : decode cX5_init 45 = .ok (.aload_n 0, 1) := by decide +kernel
theorem dX5_init_46 : decode cX5_init 46 = .ok (.new 34, 3) := by decide +kernel
theorem dX5_init_49 : decode cX5_init 49 = .ok (.dup, 1) := by decide +kernel
theorem dX5_init_50 : decode cX5_init 50 = .ok (.invokespecial 36, 3) := by decide +kernel
theorem dX5_init_53 : decode cX5_init 53 = .ok (.putfield 37, 3) := by decide +kernel
theorem dX5_init_56 : decode cX5_init 56 = .ok (.aload_n 0, 1) := by decide +kernel
theorem dX5_init_57 : decode cX5_init 57 = .ok (.new 41, 3) := by decide +kernel
theorem dX5_init_60 : decode cX5_init 60 = .ok (.dup, 1) := by decide +kernel
theorem dX5_init_61 : decode cX5_init 61 = .ok (.invokespecial 43, 3) := by decide +kernel
theorem dX5_init_64 : decode cX5_init 64 = .ok (.putfield 44, 3) := by decide +kernel
theorem dX5_init_67 : decode cX5_init 67 = .ok (.return_, 1) := by decide +kernel
set_option maxRecDepth 20000 in
theorem ggX5_state_X5_checkUnit : GoodIn wsX5_state wsX5_checkUnit := goodIn_ca (goodIn_r _ [4, 5, 6, 7, 8, 3, 9] (by decide +kernel) (by decide +kernel)) (goodIn_sub (fun _ h => List.mem_cons_of_mem _ (List.mem_append_left _ (List.mem_append_right _ h))) (by decide +kernel))
set_option maxRecDepth 20000 in
theorem gX5_state_X5_checkUnit : GoodIn wsX5_state (va_wsS RX5 48 yX5_checkUnit wsX5_checkUnit) := goodIn_app (goodIn_of _ (by decide +kernel)) ggX5_state_X5_checkUnit
set_option maxRecDepth 20000 in
theorem ggX5_state_X5_stateOf : GoodIn wsX5_state wsX5_stateOf := goodIn_ca (goodIn_r _ [13, 14, 7, 8, 3, 9, 15, 16, 17, 18, 19, 20, 21] (by decide +kernel) (by decide +kernel)) (goodIn_sub (fun _ h => List.mem_cons_of_mem _ (List.mem_append_right _ h)) (by decide +kernel))
set_option maxRecDepth 20000 in
theorem gX5_state_X5_stateOf : GoodIn wsX5_state (wsV RX5 52 RX5 yX5_stateOf wsX5_stateOf) := goodIn_app (goodIn_of _ (by decide +kernel)) ggX5_state_X5_stateOf
theorem dX5_state_0 : decode cX5_state 0 = .ok (.iload_n 1, 1) := by decide +kernel
theorem dX5_state_1 : decode cX5_state 1 = .ok (.invokestatic 48, 3) := by decide +kernel
theorem dX5_state_4 : decode cX5_state 4 = .ok (.aload_n 0, 1) := by decide +kernel
theorem dX5_state_5 : decode cX5_state 5 = .ok (.iload_n 1, 1) := by decide +kernel
theorem dX5_state_6 : decode cX5_state 6 = .ok (.invokevirtual 52, 3) := by decide +kernel
theorem dX5_state_9 : decode cX5_state 9 = .ok (.ireturn, 1) := by decide +kernel
set_option maxRecDepth 20000 in
theorem ggX5_raise_X5_checkAlarm : GoodIn wsX5_raise wsX5_checkAlarm := goodIn_ca (goodIn_r _ [9, 10, 11, 12, 13, 8, 14, 15, 16, 17] (by decide +kernel) (by decide +kernel)) (goodIn_sub (fun _ h => List.mem_cons_of_mem _ (List.mem_append_left _ (List.mem_append_left _ (List.mem_append_right _ h)))) (by decide +kernel))
set_option maxRecDepth 20000 in
theorem gX5_raise_X5_checkAlarm : GoodIn wsX5_raise (va_wsS RX5 56 yX5_checkAlarm wsX5_checkAlarm) := goodIn_app (goodIn_of _ (by decide +kernel)) ggX5_raise_X5_checkAlarm
set_option maxRecDepth 20000 in
theorem ggX5_raise_X5_checkPriority : GoodIn wsX5_raise wsX5_checkPriority := goodIn_ca (goodIn_r _ [20, 21, 22] (by decide +kernel) (by decide +kernel)) (goodIn_sub (fun _ h => List.mem_cons_of_mem _ (List.mem_append_left _ (List.mem_append_right _ h))) (by decide +kernel))
set_option maxRecDepth 20000 in
theorem gX5_raise_X5_checkPriority : GoodIn wsX5_raise (va_wsS RX5 60 yX5_checkPriority wsX5_checkPriority) := goodIn_app (goodIn_of _ (by decide +kernel)) ggX5_raise_X5_checkPriority
set_option maxRecDepth 20000 in
theorem ggX5_raise_X5_alarmOf : GoodIn wsX5_raise wsX5_alarmOf := goodIn_r _ [25] (by decide +kernel) (by decide +kernel)
set_option maxRecDepth 20000 in
theorem gX5_raise_X5_alarmOf : GoodIn wsX5_raise (va_wsS RX5 63 yX5_alarmOf wsX5_alarmOf) := goodIn_app (goodIn_of _ (by decide +kernel)) ggX5_raise_X5_alarmOf
set_option maxRecDepth 20000 in
theorem ggX5_raise_X0_isActive : GoodIn wsX5_raise wsX0_isActive := goodIn_ca (goodIn_r _ [30, 31, 32, 33, 29, 34, 77, 78, 79] (by decide +kernel) (by decide +kernel)) (goodIn_sub (fun _ h => List.mem_cons_of_mem _ (List.mem_append_right _ h)) (by decide +kernel))
set_option maxRecDepth 20000 in
theorem gX5_raise_X0_isActive : GoodIn wsX5_raise (wsV RX5 67 RX0 yX0_isActive wsX0_isActive) := goodIn_app (goodIn_of _ (by decide +kernel)) ggX5_raise_X0_isActive
set_option maxRecDepth 20000 in
theorem ggX5_raise_X5_checkRoomForLine : GoodIn wsX5_raise wsX5_checkRoomForLine := goodIn_ca (goodIn_r _ [38, 1, 2, 4, 39, 40, 41, 42, 43, 44, 70, 71, 72, 73, 74, 75, 76, 80, 81, 82, 83, 84, 85, 86, 87, 88] (by decide +kernel) (by decide +kernel)) (goodIn_sub (fun _ h => List.mem_cons_of_mem _ (List.mem_append_left _ (List.mem_append_left _ (List.mem_append_left _ (List.mem_append_right _ h))))) (by decide +kernel))
set_option maxRecDepth 20000 in
theorem gX5_raise_X5_checkRoomForLine : GoodIn wsX5_raise (wsV RX5 78 RX5 yX5_checkRoomForLine wsX5_checkRoomForLine) := goodIn_app (goodIn_of _ (by decide +kernel)) ggX5_raise_X5_checkRoomForLine
set_option maxRecDepth 20000 in
theorem ggX5_raise_X2_openLine : GoodIn wsX5_raise wsX2_openLine := goodIn_ca (goodIn_r _ [48, 44, 49, 50, 51, 52, 53, 40, 41, 42, 43, 54, 55, 56, 57, 58, 59, 60, 61, 62, 63, 80, 81, 82, 83, 84, 85, 86, 87, 88] (by decide +kernel) (by decide +kernel)) (goodIn_sub (fun _ h => List.mem_cons_of_mem _ (List.mem_append_right _ h)) (by decide +kernel))
set_option maxRecDepth 20000 in
theorem gX5_raise_X2_openLine : GoodIn wsX5_raise (wsV RX5 85 RX2 yX2_openLine wsX2_openLine) := goodIn_app (goodIn_of _ (by decide +kernel)) ggX5_raise_X2_openLine
set_option maxRecDepth 20000 in
theorem ggX5_raise_X0_activate : GoodIn wsX5_raise wsX0_activate := goodIn_ca (goodIn_r _ [67, 31, 68, 69, 32, 33, 29, 34, 77, 78, 79] (by decide +kernel) (by decide +kernel)) (goodIn_sub (fun _ h => List.mem_cons_of_mem _ (List.mem_append_right _ h)) (by decide +kernel))
set_option maxRecDepth 20000 in
theorem gX5_raise_X0_activate : GoodIn wsX5_raise (wsV RX5 89 RX0 yX0_activate wsX0_activate) := goodIn_app (goodIn_of _ (by decide +kernel)) ggX5_raise_X0_activate
theorem dX5_raise_0 : decode cX5_raise 0 = .ok (.iload_n 1, 1) := by decide +kernel
theorem dX5_raise_1 : decode cX5_raise 1 = .ok (.iload_n 2, 1) := by decide +kernel
theorem dX5_raise_2 : decode cX5_raise 2 = .ok (.invokestatic 56, 3) := by decide +kernel
theorem dX5_raise_5 : decode cX5_raise 5 = .ok (.iload_n 3, 1) := by decide +kernel
theorem dX5_raise_6 : decode cX5_raise 6 = .ok (.invokestatic 60, 3) := by decide +kernel
theorem dX5_raise_9 : decode cX5_raise 9 = .ok (.iload_n 1, 1) := by decide +kernel
theorem dX5_raise_10 : decode cX5_raise 10 = .ok (.iload_n 2, 1) := by decide +kernel
theorem dX5_raise_11 : decode cX5_raise 11 = .ok (.invokestatic 63, 3) := by decide +kernel
theorem dX5_raise_14 : decode cX5_raise 14 = .ok (.istore 4, 2) := by decide +kernel
theorem dX5_raise_16 : decode cX5_raise 16 = .ok (.aload_n 0, 1) := by decide +kernel
theorem dX5_raise_17 : decode cX5_raise 17 = .ok (.getfield 23, 3) := by decide +kernel
theorem dX5_raise_20 : decode cX5_raise 20 = .ok (.iload 4, 2) := by decide +kernel
theorem dX5_raise_22 : decode cX5_raise 22 = .ok (.invokevirtual 67, 3) := by decide +kernel
theorem dX5_raise_25 : decode cX5_raise 25 = .ok (.ifCond .eq 13, 3) := by decide +kernel
theorem dX5_raise_28 : decode cX5_raise 28 = .ok (.new 71, 3) := by decide +kernel
theorem dX5_raise_31 : decode cX5_raise 31 = .ok (.dup, 1) := by decide +kernel
theorem dX5_raise_32 : decode cX5_raise 32 = .ok (.ldc 73, 2) := by decide +kernel
theorem dX5_raise_34 : decode cX5_raise 34 = .ok (.invokespecial 75, 3) := by decide +kernel
theorem dX5_raise_37 : decode cX5_raise 37 = .ok (.athrow, 1) := by decide +kernel
theorem dX5_raise_38 : decode cX5_raise 38 = .ok (.aload_n 0, 1) := by decide +kernel
theorem dX5_raise_39 : decode cX5_raise 39 = .ok (.invokevirtual 78, 3) := by decide +kernel
theorem dX5_raise_42 : decode cX5_raise 42 = .ok (.aload_n 0, 1) := by decide +kernel
theorem dX5_raise_43 : decode cX5_raise 43 = .ok (.getfield 16, 3) := by decide +kernel
theorem dX5_raise_46 : decode cX5_raise 46 = .ok (.bipush 97, 2) := by decide +kernel
theorem dX5_raise_48 : decode cX5_raise 48 = .ok (.aload_n 0, 1) := by decide +kernel
theorem dX5_raise_49 : decode cX5_raise 49 = .ok (.getfield 81, 3) := by decide +kernel
theorem dX5_raise_52 : decode cX5_raise 52 = .ok (.invokevirtual 85, 3) := by decide +kernel
theorem dX5_raise_55 : decode cX5_raise 55 = .ok (.istore 5, 2) := by decide +kernel
theorem dX5_raise_57 : decode cX5_raise 57 = .ok (.aload_n 0, 1) := by decide +kernel
theorem dX5_raise_58 : decode cX5_raise 58 = .ok (.getfield 23, 3) := by decide +kernel
theorem dX5_raise_61 : decode cX5_raise 61 = .ok (.iload 4, 2) := by decide +kernel
theorem dX5_raise_63 : decode cX5_raise 63 = .ok (.iload_n 3, 1) := by decide +kernel
theorem dX5_raise_64 : decode cX5_raise 64 = .ok (.iload 5, 2) := by decide +kernel
theorem dX5_raise_66 : decode cX5_raise 66 = .ok (.invokevirtual 89, 3) := by decide +kernel
theorem dX5_raise_69 : decode cX5_raise 69 = .ok (.iload 5, 2) := by decide +kernel
theorem dX5_raise_71 : decode cX5_raise 71 = .ok (.ireturn, 1) := by decide +kernel
set_option maxRecDepth 20000 in
theorem ggX5_clear_X5_checkAlarm : GoodIn wsX5_clear wsX5_checkAlarm := goodIn_ca (goodIn_r _ [6, 7, 8, 9, 10, 5, 11, 12, 13, 14] (by decide +kernel) (by decide +kernel)) (goodIn_sub (fun _ h => List.mem_cons_of_mem _ (List.mem_append_left _ (List.mem_append_left _ (List.mem_append_right _ h)))) (by decide +kernel))
set_option maxRecDepth 20000 in
theorem gX5_clear_X5_checkAlarm : GoodIn wsX5_clear (va_wsS RX5 56 yX5_checkAlarm wsX5_checkAlarm) := goodIn_app (goodIn_of _ (by decide +kernel)) ggX5_clear_X5_checkAlarm
set_option maxRecDepth 20000 in
theorem ggX5_clear_X5_alarmOf : GoodIn wsX5_clear wsX5_alarmOf := goodIn_r _ [17] (by decide +kernel) (by decide +kernel)
set_option maxRecDepth 20000 in
theorem gX5_clear_X5_alarmOf : GoodIn wsX5_clear (va_wsS RX5 63 yX5_alarmOf wsX5_alarmOf) := goodIn_app (goodIn_of _ (by decide +kernel)) ggX5_clear_X5_alarmOf
set_option maxRecDepth 20000 in
theorem ggX5_clear_X5_checkActive : GoodIn wsX5_clear wsX5_checkActive := goodIn_ca (goodIn_ca (goodIn_r _ [21, 22, 23, 1, 24, 25, 26, 27, 28, 29, 30, 31, 32, 65, 66, 67, 68, 69, 70, 71, 72, 73, 74] (by decide +kernel) (by decide +kernel)) (goodIn_sub (fun _ h => List.mem_cons_of_mem _ (List.mem_append_left _ (List.mem_append_right _ h))) (by decide +kernel))) (goodIn_sub (fun _ h => List.mem_cons_of_mem _ (List.mem_append_right _ h)) (by decide +kernel))
set_option maxRecDepth 20000 in
theorem gX5_clear_X5_checkActive : GoodIn wsX5_clear (wsV RX5 93 RX5 yX5_checkActive wsX5_checkActive) := goodIn_app (goodIn_of _ (by decide +kernel)) ggX5_clear_X5_checkActive
set_option maxRecDepth 20000 in
theorem ggX5_clear_X0_lineOf : GoodIn wsX5_clear wsX0_lineOf := goodIn_ca (goodIn_r _ [36, 37, 38, 25, 26, 27, 28, 29, 30, 31, 32, 72, 73, 74] (by decide +kernel) (by decide +kernel)) (goodIn_sub (fun _ h => List.mem_cons_of_mem _ (List.mem_append_right _ h)) (by decide +kernel))
set_option maxRecDepth 20000 in
theorem gX5_clear_X0_lineOf : GoodIn wsX5_clear (wsV RX5 96 RX0 yX0_lineOf wsX0_lineOf) := goodIn_app (goodIn_of _ (by decide +kernel)) ggX5_clear_X0_lineOf
set_option maxRecDepth 20000 in
theorem ggX5_clear_X0_deactivate : GoodIn wsX5_clear wsX0_deactivate := goodIn_ca (goodIn_r _ [42, 29, 30, 31, 27, 32, 72, 73, 74] (by decide +kernel) (by decide +kernel)) (goodIn_sub (fun _ h => List.mem_cons_of_mem _ (List.mem_append_right _ h)) (by decide +kernel))
set_option maxRecDepth 20000 in
theorem gX5_clear_X0_deactivate : GoodIn wsX5_clear (wsV RX5 99 RX0 yX0_deactivate wsX0_deactivate) := goodIn_app (goodIn_of _ (by decide +kernel)) ggX5_clear_X0_deactivate
set_option maxRecDepth 20000 in
theorem ggX5_clear_X2_closeLine : GoodIn wsX5_clear wsX2_closeLine := goodIn_ca (goodIn_r _ [47, 48, 49, 50, 51, 52, 46, 53, 54, 55, 56, 57, 58, 59, 60, 61, 62, 63, 64, 75, 76, 77, 78, 79, 80, 81, 82, 83] (by decide +kernel) (by decide +kernel)) (goodIn_sub (fun _ h => List.mem_cons_of_mem _ (List.mem_append_right _ h)) (by decide +kernel))
set_option maxRecDepth 20000 in
theorem gX5_clear_X2_closeLine : GoodIn wsX5_clear (wsV RX5 102 RX2 yX2_closeLine wsX2_closeLine) := goodIn_app (goodIn_of _ (by decide +kernel)) ggX5_clear_X2_closeLine
theorem dX5_clear_0 : decode cX5_clear 0 = .ok (.iload_n 1, 1) := by decide +kernel
theorem dX5_clear_1 : decode cX5_clear 1 = .ok (.iload_n 2, 1) := by decide +kernel
theorem dX5_clear_2 : decode cX5_clear 2 = .ok (.invokestatic 56, 3) := by decide +kernel
theorem dX5_clear_5 : decode cX5_clear 5 = .ok (.iload_n 1, 1) := by decide +kernel
theorem dX5_clear_6 : decode cX5_clear 6 = .ok (.iload_n 2, 1) := by decide +kernel
theorem dX5_clear_7 : decode cX5_clear 7 = .ok (.invokestatic 63, 3) := by decide +kernel
theorem dX5_clear_10 : decode cX5_clear 10 = .ok (.istore_n 3, 1) := by decide +kernel
theorem dX5_clear_11 : decode cX5_clear 11 = .ok (.aload_n 0, 1) := by decide +kernel
theorem dX5_clear_12 : decode cX5_clear 12 = .ok (.iload_n 3, 1) := by decide +kernel
theorem dX5_clear_13 : decode cX5_clear 13 = .ok (.invokevirtual 93, 3) := by decide +kernel
theorem dX5_clear_16 : decode cX5_clear 16 = .ok (.aload_n 0, 1) := by decide +kernel
theorem dX5_clear_17 : decode cX5_clear 17 = .ok (.getfield 23, 3) := by decide +kernel
theorem dX5_clear_20 : decode cX5_clear 20 = .ok (.iload_n 3, 1) := by decide +kernel
theorem dX5_clear_21 : decode cX5_clear 21 = .ok (.invokevirtual 96, 3) := by decide +kernel
theorem dX5_clear_24 : decode cX5_clear 24 = .ok (.istore 4, 2) := by decide +kernel
theorem dX5_clear_26 : decode cX5_clear 26 = .ok (.aload_n 0, 1) := by decide +kernel
theorem dX5_clear_27 : decode cX5_clear 27 = .ok (.getfield 23, 3) := by decide +kernel
theorem dX5_clear_30 : decode cX5_clear 30 = .ok (.iload_n 3, 1) := by decide +kernel
theorem dX5_clear_31 : decode cX5_clear 31 = .ok (.invokevirtual 99, 3) := by decide +kernel
theorem dX5_clear_34 : decode cX5_clear 34 = .ok (.aload_n 0, 1) := by decide +kernel
theorem dX5_clear_35 : decode cX5_clear 35 = .ok (.getfield 16, 3) := by decide +kernel
theorem dX5_clear_38 : decode cX5_clear 38 = .ok (.iload 4, 2) := by decide +kernel
theorem dX5_clear_40 : decode cX5_clear 40 = .ok (.invokevirtual 102, 3) := by decide +kernel
theorem dX5_clear_43 : decode cX5_clear 43 = .ok (.iload 4, 2) := by decide +kernel
theorem dX5_clear_45 : decode cX5_clear 45 = .ok (.ireturn, 1) := by decide +kernel
set_option maxRecDepth 20000 in
theorem ggX5_shelve_X5_checkAlarm : GoodIn wsX5_shelve wsX5_checkAlarm := goodIn_ca (goodIn_r _ [10, 11, 12, 13, 14, 9, 15, 16, 17, 18] (by decide +kernel) (by decide +kernel)) (goodIn_sub (fun _ h => List.mem_cons_of_mem _ (List.mem_append_left _ (List.mem_append_left _ (List.mem_append_right _ h)))) (by decide +kernel))
set_option maxRecDepth 20000 in
theorem gX5_shelve_X5_checkAlarm : GoodIn wsX5_shelve (va_wsS RX5 56 yX5_checkAlarm wsX5_checkAlarm) := goodIn_app (goodIn_of _ (by decide +kernel)) ggX5_shelve_X5_checkAlarm
set_option maxRecDepth 20000 in
theorem ggX5_shelve_X5_alarmOf : GoodIn wsX5_shelve wsX5_alarmOf := goodIn_r _ [21] (by decide +kernel) (by decide +kernel)
set_option maxRecDepth 20000 in
theorem gX5_shelve_X5_alarmOf : GoodIn wsX5_shelve (va_wsS RX5 63 yX5_alarmOf wsX5_alarmOf) := goodIn_app (goodIn_of _ (by decide +kernel)) ggX5_shelve_X5_alarmOf
set_option maxRecDepth 20000 in
theorem ggX5_shelve_X5_checkActive : GoodIn wsX5_shelve wsX5_checkActive := goodIn_ca (goodIn_ca (goodIn_r _ [25, 26, 27, 5, 28, 29, 30, 31, 32, 33, 34, 35, 36, 47, 48, 49, 50, 51, 52, 53, 54, 55, 56] (by decide +kernel) (by decide +kernel)) (goodIn_sub (fun _ h => List.mem_cons_of_mem _ (List.mem_append_left _ (List.mem_append_right _ h))) (by decide +kernel))) (goodIn_sub (fun _ h => List.mem_cons_of_mem _ (List.mem_append_right _ h)) (by decide +kernel))
set_option maxRecDepth 20000 in
theorem gX5_shelve_X5_checkActive : GoodIn wsX5_shelve (wsV RX5 93 RX5 yX5_checkActive wsX5_checkActive) := goodIn_app (goodIn_of _ (by decide +kernel)) ggX5_shelve_X5_checkActive
set_option maxRecDepth 20000 in
theorem ggX5_shelve_X0_isOnShelf : GoodIn wsX5_shelve wsX0_isOnShelf := goodIn_ca (goodIn_r _ [40, 41, 42, 29, 30, 31, 32, 33, 34, 35, 36, 54, 55, 56] (by decide +kernel) (by decide +kernel)) (goodIn_sub (fun _ h => List.mem_cons_of_mem _ (List.mem_append_right _ h)) (by decide +kernel))
set_option maxRecDepth 20000 in
theorem gX5_shelve_X0_isOnShelf : GoodIn wsX5_shelve (wsV RX5 110 RX0 yX0_isOnShelf wsX0_isOnShelf) := goodIn_app (goodIn_of _ (by decide +kernel)) ggX5_shelve_X0_isOnShelf
set_option maxRecDepth 20000 in
theorem ggX5_shelve_X0_putOnShelf : GoodIn wsX5_shelve wsX0_putOnShelf := goodIn_ca (goodIn_r _ [46, 41, 34, 35, 31, 36, 54, 55, 56] (by decide +kernel) (by decide +kernel)) (goodIn_sub (fun _ h => List.mem_cons_of_mem _ (List.mem_append_right _ h)) (by decide +kernel))
set_option maxRecDepth 20000 in
theorem gX5_shelve_X0_putOnShelf : GoodIn wsX5_shelve (wsV RX5 116 RX0 yX0_putOnShelf wsX0_putOnShelf) := goodIn_app (goodIn_of _ (by decide +kernel)) ggX5_shelve_X0_putOnShelf
theorem dX5_shelve_0 : decode cX5_shelve 0 = .ok (.iload_n 1, 1) := by decide +kernel
theorem dX5_shelve_1 : decode cX5_shelve 1 = .ok (.iload_n 2, 1) := by decide +kernel
theorem dX5_shelve_2 : decode cX5_shelve 2 = .ok (.invokestatic 56, 3) := by decide +kernel
theorem dX5_shelve_5 : decode cX5_shelve 5 = .ok (.iload_n 1, 1) := by decide +kernel
theorem dX5_shelve_6 : decode cX5_shelve 6 = .ok (.iload_n 2, 1) := by decide +kernel
theorem dX5_shelve_7 : decode cX5_shelve 7 = .ok (.invokestatic 63, 3) := by decide +kernel
theorem dX5_shelve_10 : decode cX5_shelve 10 = .ok (.istore 4, 2) := by decide +kernel
theorem dX5_shelve_12 : decode cX5_shelve 12 = .ok (.aload_n 0, 1) := by decide +kernel
theorem dX5_shelve_13 : decode cX5_shelve 13 = .ok (.iload 4, 2) := by decide +kernel
theorem dX5_shelve_15 : decode cX5_shelve 15 = .ok (.invokevirtual 93, 3) := by decide +kernel
theorem dX5_shelve_18 : decode cX5_shelve 18 = .ok (.iload_n 3, 1) := by decide +kernel
theorem dX5_shelve_19 : decode cX5_shelve 19 = .ok (.iconst 1, 1) := by decide +kernel
theorem dX5_shelve_20 : decode cX5_shelve 20 = .ok (.if_icmp .lt 9, 3) := by decide +kernel
theorem dX5_shelve_23 : decode cX5_shelve 23 = .ok (.iload_n 3, 1) := by decide +kernel
theorem dX5_shelve_24 : decode cX5_shelve 24 = .ok (.bipush 24, 2) := by decide +kernel
theorem dX5_shelve_26 : decode cX5_shelve 26 = .ok (.if_icmp .le 13, 3) := by decide +kernel
theorem dX5_shelve_29 : decode cX5_shelve 29 = .ok (.new 105, 3) := by decide +kernel
theorem dX5_shelve_32 : decode cX5_shelve 32 = .ok (.dup, 1) := by decide +kernel
theorem dX5_shelve_33 : decode cX5_shelve 33 = .ok (.ldc 107, 2) := by decide +kernel
theorem dX5_shelve_35 : decode cX5_shelve 35 = .ok (.invokespecial 109, 3) := by decide +kernel
theorem dX5_shelve_38 : decode cX5_shelve 38 = .ok (.athrow, 1) := by decide +kernel
theorem dX5_shelve_39 : decode cX5_shelve 39 = .ok (.aload_n 0, 1) := by decide +kernel
theorem dX5_shelve_40 : decode cX5_shelve 40 = .ok (.getfield 23, 3) := by decide +kernel
theorem dX5_shelve_43 : decode cX5_shelve 43 = .ok (.iload 4, 2) := by decide +kernel
theorem dX5_shelve_45 : decode cX5_shelve 45 = .ok (.aload_n 0, 1) := by decide +kernel
theorem dX5_shelve_46 : decode cX5_shelve 46 = .ok (.getfield 81, 3) := by decide +kernel
theorem dX5_shelve_49 : decode cX5_shelve 49 = .ok (.invokevirtual 110, 3) := by decide +kernel
theorem dX5_shelve_52 : decode cX5_shelve 52 = .ok (.ifCond .eq 13, 3) := by decide +kernel
theorem dX5_shelve_55 : decode cX5_shelve 55 = .ok (.new 71, 3) := by decide +kernel
theorem dX5_shelve_58 : decode cX5_shelve 58 = .ok (.dup, 1) := by decide +kernel
theorem dX5_shelve_59 : decode cX5_shelve 59 = .ok (.ldc 114, 2) := by decide +kernel
theorem dX5_shelve_61 : decode cX5_shelve 61 = .ok (.invokespecial 75, 3) := by decide +kernel
theorem dX5_shelve_64 : decode cX5_shelve 64 = .ok (.athrow, 1) := by decide +kernel
theorem dX5_shelve_65 : decode cX5_shelve 65 = .ok (.aload_n 0, 1) := by decide +kernel
theorem dX5_shelve_66 : decode cX5_shelve 66 = .ok (.getfield 81, 3) := by decide +kernel
theorem dX5_shelve_69 : decode cX5_shelve 69 = .ok (.iload_n 3, 1) := by decide +kernel
theorem dX5_shelve_70 : decode cX5_shelve 70 = .ok (.iadd, 1) := by decide +kernel
theorem dX5_shelve_71 : decode cX5_shelve 71 = .ok (.istore 5, 2) := by decide +kernel
theorem dX5_shelve_73 : decode cX5_shelve 73 = .ok (.aload_n 0, 1) := by decide +kernel
theorem dX5_shelve_74 : decode cX5_shelve 74 = .ok (.getfield 23, 3) := by decide +kernel
theorem dX5_shelve_77 : decode cX5_shelve 77 = .ok (.iload 4, 2) := by decide +kernel
theorem dX5_shelve_79 : decode cX5_shelve 79 = .ok (.iload 5, 2) := by decide +kernel
theorem dX5_shelve_81 : decode cX5_shelve 81 = .ok (.invokevirtual 116, 3) := by decide +kernel
theorem dX5_shelve_84 : decode cX5_shelve 84 = .ok (.iload 5, 2) := by decide +kernel
theorem dX5_shelve_86 : decode cX5_shelve 86 = .ok (.ireturn, 1) := by decide +kernel
set_option maxRecDepth 20000 in
theorem ggX5_isShelved_X5_checkAlarm : GoodIn wsX5_isShelved wsX5_checkAlarm := goodIn_ca (goodIn_r _ [6, 7, 8, 9, 10, 5, 11, 12, 13, 14] (by decide +kernel) (by decide +kernel)) (goodIn_sub (fun _ h => List.mem_cons_of_mem _ (List.mem_append_left _ (List.mem_append_right _ h))) (by decide +kernel))
set_option maxRecDepth 20000 in
theorem gX5_isShelved_X5_checkAlarm : GoodIn wsX5_isShelved (va_wsS RX5 56 yX5_checkAlarm wsX5_checkAlarm) := goodIn_app (goodIn_of _ (by decide +kernel)) ggX5_isShelved_X5_checkAlarm
set_option maxRecDepth 20000 in
theorem ggX5_isShelved_X5_alarmOf : GoodIn wsX5_isShelved wsX5_alarmOf := goodIn_r _ [17] (by decide +kernel) (by decide +kernel)
set_option maxRecDepth 20000 in
theorem gX5_isShelved_X5_alarmOf : GoodIn wsX5_isShelved (va_wsS RX5 63 yX5_alarmOf wsX5_alarmOf) := goodIn_app (goodIn_of _ (by decide +kernel)) ggX5_isShelved_X5_alarmOf
set_option maxRecDepth 20000 in
theorem ggX5_isShelved_X0_isOnShelf : GoodIn wsX5_isShelved wsX0_isOnShelf := goodIn_ca (goodIn_r _ [22, 23, 24, 25, 26, 21, 27, 28, 29, 30, 31, 39, 40, 41] (by decide +kernel) (by decide +kernel)) (goodIn_sub (fun _ h => List.mem_cons_of_mem _ (List.mem_append_right _ h)) (by decide +kernel))
set_option maxRecDepth 20000 in
theorem gX5_isShelved_X0_isOnShelf : GoodIn wsX5_isShelved (wsV RX5 110 RX0 yX0_isOnShelf wsX0_isOnShelf) := goodIn_app (goodIn_of _ (by decide +kernel)) ggX5_isShelved_X0_isOnShelf
theorem dX5_isShelved_0 : decode cX5_isShelved 0 = .ok (.iload_n 1, 1) := by decide +kernel
theorem dX5_isShelved_1 : decode cX5_isShelved 1 = .ok (.iload_n 2, 1) := by decide +kernel
theorem dX5_isShelved_2 : decode cX5_isShelved 2 = .ok (.invokestatic 56, 3) := by decide +kernel
theorem dX5_isShelved_5 : decode cX5_isShelved 5 = .ok (.aload_n 0, 1) := by decide +kernel
theorem dX5_isShelved_6 : decode cX5_isShelved 6 = .ok (.getfield 23, 3) := by decide +kernel
theorem dX5_isShelved_9 : decode cX5_isShelved 9 = .ok (.iload_n 1, 1) := by decide +kernel
theorem dX5_isShelved_10 : decode cX5_isShelved 10 = .ok (.iload_n 2, 1) := by decide +kernel
theorem dX5_isShelved_11 : decode cX5_isShelved 11 = .ok (.invokestatic 63, 3) := by decide +kernel
theorem dX5_isShelved_14 : decode cX5_isShelved 14 = .ok (.aload_n 0, 1) := by decide +kernel
theorem dX5_isShelved_15 : decode cX5_isShelved 15 = .ok (.getfield 81, 3) := by decide +kernel
theorem dX5_isShelved_18 : decode cX5_isShelved 18 = .ok (.invokevirtual 110, 3) := by decide +kernel
theorem dX5_isShelved_21 : decode cX5_isShelved 21 = .ok (.ireturn, 1) := by decide +kernel
set_option maxRecDepth 20000 in
theorem ggX5_alarms_X5_checkPriority : GoodIn wsX5_alarms wsX5_checkPriority := goodIn_ca (goodIn_r _ [6, 7, 8] (by decide +kernel) (by decide +kernel)) (goodIn_sub (fun _ h => List.mem_cons_of_mem _ (List.mem_append_left _ (List.mem_append_right _ h))) (by decide +kernel))
set_option maxRecDepth 20000 in
theorem gX5_alarms_X5_checkPriority : GoodIn wsX5_alarms (va_wsS RX5 60 yX5_checkPriority wsX5_checkPriority) := goodIn_app (goodIn_of _ (by decide +kernel)) ggX5_alarms_X5_checkPriority
set_option maxRecDepth 20000 in
theorem ggX5_alarms_X0_countSounding : GoodIn wsX5_alarms wsX0_countSounding := goodIn_ca (goodIn_r _ [13, 14, 15, 16, 17, 12, 18, 19, 20, 21, 22, 23, 24, 25, 26, 27, 28, 29, 30, 38, 39, 40] (by decide +kernel) (by decide +kernel)) (goodIn_sub (fun _ h => List.mem_cons_of_mem _ (List.mem_append_right _ h)) (by decide +kernel))
set_option maxRecDepth 20000 in
theorem gX5_alarms_X0_countSounding : GoodIn wsX5_alarms (wsV RX5 119 RX0 yX0_countSounding wsX0_countSounding) := goodIn_app (goodIn_of _ (by decide +kernel)) ggX5_alarms_X0_countSounding
theorem dX5_alarms_0 : decode cX5_alarms 0 = .ok (.iload_n 1, 1) := by decide +kernel
theorem dX5_alarms_1 : decode cX5_alarms 1 = .ok (.invokestatic 60, 3) := by decide +kernel
theorem dX5_alarms_4 : decode cX5_alarms 4 = .ok (.aload_n 0, 1) := by decide +kernel
theorem dX5_alarms_5 : decode cX5_alarms 5 = .ok (.getfield 23, 3) := by decide +kernel
theorem dX5_alarms_8 : decode cX5_alarms 8 = .ok (.iload_n 1, 1) := by decide +kernel
theorem dX5_alarms_9 : decode cX5_alarms 9 = .ok (.aload_n 0, 1) := by decide +kernel
theorem dX5_alarms_10 : decode cX5_alarms 10 = .ok (.getfield 81, 3) := by decide +kernel
theorem dX5_alarms_13 : decode cX5_alarms 13 = .ok (.invokevirtual 119, 3) := by decide +kernel
theorem dX5_alarms_16 : decode cX5_alarms 16 = .ok (.ireturn, 1) := by decide +kernel
set_option maxRecDepth 20000 in
theorem ggX5_top_X0_topLine : GoodIn wsX5_top wsX0_topLine := goodIn_ca (goodIn_r _ [9, 10, 11, 12, 8, 13, 14, 15, 16, 17, 18, 19, 20, 21, 22, 23, 24, 25, 26, 27, 28, 29, 30, 31, 32, 33, 34, 35, 43, 44, 45] (by decide +kernel) (by decide +kernel)) (goodIn_sub (fun _ h => List.mem_cons_of_mem _ (List.mem_append_right _ h)) (by decide +kernel))
set_option maxRecDepth 20000 in
theorem gX5_top_X0_topLine : GoodIn wsX5_top (wsV RX5 122 RX0 yX0_topLine wsX0_topLine) := goodIn_app (goodIn_of _ (by decide +kernel)) ggX5_top_X0_topLine
theorem dX5_top_0 : decode cX5_top 0 = .ok (.aload_n 0, 1) := by decide +kernel
theorem dX5_top_1 : decode cX5_top 1 = .ok (.getfield 23, 3) := by decide +kernel
theorem dX5_top_4 : decode cX5_top 4 = .ok (.aload_n 0, 1) := by decide +kernel
theorem dX5_top_5 : decode cX5_top 5 = .ok (.getfield 81, 3) := by decide +kernel
theorem dX5_top_8 : decode cX5_top 8 = .ok (.invokevirtual 122, 3) := by decide +kernel
theorem dX5_top_11 : decode cX5_top 11 = .ok (.istore_n 1, 1) := by decide +kernel
theorem dX5_top_12 : decode cX5_top 12 = .ok (.iload_n 1, 1) := by decide +kernel
theorem dX5_top_13 : decode cX5_top 13 = .ok (.iconst (-1), 1) := by decide +kernel
theorem dX5_top_14 : decode cX5_top 14 = .ok (.if_icmp .ne 13, 3) := by decide +kernel
theorem dX5_top_17 : decode cX5_top 17 = .ok (.new 125, 3) := by decide +kernel
theorem dX5_top_20 : decode cX5_top 20 = .ok (.dup, 1) := by decide +kernel
theorem dX5_top_21 : decode cX5_top 21 = .ok (.ldc 127, 2) := by decide +kernel
theorem dX5_top_23 : decode cX5_top 23 = .ok (.invokespecial 129, 3) := by decide +kernel
theorem dX5_top_26 : decode cX5_top 26 = .ok (.athrow, 1) := by decide +kernel
theorem dX5_top_27 : decode cX5_top 27 = .ok (.iload_n 1, 1) := by decide +kernel
theorem dX5_top_28 : decode cX5_top 28 = .ok (.ireturn, 1) := by decide +kernel
set_option maxRecDepth 20000 in
theorem ggX5_addProcedure_X4_isFull : GoodIn wsX5_addProcedure wsX4_isFull := goodIn_r _ [8, 9, 21, 22, 23, 24, 25, 26, 27, 28, 29, 30] (by decide +kernel) (by decide +kernel)
set_option maxRecDepth 20000 in
theorem gX5_addProcedure_X4_isFull : GoodIn wsX5_addProcedure (wsV RX5 130 RX4 yX4_isFull wsX4_isFull) := goodIn_app (goodIn_of _ (by decide +kernel)) ggX5_addProcedure_X4_isFull
set_option maxRecDepth 20000 in
theorem ggX5_addProcedure_X4_append : GoodIn wsX5_addProcedure wsX4_append := goodIn_r _ [13, 9, 21, 22, 23, 24, 25, 26, 27, 28, 29, 30] (by decide +kernel) (by decide +kernel)
set_option maxRecDepth 20000 in
theorem gX5_addProcedure_X4_append : GoodIn wsX5_addProcedure (wsV RX5 136 RX4 yX4_append wsX4_append) := goodIn_app (goodIn_of _ (by decide +kernel)) ggX5_addProcedure_X4_append
theorem dX5_addProcedure_0 : decode cX5_addProcedure 0 = .ok (.aload_n 0, 1) := by decide +kernel
theorem dX5_addProcedure_1 : decode cX5_addProcedure 1 = .ok (.getfield 30, 3) := by decide +kernel
theorem dX5_addProcedure_4 : decode cX5_addProcedure 4 = .ok (.invokevirtual 130, 3) := by decide +kernel
theorem dX5_addProcedure_7 : decode cX5_addProcedure 7 = .ok (.ifCond .eq 13, 3) := by decide +kernel
theorem dX5_addProcedure_10 : decode cX5_addProcedure 10 = .ok (.new 71, 3) := by decide +kernel
theorem dX5_addProcedure_13 : decode cX5_addProcedure 13 = .ok (.dup, 1) := by decide +kernel
theorem dX5_addProcedure_14 : decode cX5_addProcedure 14 = .ok (.ldc 134, 2) := by decide +kernel
theorem dX5_addProcedure_16 : decode cX5_addProcedure 16 = .ok (.invokespecial 75, 3) := by decide +kernel
theorem dX5_addProcedure_19 : decode cX5_addProcedure 19 = .ok (.athrow, 1) := by decide +kernel
theorem dX5_addProcedure_20 : decode cX5_addProcedure 20 = .ok (.aload_n 0, 1) := by decide +kernel
theorem dX5_addProcedure_21 : decode cX5_addProcedure 21 = .ok (.getfield 30, 3) := by decide +kernel
theorem dX5_addProcedure_24 : decode cX5_addProcedure 24 = .ok (.invokevirtual 136, 3) := by decide +kernel
theorem dX5_addProcedure_27 : decode cX5_addProcedure 27 = .ok (.ireturn, 1) := by decide +kernel
set_option maxRecDepth 20000 in
theorem ggX5_addStep_X5_checkProcedure : GoodIn wsX5_addStep wsX5_checkProcedure := goodIn_ca (goodIn_r _ [8, 9, 10, 3, 11, 12, 13, 14, 15, 16, 62, 63, 64, 65, 66, 67, 68, 69, 70, 71, 72, 73, 74, 75, 76, 77, 78] (by decide +kernel) (by decide +kernel)) (goodIn_sub (fun _ h => List.mem_cons_of_mem _ (List.mem_append_left _ (List.mem_append_left _ (List.mem_append_left _ (List.mem_append_right _ h))))) (by decide +kernel))
set_option maxRecDepth 20000 in
theorem gX5_addStep_X5_checkProcedure : GoodIn wsX5_addStep (wsV RX5 140 RX5 yX5_checkProcedure wsX5_checkProcedure) := goodIn_app (goodIn_of _ (by decide +kernel)) ggX5_addStep_X5_checkProcedure
set_option maxRecDepth 20000 in
theorem ggX5_addStep_X5_checkUnit : GoodIn wsX5_addStep wsX5_checkUnit := goodIn_ca (goodIn_r _ [19, 20, 21, 22, 23, 7, 24] (by decide +kernel) (by decide +kernel)) (goodIn_sub (fun _ h => List.mem_cons_of_mem _ (List.mem_append_left _ (List.mem_append_left _ (List.mem_append_right _ h)))) (by decide +kernel))
set_option maxRecDepth 20000 in
theorem gX5_addStep_X5_checkUnit : GoodIn wsX5_addStep (va_wsS RX5 48 yX5_checkUnit wsX5_checkUnit) := goodIn_app (goodIn_of _ (by decide +kernel)) ggX5_addStep_X5_checkUnit
set_option maxRecDepth 20000 in
theorem ggX5_addStep_X5_checkState : GoodIn wsX5_addStep wsX5_checkState := goodIn_ca (goodIn_r _ [27, 28, 29] (by decide +kernel) (by decide +kernel)) (goodIn_sub (fun _ h => List.mem_cons_of_mem _ (List.mem_append_left _ (List.mem_append_right _ h))) (by decide +kernel))
set_option maxRecDepth 20000 in
theorem gX5_addStep_X5_checkState : GoodIn wsX5_addStep (va_wsS RX5 143 yX5_checkState wsX5_checkState) := goodIn_app (goodIn_of _ (by decide +kernel)) ggX5_addStep_X5_checkState
set_option maxRecDepth 20000 in
theorem ggX5_addStep_X4_stepCount : GoodIn wsX5_addStep wsX4_stepCount := goodIn_ca (goodIn_r _ [33, 34, 35, 12, 13, 14, 15, 16, 69, 70, 71, 72, 73, 74, 75, 76, 77, 78] (by decide +kernel) (by decide +kernel)) (goodIn_sub (fun _ h => List.mem_cons_of_mem _ (List.mem_append_right _ h)) (by decide +kernel))
set_option maxRecDepth 20000 in
theorem gX5_addStep_X4_stepCount : GoodIn wsX5_addStep (wsV RX5 146 RX4 yX4_stepCount wsX4_stepCount) := goodIn_app (goodIn_of _ (by decide +kernel)) ggX5_addStep_X4_stepCount
set_option maxRecDepth 20000 in
theorem ggX5_addStep_X4_appendStep : GoodIn wsX5_addStep wsX4_appendStep := goodIn_ca (goodIn_r _ [39, 34, 40, 41, 35, 12, 13, 14, 15, 16, 42, 7, 43, 44, 45, 46, 69, 70, 71, 72, 73, 74, 75, 76, 77, 78] (by decide +kernel) (by decide +kernel)) (goodIn_sub (fun _ h => List.mem_cons_of_mem _ (List.mem_append_right _ h)) (by decide +kernel))
set_option maxRecDepth 20000 in
theorem gX5_addStep_X4_appendStep : GoodIn wsX5_addStep (wsV RX5 151 RX4 yX4_appendStep wsX4_appendStep) := goodIn_app (goodIn_of _ (by decide +kernel)) ggX5_addStep_X4_appendStep
set_option maxRecDepth 20000 in
theorem ggX5_addStep_X4_setNeed : GoodIn wsX5_addStep wsX4_setNeed := goodIn_ca (goodIn_r _ [50, 51, 52, 44, 45, 14, 46, 69, 70, 71, 72, 73, 74, 75, 76, 77, 78] (by decide +kernel) (by decide +kernel)) (goodIn_sub (fun _ h => List.mem_cons_of_mem _ (List.mem_append_right _ h)) (by decide +kernel))
set_option maxRecDepth 20000 in
theorem gX5_addStep_X4_setNeed : GoodIn wsX5_addStep (wsV RX5 154 RX4 yX4_setNeed wsX4_setNeed) := goodIn_app (goodIn_of _ (by decide +kernel)) ggX5_addStep_X4_setNeed
set_option maxRecDepth 20000 in
theorem ggX5_addStep_X4_setEffect : GoodIn wsX5_addStep wsX4_setEffect := goodIn_ca (goodIn_r _ [56, 57, 58, 44, 45, 14, 46, 69, 70, 71, 72, 73, 74, 75, 76, 77, 78] (by decide +kernel) (by decide +kernel)) (goodIn_sub (fun _ h => List.mem_cons_of_mem _ (List.mem_append_right _ h)) (by decide +kernel))
set_option maxRecDepth 20000 in
theorem gX5_addStep_X4_setEffect : GoodIn wsX5_addStep (wsV RX5 157 RX4 yX4_setEffect wsX4_setEffect) := goodIn_app (goodIn_of _ (by decide +kernel)) ggX5_addStep_X4_setEffect
set_option maxRecDepth 20000 in
theorem ggX5_addStep_X5_stepNumber : GoodIn wsX5_addStep wsX5_stepNumber := goodIn_r _ [61] (by decide +kernel) (by decide +kernel)
set_option maxRecDepth 20000 in
theorem gX5_addStep_X5_stepNumber : GoodIn wsX5_addStep (va_wsS RX5 160 yX5_stepNumber wsX5_stepNumber) := goodIn_app (goodIn_of _ (by decide +kernel)) ggX5_addStep_X5_stepNumber
theorem dX5_addStep_0 : decode cX5_addStep 0 = .ok (.aload_n 0, 1) := by decide +kernel
theorem dX5_addStep_1 : decode cX5_addStep 1 = .ok (.iload_n 1, 1) := by decide +kernel
theorem dX5_addStep_2 : decode cX5_addStep 2 = .ok (.invokevirtual 140, 3) := by decide +kernel
theorem dX5_addStep_5 : decode cX5_addStep 5 = .ok (.iload_n 2, 1) := by decide +kernel
theorem dX5_addStep_6 : decode cX5_addStep 6 = .ok (.invokestatic 48, 3) := by decide +kernel
theorem dX5_addStep_9 : decode cX5_addStep 9 = .ok (.iload 4, 2) := by decide +kernel
theorem dX5_addStep_11 : decode cX5_addStep 11 = .ok (.invokestatic 48, 3) := by decide +kernel
theorem dX5_addStep_14 : decode cX5_addStep 14 = .ok (.iload_n 3, 1) := by decide +kernel
theorem dX5_addStep_15 : decode cX5_addStep 15 = .ok (.invokestatic 143, 3) := by decide +kernel
theorem dX5_addStep_18 : decode cX5_addStep 18 = .ok (.iload 5, 2) := by decide +kernel
theorem dX5_addStep_20 : decode cX5_addStep 20 = .ok (.invokestatic 143, 3) := by decide +kernel
theorem dX5_addStep_23 : decode cX5_addStep 23 = .ok (.aload_n 0, 1) := by decide +kernel
theorem dX5_addStep_24 : decode cX5_addStep 24 = .ok (.getfield 30, 3) := by decide +kernel
theorem dX5_addStep_27 : decode cX5_addStep 27 = .ok (.iload_n 1, 1) := by decide +kernel
theorem dX5_addStep_28 : decode cX5_addStep 28 = .ok (.invokevirtual 146, 3) := by decide +kernel
theorem dX5_addStep_31 : decode cX5_addStep 31 = .ok (.bipush 8, 2) := by decide +kernel
theorem dX5_addStep_33 : decode cX5_addStep 33 = .ok (.if_icmp .lt 13, 3) := by decide +kernel
theorem dX5_addStep_36 : decode cX5_addStep 36 = .ok (.new 71, 3) := by decide +kernel
theorem dX5_addStep_39 : decode cX5_addStep 39 = .ok (.dup, 1) := by decide +kernel
theorem dX5_addStep_40 : decode cX5_addStep 40 = .ok (.ldc 149, 2) := by decide +kernel
theorem dX5_addStep_42 : decode cX5_addStep 42 = .ok (.invokespecial 75, 3) := by decide +kernel
theorem dX5_addStep_45 : decode cX5_addStep 45 = .ok (.athrow, 1) := by decide +kernel
theorem dX5_addStep_46 : decode cX5_addStep 46 = .ok (.aload_n 0, 1) := by decide +kernel
theorem dX5_addStep_47 : decode cX5_addStep 47 = .ok (.getfield 30, 3) := by decide +kernel
theorem dX5_addStep_50 : decode cX5_addStep 50 = .ok (.iload_n 1, 1) := by decide +kernel
theorem dX5_addStep_51 : decode cX5_addStep 51 = .ok (.invokevirtual 151, 3) := by decide +kernel
theorem dX5_addStep_54 : decode cX5_addStep 54 = .ok (.istore 6, 2) := by decide +kernel
theorem dX5_addStep_56 : decode cX5_addStep 56 = .ok (.aload_n 0, 1) := by decide +kernel
theorem dX5_addStep_57 : decode cX5_addStep 57 = .ok (.getfield 30, 3) := by decide +kernel
theorem dX5_addStep_60 : decode cX5_addStep 60 = .ok (.iload 6, 2) := by decide +kernel
theorem dX5_addStep_62 : decode cX5_addStep 62 = .ok (.iload_n 2, 1) := by decide +kernel
theorem dX5_addStep_63 : decode cX5_addStep 63 = .ok (.iload_n 3, 1) := by decide +kernel
theorem dX5_addStep_64 : decode cX5_addStep 64 = .ok (.invokevirtual 154, 3) := by decide +kernel
theorem dX5_addStep_67 : decode cX5_addStep 67 = .ok (.aload_n 0, 1) := by decide +kernel
theorem dX5_addStep_68 : decode cX5_addStep 68 = .ok (.getfield 30, 3) := by decide +kernel
theorem dX5_addStep_71 : decode cX5_addStep 71 = .ok (.iload 6, 2) := by decide +kernel
theorem dX5_addStep_73 : decode cX5_addStep 73 = .ok (.iload 4, 2) := by decide +kernel
theorem dX5_addStep_75 : decode cX5_addStep 75 = .ok (.iload 5, 2) := by decide +kernel
theorem dX5_addStep_77 : decode cX5_addStep 77 = .ok (.invokevirtual 157, 3) := by decide +kernel
theorem dX5_addStep_80 : decode cX5_addStep 80 = .ok (.iload 6, 2) := by decide +kernel
theorem dX5_addStep_82 : decode cX5_addStep 82 = .ok (.invokestatic 160, 3) := by decide +kernel
theorem dX5_addStep_85 : decode cX5_addStep 85 = .ok (.ireturn, 1) := by decide +kernel
set_option maxRecDepth 20000 in
theorem ggX5_done_X5_checkProcedure : GoodIn wsX5_done wsX5_checkProcedure := goodIn_ca (goodIn_r _ [6, 7, 8, 1, 9, 10, 11, 12, 13, 14, 21, 22, 23, 24, 25, 26, 27, 28, 29, 30, 31, 32, 33, 34, 35, 36, 37] (by decide +kernel) (by decide +kernel)) (goodIn_sub (fun _ h => List.mem_cons_of_mem _ (List.mem_append_left _ (List.mem_append_right _ h))) (by decide +kernel))
set_option maxRecDepth 20000 in
theorem gX5_done_X5_checkProcedure : GoodIn wsX5_done (wsV RX5 140 RX5 yX5_checkProcedure wsX5_checkProcedure) := goodIn_app (goodIn_of _ (by decide +kernel)) ggX5_done_X5_checkProcedure
set_option maxRecDepth 20000 in
theorem ggX5_done_X4_doneCount : GoodIn wsX5_done wsX4_doneCount := goodIn_ca (goodIn_r _ [18, 19, 20, 10, 11, 12, 13, 14, 28, 29, 30, 31, 32, 33, 34, 35, 36, 37] (by decide +kernel) (by decide +kernel)) (goodIn_sub (fun _ h => List.mem_cons_of_mem _ (List.mem_append_right _ h)) (by decide +kernel))
set_option maxRecDepth 20000 in
theorem gX5_done_X4_doneCount : GoodIn wsX5_done (wsV RX5 163 RX4 yX4_doneCount wsX4_doneCount) := goodIn_app (goodIn_of _ (by decide +kernel)) ggX5_done_X4_doneCount
theorem dX5_done_0 : decode cX5_done 0 = .ok (.aload_n 0, 1) := by decide +kernel
theorem dX5_done_1 : decode cX5_done 1 = .ok (.iload_n 1, 1) := by decide +kernel
theorem dX5_done_2 : decode cX5_done 2 = .ok (.invokevirtual 140, 3) := by decide +kernel
theorem dX5_done_5 : decode cX5_done 5 = .ok (.aload_n 0, 1) := by decide +kernel
theorem dX5_done_6 : decode cX5_done 6 = .ok (.getfield 30, 3) := by decide +kernel
theorem dX5_done_9 : decode cX5_done 9 = .ok (.iload_n 1, 1) := by decide +kernel
theorem dX5_done_10 : decode cX5_done 10 = .ok (.invokevirtual 163, 3) := by decide +kernel
theorem dX5_done_13 : decode cX5_done 13 = .ok (.ireturn, 1) := by decide +kernel
set_option maxRecDepth 20000 in
theorem ggX5_reason_X5_checkProcedure : GoodIn wsX5_reason wsX5_checkProcedure := goodIn_ca (goodIn_r _ [5, 6, 7, 8, 9, 10, 11, 12, 13, 14, 96, 97, 98, 99, 100, 101, 102, 103, 104, 105, 106, 107, 108, 109, 110, 111, 112] (by decide +kernel) (by decide +kernel)) (goodIn_sub (fun _ h => List.mem_cons_of_mem _ (List.mem_append_left _ (List.mem_append_right _ h))) (by decide +kernel))
set_option maxRecDepth 20000 in
theorem gX5_reason_X5_checkProcedure : GoodIn wsX5_reason (wsV RX5 140 RX5 yX5_checkProcedure wsX5_checkProcedure) := goodIn_app (goodIn_of _ (by decide +kernel)) ggX5_reason_X5_checkProcedure
set_option maxRecDepth 20000 in
theorem ggX5_reason_X5_reasonOf : GoodIn wsX5_reason wsX5_reasonOf := goodIn_ca (goodIn_r _ [18, 8, 19, 20, 21, 22, 23, 24, 12, 25, 26, 27, 28, 29, 30, 31, 10, 11, 13, 14, 32, 33, 34, 35, 36, 37, 4, 38, 39, 40, 41, 42, 43, 44, 45, 46, 47, 48, 49, 50, 51, 52, 53, 54, 55, 56, 57, 58, 59, 60, 61, 62, 63, 64, 65, 66, 67, 68, 69, 70, 71, 72, 73, 74, 75, 76, 77, 78, 79, 80, 81, 82, 83, 84, 85, 86, 87, 88, 89, 90, 91, 92, 93, 94, 95, 96, 97, 98, 99, 100, 101, 102, 103, 104, 105, 106, 107, 108, 109, 110, 111, 112, 113, 114, 115, 116, 117, 118, 119, 120] (by decide +kernel) (by decide +kernel)) (goodIn_sub (fun _ h => List.mem_cons_of_mem _ (List.mem_append_right _ h)) (by decide +kernel))
set_option maxRecDepth 20000 in
theorem gX5_reason_X5_reasonOf : GoodIn wsX5_reason (wsV RX5 166 RX5 yX5_reasonOf wsX5_reasonOf) := goodIn_app (goodIn_of _ (by decide +kernel)) ggX5_reason_X5_reasonOf
theorem dX5_reason_0 : decode cX5_reason 0 = .ok (.aload_n 0, 1) := by decide +kernel
theorem dX5_reason_1 : decode cX5_reason 1 = .ok (.iload_n 1, 1) := by decide +kernel
theorem dX5_reason_2 : decode cX5_reason 2 = .ok (.invokevirtual 140, 3) := by decide +kernel
theorem dX5_reason_5 : decode cX5_reason 5 = .ok (.aload_n 0, 1) := by decide +kernel
theorem dX5_reason_6 : decode cX5_reason 6 = .ok (.iload_n 1, 1) := by decide +kernel
theorem dX5_reason_7 : decode cX5_reason 7 = .ok (.invokevirtual 166, 3) := by decide +kernel
theorem dX5_reason_10 : decode cX5_reason 10 = .ok (.ireturn, 1) := by decide +kernel
set_option maxRecDepth 20000 in
theorem ggX5_barredBy_X5_checkProcedure : GoodIn wsX5_barredBy wsX5_checkProcedure := goodIn_ca (goodIn_r _ [9, 1, 2, 3, 10, 11, 12, 13, 14, 15, 63, 64, 65, 66, 67, 68, 69, 70, 71, 72, 73, 74, 75, 76, 77, 78, 79] (by decide +kernel) (by decide +kernel)) (goodIn_sub (fun _ h => List.mem_cons_of_mem _ (List.mem_append_left _ (List.mem_append_right _ h))) (by decide +kernel))
set_option maxRecDepth 20000 in
theorem gX5_barredBy_X5_checkProcedure : GoodIn wsX5_barredBy (wsV RX5 140 RX5 yX5_checkProcedure wsX5_checkProcedure) := goodIn_app (goodIn_of _ (by decide +kernel)) ggX5_barredBy_X5_checkProcedure
set_option maxRecDepth 20000 in
theorem ggX5_barredBy_X4_nextPlace : GoodIn wsX5_barredBy wsX4_nextPlace := goodIn_ca (goodIn_r _ [19, 20, 21, 22, 13, 23, 24, 25, 11, 12, 14, 15, 26, 27, 28, 29, 30, 31, 8, 32, 70, 71, 72, 73, 74, 75, 76, 77, 78, 79] (by decide +kernel) (by decide +kernel)) (goodIn_sub (fun _ h => List.mem_cons_of_mem _ (List.mem_append_right _ h)) (by decide +kernel))
set_option maxRecDepth 20000 in
theorem gX5_barredBy_X4_nextPlace : GoodIn wsX5_barredBy (wsV RX5 170 RX4 yX4_nextPlace wsX4_nextPlace) := goodIn_app (goodIn_of _ (by decide +kernel)) ggX5_barredBy_X4_nextPlace
set_option maxRecDepth 20000 in
theorem ggX5_barredBy_X4_unitOf : GoodIn wsX5_barredBy wsX4_unitOf := goodIn_ca (goodIn_r _ [36, 37, 38, 39, 13, 40, 70, 71, 72, 73, 74, 75, 76, 77, 78, 79] (by decide +kernel) (by decide +kernel)) (goodIn_sub (fun _ h => List.mem_cons_of_mem _ (List.mem_append_right _ h)) (by decide +kernel))
set_option maxRecDepth 20000 in
theorem gX5_barredBy_X4_unitOf : GoodIn wsX5_barredBy (wsV RX5 175 RX4 yX4_unitOf wsX4_unitOf) := goodIn_app (goodIn_of _ (by decide +kernel)) ggX5_barredBy_X4_unitOf
set_option maxRecDepth 20000 in
theorem ggX5_barredBy_X5_unitBit : GoodIn wsX5_barredBy wsX5_unitBit := goodIn_r _ [43, 44, 45, 8, 46] (by decide +kernel) (by decide +kernel)
set_option maxRecDepth 20000 in
theorem gX5_barredBy_X5_unitBit : GoodIn wsX5_barredBy (va_wsS RX5 178 yX5_unitBit wsX5_unitBit) := goodIn_app (goodIn_of _ (by decide +kernel)) ggX5_barredBy_X5_unitBit
set_option maxRecDepth 20000 in
theorem ggX5_barredBy_X3_firstOpenWith : GoodIn wsX5_barredBy wsX3_firstOpenWith := goodIn_ca (goodIn_r _ [51, 52, 53, 54, 55, 50, 56, 57, 58, 59, 60, 61, 62, 80, 81, 82, 83] (by decide +kernel) (by decide +kernel)) (goodIn_sub (fun _ h => List.mem_cons_of_mem _ (List.mem_append_right _ h)) (by decide +kernel))
set_option maxRecDepth 20000 in
theorem gX5_barredBy_X3_firstOpenWith : GoodIn wsX5_barredBy (wsV RX5 181 RX3 yX3_firstOpenWith wsX3_firstOpenWith) := goodIn_app (goodIn_of _ (by decide +kernel)) ggX5_barredBy_X3_firstOpenWith
theorem dX5_barredBy_0 : decode cX5_barredBy 0 = .ok (.aload_n 0, 1) := by decide +kernel
theorem dX5_barredBy_1 : decode cX5_barredBy 1 = .ok (.iload_n 1, 1) := by decide +kernel
theorem dX5_barredBy_2 : decode cX5_barredBy 2 = .ok (.invokevirtual 140, 3) := by decide +kernel
theorem dX5_barredBy_5 : decode cX5_barredBy 5 = .ok (.aload_n 0, 1) := by decide +kernel
theorem dX5_barredBy_6 : decode cX5_barredBy 6 = .ok (.getfield 30, 3) := by decide +kernel
theorem dX5_barredBy_9 : decode cX5_barredBy 9 = .ok (.iload_n 1, 1) := by decide +kernel
theorem dX5_barredBy_10 : decode cX5_barredBy 10 = .ok (.invokevirtual 170, 3) := by decide +kernel
theorem dX5_barredBy_13 : decode cX5_barredBy 13 = .ok (.istore_n 2, 1) := by decide +kernel
theorem dX5_barredBy_14 : decode cX5_barredBy 14 = .ok (.iload_n 2, 1) := by decide +kernel
theorem dX5_barredBy_15 : decode cX5_barredBy 15 = .ok (.iconst (-1), 1) := by decide +kernel
theorem dX5_barredBy_16 : decode cX5_barredBy 16 = .ok (.if_icmp .ne 13, 3) := by decide +kernel
theorem dX5_barredBy_19 : decode cX5_barredBy 19 = .ok (.new 125, 3) := by decide +kernel
theorem dX5_barredBy_22 : decode cX5_barredBy 22 = .ok (.dup, 1) := by decide +kernel
theorem dX5_barredBy_23 : decode cX5_barredBy 23 = .ok (.ldc 173, 2) := by decide +kernel
theorem dX5_barredBy_25 : decode cX5_barredBy 25 = .ok (.invokespecial 129, 3) := by decide +kernel
theorem dX5_barredBy_28 : decode cX5_barredBy 28 = .ok (.athrow, 1) := by decide +kernel
theorem dX5_barredBy_29 : decode cX5_barredBy 29 = .ok (.aload_n 0, 1) := by decide +kernel
theorem dX5_barredBy_30 : decode cX5_barredBy 30 = .ok (.getfield 37, 3) := by decide +kernel
theorem dX5_barredBy_33 : decode cX5_barredBy 33 = .ok (.aload_n 0, 1) := by decide +kernel
theorem dX5_barredBy_34 : decode cX5_barredBy 34 = .ok (.getfield 30, 3) := by decide +kernel
theorem dX5_barredBy_37 : decode cX5_barredBy 37 = .ok (.iload_n 2, 1) := by decide +kernel
theorem dX5_barredBy_38 : decode cX5_barredBy 38 = .ok (.invokevirtual 175, 3) := by decide +kernel
theorem dX5_barredBy_41 : decode cX5_barredBy 41 = .ok (.invokestatic 178, 3) := by decide +kernel
theorem dX5_barredBy_44 : decode cX5_barredBy 44 = .ok (.invokevirtual 181, 3) := by decide +kernel
theorem dX5_barredBy_47 : decode cX5_barredBy 47 = .ok (.istore_n 3, 1) := by decide +kernel
theorem dX5_barredBy_48 : decode cX5_barredBy 48 = .ok (.iload_n 3, 1) := by decide +kernel
theorem dX5_barredBy_49 : decode cX5_barredBy 49 = .ok (.iconst (-1), 1) := by decide +kernel
theorem dX5_barredBy_50 : decode cX5_barredBy 50 = .ok (.if_icmp .ne 13, 3) := by decide +kernel
theorem dX5_barredBy_53 : decode cX5_barredBy 53 = .ok (.new 125, 3) := by decide +kernel
theorem dX5_barredBy_56 : decode cX5_barredBy 56 = .ok (.dup, 1) := by decide +kernel
theorem dX5_barredBy_57 : decode cX5_barredBy 57 = .ok (.ldc 184, 2) := by decide +kernel
theorem dX5_barredBy_59 : decode cX5_barredBy 59 = .ok (.invokespecial 129, 3) := by decide +kernel
theorem dX5_barredBy_62 : decode cX5_barredBy 62 = .ok (.athrow, 1) := by decide +kernel
theorem dX5_barredBy_63 : decode cX5_barredBy 63 = .ok (.iload_n 3, 1) := by decide +kernel
theorem dX5_barredBy_64 : decode cX5_barredBy 64 = .ok (.ireturn, 1) := by decide +kernel
set_option maxRecDepth 20000 in
theorem ggX5_step_X5_checkProcedure : GoodIn wsX5_step wsX5_checkProcedure := goodIn_ca (goodIn_r _ [9, 10, 11, 3, 12, 13, 14, 15, 16, 17, 161, 162, 163, 164, 165, 166, 167, 168, 169, 170, 171, 172, 173, 174, 175, 176, 177] (by decide +kernel) (by decide +kernel)) (goodIn_sub (fun _ h => List.mem_cons_of_mem _ (List.mem_append_left _ (List.mem_append_right _ h))) (by decide +kernel))
set_option maxRecDepth 20000 in
theorem gX5_step_X5_checkProcedure : GoodIn wsX5_step (wsV RX5 140 RX5 yX5_checkProcedure wsX5_checkProcedure) := goodIn_app (goodIn_of _ (by decide +kernel)) ggX5_step_X5_checkProcedure
set_option maxRecDepth 20000 in
theorem ggX5_step_X5_reasonOf : GoodIn wsX5_step wsX5_reasonOf := goodIn_ca (goodIn_r _ [21, 3, 22, 4, 23, 24, 25, 26, 15, 27, 28, 29, 30, 31, 32, 33, 13, 14, 16, 17, 34, 35, 36, 37, 38, 39, 8, 40, 41, 42, 43, 44, 45, 46, 47, 48, 49, 50, 51, 52, 53, 54, 55, 56, 57, 58, 59, 60, 61, 62, 63, 64, 65, 66, 67, 68, 69, 70, 71, 72, 73, 74, 75, 76, 77, 78, 79, 80, 81, 82, 83, 84, 85, 86, 87, 88, 89, 90, 91, 92, 93, 94, 95, 96, 97, 161, 162, 163, 164, 165, 166, 167, 168, 169, 170, 171, 172, 173, 174, 175, 176, 177, 178, 179, 180, 181, 182, 183, 184, 185] (by decide +kernel) (by decide +kernel)) (goodIn_sub (fun _ h => List.mem_cons_of_mem _ (List.mem_append_right _ h)) (by decide +kernel))
set_option maxRecDepth 20000 in
theorem gX5_step_X5_reasonOf : GoodIn wsX5_step (wsV RX5 166 RX5 yX5_reasonOf wsX5_reasonOf) := goodIn_app (goodIn_of _ (by decide +kernel)) ggX5_step_X5_reasonOf
set_option maxRecDepth 20000 in
theorem ggX5_step_X4_nextPlace : GoodIn wsX5_step wsX4_nextPlace := goodIn_ca (goodIn_r _ [27, 28, 29, 30, 15, 31, 32, 33, 13, 14, 16, 17, 34, 35, 36, 37, 38, 39, 8, 40, 168, 169, 170, 171, 172, 173, 174, 175, 176, 177] (by decide +kernel) (by decide +kernel)) (goodIn_sub (fun _ h => List.mem_cons_of_mem _ (List.mem_append_right _ h)) (by decide +kernel))
set_option maxRecDepth 20000 in
theorem gX5_step_X4_nextPlace : GoodIn wsX5_step (wsV RX5 170 RX4 yX4_nextPlace wsX4_nextPlace) := goodIn_app (goodIn_of _ (by decide +kernel)) ggX5_step_X4_nextPlace
set_option maxRecDepth 20000 in
theorem ggX5_step_X4_unitOf : GoodIn wsX5_step wsX4_unitOf := goodIn_ca (goodIn_r _ [56, 57, 58, 59, 15, 60, 168, 169, 170, 171, 172, 173, 174, 175, 176, 177] (by decide +kernel) (by decide +kernel)) (goodIn_sub (fun _ h => List.mem_cons_of_mem _ (List.mem_append_right _ h)) (by decide +kernel))
set_option maxRecDepth 20000 in
theorem gX5_step_X4_unitOf : GoodIn wsX5_step (wsV RX5 175 RX4 yX4_unitOf wsX4_unitOf) := goodIn_app (goodIn_of _ (by decide +kernel)) ggX5_step_X4_unitOf
set_option maxRecDepth 20000 in
theorem ggX5_step_X5_stateOf : GoodIn wsX5_step wsX5_stateOf := goodIn_ca (goodIn_r _ [91, 92, 64, 65, 8, 66, 161, 162, 163, 164, 165, 166, 167] (by decide +kernel) (by decide +kernel)) (goodIn_sub (fun _ h => List.mem_cons_of_mem _ (List.mem_append_right _ h)) (by decide +kernel))
set_option maxRecDepth 20000 in
theorem gX5_step_X5_stateOf : GoodIn wsX5_step (wsV RX5 52 RX5 yX5_stateOf wsX5_stateOf) := goodIn_app (goodIn_of _ (by decide +kernel)) ggX5_step_X5_stateOf
set_option maxRecDepth 20000 in
theorem ggX5_step_X4_markTaken : GoodIn wsX5_step wsX4_markTaken := goodIn_ca (goodIn_r _ [101, 32, 102, 103, 104, 25, 26, 15, 27, 28, 29, 30, 31, 33, 13, 14, 16, 17, 34, 35, 36, 37, 38, 39, 8, 40, 58, 59, 60, 168, 169, 170, 171, 172, 173, 174, 175, 176, 177] (by decide +kernel) (by decide +kernel)) (goodIn_sub (fun _ h => List.mem_cons_of_mem _ (List.mem_append_right _ h)) (by decide +kernel))
set_option maxRecDepth 20000 in
theorem gX5_step_X4_markTaken : GoodIn wsX5_step (wsV RX5 188 RX4 yX4_markTaken wsX4_markTaken) := goodIn_app (goodIn_of _ (by decide +kernel)) ggX5_step_X4_markTaken
set_option maxRecDepth 20000 in
theorem ggX5_step_X4_newStateOf : GoodIn wsX5_step wsX4_newStateOf := goodIn_ca (goodIn_r _ [108, 109, 58, 59, 15, 60, 168, 169, 170, 171, 172, 173, 174, 175, 176, 177] (by decide +kernel) (by decide +kernel)) (goodIn_sub (fun _ h => List.mem_cons_of_mem _ (List.mem_append_right _ h)) (by decide +kernel))
set_option maxRecDepth 20000 in
theorem gX5_step_X4_newStateOf : GoodIn wsX5_step (wsV RX5 191 RX4 yX4_newStateOf wsX4_newStateOf) := goodIn_app (goodIn_of _ (by decide +kernel)) ggX5_step_X4_newStateOf
set_option maxRecDepth 20000 in
theorem ggX5_step_X5_setState : GoodIn wsX5_step wsX5_setState := goodIn_ca (goodIn_r _ [113, 92, 64, 65, 8, 66, 161, 162, 163, 164, 165, 166, 167] (by decide +kernel) (by decide +kernel)) (goodIn_sub (fun _ h => List.mem_cons_of_mem _ (List.mem_append_right _ h)) (by decide +kernel))
set_option maxRecDepth 20000 in
theorem gX5_step_X5_setState : GoodIn wsX5_step (wsV RX5 194 RX5 yX5_setState wsX5_setState) := goodIn_app (goodIn_of _ (by decide +kernel)) ggX5_step_X5_setState
set_option maxRecDepth 20000 in
theorem ggX5_step_X5_closeUndoneLine : GoodIn wsX5_step wsX5_closeUndoneLine := goodIn_ca (goodIn_r _ [117, 3, 118, 119, 120, 121, 15, 122, 123, 124, 125, 126, 127, 58, 59, 60, 128, 8, 129, 34, 35, 36, 37, 38, 33, 13, 14, 16, 17, 130, 131, 132, 133, 134, 135, 136, 137, 138, 139, 140, 141, 142, 143, 144, 145, 146, 147, 148, 149, 150, 151, 152, 153, 154, 155, 156, 157, 158, 159, 161, 162, 163, 164, 165, 166, 167, 168, 169, 170, 171, 172, 173, 174, 175, 176, 177, 186, 187, 188, 189, 190, 191, 192, 193, 194] (by decide +kernel) (by decide +kernel)) (goodIn_sub (fun _ h => List.mem_cons_of_mem _ (List.mem_append_right _ h)) (by decide +kernel))
set_option maxRecDepth 20000 in
theorem gX5_step_X5_closeUndoneLine : GoodIn wsX5_step (wsV RX5 197 RX5 yX5_closeUndoneLine wsX5_closeUndoneLine) := goodIn_app (goodIn_of _ (by decide +kernel)) ggX5_step_X5_closeUndoneLine
set_option maxRecDepth 20000 in
theorem ggX5_step_X5_stepNumber : GoodIn wsX5_step wsX5_stepNumber := goodIn_r _ [129] (by decide +kernel) (by decide +kernel)
set_option maxRecDepth 20000 in
theorem gX5_step_X5_stepNumber : GoodIn wsX5_step (va_wsS RX5 160 yX5_stepNumber wsX5_stepNumber) := goodIn_app (goodIn_of _ (by decide +kernel)) ggX5_step_X5_stepNumber
theorem dX5_step_0 : decode cX5_step 0 = .ok (.aload_n 0, 1) := by decide +kernel
theorem dX5_step_1 : decode cX5_step 1 = .ok (.iload_n 1, 1) := by decide +kernel
theorem dX5_step_2 : decode cX5_step 2 = .ok (.invokevirtual 140, 3) := by decide +kernel
theorem dX5_step_5 : decode cX5_step 5 = .ok (.aload_n 0, 1) := by decide +kernel
theorem dX5_step_6 : decode cX5_step 6 = .ok (.iload_n 1, 1) := by decide +kernel
theorem dX5_step_7 : decode cX5_step 7 = .ok (.invokevirtual 166, 3) := by decide +kernel
theorem dX5_step_10 : decode cX5_step 10 = .ok (.bipush 45, 2) := by decide +kernel
theorem dX5_step_12 : decode cX5_step 12 = .ok (.if_icmp .eq 13, 3) := by decide +kernel
theorem dX5_step_15 : decode cX5_step 15 = .ok (.new 71, 3) := by decide +kernel
theorem dX5_step_18 : decode cX5_step 18 = .ok (.dup, 1) := by decide +kernel
theorem dX5_step_19 : decode cX5_step 19 = .ok (.ldc 186, 2) := by decide +kernel
theorem dX5_step_21 : decode cX5_step 21 = .ok (.invokespecial 75, 3) := by decide +kernel
theorem dX5_step_24 : decode cX5_step 24 = .ok (.athrow, 1) := by decide +kernel
theorem dX5_step_25 : decode cX5_step 25 = .ok (.aload_n 0, 1) := by decide +kernel
theorem dX5_step_26 : decode cX5_step 26 = .ok (.getfield 30, 3) := by decide +kernel
theorem dX5_step_29 : decode cX5_step 29 = .ok (.iload_n 1, 1) := by decide +kernel
theorem dX5_step_30 : decode cX5_step 30 = .ok (.invokevirtual 170, 3) := by decide +kernel
theorem dX5_step_33 : decode cX5_step 33 = .ok (.istore_n 2, 1) := by decide +kernel
theorem dX5_step_34 : decode cX5_step 34 = .ok (.aload_n 0, 1) := by decide +kernel
theorem dX5_step_35 : decode cX5_step 35 = .ok (.getfield 30, 3) := by decide +kernel
theorem dX5_step_38 : decode cX5_step 38 = .ok (.iload_n 2, 1) := by decide +kernel
theorem dX5_step_39 : decode cX5_step 39 = .ok (.invokevirtual 175, 3) := by decide +kernel
theorem dX5_step_42 : decode cX5_step 42 = .ok (.istore_n 3, 1) := by decide +kernel
theorem dX5_step_43 : decode cX5_step 43 = .ok (.aload_n 0, 1) := by decide +kernel
theorem dX5_step_44 : decode cX5_step 44 = .ok (.getfield 30, 3) := by decide +kernel
theorem dX5_step_47 : decode cX5_step 47 = .ok (.iload_n 1, 1) := by decide +kernel
theorem dX5_step_48 : decode cX5_step 48 = .ok (.aload_n 0, 1) := by decide +kernel
theorem dX5_step_49 : decode cX5_step 49 = .ok (.iload_n 3, 1) := by decide +kernel
theorem dX5_step_50 : decode cX5_step 50 = .ok (.invokevirtual 52, 3) := by decide +kernel
theorem dX5_step_53 : decode cX5_step 53 = .ok (.aload_n 0, 1) := by decide +kernel
theorem dX5_step_54 : decode cX5_step 54 = .ok (.getfield 81, 3) := by decide +kernel
theorem dX5_step_57 : decode cX5_step 57 = .ok (.invokevirtual 188, 3) := by decide +kernel
theorem dX5_step_60 : decode cX5_step 60 = .ok (.aload_n 0, 1) := by decide +kernel
theorem dX5_step_61 : decode cX5_step 61 = .ok (.iload_n 3, 1) := by decide +kernel
theorem dX5_step_62 : decode cX5_step 62 = .ok (.aload_n 0, 1) := by decide +kernel
theorem dX5_step_63 : decode cX5_step 63 = .ok (.getfield 30, 3) := by decide +kernel
theorem dX5_step_66 : decode cX5_step 66 = .ok (.iload_n 2, 1) := by decide +kernel
theorem dX5_step_67 : decode cX5_step 67 = .ok (.invokevirtual 191, 3) := by decide +kernel
theorem dX5_step_70 : decode cX5_step 70 = .ok (.invokevirtual 194, 3) := by decide +kernel
theorem dX5_step_73 : decode cX5_step 73 = .ok (.aload_n 0, 1) := by decide +kernel
theorem dX5_step_74 : decode cX5_step 74 = .ok (.iload_n 2, 1) := by decide +kernel
theorem dX5_step_75 : decode cX5_step 75 = .ok (.invokevirtual 197, 3) := by decide +kernel
theorem dX5_step_78 : decode cX5_step 78 = .ok (.pop, 1) := by decide +kernel
theorem dX5_step_79 : decode cX5_step 79 = .ok (.iload_n 2, 1) := by decide +kernel
theorem dX5_step_80 : decode cX5_step 80 = .ok (.invokestatic 160, 3) := by decide +kernel
theorem dX5_step_83 : decode cX5_step 83 = .ok (.ireturn, 1) := by decide +kernel
set_option maxRecDepth 20000 in
theorem ggX5_undo_X5_checkProcedure : GoodIn wsX5_undo wsX5_checkProcedure := goodIn_ca (goodIn_r _ [13, 14, 15, 5, 16, 17, 18, 19, 20, 21, 130, 131, 132, 133, 134, 135, 136, 137, 138, 139, 140, 141, 142, 143, 144, 145, 146] (by decide +kernel) (by decide +kernel)) (goodIn_sub (fun _ h => List.mem_cons_of_mem _ (List.mem_append_left _ (List.mem_append_right _ h))) (by decide +kernel))
set_option maxRecDepth 20000 in
theorem gX5_undo_X5_checkProcedure : GoodIn wsX5_undo (wsV RX5 140 RX5 yX5_checkProcedure wsX5_checkProcedure) := goodIn_app (goodIn_of _ (by decide +kernel)) ggX5_undo_X5_checkProcedure
set_option maxRecDepth 20000 in
theorem ggX5_undo_X4_lastDonePlace : GoodIn wsX5_undo wsX4_lastDonePlace := goodIn_ca (goodIn_r _ [25, 26, 27, 28, 19, 29, 30, 31, 17, 18, 20, 21, 32, 12, 33, 137, 138, 139, 140, 141, 142, 143, 144, 145, 146] (by decide +kernel) (by decide +kernel)) (goodIn_sub (fun _ h => List.mem_cons_of_mem _ (List.mem_append_right _ h)) (by decide +kernel))
set_option maxRecDepth 20000 in
theorem gX5_undo_X4_lastDonePlace : GoodIn wsX5_undo (wsV RX5 200 RX4 yX4_lastDonePlace wsX4_lastDonePlace) := goodIn_app (goodIn_of _ (by decide +kernel)) ggX5_undo_X4_lastDonePlace
set_option maxRecDepth 20000 in
theorem ggX5_undo_X5_checkAtWork : GoodIn wsX5_undo wsX5_checkAtWork := goodIn_ca (goodIn_r _ [37, 1, 2, 38, 39, 40, 41, 42, 43, 44, 45, 130, 131, 132, 133, 134, 135, 136, 147, 148, 149, 150] (by decide +kernel) (by decide +kernel)) (goodIn_sub (fun _ h => List.mem_cons_of_mem _ (List.mem_append_left _ (List.mem_append_left _ (List.mem_append_left _ (List.mem_append_right _ h))))) (by decide +kernel))
set_option maxRecDepth 20000 in
theorem gX5_undo_X5_checkAtWork : GoodIn wsX5_undo (wsV RX5 205 RX5 yX5_checkAtWork wsX5_checkAtWork) := goodIn_app (goodIn_of _ (by decide +kernel)) ggX5_undo_X5_checkAtWork
set_option maxRecDepth 20000 in
theorem ggX5_undo_X5_checkRoomForLine : GoodIn wsX5_undo wsX5_checkRoomForLine := goodIn_ca (goodIn_r _ [49, 1, 2, 7, 50, 51, 52, 53, 54, 55, 130, 131, 132, 133, 134, 135, 136, 151, 152, 153, 154, 155, 156, 157, 158, 159] (by decide +kernel) (by decide +kernel)) (goodIn_sub (fun _ h => List.mem_cons_of_mem _ (List.mem_append_left _ (List.mem_append_left _ (List.mem_append_left _ (List.mem_append_right _ h))))) (by decide +kernel))
set_option maxRecDepth 20000 in
theorem gX5_undo_X5_checkRoomForLine : GoodIn wsX5_undo (wsV RX5 78 RX5 yX5_checkRoomForLine wsX5_checkRoomForLine) := goodIn_app (goodIn_of _ (by decide +kernel)) ggX5_undo_X5_checkRoomForLine
set_option maxRecDepth 20000 in
theorem ggX5_undo_X4_unitOf : GoodIn wsX5_undo wsX4_unitOf := goodIn_ca (goodIn_r _ [59, 60, 61, 62, 19, 63, 137, 138, 139, 140, 141, 142, 143, 144, 145, 146] (by decide +kernel) (by decide +kernel)) (goodIn_sub (fun _ h => List.mem_cons_of_mem _ (List.mem_append_right _ h)) (by decide +kernel))
set_option maxRecDepth 20000 in
theorem gX5_undo_X4_unitOf : GoodIn wsX5_undo (wsV RX5 175 RX4 yX4_unitOf wsX4_unitOf) := goodIn_app (goodIn_of _ (by decide +kernel)) ggX5_undo_X4_unitOf
set_option maxRecDepth 20000 in
theorem ggX5_undo_X5_stateOf : GoodIn wsX5_undo wsX5_stateOf := goodIn_ca (goodIn_r _ [67, 68, 69, 70, 12, 71, 130, 131, 132, 133, 134, 135, 136] (by decide +kernel) (by decide +kernel)) (goodIn_sub (fun _ h => List.mem_cons_of_mem _ (List.mem_append_right _ h)) (by decide +kernel))
set_option maxRecDepth 20000 in
theorem gX5_undo_X5_stateOf : GoodIn wsX5_undo (wsV RX5 52 RX5 yX5_stateOf wsX5_stateOf) := goodIn_app (goodIn_of _ (by decide +kernel)) ggX5_undo_X5_stateOf
set_option maxRecDepth 20000 in
theorem ggX5_undo_X4_newStateOf : GoodIn wsX5_undo wsX4_newStateOf := goodIn_ca (goodIn_r _ [75, 76, 61, 62, 19, 63, 137, 138, 139, 140, 141, 142, 143, 144, 145, 146] (by decide +kernel) (by decide +kernel)) (goodIn_sub (fun _ h => List.mem_cons_of_mem _ (List.mem_append_right _ h)) (by decide +kernel))
set_option maxRecDepth 20000 in
theorem gX5_undo_X4_newStateOf : GoodIn wsX5_undo (wsV RX5 191 RX4 yX4_newStateOf wsX4_newStateOf) := goodIn_app (goodIn_of _ (by decide +kernel)) ggX5_undo_X4_newStateOf
set_option maxRecDepth 20000 in
theorem ggX5_undo_X5_unitBit : GoodIn wsX5_undo wsX5_unitBit := goodIn_r _ [79, 69, 70, 12, 71] (by decide +kernel) (by decide +kernel)
set_option maxRecDepth 20000 in
theorem gX5_undo_X5_unitBit : GoodIn wsX5_undo (va_wsS RX5 178 yX5_unitBit wsX5_unitBit) := goodIn_app (goodIn_of _ (by decide +kernel)) ggX5_undo_X5_unitBit
set_option maxRecDepth 20000 in
theorem ggX5_undo_X3_firstOpenWith : GoodIn wsX5_undo wsX3_firstOpenWith := goodIn_ca (goodIn_r _ [84, 85, 86, 87, 88, 83, 89, 90, 91, 92, 93, 94, 95, 160, 161, 162, 163] (by decide +kernel) (by decide +kernel)) (goodIn_sub (fun _ h => List.mem_cons_of_mem _ (List.mem_append_right _ h)) (by decide +kernel))
set_option maxRecDepth 20000 in
theorem gX5_undo_X3_firstOpenWith : GoodIn wsX5_undo (wsV RX5 181 RX3 yX3_firstOpenWith wsX3_firstOpenWith) := goodIn_app (goodIn_of _ (by decide +kernel)) ggX5_undo_X3_firstOpenWith
set_option maxRecDepth 20000 in
theorem ggX5_undo_X2_openLine : GoodIn wsX5_undo wsX2_openLine := goodIn_ca (goodIn_r _ [99, 55, 100, 101, 102, 103, 104, 51, 52, 53, 54, 105, 106, 107, 108, 109, 110, 111, 112, 113, 114, 151, 152, 153, 154, 155, 156, 157, 158, 159] (by decide +kernel) (by decide +kernel)) (goodIn_sub (fun _ h => List.mem_cons_of_mem _ (List.mem_append_right _ h)) (by decide +kernel))
set_option maxRecDepth 20000 in
theorem gX5_undo_X2_openLine : GoodIn wsX5_undo (wsV RX5 85 RX2 yX2_openLine wsX2_openLine) := goodIn_app (goodIn_of _ (by decide +kernel)) ggX5_undo_X2_openLine
set_option maxRecDepth 20000 in
theorem ggX5_undo_X4_notedStateOf : GoodIn wsX5_undo wsX4_notedStateOf := goodIn_ca (goodIn_r _ [118, 119, 61, 62, 19, 63, 137, 138, 139, 140, 141, 142, 143, 144, 145, 146] (by decide +kernel) (by decide +kernel)) (goodIn_sub (fun _ h => List.mem_cons_of_mem _ (List.mem_append_right _ h)) (by decide +kernel))
set_option maxRecDepth 20000 in
theorem gX5_undo_X4_notedStateOf : GoodIn wsX5_undo (wsV RX5 213 RX4 yX4_notedStateOf wsX4_notedStateOf) := goodIn_app (goodIn_of _ (by decide +kernel)) ggX5_undo_X4_notedStateOf
set_option maxRecDepth 20000 in
theorem ggX5_undo_X5_setState : GoodIn wsX5_undo wsX5_setState := goodIn_ca (goodIn_r _ [123, 68, 69, 70, 12, 71, 130, 131, 132, 133, 134, 135, 136] (by decide +kernel) (by decide +kernel)) (goodIn_sub (fun _ h => List.mem_cons_of_mem _ (List.mem_append_right _ h)) (by decide +kernel))
set_option maxRecDepth 20000 in
theorem gX5_undo_X5_setState : GoodIn wsX5_undo (wsV RX5 194 RX5 yX5_setState wsX5_setState) := goodIn_app (goodIn_of _ (by decide +kernel)) ggX5_undo_X5_setState
set_option maxRecDepth 20000 in
theorem ggX5_undo_X4_markUndone : GoodIn wsX5_undo wsX4_markUndone := goodIn_ca (goodIn_r _ [127, 30, 128, 129, 23, 24, 19, 25, 26, 27, 28, 29, 31, 17, 18, 20, 21, 32, 12, 33, 61, 62, 63, 137, 138, 139, 140, 141, 142, 143, 144, 145, 146] (by decide +kernel) (by decide +kernel)) (goodIn_sub (fun _ h => List.mem_cons_of_mem _ (List.mem_append_right _ h)) (by decide +kernel))
set_option maxRecDepth 20000 in
theorem gX5_undo_X4_markUndone : GoodIn wsX5_undo (wsV RX5 216 RX4 yX4_markUndone wsX4_markUndone) := goodIn_app (goodIn_of _ (by decide +kernel)) ggX5_undo_X4_markUndone
theorem dX5_undo_0 : decode cX5_undo 0 = .ok (.aload_n 0, 1) := by decide +kernel
theorem dX5_undo_1 : decode cX5_undo 1 = .ok (.iload_n 1, 1) := by decide +kernel
theorem dX5_undo_2 : decode cX5_undo 2 = .ok (.invokevirtual 140, 3) := by decide +kernel
theorem dX5_undo_5 : decode cX5_undo 5 = .ok (.aload_n 0, 1) := by decide +kernel
theorem dX5_undo_6 : decode cX5_undo 6 = .ok (.getfield 30, 3) := by decide +kernel
theorem dX5_undo_9 : decode cX5_undo 9 = .ok (.iload_n 1, 1) := by decide +kernel
theorem dX5_undo_10 : decode cX5_undo 10 = .ok (.invokevirtual 200, 3) := by decide +kernel
theorem dX5_undo_13 : decode cX5_undo 13 = .ok (.istore_n 2, 1) := by decide +kernel
theorem dX5_undo_14 : decode cX5_undo 14 = .ok (.iload_n 2, 1) := by decide +kernel
theorem dX5_undo_15 : decode cX5_undo 15 = .ok (.iconst (-1), 1) := by decide +kernel
theorem dX5_undo_16 : decode cX5_undo 16 = .ok (.if_icmp .ne 13, 3) := by decide +kernel
theorem dX5_undo_19 : decode cX5_undo 19 = .ok (.new 71, 3) := by decide +kernel
theorem dX5_undo_22 : decode cX5_undo 22 = .ok (.dup, 1) := by decide +kernel
theorem dX5_undo_23 : decode cX5_undo 23 = .ok (.ldc 203, 2) := by decide +kernel
theorem dX5_undo_25 : decode cX5_undo 25 = .ok (.invokespecial 75, 3) := by decide +kernel
theorem dX5_undo_28 : decode cX5_undo 28 = .ok (.athrow, 1) := by decide +kernel
theorem dX5_undo_29 : decode cX5_undo 29 = .ok (.aload_n 0, 1) := by decide +kernel
theorem dX5_undo_30 : decode cX5_undo 30 = .ok (.invokevirtual 205, 3) := by decide +kernel
theorem dX5_undo_33 : decode cX5_undo 33 = .ok (.aload_n 0, 1) := by decide +kernel
theorem dX5_undo_34 : decode cX5_undo 34 = .ok (.invokevirtual 78, 3) := by decide +kernel
theorem dX5_undo_37 : decode cX5_undo 37 = .ok (.aload_n 0, 1) := by decide +kernel
theorem dX5_undo_38 : decode cX5_undo 38 = .ok (.getfield 30, 3) := by decide +kernel
theorem dX5_undo_41 : decode cX5_undo 41 = .ok (.iload_n 2, 1) := by decide +kernel
theorem dX5_undo_42 : decode cX5_undo 42 = .ok (.invokevirtual 175, 3) := by decide +kernel
theorem dX5_undo_45 : decode cX5_undo 45 = .ok (.istore_n 3, 1) := by decide +kernel
theorem dX5_undo_46 : decode cX5_undo 46 = .ok (.aload_n 0, 1) := by decide +kernel
theorem dX5_undo_47 : decode cX5_undo 47 = .ok (.iload_n 3, 1) := by decide +kernel
theorem dX5_undo_48 : decode cX5_undo 48 = .ok (.invokevirtual 52, 3) := by decide +kernel
theorem dX5_undo_51 : decode cX5_undo 51 = .ok (.aload_n 0, 1) := by decide +kernel
theorem dX5_undo_52 : decode cX5_undo 52 = .ok (.getfield 30, 3) := by decide +kernel
theorem dX5_undo_55 : decode cX5_undo 55 = .ok (.iload_n 2, 1) := by decide +kernel
theorem dX5_undo_56 : decode cX5_undo 56 = .ok (.invokevirtual 191, 3) := by decide +kernel
theorem dX5_undo_59 : decode cX5_undo 59 = .ok (.if_icmp .ne 18, 3) := by decide +kernel
theorem dX5_undo_62 : decode cX5_undo 62 = .ok (.aload_n 0, 1) := by decide +kernel
theorem dX5_undo_63 : decode cX5_undo 63 = .ok (.getfield 37, 3) := by decide +kernel
theorem dX5_undo_66 : decode cX5_undo 66 = .ok (.iload_n 3, 1) := by decide +kernel
theorem dX5_undo_67 : decode cX5_undo 67 = .ok (.invokestatic 178, 3) := by decide +kernel
theorem dX5_undo_70 : decode cX5_undo 70 = .ok (.invokevirtual 181, 3) := by decide +kernel
theorem dX5_undo_73 : decode cX5_undo 73 = .ok (.iconst (-1), 1) := by decide +kernel
theorem dX5_undo_74 : decode cX5_undo 74 = .ok (.if_icmp .eq 13, 3) := by decide +kernel
theorem dX5_undo_77 : decode cX5_undo 77 = .ok (.new 208, 3) := by decide +kernel
theorem dX5_undo_80 : decode cX5_undo 80 = .ok (.dup, 1) := by decide +kernel
theorem dX5_undo_81 : decode cX5_undo 81 = .ok (.ldc 210, 2) := by decide +kernel
theorem dX5_undo_83 : decode cX5_undo 83 = .ok (.invokespecial 212, 3) := by decide +kernel
theorem dX5_undo_86 : decode cX5_undo 86 = .ok (.athrow, 1) := by decide +kernel
theorem dX5_undo_87 : decode cX5_undo 87 = .ok (.aload_n 0, 1) := by decide +kernel
theorem dX5_undo_88 : decode cX5_undo 88 = .ok (.getfield 16, 3) := by decide +kernel
theorem dX5_undo_91 : decode cX5_undo 91 = .ok (.bipush 115, 2) := by decide +kernel
theorem dX5_undo_93 : decode cX5_undo 93 = .ok (.aload_n 0, 1) := by decide +kernel
theorem dX5_undo_94 : decode cX5_undo 94 = .ok (.getfield 81, 3) := by decide +kernel
theorem dX5_undo_97 : decode cX5_undo 97 = .ok (.invokevirtual 85, 3) := by decide +kernel
theorem dX5_undo_100 : decode cX5_undo 100 = .ok (.istore 4, 2) := by decide +kernel
theorem dX5_undo_102 : decode cX5_undo 102 = .ok (.aload_n 0, 1) := by decide +kernel
theorem dX5_undo_103 : decode cX5_undo 103 = .ok (.iload_n 3, 1) := by decide +kernel
theorem dX5_undo_104 : decode cX5_undo 104 = .ok (.aload_n 0, 1) := by decide +kernel
theorem dX5_undo_105 : decode cX5_undo 105 = .ok (.getfield 30, 3) := by decide +kernel
theorem dX5_undo_108 : decode cX5_undo 108 = .ok (.iload_n 2, 1) := by decide +kernel
theorem dX5_undo_109 : decode cX5_undo 109 = .ok (.invokevirtual 213, 3) := by decide +kernel
theorem dX5_undo_112 : decode cX5_undo 112 = .ok (.invokevirtual 194, 3) := by decide +kernel
theorem dX5_undo_115 : decode cX5_undo 115 = .ok (.aload_n 0, 1) := by decide +kernel
theorem dX5_undo_116 : decode cX5_undo 116 = .ok (.getfield 30, 3) := by decide +kernel
theorem dX5_undo_119 : decode cX5_undo 119 = .ok (.iload_n 1, 1) := by decide +kernel
theorem dX5_undo_120 : decode cX5_undo 120 = .ok (.iload 4, 2) := by decide +kernel
theorem dX5_undo_122 : decode cX5_undo 122 = .ok (.invokevirtual 216, 3) := by decide +kernel
theorem dX5_undo_125 : decode cX5_undo 125 = .ok (.iload 4, 2) := by decide +kernel
theorem dX5_undo_127 : decode cX5_undo 127 = .ok (.ireturn, 1) := by decide +kernel
set_option maxRecDepth 20000 in
theorem ggX5_reset_X5_checkProcedure : GoodIn wsX5_reset wsX5_checkProcedure := goodIn_ca (goodIn_r _ [6, 7, 8, 1, 9, 10, 11, 12, 13, 14, 92, 93, 94, 95, 96, 97, 98, 99, 100, 101, 102, 103, 104, 105, 106, 107, 108] (by decide +kernel) (by decide +kernel)) (goodIn_sub (fun _ h => List.mem_cons_of_mem _ (List.mem_append_left _ (List.mem_append_left _ (List.mem_append_right _ h)))) (by decide +kernel))
set_option maxRecDepth 20000 in
theorem gX5_reset_X5_checkProcedure : GoodIn wsX5_reset (wsV RX5 140 RX5 yX5_checkProcedure wsX5_checkProcedure) := goodIn_app (goodIn_of _ (by decide +kernel)) ggX5_reset_X5_checkProcedure
set_option maxRecDepth 20000 in
theorem ggX5_reset_X5_checkAtWork : GoodIn wsX5_reset wsX5_checkAtWork := goodIn_ca (goodIn_r _ [18, 19, 20, 21, 22, 23, 24, 25, 26, 27, 28, 92, 93, 94, 95, 96, 97, 98, 109, 110, 111, 112] (by decide +kernel) (by decide +kernel)) (goodIn_sub (fun _ h => List.mem_cons_of_mem _ (List.mem_append_left _ (List.mem_append_right _ h))) (by decide +kernel))
set_option maxRecDepth 20000 in
theorem gX5_reset_X5_checkAtWork : GoodIn wsX5_reset (wsV RX5 205 RX5 yX5_checkAtWork wsX5_checkAtWork) := goodIn_app (goodIn_of _ (by decide +kernel)) ggX5_reset_X5_checkAtWork
set_option maxRecDepth 20000 in
theorem ggX5_reset_X4_markNoneDone : GoodIn wsX5_reset wsX4_markNoneDone := goodIn_ca (goodIn_r _ [32, 33, 34, 10, 11, 12, 13, 14, 99, 100, 101, 102, 103, 104, 105, 106, 107, 108] (by decide +kernel) (by decide +kernel)) (goodIn_sub (fun _ h => List.mem_cons_of_mem _ (List.mem_append_right _ h)) (by decide +kernel))
set_option maxRecDepth 20000 in
theorem gX5_reset_X4_markNoneDone : GoodIn wsX5_reset (wsV RX5 219 RX4 yX4_markNoneDone wsX4_markNoneDone) := goodIn_app (goodIn_of _ (by decide +kernel)) ggX5_reset_X4_markNoneDone
set_option maxRecDepth 20000 in
theorem ggX5_reset_X5_stepPlace : GoodIn wsX5_reset wsX5_stepPlace := goodIn_r _ [37] (by decide +kernel) (by decide +kernel)
set_option maxRecDepth 20000 in
theorem gX5_reset_X5_stepPlace : GoodIn wsX5_reset (va_wsS RX5 222 yX5_stepPlace wsX5_stepPlace) := goodIn_app (goodIn_of _ (by decide +kernel)) ggX5_reset_X5_stepPlace
set_option maxRecDepth 20000 in
theorem ggX5_reset_X5_closeUndoneLine : GoodIn wsX5_reset wsX5_closeUndoneLine := goodIn_ca (goodIn_r _ [41, 1, 42, 43, 44, 45, 12, 46, 47, 48, 49, 50, 51, 52, 53, 54, 55, 5, 56, 57, 58, 59, 60, 61, 34, 10, 11, 13, 14, 62, 63, 64, 65, 66, 67, 68, 69, 70, 71, 72, 73, 74, 75, 76, 77, 78, 79, 80, 81, 82, 83, 84, 85, 86, 87, 88, 89, 90, 91, 92, 93, 94, 95, 96, 97, 98, 99, 100, 101, 102, 103, 104, 105, 106, 107, 108, 113, 114, 115, 116, 117, 118, 119, 120, 121] (by decide +kernel) (by decide +kernel)) (goodIn_sub (fun _ h => List.mem_cons_of_mem _ (List.mem_append_right _ h)) (by decide +kernel))
set_option maxRecDepth 20000 in
theorem gX5_reset_X5_closeUndoneLine : GoodIn wsX5_reset (wsV RX5 197 RX5 yX5_closeUndoneLine wsX5_closeUndoneLine) := goodIn_app (goodIn_of _ (by decide +kernel)) ggX5_reset_X5_closeUndoneLine
theorem dX5_reset_0 : decode cX5_reset 0 = .ok (.aload_n 0, 1) := by decide +kernel
theorem dX5_reset_1 : decode cX5_reset 1 = .ok (.iload_n 1, 1) := by decide +kernel
theorem dX5_reset_2 : decode cX5_reset 2 = .ok (.invokevirtual 140, 3) := by decide +kernel
theorem dX5_reset_5 : decode cX5_reset 5 = .ok (.aload_n 0, 1) := by decide +kernel
theorem dX5_reset_6 : decode cX5_reset 6 = .ok (.invokevirtual 205, 3) := by decide +kernel
theorem dX5_reset_9 : decode cX5_reset 9 = .ok (.aload_n 0, 1) := by decide +kernel
theorem dX5_reset_10 : decode cX5_reset 10 = .ok (.getfield 30, 3) := by decide +kernel
theorem dX5_reset_13 : decode cX5_reset 13 = .ok (.iload_n 1, 1) := by decide +kernel
theorem dX5_reset_14 : decode cX5_reset 14 = .ok (.invokevirtual 219, 3) := by decide +kernel
theorem dX5_reset_17 : decode cX5_reset 17 = .ok (.iconst 0, 1) := by decide +kernel
theorem dX5_reset_18 : decode cX5_reset 18 = .ok (.istore_n 2, 1) := by decide +kernel
theorem dX5_reset_19 : decode cX5_reset 19 = .ok (.iconst 0, 1) := by decide +kernel
theorem dX5_reset_20 : decode cX5_reset 20 = .ok (.istore_n 3, 1) := by decide +kernel
theorem dX5_reset_21 : decode cX5_reset 21 = .ok (.iload_n 3, 1) := by decide +kernel
theorem dX5_reset_22 : decode cX5_reset 22 = .ok (.bipush 8, 2) := by decide +kernel
theorem dX5_reset_24 : decode cX5_reset 24 = .ok (.if_icmp .ge 24, 3) := by decide +kernel
theorem dX5_reset_27 : decode cX5_reset 27 = .ok (.aload_n 0, 1) := by decide +kernel
theorem dX5_reset_28 : decode cX5_reset 28 = .ok (.iload_n 1, 1) := by decide +kernel
theorem dX5_reset_29 : decode cX5_reset 29 = .ok (.iload_n 3, 1) := by decide +kernel
theorem dX5_reset_30 : decode cX5_reset 30 = .ok (.invokestatic 222, 3) := by decide +kernel
theorem dX5_reset_33 : decode cX5_reset 33 = .ok (.invokevirtual 197, 3) := by decide +kernel
theorem dX5_reset_36 : decode cX5_reset 36 = .ok (.ifCond .eq 6, 3) := by decide +kernel
theorem dX5_reset_39 : decode cX5_reset 39 = .ok (.iinc 2 1, 3) := by decide +kernel
theorem dX5_reset_42 : decode cX5_reset 42 = .ok (.iinc 3 1, 3) := by decide +kernel
theorem dX5_reset_45 : decode cX5_reset 45 = .ok (.goto (-24), 3) := by decide +kernel
theorem dX5_reset_48 : decode cX5_reset 48 = .ok (.iload_n 2, 1) := by decide +kernel
theorem dX5_reset_49 : decode cX5_reset 49 = .ok (.ireturn, 1) := by decide +kernel
set_option maxRecDepth 20000 in
theorem ggX5_drill_X4_longestNotTaken : GoodIn wsX5_drill wsX4_longestNotTaken := goodIn_ca (goodIn_r _ [8, 9, 10, 11, 12, 7, 13, 14, 15, 16, 17, 18, 19, 20, 21, 22, 23, 24, 25, 26, 27, 28, 29, 37, 38, 39, 40, 41, 42, 43, 44, 45, 46] (by decide +kernel) (by decide +kernel)) (goodIn_sub (fun _ h => List.mem_cons_of_mem _ (List.mem_append_right _ h)) (by decide +kernel))
set_option maxRecDepth 20000 in
theorem gX5_drill_X4_longestNotTaken : GoodIn wsX5_drill (wsV RX5 225 RX4 yX4_longestNotTaken wsX4_longestNotTaken) := goodIn_app (goodIn_of _ (by decide +kernel)) ggX5_drill_X4_longestNotTaken
theorem dX5_drill_0 : decode cX5_drill 0 = .ok (.aload_n 0, 1) := by decide +kernel
theorem dX5_drill_1 : decode cX5_drill 1 = .ok (.getfield 30, 3) := by decide +kernel
theorem dX5_drill_4 : decode cX5_drill 4 = .ok (.invokevirtual 225, 3) := by decide +kernel
theorem dX5_drill_7 : decode cX5_drill 7 = .ok (.istore_n 1, 1) := by decide +kernel
theorem dX5_drill_8 : decode cX5_drill 8 = .ok (.iload_n 1, 1) := by decide +kernel
theorem dX5_drill_9 : decode cX5_drill 9 = .ok (.iconst (-1), 1) := by decide +kernel
theorem dX5_drill_10 : decode cX5_drill 10 = .ok (.if_icmp .ne 13, 3) := by decide +kernel
theorem dX5_drill_13 : decode cX5_drill 13 = .ok (.new 125, 3) := by decide +kernel
theorem dX5_drill_16 : decode cX5_drill 16 = .ok (.dup, 1) := by decide +kernel
theorem dX5_drill_17 : decode cX5_drill 17 = .ok (.ldc 228, 2) := by decide +kernel
theorem dX5_drill_19 : decode cX5_drill 19 = .ok (.invokespecial 129, 3) := by decide +kernel
theorem dX5_drill_22 : decode cX5_drill 22 = .ok (.athrow, 1) := by decide +kernel
theorem dX5_drill_23 : decode cX5_drill 23 = .ok (.iload_n 1, 1) := by decide +kernel
theorem dX5_drill_24 : decode cX5_drill 24 = .ok (.ireturn, 1) := by decide +kernel
set_option maxRecDepth 20000 in
theorem ggX5_openPermit_X5_checkAtWork : GoodIn wsX5_openPermit wsX5_checkAtWork := goodIn_ca (goodIn_r _ [15, 3, 4, 8, 16, 17, 18, 19, 20, 21, 22, 82, 83, 84, 85, 86, 87, 88, 89, 90, 91, 92] (by decide +kernel) (by decide +kernel)) (goodIn_sub (fun _ h => List.mem_cons_of_mem _ (List.mem_append_left _ (List.mem_append_left _ (List.mem_append_right _ h)))) (by decide +kernel))
set_option maxRecDepth 20000 in
theorem gX5_openPermit_X5_checkAtWork : GoodIn wsX5_openPermit (wsV RX5 205 RX5 yX5_checkAtWork wsX5_checkAtWork) := goodIn_app (goodIn_of _ (by decide +kernel)) ggX5_openPermit_X5_checkAtWork
set_option maxRecDepth 20000 in
theorem ggX5_openPermit_X3_isFull : GoodIn wsX5_openPermit wsX3_isFull := goodIn_r _ [27, 28, 93, 94, 95, 96] (by decide +kernel) (by decide +kernel)
set_option maxRecDepth 20000 in
theorem gX5_openPermit_X3_isFull : GoodIn wsX5_openPermit (wsV RX5 232 RX3 yX3_isFull wsX3_isFull) := goodIn_app (goodIn_of _ (by decide +kernel)) ggX5_openPermit_X3_isFull
set_option maxRecDepth 20000 in
theorem ggX5_openPermit_X5_checkRoomForLine : GoodIn wsX5_openPermit wsX5_checkRoomForLine := goodIn_ca (goodIn_r _ [32, 3, 4, 10, 33, 34, 35, 36, 37, 38, 82, 83, 84, 85, 86, 87, 88, 97, 98, 99, 100, 101, 102, 103, 104, 105] (by decide +kernel) (by decide +kernel)) (goodIn_sub (fun _ h => List.mem_cons_of_mem _ (List.mem_append_left _ (List.mem_append_left _ (List.mem_append_right _ h)))) (by decide +kernel))
set_option maxRecDepth 20000 in
theorem gX5_openPermit_X5_checkRoomForLine : GoodIn wsX5_openPermit (wsV RX5 78 RX5 yX5_checkRoomForLine wsX5_checkRoomForLine) := goodIn_app (goodIn_of _ (by decide +kernel)) ggX5_openPermit_X5_checkRoomForLine
set_option maxRecDepth 20000 in
theorem ggX5_openPermit_X3_firstOpenWith : GoodIn wsX5_openPermit wsX3_firstOpenWith := goodIn_ca (goodIn_r _ [42, 43, 44, 45, 46, 26, 47, 48, 49, 50, 51, 52, 28, 93, 94, 95, 96] (by decide +kernel) (by decide +kernel)) (goodIn_sub (fun _ h => List.mem_cons_of_mem _ (List.mem_append_right _ h)) (by decide +kernel))
set_option maxRecDepth 20000 in
theorem gX5_openPermit_X3_firstOpenWith : GoodIn wsX5_openPermit (wsV RX5 181 RX3 yX3_firstOpenWith wsX3_firstOpenWith) := goodIn_app (goodIn_of _ (by decide +kernel)) ggX5_openPermit_X3_firstOpenWith
set_option maxRecDepth 20000 in
theorem ggX5_openPermit_X1_isWeary : GoodIn wsX5_openPermit wsX1_isWeary := goodIn_r _ [56, 21, 57, 89, 90, 91, 92] (by decide +kernel) (by decide +kernel)
set_option maxRecDepth 20000 in
theorem gX5_openPermit_X1_isWeary : GoodIn wsX5_openPermit (wsV RX5 235 RX1 yX1_isWeary wsX1_isWeary) := goodIn_app (goodIn_of _ (by decide +kernel)) ggX5_openPermit_X1_isWeary
set_option maxRecDepth 20000 in
theorem ggX5_openPermit_X2_openLine : GoodIn wsX5_openPermit wsX2_openLine := goodIn_ca (goodIn_r _ [61, 38, 62, 63, 64, 65, 66, 34, 35, 36, 37, 67, 68, 69, 70, 71, 72, 73, 74, 75, 76, 97, 98, 99, 100, 101, 102, 103, 104, 105] (by decide +kernel) (by decide +kernel)) (goodIn_sub (fun _ h => List.mem_cons_of_mem _ (List.mem_append_right _ h)) (by decide +kernel))
set_option maxRecDepth 20000 in
theorem gX5_openPermit_X2_openLine : GoodIn wsX5_openPermit (wsV RX5 85 RX2 yX2_openLine wsX2_openLine) := goodIn_app (goodIn_of _ (by decide +kernel)) ggX5_openPermit_X2_openLine
set_option maxRecDepth 20000 in
theorem ggX5_openPermit_X3_append : GoodIn wsX5_openPermit wsX3_append := goodIn_ca (goodIn_r _ [80, 28, 43, 81, 48, 49, 50, 51, 26, 52, 93, 94, 95, 96] (by decide +kernel) (by decide +kernel)) (goodIn_sub (fun _ h => List.mem_cons_of_mem _ (List.mem_append_right _ h)) (by decide +kernel))
set_option maxRecDepth 20000 in
theorem gX5_openPermit_X3_append : GoodIn wsX5_openPermit (wsV RX5 240 RX3 yX3_append wsX3_append) := goodIn_app (goodIn_of _ (by decide +kernel)) ggX5_openPermit_X3_append
theorem dX5_openPermit_0 : decode cX5_openPermit 0 = .ok (.iload_n 1, 1) := by decide +kernel
theorem dX5_openPermit_1 : decode cX5_openPermit 1 = .ok (.iconst 1, 1) := by decide +kernel
theorem dX5_openPermit_2 : decode cX5_openPermit 2 = .ok (.if_icmp .lt 10, 3) := by decide +kernel
theorem dX5_openPermit_5 : decode cX5_openPermit 5 = .ok (.iload_n 1, 1) := by decide +kernel
theorem dX5_openPermit_6 : decode cX5_openPermit 6 = .ok (.sipush 255, 3) := by decide +kernel
theorem dX5_openPermit_9 : decode cX5_openPermit 9 = .ok (.if_icmp .le 13, 3) := by decide +kernel
theorem dX5_openPermit_12 : decode cX5_openPermit 12 = .ok (.new 105, 3) := by decide +kernel
theorem dX5_openPermit_15 : decode cX5_openPermit 15 = .ok (.dup, 1) := by decide +kernel
theorem dX5_openPermit_16 : decode cX5_openPermit 16 = .ok (.ldc 230, 2) := by decide +kernel
theorem dX5_openPermit_18 : decode cX5_openPermit 18 = .ok (.invokespecial 109, 3) := by decide +kernel
theorem dX5_openPermit_21 : decode cX5_openPermit 21 = .ok (.athrow, 1) := by decide +kernel
theorem dX5_openPermit_22 : decode cX5_openPermit 22 = .ok (.aload_n 0, 1) := by decide +kernel
theorem dX5_openPermit_23 : decode cX5_openPermit 23 = .ok (.invokevirtual 205, 3) := by decide +kernel
theorem dX5_openPermit_26 : decode cX5_openPermit 26 = .ok (.aload_n 0, 1) := by decide +kernel
theorem dX5_openPermit_27 : decode cX5_openPermit 27 = .ok (.getfield 37, 3) := by decide +kernel
theorem dX5_openPermit_30 : decode cX5_openPermit 30 = .ok (.invokevirtual 232, 3) := by decide +kernel
theorem dX5_openPermit_33 : decode cX5_openPermit 33 = .ok (.ifCond .eq 13, 3) := by decide +kernel
theorem dX5_openPermit_36 : decode cX5_openPermit 36 = .ok (.new 71, 3) := by decide +kernel
theorem dX5_openPermit_39 : decode cX5_openPermit 39 = .ok (.dup, 1) := by decide +kernel
theorem dX5_openPermit_40 : decode cX5_openPermit 40 = .ok (.ldc 233, 2) := by decide +kernel
theorem dX5_openPermit_42 : decode cX5_openPermit 42 = .ok (.invokespecial 75, 3) := by decide +kernel
theorem dX5_openPermit_45 : decode cX5_openPermit 45 = .ok (.athrow, 1) := by decide +kernel
theorem dX5_openPermit_46 : decode cX5_openPermit 46 = .ok (.aload_n 0, 1) := by decide +kernel
theorem dX5_openPermit_47 : decode cX5_openPermit 47 = .ok (.invokevirtual 78, 3) := by decide +kernel
theorem dX5_openPermit_50 : decode cX5_openPermit 50 = .ok (.aload_n 0, 1) := by decide +kernel
theorem dX5_openPermit_51 : decode cX5_openPermit 51 = .ok (.getfield 37, 3) := by decide +kernel
theorem dX5_openPermit_54 : decode cX5_openPermit 54 = .ok (.iload_n 1, 1) := by decide +kernel
theorem dX5_openPermit_55 : decode cX5_openPermit 55 = .ok (.invokevirtual 181, 3) := by decide +kernel
theorem dX5_openPermit_58 : decode cX5_openPermit 58 = .ok (.iconst (-1), 1) := by decide +kernel
theorem dX5_openPermit_59 : decode cX5_openPermit 59 = .ok (.if_icmp .ne 17, 3) := by decide +kernel
theorem dX5_openPermit_62 : decode cX5_openPermit 62 = .ok (.aload_n 0, 1) := by decide +kernel
theorem dX5_openPermit_63 : decode cX5_openPermit 63 = .ok (.getfield 44, 3) := by decide +kernel
theorem dX5_openPermit_66 : decode cX5_openPermit 66 = .ok (.aload_n 0, 1) := by decide +kernel
theorem dX5_openPermit_67 : decode cX5_openPermit 67 = .ok (.getfield 81, 3) := by decide +kernel
theorem dX5_openPermit_70 : decode cX5_openPermit 70 = .ok (.invokevirtual 235, 3) := by decide +kernel
theorem dX5_openPermit_73 : decode cX5_openPermit 73 = .ok (.ifCond .eq 13, 3) := by decide +kernel
theorem dX5_openPermit_76 : decode cX5_openPermit 76 = .ok (.new 208, 3) := by decide +kernel
theorem dX5_openPermit_79 : decode cX5_openPermit 79 = .ok (.dup, 1) := by decide +kernel
theorem dX5_openPermit_80 : decode cX5_openPermit 80 = .ok (.ldc 238, 2) := by decide +kernel
theorem dX5_openPermit_82 : decode cX5_openPermit 82 = .ok (.invokespecial 212, 3) := by decide +kernel
theorem dX5_openPermit_85 : decode cX5_openPermit 85 = .ok (.athrow, 1) := by decide +kernel
theorem dX5_openPermit_86 : decode cX5_openPermit 86 = .ok (.aload_n 0, 1) := by decide +kernel
theorem dX5_openPermit_87 : decode cX5_openPermit 87 = .ok (.getfield 37, 3) := by decide +kernel
theorem dX5_openPermit_90 : decode cX5_openPermit 90 = .ok (.iload_n 1, 1) := by decide +kernel
theorem dX5_openPermit_91 : decode cX5_openPermit 91 = .ok (.aload_n 0, 1) := by decide +kernel
theorem dX5_openPermit_92 : decode cX5_openPermit 92 = .ok (.getfield 16, 3) := by decide +kernel
theorem dX5_openPermit_95 : decode cX5_openPermit 95 = .ok (.bipush 112, 2) := by decide +kernel
theorem dX5_openPermit_97 : decode cX5_openPermit 97 = .ok (.aload_n 0, 1) := by decide +kernel
theorem dX5_openPermit_98 : decode cX5_openPermit 98 = .ok (.getfield 81, 3) := by decide +kernel
theorem dX5_openPermit_101 : decode cX5_openPermit 101 = .ok (.invokevirtual 85, 3) := by decide +kernel
theorem dX5_openPermit_104 : decode cX5_openPermit 104 = .ok (.invokevirtual 240, 3) := by decide +kernel
theorem dX5_openPermit_107 : decode cX5_openPermit 107 = .ok (.ireturn, 1) := by decide +kernel
set_option maxRecDepth 20000 in
theorem ggX5_closePermit_X5_checkPermit : GoodIn wsX5_closePermit wsX5_checkPermit := goodIn_ca (goodIn_r _ [9, 10, 11, 3, 12, 13, 14, 15, 16, 17, 67, 68, 69, 70, 71, 72, 73, 74, 75, 76, 77] (by decide +kernel) (by decide +kernel)) (goodIn_sub (fun _ h => List.mem_cons_of_mem _ (List.mem_append_left _ (List.mem_append_right _ h))) (by decide +kernel))
set_option maxRecDepth 20000 in
theorem gX5_closePermit_X5_checkPermit : GoodIn wsX5_closePermit (wsV RX5 242 RX5 yX5_checkPermit wsX5_checkPermit) := goodIn_app (goodIn_of _ (by decide +kernel)) ggX5_closePermit_X5_checkPermit
set_option maxRecDepth 20000 in
theorem ggX5_closePermit_X3_isOpen : GoodIn wsX5_closePermit wsX3_isOpen := goodIn_ca (goodIn_r _ [21, 22, 23, 13, 14, 15, 16, 17, 74, 75, 76, 77] (by decide +kernel) (by decide +kernel)) (goodIn_sub (fun _ h => List.mem_cons_of_mem _ (List.mem_append_right _ h)) (by decide +kernel))
set_option maxRecDepth 20000 in
theorem gX5_closePermit_X3_isOpen : GoodIn wsX5_closePermit (wsV RX5 245 RX3 yX3_isOpen wsX3_isOpen) := goodIn_app (goodIn_of _ (by decide +kernel)) ggX5_closePermit_X3_isOpen
set_option maxRecDepth 20000 in
theorem ggX5_closePermit_X5_checkAtWork : GoodIn wsX5_closePermit wsX5_checkAtWork := goodIn_ca (goodIn_r _ [27, 1, 2, 28, 29, 30, 31, 32, 33, 34, 35, 67, 68, 69, 70, 71, 72, 73, 78, 79, 80, 81] (by decide +kernel) (by decide +kernel)) (goodIn_sub (fun _ h => List.mem_cons_of_mem _ (List.mem_append_left _ (List.mem_append_left _ (List.mem_append_right _ h)))) (by decide +kernel))
set_option maxRecDepth 20000 in
theorem gX5_closePermit_X5_checkAtWork : GoodIn wsX5_closePermit (wsV RX5 205 RX5 yX5_checkAtWork wsX5_checkAtWork) := goodIn_app (goodIn_of _ (by decide +kernel)) ggX5_closePermit_X5_checkAtWork
set_option maxRecDepth 20000 in
theorem ggX5_closePermit_X3_lineOf : GoodIn wsX5_closePermit wsX3_lineOf := goodIn_ca (goodIn_r _ [39, 40, 23, 13, 14, 15, 16, 17, 74, 75, 76, 77] (by decide +kernel) (by decide +kernel)) (goodIn_sub (fun _ h => List.mem_cons_of_mem _ (List.mem_append_right _ h)) (by decide +kernel))
set_option maxRecDepth 20000 in
theorem gX5_closePermit_X3_lineOf : GoodIn wsX5_closePermit (wsV RX5 250 RX3 yX3_lineOf wsX3_lineOf) := goodIn_app (goodIn_of _ (by decide +kernel)) ggX5_closePermit_X3_lineOf
set_option maxRecDepth 20000 in
theorem ggX5_closePermit_X3_shut : GoodIn wsX5_closePermit wsX3_shut := goodIn_ca (goodIn_r _ [44, 22, 23, 13, 14, 15, 16, 17, 74, 75, 76, 77] (by decide +kernel) (by decide +kernel)) (goodIn_sub (fun _ h => List.mem_cons_of_mem _ (List.mem_append_right _ h)) (by decide +kernel))
set_option maxRecDepth 20000 in
theorem gX5_closePermit_X3_shut : GoodIn wsX5_closePermit (wsV RX5 251 RX3 yX3_shut wsX3_shut) := goodIn_app (goodIn_of _ (by decide +kernel)) ggX5_closePermit_X3_shut
set_option maxRecDepth 20000 in
theorem ggX5_closePermit_X2_closeLine : GoodIn wsX5_closePermit wsX2_closeLine := goodIn_ca (goodIn_r _ [49, 50, 51, 52, 53, 54, 48, 55, 56, 57, 58, 59, 60, 61, 62, 63, 64, 65, 66, 82, 83, 84, 85, 86, 87, 88, 89, 90] (by decide +kernel) (by decide +kernel)) (goodIn_sub (fun _ h => List.mem_cons_of_mem _ (List.mem_append_right _ h)) (by decide +kernel))
set_option maxRecDepth 20000 in
theorem gX5_closePermit_X2_closeLine : GoodIn wsX5_closePermit (wsV RX5 102 RX2 yX2_closeLine wsX2_closeLine) := goodIn_app (goodIn_of _ (by decide +kernel)) ggX5_closePermit_X2_closeLine
theorem dX5_closePermit_0 : decode cX5_closePermit 0 = .ok (.aload_n 0, 1) := by decide +kernel
theorem dX5_closePermit_1 : decode cX5_closePermit 1 = .ok (.iload_n 1, 1) := by decide +kernel
theorem dX5_closePermit_2 : decode cX5_closePermit 2 = .ok (.invokevirtual 242, 3) := by decide +kernel
theorem dX5_closePermit_5 : decode cX5_closePermit 5 = .ok (.aload_n 0, 1) := by decide +kernel
theorem dX5_closePermit_6 : decode cX5_closePermit 6 = .ok (.getfield 37, 3) := by decide +kernel
theorem dX5_closePermit_9 : decode cX5_closePermit 9 = .ok (.iload_n 1, 1) := by decide +kernel
theorem dX5_closePermit_10 : decode cX5_closePermit 10 = .ok (.invokevirtual 245, 3) := by decide +kernel
theorem dX5_closePermit_13 : decode cX5_closePermit 13 = .ok (.ifCond .ne 13, 3) := by decide +kernel
theorem dX5_closePermit_16 : decode cX5_closePermit 16 = .ok (.new 71, 3) := by decide +kernel
theorem dX5_closePermit_19 : decode cX5_closePermit 19 = .ok (.dup, 1) := by decide +kernel
theorem dX5_closePermit_20 : decode cX5_closePermit 20 = .ok (.ldc 248, 2) := by decide +kernel
theorem dX5_closePermit_22 : decode cX5_closePermit 22 = .ok (.invokespecial 75, 3) := by decide +kernel
theorem dX5_closePermit_25 : decode cX5_closePermit 25 = .ok (.athrow, 1) := by decide +kernel
theorem dX5_closePermit_26 : decode cX5_closePermit 26 = .ok (.aload_n 0, 1) := by decide +kernel
theorem dX5_closePermit_27 : decode cX5_closePermit 27 = .ok (.invokevirtual 205, 3) := by decide +kernel
theorem dX5_closePermit_30 : decode cX5_closePermit 30 = .ok (.aload_n 0, 1) := by decide +kernel
theorem dX5_closePermit_31 : decode cX5_closePermit 31 = .ok (.getfield 37, 3) := by decide +kernel
theorem dX5_closePermit_34 : decode cX5_closePermit 34 = .ok (.iload_n 1, 1) := by decide +kernel
theorem dX5_closePermit_35 : decode cX5_closePermit 35 = .ok (.invokevirtual 250, 3) := by decide +kernel
theorem dX5_closePermit_38 : decode cX5_closePermit 38 = .ok (.istore_n 2, 1) := by decide +kernel
theorem dX5_closePermit_39 : decode cX5_closePermit 39 = .ok (.aload_n 0, 1) := by decide +kernel
theorem dX5_closePermit_40 : decode cX5_closePermit 40 = .ok (.getfield 37, 3) := by decide +kernel
theorem dX5_closePermit_43 : decode cX5_closePermit 43 = .ok (.iload_n 1, 1) := by decide +kernel
theorem dX5_closePermit_44 : decode cX5_closePermit 44 = .ok (.invokevirtual 251, 3) := by decide +kernel
theorem dX5_closePermit_47 : decode cX5_closePermit 47 = .ok (.aload_n 0, 1) := by decide +kernel
theorem dX5_closePermit_48 : decode cX5_closePermit 48 = .ok (.getfield 16, 3) := by decide +kernel
theorem dX5_closePermit_51 : decode cX5_closePermit 51 = .ok (.iload_n 2, 1) := by decide +kernel
theorem dX5_closePermit_52 : decode cX5_closePermit 52 = .ok (.invokevirtual 102, 3) := by decide +kernel
theorem dX5_closePermit_55 : decode cX5_closePermit 55 = .ok (.iload_n 2, 1) := by decide +kernel
theorem dX5_closePermit_56 : decode cX5_closePermit 56 = .ok (.ireturn, 1) := by decide +kernel
set_option maxRecDepth 20000 in
theorem ggX5_isPermitOpen_X5_checkPermit : GoodIn wsX5_isPermitOpen wsX5_checkPermit := goodIn_ca (goodIn_r _ [6, 7, 8, 1, 9, 10, 11, 12, 13, 14, 21, 22, 23, 24, 25, 26, 27, 28, 29, 30, 31] (by decide +kernel) (by decide +kernel)) (goodIn_sub (fun _ h => List.mem_cons_of_mem _ (List.mem_append_left _ (List.mem_append_right _ h))) (by decide +kernel))
set_option maxRecDepth 20000 in
theorem gX5_isPermitOpen_X5_checkPermit : GoodIn wsX5_isPermitOpen (wsV RX5 242 RX5 yX5_checkPermit wsX5_checkPermit) := goodIn_app (goodIn_of _ (by decide +kernel)) ggX5_isPermitOpen_X5_checkPermit
set_option maxRecDepth 20000 in
theorem ggX5_isPermitOpen_X3_isOpen : GoodIn wsX5_isPermitOpen wsX3_isOpen := goodIn_ca (goodIn_r _ [18, 19, 20, 10, 11, 12, 13, 14, 28, 29, 30, 31] (by decide +kernel) (by decide +kernel)) (goodIn_sub (fun _ h => List.mem_cons_of_mem _ (List.mem_append_right _ h)) (by decide +kernel))
set_option maxRecDepth 20000 in
theorem gX5_isPermitOpen_X3_isOpen : GoodIn wsX5_isPermitOpen (wsV RX5 245 RX3 yX3_isOpen wsX3_isOpen) := goodIn_app (goodIn_of _ (by decide +kernel)) ggX5_isPermitOpen_X3_isOpen
theorem dX5_isPermitOpen_0 : decode cX5_isPermitOpen 0 = .ok (.aload_n 0, 1) := by decide +kernel
theorem dX5_isPermitOpen_1 : decode cX5_isPermitOpen 1 = .ok (.iload_n 1, 1) := by decide +kernel
theorem dX5_isPermitOpen_2 : decode cX5_isPermitOpen 2 = .ok (.invokevirtual 242, 3) := by decide +kernel
theorem dX5_isPermitOpen_5 : decode cX5_isPermitOpen 5 = .ok (.aload_n 0, 1) := by decide +kernel
theorem dX5_isPermitOpen_6 : decode cX5_isPermitOpen 6 = .ok (.getfield 37, 3) := by decide +kernel
theorem dX5_isPermitOpen_9 : decode cX5_isPermitOpen 9 = .ok (.iload_n 1, 1) := by decide +kernel
theorem dX5_isPermitOpen_10 : decode cX5_isPermitOpen 10 = .ok (.invokevirtual 245, 3) := by decide +kernel
theorem dX5_isPermitOpen_13 : decode cX5_isPermitOpen 13 = .ok (.ireturn, 1) := by decide +kernel
set_option maxRecDepth 20000 in
theorem ggX5_note_X5_checkRoomForLine : GoodIn wsX5_note wsX5_checkRoomForLine := goodIn_ca (goodIn_r _ [7, 8, 9, 1, 10, 11, 12, 13, 14, 15, 35, 36, 37, 38, 39, 40, 41, 42, 43, 44, 45, 46, 47, 48, 49, 50] (by decide +kernel) (by decide +kernel)) (goodIn_sub (fun _ h => List.mem_cons_of_mem _ (List.mem_append_left _ (List.mem_append_right _ h))) (by decide +kernel))
set_option maxRecDepth 20000 in
theorem gX5_note_X5_checkRoomForLine : GoodIn wsX5_note (wsV RX5 78 RX5 yX5_checkRoomForLine wsX5_checkRoomForLine) := goodIn_app (goodIn_of _ (by decide +kernel)) ggX5_note_X5_checkRoomForLine
set_option maxRecDepth 20000 in
theorem ggX5_note_X2_openLine : GoodIn wsX5_note wsX2_openLine := goodIn_ca (goodIn_r _ [19, 15, 20, 21, 22, 23, 24, 11, 12, 13, 14, 25, 26, 27, 28, 29, 30, 31, 32, 33, 34, 42, 43, 44, 45, 46, 47, 48, 49, 50] (by decide +kernel) (by decide +kernel)) (goodIn_sub (fun _ h => List.mem_cons_of_mem _ (List.mem_append_right _ h)) (by decide +kernel))
set_option maxRecDepth 20000 in
theorem gX5_note_X2_openLine : GoodIn wsX5_note (wsV RX5 85 RX2 yX2_openLine wsX2_openLine) := goodIn_app (goodIn_of _ (by decide +kernel)) ggX5_note_X2_openLine
theorem dX5_note_0 : decode cX5_note 0 = .ok (.aload_n 0, 1) := by decide +kernel
theorem dX5_note_1 : decode cX5_note 1 = .ok (.invokevirtual 78, 3) := by decide +kernel
theorem dX5_note_4 : decode cX5_note 4 = .ok (.aload_n 0, 1) := by decide +kernel
theorem dX5_note_5 : decode cX5_note 5 = .ok (.getfield 16, 3) := by decide +kernel
theorem dX5_note_8 : decode cX5_note 8 = .ok (.bipush 110, 2) := by decide +kernel
theorem dX5_note_10 : decode cX5_note 10 = .ok (.aload_n 0, 1) := by decide +kernel
theorem dX5_note_11 : decode cX5_note 11 = .ok (.getfield 81, 3) := by decide +kernel
theorem dX5_note_14 : decode cX5_note 14 = .ok (.invokevirtual 85, 3) := by decide +kernel
theorem dX5_note_17 : decode cX5_note 17 = .ok (.ireturn, 1) := by decide +kernel
set_option maxRecDepth 20000 in
theorem ggX5_close_X5_checkLine : GoodIn wsX5_close wsX5_checkLine := goodIn_ca (goodIn_r _ [10, 11, 12, 5, 13, 14, 15, 16, 17, 18, 46, 47, 48, 49, 50, 51, 52, 53, 54, 55, 56, 57, 58, 59, 60, 61] (by decide +kernel) (by decide +kernel)) (goodIn_sub (fun _ h => List.mem_cons_of_mem _ (List.mem_append_left _ (List.mem_append_right _ h))) (by decide +kernel))
set_option maxRecDepth 20000 in
theorem gX5_close_X5_checkLine : GoodIn wsX5_close (wsV RX5 254 RX5 yX5_checkLine wsX5_checkLine) := goodIn_app (goodIn_of _ (by decide +kernel)) ggX5_close_X5_checkLine
set_option maxRecDepth 20000 in
theorem ggX5_close_X2_kindAt : GoodIn wsX5_close wsX2_kindAt := goodIn_ca (goodIn_r _ [22, 23, 24, 14, 15, 16, 17, 18, 53, 54, 55, 56, 57, 58, 59, 60, 61] (by decide +kernel) (by decide +kernel)) (goodIn_sub (fun _ h => List.mem_cons_of_mem _ (List.mem_append_right _ h)) (by decide +kernel))
set_option maxRecDepth 20000 in
theorem gX5_close_X2_kindAt : GoodIn wsX5_close (wsV RX5 257 RX2 yX2_kindAt wsX2_kindAt) := goodIn_app (goodIn_of _ (by decide +kernel)) ggX5_close_X2_kindAt
set_option maxRecDepth 20000 in
theorem ggX5_close_X2_isOpen : GoodIn wsX5_close wsX2_isOpen := goodIn_ca (goodIn_r _ [28, 29, 24, 14, 15, 16, 17, 18, 53, 54, 55, 56, 57, 58, 59, 60, 61] (by decide +kernel) (by decide +kernel)) (goodIn_sub (fun _ h => List.mem_cons_of_mem _ (List.mem_append_right _ h)) (by decide +kernel))
set_option maxRecDepth 20000 in
theorem gX5_close_X2_isOpen : GoodIn wsX5_close (wsV RX5 262 RX2 yX2_isOpen wsX2_isOpen) := goodIn_app (goodIn_of _ (by decide +kernel)) ggX5_close_X2_isOpen
set_option maxRecDepth 20000 in
theorem ggX5_close_X2_closeLine : GoodIn wsX5_close wsX2_closeLine := goodIn_ca (goodIn_r _ [33, 29, 34, 35, 26, 27, 16, 28, 24, 14, 15, 17, 18, 36, 37, 38, 39, 40, 41, 53, 54, 55, 56, 57, 58, 59, 60, 61] (by decide +kernel) (by decide +kernel)) (goodIn_sub (fun _ h => List.mem_cons_of_mem _ (List.mem_append_right _ h)) (by decide +kernel))
set_option maxRecDepth 20000 in
theorem gX5_close_X2_closeLine : GoodIn wsX5_close (wsV RX5 102 RX2 yX2_closeLine wsX2_closeLine) := goodIn_app (goodIn_of _ (by decide +kernel)) ggX5_close_X2_closeLine
set_option maxRecDepth 20000 in
theorem ggX5_close_X2_openCount : GoodIn wsX5_close wsX2_openCount := goodIn_r _ [45, 34, 53, 54, 55, 56, 57, 58, 59, 60, 61] (by decide +kernel) (by decide +kernel)
set_option maxRecDepth 20000 in
theorem gX5_close_X2_openCount : GoodIn wsX5_close (wsV RX5 265 RX2 yX2_openCount wsX2_openCount) := goodIn_app (goodIn_of _ (by decide +kernel)) ggX5_close_X2_openCount
theorem dX5_close_0 : decode cX5_close 0 = .ok (.aload_n 0, 1) := by decide +kernel
theorem dX5_close_1 : decode cX5_close 1 = .ok (.iload_n 1, 1) := by decide +kernel
theorem dX5_close_2 : decode cX5_close 2 = .ok (.invokevirtual 254, 3) := by decide +kernel
theorem dX5_close_5 : decode cX5_close 5 = .ok (.aload_n 0, 1) := by decide +kernel
theorem dX5_close_6 : decode cX5_close 6 = .ok (.getfield 16, 3) := by decide +kernel
theorem dX5_close_9 : decode cX5_close 9 = .ok (.iload_n 1, 1) := by decide +kernel
theorem dX5_close_10 : decode cX5_close 10 = .ok (.invokevirtual 257, 3) := by decide +kernel
theorem dX5_close_13 : decode cX5_close 13 = .ok (.bipush 110, 2) := by decide +kernel
theorem dX5_close_15 : decode cX5_close 15 = .ok (.if_icmp .eq 14, 3) := by decide +kernel
theorem dX5_close_18 : decode cX5_close 18 = .ok (.new 208, 3) := by decide +kernel
theorem dX5_close_21 : decode cX5_close 21 = .ok (.dup, 1) := by decide +kernel
theorem dX5_close_22 : decode cX5_close 22 = .ok (.ldc_w 260, 3) := by decide +kernel
theorem dX5_close_25 : decode cX5_close 25 = .ok (.invokespecial 212, 3) := by decide +kernel
theorem dX5_close_28 : decode cX5_close 28 = .ok (.athrow, 1) := by decide +kernel
theorem dX5_close_29 : decode cX5_close 29 = .ok (.aload_n 0, 1) := by decide +kernel
theorem dX5_close_30 : decode cX5_close 30 = .ok (.getfield 16, 3) := by decide +kernel
theorem dX5_close_33 : decode cX5_close 33 = .ok (.iload_n 1, 1) := by decide +kernel
theorem dX5_close_34 : decode cX5_close 34 = .ok (.invokevirtual 262, 3) := by decide +kernel
theorem dX5_close_37 : decode cX5_close 37 = .ok (.ifCond .ne 14, 3) := by decide +kernel
theorem dX5_close_40 : decode cX5_close 40 = .ok (.new 71, 3) := by decide +kernel
theorem dX5_close_43 : decode cX5_close 43 = .ok (.dup, 1) := by decide +kernel
theorem dX5_close_44 : decode cX5_close 44 = .ok (.ldc_w 263, 3) := by decide +kernel
theorem dX5_close_47 : decode cX5_close 47 = .ok (.invokespecial 75, 3) := by decide +kernel
theorem dX5_close_50 : decode cX5_close 50 = .ok (.athrow, 1) := by decide +kernel
theorem dX5_close_51 : decode cX5_close 51 = .ok (.aload_n 0, 1) := by decide +kernel
theorem dX5_close_52 : decode cX5_close 52 = .ok (.getfield 16, 3) := by decide +kernel
theorem dX5_close_55 : decode cX5_close 55 = .ok (.iload_n 1, 1) := by decide +kernel
theorem dX5_close_56 : decode cX5_close 56 = .ok (.invokevirtual 102, 3) := by decide +kernel
theorem dX5_close_59 : decode cX5_close 59 = .ok (.aload_n 0, 1) := by decide +kernel
theorem dX5_close_60 : decode cX5_close 60 = .ok (.getfield 16, 3) := by decide +kernel
theorem dX5_close_63 : decode cX5_close 63 = .ok (.invokevirtual 265, 3) := by decide +kernel
theorem dX5_close_66 : decode cX5_close 66 = .ok (.ireturn, 1) := by decide +kernel
set_option maxRecDepth 20000 in
theorem ggX5_begin_X5_checkCrew : GoodIn wsX5_begin wsX5_checkCrew := goodIn_ca (goodIn_r _ [8, 9, 10, 11, 12, 7, 13] (by decide +kernel) (by decide +kernel)) (goodIn_sub (fun _ h => List.mem_cons_of_mem _ (List.mem_append_right _ h)) (by decide +kernel))
set_option maxRecDepth 20000 in
theorem gX5_begin_X5_checkCrew : GoodIn wsX5_begin (va_wsS RX5 268 yX5_checkCrew wsX5_checkCrew) := goodIn_app (goodIn_of _ (by decide +kernel)) ggX5_begin_X5_checkCrew
set_option maxRecDepth 20000 in
theorem ggX5_begin_X1_crewOnDuty : GoodIn wsX5_begin wsX1_crewOnDuty := goodIn_r _ [18, 19, 32, 33, 34, 35] (by decide +kernel) (by decide +kernel)
set_option maxRecDepth 20000 in
theorem gX5_begin_X1_crewOnDuty : GoodIn wsX5_begin (wsV RX5 271 RX1 yX1_crewOnDuty wsX1_crewOnDuty) := goodIn_app (goodIn_of _ (by decide +kernel)) ggX5_begin_X1_crewOnDuty
set_option maxRecDepth 20000 in
theorem ggX5_begin_X1_startShift : GoodIn wsX5_begin wsX1_startShift := goodIn_r _ [23, 19, 24, 32, 33, 34, 35] (by decide +kernel) (by decide +kernel)
set_option maxRecDepth 20000 in
theorem gX5_begin_X1_startShift : GoodIn wsX5_begin (wsV RX5 276 RX1 yX1_startShift wsX1_startShift) := goodIn_app (goodIn_of _ (by decide +kernel)) ggX5_begin_X1_startShift
theorem dX5_begin_0 : decode cX5_begin 0 = .ok (.iload_n 1, 1) := by decide +kernel
theorem dX5_begin_1 : decode cX5_begin 1 = .ok (.invokestatic 268, 3) := by decide +kernel
theorem dX5_begin_4 : decode cX5_begin 4 = .ok (.aload_n 0, 1) := by decide +kernel
theorem dX5_begin_5 : decode cX5_begin 5 = .ok (.getfield 44, 3) := by decide +kernel
theorem dX5_begin_8 : decode cX5_begin 8 = .ok (.invokevirtual 271, 3) := by decide +kernel
theorem dX5_begin_11 : decode cX5_begin 11 = .ok (.iconst (-1), 1) := by decide +kernel
theorem dX5_begin_12 : decode cX5_begin 12 = .ok (.if_icmp .eq 14, 3) := by decide +kernel
theorem dX5_begin_15 : decode cX5_begin 15 = .ok (.new 71, 3) := by decide +kernel
theorem dX5_begin_18 : decode cX5_begin 18 = .ok (.dup, 1) := by decide +kernel
theorem dX5_begin_19 : decode cX5_begin 19 = .ok (.ldc_w 274, 3) := by decide +kernel
theorem dX5_begin_22 : decode cX5_begin 22 = .ok (.invokespecial 75, 3) := by decide +kernel
theorem dX5_begin_25 : decode cX5_begin 25 = .ok (.athrow, 1) := by decide +kernel
theorem dX5_begin_26 : decode cX5_begin 26 = .ok (.aload_n 0, 1) := by decide +kernel
theorem dX5_begin_27 : decode cX5_begin 27 = .ok (.getfield 44, 3) := by decide +kernel
theorem dX5_begin_30 : decode cX5_begin 30 = .ok (.iload_n 1, 1) := by decide +kernel
theorem dX5_begin_31 : decode cX5_begin 31 = .ok (.aload_n 0, 1) := by decide +kernel
theorem dX5_begin_32 : decode cX5_begin 32 = .ok (.getfield 81, 3) := by decide +kernel
theorem dX5_begin_35 : decode cX5_begin 35 = .ok (.invokevirtual 276, 3) := by decide +kernel
theorem dX5_begin_38 : decode cX5_begin 38 = .ok (.aload_n 0, 1) := by decide +kernel
theorem dX5_begin_39 : decode cX5_begin 39 = .ok (.getfield 81, 3) := by decide +kernel
theorem dX5_begin_42 : decode cX5_begin 42 = .ok (.ireturn, 1) := by decide +kernel
set_option maxRecDepth 20000 in
theorem ggX5_handOver_X5_checkCrew : GoodIn wsX5_handOver wsX5_checkCrew := goodIn_ca (goodIn_r _ [11, 12, 13, 14, 15, 10, 16] (by decide +kernel) (by decide +kernel)) (goodIn_sub (fun _ h => List.mem_cons_of_mem _ (List.mem_append_left _ (List.mem_append_right _ h))) (by decide +kernel))
set_option maxRecDepth 20000 in
theorem gX5_handOver_X5_checkCrew : GoodIn wsX5_handOver (va_wsS RX5 268 yX5_checkCrew wsX5_checkCrew) := goodIn_app (goodIn_of _ (by decide +kernel)) ggX5_handOver_X5_checkCrew
set_option maxRecDepth 20000 in
theorem ggX5_handOver_X5_checkAtWork : GoodIn wsX5_handOver wsX5_checkAtWork := goodIn_ca (goodIn_r _ [20, 1, 2, 5, 21, 22, 23, 24, 25, 26, 27, 52, 53, 54, 55, 56, 57, 58, 59, 60, 61, 62] (by decide +kernel) (by decide +kernel)) (goodIn_sub (fun _ h => List.mem_cons_of_mem _ (List.mem_append_left _ (List.mem_append_left _ (List.mem_append_left _ (List.mem_append_right _ h))))) (by decide +kernel))
set_option maxRecDepth 20000 in
theorem gX5_handOver_X5_checkAtWork : GoodIn wsX5_handOver (wsV RX5 205 RX5 yX5_checkAtWork wsX5_checkAtWork) := goodIn_app (goodIn_of _ (by decide +kernel)) ggX5_handOver_X5_checkAtWork
set_option maxRecDepth 20000 in
theorem ggX5_handOver_X1_crewOnDuty : GoodIn wsX5_handOver wsX1_crewOnDuty := goodIn_r _ [31, 26, 59, 60, 61, 62] (by decide +kernel) (by decide +kernel)
set_option maxRecDepth 20000 in
theorem gX5_handOver_X1_crewOnDuty : GoodIn wsX5_handOver (wsV RX5 271 RX1 yX1_crewOnDuty wsX1_crewOnDuty) := goodIn_app (goodIn_of _ (by decide +kernel)) ggX5_handOver_X1_crewOnDuty
set_option maxRecDepth 20000 in
theorem ggX5_handOver_X1_restOf : GoodIn wsX5_handOver wsX1_restOf := goodIn_ca (goodIn_r _ [35, 36, 15, 10, 16, 59, 60, 61, 62] (by decide +kernel) (by decide +kernel)) (goodIn_sub (fun _ h => List.mem_cons_of_mem _ (List.mem_append_right _ h)) (by decide +kernel))
set_option maxRecDepth 20000 in
theorem gX5_handOver_X1_restOf : GoodIn wsX5_handOver (wsV RX5 281 RX1 yX1_restOf wsX1_restOf) := goodIn_app (goodIn_of _ (by decide +kernel)) ggX5_handOver_X1_restOf
set_option maxRecDepth 20000 in
theorem ggX5_handOver_X1_startHandOver : GoodIn wsX5_handOver wsX1_startHandOver := goodIn_r _ [40, 27, 59, 60, 61, 62] (by decide +kernel) (by decide +kernel)
set_option maxRecDepth 20000 in
theorem gX5_handOver_X1_startHandOver : GoodIn wsX5_handOver (wsV RX5 286 RX1 yX1_startHandOver wsX1_startHandOver) := goodIn_app (goodIn_of _ (by decide +kernel)) ggX5_handOver_X1_startHandOver
set_option maxRecDepth 20000 in
theorem ggX5_handOver_X2_forgetAcknowledged : GoodIn wsX5_handOver wsX2_forgetAcknowledged := goodIn_ca (goodIn_r _ [45, 46, 63, 64, 65, 66, 67, 68, 69, 70, 71] (by decide +kernel) (by decide +kernel)) (goodIn_sub (fun _ h => List.mem_cons_of_mem _ (List.mem_append_right _ h)) (by decide +kernel))
set_option maxRecDepth 20000 in
theorem gX5_handOver_X2_forgetAcknowledged : GoodIn wsX5_handOver (wsV RX5 289 RX2 yX2_forgetAcknowledged wsX2_forgetAcknowledged) := goodIn_app (goodIn_of _ (by decide +kernel)) ggX5_handOver_X2_forgetAcknowledged
set_option maxRecDepth 20000 in
theorem ggX5_handOver_X2_openCount : GoodIn wsX5_handOver wsX2_openCount := goodIn_r _ [50, 51, 63, 64, 65, 66, 67, 68, 69, 70, 71] (by decide +kernel) (by decide +kernel)
set_option maxRecDepth 20000 in
theorem gX5_handOver_X2_openCount : GoodIn wsX5_handOver (wsV RX5 265 RX2 yX2_openCount wsX2_openCount) := goodIn_app (goodIn_of _ (by decide +kernel)) ggX5_handOver_X2_openCount
theorem dX5_handOver_0 : decode cX5_handOver 0 = .ok (.iload_n 1, 1) := by decide +kernel
theorem dX5_handOver_1 : decode cX5_handOver 1 = .ok (.invokestatic 268, 3) := by decide +kernel
theorem dX5_handOver_4 : decode cX5_handOver 4 = .ok (.aload_n 0, 1) := by decide +kernel
theorem dX5_handOver_5 : decode cX5_handOver 5 = .ok (.invokevirtual 205, 3) := by decide +kernel
theorem dX5_handOver_8 : decode cX5_handOver 8 = .ok (.aload_n 0, 1) := by decide +kernel
theorem dX5_handOver_9 : decode cX5_handOver 9 = .ok (.getfield 44, 3) := by decide +kernel
theorem dX5_handOver_12 : decode cX5_handOver 12 = .ok (.invokevirtual 271, 3) := by decide +kernel
theorem dX5_handOver_15 : decode cX5_handOver 15 = .ok (.iload_n 1, 1) := by decide +kernel
theorem dX5_handOver_16 : decode cX5_handOver 16 = .ok (.if_icmp .ne 14, 3) := by decide +kernel
theorem dX5_handOver_19 : decode cX5_handOver 19 = .ok (.new 71, 3) := by decide +kernel
theorem dX5_handOver_22 : decode cX5_handOver 22 = .ok (.dup, 1) := by decide +kernel
theorem dX5_handOver_23 : decode cX5_handOver 23 = .ok (.ldc_w 279, 3) := by decide +kernel
theorem dX5_handOver_26 : decode cX5_handOver 26 = .ok (.invokespecial 75, 3) := by decide +kernel
theorem dX5_handOver_29 : decode cX5_handOver 29 = .ok (.athrow, 1) := by decide +kernel
theorem dX5_handOver_30 : decode cX5_handOver 30 = .ok (.aload_n 0, 1) := by decide +kernel
theorem dX5_handOver_31 : decode cX5_handOver 31 = .ok (.getfield 44, 3) := by decide +kernel
theorem dX5_handOver_34 : decode cX5_handOver 34 = .ok (.iload_n 1, 1) := by decide +kernel
theorem dX5_handOver_35 : decode cX5_handOver 35 = .ok (.aload_n 0, 1) := by decide +kernel
theorem dX5_handOver_36 : decode cX5_handOver 36 = .ok (.getfield 81, 3) := by decide +kernel
theorem dX5_handOver_39 : decode cX5_handOver 39 = .ok (.invokevirtual 281, 3) := by decide +kernel
theorem dX5_handOver_42 : decode cX5_handOver 42 = .ok (.ifCond .le 14, 3) := by decide +kernel
theorem dX5_handOver_45 : decode cX5_handOver 45 = .ok (.new 208, 3) := by decide +kernel
theorem dX5_handOver_48 : decode cX5_handOver 48 = .ok (.dup, 1) := by decide +kernel
theorem dX5_handOver_49 : decode cX5_handOver 49 = .ok (.ldc_w 284, 3) := by decide +kernel
theorem dX5_handOver_52 : decode cX5_handOver 52 = .ok (.invokespecial 212, 3) := by decide +kernel
theorem dX5_handOver_55 : decode cX5_handOver 55 = .ok (.athrow, 1) := by decide +kernel
theorem dX5_handOver_56 : decode cX5_handOver 56 = .ok (.aload_n 0, 1) := by decide +kernel
theorem dX5_handOver_57 : decode cX5_handOver 57 = .ok (.getfield 44, 3) := by decide +kernel
theorem dX5_handOver_60 : decode cX5_handOver 60 = .ok (.iload_n 1, 1) := by decide +kernel
theorem dX5_handOver_61 : decode cX5_handOver 61 = .ok (.invokevirtual 286, 3) := by decide +kernel
theorem dX5_handOver_64 : decode cX5_handOver 64 = .ok (.aload_n 0, 1) := by decide +kernel
theorem dX5_handOver_65 : decode cX5_handOver 65 = .ok (.getfield 16, 3) := by decide +kernel
theorem dX5_handOver_68 : decode cX5_handOver 68 = .ok (.invokevirtual 289, 3) := by decide +kernel
theorem dX5_handOver_71 : decode cX5_handOver 71 = .ok (.aload_n 0, 1) := by decide +kernel
theorem dX5_handOver_72 : decode cX5_handOver 72 = .ok (.getfield 16, 3) := by decide +kernel
theorem dX5_handOver_75 : decode cX5_handOver 75 = .ok (.invokevirtual 265, 3) := by decide +kernel
theorem dX5_handOver_78 : decode cX5_handOver 78 = .ok (.ireturn, 1) := by decide +kernel
set_option maxRecDepth 20000 in
theorem ggX5_acknowledge_X5_checkLine : GoodIn wsX5_acknowledge wsX5_checkLine := goodIn_ca (goodIn_r _ [8, 9, 10, 3, 11, 12, 13, 14, 15, 16, 53, 54, 55, 56, 57, 58, 59, 60, 61, 62, 63, 64, 65, 66, 67, 68] (by decide +kernel) (by decide +kernel)) (goodIn_sub (fun _ h => List.mem_cons_of_mem _ (List.mem_append_left _ (List.mem_append_right _ h))) (by decide +kernel))
set_option maxRecDepth 20000 in
theorem gX5_acknowledge_X5_checkLine : GoodIn wsX5_acknowledge (wsV RX5 254 RX5 yX5_checkLine wsX5_checkLine) := goodIn_app (goodIn_of _ (by decide +kernel)) ggX5_acknowledge_X5_checkLine
set_option maxRecDepth 20000 in
theorem ggX5_acknowledge_X5_checkHandOver : GoodIn wsX5_acknowledge wsX5_checkHandOver := goodIn_ca (goodIn_r _ [20, 1, 2, 21, 22, 23, 24, 25, 26, 27, 53, 54, 55, 56, 57, 58, 59, 69, 70, 71, 72] (by decide +kernel) (by decide +kernel)) (goodIn_sub (fun _ h => List.mem_cons_of_mem _ (List.mem_append_left _ (List.mem_append_left _ (List.mem_append_right _ h)))) (by decide +kernel))
set_option maxRecDepth 20000 in
theorem gX5_acknowledge_X5_checkHandOver : GoodIn wsX5_acknowledge (wsV RX5 292 RX5 yX5_checkHandOver wsX5_checkHandOver) := goodIn_app (goodIn_of _ (by decide +kernel)) ggX5_acknowledge_X5_checkHandOver
set_option maxRecDepth 20000 in
theorem ggX5_acknowledge_X2_isOpen : GoodIn wsX5_acknowledge wsX2_isOpen := goodIn_ca (goodIn_r _ [31, 32, 33, 12, 13, 14, 15, 16, 60, 61, 62, 63, 64, 65, 66, 67, 68] (by decide +kernel) (by decide +kernel)) (goodIn_sub (fun _ h => List.mem_cons_of_mem _ (List.mem_append_right _ h)) (by decide +kernel))
set_option maxRecDepth 20000 in
theorem gX5_acknowledge_X2_isOpen : GoodIn wsX5_acknowledge (wsV RX5 262 RX2 yX2_isOpen wsX2_isOpen) := goodIn_app (goodIn_of _ (by decide +kernel)) ggX5_acknowledge_X2_isOpen
set_option maxRecDepth 20000 in
theorem ggX5_acknowledge_X2_isAcknowledged : GoodIn wsX5_acknowledge wsX2_isAcknowledged := goodIn_ca (goodIn_r _ [37, 38, 33, 12, 13, 14, 15, 16, 60, 61, 62, 63, 64, 65, 66, 67, 68] (by decide +kernel) (by decide +kernel)) (goodIn_sub (fun _ h => List.mem_cons_of_mem _ (List.mem_append_right _ h)) (by decide +kernel))
set_option maxRecDepth 20000 in
theorem gX5_acknowledge_X2_isAcknowledged : GoodIn wsX5_acknowledge (wsV RX5 295 RX2 yX2_isAcknowledged wsX2_isAcknowledged) := goodIn_app (goodIn_of _ (by decide +kernel)) ggX5_acknowledge_X2_isAcknowledged
set_option maxRecDepth 20000 in
theorem ggX5_acknowledge_X2_markAcknowledged : GoodIn wsX5_acknowledge wsX2_markAcknowledged := goodIn_ca (goodIn_r _ [42, 38, 33, 12, 13, 14, 15, 16, 60, 61, 62, 63, 64, 65, 66, 67, 68] (by decide +kernel) (by decide +kernel)) (goodIn_sub (fun _ h => List.mem_cons_of_mem _ (List.mem_append_right _ h)) (by decide +kernel))
set_option maxRecDepth 20000 in
theorem gX5_acknowledge_X2_markAcknowledged : GoodIn wsX5_acknowledge (wsV RX5 300 RX2 yX2_markAcknowledged wsX2_markAcknowledged) := goodIn_app (goodIn_of _ (by decide +kernel)) ggX5_acknowledge_X2_markAcknowledged
set_option maxRecDepth 20000 in
theorem ggX5_acknowledge_X2_openCount : GoodIn wsX5_acknowledge wsX2_openCount := goodIn_r _ [46, 47, 60, 61, 62, 63, 64, 65, 66, 67, 68] (by decide +kernel) (by decide +kernel)
set_option maxRecDepth 20000 in
theorem gX5_acknowledge_X2_openCount : GoodIn wsX5_acknowledge (wsV RX5 265 RX2 yX2_openCount wsX2_openCount) := goodIn_app (goodIn_of _ (by decide +kernel)) ggX5_acknowledge_X2_openCount
set_option maxRecDepth 20000 in
theorem ggX5_acknowledge_X2_acknowledgedCount : GoodIn wsX5_acknowledge wsX2_acknowledgedCount := goodIn_ca (goodIn_r _ [51, 38, 52, 29, 30, 14, 31, 32, 33, 12, 13, 15, 16, 60, 61, 62, 63, 64, 65, 66, 67, 68] (by decide +kernel) (by decide +kernel)) (goodIn_sub (fun _ h => List.mem_cons_of_mem _ (List.mem_append_right _ h)) (by decide +kernel))
set_option maxRecDepth 20000 in
theorem gX5_acknowledge_X2_acknowledgedCount : GoodIn wsX5_acknowledge (wsV RX5 303 RX2 yX2_acknowledgedCount wsX2_acknowledgedCount) := goodIn_app (goodIn_of _ (by decide +kernel)) ggX5_acknowledge_X2_acknowledgedCount
theorem dX5_acknowledge_0 : decode cX5_acknowledge 0 = .ok (.aload_n 0, 1) := by decide +kernel
theorem dX5_acknowledge_1 : decode cX5_acknowledge 1 = .ok (.iload_n 1, 1) := by decide +kernel
theorem dX5_acknowledge_2 : decode cX5_acknowledge 2 = .ok (.invokevirtual 254, 3) := by decide +kernel
theorem dX5_acknowledge_5 : decode cX5_acknowledge 5 = .ok (.aload_n 0, 1) := by decide +kernel
theorem dX5_acknowledge_6 : decode cX5_acknowledge 6 = .ok (.invokevirtual 292, 3) := by decide +kernel
theorem dX5_acknowledge_9 : decode cX5_acknowledge 9 = .ok (.aload_n 0, 1) := by decide +kernel
theorem dX5_acknowledge_10 : decode cX5_acknowledge 10 = .ok (.getfield 16, 3) := by decide +kernel
theorem dX5_acknowledge_13 : decode cX5_acknowledge 13 = .ok (.iload_n 1, 1) := by decide +kernel
theorem dX5_acknowledge_14 : decode cX5_acknowledge 14 = .ok (.invokevirtual 262, 3) := by decide +kernel
theorem dX5_acknowledge_17 : decode cX5_acknowledge 17 = .ok (.ifCond .eq 14, 3) := by decide +kernel
theorem dX5_acknowledge_20 : decode cX5_acknowledge 20 = .ok (.aload_n 0, 1) := by decide +kernel
theorem dX5_acknowledge_21 : decode cX5_acknowledge 21 = .ok (.getfield 16, 3) := by decide +kernel
theorem dX5_acknowledge_24 : decode cX5_acknowledge 24 = .ok (.iload_n 1, 1) := by decide +kernel
theorem dX5_acknowledge_25 : decode cX5_acknowledge 25 = .ok (.invokevirtual 295, 3) := by decide +kernel
theorem dX5_acknowledge_28 : decode cX5_acknowledge 28 = .ok (.ifCond .eq 14, 3) := by decide +kernel
theorem dX5_acknowledge_31 : decode cX5_acknowledge 31 = .ok (.new 71, 3) := by decide +kernel
theorem dX5_acknowledge_34 : decode cX5_acknowledge 34 = .ok (.dup, 1) := by decide +kernel
theorem dX5_acknowledge_35 : decode cX5_acknowledge 35 = .ok (.ldc_w 298, 3) := by decide +kernel
theorem dX5_acknowledge_38 : decode cX5_acknowledge 38 = .ok (.invokespecial 75, 3) := by decide +kernel
theorem dX5_acknowledge_41 : decode cX5_acknowledge 41 = .ok (.athrow, 1) := by decide +kernel
theorem dX5_acknowledge_42 : decode cX5_acknowledge 42 = .ok (.aload_n 0, 1) := by decide +kernel
theorem dX5_acknowledge_43 : decode cX5_acknowledge 43 = .ok (.getfield 16, 3) := by decide +kernel
theorem dX5_acknowledge_46 : decode cX5_acknowledge 46 = .ok (.iload_n 1, 1) := by decide +kernel
theorem dX5_acknowledge_47 : decode cX5_acknowledge 47 = .ok (.invokevirtual 300, 3) := by decide +kernel
theorem dX5_acknowledge_50 : decode cX5_acknowledge 50 = .ok (.aload_n 0, 1) := by decide +kernel
theorem dX5_acknowledge_51 : decode cX5_acknowledge 51 = .ok (.getfield 16, 3) := by decide +kernel
theorem dX5_acknowledge_54 : decode cX5_acknowledge 54 = .ok (.invokevirtual 265, 3) := by decide +kernel
theorem dX5_acknowledge_57 : decode cX5_acknowledge 57 = .ok (.aload_n 0, 1) := by decide +kernel
theorem dX5_acknowledge_58 : decode cX5_acknowledge 58 = .ok (.getfield 16, 3) := by decide +kernel
theorem dX5_acknowledge_61 : decode cX5_acknowledge 61 = .ok (.invokevirtual 303, 3) := by decide +kernel
theorem dX5_acknowledge_64 : decode cX5_acknowledge 64 = .ok (.isub, 1) := by decide +kernel
theorem dX5_acknowledge_65 : decode cX5_acknowledge 65 = .ok (.ireturn, 1) := by decide +kernel
set_option maxRecDepth 20000 in
theorem ggX5_take_X5_checkHandOver : GoodIn wsX5_take wsX5_checkHandOver := goodIn_ca (goodIn_r _ [10, 11, 12, 4, 13, 14, 15, 16, 17, 18, 62, 63, 64, 65, 66, 67, 68, 69, 70, 71, 72] (by decide +kernel) (by decide +kernel)) (goodIn_sub (fun _ h => List.mem_cons_of_mem _ (List.mem_append_left _ (List.mem_append_right _ h))) (by decide +kernel))
set_option maxRecDepth 20000 in
theorem gX5_take_X5_checkHandOver : GoodIn wsX5_take (wsV RX5 292 RX5 yX5_checkHandOver wsX5_checkHandOver) := goodIn_app (goodIn_of _ (by decide +kernel)) ggX5_take_X5_checkHandOver
set_option maxRecDepth 20000 in
theorem ggX5_take_X2_acknowledgedCount : GoodIn wsX5_take wsX2_acknowledgedCount := goodIn_ca (goodIn_r _ [23, 24, 25, 26, 27, 22, 28, 29, 30, 31, 32, 33, 34, 73, 74, 75, 76, 77, 78, 79, 80, 81] (by decide +kernel) (by decide +kernel)) (goodIn_sub (fun _ h => List.mem_cons_of_mem _ (List.mem_append_right _ h)) (by decide +kernel))
set_option maxRecDepth 20000 in
theorem gX5_take_X2_acknowledgedCount : GoodIn wsX5_take (wsV RX5 303 RX2 yX2_acknowledgedCount wsX2_acknowledgedCount) := goodIn_app (goodIn_of _ (by decide +kernel)) ggX5_take_X2_acknowledgedCount
set_option maxRecDepth 20000 in
theorem ggX5_take_X2_openCount : GoodIn wsX5_take wsX2_openCount := goodIn_r _ [38, 39, 73, 74, 75, 76, 77, 78, 79, 80, 81] (by decide +kernel) (by decide +kernel)
set_option maxRecDepth 20000 in
theorem gX5_take_X2_openCount : GoodIn wsX5_take (wsV RX5 265 RX2 yX2_openCount wsX2_openCount) := goodIn_app (goodIn_of _ (by decide +kernel)) ggX5_take_X2_openCount
set_option maxRecDepth 20000 in
theorem ggX5_take_X1_changeShift : GoodIn wsX5_take wsX1_changeShift := goodIn_ca (goodIn_r _ [43, 44, 45, 18, 46, 9, 47, 48, 49, 50, 16, 51, 52, 53, 54, 55, 56, 69, 70, 71, 72] (by decide +kernel) (by decide +kernel)) (goodIn_sub (fun _ h => List.mem_cons_of_mem _ (List.mem_append_right _ h)) (by decide +kernel))
set_option maxRecDepth 20000 in
theorem gX5_take_X1_changeShift : GoodIn wsX5_take (wsV RX5 308 RX1 yX1_changeShift wsX1_changeShift) := goodIn_app (goodIn_of _ (by decide +kernel)) ggX5_take_X1_changeShift
set_option maxRecDepth 20000 in
theorem ggX5_take_X2_countHandOver : GoodIn wsX5_take wsX2_countHandOver := goodIn_ca (goodIn_r _ [60, 61, 25, 26, 27, 22, 28, 29, 30, 31, 32, 33, 34, 73, 74, 75, 76, 77, 78, 79, 80, 81] (by decide +kernel) (by decide +kernel)) (goodIn_sub (fun _ h => List.mem_cons_of_mem _ (List.mem_append_right _ h)) (by decide +kernel))
set_option maxRecDepth 20000 in
theorem gX5_take_X2_countHandOver : GoodIn wsX5_take (wsV RX5 311 RX2 yX2_countHandOver wsX2_countHandOver) := goodIn_app (goodIn_of _ (by decide +kernel)) ggX5_take_X2_countHandOver
theorem dX5_take_0 : decode cX5_take 0 = .ok (.aload_n 0, 1) := by decide +kernel
theorem dX5_take_1 : decode cX5_take 1 = .ok (.invokevirtual 292, 3) := by decide +kernel
theorem dX5_take_4 : decode cX5_take 4 = .ok (.aload_n 0, 1) := by decide +kernel
theorem dX5_take_5 : decode cX5_take 5 = .ok (.getfield 16, 3) := by decide +kernel
theorem dX5_take_8 : decode cX5_take 8 = .ok (.invokevirtual 303, 3) := by decide +kernel
theorem dX5_take_11 : decode cX5_take 11 = .ok (.aload_n 0, 1) := by decide +kernel
theorem dX5_take_12 : decode cX5_take 12 = .ok (.getfield 16, 3) := by decide +kernel
theorem dX5_take_15 : decode cX5_take 15 = .ok (.invokevirtual 265, 3) := by decide +kernel
theorem dX5_take_18 : decode cX5_take 18 = .ok (.if_icmp .ge 14, 3) := by decide +kernel
theorem dX5_take_21 : decode cX5_take 21 = .ok (.new 208, 3) := by decide +kernel
theorem dX5_take_24 : decode cX5_take 24 = .ok (.dup, 1) := by decide +kernel
theorem dX5_take_25 : decode cX5_take 25 = .ok (.ldc_w 306, 3) := by decide +kernel
theorem dX5_take_28 : decode cX5_take 28 = .ok (.invokespecial 212, 3) := by decide +kernel
theorem dX5_take_31 : decode cX5_take 31 = .ok (.athrow, 1) := by decide +kernel
theorem dX5_take_32 : decode cX5_take 32 = .ok (.aload_n 0, 1) := by decide +kernel
theorem dX5_take_33 : decode cX5_take 33 = .ok (.getfield 44, 3) := by decide +kernel
theorem dX5_take_36 : decode cX5_take 36 = .ok (.aload_n 0, 1) := by decide +kernel
theorem dX5_take_37 : decode cX5_take 37 = .ok (.getfield 81, 3) := by decide +kernel
theorem dX5_take_40 : decode cX5_take 40 = .ok (.invokevirtual 308, 3) := by decide +kernel
theorem dX5_take_43 : decode cX5_take 43 = .ok (.aload_n 0, 1) := by decide +kernel
theorem dX5_take_44 : decode cX5_take 44 = .ok (.getfield 16, 3) := by decide +kernel
theorem dX5_take_47 : decode cX5_take 47 = .ok (.invokevirtual 311, 3) := by decide +kernel
theorem dX5_take_50 : decode cX5_take 50 = .ok (.aload_n 0, 1) := by decide +kernel
theorem dX5_take_51 : decode cX5_take 51 = .ok (.getfield 16, 3) := by decide +kernel
theorem dX5_take_54 : decode cX5_take 54 = .ok (.invokevirtual 265, 3) := by decide +kernel
theorem dX5_take_57 : decode cX5_take 57 = .ok (.ireturn, 1) := by decide +kernel
set_option maxRecDepth 20000 in
theorem ggX5_cancel_X5_checkHandOver : GoodIn wsX5_cancel wsX5_checkHandOver := goodIn_ca (goodIn_r _ [7, 8, 9, 1, 10, 11, 12, 13, 14, 15, 36, 37, 38, 39, 40, 41, 42, 43, 44, 45, 46] (by decide +kernel) (by decide +kernel)) (goodIn_sub (fun _ h => List.mem_cons_of_mem _ (List.mem_append_left _ (List.mem_append_right _ h))) (by decide +kernel))
set_option maxRecDepth 20000 in
theorem gX5_cancel_X5_checkHandOver : GoodIn wsX5_cancel (wsV RX5 292 RX5 yX5_checkHandOver wsX5_checkHandOver) := goodIn_app (goodIn_of _ (by decide +kernel)) ggX5_cancel_X5_checkHandOver
set_option maxRecDepth 20000 in
theorem ggX5_cancel_X1_stopHandOver : GoodIn wsX5_cancel wsX1_stopHandOver := goodIn_r _ [19, 15, 43, 44, 45, 46] (by decide +kernel) (by decide +kernel)
set_option maxRecDepth 20000 in
theorem gX5_cancel_X1_stopHandOver : GoodIn wsX5_cancel (wsV RX5 314 RX1 yX1_stopHandOver wsX1_stopHandOver) := goodIn_app (goodIn_of _ (by decide +kernel)) ggX5_cancel_X1_stopHandOver
set_option maxRecDepth 20000 in
theorem ggX5_cancel_X2_acknowledgedCount : GoodIn wsX5_cancel wsX2_acknowledgedCount := goodIn_ca (goodIn_r _ [24, 25, 26, 27, 28, 23, 29, 30, 31, 32, 33, 34, 35, 47, 48, 49, 50, 51, 52, 53, 54, 55] (by decide +kernel) (by decide +kernel)) (goodIn_sub (fun _ h => List.mem_cons_of_mem _ (List.mem_append_right _ h)) (by decide +kernel))
set_option maxRecDepth 20000 in
theorem gX5_cancel_X2_acknowledgedCount : GoodIn wsX5_cancel (wsV RX5 303 RX2 yX2_acknowledgedCount wsX2_acknowledgedCount) := goodIn_app (goodIn_of _ (by decide +kernel)) ggX5_cancel_X2_acknowledgedCount
theorem dX5_cancel_0 : decode cX5_cancel 0 = .ok (.aload_n 0, 1) := by decide +kernel
theorem dX5_cancel_1 : decode cX5_cancel 1 = .ok (.invokevirtual 292, 3) := by decide +kernel
theorem dX5_cancel_4 : decode cX5_cancel 4 = .ok (.aload_n 0, 1) := by decide +kernel
theorem dX5_cancel_5 : decode cX5_cancel 5 = .ok (.getfield 44, 3) := by decide +kernel
theorem dX5_cancel_8 : decode cX5_cancel 8 = .ok (.invokevirtual 314, 3) := by decide +kernel
theorem dX5_cancel_11 : decode cX5_cancel 11 = .ok (.aload_n 0, 1) := by decide +kernel
theorem dX5_cancel_12 : decode cX5_cancel 12 = .ok (.getfield 16, 3) := by decide +kernel
theorem dX5_cancel_15 : decode cX5_cancel 15 = .ok (.invokevirtual 303, 3) := by decide +kernel
theorem dX5_cancel_18 : decode cX5_cancel 18 = .ok (.ireturn, 1) := by decide +kernel
set_option maxRecDepth 20000 in
theorem ggX5_pass_X0_countOnShelf : GoodIn wsX5_pass wsX0_countOnShelf := goodIn_ca (goodIn_r _ [9, 10, 11, 12, 8, 13, 14, 15, 16, 17, 18, 19, 20, 21, 22, 30, 31, 32] (by decide +kernel) (by decide +kernel)) (goodIn_sub (fun _ h => List.mem_cons_of_mem _ (List.mem_append_right _ h)) (by decide +kernel))
set_option maxRecDepth 20000 in
theorem gX5_pass_X0_countOnShelf : GoodIn wsX5_pass (wsV RX5 317 RX0 yX0_countOnShelf wsX0_countOnShelf) := goodIn_app (goodIn_of _ (by decide +kernel)) ggX5_pass_X0_countOnShelf
theorem dX5_pass_0 : decode cX5_pass 0 = .ok (.iload_n 1, 1) := by decide +kernel
theorem dX5_pass_1 : decode cX5_pass 1 = .ok (.iconst 1, 1) := by decide +kernel
theorem dX5_pass_2 : decode cX5_pass 2 = .ok (.if_icmp .lt 9, 3) := by decide +kernel
theorem dX5_pass_5 : decode cX5_pass 5 = .ok (.iload_n 1, 1) := by decide +kernel
theorem dX5_pass_6 : decode cX5_pass 6 = .ok (.bipush 48, 2) := by decide +kernel
theorem dX5_pass_8 : decode cX5_pass 8 = .ok (.if_icmp .le 13, 3) := by decide +kernel
theorem dX5_pass_11 : decode cX5_pass 11 = .ok (.new 105, 3) := by decide +kernel
theorem dX5_pass_14 : decode cX5_pass 14 = .ok (.dup, 1) := by decide +kernel
theorem dX5_pass_15 : decode cX5_pass 15 = .ok (.ldc 107, 2) := by decide +kernel
theorem dX5_pass_17 : decode cX5_pass 17 = .ok (.invokespecial 109, 3) := by decide +kernel
theorem dX5_pass_20 : decode cX5_pass 20 = .ok (.athrow, 1) := by decide +kernel
theorem dX5_pass_21 : decode cX5_pass 21 = .ok (.aload_n 0, 1) := by decide +kernel
theorem dX5_pass_22 : decode cX5_pass 22 = .ok (.getfield 23, 3) := by decide +kernel
theorem dX5_pass_25 : decode cX5_pass 25 = .ok (.aload_n 0, 1) := by decide +kernel
theorem dX5_pass_26 : decode cX5_pass 26 = .ok (.getfield 81, 3) := by decide +kernel
theorem dX5_pass_29 : decode cX5_pass 29 = .ok (.invokevirtual 317, 3) := by decide +kernel
theorem dX5_pass_32 : decode cX5_pass 32 = .ok (.istore_n 2, 1) := by decide +kernel
theorem dX5_pass_33 : decode cX5_pass 33 = .ok (.aload_n 0, 1) := by decide +kernel
theorem dX5_pass_34 : decode cX5_pass 34 = .ok (.dup, 1) := by decide +kernel
theorem dX5_pass_35 : decode cX5_pass 35 = .ok (.getfield 81, 3) := by decide +kernel
theorem dX5_pass_38 : decode cX5_pass 38 = .ok (.iload_n 1, 1) := by decide +kernel
theorem dX5_pass_39 : decode cX5_pass 39 = .ok (.iadd, 1) := by decide +kernel
theorem dX5_pass_40 : decode cX5_pass 40 = .ok (.putfield 81, 3) := by decide +kernel
theorem dX5_pass_43 : decode cX5_pass 43 = .ok (.iload_n 2, 1) := by decide +kernel
theorem dX5_pass_44 : decode cX5_pass 44 = .ok (.aload_n 0, 1) := by decide +kernel
theorem dX5_pass_45 : decode cX5_pass 45 = .ok (.getfield 23, 3) := by decide +kernel
theorem dX5_pass_48 : decode cX5_pass 48 = .ok (.aload_n 0, 1) := by decide +kernel
theorem dX5_pass_49 : decode cX5_pass 49 = .ok (.getfield 81, 3) := by decide +kernel
theorem dX5_pass_52 : decode cX5_pass 52 = .ok (.invokevirtual 317, 3) := by decide +kernel
theorem dX5_pass_55 : decode cX5_pass 55 = .ok (.isub, 1) := by decide +kernel
theorem dX5_pass_56 : decode cX5_pass 56 = .ok (.ireturn, 1) := by decide +kernel
theorem dX5_hour_0 : decode cX5_hour 0 = .ok (.aload_n 0, 1) := by decide +kernel
theorem dX5_hour_1 : decode cX5_hour 1 = .ok (.getfield 81, 3) := by decide +kernel
theorem dX5_hour_4 : decode cX5_hour 4 = .ok (.ireturn, 1) := by decide +kernel
set_option maxRecDepth 20000 in
theorem ggX5_onDuty_X1_crewOnDuty : GoodIn wsX5_onDuty wsX1_crewOnDuty := goodIn_r _ [8, 9, 17, 18, 19, 20] (by decide +kernel) (by decide +kernel)
set_option maxRecDepth 20000 in
theorem gX5_onDuty_X1_crewOnDuty : GoodIn wsX5_onDuty (wsV RX5 271 RX1 yX1_crewOnDuty wsX1_crewOnDuty) := goodIn_app (goodIn_of _ (by decide +kernel)) ggX5_onDuty_X1_crewOnDuty
theorem dX5_onDuty_0 : decode cX5_onDuty 0 = .ok (.aload_n 0, 1) := by decide +kernel
theorem dX5_onDuty_1 : decode cX5_onDuty 1 = .ok (.getfield 44, 3) := by decide +kernel
theorem dX5_onDuty_4 : decode cX5_onDuty 4 = .ok (.invokevirtual 271, 3) := by decide +kernel
theorem dX5_onDuty_7 : decode cX5_onDuty 7 = .ok (.istore_n 1, 1) := by decide +kernel
theorem dX5_onDuty_8 : decode cX5_onDuty 8 = .ok (.iload_n 1, 1) := by decide +kernel
theorem dX5_onDuty_9 : decode cX5_onDuty 9 = .ok (.iconst (-1), 1) := by decide +kernel
theorem dX5_onDuty_10 : decode cX5_onDuty 10 = .ok (.if_icmp .ne 14, 3) := by decide +kernel
theorem dX5_onDuty_13 : decode cX5_onDuty 13 = .ok (.new 125, 3) := by decide +kernel
theorem dX5_onDuty_16 : decode cX5_onDuty 16 = .ok (.dup, 1) := by decide +kernel
theorem dX5_onDuty_17 : decode cX5_onDuty 17 = .ok (.ldc_w 320, 3) := by decide +kernel
theorem dX5_onDuty_20 : decode cX5_onDuty 20 = .ok (.invokespecial 129, 3) := by decide +kernel
theorem dX5_onDuty_23 : decode cX5_onDuty 23 = .ok (.athrow, 1) := by decide +kernel
theorem dX5_onDuty_24 : decode cX5_onDuty 24 = .ok (.iload_n 1, 1) := by decide +kernel
theorem dX5_onDuty_25 : decode cX5_onDuty 25 = .ok (.ireturn, 1) := by decide +kernel
set_option maxRecDepth 20000 in
theorem ggX5_isTired_X1_isWeary : GoodIn wsX5_isTired wsX1_isWeary := goodIn_r _ [7, 8, 9, 17, 18, 19, 20] (by decide +kernel) (by decide +kernel)
set_option maxRecDepth 20000 in
theorem gX5_isTired_X1_isWeary : GoodIn wsX5_isTired (wsV RX5 235 RX1 yX1_isWeary wsX1_isWeary) := goodIn_app (goodIn_of _ (by decide +kernel)) ggX5_isTired_X1_isWeary
theorem dX5_isTired_0 : decode cX5_isTired 0 = .ok (.aload_n 0, 1) := by decide +kernel
theorem dX5_isTired_1 : decode cX5_isTired 1 = .ok (.getfield 44, 3) := by decide +kernel
theorem dX5_isTired_4 : decode cX5_isTired 4 = .ok (.aload_n 0, 1) := by decide +kernel
theorem dX5_isTired_5 : decode cX5_isTired 5 = .ok (.getfield 81, 3) := by decide +kernel
theorem dX5_isTired_8 : decode cX5_isTired 8 = .ok (.invokevirtual 235, 3) := by decide +kernel
theorem dX5_isTired_11 : decode cX5_isTired 11 = .ok (.ireturn, 1) := by decide +kernel
set_option maxRecDepth 20000 in
theorem ggX5_restLeft_X5_checkCrew : GoodIn wsX5_restLeft wsX5_checkCrew := goodIn_ca (goodIn_r _ [6, 7, 8, 9, 10, 5, 11] (by decide +kernel) (by decide +kernel)) (goodIn_sub (fun _ h => List.mem_cons_of_mem _ (List.mem_append_left _ (List.mem_append_right _ h))) (by decide +kernel))
set_option maxRecDepth 20000 in
theorem gX5_restLeft_X5_checkCrew : GoodIn wsX5_restLeft (va_wsS RX5 268 yX5_checkCrew wsX5_checkCrew) := goodIn_app (goodIn_of _ (by decide +kernel)) ggX5_restLeft_X5_checkCrew
set_option maxRecDepth 20000 in
theorem ggX5_restLeft_X1_restOf : GoodIn wsX5_restLeft wsX1_restOf := goodIn_ca (goodIn_r _ [16, 17, 10, 5, 11, 25, 26, 27, 28] (by decide +kernel) (by decide +kernel)) (goodIn_sub (fun _ h => List.mem_cons_of_mem _ (List.mem_append_right _ h)) (by decide +kernel))
set_option maxRecDepth 20000 in
theorem gX5_restLeft_X1_restOf : GoodIn wsX5_restLeft (wsV RX5 281 RX1 yX1_restOf wsX1_restOf) := goodIn_app (goodIn_of _ (by decide +kernel)) ggX5_restLeft_X1_restOf
theorem dX5_restLeft_0 : decode cX5_restLeft 0 = .ok (.iload_n 1, 1) := by decide +kernel
theorem dX5_restLeft_1 : decode cX5_restLeft 1 = .ok (.invokestatic 268, 3) := by decide +kernel
theorem dX5_restLeft_4 : decode cX5_restLeft 4 = .ok (.aload_n 0, 1) := by decide +kernel
theorem dX5_restLeft_5 : decode cX5_restLeft 5 = .ok (.getfield 44, 3) := by decide +kernel
theorem dX5_restLeft_8 : decode cX5_restLeft 8 = .ok (.iload_n 1, 1) := by decide +kernel
theorem dX5_restLeft_9 : decode cX5_restLeft 9 = .ok (.aload_n 0, 1) := by decide +kernel
theorem dX5_restLeft_10 : decode cX5_restLeft 10 = .ok (.getfield 81, 3) := by decide +kernel
theorem dX5_restLeft_13 : decode cX5_restLeft 13 = .ok (.invokevirtual 281, 3) := by decide +kernel
theorem dX5_restLeft_16 : decode cX5_restLeft 16 = .ok (.ireturn, 1) := by decide +kernel
set_option maxRecDepth 20000 in
theorem ggX5_openLines_X2_openCount : GoodIn wsX5_openLines wsX2_openCount := goodIn_r _ [6, 7, 15, 16, 17, 18, 19, 20, 21, 22, 23] (by decide +kernel) (by decide +kernel)
set_option maxRecDepth 20000 in
theorem gX5_openLines_X2_openCount : GoodIn wsX5_openLines (wsV RX5 265 RX2 yX2_openCount wsX2_openCount) := goodIn_app (goodIn_of _ (by decide +kernel)) ggX5_openLines_X2_openCount
theorem dX5_openLines_0 : decode cX5_openLines 0 = .ok (.aload_n 0, 1) := by decide +kernel
theorem dX5_openLines_1 : decode cX5_openLines 1 = .ok (.getfield 16, 3) := by decide +kernel
theorem dX5_openLines_4 : decode cX5_openLines 4 = .ok (.invokevirtual 265, 3) := by decide +kernel
theorem dX5_openLines_7 : decode cX5_openLines 7 = .ok (.ireturn, 1) := by decide +kernel
set_option maxRecDepth 20000 in
theorem ggX5_openByLog_X2_openCountByEntries : GoodIn wsX5_openByLog wsX2_openCountByEntries := goodIn_ca (goodIn_r _ [6, 7, 8, 16, 17, 18, 19, 20, 21, 22, 23, 24] (by decide +kernel) (by decide +kernel)) (goodIn_sub (fun _ h => List.mem_cons_of_mem _ (List.mem_append_right _ h)) (by decide +kernel))
set_option maxRecDepth 20000 in
theorem gX5_openByLog_X2_openCountByEntries : GoodIn wsX5_openByLog (wsV RX5 322 RX2 yX2_openCountByEntries wsX2_openCountByEntries) := goodIn_app (goodIn_of _ (by decide +kernel)) ggX5_openByLog_X2_openCountByEntries
theorem dX5_openByLog_0 : decode cX5_openByLog 0 = .ok (.aload_n 0, 1) := by decide +kernel
theorem dX5_openByLog_1 : decode cX5_openByLog 1 = .ok (.getfield 16, 3) := by decide +kernel
theorem dX5_openByLog_4 : decode cX5_openByLog 4 = .ok (.invokevirtual 322, 3) := by decide +kernel
theorem dX5_openByLog_7 : decode cX5_openByLog 7 = .ok (.ireturn, 1) := by decide +kernel
set_option maxRecDepth 20000 in
theorem ggX5_openAt_X2_openLineAt : GoodIn wsX5_openAt wsX2_openLineAt := goodIn_ca (goodIn_r _ [8, 9, 10, 11, 7, 12, 13, 14, 15, 16, 17, 18, 26, 27, 28, 29, 30, 31, 32, 33, 34] (by decide +kernel) (by decide +kernel)) (goodIn_sub (fun _ h => List.mem_cons_of_mem _ (List.mem_append_right _ h)) (by decide +kernel))
set_option maxRecDepth 20000 in
theorem gX5_openAt_X2_openLineAt : GoodIn wsX5_openAt (wsV RX5 325 RX2 yX2_openLineAt wsX2_openLineAt) := goodIn_app (goodIn_of _ (by decide +kernel)) ggX5_openAt_X2_openLineAt
theorem dX5_openAt_0 : decode cX5_openAt 0 = .ok (.aload_n 0, 1) := by decide +kernel
theorem dX5_openAt_1 : decode cX5_openAt 1 = .ok (.getfield 16, 3) := by decide +kernel
theorem dX5_openAt_4 : decode cX5_openAt 4 = .ok (.iload_n 1, 1) := by decide +kernel
theorem dX5_openAt_5 : decode cX5_openAt 5 = .ok (.invokevirtual 325, 3) := by decide +kernel
theorem dX5_openAt_8 : decode cX5_openAt 8 = .ok (.istore_n 2, 1) := by decide +kernel
theorem dX5_openAt_9 : decode cX5_openAt 9 = .ok (.iload_n 2, 1) := by decide +kernel
theorem dX5_openAt_10 : decode cX5_openAt 10 = .ok (.iconst (-1), 1) := by decide +kernel
theorem dX5_openAt_11 : decode cX5_openAt 11 = .ok (.if_icmp .ne 14, 3) := by decide +kernel
theorem dX5_openAt_14 : decode cX5_openAt 14 = .ok (.new 328, 3) := by decide +kernel
theorem dX5_openAt_17 : decode cX5_openAt 17 = .ok (.dup, 1) := by decide +kernel
theorem dX5_openAt_18 : decode cX5_openAt 18 = .ok (.ldc_w 330, 3) := by decide +kernel
theorem dX5_openAt_21 : decode cX5_openAt 21 = .ok (.invokespecial 332, 3) := by decide +kernel
theorem dX5_openAt_24 : decode cX5_openAt 24 = .ok (.athrow, 1) := by decide +kernel
theorem dX5_openAt_25 : decode cX5_openAt 25 = .ok (.iload_n 2, 1) := by decide +kernel
theorem dX5_openAt_26 : decode cX5_openAt 26 = .ok (.ireturn, 1) := by decide +kernel
set_option maxRecDepth 20000 in
theorem ggX5_kindOf_X5_checkLine : GoodIn wsX5_kindOf wsX5_checkLine := goodIn_ca (goodIn_r _ [6, 7, 8, 1, 9, 10, 11, 12, 13, 14, 21, 22, 23, 24, 25, 26, 27, 28, 29, 30, 31, 32, 33, 34, 35, 36] (by decide +kernel) (by decide +kernel)) (goodIn_sub (fun _ h => List.mem_cons_of_mem _ (List.mem_append_left _ (List.mem_append_right _ h))) (by decide +kernel))
set_option maxRecDepth 20000 in
theorem gX5_kindOf_X5_checkLine : GoodIn wsX5_kindOf (wsV RX5 254 RX5 yX5_checkLine wsX5_checkLine) := goodIn_app (goodIn_of _ (by decide +kernel)) ggX5_kindOf_X5_checkLine
set_option maxRecDepth 20000 in
theorem ggX5_kindOf_X2_kindAt : GoodIn wsX5_kindOf wsX2_kindAt := goodIn_ca (goodIn_r _ [18, 19, 20, 10, 11, 12, 13, 14, 28, 29, 30, 31, 32, 33, 34, 35, 36] (by decide +kernel) (by decide +kernel)) (goodIn_sub (fun _ h => List.mem_cons_of_mem _ (List.mem_append_right _ h)) (by decide +kernel))
set_option maxRecDepth 20000 in
theorem gX5_kindOf_X2_kindAt : GoodIn wsX5_kindOf (wsV RX5 257 RX2 yX2_kindAt wsX2_kindAt) := goodIn_app (goodIn_of _ (by decide +kernel)) ggX5_kindOf_X2_kindAt
theorem dX5_kindOf_0 : decode cX5_kindOf 0 = .ok (.aload_n 0, 1) := by decide +kernel
theorem dX5_kindOf_1 : decode cX5_kindOf 1 = .ok (.iload_n 1, 1) := by decide +kernel
theorem dX5_kindOf_2 : decode cX5_kindOf 2 = .ok (.invokevirtual 254, 3) := by decide +kernel
theorem dX5_kindOf_5 : decode cX5_kindOf 5 = .ok (.aload_n 0, 1) := by decide +kernel
theorem dX5_kindOf_6 : decode cX5_kindOf 6 = .ok (.getfield 16, 3) := by decide +kernel
theorem dX5_kindOf_9 : decode cX5_kindOf 9 = .ok (.iload_n 1, 1) := by decide +kernel
theorem dX5_kindOf_10 : decode cX5_kindOf 10 = .ok (.invokevirtual 257, 3) := by decide +kernel
theorem dX5_kindOf_13 : decode cX5_kindOf 13 = .ok (.ireturn, 1) := by decide +kernel
set_option maxRecDepth 20000 in
theorem ggX5_passed_X5_checkLine : GoodIn wsX5_passed wsX5_checkLine := goodIn_ca (goodIn_r _ [6, 7, 8, 1, 9, 10, 11, 12, 13, 14, 21, 22, 23, 24, 25, 26, 27, 28, 29, 30, 31, 32, 33, 34, 35, 36] (by decide +kernel) (by decide +kernel)) (goodIn_sub (fun _ h => List.mem_cons_of_mem _ (List.mem_append_left _ (List.mem_append_right _ h))) (by decide +kernel))
set_option maxRecDepth 20000 in
theorem gX5_passed_X5_checkLine : GoodIn wsX5_passed (wsV RX5 254 RX5 yX5_checkLine wsX5_checkLine) := goodIn_app (goodIn_of _ (by decide +kernel)) ggX5_passed_X5_checkLine
set_option maxRecDepth 20000 in
theorem ggX5_passed_X2_handOversOf : GoodIn wsX5_passed wsX2_handOversOf := goodIn_ca (goodIn_r _ [18, 19, 20, 10, 11, 12, 13, 14, 28, 29, 30, 31, 32, 33, 34, 35, 36] (by decide +kernel) (by decide +kernel)) (goodIn_sub (fun _ h => List.mem_cons_of_mem _ (List.mem_append_right _ h)) (by decide +kernel))
set_option maxRecDepth 20000 in
theorem gX5_passed_X2_handOversOf : GoodIn wsX5_passed (wsV RX5 333 RX2 yX2_handOversOf wsX2_handOversOf) := goodIn_app (goodIn_of _ (by decide +kernel)) ggX5_passed_X2_handOversOf
theorem dX5_passed_0 : decode cX5_passed 0 = .ok (.aload_n 0, 1) := by decide +kernel
theorem dX5_passed_1 : decode cX5_passed 1 = .ok (.iload_n 1, 1) := by decide +kernel
theorem dX5_passed_2 : decode cX5_passed 2 = .ok (.invokevirtual 254, 3) := by decide +kernel
theorem dX5_passed_5 : decode cX5_passed 5 = .ok (.aload_n 0, 1) := by decide +kernel
theorem dX5_passed_6 : decode cX5_passed 6 = .ok (.getfield 16, 3) := by decide +kernel
theorem dX5_passed_9 : decode cX5_passed 9 = .ok (.iload_n 1, 1) := by decide +kernel
theorem dX5_passed_10 : decode cX5_passed 10 = .ok (.invokevirtual 333, 3) := by decide +kernel
theorem dX5_passed_13 : decode cX5_passed 13 = .ok (.ireturn, 1) := by decide +kernel
set_option maxRecDepth 20000 in
theorem ggX5_closedShare_X2_lineCount : GoodIn wsX5_closedShare wsX2_lineCount := goodIn_r _ [8, 9, 22, 23, 24, 25, 26, 27, 28, 29, 30] (by decide +kernel) (by decide +kernel)
set_option maxRecDepth 20000 in
theorem gX5_closedShare_X2_lineCount : GoodIn wsX5_closedShare (wsV RX5 336 RX2 yX2_lineCount wsX2_lineCount) := goodIn_app (goodIn_of _ (by decide +kernel)) ggX5_closedShare_X2_lineCount
set_option maxRecDepth 20000 in
theorem ggX5_closedShare_X2_openCount : GoodIn wsX5_closedShare wsX2_openCount := goodIn_r _ [13, 14, 22, 23, 24, 25, 26, 27, 28, 29, 30] (by decide +kernel) (by decide +kernel)
set_option maxRecDepth 20000 in
theorem gX5_closedShare_X2_openCount : GoodIn wsX5_closedShare (wsV RX5 265 RX2 yX2_openCount wsX2_openCount) := goodIn_app (goodIn_of _ (by decide +kernel)) ggX5_closedShare_X2_openCount
theorem dX5_closedShare_0 : decode cX5_closedShare 0 = .ok (.aload_n 0, 1) := by decide +kernel
theorem dX5_closedShare_1 : decode cX5_closedShare 1 = .ok (.getfield 16, 3) := by decide +kernel
theorem dX5_closedShare_4 : decode cX5_closedShare 4 = .ok (.invokevirtual 336, 3) := by decide +kernel
theorem dX5_closedShare_7 : decode cX5_closedShare 7 = .ok (.istore_n 1, 1) := by decide +kernel
theorem dX5_closedShare_8 : decode cX5_closedShare 8 = .ok (.iload_n 1, 1) := by decide +kernel
theorem dX5_closedShare_9 : decode cX5_closedShare 9 = .ok (.ifCond .ne 14, 3) := by decide +kernel
theorem dX5_closedShare_12 : decode cX5_closedShare 12 = .ok (.new 339, 3) := by decide +kernel
theorem dX5_closedShare_15 : decode cX5_closedShare 15 = .ok (.dup, 1) := by decide +kernel
theorem dX5_closedShare_16 : decode cX5_closedShare 16 = .ok (.ldc_w 341, 3) := by decide +kernel
theorem dX5_closedShare_19 : decode cX5_closedShare 19 = .ok (.invokespecial 343, 3) := by decide +kernel
theorem dX5_closedShare_22 : decode cX5_closedShare 22 = .ok (.athrow, 1) := by decide +kernel
theorem dX5_closedShare_23 : decode cX5_closedShare 23 = .ok (.iload_n 1, 1) := by decide +kernel
theorem dX5_closedShare_24 : decode cX5_closedShare 24 = .ok (.aload_n 0, 1) := by decide +kernel
theorem dX5_closedShare_25 : decode cX5_closedShare 25 = .ok (.getfield 16, 3) := by decide +kernel
theorem dX5_closedShare_28 : decode cX5_closedShare 28 = .ok (.invokevirtual 265, 3) := by decide +kernel
theorem dX5_closedShare_31 : decode cX5_closedShare 31 = .ok (.isub, 1) := by decide +kernel
theorem dX5_closedShare_32 : decode cX5_closedShare 32 = .ok (.i2f, 1) := by decide +kernel
theorem dX5_closedShare_33 : decode cX5_closedShare 33 = .ok (.iload_n 1, 1) := by decide +kernel
theorem dX5_closedShare_34 : decode cX5_closedShare 34 = .ok (.i2f, 1) := by decide +kernel
theorem dX5_closedShare_35 : decode cX5_closedShare 35 = .ok (.fdiv, 1) := by decide +kernel
theorem dX5_closedShare_36 : decode cX5_closedShare 36 = .ok (.freturn, 1) := by decide +kernel
set_option maxRecDepth 20000 in
theorem ggX5_meanAge_X2_openCount : GoodIn wsX5_meanAge wsX2_openCount := goodIn_r _ [9, 10, 33, 34, 35, 36, 37, 38, 39, 40, 41] (by decide +kernel) (by decide +kernel)
set_option maxRecDepth 20000 in
theorem gX5_meanAge_X2_openCount : GoodIn wsX5_meanAge (wsV RX5 265 RX2 yX2_openCount wsX2_openCount) := goodIn_app (goodIn_of _ (by decide +kernel)) ggX5_meanAge_X2_openCount
set_option maxRecDepth 20000 in
theorem ggX5_meanAge_X2_sumOfAges : GoodIn wsX5_meanAge wsX2_sumOfAges := goodIn_ca (goodIn_r _ [14, 15, 16, 17, 18, 8, 19, 20, 21, 22, 23, 24, 25, 33, 34, 35, 36, 37, 38, 39, 40, 41] (by decide +kernel) (by decide +kernel)) (goodIn_sub (fun _ h => List.mem_cons_of_mem _ (List.mem_append_right _ h)) (by decide +kernel))
set_option maxRecDepth 20000 in
theorem gX5_meanAge_X2_sumOfAges : GoodIn wsX5_meanAge (wsV RX5 346 RX2 yX2_sumOfAges wsX2_sumOfAges) := goodIn_app (goodIn_of _ (by decide +kernel)) ggX5_meanAge_X2_sumOfAges
theorem dX5_meanAge_0 : decode cX5_meanAge 0 = .ok (.aload_n 0, 1) := by decide +kernel
theorem dX5_meanAge_1 : decode cX5_meanAge 1 = .ok (.getfield 16, 3) := by decide +kernel
theorem dX5_meanAge_4 : decode cX5_meanAge 4 = .ok (.invokevirtual 265, 3) := by decide +kernel
theorem dX5_meanAge_7 : decode cX5_meanAge 7 = .ok (.istore_n 1, 1) := by decide +kernel
theorem dX5_meanAge_8 : decode cX5_meanAge 8 = .ok (.iload_n 1, 1) := by decide +kernel
theorem dX5_meanAge_9 : decode cX5_meanAge 9 = .ok (.ifCond .ne 14, 3) := by decide +kernel
theorem dX5_meanAge_12 : decode cX5_meanAge 12 = .ok (.new 339, 3) := by decide +kernel
theorem dX5_meanAge_15 : decode cX5_meanAge 15 = .ok (.dup, 1) := by decide +kernel
theorem dX5_meanAge_16 : decode cX5_meanAge 16 = .ok (.ldc_w 344, 3) := by decide +kernel
theorem dX5_meanAge_19 : decode cX5_meanAge 19 = .ok (.invokespecial 343, 3) := by decide +kernel
theorem dX5_meanAge_22 : decode cX5_meanAge 22 = .ok (.athrow, 1) := by decide +kernel
theorem dX5_meanAge_23 : decode cX5_meanAge 23 = .ok (.aload_n 0, 1) := by decide +kernel
theorem dX5_meanAge_24 : decode cX5_meanAge 24 = .ok (.getfield 16, 3) := by decide +kernel
theorem dX5_meanAge_27 : decode cX5_meanAge 27 = .ok (.aload_n 0, 1) := by decide +kernel
theorem dX5_meanAge_28 : decode cX5_meanAge 28 = .ok (.getfield 81, 3) := by decide +kernel
theorem dX5_meanAge_31 : decode cX5_meanAge 31 = .ok (.invokevirtual 346, 3) := by decide +kernel
theorem dX5_meanAge_34 : decode cX5_meanAge 34 = .ok (.i2d, 1) := by decide +kernel
theorem dX5_meanAge_35 : decode cX5_meanAge 35 = .ok (.iload_n 1, 1) := by decide +kernel
theorem dX5_meanAge_36 : decode cX5_meanAge 36 = .ok (.i2d, 1) := by decide +kernel
theorem dX5_meanAge_37 : decode cX5_meanAge 37 = .ok (.ddiv, 1) := by decide +kernel
theorem dX5_meanAge_38 : decode cX5_meanAge 38 = .ok (.dreturn, 1) := by decide +kernel
set_option maxRecDepth 20000 in
theorem ggX5_isSound_X2_openCount : GoodIn wsX5_isSound wsX2_openCount := goodIn_r _ [7, 8, 103, 104, 105, 106, 107, 108, 109, 110, 111] (by decide +kernel) (by decide +kernel)
set_option maxRecDepth 20000 in
theorem gX5_isSound_X2_openCount : GoodIn wsX5_isSound (wsV RX5 265 RX2 yX2_openCount wsX2_openCount) := goodIn_app (goodIn_of _ (by decide +kernel)) ggX5_isSound_X2_openCount
set_option maxRecDepth 20000 in
theorem ggX5_isSound_X2_openCountByEntries : GoodIn wsX5_isSound wsX2_openCountByEntries := goodIn_ca (goodIn_r _ [12, 13, 14, 103, 104, 105, 106, 107, 108, 109, 110, 111] (by decide +kernel) (by decide +kernel)) (goodIn_sub (fun _ h => List.mem_cons_of_mem _ (List.mem_append_right _ h)) (by decide +kernel))
set_option maxRecDepth 20000 in
theorem gX5_isSound_X2_openCountByEntries : GoodIn wsX5_isSound (wsV RX5 322 RX2 yX2_openCountByEntries wsX2_openCountByEntries) := goodIn_app (goodIn_of _ (by decide +kernel)) ggX5_isSound_X2_openCountByEntries
set_option maxRecDepth 20000 in
theorem ggX5_isSound_X3_areOpenApart : GoodIn wsX5_isSound wsX3_areOpenApart := goodIn_ca (goodIn_r _ [19, 20, 21, 22, 23, 18, 24, 25, 26, 27, 28, 29, 30, 112, 113, 114, 115] (by decide +kernel) (by decide +kernel)) (goodIn_sub (fun _ h => List.mem_cons_of_mem _ (List.mem_append_right _ h)) (by decide +kernel))
set_option maxRecDepth 20000 in
theorem gX5_isSound_X3_areOpenApart : GoodIn wsX5_isSound (wsV RX5 349 RX3 yX3_areOpenApart wsX3_areOpenApart) := goodIn_app (goodIn_of _ (by decide +kernel)) ggX5_isSound_X3_areOpenApart
set_option maxRecDepth 20000 in
theorem ggX5_isSound_X5_activeAlarmsHaveLines : GoodIn wsX5_isSound wsX5_activeAlarmsHaveLines := goodIn_ca (goodIn_r _ [35, 36, 1, 37, 38, 39, 40, 41, 42, 43, 44, 45, 46, 47, 48, 49, 50, 51, 52, 53, 54, 6, 55, 56, 57, 58, 59, 60, 61, 96, 97, 98, 99, 100, 101, 102, 116, 117, 118, 103, 104, 105, 106, 107, 108, 109, 110, 111] (by decide +kernel) (by decide +kernel)) (goodIn_sub (fun _ h => List.mem_cons_of_mem _ (List.mem_append_right _ h)) (by decide +kernel))
set_option maxRecDepth 20000 in
theorem gX5_isSound_X5_activeAlarmsHaveLines : GoodIn wsX5_isSound (wsV RX5 352 RX5 yX5_activeAlarmsHaveLines wsX5_activeAlarmsHaveLines) := goodIn_app (goodIn_of _ (by decide +kernel)) ggX5_isSound_X5_activeAlarmsHaveLines
set_option maxRecDepth 20000 in
theorem ggX5_isSound_X5_undoneStepsHaveLines : GoodIn wsX5_isSound wsX5_undoneStepsHaveLines := goodIn_ca (goodIn_r _ [65, 66, 1, 67, 68, 69, 70, 71, 72, 73, 74, 75, 76, 77, 78, 79, 80, 34, 81, 82, 83, 84, 85, 86, 87, 88, 89, 90, 91, 92, 93, 94, 95, 52, 53, 54, 6, 55, 56, 57, 58, 59, 60, 61, 96, 97, 98, 99, 100, 101, 102, 119, 120, 121, 122, 123, 124, 125, 126, 127, 128, 103, 104, 105, 106, 107, 108, 109, 110, 111] (by decide +kernel) (by decide +kernel)) (goodIn_sub (fun _ h => List.mem_cons_of_mem _ (List.mem_append_right _ h)) (by decide +kernel))
set_option maxRecDepth 20000 in
theorem gX5_isSound_X5_undoneStepsHaveLines : GoodIn wsX5_isSound (wsV RX5 355 RX5 yX5_undoneStepsHaveLines wsX5_undoneStepsHaveLines) := goodIn_app (goodIn_of _ (by decide +kernel)) ggX5_isSound_X5_undoneStepsHaveLines
theorem dX5_isSound_0 : decode cX5_isSound 0 = .ok (.aload_n 0, 1) := by decide +kernel
theorem dX5_isSound_1 : decode cX5_isSound 1 = .ok (.getfield 16, 3) := by decide +kernel
theorem dX5_isSound_4 : decode cX5_isSound 4 = .ok (.invokevirtual 265, 3) := by decide +kernel
theorem dX5_isSound_7 : decode cX5_isSound 7 = .ok (.aload_n 0, 1) := by decide +kernel
theorem dX5_isSound_8 : decode cX5_isSound 8 = .ok (.getfield 16, 3) := by decide +kernel
theorem dX5_isSound_11 : decode cX5_isSound 11 = .ok (.invokevirtual 322, 3) := by decide +kernel
theorem dX5_isSound_14 : decode cX5_isSound 14 = .ok (.if_icmp .ne 31, 3) := by decide +kernel
theorem dX5_isSound_17 : decode cX5_isSound 17 = .ok (.aload_n 0, 1) := by decide +kernel
theorem dX5_isSound_18 : decode cX5_isSound 18 = .ok (.getfield 37, 3) := by decide +kernel
theorem dX5_isSound_21 : decode cX5_isSound 21 = .ok (.invokevirtual 349, 3) := by decide +kernel
theorem dX5_isSound_24 : decode cX5_isSound 24 = .ok (.ifCond .eq 21, 3) := by decide +kernel
theorem dX5_isSound_27 : decode cX5_isSound 27 = .ok (.aload_n 0, 1) := by decide +kernel
theorem dX5_isSound_28 : decode cX5_isSound 28 = .ok (.invokevirtual 352, 3) := by decide +kernel
theorem dX5_isSound_31 : decode cX5_isSound 31 = .ok (.ifCond .eq 14, 3) := by decide +kernel
theorem dX5_isSound_34 : decode cX5_isSound 34 = .ok (.aload_n 0, 1) := by decide +kernel
theorem dX5_isSound_35 : decode cX5_isSound 35 = .ok (.invokevirtual 355, 3) := by decide +kernel
theorem dX5_isSound_38 : decode cX5_isSound 38 = .ok (.ifCond .eq 7, 3) := by decide +kernel
theorem dX5_isSound_41 : decode cX5_isSound 41 = .ok (.iconst 1, 1) := by decide +kernel
theorem dX5_isSound_42 : decode cX5_isSound 42 = .ok (.goto 4, 3) := by decide +kernel
theorem dX5_isSound_45 : decode cX5_isSound 45 = .ok (.iconst 0, 1) := by decide +kernel
theorem dX5_isSound_46 : decode cX5_isSound 46 = .ok (.ireturn, 1) := by decide +kernel
set_option maxRecDepth 20000 in
theorem ggX5_activeAlarmsHaveLines_X0_isActive : GoodIn wsX5_activeAlarmsHaveLines wsX0_isActive := goodIn_ca (goodIn_r _ [7, 8, 9, 10, 6, 11, 36, 37, 38] (by decide +kernel) (by decide +kernel)) (goodIn_sub (fun _ h => List.mem_cons_of_mem _ (List.mem_append_right _ h)) (by decide +kernel))
set_option maxRecDepth 20000 in
theorem gX5_activeAlarmsHaveLines_X0_isActive : GoodIn wsX5_activeAlarmsHaveLines (wsV RX5 67 RX0 yX0_isActive wsX0_isActive) := goodIn_app (goodIn_of _ (by decide +kernel)) ggX5_activeAlarmsHaveLines_X0_isActive
set_option maxRecDepth 20000 in
theorem ggX5_activeAlarmsHaveLines_X0_lineOf : GoodIn wsX5_activeAlarmsHaveLines wsX0_lineOf := goodIn_ca (goodIn_r _ [15, 16, 17, 4, 5, 6, 7, 8, 9, 10, 11, 36, 37, 38] (by decide +kernel) (by decide +kernel)) (goodIn_sub (fun _ h => List.mem_cons_of_mem _ (List.mem_append_right _ h)) (by decide +kernel))
set_option maxRecDepth 20000 in
theorem gX5_activeAlarmsHaveLines_X0_lineOf : GoodIn wsX5_activeAlarmsHaveLines (wsV RX5 96 RX0 yX0_lineOf wsX0_lineOf) := goodIn_app (goodIn_of _ (by decide +kernel)) ggX5_activeAlarmsHaveLines_X0_lineOf
set_option maxRecDepth 20000 in
theorem ggX5_activeAlarmsHaveLines_X2_isOpen : GoodIn wsX5_activeAlarmsHaveLines wsX2_isOpen := goodIn_ca (goodIn_r _ [22, 23, 24, 25, 26, 21, 27, 28, 39, 40, 41, 42, 43, 44, 45, 46, 47] (by decide +kernel) (by decide +kernel)) (goodIn_sub (fun _ h => List.mem_cons_of_mem _ (List.mem_append_right _ h)) (by decide +kernel))
set_option maxRecDepth 20000 in
theorem gX5_activeAlarmsHaveLines_X2_isOpen : GoodIn wsX5_activeAlarmsHaveLines (wsV RX5 262 RX2 yX2_isOpen wsX2_isOpen) := goodIn_app (goodIn_of _ (by decide +kernel)) ggX5_activeAlarmsHaveLines_X2_isOpen
theorem dX5_activeAlarmsHaveLines_0 : decode cX5_activeAlarmsHaveLines 0 = .ok (.iconst 0, 1) := by decide +kernel
theorem dX5_activeAlarmsHaveLines_1 : decode cX5_activeAlarmsHaveLines 1 = .ok (.istore_n 1, 1) := by decide +kernel
theorem dX5_activeAlarmsHaveLines_2 : decode cX5_activeAlarmsHaveLines 2 = .ok (.iload_n 1, 1) := by decide +kernel
theorem dX5_activeAlarmsHaveLines_3 : decode cX5_activeAlarmsHaveLines 3 = .ok (.bipush 32, 2) := by decide +kernel
theorem dX5_activeAlarmsHaveLines_5 : decode cX5_activeAlarmsHaveLines 5 = .ok (.if_icmp .ge 40, 3) := by decide +kernel
theorem dX5_activeAlarmsHaveLines_8 : decode cX5_activeAlarmsHaveLines 8 = .ok (.aload_n 0, 1) := by decide +kernel
theorem dX5_activeAlarmsHaveLines_9 : decode cX5_activeAlarmsHaveLines 9 = .ok (.getfield 23, 3) := by decide +kernel
theorem dX5_activeAlarmsHaveLines_12 : decode cX5_activeAlarmsHaveLines 12 = .ok (.iload_n 1, 1) := by decide +kernel
theorem dX5_activeAlarmsHaveLines_13 : decode cX5_activeAlarmsHaveLines 13 = .ok (.invokevirtual 67, 3) := by decide +kernel
theorem dX5_activeAlarmsHaveLines_16 : decode cX5_activeAlarmsHaveLines 16 = .ok (.ifCond .eq 23, 3) := by decide +kernel
theorem dX5_activeAlarmsHaveLines_19 : decode cX5_activeAlarmsHaveLines 19 = .ok (.aload_n 0, 1) := by decide +kernel
theorem dX5_activeAlarmsHaveLines_20 : decode cX5_activeAlarmsHaveLines 20 = .ok (.getfield 16, 3) := by decide +kernel
theorem dX5_activeAlarmsHaveLines_23 : decode cX5_activeAlarmsHaveLines 23 = .ok (.aload_n 0, 1) := by decide +kernel
theorem dX5_activeAlarmsHaveLines_24 : decode cX5_activeAlarmsHaveLines 24 = .ok (.getfield 23, 3) := by decide +kernel
theorem dX5_activeAlarmsHaveLines_27 : decode cX5_activeAlarmsHaveLines 27 = .ok (.iload_n 1, 1) := by decide +kernel
theorem dX5_activeAlarmsHaveLines_28 : decode cX5_activeAlarmsHaveLines 28 = .ok (.invokevirtual 96, 3) := by decide +kernel
theorem dX5_activeAlarmsHaveLines_31 : decode cX5_activeAlarmsHaveLines 31 = .ok (.invokevirtual 262, 3) := by decide +kernel
theorem dX5_activeAlarmsHaveLines_34 : decode cX5_activeAlarmsHaveLines 34 = .ok (.ifCond .ne 5, 3) := by decide +kernel
theorem dX5_activeAlarmsHaveLines_37 : decode cX5_activeAlarmsHaveLines 37 = .ok (.iconst 0, 1) := by decide +kernel
theorem dX5_activeAlarmsHaveLines_38 : decode cX5_activeAlarmsHaveLines 38 = .ok (.ireturn, 1) := by decide +kernel
theorem dX5_activeAlarmsHaveLines_39 : decode cX5_activeAlarmsHaveLines 39 = .ok (.iinc 1 1, 3) := by decide +kernel
theorem dX5_activeAlarmsHaveLines_42 : decode cX5_activeAlarmsHaveLines 42 = .ok (.goto (-40), 3) := by decide +kernel
theorem dX5_activeAlarmsHaveLines_45 : decode cX5_activeAlarmsHaveLines 45 = .ok (.iconst 1, 1) := by decide +kernel
theorem dX5_activeAlarmsHaveLines_46 : decode cX5_activeAlarmsHaveLines 46 = .ok (.ireturn, 1) := by decide +kernel
set_option maxRecDepth 20000 in
theorem ggX5_undoneStepsHaveLines_X4_isUndone : GoodIn wsX5_undoneStepsHaveLines wsX4_isUndone := goodIn_ca (goodIn_r _ [7, 8, 9, 10, 11, 6, 12, 13, 14, 15, 16, 17, 18, 19, 20, 21, 22, 23, 24, 25, 26, 27, 28, 51, 52, 53, 54, 55, 56, 57, 58, 59, 60] (by decide +kernel) (by decide +kernel)) (goodIn_sub (fun _ h => List.mem_cons_of_mem _ (List.mem_append_right _ h)) (by decide +kernel))
set_option maxRecDepth 20000 in
theorem gX5_undoneStepsHaveLines_X4_isUndone : GoodIn wsX5_undoneStepsHaveLines (wsV RX5 358 RX4 yX4_isUndone wsX4_isUndone) := goodIn_app (goodIn_of _ (by decide +kernel)) ggX5_undoneStepsHaveLines_X4_isUndone
set_option maxRecDepth 20000 in
theorem ggX5_undoneStepsHaveLines_X4_undoneLineOf : GoodIn wsX5_undoneStepsHaveLines wsX4_undoneLineOf := goodIn_ca (goodIn_r _ [32, 8, 9, 10, 11, 6, 12, 13, 14, 15, 16, 17, 18, 19, 20, 21, 22, 23, 24, 25, 26, 27, 28, 51, 52, 53, 54, 55, 56, 57, 58, 59, 60] (by decide +kernel) (by decide +kernel)) (goodIn_sub (fun _ h => List.mem_cons_of_mem _ (List.mem_append_right _ h)) (by decide +kernel))
set_option maxRecDepth 20000 in
theorem gX5_undoneStepsHaveLines_X4_undoneLineOf : GoodIn wsX5_undoneStepsHaveLines (wsV RX5 361 RX4 yX4_undoneLineOf wsX4_undoneLineOf) := goodIn_app (goodIn_of _ (by decide +kernel)) ggX5_undoneStepsHaveLines_X4_undoneLineOf
set_option maxRecDepth 20000 in
theorem ggX5_undoneStepsHaveLines_X2_isOpen : GoodIn wsX5_undoneStepsHaveLines wsX2_isOpen := goodIn_ca (goodIn_r _ [37, 38, 39, 40, 41, 36, 42, 43, 61, 62, 63, 64, 65, 66, 67, 68, 69] (by decide +kernel) (by decide +kernel)) (goodIn_sub (fun _ h => List.mem_cons_of_mem _ (List.mem_append_right _ h)) (by decide +kernel))
set_option maxRecDepth 20000 in
theorem gX5_undoneStepsHaveLines_X2_isOpen : GoodIn wsX5_undoneStepsHaveLines (wsV RX5 262 RX2 yX2_isOpen wsX2_isOpen) := goodIn_app (goodIn_of _ (by decide +kernel)) ggX5_undoneStepsHaveLines_X2_isOpen
theorem dX5_undoneStepsHaveLines_0 : decode cX5_undoneStepsHaveLines 0 = .ok (.iconst 0, 1) := by decide +kernel
theorem dX5_undoneStepsHaveLines_1 : decode cX5_undoneStepsHaveLines 1 = .ok (.istore_n 1, 1) := by decide +kernel
theorem dX5_undoneStepsHaveLines_2 : decode cX5_undoneStepsHaveLines 2 = .ok (.iload_n 1, 1) := by decide +kernel
theorem dX5_undoneStepsHaveLines_3 : decode cX5_undoneStepsHaveLines 3 = .ok (.bipush 48, 2) := by decide +kernel
theorem dX5_undoneStepsHaveLines_5 : decode cX5_undoneStepsHaveLines 5 = .ok (.if_icmp .ge 40, 3) := by decide +kernel
theorem dX5_undoneStepsHaveLines_8 : decode cX5_undoneStepsHaveLines 8 = .ok (.aload_n 0, 1) := by decide +kernel
theorem dX5_undoneStepsHaveLines_9 : decode cX5_undoneStepsHaveLines 9 = .ok (.getfield 30, 3) := by decide +kernel
theorem dX5_undoneStepsHaveLines_12 : decode cX5_undoneStepsHaveLines 12 = .ok (.iload_n 1, 1) := by decide +kernel
theorem dX5_undoneStepsHaveLines_13 : decode cX5_undoneStepsHaveLines 13 = .ok (.invokevirtual 358, 3) := by decide +kernel
theorem dX5_undoneStepsHaveLines_16 : decode cX5_undoneStepsHaveLines 16 = .ok (.ifCond .eq 23, 3) := by decide +kernel
theorem dX5_undoneStepsHaveLines_19 : decode cX5_undoneStepsHaveLines 19 = .ok (.aload_n 0, 1) := by decide +kernel
theorem dX5_undoneStepsHaveLines_20 : decode cX5_undoneStepsHaveLines 20 = .ok (.getfield 16, 3) := by decide +kernel
theorem dX5_undoneStepsHaveLines_23 : decode cX5_undoneStepsHaveLines 23 = .ok (.aload_n 0, 1) := by decide +kernel
theorem dX5_undoneStepsHaveLines_24 : decode cX5_undoneStepsHaveLines 24 = .ok (.getfield 30, 3) := by decide +kernel
theorem dX5_undoneStepsHaveLines_27 : decode cX5_undoneStepsHaveLines 27 = .ok (.iload_n 1, 1) := by decide +kernel
theorem dX5_undoneStepsHaveLines_28 : decode cX5_undoneStepsHaveLines 28 = .ok (.invokevirtual 361, 3) := by decide +kernel
theorem dX5_undoneStepsHaveLines_31 : decode cX5_undoneStepsHaveLines 31 = .ok (.invokevirtual 262, 3) := by decide +kernel
theorem dX5_undoneStepsHaveLines_34 : decode cX5_undoneStepsHaveLines 34 = .ok (.ifCond .ne 5, 3) := by decide +kernel
theorem dX5_undoneStepsHaveLines_37 : decode cX5_undoneStepsHaveLines 37 = .ok (.iconst 0, 1) := by decide +kernel
theorem dX5_undoneStepsHaveLines_38 : decode cX5_undoneStepsHaveLines 38 = .ok (.ireturn, 1) := by decide +kernel
theorem dX5_undoneStepsHaveLines_39 : decode cX5_undoneStepsHaveLines 39 = .ok (.iinc 1 1, 3) := by decide +kernel
theorem dX5_undoneStepsHaveLines_42 : decode cX5_undoneStepsHaveLines 42 = .ok (.goto (-40), 3) := by decide +kernel
theorem dX5_undoneStepsHaveLines_45 : decode cX5_undoneStepsHaveLines 45 = .ok (.iconst 1, 1) := by decide +kernel
theorem dX5_undoneStepsHaveLines_46 : decode cX5_undoneStepsHaveLines 46 = .ok (.ireturn, 1) := by decide +kernel
set_option maxRecDepth 20000 in
theorem ggX5_reasonOf_X4_nextPlace : GoodIn wsX5_reasonOf wsX4_nextPlace := goodIn_ca (goodIn_r _ [9, 10, 11, 12, 8, 13, 14, 15, 16, 17, 18, 19, 20, 21, 22, 23, 24, 25, 26, 27, 92, 93, 94, 95, 96, 97, 98, 99, 100, 101] (by decide +kernel) (by decide +kernel)) (goodIn_sub (fun _ h => List.mem_cons_of_mem _ (List.mem_append_right _ h)) (by decide +kernel))
set_option maxRecDepth 20000 in
theorem gX5_reasonOf_X4_nextPlace : GoodIn wsX5_reasonOf (wsV RX5 170 RX4 yX4_nextPlace wsX4_nextPlace) := goodIn_app (goodIn_of _ (by decide +kernel)) ggX5_reasonOf_X4_nextPlace
set_option maxRecDepth 20000 in
theorem ggX5_reasonOf_X1_isAtWork : GoodIn wsX5_reasonOf wsX1_isAtWork := goodIn_r _ [32, 33, 34, 102, 103, 104, 105] (by decide +kernel) (by decide +kernel)
set_option maxRecDepth 20000 in
theorem gX5_reasonOf_X1_isAtWork : GoodIn wsX5_reasonOf (wsV RX5 364 RX1 yX1_isAtWork wsX1_isAtWork) := goodIn_app (goodIn_of _ (by decide +kernel)) ggX5_reasonOf_X1_isAtWork
set_option maxRecDepth 20000 in
theorem ggX5_reasonOf_X1_isWeary : GoodIn wsX5_reasonOf wsX1_isWeary := goodIn_r _ [38, 33, 39, 102, 103, 104, 105] (by decide +kernel) (by decide +kernel)
set_option maxRecDepth 20000 in
theorem gX5_reasonOf_X1_isWeary : GoodIn wsX5_reasonOf (wsV RX5 235 RX1 yX1_isWeary wsX1_isWeary) := goodIn_app (goodIn_of _ (by decide +kernel)) ggX5_reasonOf_X1_isWeary
set_option maxRecDepth 20000 in
theorem ggX5_reasonOf_X4_unitOf : GoodIn wsX5_reasonOf wsX4_unitOf := goodIn_ca (goodIn_r _ [43, 44, 45, 46, 8, 47, 92, 93, 94, 95, 96, 97, 98, 99, 100, 101] (by decide +kernel) (by decide +kernel)) (goodIn_sub (fun _ h => List.mem_cons_of_mem _ (List.mem_append_right _ h)) (by decide +kernel))
set_option maxRecDepth 20000 in
theorem gX5_reasonOf_X4_unitOf : GoodIn wsX5_reasonOf (wsV RX5 175 RX4 yX4_unitOf wsX4_unitOf) := goodIn_app (goodIn_of _ (by decide +kernel)) ggX5_reasonOf_X4_unitOf
set_option maxRecDepth 20000 in
theorem ggX5_reasonOf_X5_unitBit : GoodIn wsX5_reasonOf wsX5_unitBit := goodIn_r _ [50, 51, 52, 26, 53] (by decide +kernel) (by decide +kernel)
set_option maxRecDepth 20000 in
theorem gX5_reasonOf_X5_unitBit : GoodIn wsX5_reasonOf (va_wsS RX5 178 yX5_unitBit wsX5_unitBit) := goodIn_app (goodIn_of _ (by decide +kernel)) ggX5_reasonOf_X5_unitBit
set_option maxRecDepth 20000 in
theorem ggX5_reasonOf_X3_firstOpenWith : GoodIn wsX5_reasonOf wsX3_firstOpenWith := goodIn_ca (goodIn_r _ [58, 59, 60, 61, 62, 57, 63, 64, 65, 66, 67, 68, 69, 106, 107, 108, 109] (by decide +kernel) (by decide +kernel)) (goodIn_sub (fun _ h => List.mem_cons_of_mem _ (List.mem_append_right _ h)) (by decide +kernel))
set_option maxRecDepth 20000 in
theorem gX5_reasonOf_X3_firstOpenWith : GoodIn wsX5_reasonOf (wsV RX5 181 RX3 yX3_firstOpenWith wsX3_firstOpenWith) := goodIn_app (goodIn_of _ (by decide +kernel)) ggX5_reasonOf_X3_firstOpenWith
set_option maxRecDepth 20000 in
theorem ggX5_reasonOf_X4_neededOf : GoodIn wsX5_reasonOf wsX4_neededOf := goodIn_ca (goodIn_r _ [73, 74, 45, 46, 8, 47, 92, 93, 94, 95, 96, 97, 98, 99, 100, 101] (by decide +kernel) (by decide +kernel)) (goodIn_sub (fun _ h => List.mem_cons_of_mem _ (List.mem_append_right _ h)) (by decide +kernel))
set_option maxRecDepth 20000 in
theorem gX5_reasonOf_X4_neededOf : GoodIn wsX5_reasonOf (wsV RX5 367 RX4 yX4_neededOf wsX4_neededOf) := goodIn_app (goodIn_of _ (by decide +kernel)) ggX5_reasonOf_X4_neededOf
set_option maxRecDepth 20000 in
theorem ggX5_reasonOf_X5_stateOf : GoodIn wsX5_reasonOf wsX5_stateOf := goodIn_ca (goodIn_r _ [78, 79, 51, 52, 26, 53, 85, 86, 87, 88, 89, 90, 91] (by decide +kernel) (by decide +kernel)) (goodIn_sub (fun _ h => List.mem_cons_of_mem _ (List.mem_append_right _ h)) (by decide +kernel))
set_option maxRecDepth 20000 in
theorem gX5_reasonOf_X5_stateOf : GoodIn wsX5_reasonOf (wsV RX5 52 RX5 yX5_stateOf wsX5_stateOf) := goodIn_app (goodIn_of _ (by decide +kernel)) ggX5_reasonOf_X5_stateOf
set_option maxRecDepth 20000 in
theorem ggX5_reasonOf_X4_neededStateOf : GoodIn wsX5_reasonOf wsX4_neededStateOf := goodIn_ca (goodIn_r _ [83, 84, 45, 46, 8, 47, 92, 93, 94, 95, 96, 97, 98, 99, 100, 101] (by decide +kernel) (by decide +kernel)) (goodIn_sub (fun _ h => List.mem_cons_of_mem _ (List.mem_append_right _ h)) (by decide +kernel))
set_option maxRecDepth 20000 in
theorem gX5_reasonOf_X4_neededStateOf : GoodIn wsX5_reasonOf (wsV RX5 370 RX4 yX4_neededStateOf wsX4_neededStateOf) := goodIn_app (goodIn_of _ (by decide +kernel)) ggX5_reasonOf_X4_neededStateOf
theorem dX5_reasonOf_0 : decode cX5_reasonOf 0 = .ok (.aload_n 0, 1) := by decide +kernel
theorem dX5_reasonOf_1 : decode cX5_reasonOf 1 = .ok (.getfield 30, 3) := by decide +kernel
theorem dX5_reasonOf_4 : decode cX5_reasonOf 4 = .ok (.iload_n 1, 1) := by decide +kernel
theorem dX5_reasonOf_5 : decode cX5_reasonOf 5 = .ok (.invokevirtual 170, 3) := by decide +kernel
theorem dX5_reasonOf_8 : decode cX5_reasonOf 8 = .ok (.istore_n 2, 1) := by decide +kernel
theorem dX5_reasonOf_9 : decode cX5_reasonOf 9 = .ok (.iload_n 2, 1) := by decide +kernel
theorem dX5_reasonOf_10 : decode cX5_reasonOf 10 = .ok (.iconst (-1), 1) := by decide +kernel
theorem dX5_reasonOf_11 : decode cX5_reasonOf 11 = .ok (.if_icmp .ne 6, 3) := by decide +kernel
theorem dX5_reasonOf_14 : decode cX5_reasonOf 14 = .ok (.bipush 101, 2) := by decide +kernel
theorem dX5_reasonOf_16 : decode cX5_reasonOf 16 = .ok (.ireturn, 1) := by decide +kernel
theorem dX5_reasonOf_17 : decode cX5_reasonOf 17 = .ok (.aload_n 0, 1) := by decide +kernel
theorem dX5_reasonOf_18 : decode cX5_reasonOf 18 = .ok (.getfield 44, 3) := by decide +kernel
theorem dX5_reasonOf_21 : decode cX5_reasonOf 21 = .ok (.invokevirtual 364, 3) := by decide +kernel
theorem dX5_reasonOf_24 : decode cX5_reasonOf 24 = .ok (.ifCond .ne 6, 3) := by decide +kernel
theorem dX5_reasonOf_27 : decode cX5_reasonOf 27 = .ok (.bipush 100, 2) := by decide +kernel
theorem dX5_reasonOf_29 : decode cX5_reasonOf 29 = .ok (.ireturn, 1) := by decide +kernel
theorem dX5_reasonOf_30 : decode cX5_reasonOf 30 = .ok (.aload_n 0, 1) := by decide +kernel
theorem dX5_reasonOf_31 : decode cX5_reasonOf 31 = .ok (.getfield 44, 3) := by decide +kernel
theorem dX5_reasonOf_34 : decode cX5_reasonOf 34 = .ok (.aload_n 0, 1) := by decide +kernel
theorem dX5_reasonOf_35 : decode cX5_reasonOf 35 = .ok (.getfield 81, 3) := by decide +kernel
theorem dX5_reasonOf_38 : decode cX5_reasonOf 38 = .ok (.invokevirtual 235, 3) := by decide +kernel
theorem dX5_reasonOf_41 : decode cX5_reasonOf 41 = .ok (.ifCond .eq 6, 3) := by decide +kernel
theorem dX5_reasonOf_44 : decode cX5_reasonOf 44 = .ok (.bipush 116, 2) := by decide +kernel
theorem dX5_reasonOf_46 : decode cX5_reasonOf 46 = .ok (.ireturn, 1) := by decide +kernel
theorem dX5_reasonOf_47 : decode cX5_reasonOf 47 = .ok (.aload_n 0, 1) := by decide +kernel
theorem dX5_reasonOf_48 : decode cX5_reasonOf 48 = .ok (.getfield 37, 3) := by decide +kernel
theorem dX5_reasonOf_51 : decode cX5_reasonOf 51 = .ok (.aload_n 0, 1) := by decide +kernel
theorem dX5_reasonOf_52 : decode cX5_reasonOf 52 = .ok (.getfield 30, 3) := by decide +kernel
theorem dX5_reasonOf_55 : decode cX5_reasonOf 55 = .ok (.iload_n 2, 1) := by decide +kernel
theorem dX5_reasonOf_56 : decode cX5_reasonOf 56 = .ok (.invokevirtual 175, 3) := by decide +kernel
theorem dX5_reasonOf_59 : decode cX5_reasonOf 59 = .ok (.invokestatic 178, 3) := by decide +kernel
theorem dX5_reasonOf_62 : decode cX5_reasonOf 62 = .ok (.invokevirtual 181, 3) := by decide +kernel
theorem dX5_reasonOf_65 : decode cX5_reasonOf 65 = .ok (.iconst (-1), 1) := by decide +kernel
theorem dX5_reasonOf_66 : decode cX5_reasonOf 66 = .ok (.if_icmp .eq 6, 3) := by decide +kernel
theorem dX5_reasonOf_69 : decode cX5_reasonOf 69 = .ok (.bipush 98, 2) := by decide +kernel
theorem dX5_reasonOf_71 : decode cX5_reasonOf 71 = .ok (.ireturn, 1) := by decide +kernel
theorem dX5_reasonOf_72 : decode cX5_reasonOf 72 = .ok (.aload_n 0, 1) := by decide +kernel
theorem dX5_reasonOf_73 : decode cX5_reasonOf 73 = .ok (.aload_n 0, 1) := by decide +kernel
theorem dX5_reasonOf_74 : decode cX5_reasonOf 74 = .ok (.getfield 30, 3) := by decide +kernel
theorem dX5_reasonOf_77 : decode cX5_reasonOf 77 = .ok (.iload_n 2, 1) := by decide +kernel
theorem dX5_reasonOf_78 : decode cX5_reasonOf 78 = .ok (.invokevirtual 367, 3) := by decide +kernel
theorem dX5_reasonOf_81 : decode cX5_reasonOf 81 = .ok (.invokevirtual 52, 3) := by decide +kernel
theorem dX5_reasonOf_84 : decode cX5_reasonOf 84 = .ok (.aload_n 0, 1) := by decide +kernel
theorem dX5_reasonOf_85 : decode cX5_reasonOf 85 = .ok (.getfield 30, 3) := by decide +kernel
theorem dX5_reasonOf_88 : decode cX5_reasonOf 88 = .ok (.iload_n 2, 1) := by decide +kernel
theorem dX5_reasonOf_89 : decode cX5_reasonOf 89 = .ok (.invokevirtual 370, 3) := by decide +kernel
theorem dX5_reasonOf_92 : decode cX5_reasonOf 92 = .ok (.if_icmp .eq 6, 3) := by decide +kernel
theorem dX5_reasonOf_95 : decode cX5_reasonOf 95 = .ok (.bipush 110, 2) := by decide +kernel
theorem dX5_reasonOf_97 : decode cX5_reasonOf 97 = .ok (.ireturn, 1) := by decide +kernel
theorem dX5_reasonOf_98 : decode cX5_reasonOf 98 = .ok (.bipush 45, 2) := by decide +kernel
theorem dX5_reasonOf_100 : decode cX5_reasonOf 100 = .ok (.ireturn, 1) := by decide +kernel
set_option maxRecDepth 20000 in
theorem ggX5_closeUndoneLine_X4_isUndone : GoodIn wsX5_closeUndoneLine wsX4_isUndone := goodIn_ca (goodIn_r _ [7, 8, 9, 10, 11, 6, 12, 13, 14, 15, 16, 17, 18, 19, 20, 21, 22, 23, 24, 25, 26, 27, 28, 66, 67, 68, 69, 70, 71, 72, 73, 74, 75] (by decide +kernel) (by decide +kernel)) (goodIn_sub (fun _ h => List.mem_cons_of_mem _ (List.mem_append_right _ h)) (by decide +kernel))
set_option maxRecDepth 20000 in
theorem gX5_closeUndoneLine_X4_isUndone : GoodIn wsX5_closeUndoneLine (wsV RX5 358 RX4 yX4_isUndone wsX4_isUndone) := goodIn_app (goodIn_of _ (by decide +kernel)) ggX5_closeUndoneLine_X4_isUndone
set_option maxRecDepth 20000 in
theorem ggX5_closeUndoneLine_X4_undoneLineOf : GoodIn wsX5_closeUndoneLine wsX4_undoneLineOf := goodIn_ca (goodIn_r _ [32, 8, 9, 10, 11, 6, 12, 13, 14, 15, 16, 17, 18, 19, 20, 21, 22, 23, 24, 25, 26, 27, 28, 66, 67, 68, 69, 70, 71, 72, 73, 74, 75] (by decide +kernel) (by decide +kernel)) (goodIn_sub (fun _ h => List.mem_cons_of_mem _ (List.mem_append_right _ h)) (by decide +kernel))
set_option maxRecDepth 20000 in
theorem gX5_closeUndoneLine_X4_undoneLineOf : GoodIn wsX5_closeUndoneLine (wsV RX5 361 RX4 yX4_undoneLineOf wsX4_undoneLineOf) := goodIn_app (goodIn_of _ (by decide +kernel)) ggX5_closeUndoneLine_X4_undoneLineOf
set_option maxRecDepth 20000 in
theorem ggX5_closeUndoneLine_X2_closeLine : GoodIn wsX5_closeUndoneLine wsX2_closeLine := goodIn_ca (goodIn_r _ [37, 38, 39, 40, 41, 42, 36, 43, 44, 45, 46, 47, 48, 49, 50, 51, 52, 53, 54, 76, 77, 78, 79, 80, 81, 82, 83, 84] (by decide +kernel) (by decide +kernel)) (goodIn_sub (fun _ h => List.mem_cons_of_mem _ (List.mem_append_right _ h)) (by decide +kernel))
set_option maxRecDepth 20000 in
theorem gX5_closeUndoneLine_X2_closeLine : GoodIn wsX5_closeUndoneLine (wsV RX5 102 RX2 yX2_closeLine wsX2_closeLine) := goodIn_app (goodIn_of _ (by decide +kernel)) ggX5_closeUndoneLine_X2_closeLine
set_option maxRecDepth 20000 in
theorem ggX5_closeUndoneLine_X4_markNotUndone : GoodIn wsX5_closeUndoneLine wsX4_markNotUndone := goodIn_ca (goodIn_r _ [58, 8, 13, 14, 6, 15, 66, 67, 68, 69, 70, 71, 72, 73, 74, 75] (by decide +kernel) (by decide +kernel)) (goodIn_sub (fun _ h => List.mem_cons_of_mem _ (List.mem_append_right _ h)) (by decide +kernel))
set_option maxRecDepth 20000 in
theorem gX5_closeUndoneLine_X4_markNotUndone : GoodIn wsX5_closeUndoneLine (wsV RX5 373 RX4 yX4_markNotUndone wsX4_markNotUndone) := goodIn_app (goodIn_of _ (by decide +kernel)) ggX5_closeUndoneLine_X4_markNotUndone
theorem dX5_closeUndoneLine_0 : decode cX5_closeUndoneLine 0 = .ok (.aload_n 0, 1) := by decide +kernel
theorem dX5_closeUndoneLine_1 : decode cX5_closeUndoneLine 1 = .ok (.getfield 30, 3) := by decide +kernel
theorem dX5_closeUndoneLine_4 : decode cX5_closeUndoneLine 4 = .ok (.iload_n 1, 1) := by decide +kernel
theorem dX5_closeUndoneLine_5 : decode cX5_closeUndoneLine 5 = .ok (.invokevirtual 358, 3) := by decide +kernel
theorem dX5_closeUndoneLine_8 : decode cX5_closeUndoneLine 8 = .ok (.ifCond .ne 5, 3) := by decide +kernel
theorem dX5_closeUndoneLine_11 : decode cX5_closeUndoneLine 11 = .ok (.iconst 0, 1) := by decide +kernel
theorem dX5_closeUndoneLine_12 : decode cX5_closeUndoneLine 12 = .ok (.ireturn, 1) := by decide +kernel
theorem dX5_closeUndoneLine_13 : decode cX5_closeUndoneLine 13 = .ok (.aload_n 0, 1) := by decide +kernel
theorem dX5_closeUndoneLine_14 : decode cX5_closeUndoneLine 14 = .ok (.getfield 16, 3) := by decide +kernel
theorem dX5_closeUndoneLine_17 : decode cX5_closeUndoneLine 17 = .ok (.aload_n 0, 1) := by decide +kernel
theorem dX5_closeUndoneLine_18 : decode cX5_closeUndoneLine 18 = .ok (.getfield 30, 3) := by decide +kernel
theorem dX5_closeUndoneLine_21 : decode cX5_closeUndoneLine 21 = .ok (.iload_n 1, 1) := by decide +kernel
theorem dX5_closeUndoneLine_22 : decode cX5_closeUndoneLine 22 = .ok (.invokevirtual 361, 3) := by decide +kernel
theorem dX5_closeUndoneLine_25 : decode cX5_closeUndoneLine 25 = .ok (.invokevirtual 102, 3) := by decide +kernel
theorem dX5_closeUndoneLine_28 : decode cX5_closeUndoneLine 28 = .ok (.aload_n 0, 1) := by decide +kernel
theorem dX5_closeUndoneLine_29 : decode cX5_closeUndoneLine 29 = .ok (.getfield 30, 3) := by decide +kernel
theorem dX5_closeUndoneLine_32 : decode cX5_closeUndoneLine 32 = .ok (.iload_n 1, 1) := by decide +kernel
theorem dX5_closeUndoneLine_33 : decode cX5_closeUndoneLine 33 = .ok (.invokevirtual 373, 3) := by decide +kernel
theorem dX5_closeUndoneLine_36 : decode cX5_closeUndoneLine 36 = .ok (.iconst 1, 1) := by decide +kernel
theorem dX5_closeUndoneLine_37 : decode cX5_closeUndoneLine 37 = .ok (.ireturn, 1) := by decide +kernel
set_option maxRecDepth 20000 in
theorem ggX5_stateOf_X5_isUnit : GoodIn wsX5_stateOf wsX5_isUnit := goodIn_r _ [5] (by decide +kernel) (by decide +kernel)
set_option maxRecDepth 20000 in
theorem gX5_stateOf_X5_isUnit : GoodIn wsX5_stateOf (va_wsS RX5 376 yX5_isUnit wsX5_isUnit) := goodIn_app (goodIn_of _ (by decide +kernel)) ggX5_stateOf_X5_isUnit
theorem dX5_stateOf_0 : decode cX5_stateOf 0 = .ok (.iload_n 1, 1) := by decide +kernel
theorem dX5_stateOf_1 : decode cX5_stateOf 1 = .ok (.invokestatic 376, 3) := by decide +kernel
theorem dX5_stateOf_4 : decode cX5_stateOf 4 = .ok (.ifCond .eq 12, 3) := by decide +kernel
theorem dX5_stateOf_7 : decode cX5_stateOf 7 = .ok (.aload_n 0, 1) := by decide +kernel
theorem dX5_stateOf_8 : decode cX5_stateOf 8 = .ok (.getfield 9, 3) := by decide +kernel
theorem dX5_stateOf_11 : decode cX5_stateOf 11 = .ok (.iload_n 1, 1) := by decide +kernel
theorem dX5_stateOf_12 : decode cX5_stateOf 12 = .ok (.iaload, 1) := by decide +kernel
theorem dX5_stateOf_13 : decode cX5_stateOf 13 = .ok (.goto 4, 3) := by decide +kernel
theorem dX5_stateOf_16 : decode cX5_stateOf 16 = .ok (.iconst 0, 1) := by decide +kernel
theorem dX5_stateOf_17 : decode cX5_stateOf 17 = .ok (.ireturn, 1) := by decide +kernel
set_option maxRecDepth 20000 in
theorem ggX5_setState_X5_isUnit : GoodIn wsX5_setState wsX5_isUnit := goodIn_r _ [5] (by decide +kernel) (by decide +kernel)
set_option maxRecDepth 20000 in
theorem gX5_setState_X5_isUnit : GoodIn wsX5_setState (va_wsS RX5 376 yX5_isUnit wsX5_isUnit) := goodIn_app (goodIn_of _ (by decide +kernel)) ggX5_setState_X5_isUnit
theorem dX5_setState_0 : decode cX5_setState 0 = .ok (.iload_n 1, 1) := by decide +kernel
theorem dX5_setState_1 : decode cX5_setState 1 = .ok (.invokestatic 376, 3) := by decide +kernel
theorem dX5_setState_4 : decode cX5_setState 4 = .ok (.ifCond .eq 10, 3) := by decide +kernel
theorem dX5_setState_7 : decode cX5_setState 7 = .ok (.aload_n 0, 1) := by decide +kernel
theorem dX5_setState_8 : decode cX5_setState 8 = .ok (.getfield 9, 3) := by decide +kernel
theorem dX5_setState_11 : decode cX5_setState 11 = .ok (.iload_n 1, 1) := by decide +kernel
theorem dX5_setState_12 : decode cX5_setState 12 = .ok (.iload_n 2, 1) := by decide +kernel
theorem dX5_setState_13 : decode cX5_setState 13 = .ok (.iastore, 1) := by decide +kernel
theorem dX5_setState_14 : decode cX5_setState 14 = .ok (.return_, 1) := by decide +kernel
set_option maxRecDepth 20000 in
theorem ggX5_checkRoomForLine_X2_isFull : GoodIn wsX5_checkRoomForLine wsX2_isFull := goodIn_r _ [8, 9, 17, 18, 19, 20, 21, 22, 23, 24, 25] (by decide +kernel) (by decide +kernel)
set_option maxRecDepth 20000 in
theorem gX5_checkRoomForLine_X2_isFull : GoodIn wsX5_checkRoomForLine (wsV RX5 379 RX2 yX2_isFull wsX2_isFull) := goodIn_app (goodIn_of _ (by decide +kernel)) ggX5_checkRoomForLine_X2_isFull
theorem dX5_checkRoomForLine_0 : decode cX5_checkRoomForLine 0 = .ok (.aload_n 0, 1) := by decide +kernel
theorem dX5_checkRoomForLine_1 : decode cX5_checkRoomForLine 1 = .ok (.getfield 16, 3) := by decide +kernel
theorem dX5_checkRoomForLine_4 : decode cX5_checkRoomForLine 4 = .ok (.invokevirtual 379, 3) := by decide +kernel
theorem dX5_checkRoomForLine_7 : decode cX5_checkRoomForLine 7 = .ok (.ifCond .eq 14, 3) := by decide +kernel
theorem dX5_checkRoomForLine_10 : decode cX5_checkRoomForLine 10 = .ok (.new 71, 3) := by decide +kernel
theorem dX5_checkRoomForLine_13 : decode cX5_checkRoomForLine 13 = .ok (.dup, 1) := by decide +kernel
theorem dX5_checkRoomForLine_14 : decode cX5_checkRoomForLine 14 = .ok (.ldc_w 380, 3) := by decide +kernel
theorem dX5_checkRoomForLine_17 : decode cX5_checkRoomForLine 17 = .ok (.invokespecial 75, 3) := by decide +kernel
theorem dX5_checkRoomForLine_20 : decode cX5_checkRoomForLine 20 = .ok (.athrow, 1) := by decide +kernel
theorem dX5_checkRoomForLine_21 : decode cX5_checkRoomForLine 21 = .ok (.return_, 1) := by decide +kernel
set_option maxRecDepth 20000 in
theorem ggX5_checkLine_X2_hasLine : GoodIn wsX5_checkLine wsX2_hasLine := goodIn_r _ [8, 9, 17, 18, 19, 20, 21, 22, 23, 24, 25] (by decide +kernel) (by decide +kernel)
set_option maxRecDepth 20000 in
theorem gX5_checkLine_X2_hasLine : GoodIn wsX5_checkLine (wsV RX5 382 RX2 yX2_hasLine wsX2_hasLine) := goodIn_app (goodIn_of _ (by decide +kernel)) ggX5_checkLine_X2_hasLine
theorem dX5_checkLine_0 : decode cX5_checkLine 0 = .ok (.aload_n 0, 1) := by decide +kernel
theorem dX5_checkLine_1 : decode cX5_checkLine 1 = .ok (.getfield 16, 3) := by decide +kernel
theorem dX5_checkLine_4 : decode cX5_checkLine 4 = .ok (.iload_n 1, 1) := by decide +kernel
theorem dX5_checkLine_5 : decode cX5_checkLine 5 = .ok (.invokevirtual 382, 3) := by decide +kernel
theorem dX5_checkLine_8 : decode cX5_checkLine 8 = .ok (.ifCond .ne 14, 3) := by decide +kernel
theorem dX5_checkLine_11 : decode cX5_checkLine 11 = .ok (.new 125, 3) := by decide +kernel
theorem dX5_checkLine_14 : decode cX5_checkLine 14 = .ok (.dup, 1) := by decide +kernel
theorem dX5_checkLine_15 : decode cX5_checkLine 15 = .ok (.ldc_w 385, 3) := by decide +kernel
theorem dX5_checkLine_18 : decode cX5_checkLine 18 = .ok (.invokespecial 129, 3) := by decide +kernel
theorem dX5_checkLine_21 : decode cX5_checkLine 21 = .ok (.athrow, 1) := by decide +kernel
theorem dX5_checkLine_22 : decode cX5_checkLine 22 = .ok (.return_, 1) := by decide +kernel
set_option maxRecDepth 20000 in
theorem ggX5_checkActive_X0_isActive : GoodIn wsX5_checkActive wsX0_isActive := goodIn_ca (goodIn_r _ [8, 9, 10, 11, 7, 12, 20, 21, 22] (by decide +kernel) (by decide +kernel)) (goodIn_sub (fun _ h => List.mem_cons_of_mem _ (List.mem_append_right _ h)) (by decide +kernel))
set_option maxRecDepth 20000 in
theorem gX5_checkActive_X0_isActive : GoodIn wsX5_checkActive (wsV RX5 67 RX0 yX0_isActive wsX0_isActive) := goodIn_app (goodIn_of _ (by decide +kernel)) ggX5_checkActive_X0_isActive
theorem dX5_checkActive_0 : decode cX5_checkActive 0 = .ok (.aload_n 0, 1) := by decide +kernel
theorem dX5_checkActive_1 : decode cX5_checkActive 1 = .ok (.getfield 23, 3) := by decide +kernel
theorem dX5_checkActive_4 : decode cX5_checkActive 4 = .ok (.iload_n 1, 1) := by decide +kernel
theorem dX5_checkActive_5 : decode cX5_checkActive 5 = .ok (.invokevirtual 67, 3) := by decide +kernel
theorem dX5_checkActive_8 : decode cX5_checkActive 8 = .ok (.ifCond .ne 14, 3) := by decide +kernel
theorem dX5_checkActive_11 : decode cX5_checkActive 11 = .ok (.new 125, 3) := by decide +kernel
theorem dX5_checkActive_14 : decode cX5_checkActive 14 = .ok (.dup, 1) := by decide +kernel
theorem dX5_checkActive_15 : decode cX5_checkActive 15 = .ok (.ldc_w 387, 3) := by decide +kernel
theorem dX5_checkActive_18 : decode cX5_checkActive 18 = .ok (.invokespecial 129, 3) := by decide +kernel
theorem dX5_checkActive_21 : decode cX5_checkActive 21 = .ok (.athrow, 1) := by decide +kernel
theorem dX5_checkActive_22 : decode cX5_checkActive 22 = .ok (.return_, 1) := by decide +kernel
set_option maxRecDepth 20000 in
theorem ggX5_checkProcedure_X4_hasProcedure : GoodIn wsX5_checkProcedure wsX4_hasProcedure := goodIn_r _ [8, 9, 17, 18, 19, 20, 21, 22, 23, 24, 25, 26] (by decide +kernel) (by decide +kernel)
set_option maxRecDepth 20000 in
theorem gX5_checkProcedure_X4_hasProcedure : GoodIn wsX5_checkProcedure (wsV RX5 389 RX4 yX4_hasProcedure wsX4_hasProcedure) := goodIn_app (goodIn_of _ (by decide +kernel)) ggX5_checkProcedure_X4_hasProcedure
theorem dX5_checkProcedure_0 : decode cX5_checkProcedure 0 = .ok (.aload_n 0, 1) := by decide +kernel
theorem dX5_checkProcedure_1 : decode cX5_checkProcedure 1 = .ok (.getfield 30, 3) := by decide +kernel
theorem dX5_checkProcedure_4 : decode cX5_checkProcedure 4 = .ok (.iload_n 1, 1) := by decide +kernel
theorem dX5_checkProcedure_5 : decode cX5_checkProcedure 5 = .ok (.invokevirtual 389, 3) := by decide +kernel
theorem dX5_checkProcedure_8 : decode cX5_checkProcedure 8 = .ok (.ifCond .ne 14, 3) := by decide +kernel
theorem dX5_checkProcedure_11 : decode cX5_checkProcedure 11 = .ok (.new 125, 3) := by decide +kernel
theorem dX5_checkProcedure_14 : decode cX5_checkProcedure 14 = .ok (.dup, 1) := by decide +kernel
theorem dX5_checkProcedure_15 : decode cX5_checkProcedure 15 = .ok (.ldc_w 392, 3) := by decide +kernel
theorem dX5_checkProcedure_18 : decode cX5_checkProcedure 18 = .ok (.invokespecial 129, 3) := by decide +kernel
theorem dX5_checkProcedure_21 : decode cX5_checkProcedure 21 = .ok (.athrow, 1) := by decide +kernel
theorem dX5_checkProcedure_22 : decode cX5_checkProcedure 22 = .ok (.return_, 1) := by decide +kernel
set_option maxRecDepth 20000 in
theorem ggX5_checkPermit_X3_hasPermit : GoodIn wsX5_checkPermit wsX3_hasPermit := goodIn_r _ [8, 9, 17, 18, 19, 20] (by decide +kernel) (by decide +kernel)
set_option maxRecDepth 20000 in
theorem gX5_checkPermit_X3_hasPermit : GoodIn wsX5_checkPermit (wsV RX5 394 RX3 yX3_hasPermit wsX3_hasPermit) := goodIn_app (goodIn_of _ (by decide +kernel)) ggX5_checkPermit_X3_hasPermit
theorem dX5_checkPermit_0 : decode cX5_checkPermit 0 = .ok (.aload_n 0, 1) := by decide +kernel
theorem dX5_checkPermit_1 : decode cX5_checkPermit 1 = .ok (.getfield 37, 3) := by decide +kernel
theorem dX5_checkPermit_4 : decode cX5_checkPermit 4 = .ok (.iload_n 1, 1) := by decide +kernel
theorem dX5_checkPermit_5 : decode cX5_checkPermit 5 = .ok (.invokevirtual 394, 3) := by decide +kernel
theorem dX5_checkPermit_8 : decode cX5_checkPermit 8 = .ok (.ifCond .ne 14, 3) := by decide +kernel
theorem dX5_checkPermit_11 : decode cX5_checkPermit 11 = .ok (.new 125, 3) := by decide +kernel
theorem dX5_checkPermit_14 : decode cX5_checkPermit 14 = .ok (.dup, 1) := by decide +kernel
theorem dX5_checkPermit_15 : decode cX5_checkPermit 15 = .ok (.ldc_w 397, 3) := by decide +kernel
theorem dX5_checkPermit_18 : decode cX5_checkPermit 18 = .ok (.invokespecial 129, 3) := by decide +kernel
theorem dX5_checkPermit_21 : decode cX5_checkPermit 21 = .ok (.athrow, 1) := by decide +kernel
theorem dX5_checkPermit_22 : decode cX5_checkPermit 22 = .ok (.return_, 1) := by decide +kernel
set_option maxRecDepth 20000 in
theorem ggX5_checkAtWork_X1_isAtWork : GoodIn wsX5_checkAtWork wsX1_isAtWork := goodIn_r _ [8, 9, 10, 18, 19, 20, 21] (by decide +kernel) (by decide +kernel)
set_option maxRecDepth 20000 in
theorem gX5_checkAtWork_X1_isAtWork : GoodIn wsX5_checkAtWork (wsV RX5 364 RX1 yX1_isAtWork wsX1_isAtWork) := goodIn_app (goodIn_of _ (by decide +kernel)) ggX5_checkAtWork_X1_isAtWork
theorem dX5_checkAtWork_0 : decode cX5_checkAtWork 0 = .ok (.aload_n 0, 1) := by decide +kernel
theorem dX5_checkAtWork_1 : decode cX5_checkAtWork 1 = .ok (.getfield 44, 3) := by decide +kernel
theorem dX5_checkAtWork_4 : decode cX5_checkAtWork 4 = .ok (.invokevirtual 364, 3) := by decide +kernel
theorem dX5_checkAtWork_7 : decode cX5_checkAtWork 7 = .ok (.ifCond .ne 14, 3) := by decide +kernel
theorem dX5_checkAtWork_10 : decode cX5_checkAtWork 10 = .ok (.new 71, 3) := by decide +kernel
theorem dX5_checkAtWork_13 : decode cX5_checkAtWork 13 = .ok (.dup, 1) := by decide +kernel
theorem dX5_checkAtWork_14 : decode cX5_checkAtWork 14 = .ok (.ldc_w 399, 3) := by decide +kernel
theorem dX5_checkAtWork_17 : decode cX5_checkAtWork 17 = .ok (.invokespecial 75, 3) := by decide +kernel
theorem dX5_checkAtWork_20 : decode cX5_checkAtWork 20 = .ok (.athrow, 1) := by decide +kernel
theorem dX5_checkAtWork_21 : decode cX5_checkAtWork 21 = .ok (.return_, 1) := by decide +kernel
set_option maxRecDepth 20000 in
theorem ggX5_checkHandOver_X1_isHandingOver : GoodIn wsX5_checkHandOver wsX1_isHandingOver := goodIn_r _ [8, 9, 17, 18, 19, 20] (by decide +kernel) (by decide +kernel)
set_option maxRecDepth 20000 in
theorem gX5_checkHandOver_X1_isHandingOver : GoodIn wsX5_checkHandOver (wsV RX5 401 RX1 yX1_isHandingOver wsX1_isHandingOver) := goodIn_app (goodIn_of _ (by decide +kernel)) ggX5_checkHandOver_X1_isHandingOver
theorem dX5_checkHandOver_0 : decode cX5_checkHandOver 0 = .ok (.aload_n 0, 1) := by decide +kernel
theorem dX5_checkHandOver_1 : decode cX5_checkHandOver 1 = .ok (.getfield 44, 3) := by decide +kernel
theorem dX5_checkHandOver_4 : decode cX5_checkHandOver 4 = .ok (.invokevirtual 401, 3) := by decide +kernel
theorem dX5_checkHandOver_7 : decode cX5_checkHandOver 7 = .ok (.ifCond .ne 14, 3) := by decide +kernel
theorem dX5_checkHandOver_10 : decode cX5_checkHandOver 10 = .ok (.new 71, 3) := by decide +kernel
theorem dX5_checkHandOver_13 : decode cX5_checkHandOver 13 = .ok (.dup, 1) := by decide +kernel
theorem dX5_checkHandOver_14 : decode cX5_checkHandOver 14 = .ok (.ldc_w 404, 3) := by decide +kernel
theorem dX5_checkHandOver_17 : decode cX5_checkHandOver 17 = .ok (.invokespecial 75, 3) := by decide +kernel
theorem dX5_checkHandOver_20 : decode cX5_checkHandOver 20 = .ok (.athrow, 1) := by decide +kernel
theorem dX5_checkHandOver_21 : decode cX5_checkHandOver 21 = .ok (.return_, 1) := by decide +kernel
set_option maxRecDepth 20000 in
theorem ggX5_checkUnit_X5_isUnit : GoodIn wsX5_checkUnit wsX5_isUnit := goodIn_r _ [6] (by decide +kernel) (by decide +kernel)
set_option maxRecDepth 20000 in
theorem gX5_checkUnit_X5_isUnit : GoodIn wsX5_checkUnit (va_wsS RX5 376 yX5_isUnit wsX5_isUnit) := goodIn_app (goodIn_of _ (by decide +kernel)) ggX5_checkUnit_X5_isUnit
theorem dX5_checkUnit_0 : decode cX5_checkUnit 0 = .ok (.iload_n 0, 1) := by decide +kernel
theorem dX5_checkUnit_1 : decode cX5_checkUnit 1 = .ok (.invokestatic 376, 3) := by decide +kernel
theorem dX5_checkUnit_4 : decode cX5_checkUnit 4 = .ok (.ifCond .ne 14, 3) := by decide +kernel
theorem dX5_checkUnit_7 : decode cX5_checkUnit 7 = .ok (.new 328, 3) := by decide +kernel
theorem dX5_checkUnit_10 : decode cX5_checkUnit 10 = .ok (.dup, 1) := by decide +kernel
theorem dX5_checkUnit_11 : decode cX5_checkUnit 11 = .ok (.ldc_w 406, 3) := by decide +kernel
theorem dX5_checkUnit_14 : decode cX5_checkUnit 14 = .ok (.invokespecial 332, 3) := by decide +kernel
theorem dX5_checkUnit_17 : decode cX5_checkUnit 17 = .ok (.athrow, 1) := by decide +kernel
theorem dX5_checkUnit_18 : decode cX5_checkUnit 18 = .ok (.return_, 1) := by decide +kernel
set_option maxRecDepth 20000 in
theorem ggX5_checkAlarm_X5_checkUnit : GoodIn wsX5_checkAlarm wsX5_checkUnit := goodIn_ca (goodIn_r _ [6, 1, 2, 7, 8, 5, 9] (by decide +kernel) (by decide +kernel)) (goodIn_sub (fun _ h => List.mem_cons_of_mem _ (List.mem_append_right _ h)) (by decide +kernel))
set_option maxRecDepth 20000 in
theorem gX5_checkAlarm_X5_checkUnit : GoodIn wsX5_checkAlarm (va_wsS RX5 48 yX5_checkUnit wsX5_checkUnit) := goodIn_app (goodIn_of _ (by decide +kernel)) ggX5_checkAlarm_X5_checkUnit
theorem dX5_checkAlarm_0 : decode cX5_checkAlarm 0 = .ok (.iload_n 0, 1) := by decide +kernel
theorem dX5_checkAlarm_1 : decode cX5_checkAlarm 1 = .ok (.invokestatic 48, 3) := by decide +kernel
theorem dX5_checkAlarm_4 : decode cX5_checkAlarm 4 = .ok (.iload_n 1, 1) := by decide +kernel
theorem dX5_checkAlarm_5 : decode cX5_checkAlarm 5 = .ok (.ifCond .lt 8, 3) := by decide +kernel
theorem dX5_checkAlarm_8 : decode cX5_checkAlarm 8 = .ok (.iload_n 1, 1) := by decide +kernel
theorem dX5_checkAlarm_9 : decode cX5_checkAlarm 9 = .ok (.iconst 4, 1) := by decide +kernel
theorem dX5_checkAlarm_10 : decode cX5_checkAlarm 10 = .ok (.if_icmp .lt 14, 3) := by decide +kernel
theorem dX5_checkAlarm_13 : decode cX5_checkAlarm 13 = .ok (.new 328, 3) := by decide +kernel
theorem dX5_checkAlarm_16 : decode cX5_checkAlarm 16 = .ok (.dup, 1) := by decide +kernel
theorem dX5_checkAlarm_17 : decode cX5_checkAlarm 17 = .ok (.ldc_w 408, 3) := by decide +kernel
theorem dX5_checkAlarm_20 : decode cX5_checkAlarm 20 = .ok (.invokespecial 332, 3) := by decide +kernel
theorem dX5_checkAlarm_23 : decode cX5_checkAlarm 23 = .ok (.athrow, 1) := by decide +kernel
theorem dX5_checkAlarm_24 : decode cX5_checkAlarm 24 = .ok (.return_, 1) := by decide +kernel
theorem dX5_checkPriority_0 : decode cX5_checkPriority 0 = .ok (.iload_n 0, 1) := by decide +kernel
theorem dX5_checkPriority_1 : decode cX5_checkPriority 1 = .ok (.iconst 1, 1) := by decide +kernel
theorem dX5_checkPriority_2 : decode cX5_checkPriority 2 = .ok (.if_icmp .lt 8, 3) := by decide +kernel
theorem dX5_checkPriority_5 : decode cX5_checkPriority 5 = .ok (.iload_n 0, 1) := by decide +kernel
theorem dX5_checkPriority_6 : decode cX5_checkPriority 6 = .ok (.iconst 5, 1) := by decide +kernel
theorem dX5_checkPriority_7 : decode cX5_checkPriority 7 = .ok (.if_icmp .le 14, 3) := by decide +kernel
theorem dX5_checkPriority_10 : decode cX5_checkPriority 10 = .ok (.new 105, 3) := by decide +kernel
theorem dX5_checkPriority_13 : decode cX5_checkPriority 13 = .ok (.dup, 1) := by decide +kernel
theorem dX5_checkPriority_14 : decode cX5_checkPriority 14 = .ok (.ldc_w 410, 3) := by decide +kernel
theorem dX5_checkPriority_17 : decode cX5_checkPriority 17 = .ok (.invokespecial 109, 3) := by decide +kernel
theorem dX5_checkPriority_20 : decode cX5_checkPriority 20 = .ok (.athrow, 1) := by decide +kernel
theorem dX5_checkPriority_21 : decode cX5_checkPriority 21 = .ok (.return_, 1) := by decide +kernel
theorem dX5_checkState_0 : decode cX5_checkState 0 = .ok (.iload_n 0, 1) := by decide +kernel
theorem dX5_checkState_1 : decode cX5_checkState 1 = .ok (.ifCond .lt 8, 3) := by decide +kernel
theorem dX5_checkState_4 : decode cX5_checkState 4 = .ok (.iload_n 0, 1) := by decide +kernel
theorem dX5_checkState_5 : decode cX5_checkState 5 = .ok (.iconst 4, 1) := by decide +kernel
theorem dX5_checkState_6 : decode cX5_checkState 6 = .ok (.if_icmp .lt 14, 3) := by decide +kernel
theorem dX5_checkState_9 : decode cX5_checkState 9 = .ok (.new 105, 3) := by decide +kernel
theorem dX5_checkState_12 : decode cX5_checkState 12 = .ok (.dup, 1) := by decide +kernel
theorem dX5_checkState_13 : decode cX5_checkState 13 = .ok (.ldc_w 412, 3) := by decide +kernel
theorem dX5_checkState_16 : decode cX5_checkState 16 = .ok (.invokespecial 109, 3) := by decide +kernel
theorem dX5_checkState_19 : decode cX5_checkState 19 = .ok (.athrow, 1) := by decide +kernel
theorem dX5_checkState_20 : decode cX5_checkState 20 = .ok (.return_, 1) := by decide +kernel
set_option maxRecDepth 20000 in
theorem ggX5_checkCrew_X5_isCrew : GoodIn wsX5_checkCrew wsX5_isCrew := goodIn_r _ [6] (by decide +kernel) (by decide +kernel)
set_option maxRecDepth 20000 in
theorem gX5_checkCrew_X5_isCrew : GoodIn wsX5_checkCrew (va_wsS RX5 414 yX5_isCrew wsX5_isCrew) := goodIn_app (goodIn_of _ (by decide +kernel)) ggX5_checkCrew_X5_isCrew
theorem dX5_checkCrew_0 : decode cX5_checkCrew 0 = .ok (.iload_n 0, 1) := by decide +kernel
theorem dX5_checkCrew_1 : decode cX5_checkCrew 1 = .ok (.invokestatic 414, 3) := by decide +kernel
theorem dX5_checkCrew_4 : decode cX5_checkCrew 4 = .ok (.ifCond .ne 14, 3) := by decide +kernel
theorem dX5_checkCrew_7 : decode cX5_checkCrew 7 = .ok (.new 105, 3) := by decide +kernel
theorem dX5_checkCrew_10 : decode cX5_checkCrew 10 = .ok (.dup, 1) := by decide +kernel
theorem dX5_checkCrew_11 : decode cX5_checkCrew 11 = .ok (.ldc_w 417, 3) := by decide +kernel
theorem dX5_checkCrew_14 : decode cX5_checkCrew 14 = .ok (.invokespecial 109, 3) := by decide +kernel
theorem dX5_checkCrew_17 : decode cX5_checkCrew 17 = .ok (.athrow, 1) := by decide +kernel
theorem dX5_checkCrew_18 : decode cX5_checkCrew 18 = .ok (.return_, 1) := by decide +kernel
theorem dX5_isUnit_0 : decode cX5_isUnit 0 = .ok (.iload_n 0, 1) := by decide +kernel
theorem dX5_isUnit_1 : decode cX5_isUnit 1 = .ok (.ifCond .lt 13, 3) := by decide +kernel
theorem dX5_isUnit_4 : decode cX5_isUnit 4 = .ok (.iload_n 0, 1) := by decide +kernel
theorem dX5_isUnit_5 : decode cX5_isUnit 5 = .ok (.bipush 8, 2) := by decide +kernel
theorem dX5_isUnit_7 : decode cX5_isUnit 7 = .ok (.if_icmp .ge 7, 3) := by decide +kernel
theorem dX5_isUnit_10 : decode cX5_isUnit 10 = .ok (.iconst 1, 1) := by decide +kernel
theorem dX5_isUnit_11 : decode cX5_isUnit 11 = .ok (.goto 4, 3) := by decide +kernel
theorem dX5_isUnit_14 : decode cX5_isUnit 14 = .ok (.iconst 0, 1) := by decide +kernel
theorem dX5_isUnit_15 : decode cX5_isUnit 15 = .ok (.ireturn, 1) := by decide +kernel
theorem dX5_isCrew_0 : decode cX5_isCrew 0 = .ok (.iload_n 0, 1) := by decide +kernel
theorem dX5_isCrew_1 : decode cX5_isCrew 1 = .ok (.ifCond .lt 12, 3) := by decide +kernel
theorem dX5_isCrew_4 : decode cX5_isCrew 4 = .ok (.iload_n 0, 1) := by decide +kernel
theorem dX5_isCrew_5 : decode cX5_isCrew 5 = .ok (.iconst 4, 1) := by decide +kernel
theorem dX5_isCrew_6 : decode cX5_isCrew 6 = .ok (.if_icmp .ge 7, 3) := by decide +kernel
theorem dX5_isCrew_9 : decode cX5_isCrew 9 = .ok (.iconst 1, 1) := by decide +kernel
theorem dX5_isCrew_10 : decode cX5_isCrew 10 = .ok (.goto 4, 3) := by decide +kernel
theorem dX5_isCrew_13 : decode cX5_isCrew 13 = .ok (.iconst 0, 1) := by decide +kernel
theorem dX5_isCrew_14 : decode cX5_isCrew 14 = .ok (.ireturn, 1) := by decide +kernel
set_option maxRecDepth 20000 in
theorem ggX5_unitBit_X5_isUnit : GoodIn wsX5_unitBit wsX5_isUnit := goodIn_r _ [4] (by decide +kernel) (by decide +kernel)
set_option maxRecDepth 20000 in
theorem gX5_unitBit_X5_isUnit : GoodIn wsX5_unitBit (va_wsS RX5 376 yX5_isUnit wsX5_isUnit) := goodIn_app (goodIn_of _ (by decide +kernel)) ggX5_unitBit_X5_isUnit
theorem dX5_unitBit_0 : decode cX5_unitBit 0 = .ok (.iload_n 0, 1) := by decide +kernel
theorem dX5_unitBit_1 : decode cX5_unitBit 1 = .ok (.invokestatic 376, 3) := by decide +kernel
theorem dX5_unitBit_4 : decode cX5_unitBit 4 = .ok (.ifCond .eq 9, 3) := by decide +kernel
theorem dX5_unitBit_7 : decode cX5_unitBit 7 = .ok (.iconst 1, 1) := by decide +kernel
theorem dX5_unitBit_8 : decode cX5_unitBit 8 = .ok (.iload_n 0, 1) := by decide +kernel
theorem dX5_unitBit_9 : decode cX5_unitBit 9 = .ok (.ishl, 1) := by decide +kernel
theorem dX5_unitBit_10 : decode cX5_unitBit 10 = .ok (.goto 4, 3) := by decide +kernel
theorem dX5_unitBit_13 : decode cX5_unitBit 13 = .ok (.iconst 0, 1) := by decide +kernel
theorem dX5_unitBit_14 : decode cX5_unitBit 14 = .ok (.ireturn, 1) := by decide +kernel
theorem dX5_alarmOf_0 : decode cX5_alarmOf 0 = .ok (.iload_n 0, 1) := by decide +kernel
theorem dX5_alarmOf_1 : decode cX5_alarmOf 1 = .ok (.iconst 4, 1) := by decide +kernel
theorem dX5_alarmOf_2 : decode cX5_alarmOf 2 = .ok (.imul, 1) := by decide +kernel
theorem dX5_alarmOf_3 : decode cX5_alarmOf 3 = .ok (.iload_n 1, 1) := by decide +kernel
theorem dX5_alarmOf_4 : decode cX5_alarmOf 4 = .ok (.iadd, 1) := by decide +kernel
theorem dX5_alarmOf_5 : decode cX5_alarmOf 5 = .ok (.ireturn, 1) := by decide +kernel
theorem dX5_stepPlace_0 : decode cX5_stepPlace 0 = .ok (.iload_n 0, 1) := by decide +kernel
theorem dX5_stepPlace_1 : decode cX5_stepPlace 1 = .ok (.bipush 8, 2) := by decide +kernel
theorem dX5_stepPlace_3 : decode cX5_stepPlace 3 = .ok (.imul, 1) := by decide +kernel
theorem dX5_stepPlace_4 : decode cX5_stepPlace 4 = .ok (.iload_n 1, 1) := by decide +kernel
theorem dX5_stepPlace_5 : decode cX5_stepPlace 5 = .ok (.iadd, 1) := by decide +kernel
theorem dX5_stepPlace_6 : decode cX5_stepPlace 6 = .ok (.ireturn, 1) := by decide +kernel
theorem dX5_stepNumber_0 : decode cX5_stepNumber 0 = .ok (.iload_n 0, 1) := by decide +kernel
theorem dX5_stepNumber_1 : decode cX5_stepNumber 1 = .ok (.bipush 8, 2) := by decide +kernel
theorem dX5_stepNumber_3 : decode cX5_stepNumber 3 = .ok (.irem, 1) := by decide +kernel
theorem dX5_stepNumber_4 : decode cX5_stepNumber 4 = .ok (.ireturn, 1) := by decide +kernel
