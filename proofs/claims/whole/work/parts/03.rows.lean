theorem inJx00060 : ∀ w ∈ wsJx000600, w ∈ lw_tbl := by decide +kernel
theorem inJ0 : ∀ w ∈ wsJ00, w ∈ lw_tbl := by decide +kernel
theorem dX0_init_0 : decode cX0_init 0 = .ok (.aload_n 0, 1) := by decide +kernel
theorem dX0_init_1 : decode cX0_init 1 = .ok (.invokespecial 3, 3) := by decide +kernel
theorem dX0_init_4 : decode cX0_init 4 = .ok (.aload_n 0, 1) := by decide +kernel
theorem dX0_init_5 : decode cX0_init 5 = .ok (.bipush 32, 2) := by decide +kernel
theorem dX0_init_7 : decode cX0_init 7 = .ok (.newarray .int, 2) := by decide +kernel
theorem dX0_init_9 : decode cX0_init 9 = .ok (.putfield 9, 3) := by decide +kernel
theorem dX0_init_12 : decode cX0_init 12 = .ok (.aload_n 0, 1) := by decide +kernel
theorem dX0_init_13 : decode cX0_init 13 = .ok (.bipush 32, 2) := by decide +kernel
theorem dX0_init_15 : decode cX0_init 15 = .ok (.newarray .int, 2) := by decide +kernel
theorem dX0_init_17 : decode cX0_init 17 = .ok (.putfield 15, 3) := by decide +kernel
theorem dX0_init_20 : decode cX0_init 20 = .ok (.aload_n 0, 1) := by decide +kernel
theorem dX0_init_21 : decode cX0_init 21 = .ok (.bipush 32, 2) := by decide +kernel
theorem dX0_init_23 : decode cX0_init 23 = .ok (.newarray .int, 2) := by decide +kernel
theorem dX0_init_25 : decode cX0_init 25 = .ok (.putfield 18, 3) := by decide +kernel
theorem dX0_init_28 : decode cX0_init 28 = .ok (.return_, 1) := by decide +kernel
set_option maxRecDepth 20000 in
theorem ggX0_isActive_X0_isAlarm : GoodIn wsX0_isActive wsX0_isAlarm := goodIn_r _ [5] (by decide +kernel) (by decide +kernel)
set_option maxRecDepth 20000 in
theorem gX0_isActive_X0_isAlarm : GoodIn wsX0_isActive (va_wsS RX0 21 yX0_isAlarm wsX0_isAlarm) := goodIn_app (goodIn_of _ (by decide +kernel)) ggX0_isActive_X0_isAlarm
theorem dX0_isActive_0 : decode cX0_isActive 0 = .ok (.iload_n 1, 1) := by decide +kernel
theorem dX0_isActive_1 : decode cX0_isActive 1 = .ok (.invokestatic 21, 3) := by decide +kernel
theorem dX0_isActive_4 : decode cX0_isActive 4 = .ok (.ifCond .eq 16, 3) := by decide +kernel
theorem dX0_isActive_7 : decode cX0_isActive 7 = .ok (.aload_n 0, 1) := by decide +kernel
theorem dX0_isActive_8 : decode cX0_isActive 8 = .ok (.getfield 9, 3) := by decide +kernel
theorem dX0_isActive_11 : decode cX0_isActive 11 = .ok (.iload_n 1, 1) := by decide +kernel
theorem dX0_isActive_12 : decode cX0_isActive 12 = .ok (.iaload, 1) := by decide +kernel
theorem dX0_isActive_13 : decode cX0_isActive 13 = .ok (.ifCond .le 7, 3) := by decide +kernel
theorem dX0_isActive_16 : decode cX0_isActive 16 = .ok (.iconst 1, 1) := by decide +kernel
theorem dX0_isActive_17 : decode cX0_isActive 17 = .ok (.goto 4, 3) := by decide +kernel
theorem dX0_isActive_20 : decode cX0_isActive 20 = .ok (.iconst 0, 1) := by decide +kernel
theorem dX0_isActive_21 : decode cX0_isActive 21 = .ok (.ireturn, 1) := by decide +kernel
set_option maxRecDepth 20000 in
theorem ggX0_lineOf_X0_isActive : GoodIn wsX0_lineOf wsX0_isActive := goodIn_ca (goodIn_r _ [6, 7, 8, 9, 5, 10, 11, 12, 13] (by decide +kernel) (by decide +kernel)) (goodIn_sub (fun _ h => List.mem_cons_of_mem _ (List.mem_append_right _ h)) (by decide +kernel))
set_option maxRecDepth 20000 in
theorem gX0_lineOf_X0_isActive : GoodIn wsX0_lineOf (wsV RX0 25 RX0 yX0_isActive wsX0_isActive) := goodIn_app (goodIn_of _ (by decide +kernel)) ggX0_lineOf_X0_isActive
theorem dX0_lineOf_0 : decode cX0_lineOf 0 = .ok (.aload_n 0, 1) := by decide +kernel
theorem dX0_lineOf_1 : decode cX0_lineOf 1 = .ok (.iload_n 1, 1) := by decide +kernel
theorem dX0_lineOf_2 : decode cX0_lineOf 2 = .ok (.invokevirtual 25, 3) := by decide +kernel
theorem dX0_lineOf_5 : decode cX0_lineOf 5 = .ok (.ifCond .eq 12, 3) := by decide +kernel
theorem dX0_lineOf_8 : decode cX0_lineOf 8 = .ok (.aload_n 0, 1) := by decide +kernel
theorem dX0_lineOf_9 : decode cX0_lineOf 9 = .ok (.getfield 15, 3) := by decide +kernel
theorem dX0_lineOf_12 : decode cX0_lineOf 12 = .ok (.iload_n 1, 1) := by decide +kernel
theorem dX0_lineOf_13 : decode cX0_lineOf 13 = .ok (.iaload, 1) := by decide +kernel
theorem dX0_lineOf_14 : decode cX0_lineOf 14 = .ok (.goto 4, 3) := by decide +kernel
theorem dX0_lineOf_17 : decode cX0_lineOf 17 = .ok (.iconst (-1), 1) := by decide +kernel
theorem dX0_lineOf_18 : decode cX0_lineOf 18 = .ok (.ireturn, 1) := by decide +kernel
set_option maxRecDepth 20000 in
theorem ggX0_activate_X0_isAlarm : GoodIn wsX0_activate wsX0_isAlarm := goodIn_r _ [7] (by decide +kernel) (by decide +kernel)
set_option maxRecDepth 20000 in
theorem gX0_activate_X0_isAlarm : GoodIn wsX0_activate (va_wsS RX0 21 yX0_isAlarm wsX0_isAlarm) := goodIn_app (goodIn_of _ (by decide +kernel)) ggX0_activate_X0_isAlarm
theorem dX0_activate_0 : decode cX0_activate 0 = .ok (.iload_n 1, 1) := by decide +kernel
theorem dX0_activate_1 : decode cX0_activate 1 = .ok (.invokestatic 21, 3) := by decide +kernel
theorem dX0_activate_4 : decode cX0_activate 4 = .ok (.ifCond .eq 24, 3) := by decide +kernel
theorem dX0_activate_7 : decode cX0_activate 7 = .ok (.aload_n 0, 1) := by decide +kernel
theorem dX0_activate_8 : decode cX0_activate 8 = .ok (.getfield 9, 3) := by decide +kernel
theorem dX0_activate_11 : decode cX0_activate 11 = .ok (.iload_n 1, 1) := by decide +kernel
theorem dX0_activate_12 : decode cX0_activate 12 = .ok (.iload_n 2, 1) := by decide +kernel
theorem dX0_activate_13 : decode cX0_activate 13 = .ok (.iastore, 1) := by decide +kernel
theorem dX0_activate_14 : decode cX0_activate 14 = .ok (.aload_n 0, 1) := by decide +kernel
theorem dX0_activate_15 : decode cX0_activate 15 = .ok (.getfield 15, 3) := by decide +kernel
theorem dX0_activate_18 : decode cX0_activate 18 = .ok (.iload_n 1, 1) := by decide +kernel
theorem dX0_activate_19 : decode cX0_activate 19 = .ok (.iload_n 3, 1) := by decide +kernel
theorem dX0_activate_20 : decode cX0_activate 20 = .ok (.iastore, 1) := by decide +kernel
theorem dX0_activate_21 : decode cX0_activate 21 = .ok (.aload_n 0, 1) := by decide +kernel
theorem dX0_activate_22 : decode cX0_activate 22 = .ok (.getfield 18, 3) := by decide +kernel
theorem dX0_activate_25 : decode cX0_activate 25 = .ok (.iload_n 1, 1) := by decide +kernel
theorem dX0_activate_26 : decode cX0_activate 26 = .ok (.iconst 0, 1) := by decide +kernel
theorem dX0_activate_27 : decode cX0_activate 27 = .ok (.iastore, 1) := by decide +kernel
theorem dX0_activate_28 : decode cX0_activate 28 = .ok (.return_, 1) := by decide +kernel
set_option maxRecDepth 20000 in
theorem ggX0_deactivate_X0_isAlarm : GoodIn wsX0_deactivate wsX0_isAlarm := goodIn_r _ [5] (by decide +kernel) (by decide +kernel)
set_option maxRecDepth 20000 in
theorem gX0_deactivate_X0_isAlarm : GoodIn wsX0_deactivate (va_wsS RX0 21 yX0_isAlarm wsX0_isAlarm) := goodIn_app (goodIn_of _ (by decide +kernel)) ggX0_deactivate_X0_isAlarm
theorem dX0_deactivate_0 : decode cX0_deactivate 0 = .ok (.iload_n 1, 1) := by decide +kernel
theorem dX0_deactivate_1 : decode cX0_deactivate 1 = .ok (.invokestatic 21, 3) := by decide +kernel
theorem dX0_deactivate_4 : decode cX0_deactivate 4 = .ok (.ifCond .eq 10, 3) := by decide +kernel
theorem dX0_deactivate_7 : decode cX0_deactivate 7 = .ok (.aload_n 0, 1) := by decide +kernel
theorem dX0_deactivate_8 : decode cX0_deactivate 8 = .ok (.getfield 9, 3) := by decide +kernel
theorem dX0_deactivate_11 : decode cX0_deactivate 11 = .ok (.iload_n 1, 1) := by decide +kernel
theorem dX0_deactivate_12 : decode cX0_deactivate 12 = .ok (.iconst 0, 1) := by decide +kernel
theorem dX0_deactivate_13 : decode cX0_deactivate 13 = .ok (.iastore, 1) := by decide +kernel
theorem dX0_deactivate_14 : decode cX0_deactivate 14 = .ok (.return_, 1) := by decide +kernel
set_option maxRecDepth 20000 in
theorem ggX0_isOnShelf_X0_isActive : GoodIn wsX0_isOnShelf wsX0_isActive := goodIn_ca (goodIn_r _ [6, 7, 8, 9, 5, 10, 11, 12, 13] (by decide +kernel) (by decide +kernel)) (goodIn_sub (fun _ h => List.mem_cons_of_mem _ (List.mem_append_right _ h)) (by decide +kernel))
set_option maxRecDepth 20000 in
theorem gX0_isOnShelf_X0_isActive : GoodIn wsX0_isOnShelf (wsV RX0 25 RX0 yX0_isActive wsX0_isActive) := goodIn_app (goodIn_of _ (by decide +kernel)) ggX0_isOnShelf_X0_isActive
theorem dX0_isOnShelf_0 : decode cX0_isOnShelf 0 = .ok (.aload_n 0, 1) := by decide +kernel
theorem dX0_isOnShelf_1 : decode cX0_isOnShelf 1 = .ok (.iload_n 1, 1) := by decide +kernel
theorem dX0_isOnShelf_2 : decode cX0_isOnShelf 2 = .ok (.invokevirtual 25, 3) := by decide +kernel
theorem dX0_isOnShelf_5 : decode cX0_isOnShelf 5 = .ok (.ifCond .eq 17, 3) := by decide +kernel
theorem dX0_isOnShelf_8 : decode cX0_isOnShelf 8 = .ok (.iload_n 2, 1) := by decide +kernel
theorem dX0_isOnShelf_9 : decode cX0_isOnShelf 9 = .ok (.aload_n 0, 1) := by decide +kernel
theorem dX0_isOnShelf_10 : decode cX0_isOnShelf 10 = .ok (.getfield 18, 3) := by decide +kernel
theorem dX0_isOnShelf_13 : decode cX0_isOnShelf 13 = .ok (.iload_n 1, 1) := by decide +kernel
theorem dX0_isOnShelf_14 : decode cX0_isOnShelf 14 = .ok (.iaload, 1) := by decide +kernel
theorem dX0_isOnShelf_15 : decode cX0_isOnShelf 15 = .ok (.if_icmp .ge 7, 3) := by decide +kernel
theorem dX0_isOnShelf_18 : decode cX0_isOnShelf 18 = .ok (.iconst 1, 1) := by decide +kernel
theorem dX0_isOnShelf_19 : decode cX0_isOnShelf 19 = .ok (.goto 4, 3) := by decide +kernel
theorem dX0_isOnShelf_22 : decode cX0_isOnShelf 22 = .ok (.iconst 0, 1) := by decide +kernel
theorem dX0_isOnShelf_23 : decode cX0_isOnShelf 23 = .ok (.ireturn, 1) := by decide +kernel
set_option maxRecDepth 20000 in
theorem ggX0_putOnShelf_X0_isAlarm : GoodIn wsX0_putOnShelf wsX0_isAlarm := goodIn_r _ [5] (by decide +kernel) (by decide +kernel)
set_option maxRecDepth 20000 in
theorem gX0_putOnShelf_X0_isAlarm : GoodIn wsX0_putOnShelf (va_wsS RX0 21 yX0_isAlarm wsX0_isAlarm) := goodIn_app (goodIn_of _ (by decide +kernel)) ggX0_putOnShelf_X0_isAlarm
theorem dX0_putOnShelf_0 : decode cX0_putOnShelf 0 = .ok (.iload_n 1, 1) := by decide +kernel
theorem dX0_putOnShelf_1 : decode cX0_putOnShelf 1 = .ok (.invokestatic 21, 3) := by decide +kernel
theorem dX0_putOnShelf_4 : decode cX0_putOnShelf 4 = .ok (.ifCond .eq 10, 3) := by decide +kernel
theorem dX0_putOnShelf_7 : decode cX0_putOnShelf 7 = .ok (.aload_n 0, 1) := by decide +kernel
theorem dX0_putOnShelf_8 : decode cX0_putOnShelf 8 = .ok (.getfield 18, 3) := by decide +kernel
theorem dX0_putOnShelf_11 : decode cX0_putOnShelf 11 = .ok (.iload_n 1, 1) := by decide +kernel
theorem dX0_putOnShelf_12 : decode cX0_putOnShelf 12 = .ok (.iload_n 2, 1) := by decide +kernel
theorem dX0_putOnShelf_13 : decode cX0_putOnShelf 13 = .ok (.iastore, 1) := by decide +kernel
theorem dX0_putOnShelf_14 : decode cX0_putOnShelf 14 = .ok (.return_, 1) := by decide +kernel
set_option maxRecDepth 20000 in
theorem ggX0_countOnShelf_X0_isOnShelf : GoodIn wsX0_countOnShelf wsX0_isOnShelf := goodIn_ca (goodIn_r _ [5, 6, 7, 8, 9, 4, 10, 11, 12, 13, 14, 15, 16, 17] (by decide +kernel) (by decide +kernel)) (goodIn_sub (fun _ h => List.mem_cons_of_mem _ (List.mem_append_right _ h)) (by decide +kernel))
set_option maxRecDepth 20000 in
theorem gX0_countOnShelf_X0_isOnShelf : GoodIn wsX0_countOnShelf (wsV RX0 28 RX0 yX0_isOnShelf wsX0_isOnShelf) := goodIn_app (goodIn_of _ (by decide +kernel)) ggX0_countOnShelf_X0_isOnShelf
theorem dX0_countOnShelf_0 : decode cX0_countOnShelf 0 = .ok (.iconst 0, 1) := by decide +kernel
theorem dX0_countOnShelf_1 : decode cX0_countOnShelf 1 = .ok (.istore_n 2, 1) := by decide +kernel
theorem dX0_countOnShelf_2 : decode cX0_countOnShelf 2 = .ok (.iconst 0, 1) := by decide +kernel
theorem dX0_countOnShelf_3 : decode cX0_countOnShelf 3 = .ok (.istore_n 3, 1) := by decide +kernel
theorem dX0_countOnShelf_4 : decode cX0_countOnShelf 4 = .ok (.iload_n 3, 1) := by decide +kernel
theorem dX0_countOnShelf_5 : decode cX0_countOnShelf 5 = .ok (.bipush 32, 2) := by decide +kernel
theorem dX0_countOnShelf_7 : decode cX0_countOnShelf 7 = .ok (.if_icmp .ge 21, 3) := by decide +kernel
theorem dX0_countOnShelf_10 : decode cX0_countOnShelf 10 = .ok (.aload_n 0, 1) := by decide +kernel
theorem dX0_countOnShelf_11 : decode cX0_countOnShelf 11 = .ok (.iload_n 3, 1) := by decide +kernel
theorem dX0_countOnShelf_12 : decode cX0_countOnShelf 12 = .ok (.iload_n 1, 1) := by decide +kernel
theorem dX0_countOnShelf_13 : decode cX0_countOnShelf 13 = .ok (.invokevirtual 28, 3) := by decide +kernel
theorem dX0_countOnShelf_16 : decode cX0_countOnShelf 16 = .ok (.ifCond .eq 6, 3) := by decide +kernel
theorem dX0_countOnShelf_19 : decode cX0_countOnShelf 19 = .ok (.iinc 2 1, 3) := by decide +kernel
theorem dX0_countOnShelf_22 : decode cX0_countOnShelf 22 = .ok (.iinc 3 1, 3) := by decide +kernel
theorem dX0_countOnShelf_25 : decode cX0_countOnShelf 25 = .ok (.goto (-21), 3) := by decide +kernel
theorem dX0_countOnShelf_28 : decode cX0_countOnShelf 28 = .ok (.iload_n 2, 1) := by decide +kernel
theorem dX0_countOnShelf_29 : decode cX0_countOnShelf 29 = .ok (.ireturn, 1) := by decide +kernel
set_option maxRecDepth 20000 in
theorem ggX0_countSounding_X0_isSounding : GoodIn wsX0_countSounding wsX0_isSounding := goodIn_ca (goodIn_r _ [6, 7, 8, 9, 5, 10, 1, 11, 12, 13, 14, 15, 16, 17, 18, 19, 20, 21] (by decide +kernel) (by decide +kernel)) (goodIn_sub (fun _ h => List.mem_cons_of_mem _ (List.mem_append_right _ h)) (by decide +kernel))
set_option maxRecDepth 20000 in
theorem gX0_countSounding_X0_isSounding : GoodIn wsX0_countSounding (wsV RX0 32 RX0 yX0_isSounding wsX0_isSounding) := goodIn_app (goodIn_of _ (by decide +kernel)) ggX0_countSounding_X0_isSounding
theorem dX0_countSounding_0 : decode cX0_countSounding 0 = .ok (.iconst 0, 1) := by decide +kernel
theorem dX0_countSounding_1 : decode cX0_countSounding 1 = .ok (.istore_n 3, 1) := by decide +kernel
theorem dX0_countSounding_2 : decode cX0_countSounding 2 = .ok (.iconst 0, 1) := by decide +kernel
theorem dX0_countSounding_3 : decode cX0_countSounding 3 = .ok (.istore 4, 2) := by decide +kernel
theorem dX0_countSounding_5 : decode cX0_countSounding 5 = .ok (.iload 4, 2) := by decide +kernel
theorem dX0_countSounding_7 : decode cX0_countSounding 7 = .ok (.bipush 32, 2) := by decide +kernel
theorem dX0_countSounding_9 : decode cX0_countSounding 9 = .ok (.if_icmp .ge 33, 3) := by decide +kernel
theorem dX0_countSounding_12 : decode cX0_countSounding 12 = .ok (.aload_n 0, 1) := by decide +kernel
theorem dX0_countSounding_13 : decode cX0_countSounding 13 = .ok (.iload 4, 2) := by decide +kernel
theorem dX0_countSounding_15 : decode cX0_countSounding 15 = .ok (.iload_n 2, 1) := by decide +kernel
theorem dX0_countSounding_16 : decode cX0_countSounding 16 = .ok (.invokevirtual 32, 3) := by decide +kernel
theorem dX0_countSounding_19 : decode cX0_countSounding 19 = .ok (.ifCond .eq 17, 3) := by decide +kernel
theorem dX0_countSounding_22 : decode cX0_countSounding 22 = .ok (.aload_n 0, 1) := by decide +kernel
theorem dX0_countSounding_23 : decode cX0_countSounding 23 = .ok (.getfield 9, 3) := by decide +kernel
theorem dX0_countSounding_26 : decode cX0_countSounding 26 = .ok (.iload 4, 2) := by decide +kernel
theorem dX0_countSounding_28 : decode cX0_countSounding 28 = .ok (.iaload, 1) := by decide +kernel
theorem dX0_countSounding_29 : decode cX0_countSounding 29 = .ok (.iload_n 1, 1) := by decide +kernel
theorem dX0_countSounding_30 : decode cX0_countSounding 30 = .ok (.if_icmp .lt 6, 3) := by decide +kernel
theorem dX0_countSounding_33 : decode cX0_countSounding 33 = .ok (.iinc 3 1, 3) := by decide +kernel
theorem dX0_countSounding_36 : decode cX0_countSounding 36 = .ok (.iinc 4 1, 3) := by decide +kernel
theorem dX0_countSounding_39 : decode cX0_countSounding 39 = .ok (.goto (-34), 3) := by decide +kernel
theorem dX0_countSounding_42 : decode cX0_countSounding 42 = .ok (.iload_n 3, 1) := by decide +kernel
theorem dX0_countSounding_43 : decode cX0_countSounding 43 = .ok (.ireturn, 1) := by decide +kernel
set_option maxRecDepth 20000 in
theorem ggX0_topLine_X0_isSounding : GoodIn wsX0_topLine wsX0_isSounding := goodIn_ca (goodIn_r _ [5, 6, 7, 8, 4, 9, 10, 11, 12, 13, 14, 15, 16, 17, 18, 28, 29, 30] (by decide +kernel) (by decide +kernel)) (goodIn_sub (fun _ h => List.mem_cons_of_mem _ (List.mem_append_right _ h)) (by decide +kernel))
set_option maxRecDepth 20000 in
theorem gX0_topLine_X0_isSounding : GoodIn wsX0_topLine (wsV RX0 32 RX0 yX0_isSounding wsX0_isSounding) := goodIn_app (goodIn_of _ (by decide +kernel)) ggX0_topLine_X0_isSounding
set_option maxRecDepth 20000 in
theorem ggX0_topLine_X0_isAhead : GoodIn wsX0_topLine wsX0_isAhead := goodIn_ca (goodIn_r _ [22, 10, 23, 11, 12, 4, 13, 28, 29, 30] (by decide +kernel) (by decide +kernel)) (goodIn_sub (fun _ h => List.mem_cons_of_mem _ (List.mem_append_right _ h)) (by decide +kernel))
set_option maxRecDepth 20000 in
theorem gX0_topLine_X0_isAhead : GoodIn wsX0_topLine (wsV RX0 35 RX0 yX0_isAhead wsX0_isAhead) := goodIn_app (goodIn_of _ (by decide +kernel)) ggX0_topLine_X0_isAhead
set_option maxRecDepth 20000 in
theorem ggX0_topLine_X0_lineOf : GoodIn wsX0_topLine wsX0_lineOf := goodIn_ca (goodIn_r _ [27, 23, 6, 7, 8, 4, 9, 10, 11, 12, 13, 28, 29, 30] (by decide +kernel) (by decide +kernel)) (goodIn_sub (fun _ h => List.mem_cons_of_mem _ (List.mem_append_right _ h)) (by decide +kernel))
set_option maxRecDepth 20000 in
theorem gX0_topLine_X0_lineOf : GoodIn wsX0_topLine (wsV RX0 38 RX0 yX0_lineOf wsX0_lineOf) := goodIn_app (goodIn_of _ (by decide +kernel)) ggX0_topLine_X0_lineOf
theorem dX0_topLine_0 : decode cX0_topLine 0 = .ok (.iconst (-1), 1) := by decide +kernel
theorem dX0_topLine_1 : decode cX0_topLine 1 = .ok (.istore_n 2, 1) := by decide +kernel
theorem dX0_topLine_2 : decode cX0_topLine 2 = .ok (.iconst 0, 1) := by decide +kernel
theorem dX0_topLine_3 : decode cX0_topLine 3 = .ok (.istore_n 3, 1) := by decide +kernel
theorem dX0_topLine_4 : decode cX0_topLine 4 = .ok (.iload_n 3, 1) := by decide +kernel
theorem dX0_topLine_5 : decode cX0_topLine 5 = .ok (.bipush 32, 2) := by decide +kernel
theorem dX0_topLine_7 : decode cX0_topLine 7 = .ok (.if_icmp .ge 29, 3) := by decide +kernel
theorem dX0_topLine_10 : decode cX0_topLine 10 = .ok (.aload_n 0, 1) := by decide +kernel
theorem dX0_topLine_11 : decode cX0_topLine 11 = .ok (.iload_n 3, 1) := by decide +kernel
theorem dX0_topLine_12 : decode cX0_topLine 12 = .ok (.iload_n 1, 1) := by decide +kernel
theorem dX0_topLine_13 : decode cX0_topLine 13 = .ok (.invokevirtual 32, 3) := by decide +kernel
theorem dX0_topLine_16 : decode cX0_topLine 16 = .ok (.ifCond .eq 14, 3) := by decide +kernel
theorem dX0_topLine_19 : decode cX0_topLine 19 = .ok (.aload_n 0, 1) := by decide +kernel
theorem dX0_topLine_20 : decode cX0_topLine 20 = .ok (.iload_n 3, 1) := by decide +kernel
theorem dX0_topLine_21 : decode cX0_topLine 21 = .ok (.iload_n 2, 1) := by decide +kernel
theorem dX0_topLine_22 : decode cX0_topLine 22 = .ok (.invokevirtual 35, 3) := by decide +kernel
theorem dX0_topLine_25 : decode cX0_topLine 25 = .ok (.ifCond .eq 5, 3) := by decide +kernel
theorem dX0_topLine_28 : decode cX0_topLine 28 = .ok (.iload_n 3, 1) := by decide +kernel
theorem dX0_topLine_29 : decode cX0_topLine 29 = .ok (.istore_n 2, 1) := by decide +kernel
theorem dX0_topLine_30 : decode cX0_topLine 30 = .ok (.iinc 3 1, 3) := by decide +kernel
theorem dX0_topLine_33 : decode cX0_topLine 33 = .ok (.goto (-29), 3) := by decide +kernel
theorem dX0_topLine_36 : decode cX0_topLine 36 = .ok (.aload_n 0, 1) := by decide +kernel
theorem dX0_topLine_37 : decode cX0_topLine 37 = .ok (.iload_n 2, 1) := by decide +kernel
theorem dX0_topLine_38 : decode cX0_topLine 38 = .ok (.invokevirtual 38, 3) := by decide +kernel
theorem dX0_topLine_41 : decode cX0_topLine 41 = .ok (.ireturn, 1) := by decide +kernel
set_option maxRecDepth 20000 in
theorem ggX0_isSounding_X0_isActive : GoodIn wsX0_isSounding wsX0_isActive := goodIn_ca (goodIn_r _ [5, 6, 7, 8, 4, 9, 15, 16, 17] (by decide +kernel) (by decide +kernel)) (goodIn_sub (fun _ h => List.mem_cons_of_mem _ (List.mem_append_right _ h)) (by decide +kernel))
set_option maxRecDepth 20000 in
theorem gX0_isSounding_X0_isActive : GoodIn wsX0_isSounding (wsV RX0 25 RX0 yX0_isActive wsX0_isActive) := goodIn_app (goodIn_of _ (by decide +kernel)) ggX0_isSounding_X0_isActive
set_option maxRecDepth 20000 in
theorem ggX0_isSounding_X0_isOnShelf : GoodIn wsX0_isSounding wsX0_isOnShelf := goodIn_ca (goodIn_r _ [13, 14, 1, 2, 3, 4, 5, 6, 7, 8, 9, 15, 16, 17] (by decide +kernel) (by decide +kernel)) (goodIn_sub (fun _ h => List.mem_cons_of_mem _ (List.mem_append_right _ h)) (by decide +kernel))
set_option maxRecDepth 20000 in
theorem gX0_isSounding_X0_isOnShelf : GoodIn wsX0_isSounding (wsV RX0 28 RX0 yX0_isOnShelf wsX0_isOnShelf) := goodIn_app (goodIn_of _ (by decide +kernel)) ggX0_isSounding_X0_isOnShelf
theorem dX0_isSounding_0 : decode cX0_isSounding 0 = .ok (.aload_n 0, 1) := by decide +kernel
theorem dX0_isSounding_1 : decode cX0_isSounding 1 = .ok (.iload_n 1, 1) := by decide +kernel
theorem dX0_isSounding_2 : decode cX0_isSounding 2 = .ok (.invokevirtual 25, 3) := by decide +kernel
theorem dX0_isSounding_5 : decode cX0_isSounding 5 = .ok (.ifCond .eq 16, 3) := by decide +kernel
theorem dX0_isSounding_8 : decode cX0_isSounding 8 = .ok (.aload_n 0, 1) := by decide +kernel
theorem dX0_isSounding_9 : decode cX0_isSounding 9 = .ok (.iload_n 1, 1) := by decide +kernel
theorem dX0_isSounding_10 : decode cX0_isSounding 10 = .ok (.iload_n 2, 1) := by decide +kernel
theorem dX0_isSounding_11 : decode cX0_isSounding 11 = .ok (.invokevirtual 28, 3) := by decide +kernel
theorem dX0_isSounding_14 : decode cX0_isSounding 14 = .ok (.ifCond .ne 7, 3) := by decide +kernel
theorem dX0_isSounding_17 : decode cX0_isSounding 17 = .ok (.iconst 1, 1) := by decide +kernel
theorem dX0_isSounding_18 : decode cX0_isSounding 18 = .ok (.goto 4, 3) := by decide +kernel
theorem dX0_isSounding_21 : decode cX0_isSounding 21 = .ok (.iconst 0, 1) := by decide +kernel
theorem dX0_isSounding_22 : decode cX0_isSounding 22 = .ok (.ireturn, 1) := by decide +kernel
set_option maxRecDepth 20000 in
theorem ggX0_isAhead_X0_isAlarm : GoodIn wsX0_isAhead wsX0_isAlarm := goodIn_r _ [6] (by decide +kernel) (by decide +kernel)
set_option maxRecDepth 20000 in
theorem gX0_isAhead_X0_isAlarm : GoodIn wsX0_isAhead (va_wsS RX0 21 yX0_isAlarm wsX0_isAlarm) := goodIn_app (goodIn_of _ (by decide +kernel)) ggX0_isAhead_X0_isAlarm
theorem dX0_isAhead_0 : decode cX0_isAhead 0 = .ok (.iload_n 2, 1) := by decide +kernel
theorem dX0_isAhead_1 : decode cX0_isAhead 1 = .ok (.invokestatic 21, 3) := by decide +kernel
theorem dX0_isAhead_4 : decode cX0_isAhead 4 = .ok (.ifCond .eq 10, 3) := by decide +kernel
theorem dX0_isAhead_7 : decode cX0_isAhead 7 = .ok (.iload_n 1, 1) := by decide +kernel
theorem dX0_isAhead_8 : decode cX0_isAhead 8 = .ok (.invokestatic 21, 3) := by decide +kernel
theorem dX0_isAhead_11 : decode cX0_isAhead 11 = .ok (.ifCond .ne 5, 3) := by decide +kernel
theorem dX0_isAhead_14 : decode cX0_isAhead 14 = .ok (.iconst 1, 1) := by decide +kernel
theorem dX0_isAhead_15 : decode cX0_isAhead 15 = .ok (.ireturn, 1) := by decide +kernel
theorem dX0_isAhead_16 : decode cX0_isAhead 16 = .ok (.aload_n 0, 1) := by decide +kernel
theorem dX0_isAhead_17 : decode cX0_isAhead 17 = .ok (.getfield 9, 3) := by decide +kernel
theorem dX0_isAhead_20 : decode cX0_isAhead 20 = .ok (.iload_n 1, 1) := by decide +kernel
theorem dX0_isAhead_21 : decode cX0_isAhead 21 = .ok (.iaload, 1) := by decide +kernel
theorem dX0_isAhead_22 : decode cX0_isAhead 22 = .ok (.aload_n 0, 1) := by decide +kernel
theorem dX0_isAhead_23 : decode cX0_isAhead 23 = .ok (.getfield 9, 3) := by decide +kernel
theorem dX0_isAhead_26 : decode cX0_isAhead 26 = .ok (.iload_n 2, 1) := by decide +kernel
theorem dX0_isAhead_27 : decode cX0_isAhead 27 = .ok (.iaload, 1) := by decide +kernel
theorem dX0_isAhead_28 : decode cX0_isAhead 28 = .ok (.if_icmp .eq 24, 3) := by decide +kernel
theorem dX0_isAhead_31 : decode cX0_isAhead 31 = .ok (.aload_n 0, 1) := by decide +kernel
theorem dX0_isAhead_32 : decode cX0_isAhead 32 = .ok (.getfield 9, 3) := by decide +kernel
theorem dX0_isAhead_35 : decode cX0_isAhead 35 = .ok (.iload_n 1, 1) := by decide +kernel
theorem dX0_isAhead_36 : decode cX0_isAhead 36 = .ok (.iaload, 1) := by decide +kernel
theorem dX0_isAhead_37 : decode cX0_isAhead 37 = .ok (.aload_n 0, 1) := by decide +kernel
theorem dX0_isAhead_38 : decode cX0_isAhead 38 = .ok (.getfield 9, 3) := by decide +kernel
theorem dX0_isAhead_41 : decode cX0_isAhead 41 = .ok (.iload_n 2, 1) := by decide +kernel
theorem dX0_isAhead_42 : decode cX0_isAhead 42 = .ok (.iaload, 1) := by decide +kernel
theorem dX0_isAhead_43 : decode cX0_isAhead 43 = .ok (.if_icmp .le 7, 3) := by decide +kernel
theorem dX0_isAhead_46 : decode cX0_isAhead 46 = .ok (.iconst 1, 1) := by decide +kernel
theorem dX0_isAhead_47 : decode cX0_isAhead 47 = .ok (.goto 4, 3) := by decide +kernel
theorem dX0_isAhead_50 : decode cX0_isAhead 50 = .ok (.iconst 0, 1) := by decide +kernel
theorem dX0_isAhead_51 : decode cX0_isAhead 51 = .ok (.ireturn, 1) := by decide +kernel
theorem dX0_isAhead_52 : decode cX0_isAhead 52 = .ok (.aload_n 0, 1) := by decide +kernel
theorem dX0_isAhead_53 : decode cX0_isAhead 53 = .ok (.getfield 15, 3) := by decide +kernel
theorem dX0_isAhead_56 : decode cX0_isAhead 56 = .ok (.iload_n 1, 1) := by decide +kernel
theorem dX0_isAhead_57 : decode cX0_isAhead 57 = .ok (.iaload, 1) := by decide +kernel
theorem dX0_isAhead_58 : decode cX0_isAhead 58 = .ok (.aload_n 0, 1) := by decide +kernel
theorem dX0_isAhead_59 : decode cX0_isAhead 59 = .ok (.getfield 15, 3) := by decide +kernel
theorem dX0_isAhead_62 : decode cX0_isAhead 62 = .ok (.iload_n 2, 1) := by decide +kernel
theorem dX0_isAhead_63 : decode cX0_isAhead 63 = .ok (.iaload, 1) := by decide +kernel
theorem dX0_isAhead_64 : decode cX0_isAhead 64 = .ok (.if_icmp .ge 7, 3) := by decide +kernel
theorem dX0_isAhead_67 : decode cX0_isAhead 67 = .ok (.iconst 1, 1) := by decide +kernel
theorem dX0_isAhead_68 : decode cX0_isAhead 68 = .ok (.goto 4, 3) := by decide +kernel
theorem dX0_isAhead_71 : decode cX0_isAhead 71 = .ok (.iconst 0, 1) := by decide +kernel
theorem dX0_isAhead_72 : decode cX0_isAhead 72 = .ok (.ireturn, 1) := by decide +kernel
theorem dX0_isAlarm_0 : decode cX0_isAlarm 0 = .ok (.iload_n 0, 1) := by decide +kernel
theorem dX0_isAlarm_1 : decode cX0_isAlarm 1 = .ok (.ifCond .lt 13, 3) := by decide +kernel
theorem dX0_isAlarm_4 : decode cX0_isAlarm 4 = .ok (.iload_n 0, 1) := by decide +kernel
theorem dX0_isAlarm_5 : decode cX0_isAlarm 5 = .ok (.bipush 32, 2) := by decide +kernel
theorem dX0_isAlarm_7 : decode cX0_isAlarm 7 = .ok (.if_icmp .ge 7, 3) := by decide +kernel
theorem dX0_isAlarm_10 : decode cX0_isAlarm 10 = .ok (.iconst 1, 1) := by decide +kernel
theorem dX0_isAlarm_11 : decode cX0_isAlarm 11 = .ok (.goto 4, 3) := by decide +kernel
theorem dX0_isAlarm_14 : decode cX0_isAlarm 14 = .ok (.iconst 0, 1) := by decide +kernel
theorem dX0_isAlarm_15 : decode cX0_isAlarm 15 = .ok (.ireturn, 1) := by decide +kernel
theorem dX1_init_0 : decode cX1_init 0 = .ok (.aload_n 0, 1) := by decide +kernel
theorem dX1_init_1 : decode cX1_init 1 = .ok (.invokespecial 3, 3) := by decide +kernel
theorem dX1_init_4 : decode cX1_init 4 = .ok (.aload_n 0, 1) := by decide +kernel
theorem dX1_init_5 : decode cX1_init 5 = .ok (.iconst 4, 1) := by decide +kernel
theorem dX1_init_6 : decode cX1_init 6 = .ok (.newarray .int, 2) := by decide +kernel
theorem dX1_init_8 : decode cX1_init 8 = .ok (.putfield 9, 3) := by decide +kernel
theorem dX1_init_11 : decode cX1_init 11 = .ok (.aload_n 0, 1) := by decide +kernel
theorem dX1_init_12 : decode cX1_init 12 = .ok (.iconst (-1), 1) := by decide +kernel
theorem dX1_init_13 : decode cX1_init 13 = .ok (.putfield 15, 3) := by decide +kernel
theorem dX1_init_16 : decode cX1_init 16 = .ok (.aload_n 0, 1) := by decide +kernel
theorem dX1_init_17 : decode cX1_init 17 = .ok (.iconst (-1), 1) := by decide +kernel
theorem dX1_init_18 : decode cX1_init 18 = .ok (.putfield 19, 3) := by decide +kernel
theorem dX1_init_21 : decode cX1_init 21 = .ok (.return_, 1) := by decide +kernel
theorem dX1_crewOnDuty_0 : decode cX1_crewOnDuty 0 = .ok (.aload_n 0, 1) := by decide +kernel
theorem dX1_crewOnDuty_1 : decode cX1_crewOnDuty 1 = .ok (.getfield 15, 3) := by decide +kernel
theorem dX1_crewOnDuty_4 : decode cX1_crewOnDuty 4 = .ok (.ireturn, 1) := by decide +kernel
theorem dX1_isHandingOver_0 : decode cX1_isHandingOver 0 = .ok (.aload_n 0, 1) := by decide +kernel
theorem dX1_isHandingOver_1 : decode cX1_isHandingOver 1 = .ok (.getfield 19, 3) := by decide +kernel
theorem dX1_isHandingOver_4 : decode cX1_isHandingOver 4 = .ok (.iconst (-1), 1) := by decide +kernel
theorem dX1_isHandingOver_5 : decode cX1_isHandingOver 5 = .ok (.if_icmp .eq 7, 3) := by decide +kernel
theorem dX1_isHandingOver_8 : decode cX1_isHandingOver 8 = .ok (.iconst 1, 1) := by decide +kernel
theorem dX1_isHandingOver_9 : decode cX1_isHandingOver 9 = .ok (.goto 4, 3) := by decide +kernel
theorem dX1_isHandingOver_12 : decode cX1_isHandingOver 12 = .ok (.iconst 0, 1) := by decide +kernel
theorem dX1_isHandingOver_13 : decode cX1_isHandingOver 13 = .ok (.ireturn, 1) := by decide +kernel
theorem dX1_isAtWork_0 : decode cX1_isAtWork 0 = .ok (.aload_n 0, 1) := by decide +kernel
theorem dX1_isAtWork_1 : decode cX1_isAtWork 1 = .ok (.getfield 15, 3) := by decide +kernel
theorem dX1_isAtWork_4 : decode cX1_isAtWork 4 = .ok (.iconst (-1), 1) := by decide +kernel
theorem dX1_isAtWork_5 : decode cX1_isAtWork 5 = .ok (.if_icmp .eq 15, 3) := by decide +kernel
theorem dX1_isAtWork_8 : decode cX1_isAtWork 8 = .ok (.aload_n 0, 1) := by decide +kernel
theorem dX1_isAtWork_9 : decode cX1_isAtWork 9 = .ok (.getfield 19, 3) := by decide +kernel
theorem dX1_isAtWork_12 : decode cX1_isAtWork 12 = .ok (.iconst (-1), 1) := by decide +kernel
theorem dX1_isAtWork_13 : decode cX1_isAtWork 13 = .ok (.if_icmp .ne 7, 3) := by decide +kernel
theorem dX1_isAtWork_16 : decode cX1_isAtWork 16 = .ok (.iconst 1, 1) := by decide +kernel
theorem dX1_isAtWork_17 : decode cX1_isAtWork 17 = .ok (.goto 4, 3) := by decide +kernel
theorem dX1_isAtWork_20 : decode cX1_isAtWork 20 = .ok (.iconst 0, 1) := by decide +kernel
theorem dX1_isAtWork_21 : decode cX1_isAtWork 21 = .ok (.ireturn, 1) := by decide +kernel
theorem dX1_isWeary_0 : decode cX1_isWeary 0 = .ok (.aload_n 0, 1) := by decide +kernel
theorem dX1_isWeary_1 : decode cX1_isWeary 1 = .ok (.getfield 15, 3) := by decide +kernel
theorem dX1_isWeary_4 : decode cX1_isWeary 4 = .ok (.iconst (-1), 1) := by decide +kernel
theorem dX1_isWeary_5 : decode cX1_isWeary 5 = .ok (.if_icmp .eq 18, 3) := by decide +kernel
theorem dX1_isWeary_8 : decode cX1_isWeary 8 = .ok (.iload_n 1, 1) := by decide +kernel
theorem dX1_isWeary_9 : decode cX1_isWeary 9 = .ok (.aload_n 0, 1) := by decide +kernel
theorem dX1_isWeary_10 : decode cX1_isWeary 10 = .ok (.getfield 22, 3) := by decide +kernel
theorem dX1_isWeary_13 : decode cX1_isWeary 13 = .ok (.isub, 1) := by decide +kernel
theorem dX1_isWeary_14 : decode cX1_isWeary 14 = .ok (.bipush 12, 2) := by decide +kernel
theorem dX1_isWeary_16 : decode cX1_isWeary 16 = .ok (.if_icmp .lt 7, 3) := by decide +kernel
theorem dX1_isWeary_19 : decode cX1_isWeary 19 = .ok (.iconst 1, 1) := by decide +kernel
theorem dX1_isWeary_20 : decode cX1_isWeary 20 = .ok (.goto 4, 3) := by decide +kernel
theorem dX1_isWeary_23 : decode cX1_isWeary 23 = .ok (.iconst 0, 1) := by decide +kernel
theorem dX1_isWeary_24 : decode cX1_isWeary 24 = .ok (.ireturn, 1) := by decide +kernel
set_option maxRecDepth 20000 in
theorem ggX1_restOf_X5_isCrew : GoodIn wsX1_restOf wsX5_isCrew := goodIn_r _ [4] (by decide +kernel) (by decide +kernel)
set_option maxRecDepth 20000 in
theorem gX1_restOf_X5_isCrew_n25 : GoodIn wsX1_restOf (wsX5_isCrew) := ggX1_restOf_X5_isCrew
theorem dX1_restOf_0 : decode cX1_restOf 0 = .ok (.iload_n 1, 1) := by decide +kernel
theorem dX1_restOf_1 : decode cX1_restOf 1 = .ok (.invokestatic 25, 3) := by decide +kernel
theorem dX1_restOf_4 : decode cX1_restOf 4 = .ok (.ifCond .eq 24, 3) := by decide +kernel
theorem dX1_restOf_7 : decode cX1_restOf 7 = .ok (.aload_n 0, 1) := by decide +kernel
theorem dX1_restOf_8 : decode cX1_restOf 8 = .ok (.getfield 9, 3) := by decide +kernel
theorem dX1_restOf_11 : decode cX1_restOf 11 = .ok (.iload_n 1, 1) := by decide +kernel
theorem dX1_restOf_12 : decode cX1_restOf 12 = .ok (.iaload, 1) := by decide +kernel
theorem dX1_restOf_13 : decode cX1_restOf 13 = .ok (.iload_n 2, 1) := by decide +kernel
theorem dX1_restOf_14 : decode cX1_restOf 14 = .ok (.if_icmp .le 14, 3) := by decide +kernel
theorem dX1_restOf_17 : decode cX1_restOf 17 = .ok (.aload_n 0, 1) := by decide +kernel
theorem dX1_restOf_18 : decode cX1_restOf 18 = .ok (.getfield 9, 3) := by decide +kernel
theorem dX1_restOf_21 : decode cX1_restOf 21 = .ok (.iload_n 1, 1) := by decide +kernel
theorem dX1_restOf_22 : decode cX1_restOf 22 = .ok (.iaload, 1) := by decide +kernel
theorem dX1_restOf_23 : decode cX1_restOf 23 = .ok (.iload_n 2, 1) := by decide +kernel
theorem dX1_restOf_24 : decode cX1_restOf 24 = .ok (.isub, 1) := by decide +kernel
theorem dX1_restOf_25 : decode cX1_restOf 25 = .ok (.goto 4, 3) := by decide +kernel
theorem dX1_restOf_28 : decode cX1_restOf 28 = .ok (.iconst 0, 1) := by decide +kernel
theorem dX1_restOf_29 : decode cX1_restOf 29 = .ok (.ireturn, 1) := by decide +kernel
theorem dX1_startShift_0 : decode cX1_startShift 0 = .ok (.aload_n 0, 1) := by decide +kernel
theorem dX1_startShift_1 : decode cX1_startShift 1 = .ok (.iload_n 1, 1) := by decide +kernel
theorem dX1_startShift_2 : decode cX1_startShift 2 = .ok (.putfield 15, 3) := by decide +kernel
theorem dX1_startShift_5 : decode cX1_startShift 5 = .ok (.aload_n 0, 1) := by decide +kernel
theorem dX1_startShift_6 : decode cX1_startShift 6 = .ok (.iload_n 2, 1) := by decide +kernel
theorem dX1_startShift_7 : decode cX1_startShift 7 = .ok (.putfield 22, 3) := by decide +kernel
theorem dX1_startShift_10 : decode cX1_startShift 10 = .ok (.return_, 1) := by decide +kernel
theorem dX1_startHandOver_0 : decode cX1_startHandOver 0 = .ok (.aload_n 0, 1) := by decide +kernel
theorem dX1_startHandOver_1 : decode cX1_startHandOver 1 = .ok (.iload_n 1, 1) := by decide +kernel
theorem dX1_startHandOver_2 : decode cX1_startHandOver 2 = .ok (.putfield 19, 3) := by decide +kernel
theorem dX1_startHandOver_5 : decode cX1_startHandOver 5 = .ok (.return_, 1) := by decide +kernel
theorem dX1_stopHandOver_0 : decode cX1_stopHandOver 0 = .ok (.aload_n 0, 1) := by decide +kernel
theorem dX1_stopHandOver_1 : decode cX1_stopHandOver 1 = .ok (.iconst (-1), 1) := by decide +kernel
theorem dX1_stopHandOver_2 : decode cX1_stopHandOver 2 = .ok (.putfield 19, 3) := by decide +kernel
theorem dX1_stopHandOver_5 : decode cX1_stopHandOver 5 = .ok (.return_, 1) := by decide +kernel
set_option maxRecDepth 20000 in
theorem ggX1_changeShift_X5_isCrew : GoodIn wsX1_changeShift wsX5_isCrew := goodIn_r _ [6] (by decide +kernel) (by decide +kernel)
set_option maxRecDepth 20000 in
theorem gX1_changeShift_X5_isCrew_n25 : GoodIn wsX1_changeShift (wsX5_isCrew) := ggX1_changeShift_X5_isCrew
set_option maxRecDepth 20000 in
theorem ggX1_changeShift_X1_startShift : GoodIn wsX1_changeShift wsX1_startShift := goodIn_r _ [11, 1, 12, 17, 18, 19, 20] (by decide +kernel) (by decide +kernel)
set_option maxRecDepth 20000 in
theorem gX1_changeShift_X1_startShift : GoodIn wsX1_changeShift (wsV RX1 29 RX1 yX1_startShift wsX1_startShift) := goodIn_app (goodIn_of _ (by decide +kernel)) ggX1_changeShift_X1_startShift
set_option maxRecDepth 20000 in
theorem ggX1_changeShift_X1_stopHandOver : GoodIn wsX1_changeShift wsX1_stopHandOver := goodIn_r _ [16, 3, 17, 18, 19, 20] (by decide +kernel) (by decide +kernel)
set_option maxRecDepth 20000 in
theorem gX1_changeShift_X1_stopHandOver : GoodIn wsX1_changeShift (wsV RX1 33 RX1 yX1_stopHandOver wsX1_stopHandOver) := goodIn_app (goodIn_of _ (by decide +kernel)) ggX1_changeShift_X1_stopHandOver
theorem dX1_changeShift_0 : decode cX1_changeShift 0 = .ok (.aload_n 0, 1) := by decide +kernel
theorem dX1_changeShift_1 : decode cX1_changeShift 1 = .ok (.getfield 15, 3) := by decide +kernel
theorem dX1_changeShift_4 : decode cX1_changeShift 4 = .ok (.invokestatic 25, 3) := by decide +kernel
theorem dX1_changeShift_7 : decode cX1_changeShift 7 = .ok (.ifCond .eq 16, 3) := by decide +kernel
theorem dX1_changeShift_10 : decode cX1_changeShift 10 = .ok (.aload_n 0, 1) := by decide +kernel
theorem dX1_changeShift_11 : decode cX1_changeShift 11 = .ok (.getfield 9, 3) := by decide +kernel
theorem dX1_changeShift_14 : decode cX1_changeShift 14 = .ok (.aload_n 0, 1) := by decide +kernel
theorem dX1_changeShift_15 : decode cX1_changeShift 15 = .ok (.getfield 15, 3) := by decide +kernel
theorem dX1_changeShift_18 : decode cX1_changeShift 18 = .ok (.iload_n 1, 1) := by decide +kernel
theorem dX1_changeShift_19 : decode cX1_changeShift 19 = .ok (.bipush 11, 2) := by decide +kernel
theorem dX1_changeShift_21 : decode cX1_changeShift 21 = .ok (.iadd, 1) := by decide +kernel
theorem dX1_changeShift_22 : decode cX1_changeShift 22 = .ok (.iastore, 1) := by decide +kernel
theorem dX1_changeShift_23 : decode cX1_changeShift 23 = .ok (.aload_n 0, 1) := by decide +kernel
theorem dX1_changeShift_24 : decode cX1_changeShift 24 = .ok (.aload_n 0, 1) := by decide +kernel
theorem dX1_changeShift_25 : decode cX1_changeShift 25 = .ok (.getfield 19, 3) := by decide +kernel
theorem dX1_changeShift_28 : decode cX1_changeShift 28 = .ok (.iload_n 1, 1) := by decide +kernel
theorem dX1_changeShift_29 : decode cX1_changeShift 29 = .ok (.invokevirtual 29, 3) := by decide +kernel
theorem dX1_changeShift_32 : decode cX1_changeShift 32 = .ok (.aload_n 0, 1) := by decide +kernel
theorem dX1_changeShift_33 : decode cX1_changeShift 33 = .ok (.invokevirtual 33, 3) := by decide +kernel
theorem dX1_changeShift_36 : decode cX1_changeShift 36 = .ok (.return_, 1) := by decide +kernel
theorem dX2_init_0 : decode cX2_init 0 = .ok (.aload_n 0, 1) := by decide +kernel
theorem dX2_init_1 : decode cX2_init 1 = .ok (.invokespecial 3, 3) := by decide +kernel
theorem dX2_init_4 : decode cX2_init 4 = .ok (.aload_n 0, 1) := by decide +kernel
theorem dX2_init_5 : decode cX2_init 5 = .ok (.bipush 60, 2) := by decide +kernel
theorem dX2_init_7 : decode cX2_init 7 = .ok (.newarray .char, 2) := by decide +kernel
theorem dX2_init_9 : decode cX2_init 9 = .ok (.putfield 9, 3) := by decide +kernel
theorem dX2_init_12 : decode cX2_init 12 = .ok (.aload_n 0, 1) := by decide +kernel
theorem dX2_init_13 : decode cX2_init 13 = .ok (.bipush 60, 2) := by decide +kernel
theorem dX2_init_15 : decode cX2_init 15 = .ok (.newarray .int, 2) := by decide +kernel
theorem dX2_init_17 : decode cX2_init 17 = .ok (.putfield 15, 3) := by decide +kernel
theorem dX2_init_20 : decode cX2_init 20 = .ok (.aload_n 0, 1) := by decide +kernel
theorem dX2_init_21 : decode cX2_init 21 = .ok (.bipush 60, 2) := by decide +kernel
theorem dX2_init_23 : decode cX2_init 23 = .ok (.newarray .boolean, 2) := by decide +kernel
theorem dX2_init_25 : decode cX2_init 25 = .ok (.putfield 19, 3) := by decide +kernel
theorem dX2_init_28 : decode cX2_init 28 = .ok (.aload_n 0, 1) := by decide +kernel
theorem dX2_init_29 : decode cX2_init 29 = .ok (.bipush 60, 2) := by decide +kernel
theorem dX2_init_31 : decode cX2_init 31 = .ok (.newarray .boolean, 2) := by decide +kernel
theorem dX2_init_33 : decode cX2_init 33 = .ok (.putfield 23, 3) := by decide +kernel
theorem dX2_init_36 : decode cX2_init 36 = .ok (.aload_n 0, 1) := by decide +kernel
theorem dX2_init_37 : decode cX2_init 37 = .ok (.bipush 60, 2) := by decide +kernel
theorem dX2_init_39 : decode cX2_init 39 = .ok (.newarray .int, 2) := by decide +kernel
theorem dX2_init_41 : decode cX2_init 41 = .ok (.putfield 26, 3) := by decide +kernel
theorem dX2_init_44 : decode cX2_init 44 = .ok (.aload_n 0, 1) := by decide +kernel
theorem dX2_init_45 : decode cX2_init 45 = .ok (.bipush 120, 2) := by decide +kernel
theorem dX2_init_47 : decode cX2_init 47 = .ok (.newarray .int, 2) := by decide +kernel
theorem dX2_init_49 : decode cX2_init 49 = .ok (.putfield 29, 3) := by decide +kernel
theorem dX2_init_52 : decode cX2_init 52 = .ok (.return_, 1) := by decide +kernel
theorem dX2_isFull_0 : decode cX2_isFull 0 = .ok (.aload_n 0, 1) := by decide +kernel
theorem dX2_isFull_1 : decode cX2_isFull 1 = .ok (.getfield 32, 3) := by decide +kernel
theorem dX2_isFull_4 : decode cX2_isFull 4 = .ok (.bipush 60, 2) := by decide +kernel
theorem dX2_isFull_6 : decode cX2_isFull 6 = .ok (.if_icmp .lt 7, 3) := by decide +kernel
theorem dX2_isFull_9 : decode cX2_isFull 9 = .ok (.iconst 1, 1) := by decide +kernel
theorem dX2_isFull_10 : decode cX2_isFull 10 = .ok (.goto 4, 3) := by decide +kernel
theorem dX2_isFull_13 : decode cX2_isFull 13 = .ok (.iconst 0, 1) := by decide +kernel
theorem dX2_isFull_14 : decode cX2_isFull 14 = .ok (.ireturn, 1) := by decide +kernel
theorem dX2_hasLine_0 : decode cX2_hasLine 0 = .ok (.iload_n 1, 1) := by decide +kernel
theorem dX2_hasLine_1 : decode cX2_hasLine 1 = .ok (.ifCond .lt 21, 3) := by decide +kernel
theorem dX2_hasLine_4 : decode cX2_hasLine 4 = .ok (.iload_n 1, 1) := by decide +kernel
theorem dX2_hasLine_5 : decode cX2_hasLine 5 = .ok (.aload_n 0, 1) := by decide +kernel
theorem dX2_hasLine_6 : decode cX2_hasLine 6 = .ok (.getfield 32, 3) := by decide +kernel
theorem dX2_hasLine_9 : decode cX2_hasLine 9 = .ok (.if_icmp .ge 13, 3) := by decide +kernel
theorem dX2_hasLine_12 : decode cX2_hasLine 12 = .ok (.iload_n 1, 1) := by decide +kernel
theorem dX2_hasLine_13 : decode cX2_hasLine 13 = .ok (.bipush 60, 2) := by decide +kernel
theorem dX2_hasLine_15 : decode cX2_hasLine 15 = .ok (.if_icmp .ge 7, 3) := by decide +kernel
theorem dX2_hasLine_18 : decode cX2_hasLine 18 = .ok (.iconst 1, 1) := by decide +kernel
theorem dX2_hasLine_19 : decode cX2_hasLine 19 = .ok (.goto 4, 3) := by decide +kernel
theorem dX2_hasLine_22 : decode cX2_hasLine 22 = .ok (.iconst 0, 1) := by decide +kernel
theorem dX2_hasLine_23 : decode cX2_hasLine 23 = .ok (.ireturn, 1) := by decide +kernel
theorem dX2_lineCount_0 : decode cX2_lineCount 0 = .ok (.aload_n 0, 1) := by decide +kernel
theorem dX2_lineCount_1 : decode cX2_lineCount 1 = .ok (.getfield 32, 3) := by decide +kernel
theorem dX2_lineCount_4 : decode cX2_lineCount 4 = .ok (.ireturn, 1) := by decide +kernel
theorem dX2_openCount_0 : decode cX2_openCount 0 = .ok (.aload_n 0, 1) := by decide +kernel
theorem dX2_openCount_1 : decode cX2_openCount 1 = .ok (.getfield 36, 3) := by decide +kernel
theorem dX2_openCount_4 : decode cX2_openCount 4 = .ok (.ireturn, 1) := by decide +kernel
set_option maxRecDepth 20000 in
theorem ggX2_openLine_X2_isFull : GoodIn wsX2_openLine wsX2_isFull := goodIn_r _ [10, 1, 21, 22, 23, 24, 25, 26, 27, 28, 29] (by decide +kernel) (by decide +kernel)
set_option maxRecDepth 20000 in
theorem gX2_openLine_X2_isFull : GoodIn wsX2_openLine (wsV RX2 39 RX2 yX2_isFull wsX2_isFull) := goodIn_app (goodIn_of _ (by decide +kernel)) ggX2_openLine_X2_isFull
set_option maxRecDepth 20000 in
theorem ggX2_openLine_X2_hasLine : GoodIn wsX2_openLine wsX2_hasLine := goodIn_r _ [14, 1, 21, 22, 23, 24, 25, 26, 27, 28, 29] (by decide +kernel) (by decide +kernel)
set_option maxRecDepth 20000 in
theorem gX2_openLine_X2_hasLine : GoodIn wsX2_openLine (wsV RX2 43 RX2 yX2_hasLine wsX2_hasLine) := goodIn_app (goodIn_of _ (by decide +kernel)) ggX2_openLine_X2_hasLine
set_option maxRecDepth 20000 in
theorem ggX2_openLine_X2_writeEntry : GoodIn wsX2_openLine wsX2_writeEntry := goodIn_ca (goodIn_r _ [18, 19, 20, 21, 22, 23, 24, 25, 26, 27, 28, 29] (by decide +kernel) (by decide +kernel)) (goodIn_sub (fun _ h => List.mem_cons_of_mem _ (List.mem_append_right _ h)) (by decide +kernel))
set_option maxRecDepth 20000 in
theorem gX2_openLine_X2_writeEntry : GoodIn wsX2_openLine (wsV RX2 47 RX2 yX2_writeEntry wsX2_writeEntry) := goodIn_app (goodIn_of _ (by decide +kernel)) ggX2_openLine_X2_writeEntry
theorem dX2_openLine_0 : decode cX2_openLine 0 = .ok (.aload_n 0, 1) := by decide +kernel
theorem dX2_openLine_1 : decode cX2_openLine 1 = .ok (.invokevirtual 39, 3) := by decide +kernel
theorem dX2_openLine_4 : decode cX2_openLine 4 = .ok (.ifCond .eq 5, 3) := by decide +kernel
theorem dX2_openLine_7 : decode cX2_openLine 7 = .ok (.iconst (-1), 1) := by decide +kernel
theorem dX2_openLine_8 : decode cX2_openLine 8 = .ok (.ireturn, 1) := by decide +kernel
theorem dX2_openLine_9 : decode cX2_openLine 9 = .ok (.aload_n 0, 1) := by decide +kernel
theorem dX2_openLine_10 : decode cX2_openLine 10 = .ok (.getfield 32, 3) := by decide +kernel
theorem dX2_openLine_13 : decode cX2_openLine 13 = .ok (.istore_n 3, 1) := by decide +kernel
theorem dX2_openLine_14 : decode cX2_openLine 14 = .ok (.aload_n 0, 1) := by decide +kernel
theorem dX2_openLine_15 : decode cX2_openLine 15 = .ok (.dup, 1) := by decide +kernel
theorem dX2_openLine_16 : decode cX2_openLine 16 = .ok (.getfield 32, 3) := by decide +kernel
theorem dX2_openLine_19 : decode cX2_openLine 19 = .ok (.iconst 1, 1) := by decide +kernel
theorem dX2_openLine_20 : decode cX2_openLine 20 = .ok (.iadd, 1) := by decide +kernel
theorem dX2_openLine_21 : decode cX2_openLine 21 = .ok (.putfield 32, 3) := by decide +kernel
theorem dX2_openLine_24 : decode cX2_openLine 24 = .ok (.aload_n 0, 1) := by decide +kernel
theorem dX2_openLine_25 : decode cX2_openLine 25 = .ok (.iload_n 3, 1) := by decide +kernel
theorem dX2_openLine_26 : decode cX2_openLine 26 = .ok (.invokevirtual 43, 3) := by decide +kernel
theorem dX2_openLine_29 : decode cX2_openLine 29 = .ok (.ifCond .eq 39, 3) := by decide +kernel
theorem dX2_openLine_32 : decode cX2_openLine 32 = .ok (.aload_n 0, 1) := by decide +kernel
theorem dX2_openLine_33 : decode cX2_openLine 33 = .ok (.getfield 9, 3) := by decide +kernel
theorem dX2_openLine_36 : decode cX2_openLine 36 = .ok (.iload_n 3, 1) := by decide +kernel
theorem dX2_openLine_37 : decode cX2_openLine 37 = .ok (.iload_n 1, 1) := by decide +kernel
theorem dX2_openLine_38 : decode cX2_openLine 38 = .ok (.castore, 1) := by decide +kernel
theorem dX2_openLine_39 : decode cX2_openLine 39 = .ok (.aload_n 0, 1) := by decide +kernel
theorem dX2_openLine_40 : decode cX2_openLine 40 = .ok (.getfield 15, 3) := by decide +kernel
theorem dX2_openLine_43 : decode cX2_openLine 43 = .ok (.iload_n 3, 1) := by decide +kernel
theorem dX2_openLine_44 : decode cX2_openLine 44 = .ok (.iload_n 2, 1) := by decide +kernel
theorem dX2_openLine_45 : decode cX2_openLine 45 = .ok (.iastore, 1) := by decide +kernel
theorem dX2_openLine_46 : decode cX2_openLine 46 = .ok (.aload_n 0, 1) := by decide +kernel
theorem dX2_openLine_47 : decode cX2_openLine 47 = .ok (.getfield 19, 3) := by decide +kernel
theorem dX2_openLine_50 : decode cX2_openLine 50 = .ok (.iload_n 3, 1) := by decide +kernel
theorem dX2_openLine_51 : decode cX2_openLine 51 = .ok (.iconst 1, 1) := by decide +kernel
theorem dX2_openLine_52 : decode cX2_openLine 52 = .ok (.bastore, 1) := by decide +kernel
theorem dX2_openLine_53 : decode cX2_openLine 53 = .ok (.aload_n 0, 1) := by decide +kernel
theorem dX2_openLine_54 : decode cX2_openLine 54 = .ok (.dup, 1) := by decide +kernel
theorem dX2_openLine_55 : decode cX2_openLine 55 = .ok (.getfield 36, 3) := by decide +kernel
theorem dX2_openLine_58 : decode cX2_openLine 58 = .ok (.iconst 1, 1) := by decide +kernel
theorem dX2_openLine_59 : decode cX2_openLine 59 = .ok (.iadd, 1) := by decide +kernel
theorem dX2_openLine_60 : decode cX2_openLine 60 = .ok (.putfield 36, 3) := by decide +kernel
theorem dX2_openLine_63 : decode cX2_openLine 63 = .ok (.aload_n 0, 1) := by decide +kernel
theorem dX2_openLine_64 : decode cX2_openLine 64 = .ok (.iload_n 3, 1) := by decide +kernel
theorem dX2_openLine_65 : decode cX2_openLine 65 = .ok (.invokevirtual 47, 3) := by decide +kernel
theorem dX2_openLine_68 : decode cX2_openLine 68 = .ok (.iload_n 3, 1) := by decide +kernel
theorem dX2_openLine_69 : decode cX2_openLine 69 = .ok (.ireturn, 1) := by decide +kernel
set_option maxRecDepth 20000 in
theorem ggX2_closeLine_X2_isOpen : GoodIn wsX2_closeLine wsX2_isOpen := goodIn_ca (goodIn_r _ [7, 1, 8, 9, 10, 6, 11, 12, 19, 20, 21, 22, 23, 24, 25, 26, 27] (by decide +kernel) (by decide +kernel)) (goodIn_sub (fun _ h => List.mem_cons_of_mem _ (List.mem_append_right _ h)) (by decide +kernel))
set_option maxRecDepth 20000 in
theorem gX2_closeLine_X2_isOpen : GoodIn wsX2_closeLine (wsV RX2 51 RX2 yX2_isOpen wsX2_isOpen) := goodIn_app (goodIn_of _ (by decide +kernel)) ggX2_closeLine_X2_isOpen
set_option maxRecDepth 20000 in
theorem ggX2_closeLine_X2_writeEntry : GoodIn wsX2_closeLine wsX2_writeEntry := goodIn_ca (goodIn_r _ [16, 17, 18, 19, 20, 21, 22, 23, 24, 25, 26, 27] (by decide +kernel) (by decide +kernel)) (goodIn_sub (fun _ h => List.mem_cons_of_mem _ (List.mem_append_right _ h)) (by decide +kernel))
set_option maxRecDepth 20000 in
theorem gX2_closeLine_X2_writeEntry : GoodIn wsX2_closeLine (wsV RX2 47 RX2 yX2_writeEntry wsX2_writeEntry) := goodIn_app (goodIn_of _ (by decide +kernel)) ggX2_closeLine_X2_writeEntry
theorem dX2_closeLine_0 : decode cX2_closeLine 0 = .ok (.aload_n 0, 1) := by decide +kernel
theorem dX2_closeLine_1 : decode cX2_closeLine 1 = .ok (.iload_n 1, 1) := by decide +kernel
theorem dX2_closeLine_2 : decode cX2_closeLine 2 = .ok (.invokevirtual 51, 3) := by decide +kernel
theorem dX2_closeLine_5 : decode cX2_closeLine 5 = .ok (.ifCond .eq 27, 3) := by decide +kernel
theorem dX2_closeLine_8 : decode cX2_closeLine 8 = .ok (.aload_n 0, 1) := by decide +kernel
theorem dX2_closeLine_9 : decode cX2_closeLine 9 = .ok (.getfield 19, 3) := by decide +kernel
theorem dX2_closeLine_12 : decode cX2_closeLine 12 = .ok (.iload_n 1, 1) := by decide +kernel
theorem dX2_closeLine_13 : decode cX2_closeLine 13 = .ok (.iconst 0, 1) := by decide +kernel
theorem dX2_closeLine_14 : decode cX2_closeLine 14 = .ok (.bastore, 1) := by decide +kernel
theorem dX2_closeLine_15 : decode cX2_closeLine 15 = .ok (.aload_n 0, 1) := by decide +kernel
theorem dX2_closeLine_16 : decode cX2_closeLine 16 = .ok (.dup, 1) := by decide +kernel
theorem dX2_closeLine_17 : decode cX2_closeLine 17 = .ok (.getfield 36, 3) := by decide +kernel
theorem dX2_closeLine_20 : decode cX2_closeLine 20 = .ok (.iconst 1, 1) := by decide +kernel
theorem dX2_closeLine_21 : decode cX2_closeLine 21 = .ok (.isub, 1) := by decide +kernel
theorem dX2_closeLine_22 : decode cX2_closeLine 22 = .ok (.putfield 36, 3) := by decide +kernel
theorem dX2_closeLine_25 : decode cX2_closeLine 25 = .ok (.aload_n 0, 1) := by decide +kernel
theorem dX2_closeLine_26 : decode cX2_closeLine 26 = .ok (.iload_n 1, 1) := by decide +kernel
theorem dX2_closeLine_27 : decode cX2_closeLine 27 = .ok (.iconst (-1), 1) := by decide +kernel
theorem dX2_closeLine_28 : decode cX2_closeLine 28 = .ok (.ixor, 1) := by decide +kernel
theorem dX2_closeLine_29 : decode cX2_closeLine 29 = .ok (.invokevirtual 47, 3) := by decide +kernel
theorem dX2_closeLine_32 : decode cX2_closeLine 32 = .ok (.return_, 1) := by decide +kernel
theorem dX2_writeEntry_0 : decode cX2_writeEntry 0 = .ok (.aload_n 0, 1) := by decide +kernel
theorem dX2_writeEntry_1 : decode cX2_writeEntry 1 = .ok (.getfield 54, 3) := by decide +kernel
theorem dX2_writeEntry_4 : decode cX2_writeEntry 4 = .ok (.ifCond .lt 32, 3) := by decide +kernel
theorem dX2_writeEntry_7 : decode cX2_writeEntry 7 = .ok (.aload_n 0, 1) := by decide +kernel
theorem dX2_writeEntry_8 : decode cX2_writeEntry 8 = .ok (.getfield 54, 3) := by decide +kernel
theorem dX2_writeEntry_11 : decode cX2_writeEntry 11 = .ok (.bipush 120, 2) := by decide +kernel
theorem dX2_writeEntry_13 : decode cX2_writeEntry 13 = .ok (.if_icmp .ge 23, 3) := by decide +kernel
theorem dX2_writeEntry_16 : decode cX2_writeEntry 16 = .ok (.aload_n 0, 1) := by decide +kernel
theorem dX2_writeEntry_17 : decode cX2_writeEntry 17 = .ok (.getfield 29, 3) := by decide +kernel
theorem dX2_writeEntry_20 : decode cX2_writeEntry 20 = .ok (.aload_n 0, 1) := by decide +kernel
theorem dX2_writeEntry_21 : decode cX2_writeEntry 21 = .ok (.getfield 54, 3) := by decide +kernel
theorem dX2_writeEntry_24 : decode cX2_writeEntry 24 = .ok (.iload_n 1, 1) := by decide +kernel
theorem dX2_writeEntry_25 : decode cX2_writeEntry 25 = .ok (.iastore, 1) := by decide +kernel
theorem dX2_writeEntry_26 : decode cX2_writeEntry 26 = .ok (.aload_n 0, 1) := by decide +kernel
theorem dX2_writeEntry_27 : decode cX2_writeEntry 27 = .ok (.dup, 1) := by decide +kernel
theorem dX2_writeEntry_28 : decode cX2_writeEntry 28 = .ok (.getfield 54, 3) := by decide +kernel
theorem dX2_writeEntry_31 : decode cX2_writeEntry 31 = .ok (.iconst 1, 1) := by decide +kernel
theorem dX2_writeEntry_32 : decode cX2_writeEntry 32 = .ok (.iadd, 1) := by decide +kernel
theorem dX2_writeEntry_33 : decode cX2_writeEntry 33 = .ok (.putfield 54, 3) := by decide +kernel
theorem dX2_writeEntry_36 : decode cX2_writeEntry 36 = .ok (.return_, 1) := by decide +kernel
theorem dX2_openCountByEntries_0 : decode cX2_openCountByEntries 0 = .ok (.iconst 0, 1) := by decide +kernel
theorem dX2_openCountByEntries_1 : decode cX2_openCountByEntries 1 = .ok (.istore_n 1, 1) := by decide +kernel
theorem dX2_openCountByEntries_2 : decode cX2_openCountByEntries 2 = .ok (.iconst 0, 1) := by decide +kernel
theorem dX2_openCountByEntries_3 : decode cX2_openCountByEntries 3 = .ok (.istore_n 2, 1) := by decide +kernel
theorem dX2_openCountByEntries_4 : decode cX2_openCountByEntries 4 = .ok (.iload_n 2, 1) := by decide +kernel
theorem dX2_openCountByEntries_5 : decode cX2_openCountByEntries 5 = .ok (.bipush 120, 2) := by decide +kernel
theorem dX2_openCountByEntries_7 : decode cX2_openCountByEntries 7 = .ok (.if_icmp .ge 34, 3) := by decide +kernel
theorem dX2_openCountByEntries_10 : decode cX2_openCountByEntries 10 = .ok (.iload_n 2, 1) := by decide +kernel
theorem dX2_openCountByEntries_11 : decode cX2_openCountByEntries 11 = .ok (.aload_n 0, 1) := by decide +kernel
theorem dX2_openCountByEntries_12 : decode cX2_openCountByEntries 12 = .ok (.getfield 54, 3) := by decide +kernel
theorem dX2_openCountByEntries_15 : decode cX2_openCountByEntries 15 = .ok (.if_icmp .ge 26, 3) := by decide +kernel
theorem dX2_openCountByEntries_18 : decode cX2_openCountByEntries 18 = .ok (.iload_n 1, 1) := by decide +kernel
theorem dX2_openCountByEntries_19 : decode cX2_openCountByEntries 19 = .ok (.aload_n 0, 1) := by decide +kernel
theorem dX2_openCountByEntries_20 : decode cX2_openCountByEntries 20 = .ok (.getfield 29, 3) := by decide +kernel
theorem dX2_openCountByEntries_23 : decode cX2_openCountByEntries 23 = .ok (.iload_n 2, 1) := by decide +kernel
theorem dX2_openCountByEntries_24 : decode cX2_openCountByEntries 24 = .ok (.iaload, 1) := by decide +kernel
theorem dX2_openCountByEntries_25 : decode cX2_openCountByEntries 25 = .ok (.ifCond .lt 7, 3) := by decide +kernel
theorem dX2_openCountByEntries_28 : decode cX2_openCountByEntries 28 = .ok (.iconst 1, 1) := by decide +kernel
theorem dX2_openCountByEntries_29 : decode cX2_openCountByEntries 29 = .ok (.goto 4, 3) := by decide +kernel
theorem dX2_openCountByEntries_32 : decode cX2_openCountByEntries 32 = .ok (.iconst (-1), 1) := by decide +kernel
theorem dX2_openCountByEntries_33 : decode cX2_openCountByEntries 33 = .ok (.iadd, 1) := by decide +kernel
theorem dX2_openCountByEntries_34 : decode cX2_openCountByEntries 34 = .ok (.istore_n 1, 1) := by decide +kernel
theorem dX2_openCountByEntries_35 : decode cX2_openCountByEntries 35 = .ok (.iinc 2 1, 3) := by decide +kernel
theorem dX2_openCountByEntries_38 : decode cX2_openCountByEntries 38 = .ok (.goto (-34), 3) := by decide +kernel
theorem dX2_openCountByEntries_41 : decode cX2_openCountByEntries 41 = .ok (.iload_n 1, 1) := by decide +kernel
theorem dX2_openCountByEntries_42 : decode cX2_openCountByEntries 42 = .ok (.ireturn, 1) := by decide +kernel
set_option maxRecDepth 20000 in
theorem ggX2_isOpen_X2_hasLine : GoodIn wsX2_isOpen wsX2_hasLine := goodIn_r _ [6, 7, 8, 9, 10, 11, 12, 13, 14, 15, 16] (by decide +kernel) (by decide +kernel)
set_option maxRecDepth 20000 in
theorem gX2_isOpen_X2_hasLine : GoodIn wsX2_isOpen (wsV RX2 43 RX2 yX2_hasLine wsX2_hasLine) := goodIn_app (goodIn_of _ (by decide +kernel)) ggX2_isOpen_X2_hasLine
theorem dX2_isOpen_0 : decode cX2_isOpen 0 = .ok (.aload_n 0, 1) := by decide +kernel
theorem dX2_isOpen_1 : decode cX2_isOpen 1 = .ok (.iload_n 1, 1) := by decide +kernel
theorem dX2_isOpen_2 : decode cX2_isOpen 2 = .ok (.invokevirtual 43, 3) := by decide +kernel
theorem dX2_isOpen_5 : decode cX2_isOpen 5 = .ok (.ifCond .eq 16, 3) := by decide +kernel
theorem dX2_isOpen_8 : decode cX2_isOpen 8 = .ok (.aload_n 0, 1) := by decide +kernel
theorem dX2_isOpen_9 : decode cX2_isOpen 9 = .ok (.getfield 19, 3) := by decide +kernel
theorem dX2_isOpen_12 : decode cX2_isOpen 12 = .ok (.iload_n 1, 1) := by decide +kernel
theorem dX2_isOpen_13 : decode cX2_isOpen 13 = .ok (.baload, 1) := by decide +kernel
theorem dX2_isOpen_14 : decode cX2_isOpen 14 = .ok (.ifCond .eq 7, 3) := by decide +kernel
theorem dX2_isOpen_17 : decode cX2_isOpen 17 = .ok (.iconst 1, 1) := by decide +kernel
theorem dX2_isOpen_18 : decode cX2_isOpen 18 = .ok (.goto 4, 3) := by decide +kernel
theorem dX2_isOpen_21 : decode cX2_isOpen 21 = .ok (.iconst 0, 1) := by decide +kernel
theorem dX2_isOpen_22 : decode cX2_isOpen 22 = .ok (.ireturn, 1) := by decide +kernel
set_option maxRecDepth 20000 in
theorem ggX2_kindAt_X2_hasLine : GoodIn wsX2_kindAt wsX2_hasLine := goodIn_r _ [6, 7, 8, 9, 10, 11, 12, 13, 14, 15, 16] (by decide +kernel) (by decide +kernel)
set_option maxRecDepth 20000 in
theorem gX2_kindAt_X2_hasLine : GoodIn wsX2_kindAt (wsV RX2 43 RX2 yX2_hasLine wsX2_hasLine) := goodIn_app (goodIn_of _ (by decide +kernel)) ggX2_kindAt_X2_hasLine
theorem dX2_kindAt_0 : decode cX2_kindAt 0 = .ok (.aload_n 0, 1) := by decide +kernel
theorem dX2_kindAt_1 : decode cX2_kindAt 1 = .ok (.iload_n 1, 1) := by decide +kernel
theorem dX2_kindAt_2 : decode cX2_kindAt 2 = .ok (.invokevirtual 43, 3) := by decide +kernel
theorem dX2_kindAt_5 : decode cX2_kindAt 5 = .ok (.ifCond .eq 12, 3) := by decide +kernel
theorem dX2_kindAt_8 : decode cX2_kindAt 8 = .ok (.aload_n 0, 1) := by decide +kernel
theorem dX2_kindAt_9 : decode cX2_kindAt 9 = .ok (.getfield 9, 3) := by decide +kernel
theorem dX2_kindAt_12 : decode cX2_kindAt 12 = .ok (.iload_n 1, 1) := by decide +kernel
theorem dX2_kindAt_13 : decode cX2_kindAt 13 = .ok (.caload, 1) := by decide +kernel
theorem dX2_kindAt_14 : decode cX2_kindAt 14 = .ok (.goto 5, 3) := by decide +kernel
theorem dX2_kindAt_17 : decode cX2_kindAt 17 = .ok (.bipush 32, 2) := by decide +kernel
theorem dX2_kindAt_19 : decode cX2_kindAt 19 = .ok (.ireturn, 1) := by decide +kernel
set_option maxRecDepth 20000 in
theorem ggX2_handOversOf_X2_hasLine : GoodIn wsX2_handOversOf wsX2_hasLine := goodIn_r _ [6, 7, 8, 9, 10, 11, 12, 13, 14, 15, 16] (by decide +kernel) (by decide +kernel)
set_option maxRecDepth 20000 in
theorem gX2_handOversOf_X2_hasLine : GoodIn wsX2_handOversOf (wsV RX2 43 RX2 yX2_hasLine wsX2_hasLine) := goodIn_app (goodIn_of _ (by decide +kernel)) ggX2_handOversOf_X2_hasLine
theorem dX2_handOversOf_0 : decode cX2_handOversOf 0 = .ok (.aload_n 0, 1) := by decide +kernel
theorem dX2_handOversOf_1 : decode cX2_handOversOf 1 = .ok (.iload_n 1, 1) := by decide +kernel
theorem dX2_handOversOf_2 : decode cX2_handOversOf 2 = .ok (.invokevirtual 43, 3) := by decide +kernel
theorem dX2_handOversOf_5 : decode cX2_handOversOf 5 = .ok (.ifCond .eq 12, 3) := by decide +kernel
theorem dX2_handOversOf_8 : decode cX2_handOversOf 8 = .ok (.aload_n 0, 1) := by decide +kernel
theorem dX2_handOversOf_9 : decode cX2_handOversOf 9 = .ok (.getfield 26, 3) := by decide +kernel
theorem dX2_handOversOf_12 : decode cX2_handOversOf 12 = .ok (.iload_n 1, 1) := by decide +kernel
theorem dX2_handOversOf_13 : decode cX2_handOversOf 13 = .ok (.iaload, 1) := by decide +kernel
theorem dX2_handOversOf_14 : decode cX2_handOversOf 14 = .ok (.goto 4, 3) := by decide +kernel
theorem dX2_handOversOf_17 : decode cX2_handOversOf 17 = .ok (.iconst 0, 1) := by decide +kernel
theorem dX2_handOversOf_18 : decode cX2_handOversOf 18 = .ok (.ireturn, 1) := by decide +kernel
set_option maxRecDepth 20000 in
theorem ggX2_isAcknowledged_X2_hasLine : GoodIn wsX2_isAcknowledged wsX2_hasLine := goodIn_r _ [6, 7, 8, 9, 10, 11, 12, 13, 14, 15, 16] (by decide +kernel) (by decide +kernel)
set_option maxRecDepth 20000 in
theorem gX2_isAcknowledged_X2_hasLine : GoodIn wsX2_isAcknowledged (wsV RX2 43 RX2 yX2_hasLine wsX2_hasLine) := goodIn_app (goodIn_of _ (by decide +kernel)) ggX2_isAcknowledged_X2_hasLine
theorem dX2_isAcknowledged_0 : decode cX2_isAcknowledged 0 = .ok (.aload_n 0, 1) := by decide +kernel
theorem dX2_isAcknowledged_1 : decode cX2_isAcknowledged 1 = .ok (.iload_n 1, 1) := by decide +kernel
theorem dX2_isAcknowledged_2 : decode cX2_isAcknowledged 2 = .ok (.invokevirtual 43, 3) := by decide +kernel
theorem dX2_isAcknowledged_5 : decode cX2_isAcknowledged 5 = .ok (.ifCond .eq 16, 3) := by decide +kernel
theorem dX2_isAcknowledged_8 : decode cX2_isAcknowledged 8 = .ok (.aload_n 0, 1) := by decide +kernel
theorem dX2_isAcknowledged_9 : decode cX2_isAcknowledged 9 = .ok (.getfield 23, 3) := by decide +kernel
theorem dX2_isAcknowledged_12 : decode cX2_isAcknowledged 12 = .ok (.iload_n 1, 1) := by decide +kernel
theorem dX2_isAcknowledged_13 : decode cX2_isAcknowledged 13 = .ok (.baload, 1) := by decide +kernel
theorem dX2_isAcknowledged_14 : decode cX2_isAcknowledged 14 = .ok (.ifCond .eq 7, 3) := by decide +kernel
theorem dX2_isAcknowledged_17 : decode cX2_isAcknowledged 17 = .ok (.iconst 1, 1) := by decide +kernel
theorem dX2_isAcknowledged_18 : decode cX2_isAcknowledged 18 = .ok (.goto 4, 3) := by decide +kernel
theorem dX2_isAcknowledged_21 : decode cX2_isAcknowledged 21 = .ok (.iconst 0, 1) := by decide +kernel
theorem dX2_isAcknowledged_22 : decode cX2_isAcknowledged 22 = .ok (.ireturn, 1) := by decide +kernel
set_option maxRecDepth 20000 in
theorem ggX2_markAcknowledged_X2_hasLine : GoodIn wsX2_markAcknowledged wsX2_hasLine := goodIn_r _ [6, 7, 8, 9, 10, 11, 12, 13, 14, 15, 16] (by decide +kernel) (by decide +kernel)
set_option maxRecDepth 20000 in
theorem gX2_markAcknowledged_X2_hasLine : GoodIn wsX2_markAcknowledged (wsV RX2 43 RX2 yX2_hasLine wsX2_hasLine) := goodIn_app (goodIn_of _ (by decide +kernel)) ggX2_markAcknowledged_X2_hasLine
theorem dX2_markAcknowledged_0 : decode cX2_markAcknowledged 0 = .ok (.aload_n 0, 1) := by decide +kernel
theorem dX2_markAcknowledged_1 : decode cX2_markAcknowledged 1 = .ok (.iload_n 1, 1) := by decide +kernel
theorem dX2_markAcknowledged_2 : decode cX2_markAcknowledged 2 = .ok (.invokevirtual 43, 3) := by decide +kernel
theorem dX2_markAcknowledged_5 : decode cX2_markAcknowledged 5 = .ok (.ifCond .eq 10, 3) := by decide +kernel
theorem dX2_markAcknowledged_8 : decode cX2_markAcknowledged 8 = .ok (.aload_n 0, 1) := by decide +kernel
theorem dX2_markAcknowledged_9 : decode cX2_markAcknowledged 9 = .ok (.getfield 23, 3) := by decide +kernel
theorem dX2_markAcknowledged_12 : decode cX2_markAcknowledged 12 = .ok (.iload_n 1, 1) := by decide +kernel
theorem dX2_markAcknowledged_13 : decode cX2_markAcknowledged 13 = .ok (.iconst 1, 1) := by decide +kernel
theorem dX2_markAcknowledged_14 : decode cX2_markAcknowledged 14 = .ok (.bastore, 1) := by decide +kernel
theorem dX2_markAcknowledged_15 : decode cX2_markAcknowledged 15 = .ok (.return_, 1) := by decide +kernel
theorem dX2_forgetAcknowledged_0 : decode cX2_forgetAcknowledged 0 = .ok (.iconst 0, 1) := by decide +kernel
theorem dX2_forgetAcknowledged_1 : decode cX2_forgetAcknowledged 1 = .ok (.istore_n 1, 1) := by decide +kernel
theorem dX2_forgetAcknowledged_2 : decode cX2_forgetAcknowledged 2 = .ok (.iload_n 1, 1) := by decide +kernel
theorem dX2_forgetAcknowledged_3 : decode cX2_forgetAcknowledged 3 = .ok (.bipush 60, 2) := by decide +kernel
theorem dX2_forgetAcknowledged_5 : decode cX2_forgetAcknowledged 5 = .ok (.if_icmp .ge 16, 3) := by decide +kernel
theorem dX2_forgetAcknowledged_8 : decode cX2_forgetAcknowledged 8 = .ok (.aload_n 0, 1) := by decide +kernel
theorem dX2_forgetAcknowledged_9 : decode cX2_forgetAcknowledged 9 = .ok (.getfield 23, 3) := by decide +kernel
theorem dX2_forgetAcknowledged_12 : decode cX2_forgetAcknowledged 12 = .ok (.iload_n 1, 1) := by decide +kernel
theorem dX2_forgetAcknowledged_13 : decode cX2_forgetAcknowledged 13 = .ok (.iconst 0, 1) := by decide +kernel
theorem dX2_forgetAcknowledged_14 : decode cX2_forgetAcknowledged 14 = .ok (.bastore, 1) := by decide +kernel
theorem dX2_forgetAcknowledged_15 : decode cX2_forgetAcknowledged 15 = .ok (.iinc 1 1, 3) := by decide +kernel
theorem dX2_forgetAcknowledged_18 : decode cX2_forgetAcknowledged 18 = .ok (.goto (-16), 3) := by decide +kernel
theorem dX2_forgetAcknowledged_21 : decode cX2_forgetAcknowledged 21 = .ok (.return_, 1) := by decide +kernel
set_option maxRecDepth 20000 in
theorem ggX2_acknowledgedCount_X2_isOpen : GoodIn wsX2_acknowledgedCount wsX2_isOpen := goodIn_ca (goodIn_r _ [6, 7, 8, 9, 10, 5, 11, 12, 13, 14, 15, 16, 17, 18, 19, 20, 21] (by decide +kernel) (by decide +kernel)) (goodIn_sub (fun _ h => List.mem_cons_of_mem _ (List.mem_append_right _ h)) (by decide +kernel))
set_option maxRecDepth 20000 in
theorem gX2_acknowledgedCount_X2_isOpen : GoodIn wsX2_acknowledgedCount (wsV RX2 51 RX2 yX2_isOpen wsX2_isOpen) := goodIn_app (goodIn_of _ (by decide +kernel)) ggX2_acknowledgedCount_X2_isOpen
theorem dX2_acknowledgedCount_0 : decode cX2_acknowledgedCount 0 = .ok (.iconst 0, 1) := by decide +kernel
theorem dX2_acknowledgedCount_1 : decode cX2_acknowledgedCount 1 = .ok (.istore_n 1, 1) := by decide +kernel
theorem dX2_acknowledgedCount_2 : decode cX2_acknowledgedCount 2 = .ok (.iconst 0, 1) := by decide +kernel
theorem dX2_acknowledgedCount_3 : decode cX2_acknowledgedCount 3 = .ok (.istore_n 2, 1) := by decide +kernel
theorem dX2_acknowledgedCount_4 : decode cX2_acknowledgedCount 4 = .ok (.iload_n 2, 1) := by decide +kernel
theorem dX2_acknowledgedCount_5 : decode cX2_acknowledgedCount 5 = .ok (.bipush 60, 2) := by decide +kernel
theorem dX2_acknowledgedCount_7 : decode cX2_acknowledgedCount 7 = .ok (.if_icmp .ge 29, 3) := by decide +kernel
theorem dX2_acknowledgedCount_10 : decode cX2_acknowledgedCount 10 = .ok (.aload_n 0, 1) := by decide +kernel
theorem dX2_acknowledgedCount_11 : decode cX2_acknowledgedCount 11 = .ok (.iload_n 2, 1) := by decide +kernel
theorem dX2_acknowledgedCount_12 : decode cX2_acknowledgedCount 12 = .ok (.invokevirtual 51, 3) := by decide +kernel
theorem dX2_acknowledgedCount_15 : decode cX2_acknowledgedCount 15 = .ok (.ifCond .eq 15, 3) := by decide +kernel
theorem dX2_acknowledgedCount_18 : decode cX2_acknowledgedCount 18 = .ok (.aload_n 0, 1) := by decide +kernel
theorem dX2_acknowledgedCount_19 : decode cX2_acknowledgedCount 19 = .ok (.getfield 23, 3) := by decide +kernel
theorem dX2_acknowledgedCount_22 : decode cX2_acknowledgedCount 22 = .ok (.iload_n 2, 1) := by decide +kernel
theorem dX2_acknowledgedCount_23 : decode cX2_acknowledgedCount 23 = .ok (.baload, 1) := by decide +kernel
theorem dX2_acknowledgedCount_24 : decode cX2_acknowledgedCount 24 = .ok (.ifCond .eq 6, 3) := by decide +kernel
theorem dX2_acknowledgedCount_27 : decode cX2_acknowledgedCount 27 = .ok (.iinc 1 1, 3) := by decide +kernel
theorem dX2_acknowledgedCount_30 : decode cX2_acknowledgedCount 30 = .ok (.iinc 2 1, 3) := by decide +kernel
theorem dX2_acknowledgedCount_33 : decode cX2_acknowledgedCount 33 = .ok (.goto (-29), 3) := by decide +kernel
theorem dX2_acknowledgedCount_36 : decode cX2_acknowledgedCount 36 = .ok (.iload_n 1, 1) := by decide +kernel
theorem dX2_acknowledgedCount_37 : decode cX2_acknowledgedCount 37 = .ok (.ireturn, 1) := by decide +kernel
set_option maxRecDepth 20000 in
theorem ggX2_countHandOver_X2_isOpen : GoodIn wsX2_countHandOver wsX2_isOpen := goodIn_ca (goodIn_r _ [6, 7, 8, 9, 10, 5, 11, 12, 13, 14, 15, 16, 17, 18, 19, 20, 21] (by decide +kernel) (by decide +kernel)) (goodIn_sub (fun _ h => List.mem_cons_of_mem _ (List.mem_append_right _ h)) (by decide +kernel))
set_option maxRecDepth 20000 in
theorem gX2_countHandOver_X2_isOpen : GoodIn wsX2_countHandOver (wsV RX2 51 RX2 yX2_isOpen wsX2_isOpen) := goodIn_app (goodIn_of _ (by decide +kernel)) ggX2_countHandOver_X2_isOpen
theorem dX2_countHandOver_0 : decode cX2_countHandOver 0 = .ok (.iconst 0, 1) := by decide +kernel
theorem dX2_countHandOver_1 : decode cX2_countHandOver 1 = .ok (.istore_n 1, 1) := by decide +kernel
theorem dX2_countHandOver_2 : decode cX2_countHandOver 2 = .ok (.iload_n 1, 1) := by decide +kernel
theorem dX2_countHandOver_3 : decode cX2_countHandOver 3 = .ok (.bipush 60, 2) := by decide +kernel
theorem dX2_countHandOver_5 : decode cX2_countHandOver 5 = .ok (.if_icmp .ge 27, 3) := by decide +kernel
theorem dX2_countHandOver_8 : decode cX2_countHandOver 8 = .ok (.aload_n 0, 1) := by decide +kernel
theorem dX2_countHandOver_9 : decode cX2_countHandOver 9 = .ok (.iload_n 1, 1) := by decide +kernel
theorem dX2_countHandOver_10 : decode cX2_countHandOver 10 = .ok (.invokevirtual 51, 3) := by decide +kernel
theorem dX2_countHandOver_13 : decode cX2_countHandOver 13 = .ok (.ifCond .eq 13, 3) := by decide +kernel
theorem dX2_countHandOver_16 : decode cX2_countHandOver 16 = .ok (.aload_n 0, 1) := by decide +kernel
theorem dX2_countHandOver_17 : decode cX2_countHandOver 17 = .ok (.getfield 26, 3) := by decide +kernel
theorem dX2_countHandOver_20 : decode cX2_countHandOver 20 = .ok (.iload_n 1, 1) := by decide +kernel
theorem dX2_countHandOver_21 : decode cX2_countHandOver 21 = .ok (.dup2, 1) := by decide +kernel
theorem dX2_countHandOver_22 : decode cX2_countHandOver 22 = .ok (.iaload, 1) := by decide +kernel
theorem dX2_countHandOver_23 : decode cX2_countHandOver 23 = .ok (.iconst 1, 1) := by decide +kernel
theorem dX2_countHandOver_24 : decode cX2_countHandOver 24 = .ok (.iadd, 1) := by decide +kernel
theorem dX2_countHandOver_25 : decode cX2_countHandOver 25 = .ok (.iastore, 1) := by decide +kernel
theorem dX2_countHandOver_26 : decode cX2_countHandOver 26 = .ok (.iinc 1 1, 3) := by decide +kernel
theorem dX2_countHandOver_29 : decode cX2_countHandOver 29 = .ok (.goto (-27), 3) := by decide +kernel
theorem dX2_countHandOver_32 : decode cX2_countHandOver 32 = .ok (.return_, 1) := by decide +kernel
set_option maxRecDepth 20000 in
theorem ggX2_openLineAt_X2_isOpen : GoodIn wsX2_openLineAt wsX2_isOpen := goodIn_ca (goodIn_r _ [5, 6, 7, 8, 9, 4, 10, 11, 12, 13, 14, 15, 16, 17, 18, 19, 20] (by decide +kernel) (by decide +kernel)) (goodIn_sub (fun _ h => List.mem_cons_of_mem _ (List.mem_append_right _ h)) (by decide +kernel))
set_option maxRecDepth 20000 in
theorem gX2_openLineAt_X2_isOpen : GoodIn wsX2_openLineAt (wsV RX2 51 RX2 yX2_isOpen wsX2_isOpen) := goodIn_app (goodIn_of _ (by decide +kernel)) ggX2_openLineAt_X2_isOpen
theorem dX2_openLineAt_0 : decode cX2_openLineAt 0 = .ok (.iconst 0, 1) := by decide +kernel
theorem dX2_openLineAt_1 : decode cX2_openLineAt 1 = .ok (.istore_n 2, 1) := by decide +kernel
theorem dX2_openLineAt_2 : decode cX2_openLineAt 2 = .ok (.iconst 0, 1) := by decide +kernel
theorem dX2_openLineAt_3 : decode cX2_openLineAt 3 = .ok (.istore_n 3, 1) := by decide +kernel
theorem dX2_openLineAt_4 : decode cX2_openLineAt 4 = .ok (.iload_n 3, 1) := by decide +kernel
theorem dX2_openLineAt_5 : decode cX2_openLineAt 5 = .ok (.bipush 60, 2) := by decide +kernel
theorem dX2_openLineAt_7 : decode cX2_openLineAt 7 = .ok (.if_icmp .ge 27, 3) := by decide +kernel
theorem dX2_openLineAt_10 : decode cX2_openLineAt 10 = .ok (.aload_n 0, 1) := by decide +kernel
theorem dX2_openLineAt_11 : decode cX2_openLineAt 11 = .ok (.iload_n 3, 1) := by decide +kernel
theorem dX2_openLineAt_12 : decode cX2_openLineAt 12 = .ok (.invokevirtual 51, 3) := by decide +kernel
theorem dX2_openLineAt_15 : decode cX2_openLineAt 15 = .ok (.ifCond .eq 13, 3) := by decide +kernel
theorem dX2_openLineAt_18 : decode cX2_openLineAt 18 = .ok (.iload_n 2, 1) := by decide +kernel
theorem dX2_openLineAt_19 : decode cX2_openLineAt 19 = .ok (.iload_n 1, 1) := by decide +kernel
theorem dX2_openLineAt_20 : decode cX2_openLineAt 20 = .ok (.if_icmp .ne 5, 3) := by decide +kernel
theorem dX2_openLineAt_23 : decode cX2_openLineAt 23 = .ok (.iload_n 3, 1) := by decide +kernel
theorem dX2_openLineAt_24 : decode cX2_openLineAt 24 = .ok (.ireturn, 1) := by decide +kernel
theorem dX2_openLineAt_25 : decode cX2_openLineAt 25 = .ok (.iinc 2 1, 3) := by decide +kernel
theorem dX2_openLineAt_28 : decode cX2_openLineAt 28 = .ok (.iinc 3 1, 3) := by decide +kernel
theorem dX2_openLineAt_31 : decode cX2_openLineAt 31 = .ok (.goto (-27), 3) := by decide +kernel
theorem dX2_openLineAt_34 : decode cX2_openLineAt 34 = .ok (.iconst (-1), 1) := by decide +kernel
theorem dX2_openLineAt_35 : decode cX2_openLineAt 35 = .ok (.ireturn, 1) := by decide +kernel
set_option maxRecDepth 20000 in
theorem ggX2_sumOfAges_X2_isOpen : GoodIn wsX2_sumOfAges wsX2_isOpen := goodIn_ca (goodIn_r _ [6, 7, 8, 9, 10, 5, 11, 12, 13, 14, 15, 16, 17, 18, 19, 20, 21] (by decide +kernel) (by decide +kernel)) (goodIn_sub (fun _ h => List.mem_cons_of_mem _ (List.mem_append_right _ h)) (by decide +kernel))
set_option maxRecDepth 20000 in
theorem gX2_sumOfAges_X2_isOpen : GoodIn wsX2_sumOfAges (wsV RX2 51 RX2 yX2_isOpen wsX2_isOpen) := goodIn_app (goodIn_of _ (by decide +kernel)) ggX2_sumOfAges_X2_isOpen
theorem dX2_sumOfAges_0 : decode cX2_sumOfAges 0 = .ok (.iconst 0, 1) := by decide +kernel
theorem dX2_sumOfAges_1 : decode cX2_sumOfAges 1 = .ok (.istore_n 2, 1) := by decide +kernel
theorem dX2_sumOfAges_2 : decode cX2_sumOfAges 2 = .ok (.iconst 0, 1) := by decide +kernel
theorem dX2_sumOfAges_3 : decode cX2_sumOfAges 3 = .ok (.istore_n 3, 1) := by decide +kernel
theorem dX2_sumOfAges_4 : decode cX2_sumOfAges 4 = .ok (.iload_n 3, 1) := by decide +kernel
theorem dX2_sumOfAges_5 : decode cX2_sumOfAges 5 = .ok (.bipush 60, 2) := by decide +kernel
theorem dX2_sumOfAges_7 : decode cX2_sumOfAges 7 = .ok (.if_icmp .ge 28, 3) := by decide +kernel
theorem dX2_sumOfAges_10 : decode cX2_sumOfAges 10 = .ok (.aload_n 0, 1) := by decide +kernel
theorem dX2_sumOfAges_11 : decode cX2_sumOfAges 11 = .ok (.iload_n 3, 1) := by decide +kernel
theorem dX2_sumOfAges_12 : decode cX2_sumOfAges 12 = .ok (.invokevirtual 51, 3) := by decide +kernel
theorem dX2_sumOfAges_15 : decode cX2_sumOfAges 15 = .ok (.ifCond .eq 14, 3) := by decide +kernel
theorem dX2_sumOfAges_18 : decode cX2_sumOfAges 18 = .ok (.iload_n 2, 1) := by decide +kernel
theorem dX2_sumOfAges_19 : decode cX2_sumOfAges 19 = .ok (.iload_n 1, 1) := by decide +kernel
theorem dX2_sumOfAges_20 : decode cX2_sumOfAges 20 = .ok (.aload_n 0, 1) := by decide +kernel
theorem dX2_sumOfAges_21 : decode cX2_sumOfAges 21 = .ok (.getfield 15, 3) := by decide +kernel
theorem dX2_sumOfAges_24 : decode cX2_sumOfAges 24 = .ok (.iload_n 3, 1) := by decide +kernel
theorem dX2_sumOfAges_25 : decode cX2_sumOfAges 25 = .ok (.iaload, 1) := by decide +kernel
theorem dX2_sumOfAges_26 : decode cX2_sumOfAges 26 = .ok (.isub, 1) := by decide +kernel
theorem dX2_sumOfAges_27 : decode cX2_sumOfAges 27 = .ok (.iadd, 1) := by decide +kernel
theorem dX2_sumOfAges_28 : decode cX2_sumOfAges 28 = .ok (.istore_n 2, 1) := by decide +kernel
theorem dX2_sumOfAges_29 : decode cX2_sumOfAges 29 = .ok (.iinc 3 1, 3) := by decide +kernel
theorem dX2_sumOfAges_32 : decode cX2_sumOfAges 32 = .ok (.goto (-28), 3) := by decide +kernel
theorem dX2_sumOfAges_35 : decode cX2_sumOfAges 35 = .ok (.iload_n 2, 1) := by decide +kernel
theorem dX2_sumOfAges_36 : decode cX2_sumOfAges 36 = .ok (.ireturn, 1) := by decide +kernel
theorem dX3_init_0 : decode cX3_init 0 = .ok (.aload_n 0, 1) := by decide +kernel
theorem dX3_init_1 : decode cX3_init 1 = .ok (.invokespecial 3, 3) := by decide +kernel
theorem dX3_init_4 : decode cX3_init 4 = .ok (.aload_n 0, 1) := by decide +kernel
theorem dX3_init_5 : decode cX3_init 5 = .ok (.bipush 8, 2) := by decide +kernel
theorem dX3_init_7 : decode cX3_init 7 = .ok (.newarray .int, 2) := by decide +kernel
theorem dX3_init_9 : decode cX3_init 9 = .ok (.putfield 9, 3) := by decide +kernel
theorem dX3_init_12 : decode cX3_init 12 = .ok (.aload_n 0, 1) := by decide +kernel
theorem dX3_init_13 : decode cX3_init 13 = .ok (.bipush 8, 2) := by decide +kernel
theorem dX3_init_15 : decode cX3_init 15 = .ok (.newarray .int, 2) := by decide +kernel
theorem dX3_init_17 : decode cX3_init 17 = .ok (.putfield 15, 3) := by decide +kernel
theorem dX3_init_20 : decode cX3_init 20 = .ok (.aload_n 0, 1) := by decide +kernel
theorem dX3_init_21 : decode cX3_init 21 = .ok (.bipush 8, 2) := by decide +kernel
theorem dX3_init_23 : decode cX3_init 23 = .ok (.newarray .boolean, 2) := by decide +kernel
theorem dX3_init_25 : decode cX3_init 25 = .ok (.putfield 18, 3) := by decide +kernel
theorem dX3_init_28 : decode cX3_init 28 = .ok (.return_, 1) := by decide +kernel
theorem dX3_isFull_0 : decode cX3_isFull 0 = .ok (.aload_n 0, 1) := by decide +kernel
theorem dX3_isFull_1 : decode cX3_isFull 1 = .ok (.getfield 22, 3) := by decide +kernel
theorem dX3_isFull_4 : decode cX3_isFull 4 = .ok (.bipush 8, 2) := by decide +kernel
theorem dX3_isFull_6 : decode cX3_isFull 6 = .ok (.if_icmp .lt 7, 3) := by decide +kernel
theorem dX3_isFull_9 : decode cX3_isFull 9 = .ok (.iconst 1, 1) := by decide +kernel
theorem dX3_isFull_10 : decode cX3_isFull 10 = .ok (.goto 4, 3) := by decide +kernel
theorem dX3_isFull_13 : decode cX3_isFull 13 = .ok (.iconst 0, 1) := by decide +kernel
theorem dX3_isFull_14 : decode cX3_isFull 14 = .ok (.ireturn, 1) := by decide +kernel
theorem dX3_hasPermit_0 : decode cX3_hasPermit 0 = .ok (.iload_n 1, 1) := by decide +kernel
theorem dX3_hasPermit_1 : decode cX3_hasPermit 1 = .ok (.ifCond .lt 21, 3) := by decide +kernel
theorem dX3_hasPermit_4 : decode cX3_hasPermit 4 = .ok (.iload_n 1, 1) := by decide +kernel
theorem dX3_hasPermit_5 : decode cX3_hasPermit 5 = .ok (.aload_n 0, 1) := by decide +kernel
theorem dX3_hasPermit_6 : decode cX3_hasPermit 6 = .ok (.getfield 22, 3) := by decide +kernel
theorem dX3_hasPermit_9 : decode cX3_hasPermit 9 = .ok (.if_icmp .ge 13, 3) := by decide +kernel
theorem dX3_hasPermit_12 : decode cX3_hasPermit 12 = .ok (.iload_n 1, 1) := by decide +kernel
theorem dX3_hasPermit_13 : decode cX3_hasPermit 13 = .ok (.bipush 8, 2) := by decide +kernel
theorem dX3_hasPermit_15 : decode cX3_hasPermit 15 = .ok (.if_icmp .ge 7, 3) := by decide +kernel
theorem dX3_hasPermit_18 : decode cX3_hasPermit 18 = .ok (.iconst 1, 1) := by decide +kernel
theorem dX3_hasPermit_19 : decode cX3_hasPermit 19 = .ok (.goto 4, 3) := by decide +kernel
theorem dX3_hasPermit_22 : decode cX3_hasPermit 22 = .ok (.iconst 0, 1) := by decide +kernel
theorem dX3_hasPermit_23 : decode cX3_hasPermit 23 = .ok (.ireturn, 1) := by decide +kernel
set_option maxRecDepth 20000 in
theorem ggX3_append_X3_hasPermit : GoodIn wsX3_append wsX3_hasPermit := goodIn_r _ [9, 1, 10, 11, 12, 13] (by decide +kernel) (by decide +kernel)
set_option maxRecDepth 20000 in
theorem gX3_append_X3_hasPermit : GoodIn wsX3_append (wsV RX3 26 RX3 yX3_hasPermit wsX3_hasPermit) := goodIn_app (goodIn_of _ (by decide +kernel)) ggX3_append_X3_hasPermit
theorem dX3_append_0 : decode cX3_append 0 = .ok (.aload_n 0, 1) := by decide +kernel
theorem dX3_append_1 : decode cX3_append 1 = .ok (.getfield 22, 3) := by decide +kernel
theorem dX3_append_4 : decode cX3_append 4 = .ok (.istore_n 3, 1) := by decide +kernel
theorem dX3_append_5 : decode cX3_append 5 = .ok (.aload_n 0, 1) := by decide +kernel
theorem dX3_append_6 : decode cX3_append 6 = .ok (.dup, 1) := by decide +kernel
theorem dX3_append_7 : decode cX3_append 7 = .ok (.getfield 22, 3) := by decide +kernel
theorem dX3_append_10 : decode cX3_append 10 = .ok (.iconst 1, 1) := by decide +kernel
theorem dX3_append_11 : decode cX3_append 11 = .ok (.iadd, 1) := by decide +kernel
theorem dX3_append_12 : decode cX3_append 12 = .ok (.putfield 22, 3) := by decide +kernel
theorem dX3_append_15 : decode cX3_append 15 = .ok (.aload_n 0, 1) := by decide +kernel
theorem dX3_append_16 : decode cX3_append 16 = .ok (.iload_n 3, 1) := by decide +kernel
theorem dX3_append_17 : decode cX3_append 17 = .ok (.invokevirtual 26, 3) := by decide +kernel
theorem dX3_append_20 : decode cX3_append 20 = .ok (.ifCond .eq 24, 3) := by decide +kernel
theorem dX3_append_23 : decode cX3_append 23 = .ok (.aload_n 0, 1) := by decide +kernel
theorem dX3_append_24 : decode cX3_append 24 = .ok (.getfield 9, 3) := by decide +kernel
theorem dX3_append_27 : decode cX3_append 27 = .ok (.iload_n 3, 1) := by decide +kernel
theorem dX3_append_28 : decode cX3_append 28 = .ok (.iload_n 1, 1) := by decide +kernel
theorem dX3_append_29 : decode cX3_append 29 = .ok (.iastore, 1) := by decide +kernel
theorem dX3_append_30 : decode cX3_append 30 = .ok (.aload_n 0, 1) := by decide +kernel
theorem dX3_append_31 : decode cX3_append 31 = .ok (.getfield 15, 3) := by decide +kernel
theorem dX3_append_34 : decode cX3_append 34 = .ok (.iload_n 3, 1) := by decide +kernel
theorem dX3_append_35 : decode cX3_append 35 = .ok (.iload_n 2, 1) := by decide +kernel
theorem dX3_append_36 : decode cX3_append 36 = .ok (.iastore, 1) := by decide +kernel
theorem dX3_append_37 : decode cX3_append 37 = .ok (.aload_n 0, 1) := by decide +kernel
theorem dX3_append_38 : decode cX3_append 38 = .ok (.getfield 18, 3) := by decide +kernel
theorem dX3_append_41 : decode cX3_append 41 = .ok (.iload_n 3, 1) := by decide +kernel
theorem dX3_append_42 : decode cX3_append 42 = .ok (.iconst 1, 1) := by decide +kernel
theorem dX3_append_43 : decode cX3_append 43 = .ok (.bastore, 1) := by decide +kernel
theorem dX3_append_44 : decode cX3_append 44 = .ok (.iload_n 3, 1) := by decide +kernel
theorem dX3_append_45 : decode cX3_append 45 = .ok (.ireturn, 1) := by decide +kernel
set_option maxRecDepth 20000 in
theorem ggX3_isOpen_X3_hasPermit : GoodIn wsX3_isOpen wsX3_hasPermit := goodIn_r _ [6, 7, 8, 9, 10, 11] (by decide +kernel) (by decide +kernel)
set_option maxRecDepth 20000 in
theorem gX3_isOpen_X3_hasPermit : GoodIn wsX3_isOpen (wsV RX3 26 RX3 yX3_hasPermit wsX3_hasPermit) := goodIn_app (goodIn_of _ (by decide +kernel)) ggX3_isOpen_X3_hasPermit
theorem dX3_isOpen_0 : decode cX3_isOpen 0 = .ok (.aload_n 0, 1) := by decide +kernel
theorem dX3_isOpen_1 : decode cX3_isOpen 1 = .ok (.iload_n 1, 1) := by decide +kernel
theorem dX3_isOpen_2 : decode cX3_isOpen 2 = .ok (.invokevirtual 26, 3) := by decide +kernel
theorem dX3_isOpen_5 : decode cX3_isOpen 5 = .ok (.ifCond .eq 16, 3) := by decide +kernel
theorem dX3_isOpen_8 : decode cX3_isOpen 8 = .ok (.aload_n 0, 1) := by decide +kernel
theorem dX3_isOpen_9 : decode cX3_isOpen 9 = .ok (.getfield 18, 3) := by decide +kernel
theorem dX3_isOpen_12 : decode cX3_isOpen 12 = .ok (.iload_n 1, 1) := by decide +kernel
theorem dX3_isOpen_13 : decode cX3_isOpen 13 = .ok (.baload, 1) := by decide +kernel
theorem dX3_isOpen_14 : decode cX3_isOpen 14 = .ok (.ifCond .eq 7, 3) := by decide +kernel
theorem dX3_isOpen_17 : decode cX3_isOpen 17 = .ok (.iconst 1, 1) := by decide +kernel
theorem dX3_isOpen_18 : decode cX3_isOpen 18 = .ok (.goto 4, 3) := by decide +kernel
theorem dX3_isOpen_21 : decode cX3_isOpen 21 = .ok (.iconst 0, 1) := by decide +kernel
theorem dX3_isOpen_22 : decode cX3_isOpen 22 = .ok (.ireturn, 1) := by decide +kernel
set_option maxRecDepth 20000 in
theorem ggX3_lineOf_X3_hasPermit : GoodIn wsX3_lineOf wsX3_hasPermit := goodIn_r _ [6, 7, 8, 9, 10, 11] (by decide +kernel) (by decide +kernel)
set_option maxRecDepth 20000 in
theorem gX3_lineOf_X3_hasPermit : GoodIn wsX3_lineOf (wsV RX3 26 RX3 yX3_hasPermit wsX3_hasPermit) := goodIn_app (goodIn_of _ (by decide +kernel)) ggX3_lineOf_X3_hasPermit
theorem dX3_lineOf_0 : decode cX3_lineOf 0 = .ok (.aload_n 0, 1) := by decide +kernel
theorem dX3_lineOf_1 : decode cX3_lineOf 1 = .ok (.iload_n 1, 1) := by decide +kernel
theorem dX3_lineOf_2 : decode cX3_lineOf 2 = .ok (.invokevirtual 26, 3) := by decide +kernel
theorem dX3_lineOf_5 : decode cX3_lineOf 5 = .ok (.ifCond .eq 12, 3) := by decide +kernel
theorem dX3_lineOf_8 : decode cX3_lineOf 8 = .ok (.aload_n 0, 1) := by decide +kernel
theorem dX3_lineOf_9 : decode cX3_lineOf 9 = .ok (.getfield 15, 3) := by decide +kernel
theorem dX3_lineOf_12 : decode cX3_lineOf 12 = .ok (.iload_n 1, 1) := by decide +kernel
theorem dX3_lineOf_13 : decode cX3_lineOf 13 = .ok (.iaload, 1) := by decide +kernel
theorem dX3_lineOf_14 : decode cX3_lineOf 14 = .ok (.goto 4, 3) := by decide +kernel
theorem dX3_lineOf_17 : decode cX3_lineOf 17 = .ok (.iconst (-1), 1) := by decide +kernel
theorem dX3_lineOf_18 : decode cX3_lineOf 18 = .ok (.ireturn, 1) := by decide +kernel
set_option maxRecDepth 20000 in
theorem ggX3_shut_X3_hasPermit : GoodIn wsX3_shut wsX3_hasPermit := goodIn_r _ [6, 7, 8, 9, 10, 11] (by decide +kernel) (by decide +kernel)
set_option maxRecDepth 20000 in
theorem gX3_shut_X3_hasPermit : GoodIn wsX3_shut (wsV RX3 26 RX3 yX3_hasPermit wsX3_hasPermit) := goodIn_app (goodIn_of _ (by decide +kernel)) ggX3_shut_X3_hasPermit
theorem dX3_shut_0 : decode cX3_shut 0 = .ok (.aload_n 0, 1) := by decide +kernel
theorem dX3_shut_1 : decode cX3_shut 1 = .ok (.iload_n 1, 1) := by decide +kernel
theorem dX3_shut_2 : decode cX3_shut 2 = .ok (.invokevirtual 26, 3) := by decide +kernel
theorem dX3_shut_5 : decode cX3_shut 5 = .ok (.ifCond .eq 10, 3) := by decide +kernel
theorem dX3_shut_8 : decode cX3_shut 8 = .ok (.aload_n 0, 1) := by decide +kernel
theorem dX3_shut_9 : decode cX3_shut 9 = .ok (.getfield 18, 3) := by decide +kernel
theorem dX3_shut_12 : decode cX3_shut 12 = .ok (.iload_n 1, 1) := by decide +kernel
theorem dX3_shut_13 : decode cX3_shut 13 = .ok (.iconst 0, 1) := by decide +kernel
theorem dX3_shut_14 : decode cX3_shut 14 = .ok (.bastore, 1) := by decide +kernel
theorem dX3_shut_15 : decode cX3_shut 15 = .ok (.return_, 1) := by decide +kernel
set_option maxRecDepth 20000 in
theorem ggX3_firstOpenWith_X3_isOpen : GoodIn wsX3_firstOpenWith wsX3_isOpen := goodIn_ca (goodIn_r _ [6, 7, 8, 9, 10, 5, 11, 12, 13, 14, 15, 16] (by decide +kernel) (by decide +kernel)) (goodIn_sub (fun _ h => List.mem_cons_of_mem _ (List.mem_append_right _ h)) (by decide +kernel))
set_option maxRecDepth 20000 in
theorem gX3_firstOpenWith_X3_isOpen : GoodIn wsX3_firstOpenWith (wsV RX3 30 RX3 yX3_isOpen wsX3_isOpen) := goodIn_app (goodIn_of _ (by decide +kernel)) ggX3_firstOpenWith_X3_isOpen
theorem dX3_firstOpenWith_0 : decode cX3_firstOpenWith 0 = .ok (.iconst 0, 1) := by decide +kernel
theorem dX3_firstOpenWith_1 : decode cX3_firstOpenWith 1 = .ok (.istore_n 2, 1) := by decide +kernel
theorem dX3_firstOpenWith_2 : decode cX3_firstOpenWith 2 = .ok (.iload_n 2, 1) := by decide +kernel
theorem dX3_firstOpenWith_3 : decode cX3_firstOpenWith 3 = .ok (.bipush 8, 2) := by decide +kernel
theorem dX3_firstOpenWith_5 : decode cX3_firstOpenWith 5 = .ok (.if_icmp .ge 30, 3) := by decide +kernel
theorem dX3_firstOpenWith_8 : decode cX3_firstOpenWith 8 = .ok (.aload_n 0, 1) := by decide +kernel
theorem dX3_firstOpenWith_9 : decode cX3_firstOpenWith 9 = .ok (.iload_n 2, 1) := by decide +kernel
theorem dX3_firstOpenWith_10 : decode cX3_firstOpenWith 10 = .ok (.invokevirtual 30, 3) := by decide +kernel
theorem dX3_firstOpenWith_13 : decode cX3_firstOpenWith 13 = .ok (.ifCond .eq 16, 3) := by decide +kernel
theorem dX3_firstOpenWith_16 : decode cX3_firstOpenWith 16 = .ok (.aload_n 0, 1) := by decide +kernel
theorem dX3_firstOpenWith_17 : decode cX3_firstOpenWith 17 = .ok (.getfield 9, 3) := by decide +kernel
theorem dX3_firstOpenWith_20 : decode cX3_firstOpenWith 20 = .ok (.iload_n 2, 1) := by decide +kernel
theorem dX3_firstOpenWith_21 : decode cX3_firstOpenWith 21 = .ok (.iaload, 1) := by decide +kernel
theorem dX3_firstOpenWith_22 : decode cX3_firstOpenWith 22 = .ok (.iload_n 1, 1) := by decide +kernel
theorem dX3_firstOpenWith_23 : decode cX3_firstOpenWith 23 = .ok (.iand, 1) := by decide +kernel
theorem dX3_firstOpenWith_24 : decode cX3_firstOpenWith 24 = .ok (.ifCond .eq 5, 3) := by decide +kernel
theorem dX3_firstOpenWith_27 : decode cX3_firstOpenWith 27 = .ok (.iload_n 2, 1) := by decide +kernel
theorem dX3_firstOpenWith_28 : decode cX3_firstOpenWith 28 = .ok (.ireturn, 1) := by decide +kernel
theorem dX3_firstOpenWith_29 : decode cX3_firstOpenWith 29 = .ok (.iinc 2 1, 3) := by decide +kernel
theorem dX3_firstOpenWith_32 : decode cX3_firstOpenWith 32 = .ok (.goto (-30), 3) := by decide +kernel
theorem dX3_firstOpenWith_35 : decode cX3_firstOpenWith 35 = .ok (.iconst (-1), 1) := by decide +kernel
theorem dX3_firstOpenWith_36 : decode cX3_firstOpenWith 36 = .ok (.ireturn, 1) := by decide +kernel
set_option maxRecDepth 20000 in
theorem ggX3_areOpenApart_X3_isOpen : GoodIn wsX3_areOpenApart wsX3_isOpen := goodIn_ca (goodIn_r _ [6, 7, 8, 9, 10, 5, 11, 12, 13, 14, 15, 16] (by decide +kernel) (by decide +kernel)) (goodIn_sub (fun _ h => List.mem_cons_of_mem _ (List.mem_append_right _ h)) (by decide +kernel))
set_option maxRecDepth 20000 in
theorem gX3_areOpenApart_X3_isOpen : GoodIn wsX3_areOpenApart (wsV RX3 30 RX3 yX3_isOpen wsX3_isOpen) := goodIn_app (goodIn_of _ (by decide +kernel)) ggX3_areOpenApart_X3_isOpen
theorem dX3_areOpenApart_0 : decode cX3_areOpenApart 0 = .ok (.iconst 0, 1) := by decide +kernel
theorem dX3_areOpenApart_1 : decode cX3_areOpenApart 1 = .ok (.istore_n 1, 1) := by decide +kernel
theorem dX3_areOpenApart_2 : decode cX3_areOpenApart 2 = .ok (.iconst 0, 1) := by decide +kernel
theorem dX3_areOpenApart_3 : decode cX3_areOpenApart 3 = .ok (.istore_n 2, 1) := by decide +kernel
theorem dX3_areOpenApart_4 : decode cX3_areOpenApart 4 = .ok (.iload_n 2, 1) := by decide +kernel
theorem dX3_areOpenApart_5 : decode cX3_areOpenApart 5 = .ok (.bipush 8, 2) := by decide +kernel
theorem dX3_areOpenApart_7 : decode cX3_areOpenApart 7 = .ok (.if_icmp .ge 39, 3) := by decide +kernel
theorem dX3_areOpenApart_10 : decode cX3_areOpenApart 10 = .ok (.aload_n 0, 1) := by decide +kernel
theorem dX3_areOpenApart_11 : decode cX3_areOpenApart 11 = .ok (.iload_n 2, 1) := by decide +kernel
theorem dX3_areOpenApart_12 : decode cX3_areOpenApart 12 = .ok (.invokevirtual 30, 3) := by decide +kernel
theorem dX3_areOpenApart_15 : decode cX3_areOpenApart 15 = .ok (.ifCond .eq 25, 3) := by decide +kernel
theorem dX3_areOpenApart_18 : decode cX3_areOpenApart 18 = .ok (.aload_n 0, 1) := by decide +kernel
theorem dX3_areOpenApart_19 : decode cX3_areOpenApart 19 = .ok (.getfield 9, 3) := by decide +kernel
theorem dX3_areOpenApart_22 : decode cX3_areOpenApart 22 = .ok (.iload_n 2, 1) := by decide +kernel
theorem dX3_areOpenApart_23 : decode cX3_areOpenApart 23 = .ok (.iaload, 1) := by decide +kernel
theorem dX3_areOpenApart_24 : decode cX3_areOpenApart 24 = .ok (.iload_n 1, 1) := by decide +kernel
theorem dX3_areOpenApart_25 : decode cX3_areOpenApart 25 = .ok (.iand, 1) := by decide +kernel
theorem dX3_areOpenApart_26 : decode cX3_areOpenApart 26 = .ok (.ifCond .eq 5, 3) := by decide +kernel
theorem dX3_areOpenApart_29 : decode cX3_areOpenApart 29 = .ok (.iconst 0, 1) := by decide +kernel
theorem dX3_areOpenApart_30 : decode cX3_areOpenApart 30 = .ok (.ireturn, 1) := by decide +kernel
theorem dX3_areOpenApart_31 : decode cX3_areOpenApart 31 = .ok (.iload_n 1, 1) := by decide +kernel
theorem dX3_areOpenApart_32 : decode cX3_areOpenApart 32 = .ok (.aload_n 0, 1) := by decide +kernel
theorem dX3_areOpenApart_33 : decode cX3_areOpenApart 33 = .ok (.getfield 9, 3) := by decide +kernel
theorem dX3_areOpenApart_36 : decode cX3_areOpenApart 36 = .ok (.iload_n 2, 1) := by decide +kernel
theorem dX3_areOpenApart_37 : decode cX3_areOpenApart 37 = .ok (.iaload, 1) := by decide +kernel
theorem dX3_areOpenApart_38 : decode cX3_areOpenApart 38 = .ok (.ior, 1) := by decide +kernel
theorem dX3_areOpenApart_39 : decode cX3_areOpenApart 39 = .ok (.istore_n 1, 1) := by decide +kernel
theorem dX3_areOpenApart_40 : decode cX3_areOpenApart 40 = .ok (.iinc 2 1, 3) := by decide +kernel
theorem dX3_areOpenApart_43 : decode cX3_areOpenApart 43 = .ok (.goto (-39), 3) := by decide +kernel
theorem dX3_areOpenApart_46 : decode cX3_areOpenApart 46 = .ok (.iconst 1, 1) := by decide +kernel
theorem dX3_areOpenApart_47 : decode cX3_areOpenApart 47 = .ok (.ireturn, 1) := by decide +kernel
theorem dX4_init_0 : decode cX4_init 0 = .ok (.aload_n 0, 1) := by decide +kernel
theorem dX4_init_1 : decode cX4_init 1 = .ok (.invokespecial 3, 3) := by decide +kernel
theorem dX4_init_4 : decode cX4_init 4 = .ok (.aload_n 0, 1) := by decide +kernel
theorem dX4_init_5 : decode cX4_init 5 = .ok (.bipush 6, 2) := by decide +kernel
theorem dX4_init_7 : decode cX4_init 7 = .ok (.newarray .int, 2) := by decide +kernel
theorem dX4_init_9 : decode cX4_init 9 = .ok (.putfield 9, 3) := by decide +kernel
theorem dX4_init_12 : decode cX4_init 12 = .ok (.aload_n 0, 1) := by decide +kernel
theorem dX4_init_13 : decode cX4_init 13 = .ok (.bipush 6, 2) := by decide +kernel
theorem dX4_init_15 : decode cX4_init 15 = .ok (.newarray .int, 2) := by decide +kernel
theorem dX4_init_17 : decode cX4_init 17 = .ok (.putfield 15, 3) := by decide +kernel
theorem dX4_init_20 : decode cX4_init 20 = .ok (.aload_n 0, 1) := by decide +kernel
theorem dX4_init_21 : decode cX4_init 21 = .ok (.bipush 48, 2) := by decide +kernel
theorem dX4_init_23 : decode cX4_init 23 = .ok (.newarray .int, 2) := by decide +kernel
theorem dX4_init_25 : decode cX4_init 25 = .ok (.putfield 18, 3) := by decide +kernel
theorem dX4_init_28 : decode cX4_init 28 = .ok (.aload_n 0, 1) := by decide +kernel
theorem dX4_init_29 : decode cX4_init 29 = .ok (.bipush 48, 2) := by decide +kernel
theorem dX4_init_31 : decode cX4_init 31 = .ok (.newarray .int, 2) := by decide +kernel
theorem dX4_init_33 : decode cX4_init 33 = .ok (.putfield 21, 3) := by decide +kernel
theorem dX4_init_36 : decode cX4_init 36 = .ok (.aload_n 0, 1) := by decide +kernel
theorem dX4_init_37 : decode cX4_init 37 = .ok (.bipush 48, 2) := by decide +kernel
theorem dX4_init_39 : decode cX4_init 39 = .ok (.newarray .int, 2) := by decide +kernel
theorem dX4_init_41 : decode cX4_init 41 = .ok (.putfield 24, 3) := by decide +kernel
theorem dX4_init_44 : decode cX4_init 44 = .ok (.aload_n 0, 1) := by decide +kernel
theorem dX4_init_45 : decode cX4_init 45 = .ok (.bipush 48, 2) := by decide +kernel
theorem dX4_init_47 : decode cX4_init 47 = .ok (.newarray .int, 2) := by decide +kernel
theorem dX4_init_49 : decode cX4_init 49 = .ok (.putfield 27, 3) := by decide +kernel
theorem dX4_init_52 : decode cX4_init 52 = .ok (.aload_n 0, 1) := by decide +kernel
theorem dX4_init_53 : decode cX4_init 53 = .ok (.bipush 48, 2) := by decide +kernel
theorem dX4_init_55 : decode cX4_init 55 = .ok (.newarray .int, 2) := by decide +kernel
theorem dX4_init_57 : decode cX4_init 57 = .ok (.putfield 30, 3) := by decide +kernel
theorem dX4_init_60 : decode cX4_init 60 = .ok (.aload_n 0, 1) := by decide +kernel
theorem dX4_init_61 : decode cX4_init 61 = .ok (.bipush 48, 2) := by decide +kernel
theorem dX4_init_63 : decode cX4_init 63 = .ok (.newarray .int, 2) := by decide +kernel
theorem dX4_init_65 : decode cX4_init 65 = .ok (.putfield 33, 3) := by decide +kernel
theorem dX4_init_68 : decode cX4_init 68 = .ok (.aload_n 0, 1) := by decide +kernel
theorem dX4_init_69 : decode cX4_init 69 = .ok (.bipush 48, 2) := by decide +kernel
theorem dX4_init_71 : decode cX4_init 71 = .ok (.newarray .int, 2) := by decide +kernel
theorem dX4_init_73 : decode cX4_init 73 = .ok (.putfield 36, 3) := by decide +kernel
theorem dX4_init_76 : decode cX4_init 76 = .ok (.return_, 1) := by decide +kernel
theorem dX4_isFull_0 : decode cX4_isFull 0 = .ok (.aload_n 0, 1) := by decide +kernel
theorem dX4_isFull_1 : decode cX4_isFull 1 = .ok (.getfield 39, 3) := by decide +kernel
theorem dX4_isFull_4 : decode cX4_isFull 4 = .ok (.bipush 6, 2) := by decide +kernel
theorem dX4_isFull_6 : decode cX4_isFull 6 = .ok (.if_icmp .lt 7, 3) := by decide +kernel
theorem dX4_isFull_9 : decode cX4_isFull 9 = .ok (.iconst 1, 1) := by decide +kernel
theorem dX4_isFull_10 : decode cX4_isFull 10 = .ok (.goto 4, 3) := by decide +kernel
theorem dX4_isFull_13 : decode cX4_isFull 13 = .ok (.iconst 0, 1) := by decide +kernel
theorem dX4_isFull_14 : decode cX4_isFull 14 = .ok (.ireturn, 1) := by decide +kernel
theorem dX4_hasProcedure_0 : decode cX4_hasProcedure 0 = .ok (.iload_n 1, 1) := by decide +kernel
theorem dX4_hasProcedure_1 : decode cX4_hasProcedure 1 = .ok (.ifCond .lt 21, 3) := by decide +kernel
theorem dX4_hasProcedure_4 : decode cX4_hasProcedure 4 = .ok (.iload_n 1, 1) := by decide +kernel
theorem dX4_hasProcedure_5 : decode cX4_hasProcedure 5 = .ok (.aload_n 0, 1) := by decide +kernel
theorem dX4_hasProcedure_6 : decode cX4_hasProcedure 6 = .ok (.getfield 39, 3) := by decide +kernel
theorem dX4_hasProcedure_9 : decode cX4_hasProcedure 9 = .ok (.if_icmp .ge 13, 3) := by decide +kernel
theorem dX4_hasProcedure_12 : decode cX4_hasProcedure 12 = .ok (.iload_n 1, 1) := by decide +kernel
theorem dX4_hasProcedure_13 : decode cX4_hasProcedure 13 = .ok (.bipush 6, 2) := by decide +kernel
theorem dX4_hasProcedure_15 : decode cX4_hasProcedure 15 = .ok (.if_icmp .ge 7, 3) := by decide +kernel
theorem dX4_hasProcedure_18 : decode cX4_hasProcedure 18 = .ok (.iconst 1, 1) := by decide +kernel
theorem dX4_hasProcedure_19 : decode cX4_hasProcedure 19 = .ok (.goto 4, 3) := by decide +kernel
theorem dX4_hasProcedure_22 : decode cX4_hasProcedure 22 = .ok (.iconst 0, 1) := by decide +kernel
theorem dX4_hasProcedure_23 : decode cX4_hasProcedure 23 = .ok (.ireturn, 1) := by decide +kernel
theorem dX4_append_0 : decode cX4_append 0 = .ok (.aload_n 0, 1) := by decide +kernel
theorem dX4_append_1 : decode cX4_append 1 = .ok (.getfield 39, 3) := by decide +kernel
theorem dX4_append_4 : decode cX4_append 4 = .ok (.istore_n 1, 1) := by decide +kernel
theorem dX4_append_5 : decode cX4_append 5 = .ok (.aload_n 0, 1) := by decide +kernel
theorem dX4_append_6 : decode cX4_append 6 = .ok (.dup, 1) := by decide +kernel
theorem dX4_append_7 : decode cX4_append 7 = .ok (.getfield 39, 3) := by decide +kernel
theorem dX4_append_10 : decode cX4_append 10 = .ok (.iconst 1, 1) := by decide +kernel
theorem dX4_append_11 : decode cX4_append 11 = .ok (.iadd, 1) := by decide +kernel
theorem dX4_append_12 : decode cX4_append 12 = .ok (.putfield 39, 3) := by decide +kernel
theorem dX4_append_15 : decode cX4_append 15 = .ok (.iload_n 1, 1) := by decide +kernel
theorem dX4_append_16 : decode cX4_append 16 = .ok (.ireturn, 1) := by decide +kernel
set_option maxRecDepth 20000 in
theorem ggX4_appendStep_X4_hasProcedure : GoodIn wsX4_appendStep wsX4_hasProcedure := goodIn_r _ [8, 9, 16, 17, 18, 19, 20, 21, 22, 23, 24, 25] (by decide +kernel) (by decide +kernel)
set_option maxRecDepth 20000 in
theorem gX4_appendStep_X4_hasProcedure : GoodIn wsX4_appendStep (wsV RX4 43 RX4 yX4_hasProcedure wsX4_hasProcedure) := goodIn_app (goodIn_of _ (by decide +kernel)) ggX4_appendStep_X4_hasProcedure
set_option maxRecDepth 20000 in
theorem ggX4_appendStep_X5_stepPlace : GoodIn wsX4_appendStep wsX5_stepPlace := goodIn_r _ [12] (by decide +kernel) (by decide +kernel)
set_option maxRecDepth 20000 in
theorem gX4_appendStep_X5_stepPlace_n47 : GoodIn wsX4_appendStep (wsX5_stepPlace) := ggX4_appendStep_X5_stepPlace
set_option maxRecDepth 20000 in
theorem ggX4_appendStep_X4_isPlace : GoodIn wsX4_appendStep wsX4_isPlace := goodIn_r _ [15] (by decide +kernel) (by decide +kernel)
set_option maxRecDepth 20000 in
theorem gX4_appendStep_X4_isPlace : GoodIn wsX4_appendStep (va_wsS RX4 51 yX4_isPlace wsX4_isPlace) := goodIn_app (goodIn_of _ (by decide +kernel)) ggX4_appendStep_X4_isPlace
theorem dX4_appendStep_0 : decode cX4_appendStep 0 = .ok (.aload_n 0, 1) := by decide +kernel
theorem dX4_appendStep_1 : decode cX4_appendStep 1 = .ok (.iload_n 1, 1) := by decide +kernel
theorem dX4_appendStep_2 : decode cX4_appendStep 2 = .ok (.invokevirtual 43, 3) := by decide +kernel
theorem dX4_appendStep_5 : decode cX4_appendStep 5 = .ok (.ifCond .eq 14, 3) := by decide +kernel
theorem dX4_appendStep_8 : decode cX4_appendStep 8 = .ok (.aload_n 0, 1) := by decide +kernel
theorem dX4_appendStep_9 : decode cX4_appendStep 9 = .ok (.getfield 9, 3) := by decide +kernel
theorem dX4_appendStep_12 : decode cX4_appendStep 12 = .ok (.iload_n 1, 1) := by decide +kernel
theorem dX4_appendStep_13 : decode cX4_appendStep 13 = .ok (.iaload, 1) := by decide +kernel
theorem dX4_appendStep_14 : decode cX4_appendStep 14 = .ok (.bipush 8, 2) := by decide +kernel
theorem dX4_appendStep_16 : decode cX4_appendStep 16 = .ok (.if_icmp .lt 5, 3) := by decide +kernel
theorem dX4_appendStep_19 : decode cX4_appendStep 19 = .ok (.iconst (-1), 1) := by decide +kernel
theorem dX4_appendStep_20 : decode cX4_appendStep 20 = .ok (.ireturn, 1) := by decide +kernel
theorem dX4_appendStep_21 : decode cX4_appendStep 21 = .ok (.iload_n 1, 1) := by decide +kernel
theorem dX4_appendStep_22 : decode cX4_appendStep 22 = .ok (.aload_n 0, 1) := by decide +kernel
theorem dX4_appendStep_23 : decode cX4_appendStep 23 = .ok (.getfield 9, 3) := by decide +kernel
theorem dX4_appendStep_26 : decode cX4_appendStep 26 = .ok (.iload_n 1, 1) := by decide +kernel
theorem dX4_appendStep_27 : decode cX4_appendStep 27 = .ok (.iaload, 1) := by decide +kernel
theorem dX4_appendStep_28 : decode cX4_appendStep 28 = .ok (.invokestatic 47, 3) := by decide +kernel
theorem dX4_appendStep_31 : decode cX4_appendStep 31 = .ok (.istore_n 2, 1) := by decide +kernel
theorem dX4_appendStep_32 : decode cX4_appendStep 32 = .ok (.aload_n 0, 1) := by decide +kernel
theorem dX4_appendStep_33 : decode cX4_appendStep 33 = .ok (.getfield 9, 3) := by decide +kernel
theorem dX4_appendStep_36 : decode cX4_appendStep 36 = .ok (.iload_n 1, 1) := by decide +kernel
theorem dX4_appendStep_37 : decode cX4_appendStep 37 = .ok (.dup2, 1) := by decide +kernel
theorem dX4_appendStep_38 : decode cX4_appendStep 38 = .ok (.iaload, 1) := by decide +kernel
theorem dX4_appendStep_39 : decode cX4_appendStep 39 = .ok (.iconst 1, 1) := by decide +kernel
theorem dX4_appendStep_40 : decode cX4_appendStep 40 = .ok (.iadd, 1) := by decide +kernel
theorem dX4_appendStep_41 : decode cX4_appendStep 41 = .ok (.iastore, 1) := by decide +kernel
theorem dX4_appendStep_42 : decode cX4_appendStep 42 = .ok (.iload_n 2, 1) := by decide +kernel
theorem dX4_appendStep_43 : decode cX4_appendStep 43 = .ok (.invokestatic 51, 3) := by decide +kernel
theorem dX4_appendStep_46 : decode cX4_appendStep 46 = .ok (.ifCond .eq 17, 3) := by decide +kernel
theorem dX4_appendStep_49 : decode cX4_appendStep 49 = .ok (.aload_n 0, 1) := by decide +kernel
theorem dX4_appendStep_50 : decode cX4_appendStep 50 = .ok (.getfield 33, 3) := by decide +kernel
theorem dX4_appendStep_53 : decode cX4_appendStep 53 = .ok (.iload_n 2, 1) := by decide +kernel
theorem dX4_appendStep_54 : decode cX4_appendStep 54 = .ok (.iconst (-1), 1) := by decide +kernel
theorem dX4_appendStep_55 : decode cX4_appendStep 55 = .ok (.iastore, 1) := by decide +kernel
theorem dX4_appendStep_56 : decode cX4_appendStep 56 = .ok (.aload_n 0, 1) := by decide +kernel
theorem dX4_appendStep_57 : decode cX4_appendStep 57 = .ok (.getfield 36, 3) := by decide +kernel
theorem dX4_appendStep_60 : decode cX4_appendStep 60 = .ok (.iload_n 2, 1) := by decide +kernel
theorem dX4_appendStep_61 : decode cX4_appendStep 61 = .ok (.iconst (-1), 1) := by decide +kernel
theorem dX4_appendStep_62 : decode cX4_appendStep 62 = .ok (.iastore, 1) := by decide +kernel
theorem dX4_appendStep_63 : decode cX4_appendStep 63 = .ok (.iload_n 2, 1) := by decide +kernel
theorem dX4_appendStep_64 : decode cX4_appendStep 64 = .ok (.ireturn, 1) := by decide +kernel
set_option maxRecDepth 20000 in
theorem ggX4_setNeed_X4_isPlace : GoodIn wsX4_setNeed wsX4_isPlace := goodIn_r _ [6] (by decide +kernel) (by decide +kernel)
set_option maxRecDepth 20000 in
theorem gX4_setNeed_X4_isPlace : GoodIn wsX4_setNeed (va_wsS RX4 51 yX4_isPlace wsX4_isPlace) := goodIn_app (goodIn_of _ (by decide +kernel)) ggX4_setNeed_X4_isPlace
theorem dX4_setNeed_0 : decode cX4_setNeed 0 = .ok (.iload_n 1, 1) := by decide +kernel
theorem dX4_setNeed_1 : decode cX4_setNeed 1 = .ok (.invokestatic 51, 3) := by decide +kernel
theorem dX4_setNeed_4 : decode cX4_setNeed 4 = .ok (.ifCond .eq 17, 3) := by decide +kernel
theorem dX4_setNeed_7 : decode cX4_setNeed 7 = .ok (.aload_n 0, 1) := by decide +kernel
theorem dX4_setNeed_8 : decode cX4_setNeed 8 = .ok (.getfield 18, 3) := by decide +kernel
theorem dX4_setNeed_11 : decode cX4_setNeed 11 = .ok (.iload_n 1, 1) := by decide +kernel
theorem dX4_setNeed_12 : decode cX4_setNeed 12 = .ok (.iload_n 2, 1) := by decide +kernel
theorem dX4_setNeed_13 : decode cX4_setNeed 13 = .ok (.iastore, 1) := by decide +kernel
theorem dX4_setNeed_14 : decode cX4_setNeed 14 = .ok (.aload_n 0, 1) := by decide +kernel
theorem dX4_setNeed_15 : decode cX4_setNeed 15 = .ok (.getfield 21, 3) := by decide +kernel
theorem dX4_setNeed_18 : decode cX4_setNeed 18 = .ok (.iload_n 1, 1) := by decide +kernel
theorem dX4_setNeed_19 : decode cX4_setNeed 19 = .ok (.iload_n 3, 1) := by decide +kernel
theorem dX4_setNeed_20 : decode cX4_setNeed 20 = .ok (.iastore, 1) := by decide +kernel
theorem dX4_setNeed_21 : decode cX4_setNeed 21 = .ok (.return_, 1) := by decide +kernel
set_option maxRecDepth 20000 in
theorem ggX4_setEffect_X4_isPlace : GoodIn wsX4_setEffect wsX4_isPlace := goodIn_r _ [6] (by decide +kernel) (by decide +kernel)
set_option maxRecDepth 20000 in
theorem gX4_setEffect_X4_isPlace : GoodIn wsX4_setEffect (va_wsS RX4 51 yX4_isPlace wsX4_isPlace) := goodIn_app (goodIn_of _ (by decide +kernel)) ggX4_setEffect_X4_isPlace
theorem dX4_setEffect_0 : decode cX4_setEffect 0 = .ok (.iload_n 1, 1) := by decide +kernel
theorem dX4_setEffect_1 : decode cX4_setEffect 1 = .ok (.invokestatic 51, 3) := by decide +kernel
theorem dX4_setEffect_4 : decode cX4_setEffect 4 = .ok (.ifCond .eq 17, 3) := by decide +kernel
theorem dX4_setEffect_7 : decode cX4_setEffect 7 = .ok (.aload_n 0, 1) := by decide +kernel
theorem dX4_setEffect_8 : decode cX4_setEffect 8 = .ok (.getfield 24, 3) := by decide +kernel
theorem dX4_setEffect_11 : decode cX4_setEffect 11 = .ok (.iload_n 1, 1) := by decide +kernel
theorem dX4_setEffect_12 : decode cX4_setEffect 12 = .ok (.iload_n 2, 1) := by decide +kernel
theorem dX4_setEffect_13 : decode cX4_setEffect 13 = .ok (.iastore, 1) := by decide +kernel
theorem dX4_setEffect_14 : decode cX4_setEffect 14 = .ok (.aload_n 0, 1) := by decide +kernel
theorem dX4_setEffect_15 : decode cX4_setEffect 15 = .ok (.getfield 27, 3) := by decide +kernel
theorem dX4_setEffect_18 : decode cX4_setEffect 18 = .ok (.iload_n 1, 1) := by decide +kernel
theorem dX4_setEffect_19 : decode cX4_setEffect 19 = .ok (.iload_n 3, 1) := by decide +kernel
theorem dX4_setEffect_20 : decode cX4_setEffect 20 = .ok (.iastore, 1) := by decide +kernel
theorem dX4_setEffect_21 : decode cX4_setEffect 21 = .ok (.return_, 1) := by decide +kernel
set_option maxRecDepth 20000 in
theorem ggX4_stepCount_X4_hasProcedure : GoodIn wsX4_stepCount wsX4_hasProcedure := goodIn_r _ [6, 7, 8, 9, 10, 11, 12, 13, 14, 15, 16, 17] (by decide +kernel) (by decide +kernel)
set_option maxRecDepth 20000 in
theorem gX4_stepCount_X4_hasProcedure : GoodIn wsX4_stepCount (wsV RX4 43 RX4 yX4_hasProcedure wsX4_hasProcedure) := goodIn_app (goodIn_of _ (by decide +kernel)) ggX4_stepCount_X4_hasProcedure
theorem dX4_stepCount_0 : decode cX4_stepCount 0 = .ok (.aload_n 0, 1) := by decide +kernel
theorem dX4_stepCount_1 : decode cX4_stepCount 1 = .ok (.iload_n 1, 1) := by decide +kernel
theorem dX4_stepCount_2 : decode cX4_stepCount 2 = .ok (.invokevirtual 43, 3) := by decide +kernel
theorem dX4_stepCount_5 : decode cX4_stepCount 5 = .ok (.ifCond .eq 12, 3) := by decide +kernel
theorem dX4_stepCount_8 : decode cX4_stepCount 8 = .ok (.aload_n 0, 1) := by decide +kernel
theorem dX4_stepCount_9 : decode cX4_stepCount 9 = .ok (.getfield 9, 3) := by decide +kernel
theorem dX4_stepCount_12 : decode cX4_stepCount 12 = .ok (.iload_n 1, 1) := by decide +kernel
theorem dX4_stepCount_13 : decode cX4_stepCount 13 = .ok (.iaload, 1) := by decide +kernel
theorem dX4_stepCount_14 : decode cX4_stepCount 14 = .ok (.goto 4, 3) := by decide +kernel
theorem dX4_stepCount_17 : decode cX4_stepCount 17 = .ok (.iconst 0, 1) := by decide +kernel
theorem dX4_stepCount_18 : decode cX4_stepCount 18 = .ok (.ireturn, 1) := by decide +kernel
set_option maxRecDepth 20000 in
theorem ggX4_doneCount_X4_hasProcedure : GoodIn wsX4_doneCount wsX4_hasProcedure := goodIn_r _ [6, 7, 8, 9, 10, 11, 12, 13, 14, 15, 16, 17] (by decide +kernel) (by decide +kernel)
set_option maxRecDepth 20000 in
theorem gX4_doneCount_X4_hasProcedure : GoodIn wsX4_doneCount (wsV RX4 43 RX4 yX4_hasProcedure wsX4_hasProcedure) := goodIn_app (goodIn_of _ (by decide +kernel)) ggX4_doneCount_X4_hasProcedure
theorem dX4_doneCount_0 : decode cX4_doneCount 0 = .ok (.aload_n 0, 1) := by decide +kernel
theorem dX4_doneCount_1 : decode cX4_doneCount 1 = .ok (.iload_n 1, 1) := by decide +kernel
theorem dX4_doneCount_2 : decode cX4_doneCount 2 = .ok (.invokevirtual 43, 3) := by decide +kernel
theorem dX4_doneCount_5 : decode cX4_doneCount 5 = .ok (.ifCond .eq 12, 3) := by decide +kernel
theorem dX4_doneCount_8 : decode cX4_doneCount 8 = .ok (.aload_n 0, 1) := by decide +kernel
theorem dX4_doneCount_9 : decode cX4_doneCount 9 = .ok (.getfield 15, 3) := by decide +kernel
theorem dX4_doneCount_12 : decode cX4_doneCount 12 = .ok (.iload_n 1, 1) := by decide +kernel
theorem dX4_doneCount_13 : decode cX4_doneCount 13 = .ok (.iaload, 1) := by decide +kernel
theorem dX4_doneCount_14 : decode cX4_doneCount 14 = .ok (.goto 4, 3) := by decide +kernel
theorem dX4_doneCount_17 : decode cX4_doneCount 17 = .ok (.iconst 0, 1) := by decide +kernel
theorem dX4_doneCount_18 : decode cX4_doneCount 18 = .ok (.ireturn, 1) := by decide +kernel
set_option maxRecDepth 20000 in
theorem ggX4_nextPlace_X4_doneCount : GoodIn wsX4_nextPlace wsX4_doneCount := goodIn_ca (goodIn_r _ [5, 6, 7, 8, 9, 4, 10, 11, 20, 21, 22, 23, 24, 25, 26, 27, 28, 29] (by decide +kernel) (by decide +kernel)) (goodIn_sub (fun _ h => List.mem_cons_of_mem _ (List.mem_append_right _ h)) (by decide +kernel))
set_option maxRecDepth 20000 in
theorem gX4_nextPlace_X4_doneCount : GoodIn wsX4_nextPlace (wsV RX4 54 RX4 yX4_doneCount wsX4_doneCount) := goodIn_app (goodIn_of _ (by decide +kernel)) ggX4_nextPlace_X4_doneCount
set_option maxRecDepth 20000 in
theorem ggX4_nextPlace_X4_stepCount : GoodIn wsX4_nextPlace wsX4_stepCount := goodIn_ca (goodIn_r _ [15, 16, 7, 8, 9, 4, 10, 11, 20, 21, 22, 23, 24, 25, 26, 27, 28, 29] (by decide +kernel) (by decide +kernel)) (goodIn_sub (fun _ h => List.mem_cons_of_mem _ (List.mem_append_right _ h)) (by decide +kernel))
set_option maxRecDepth 20000 in
theorem gX4_nextPlace_X4_stepCount : GoodIn wsX4_nextPlace (wsV RX4 58 RX4 yX4_stepCount wsX4_stepCount) := goodIn_app (goodIn_of _ (by decide +kernel)) ggX4_nextPlace_X4_stepCount
set_option maxRecDepth 20000 in
theorem ggX4_nextPlace_X5_stepPlace : GoodIn wsX4_nextPlace wsX5_stepPlace := goodIn_r _ [19] (by decide +kernel) (by decide +kernel)
set_option maxRecDepth 20000 in
theorem gX4_nextPlace_X5_stepPlace_n47 : GoodIn wsX4_nextPlace (wsX5_stepPlace) := ggX4_nextPlace_X5_stepPlace
theorem dX4_nextPlace_0 : decode cX4_nextPlace 0 = .ok (.aload_n 0, 1) := by decide +kernel
theorem dX4_nextPlace_1 : decode cX4_nextPlace 1 = .ok (.iload_n 1, 1) := by decide +kernel
theorem dX4_nextPlace_2 : decode cX4_nextPlace 2 = .ok (.invokevirtual 54, 3) := by decide +kernel
theorem dX4_nextPlace_5 : decode cX4_nextPlace 5 = .ok (.istore_n 2, 1) := by decide +kernel
theorem dX4_nextPlace_6 : decode cX4_nextPlace 6 = .ok (.iload_n 2, 1) := by decide +kernel
theorem dX4_nextPlace_7 : decode cX4_nextPlace 7 = .ok (.aload_n 0, 1) := by decide +kernel
theorem dX4_nextPlace_8 : decode cX4_nextPlace 8 = .ok (.iload_n 1, 1) := by decide +kernel
theorem dX4_nextPlace_9 : decode cX4_nextPlace 9 = .ok (.invokevirtual 58, 3) := by decide +kernel
theorem dX4_nextPlace_12 : decode cX4_nextPlace 12 = .ok (.if_icmp .ge 11, 3) := by decide +kernel
theorem dX4_nextPlace_15 : decode cX4_nextPlace 15 = .ok (.iload_n 1, 1) := by decide +kernel
theorem dX4_nextPlace_16 : decode cX4_nextPlace 16 = .ok (.iload_n 2, 1) := by decide +kernel
theorem dX4_nextPlace_17 : decode cX4_nextPlace 17 = .ok (.invokestatic 47, 3) := by decide +kernel
theorem dX4_nextPlace_20 : decode cX4_nextPlace 20 = .ok (.goto 4, 3) := by decide +kernel
theorem dX4_nextPlace_23 : decode cX4_nextPlace 23 = .ok (.iconst (-1), 1) := by decide +kernel
theorem dX4_nextPlace_24 : decode cX4_nextPlace 24 = .ok (.ireturn, 1) := by decide +kernel
set_option maxRecDepth 20000 in
theorem ggX4_lastDonePlace_X4_doneCount : GoodIn wsX4_lastDonePlace wsX4_doneCount := goodIn_ca (goodIn_r _ [5, 6, 7, 8, 9, 4, 10, 11, 15, 16, 17, 18, 19, 20, 21, 22, 23, 24] (by decide +kernel) (by decide +kernel)) (goodIn_sub (fun _ h => List.mem_cons_of_mem _ (List.mem_append_right _ h)) (by decide +kernel))
set_option maxRecDepth 20000 in
theorem gX4_lastDonePlace_X4_doneCount : GoodIn wsX4_lastDonePlace (wsV RX4 54 RX4 yX4_doneCount wsX4_doneCount) := goodIn_app (goodIn_of _ (by decide +kernel)) ggX4_lastDonePlace_X4_doneCount
set_option maxRecDepth 20000 in
theorem ggX4_lastDonePlace_X5_stepPlace : GoodIn wsX4_lastDonePlace wsX5_stepPlace := goodIn_r _ [14] (by decide +kernel) (by decide +kernel)
set_option maxRecDepth 20000 in
theorem gX4_lastDonePlace_X5_stepPlace_n47 : GoodIn wsX4_lastDonePlace (wsX5_stepPlace) := ggX4_lastDonePlace_X5_stepPlace
theorem dX4_lastDonePlace_0 : decode cX4_lastDonePlace 0 = .ok (.aload_n 0, 1) := by decide +kernel
theorem dX4_lastDonePlace_1 : decode cX4_lastDonePlace 1 = .ok (.iload_n 1, 1) := by decide +kernel
theorem dX4_lastDonePlace_2 : decode cX4_lastDonePlace 2 = .ok (.invokevirtual 54, 3) := by decide +kernel
theorem dX4_lastDonePlace_5 : decode cX4_lastDonePlace 5 = .ok (.istore_n 2, 1) := by decide +kernel
theorem dX4_lastDonePlace_6 : decode cX4_lastDonePlace 6 = .ok (.iload_n 2, 1) := by decide +kernel
theorem dX4_lastDonePlace_7 : decode cX4_lastDonePlace 7 = .ok (.ifCond .le 13, 3) := by decide +kernel
theorem dX4_lastDonePlace_10 : decode cX4_lastDonePlace 10 = .ok (.iload_n 1, 1) := by decide +kernel
theorem dX4_lastDonePlace_11 : decode cX4_lastDonePlace 11 = .ok (.iload_n 2, 1) := by decide +kernel
theorem dX4_lastDonePlace_12 : decode cX4_lastDonePlace 12 = .ok (.iconst 1, 1) := by decide +kernel
theorem dX4_lastDonePlace_13 : decode cX4_lastDonePlace 13 = .ok (.isub, 1) := by decide +kernel
theorem dX4_lastDonePlace_14 : decode cX4_lastDonePlace 14 = .ok (.invokestatic 47, 3) := by decide +kernel
theorem dX4_lastDonePlace_17 : decode cX4_lastDonePlace 17 = .ok (.goto 4, 3) := by decide +kernel
theorem dX4_lastDonePlace_20 : decode cX4_lastDonePlace 20 = .ok (.iconst (-1), 1) := by decide +kernel
theorem dX4_lastDonePlace_21 : decode cX4_lastDonePlace 21 = .ok (.ireturn, 1) := by decide +kernel
set_option maxRecDepth 20000 in
theorem ggX4_markTaken_X4_nextPlace : GoodIn wsX4_markTaken wsX4_nextPlace := goodIn_ca (goodIn_r _ [8, 9, 10, 11, 7, 12, 1, 13, 14, 15, 16, 17, 18, 19, 20, 21, 22, 23, 24, 25, 29, 30, 31, 32, 33, 34, 35, 36, 37, 38] (by decide +kernel) (by decide +kernel)) (goodIn_sub (fun _ h => List.mem_cons_of_mem _ (List.mem_append_right _ h)) (by decide +kernel))
set_option maxRecDepth 20000 in
theorem gX4_markTaken_X4_nextPlace : GoodIn wsX4_markTaken (wsV RX4 61 RX4 yX4_nextPlace wsX4_nextPlace) := goodIn_app (goodIn_of _ (by decide +kernel)) ggX4_markTaken_X4_nextPlace
set_option maxRecDepth 20000 in
theorem ggX4_markTaken_X4_hasProcedure : GoodIn wsX4_markTaken wsX4_hasProcedure := goodIn_r _ [16, 17, 29, 30, 31, 32, 33, 34, 35, 36, 37, 38] (by decide +kernel) (by decide +kernel)
set_option maxRecDepth 20000 in
theorem gX4_markTaken_X4_hasProcedure : GoodIn wsX4_markTaken (wsV RX4 43 RX4 yX4_hasProcedure wsX4_hasProcedure) := goodIn_app (goodIn_of _ (by decide +kernel)) ggX4_markTaken_X4_hasProcedure
set_option maxRecDepth 20000 in
theorem ggX4_markTaken_X4_isPlace : GoodIn wsX4_markTaken wsX4_isPlace := goodIn_r _ [28] (by decide +kernel) (by decide +kernel)
set_option maxRecDepth 20000 in
theorem gX4_markTaken_X4_isPlace : GoodIn wsX4_markTaken (va_wsS RX4 51 yX4_isPlace wsX4_isPlace) := goodIn_app (goodIn_of _ (by decide +kernel)) ggX4_markTaken_X4_isPlace
theorem dX4_markTaken_0 : decode cX4_markTaken 0 = .ok (.aload_n 0, 1) := by decide +kernel
theorem dX4_markTaken_1 : decode cX4_markTaken 1 = .ok (.iload_n 1, 1) := by decide +kernel
theorem dX4_markTaken_2 : decode cX4_markTaken 2 = .ok (.invokevirtual 61, 3) := by decide +kernel
theorem dX4_markTaken_5 : decode cX4_markTaken 5 = .ok (.istore 4, 2) := by decide +kernel
theorem dX4_markTaken_7 : decode cX4_markTaken 7 = .ok (.aload_n 0, 1) := by decide +kernel
theorem dX4_markTaken_8 : decode cX4_markTaken 8 = .ok (.iload_n 1, 1) := by decide +kernel
theorem dX4_markTaken_9 : decode cX4_markTaken 9 = .ok (.invokevirtual 43, 3) := by decide +kernel
theorem dX4_markTaken_12 : decode cX4_markTaken 12 = .ok (.ifCond .eq 37, 3) := by decide +kernel
theorem dX4_markTaken_15 : decode cX4_markTaken 15 = .ok (.iload 4, 2) := by decide +kernel
theorem dX4_markTaken_17 : decode cX4_markTaken 17 = .ok (.invokestatic 51, 3) := by decide +kernel
theorem dX4_markTaken_20 : decode cX4_markTaken 20 = .ok (.ifCond .eq 29, 3) := by decide +kernel
theorem dX4_markTaken_23 : decode cX4_markTaken 23 = .ok (.aload_n 0, 1) := by decide +kernel
theorem dX4_markTaken_24 : decode cX4_markTaken 24 = .ok (.getfield 15, 3) := by decide +kernel
theorem dX4_markTaken_27 : decode cX4_markTaken 27 = .ok (.iload_n 1, 1) := by decide +kernel
theorem dX4_markTaken_28 : decode cX4_markTaken 28 = .ok (.dup2, 1) := by decide +kernel
theorem dX4_markTaken_29 : decode cX4_markTaken 29 = .ok (.iaload, 1) := by decide +kernel
theorem dX4_markTaken_30 : decode cX4_markTaken 30 = .ok (.iconst 1, 1) := by decide +kernel
theorem dX4_markTaken_31 : decode cX4_markTaken 31 = .ok (.iadd, 1) := by decide +kernel
theorem dX4_markTaken_32 : decode cX4_markTaken 32 = .ok (.iastore, 1) := by decide +kernel
theorem dX4_markTaken_33 : decode cX4_markTaken 33 = .ok (.aload_n 0, 1) := by decide +kernel
theorem dX4_markTaken_34 : decode cX4_markTaken 34 = .ok (.getfield 30, 3) := by decide +kernel
theorem dX4_markTaken_37 : decode cX4_markTaken 37 = .ok (.iload 4, 2) := by decide +kernel
theorem dX4_markTaken_39 : decode cX4_markTaken 39 = .ok (.iload_n 2, 1) := by decide +kernel
theorem dX4_markTaken_40 : decode cX4_markTaken 40 = .ok (.iastore, 1) := by decide +kernel
theorem dX4_markTaken_41 : decode cX4_markTaken 41 = .ok (.aload_n 0, 1) := by decide +kernel
theorem dX4_markTaken_42 : decode cX4_markTaken 42 = .ok (.getfield 33, 3) := by decide +kernel
theorem dX4_markTaken_45 : decode cX4_markTaken 45 = .ok (.iload 4, 2) := by decide +kernel
theorem dX4_markTaken_47 : decode cX4_markTaken 47 = .ok (.iload_n 3, 1) := by decide +kernel
theorem dX4_markTaken_48 : decode cX4_markTaken 48 = .ok (.iastore, 1) := by decide +kernel
theorem dX4_markTaken_49 : decode cX4_markTaken 49 = .ok (.return_, 1) := by decide +kernel
set_option maxRecDepth 20000 in
theorem ggX4_markUndone_X4_lastDonePlace : GoodIn wsX4_markUndone wsX4_lastDonePlace := goodIn_ca (goodIn_r _ [7, 8, 9, 10, 6, 11, 1, 12, 13, 14, 15, 16, 17, 18, 19, 23, 24, 25, 26, 27, 28, 29, 30, 31, 32] (by decide +kernel) (by decide +kernel)) (goodIn_sub (fun _ h => List.mem_cons_of_mem _ (List.mem_append_right _ h)) (by decide +kernel))
set_option maxRecDepth 20000 in
theorem gX4_markUndone_X4_lastDonePlace : GoodIn wsX4_markUndone (wsV RX4 64 RX4 yX4_lastDonePlace wsX4_lastDonePlace) := goodIn_app (goodIn_of _ (by decide +kernel)) ggX4_markUndone_X4_lastDonePlace
set_option maxRecDepth 20000 in
theorem ggX4_markUndone_X4_hasProcedure : GoodIn wsX4_markUndone wsX4_hasProcedure := goodIn_r _ [15, 16, 23, 24, 25, 26, 27, 28, 29, 30, 31, 32] (by decide +kernel) (by decide +kernel)
set_option maxRecDepth 20000 in
theorem gX4_markUndone_X4_hasProcedure : GoodIn wsX4_markUndone (wsV RX4 43 RX4 yX4_hasProcedure wsX4_hasProcedure) := goodIn_app (goodIn_of _ (by decide +kernel)) ggX4_markUndone_X4_hasProcedure
set_option maxRecDepth 20000 in
theorem ggX4_markUndone_X4_isPlace : GoodIn wsX4_markUndone wsX4_isPlace := goodIn_r _ [22] (by decide +kernel) (by decide +kernel)
set_option maxRecDepth 20000 in
theorem gX4_markUndone_X4_isPlace : GoodIn wsX4_markUndone (va_wsS RX4 51 yX4_isPlace wsX4_isPlace) := goodIn_app (goodIn_of _ (by decide +kernel)) ggX4_markUndone_X4_isPlace
theorem dX4_markUndone_0 : decode cX4_markUndone 0 = .ok (.aload_n 0, 1) := by decide +kernel
theorem dX4_markUndone_1 : decode cX4_markUndone 1 = .ok (.iload_n 1, 1) := by decide +kernel
theorem dX4_markUndone_2 : decode cX4_markUndone 2 = .ok (.invokevirtual 64, 3) := by decide +kernel
theorem dX4_markUndone_5 : decode cX4_markUndone 5 = .ok (.istore_n 3, 1) := by decide +kernel
theorem dX4_markUndone_6 : decode cX4_markUndone 6 = .ok (.aload_n 0, 1) := by decide +kernel
theorem dX4_markUndone_7 : decode cX4_markUndone 7 = .ok (.iload_n 1, 1) := by decide +kernel
theorem dX4_markUndone_8 : decode cX4_markUndone 8 = .ok (.invokevirtual 43, 3) := by decide +kernel
theorem dX4_markUndone_11 : decode cX4_markUndone 11 = .ok (.ifCond .eq 27, 3) := by decide +kernel
theorem dX4_markUndone_14 : decode cX4_markUndone 14 = .ok (.iload_n 3, 1) := by decide +kernel
theorem dX4_markUndone_15 : decode cX4_markUndone 15 = .ok (.invokestatic 51, 3) := by decide +kernel
theorem dX4_markUndone_18 : decode cX4_markUndone 18 = .ok (.ifCond .eq 20, 3) := by decide +kernel
theorem dX4_markUndone_21 : decode cX4_markUndone 21 = .ok (.aload_n 0, 1) := by decide +kernel
theorem dX4_markUndone_22 : decode cX4_markUndone 22 = .ok (.getfield 15, 3) := by decide +kernel
theorem dX4_markUndone_25 : decode cX4_markUndone 25 = .ok (.iload_n 1, 1) := by decide +kernel
theorem dX4_markUndone_26 : decode cX4_markUndone 26 = .ok (.dup2, 1) := by decide +kernel
theorem dX4_markUndone_27 : decode cX4_markUndone 27 = .ok (.iaload, 1) := by decide +kernel
theorem dX4_markUndone_28 : decode cX4_markUndone 28 = .ok (.iconst 1, 1) := by decide +kernel
theorem dX4_markUndone_29 : decode cX4_markUndone 29 = .ok (.isub, 1) := by decide +kernel
theorem dX4_markUndone_30 : decode cX4_markUndone 30 = .ok (.iastore, 1) := by decide +kernel
theorem dX4_markUndone_31 : decode cX4_markUndone 31 = .ok (.aload_n 0, 1) := by decide +kernel
theorem dX4_markUndone_32 : decode cX4_markUndone 32 = .ok (.getfield 36, 3) := by decide +kernel
theorem dX4_markUndone_35 : decode cX4_markUndone 35 = .ok (.iload_n 3, 1) := by decide +kernel
theorem dX4_markUndone_36 : decode cX4_markUndone 36 = .ok (.iload_n 2, 1) := by decide +kernel
theorem dX4_markUndone_37 : decode cX4_markUndone 37 = .ok (.iastore, 1) := by decide +kernel
theorem dX4_markUndone_38 : decode cX4_markUndone 38 = .ok (.return_, 1) := by decide +kernel
set_option maxRecDepth 20000 in
theorem ggX4_markNoneDone_X4_hasProcedure : GoodIn wsX4_markNoneDone wsX4_hasProcedure := goodIn_r _ [6, 7, 8, 9, 10, 11, 12, 13, 14, 15, 16, 17] (by decide +kernel) (by decide +kernel)
set_option maxRecDepth 20000 in
theorem gX4_markNoneDone_X4_hasProcedure : GoodIn wsX4_markNoneDone (wsV RX4 43 RX4 yX4_hasProcedure wsX4_hasProcedure) := goodIn_app (goodIn_of _ (by decide +kernel)) ggX4_markNoneDone_X4_hasProcedure
theorem dX4_markNoneDone_0 : decode cX4_markNoneDone 0 = .ok (.aload_n 0, 1) := by decide +kernel
theorem dX4_markNoneDone_1 : decode cX4_markNoneDone 1 = .ok (.iload_n 1, 1) := by decide +kernel
theorem dX4_markNoneDone_2 : decode cX4_markNoneDone 2 = .ok (.invokevirtual 43, 3) := by decide +kernel
theorem dX4_markNoneDone_5 : decode cX4_markNoneDone 5 = .ok (.ifCond .eq 10, 3) := by decide +kernel
theorem dX4_markNoneDone_8 : decode cX4_markNoneDone 8 = .ok (.aload_n 0, 1) := by decide +kernel
theorem dX4_markNoneDone_9 : decode cX4_markNoneDone 9 = .ok (.getfield 15, 3) := by decide +kernel
theorem dX4_markNoneDone_12 : decode cX4_markNoneDone 12 = .ok (.iload_n 1, 1) := by decide +kernel
theorem dX4_markNoneDone_13 : decode cX4_markNoneDone 13 = .ok (.iconst 0, 1) := by decide +kernel
theorem dX4_markNoneDone_14 : decode cX4_markNoneDone 14 = .ok (.iastore, 1) := by decide +kernel
theorem dX4_markNoneDone_15 : decode cX4_markNoneDone 15 = .ok (.return_, 1) := by decide +kernel
set_option maxRecDepth 20000 in
theorem ggX4_markNotUndone_X4_isPlace : GoodIn wsX4_markNotUndone wsX4_isPlace := goodIn_r _ [5] (by decide +kernel) (by decide +kernel)
set_option maxRecDepth 20000 in
theorem gX4_markNotUndone_X4_isPlace : GoodIn wsX4_markNotUndone (va_wsS RX4 51 yX4_isPlace wsX4_isPlace) := goodIn_app (goodIn_of _ (by decide +kernel)) ggX4_markNotUndone_X4_isPlace
theorem dX4_markNotUndone_0 : decode cX4_markNotUndone 0 = .ok (.iload_n 1, 1) := by decide +kernel
theorem dX4_markNotUndone_1 : decode cX4_markNotUndone 1 = .ok (.invokestatic 51, 3) := by decide +kernel
theorem dX4_markNotUndone_4 : decode cX4_markNotUndone 4 = .ok (.ifCond .eq 10, 3) := by decide +kernel
theorem dX4_markNotUndone_7 : decode cX4_markNotUndone 7 = .ok (.aload_n 0, 1) := by decide +kernel
theorem dX4_markNotUndone_8 : decode cX4_markNotUndone 8 = .ok (.getfield 36, 3) := by decide +kernel
theorem dX4_markNotUndone_11 : decode cX4_markNotUndone 11 = .ok (.iload_n 1, 1) := by decide +kernel
theorem dX4_markNotUndone_12 : decode cX4_markNotUndone 12 = .ok (.iconst (-1), 1) := by decide +kernel
theorem dX4_markNotUndone_13 : decode cX4_markNotUndone 13 = .ok (.iastore, 1) := by decide +kernel
theorem dX4_markNotUndone_14 : decode cX4_markNotUndone 14 = .ok (.return_, 1) := by decide +kernel
set_option maxRecDepth 20000 in
theorem ggX4_isUndone_X4_isStep : GoodIn wsX4_isUndone wsX4_isStep := goodIn_ca (goodIn_r _ [6, 7, 8, 5, 9, 10, 11, 12, 13, 14, 15, 16, 17, 18, 19, 20, 21, 22, 23, 24, 25, 26, 27, 28, 29, 30, 31, 32] (by decide +kernel) (by decide +kernel)) (goodIn_sub (fun _ h => List.mem_cons_of_mem _ (List.mem_append_right _ h)) (by decide +kernel))
set_option maxRecDepth 20000 in
theorem gX4_isUndone_X4_isStep : GoodIn wsX4_isUndone (wsV RX4 67 RX4 yX4_isStep wsX4_isStep) := goodIn_app (goodIn_of _ (by decide +kernel)) ggX4_isUndone_X4_isStep
theorem dX4_isUndone_0 : decode cX4_isUndone 0 = .ok (.aload_n 0, 1) := by decide +kernel
theorem dX4_isUndone_1 : decode cX4_isUndone 1 = .ok (.iload_n 1, 1) := by decide +kernel
theorem dX4_isUndone_2 : decode cX4_isUndone 2 = .ok (.invokevirtual 67, 3) := by decide +kernel
theorem dX4_isUndone_5 : decode cX4_isUndone 5 = .ok (.ifCond .eq 17, 3) := by decide +kernel
theorem dX4_isUndone_8 : decode cX4_isUndone 8 = .ok (.aload_n 0, 1) := by decide +kernel
theorem dX4_isUndone_9 : decode cX4_isUndone 9 = .ok (.getfield 36, 3) := by decide +kernel
theorem dX4_isUndone_12 : decode cX4_isUndone 12 = .ok (.iload_n 1, 1) := by decide +kernel
theorem dX4_isUndone_13 : decode cX4_isUndone 13 = .ok (.iaload, 1) := by decide +kernel
theorem dX4_isUndone_14 : decode cX4_isUndone 14 = .ok (.iconst (-1), 1) := by decide +kernel
theorem dX4_isUndone_15 : decode cX4_isUndone 15 = .ok (.if_icmp .eq 7, 3) := by decide +kernel
theorem dX4_isUndone_18 : decode cX4_isUndone 18 = .ok (.iconst 1, 1) := by decide +kernel
theorem dX4_isUndone_19 : decode cX4_isUndone 19 = .ok (.goto 4, 3) := by decide +kernel
theorem dX4_isUndone_22 : decode cX4_isUndone 22 = .ok (.iconst 0, 1) := by decide +kernel
theorem dX4_isUndone_23 : decode cX4_isUndone 23 = .ok (.ireturn, 1) := by decide +kernel
set_option maxRecDepth 20000 in
theorem ggX4_undoneLineOf_X4_isStep : GoodIn wsX4_undoneLineOf wsX4_isStep := goodIn_ca (goodIn_r _ [6, 7, 8, 5, 9, 10, 11, 12, 13, 14, 15, 16, 17, 18, 19, 20, 21, 22, 23, 24, 25, 26, 27, 28, 29, 30, 31, 32] (by decide +kernel) (by decide +kernel)) (goodIn_sub (fun _ h => List.mem_cons_of_mem _ (List.mem_append_right _ h)) (by decide +kernel))
set_option maxRecDepth 20000 in
theorem gX4_undoneLineOf_X4_isStep : GoodIn wsX4_undoneLineOf (wsV RX4 67 RX4 yX4_isStep wsX4_isStep) := goodIn_app (goodIn_of _ (by decide +kernel)) ggX4_undoneLineOf_X4_isStep
theorem dX4_undoneLineOf_0 : decode cX4_undoneLineOf 0 = .ok (.aload_n 0, 1) := by decide +kernel
theorem dX4_undoneLineOf_1 : decode cX4_undoneLineOf 1 = .ok (.iload_n 1, 1) := by decide +kernel
theorem dX4_undoneLineOf_2 : decode cX4_undoneLineOf 2 = .ok (.invokevirtual 67, 3) := by decide +kernel
theorem dX4_undoneLineOf_5 : decode cX4_undoneLineOf 5 = .ok (.ifCond .eq 12, 3) := by decide +kernel
theorem dX4_undoneLineOf_8 : decode cX4_undoneLineOf 8 = .ok (.aload_n 0, 1) := by decide +kernel
theorem dX4_undoneLineOf_9 : decode cX4_undoneLineOf 9 = .ok (.getfield 36, 3) := by decide +kernel
theorem dX4_undoneLineOf_12 : decode cX4_undoneLineOf 12 = .ok (.iload_n 1, 1) := by decide +kernel
theorem dX4_undoneLineOf_13 : decode cX4_undoneLineOf 13 = .ok (.iaload, 1) := by decide +kernel
theorem dX4_undoneLineOf_14 : decode cX4_undoneLineOf 14 = .ok (.goto 4, 3) := by decide +kernel
theorem dX4_undoneLineOf_17 : decode cX4_undoneLineOf 17 = .ok (.iconst (-1), 1) := by decide +kernel
theorem dX4_undoneLineOf_18 : decode cX4_undoneLineOf 18 = .ok (.ireturn, 1) := by decide +kernel
set_option maxRecDepth 20000 in
theorem ggX4_neededOf_X4_isPlace : GoodIn wsX4_neededOf wsX4_isPlace := goodIn_r _ [5] (by decide +kernel) (by decide +kernel)
set_option maxRecDepth 20000 in
theorem gX4_neededOf_X4_isPlace : GoodIn wsX4_neededOf (va_wsS RX4 51 yX4_isPlace wsX4_isPlace) := goodIn_app (goodIn_of _ (by decide +kernel)) ggX4_neededOf_X4_isPlace
theorem dX4_neededOf_0 : decode cX4_neededOf 0 = .ok (.iload_n 1, 1) := by decide +kernel
theorem dX4_neededOf_1 : decode cX4_neededOf 1 = .ok (.invokestatic 51, 3) := by decide +kernel
theorem dX4_neededOf_4 : decode cX4_neededOf 4 = .ok (.ifCond .eq 12, 3) := by decide +kernel
theorem dX4_neededOf_7 : decode cX4_neededOf 7 = .ok (.aload_n 0, 1) := by decide +kernel
theorem dX4_neededOf_8 : decode cX4_neededOf 8 = .ok (.getfield 18, 3) := by decide +kernel
theorem dX4_neededOf_11 : decode cX4_neededOf 11 = .ok (.iload_n 1, 1) := by decide +kernel
theorem dX4_neededOf_12 : decode cX4_neededOf 12 = .ok (.iaload, 1) := by decide +kernel
theorem dX4_neededOf_13 : decode cX4_neededOf 13 = .ok (.goto 4, 3) := by decide +kernel
theorem dX4_neededOf_16 : decode cX4_neededOf 16 = .ok (.iconst (-1), 1) := by decide +kernel
theorem dX4_neededOf_17 : decode cX4_neededOf 17 = .ok (.ireturn, 1) := by decide +kernel
set_option maxRecDepth 20000 in
theorem ggX4_neededStateOf_X4_isPlace : GoodIn wsX4_neededStateOf wsX4_isPlace := goodIn_r _ [5] (by decide +kernel) (by decide +kernel)
set_option maxRecDepth 20000 in
theorem gX4_neededStateOf_X4_isPlace : GoodIn wsX4_neededStateOf (va_wsS RX4 51 yX4_isPlace wsX4_isPlace) := goodIn_app (goodIn_of _ (by decide +kernel)) ggX4_neededStateOf_X4_isPlace
theorem dX4_neededStateOf_0 : decode cX4_neededStateOf 0 = .ok (.iload_n 1, 1) := by decide +kernel
theorem dX4_neededStateOf_1 : decode cX4_neededStateOf 1 = .ok (.invokestatic 51, 3) := by decide +kernel
theorem dX4_neededStateOf_4 : decode cX4_neededStateOf 4 = .ok (.ifCond .eq 12, 3) := by decide +kernel
theorem dX4_neededStateOf_7 : decode cX4_neededStateOf 7 = .ok (.aload_n 0, 1) := by decide +kernel
theorem dX4_neededStateOf_8 : decode cX4_neededStateOf 8 = .ok (.getfield 21, 3) := by decide +kernel
theorem dX4_neededStateOf_11 : decode cX4_neededStateOf 11 = .ok (.iload_n 1, 1) := by decide +kernel
theorem dX4_neededStateOf_12 : decode cX4_neededStateOf 12 = .ok (.iaload, 1) := by decide +kernel
theorem dX4_neededStateOf_13 : decode cX4_neededStateOf 13 = .ok (.goto 4, 3) := by decide +kernel
theorem dX4_neededStateOf_16 : decode cX4_neededStateOf 16 = .ok (.iconst (-1), 1) := by decide +kernel
theorem dX4_neededStateOf_17 : decode cX4_neededStateOf 17 = .ok (.ireturn, 1) := by decide +kernel
set_option maxRecDepth 20000 in
theorem ggX4_unitOf_X4_isPlace : GoodIn wsX4_unitOf wsX4_isPlace := goodIn_r _ [5] (by decide +kernel) (by decide +kernel)
set_option maxRecDepth 20000 in
theorem gX4_unitOf_X4_isPlace : GoodIn wsX4_unitOf (va_wsS RX4 51 yX4_isPlace wsX4_isPlace) := goodIn_app (goodIn_of _ (by decide +kernel)) ggX4_unitOf_X4_isPlace
theorem dX4_unitOf_0 : decode cX4_unitOf 0 = .ok (.iload_n 1, 1) := by decide +kernel
theorem dX4_unitOf_1 : decode cX4_unitOf 1 = .ok (.invokestatic 51, 3) := by decide +kernel
theorem dX4_unitOf_4 : decode cX4_unitOf 4 = .ok (.ifCond .eq 12, 3) := by decide +kernel
theorem dX4_unitOf_7 : decode cX4_unitOf 7 = .ok (.aload_n 0, 1) := by decide +kernel
theorem dX4_unitOf_8 : decode cX4_unitOf 8 = .ok (.getfield 24, 3) := by decide +kernel
theorem dX4_unitOf_11 : decode cX4_unitOf 11 = .ok (.iload_n 1, 1) := by decide +kernel
theorem dX4_unitOf_12 : decode cX4_unitOf 12 = .ok (.iaload, 1) := by decide +kernel
theorem dX4_unitOf_13 : decode cX4_unitOf 13 = .ok (.goto 4, 3) := by decide +kernel
theorem dX4_unitOf_16 : decode cX4_unitOf 16 = .ok (.iconst (-1), 1) := by decide +kernel
theorem dX4_unitOf_17 : decode cX4_unitOf 17 = .ok (.ireturn, 1) := by decide +kernel
set_option maxRecDepth 20000 in
theorem ggX4_newStateOf_X4_isPlace : GoodIn wsX4_newStateOf wsX4_isPlace := goodIn_r _ [5] (by decide +kernel) (by decide +kernel)
set_option maxRecDepth 20000 in
theorem gX4_newStateOf_X4_isPlace : GoodIn wsX4_newStateOf (va_wsS RX4 51 yX4_isPlace wsX4_isPlace) := goodIn_app (goodIn_of _ (by decide +kernel)) ggX4_newStateOf_X4_isPlace
theorem dX4_newStateOf_0 : decode cX4_newStateOf 0 = .ok (.iload_n 1, 1) := by decide +kernel
theorem dX4_newStateOf_1 : decode cX4_newStateOf 1 = .ok (.invokestatic 51, 3) := by decide +kernel
theorem dX4_newStateOf_4 : decode cX4_newStateOf 4 = .ok (.ifCond .eq 12, 3) := by decide +kernel
theorem dX4_newStateOf_7 : decode cX4_newStateOf 7 = .ok (.aload_n 0, 1) := by decide +kernel
theorem dX4_newStateOf_8 : decode cX4_newStateOf 8 = .ok (.getfield 27, 3) := by decide +kernel
theorem dX4_newStateOf_11 : decode cX4_newStateOf 11 = .ok (.iload_n 1, 1) := by decide +kernel
theorem dX4_newStateOf_12 : decode cX4_newStateOf 12 = .ok (.iaload, 1) := by decide +kernel
theorem dX4_newStateOf_13 : decode cX4_newStateOf 13 = .ok (.goto 4, 3) := by decide +kernel
theorem dX4_newStateOf_16 : decode cX4_newStateOf 16 = .ok (.iconst (-1), 1) := by decide +kernel
theorem dX4_newStateOf_17 : decode cX4_newStateOf 17 = .ok (.ireturn, 1) := by decide +kernel
set_option maxRecDepth 20000 in
theorem ggX4_notedStateOf_X4_isPlace : GoodIn wsX4_notedStateOf wsX4_isPlace := goodIn_r _ [5] (by decide +kernel) (by decide +kernel)
set_option maxRecDepth 20000 in
theorem gX4_notedStateOf_X4_isPlace : GoodIn wsX4_notedStateOf (va_wsS RX4 51 yX4_isPlace wsX4_isPlace) := goodIn_app (goodIn_of _ (by decide +kernel)) ggX4_notedStateOf_X4_isPlace
theorem dX4_notedStateOf_0 : decode cX4_notedStateOf 0 = .ok (.iload_n 1, 1) := by decide +kernel
theorem dX4_notedStateOf_1 : decode cX4_notedStateOf 1 = .ok (.invokestatic 51, 3) := by decide +kernel
theorem dX4_notedStateOf_4 : decode cX4_notedStateOf 4 = .ok (.ifCond .eq 12, 3) := by decide +kernel
theorem dX4_notedStateOf_7 : decode cX4_notedStateOf 7 = .ok (.aload_n 0, 1) := by decide +kernel
theorem dX4_notedStateOf_8 : decode cX4_notedStateOf 8 = .ok (.getfield 30, 3) := by decide +kernel
theorem dX4_notedStateOf_11 : decode cX4_notedStateOf 11 = .ok (.iload_n 1, 1) := by decide +kernel
theorem dX4_notedStateOf_12 : decode cX4_notedStateOf 12 = .ok (.iaload, 1) := by decide +kernel
theorem dX4_notedStateOf_13 : decode cX4_notedStateOf 13 = .ok (.goto 4, 3) := by decide +kernel
theorem dX4_notedStateOf_16 : decode cX4_notedStateOf 16 = .ok (.iconst (-1), 1) := by decide +kernel
theorem dX4_notedStateOf_17 : decode cX4_notedStateOf 17 = .ok (.ireturn, 1) := by decide +kernel
set_option maxRecDepth 20000 in
theorem ggX4_longestNotTaken_X4_isStep : GoodIn wsX4_longestNotTaken wsX4_isStep := goodIn_ca (goodIn_r _ [6, 7, 8, 5, 9, 10, 11, 12, 13, 14, 15, 16, 17, 18, 19, 20, 21, 22, 23, 24, 25, 26, 27, 28, 29, 30, 31, 32] (by decide +kernel) (by decide +kernel)) (goodIn_sub (fun _ h => List.mem_cons_of_mem _ (List.mem_append_right _ h)) (by decide +kernel))
set_option maxRecDepth 20000 in
theorem gX4_longestNotTaken_X4_isStep : GoodIn wsX4_longestNotTaken (wsV RX4 67 RX4 yX4_isStep wsX4_isStep) := goodIn_app (goodIn_of _ (by decide +kernel)) ggX4_longestNotTaken_X4_isStep
set_option maxRecDepth 20000 in
theorem ggX4_longestNotTaken_X4_isPlace : GoodIn wsX4_longestNotTaken wsX4_isPlace := goodIn_r _ [9] (by decide +kernel) (by decide +kernel)
set_option maxRecDepth 20000 in
theorem gX4_longestNotTaken_X4_isPlace : GoodIn wsX4_longestNotTaken (va_wsS RX4 51 yX4_isPlace wsX4_isPlace) := goodIn_app (goodIn_of _ (by decide +kernel)) ggX4_longestNotTaken_X4_isPlace
theorem dX4_longestNotTaken_0 : decode cX4_longestNotTaken 0 = .ok (.iconst (-1), 1) := by decide +kernel
theorem dX4_longestNotTaken_1 : decode cX4_longestNotTaken 1 = .ok (.istore_n 1, 1) := by decide +kernel
theorem dX4_longestNotTaken_2 : decode cX4_longestNotTaken 2 = .ok (.iconst 0, 1) := by decide +kernel
theorem dX4_longestNotTaken_3 : decode cX4_longestNotTaken 3 = .ok (.istore_n 2, 1) := by decide +kernel
theorem dX4_longestNotTaken_4 : decode cX4_longestNotTaken 4 = .ok (.iload_n 2, 1) := by decide +kernel
theorem dX4_longestNotTaken_5 : decode cX4_longestNotTaken 5 = .ok (.bipush 48, 2) := by decide +kernel
theorem dX4_longestNotTaken_7 : decode cX4_longestNotTaken 7 = .ok (.if_icmp .ge 41, 3) := by decide +kernel
theorem dX4_longestNotTaken_10 : decode cX4_longestNotTaken 10 = .ok (.aload_n 0, 1) := by decide +kernel
theorem dX4_longestNotTaken_11 : decode cX4_longestNotTaken 11 = .ok (.iload_n 2, 1) := by decide +kernel
theorem dX4_longestNotTaken_12 : decode cX4_longestNotTaken 12 = .ok (.invokevirtual 67, 3) := by decide +kernel
theorem dX4_longestNotTaken_15 : decode cX4_longestNotTaken 15 = .ok (.ifCond .eq 27, 3) := by decide +kernel
theorem dX4_longestNotTaken_18 : decode cX4_longestNotTaken 18 = .ok (.iload_n 1, 1) := by decide +kernel
theorem dX4_longestNotTaken_19 : decode cX4_longestNotTaken 19 = .ok (.invokestatic 51, 3) := by decide +kernel
theorem dX4_longestNotTaken_22 : decode cX4_longestNotTaken 22 = .ok (.ifCond .eq 18, 3) := by decide +kernel
theorem dX4_longestNotTaken_25 : decode cX4_longestNotTaken 25 = .ok (.aload_n 0, 1) := by decide +kernel
theorem dX4_longestNotTaken_26 : decode cX4_longestNotTaken 26 = .ok (.getfield 33, 3) := by decide +kernel
theorem dX4_longestNotTaken_29 : decode cX4_longestNotTaken 29 = .ok (.iload_n 2, 1) := by decide +kernel
theorem dX4_longestNotTaken_30 : decode cX4_longestNotTaken 30 = .ok (.iaload, 1) := by decide +kernel
theorem dX4_longestNotTaken_31 : decode cX4_longestNotTaken 31 = .ok (.aload_n 0, 1) := by decide +kernel
theorem dX4_longestNotTaken_32 : decode cX4_longestNotTaken 32 = .ok (.getfield 33, 3) := by decide +kernel
theorem dX4_longestNotTaken_35 : decode cX4_longestNotTaken 35 = .ok (.iload_n 1, 1) := by decide +kernel
theorem dX4_longestNotTaken_36 : decode cX4_longestNotTaken 36 = .ok (.iaload, 1) := by decide +kernel
theorem dX4_longestNotTaken_37 : decode cX4_longestNotTaken 37 = .ok (.if_icmp .ge 5, 3) := by decide +kernel
theorem dX4_longestNotTaken_40 : decode cX4_longestNotTaken 40 = .ok (.iload_n 2, 1) := by decide +kernel
theorem dX4_longestNotTaken_41 : decode cX4_longestNotTaken 41 = .ok (.istore_n 1, 1) := by decide +kernel
theorem dX4_longestNotTaken_42 : decode cX4_longestNotTaken 42 = .ok (.iinc 2 1, 3) := by decide +kernel
theorem dX4_longestNotTaken_45 : decode cX4_longestNotTaken 45 = .ok (.goto (-41), 3) := by decide +kernel
theorem dX4_longestNotTaken_48 : decode cX4_longestNotTaken 48 = .ok (.iload_n 1, 1) := by decide +kernel
theorem dX4_longestNotTaken_49 : decode cX4_longestNotTaken 49 = .ok (.ireturn, 1) := by decide +kernel
set_option maxRecDepth 20000 in
theorem ggX4_isStep_X4_isPlace : GoodIn wsX4_isStep wsX4_isPlace := goodIn_r _ [4] (by decide +kernel) (by decide +kernel)
set_option maxRecDepth 20000 in
theorem gX4_isStep_X4_isPlace : GoodIn wsX4_isStep (va_wsS RX4 51 yX4_isPlace wsX4_isPlace) := goodIn_app (goodIn_of _ (by decide +kernel)) ggX4_isStep_X4_isPlace
set_option maxRecDepth 20000 in
theorem ggX4_isStep_X5_stepNumber : GoodIn wsX4_isStep wsX5_stepNumber := goodIn_r _ [7] (by decide +kernel) (by decide +kernel)
set_option maxRecDepth 20000 in
theorem gX4_isStep_X5_stepNumber_n70 : GoodIn wsX4_isStep (wsX5_stepNumber) := ggX4_isStep_X5_stepNumber
set_option maxRecDepth 20000 in
theorem ggX4_isStep_X4_stepCount : GoodIn wsX4_isStep wsX4_stepCount := goodIn_ca (goodIn_r _ [11, 12, 13, 14, 15, 3, 16, 17, 18, 19, 20, 21, 22, 23, 24, 25, 26, 27] (by decide +kernel) (by decide +kernel)) (goodIn_sub (fun _ h => List.mem_cons_of_mem _ (List.mem_append_right _ h)) (by decide +kernel))
set_option maxRecDepth 20000 in
theorem gX4_isStep_X4_stepCount : GoodIn wsX4_isStep (wsV RX4 58 RX4 yX4_stepCount wsX4_stepCount) := goodIn_app (goodIn_of _ (by decide +kernel)) ggX4_isStep_X4_stepCount
theorem dX4_isStep_0 : decode cX4_isStep 0 = .ok (.iload_n 1, 1) := by decide +kernel
theorem dX4_isStep_1 : decode cX4_isStep 1 = .ok (.invokestatic 51, 3) := by decide +kernel
theorem dX4_isStep_4 : decode cX4_isStep 4 = .ok (.ifCond .eq 22, 3) := by decide +kernel
theorem dX4_isStep_7 : decode cX4_isStep 7 = .ok (.iload_n 1, 1) := by decide +kernel
theorem dX4_isStep_8 : decode cX4_isStep 8 = .ok (.invokestatic 70, 3) := by decide +kernel
theorem dX4_isStep_11 : decode cX4_isStep 11 = .ok (.aload_n 0, 1) := by decide +kernel
theorem dX4_isStep_12 : decode cX4_isStep 12 = .ok (.iload_n 1, 1) := by decide +kernel
theorem dX4_isStep_13 : decode cX4_isStep 13 = .ok (.bipush 8, 2) := by decide +kernel
theorem dX4_isStep_15 : decode cX4_isStep 15 = .ok (.idiv, 1) := by decide +kernel
theorem dX4_isStep_16 : decode cX4_isStep 16 = .ok (.invokevirtual 58, 3) := by decide +kernel
theorem dX4_isStep_19 : decode cX4_isStep 19 = .ok (.if_icmp .ge 7, 3) := by decide +kernel
theorem dX4_isStep_22 : decode cX4_isStep 22 = .ok (.iconst 1, 1) := by decide +kernel
theorem dX4_isStep_23 : decode cX4_isStep 23 = .ok (.goto 4, 3) := by decide +kernel
theorem dX4_isStep_26 : decode cX4_isStep 26 = .ok (.iconst 0, 1) := by decide +kernel
theorem dX4_isStep_27 : decode cX4_isStep 27 = .ok (.ireturn, 1) := by decide +kernel
theorem dX4_isPlace_0 : decode cX4_isPlace 0 = .ok (.iload_n 0, 1) := by decide +kernel
theorem dX4_isPlace_1 : decode cX4_isPlace 1 = .ok (.ifCond .lt 13, 3) := by decide +kernel
theorem dX4_isPlace_4 : decode cX4_isPlace 4 = .ok (.iload_n 0, 1) := by decide +kernel
theorem dX4_isPlace_5 : decode cX4_isPlace 5 = .ok (.bipush 48, 2) := by decide +kernel
theorem dX4_isPlace_7 : decode cX4_isPlace 7 = .ok (.if_icmp .ge 7, 3) := by decide +kernel
theorem dX4_isPlace_10 : decode cX4_isPlace 10 = .ok (.iconst 1, 1) := by decide +kernel
theorem dX4_isPlace_11 : decode cX4_isPlace 11 = .ok (.goto 4, 3) := by decide +kernel
theorem dX4_isPlace_14 : decode cX4_isPlace 14 = .ok (.iconst 0, 1) := by decide +kernel
theorem dX4_isPlace_15 : decode cX4_isPlace 15 = .ok (.ireturn, 1) := by decide +kernel
set_option maxRecDepth 20000 in
theorem ggX5_init_X2_init : GoodIn wsX5_init wsX2_init := goodIn_r _ [27, 28, 2, 3, 29, 30, 4, 31, 32, 33, 34, 35, 36, 74, 75, 76, 77, 78, 79, 80, 81, 82] (by decide +kernel) (by decide +kernel)
set_option maxRecDepth 20000 in
theorem gX5_init_X2_init_n15 : GoodIn wsX5_init (wsX2_init) := ggX5_init_X2_init
set_option maxRecDepth 20000 in
theorem ggX5_init_X0_init : GoodIn wsX5_init wsX0_init := goodIn_r _ [38, 39, 2, 3, 4, 40, 41, 42, 83, 84, 85] (by decide +kernel) (by decide +kernel)
set_option maxRecDepth 20000 in
theorem gX5_init_X0_init_n22 : GoodIn wsX5_init (wsX0_init) := ggX5_init_X0_init
set_option maxRecDepth 20000 in
theorem ggX5_init_X4_init : GoodIn wsX5_init wsX4_init := goodIn_r _ [44, 45, 2, 3, 4, 46, 47, 48, 49, 50, 51, 52, 53, 54, 86, 87, 88, 89, 90, 91, 92, 93, 94, 95] (by decide +kernel) (by decide +kernel)
set_option maxRecDepth 20000 in
theorem gX5_init_X4_init_n29 : GoodIn wsX5_init (wsX4_init) := ggX5_init_X4_init
set_option maxRecDepth 20000 in
theorem ggX5_init_X3_init : GoodIn wsX5_init wsX3_init := goodIn_r _ [56, 57, 2, 3, 4, 58, 59, 32, 60, 96, 97, 98, 99] (by decide +kernel) (by decide +kernel)
set_option maxRecDepth 20000 in
theorem gX5_init_X3_init_n36 : GoodIn wsX5_init (wsX3_init) := ggX5_init_X3_init
set_option maxRecDepth 20000 in
theorem ggX5_init_X1_init : GoodIn wsX5_init wsX1_init := goodIn_r _ [62, 63, 2, 3, 4, 64, 65, 66, 100, 101, 102, 103] (by decide +kernel) (by decide +kernel)
set_option maxRecDepth 20000 in
theorem gX5_init_X1_init_n43 : GoodIn wsX5_init (wsX1_init) := ggX5_init_X1_init
theorem dX5_init_0 : decode cX5_init 0 = .ok (.aload_n 0, 1) := by decide +kernel
theorem dX5_init_1 : decode cX5_init 1 = .ok (.invokespecial 3, 3) := by decide +kernel
theorem dX5_init_4 : decode cX5_init 4 = .ok (.aload_n 0, 1) := by decide +kernel
theorem dX5_init_5 : decode cX5_init 5 = .ok (.bipush 8, 2) := by decide +kernel
theorem dX5_init_7 : decode cX5_init 7 = .ok (.newarray .int, 2) := by decide +kernel
theorem dX5_init_9 : decode cX5_init 9 = .ok (.putfield 9, 3) := by decide +kernel
theorem dX5_init_12 : decode cX5_init 12 = .ok (.aload_n 0, 1) := by decide +kernel
theorem dX5_init_13 : decode cX5_init 13 = .ok (.new 13, 3) := by decide +kernel
theorem dX5_init_16 : decode cX5_init 16 = .ok (.dup, 1) := by decide +kernel
theorem dX5_init_17 : decode cX5_init 17 = .ok (.invokespecial 15, 3) := by decide +kernel
theorem dX5_init_20 : decode cX5_init 20 = .ok (.putfield 16, 3) := by decide +kernel
theorem dX5_init_23 : decode cX5_init 23 = .ok (.aload_n 0, 1) := by decide +kernel
theorem dX5_init_24 : decode cX5_init 24 = .ok (.new 20, 3) := by decide +kernel
theorem dX5_init_27 : decode cX5_init 27 = .ok (.dup, 1) := by decide +kernel
theorem dX5_init_28 : decode cX5_init 28 = .ok (.invokespecial 22, 3) := by decide +kernel
theorem dX5_init_31 : decode cX5_init 31 = .ok (.putfield 23, 3) := by decide +kernel
theorem dX5_init_34 : decode cX5_init 34 = .ok (.aload_n 0, 1) := by decide +kernel
theorem dX5_init_35 : decode cX5_init 35 = .ok (.new 27, 3) := by decide +kernel
theorem dX5_init_38 : decode cX5_init 38 = .ok (.dup, 1) := by decide +kernel
theorem dX5_init_39 : decode cX5_init 39 = .ok (.invokespecial 29, 3) := by decide +kernel
theorem dX5_init_42 : decode cX5_init 42 = .ok (.putfield 30, 3) := by decide +kernel
theorem dX5_init_45 : decode cX5_init 45 = .ok (.aload_n 0, 1) := by decide +kernel
theorem dX5_init_46 : decode cX5_init 46 = .ok (.new 34, 3) := by decide +kernel
theorem dX5_init_49 : decode cX5_init 49 = .ok (.dup, 1) := by decide +kernel
theorem dX5_init_50 : decode cX5_init 50 = .ok (.invokespecial 36, 3) := by decide +kernel
theorem dX5_init_53 : decode cX5_init 53 = .ok (.putfield 37, 3) := by decide +kernel
theorem dX5_init_56 : decode cX5_init 56 = .ok (.aload_n 0, 1) := by decide +kernel
theorem dX5_init_57 : decode cX5_init 57 = .ok (.new 41, 3) := by decide +kernel
theorem dX5_init_60 : decode cX5_init 60 = .ok (.dup, 1) := by decide +kernel
theorem dX5_init_61 : decode cX5_init 61 = .ok (.invokespecial 43, 3) := by decide +kernel
theorem dX5_init_64 : decode cX5_init 64 = .ok (.putfield 44, 3) := by decide +kernel
theorem dX5_init_67 : decode cX5_init 67 = .ok (.return_, 1) := by decide +kernel
set_option maxRecDepth 20000 in
theorem ggX5_state_X5_checkUnit : GoodIn wsX5_state wsX5_checkUnit := goodIn_ca (goodIn_r _ [4, 5, 6, 7, 8, 3, 9] (by decide +kernel) (by decide +kernel)) (goodIn_sub (fun _ h => List.mem_cons_of_mem _ (List.mem_append_left _ (List.mem_append_right _ h))) (by decide +kernel))
set_option maxRecDepth 20000 in
theorem gX5_state_X5_checkUnit : GoodIn wsX5_state (va_wsS RX5 48 yX5_checkUnit wsX5_checkUnit) := goodIn_app (goodIn_of _ (by decide +kernel)) ggX5_state_X5_checkUnit
set_option maxRecDepth 20000 in
theorem ggX5_state_X5_stateOf : GoodIn wsX5_state wsX5_stateOf := goodIn_ca (goodIn_r _ [13, 14, 7, 8, 3, 9, 15, 16, 17, 18, 19, 20, 21] (by decide +kernel) (by decide +kernel)) (goodIn_sub (fun _ h => List.mem_cons_of_mem _ (List.mem_append_right _ h)) (by decide +kernel))
set_option maxRecDepth 20000 in
theorem gX5_state_X5_stateOf : GoodIn wsX5_state (wsV RX5 52 RX5 yX5_stateOf wsX5_stateOf) := goodIn_app (goodIn_of _ (by decide +kernel)) ggX5_state_X5_stateOf
theorem dX5_state_0 : decode cX5_state 0 = .ok (.iload_n 1, 1) := by decide +kernel
theorem dX5_state_1 : decode cX5_state 1 = .ok (.invokestatic 48, 3) := by decide +kernel
theorem dX5_state_4 : decode cX5_state 4 = .ok (.aload_n 0, 1) := by decide +kernel
theorem dX5_state_5 : decode cX5_state 5 = .ok (.iload_n 1, 1) := by decide +kernel
theorem dX5_state_6 : decode cX5_state 6 = .ok (.invokevirtual 52, 3) := by decide +kernel
theorem dX5_state_9 : decode cX5_state 9 = .ok (.ireturn, 1) := by decide +kernel
set_option maxRecDepth 20000 in
theorem ggX5_raise_X5_checkAlarm : GoodIn wsX5_raise wsX5_checkAlarm := goodIn_ca (goodIn_r _ [9, 10, 11, 12, 13, 8, 14, 15, 16, 17] (by decide +kernel) (by decide +kernel)) (goodIn_sub (fun _ h => List.mem_cons_of_mem _ (List.mem_append_left _ (List.mem_append_left _ (List.mem_append_right _ h)))) (by decide +kernel))
set_option maxRecDepth 20000 in
theorem gX5_raise_X5_checkAlarm : GoodIn wsX5_raise (va_wsS RX5 56 yX5_checkAlarm wsX5_checkAlarm) := goodIn_app (goodIn_of _ (by decide +kernel)) ggX5_raise_X5_checkAlarm
set_option maxRecDepth 20000 in
theorem ggX5_raise_X5_checkPriority : GoodIn wsX5_raise wsX5_checkPriority := goodIn_ca (goodIn_r _ [20, 21, 22] (by decide +kernel) (by decide +kernel)) (goodIn_sub (fun _ h => List.mem_cons_of_mem _ (List.mem_append_left _ (List.mem_append_right _ h))) (by decide +kernel))
set_option maxRecDepth 20000 in
theorem gX5_raise_X5_checkPriority : GoodIn wsX5_raise (va_wsS RX5 60 yX5_checkPriority wsX5_checkPriority) := goodIn_app (goodIn_of _ (by decide +kernel)) ggX5_raise_X5_checkPriority
set_option maxRecDepth 20000 in
theorem ggX5_raise_X5_alarmOf : GoodIn wsX5_raise wsX5_alarmOf := goodIn_r _ [25] (by decide +kernel) (by decide +kernel)
set_option maxRecDepth 20000 in
theorem gX5_raise_X5_alarmOf : GoodIn wsX5_raise (va_wsS RX5 63 yX5_alarmOf wsX5_alarmOf) := goodIn_app (goodIn_of _ (by decide +kernel)) ggX5_raise_X5_alarmOf
set_option maxRecDepth 20000 in
theorem ggX5_raise_X0_isActive : GoodIn wsX5_raise wsX0_isActive := goodIn_ca (goodIn_r _ [30, 31, 32, 33, 29, 34, 77, 78, 79] (by decide +kernel) (by decide +kernel)) (goodIn_sub (fun _ h => List.mem_cons_of_mem _ (List.mem_append_right _ h)) (by decide +kernel))
set_option maxRecDepth 20000 in
theorem gX5_raise_X0_isActive : GoodIn wsX5_raise (wsV RX5 67 RX0 yX0_isActive wsX0_isActive) := goodIn_app (goodIn_of _ (by decide +kernel)) ggX5_raise_X0_isActive
set_option maxRecDepth 20000 in
theorem ggX5_raise_X5_checkRoomForLine : GoodIn wsX5_raise wsX5_checkRoomForLine := goodIn_ca (goodIn_r _ [38, 1, 2, 4, 39, 40, 41, 42, 43, 44, 70, 71, 72, 73, 74, 75, 76, 80, 81, 82, 83, 84, 85, 86, 87, 88] (by decide +kernel) (by decide +kernel)) (goodIn_sub (fun _ h => List.mem_cons_of_mem _ (List.mem_append_left _ (List.mem_append_left _ (List.mem_append_left _ (List.mem_append_right _ h))))) (by decide +kernel))
set_option maxRecDepth 20000 in
theorem gX5_raise_X5_checkRoomForLine : GoodIn wsX5_raise (wsV RX5 78 RX5 yX5_checkRoomForLine wsX5_checkRoomForLine) := goodIn_app (goodIn_of _ (by decide +kernel)) ggX5_raise_X5_checkRoomForLine
set_option maxRecDepth 20000 in
theorem ggX5_raise_X2_openLine : GoodIn wsX5_raise wsX2_openLine := goodIn_ca (goodIn_r _ [48, 44, 49, 50, 51, 52, 53, 40, 41, 42, 43, 54, 55, 56, 57, 58, 59, 60, 61, 62, 63, 80, 81, 82, 83, 84, 85, 86, 87, 88] (by decide +kernel) (by decide +kernel)) (goodIn_sub (fun _ h => List.mem_cons_of_mem _ (List.mem_append_right _ h)) (by decide +kernel))
set_option maxRecDepth 20000 in
theorem gX5_raise_X2_openLine : GoodIn wsX5_raise (wsV RX5 85 RX2 yX2_openLine wsX2_openLine) := goodIn_app (goodIn_of _ (by decide +kernel)) ggX5_raise_X2_openLine
set_option maxRecDepth 20000 in
theorem ggX5_raise_X0_activate : GoodIn wsX5_raise wsX0_activate := goodIn_ca (goodIn_r _ [67, 31, 68, 69, 32, 33, 29, 34, 77, 78, 79] (by decide +kernel) (by decide +kernel)) (goodIn_sub (fun _ h => List.mem_cons_of_mem _ (List.mem_append_right _ h)) (by decide +kernel))
set_option maxRecDepth 20000 in
theorem gX5_raise_X0_activate : GoodIn wsX5_raise (wsV RX5 89 RX0 yX0_activate wsX0_activate) := goodIn_app (goodIn_of _ (by decide +kernel)) ggX5_raise_X0_activate
theorem dX5_raise_0 : decode cX5_raise 0 = .ok (.iload_n 1, 1) := by decide +kernel
theorem dX5_raise_1 : decode cX5_raise 1 = .ok (.iload_n 2, 1) := by decide +kernel
theorem dX5_raise_2 : decode cX5_raise 2 = .ok (.invokestatic 56, 3) := by decide +kernel
theorem dX5_raise_5 : decode cX5_raise 5 = .ok (.iload_n 3, 1) := by decide +kernel
theorem dX5_raise_6 : decode cX5_raise 6 = .ok (.invokestatic 60, 3) := by decide +kernel
theorem dX5_raise_9 : decode cX5_raise 9 = .ok (.iload_n 1, 1) := by decide +kernel
theorem dX5_raise_10 : decode cX5_raise 10 = .ok (.iload_n 2, 1) := by decide +kernel
theorem dX5_raise_11 : decode cX5_raise 11 = .ok (.invokestatic 63, 3) := by decide +kernel
theorem dX5_raise_14 : decode cX5_raise 14 = .ok (.istore 4, 2) := by decide +kernel
theorem dX5_raise_16 : decode cX5_raise 16 = .ok (.aload_n 0, 1) := by decide +kernel
theorem dX5_raise_17 : decode cX5_raise 17 = .ok (.getfield 23, 3) := by decide +kernel
theorem dX5_raise_20 : decode cX5_raise 20 = .ok (.iload 4, 2) := by decide +kernel
theorem dX5_raise_22 : decode cX5_raise 22 = .ok (.invokevirtual 67, 3) := by decide +kernel
theorem dX5_raise_25 : decode cX5_raise 25 = .ok (.ifCond .eq 13, 3) := by decide +kernel
theorem dX5_raise_28 : decode cX5_raise 28 = .ok (.new 71, 3) := by decide +kernel
theorem dX5_raise_31 : decode cX5_raise 31 = .ok (.dup, 1) := by decide +kernel
theorem dX5_raise_32 : decode cX5_raise 32 = .ok (.ldc 73, 2) := by decide +kernel
theorem dX5_raise_34 : decode cX5_raise 34 = .ok (.invokespecial 75, 3) := by decide +kernel
theorem dX5_raise_37 : decode cX5_raise 37 = .ok (.athrow, 1) := by decide +kernel
theorem dX5_raise_38 : decode cX5_raise 38 = .ok (.aload_n 0, 1) := by decide +kernel
theorem dX5_raise_39 : decode cX5_raise 39 = .ok (.invokevirtual 78, 3) := by decide +kernel
theorem dX5_raise_42 : decode cX5_raise 42 = .ok (.aload_n 0, 1) := by decide +kernel
theorem dX5_raise_43 : decode cX5_raise 43 = .ok (.getfield 16, 3) := by decide +kernel
theorem dX5_raise_46 : decode cX5_raise 46 = .ok (.bipush 97, 2) := by decide +kernel
theorem dX5_raise_48 : decode cX5_raise 48 = .ok (.aload_n 0, 1) := by decide +kernel
theorem dX5_raise_49 : decode cX5_raise 49 = .ok (.getfield 81, 3) := by decide +kernel
theorem dX5_raise_52 : decode cX5_raise 52 = .ok (.invokevirtual 85, 3) := by decide +kernel
theorem dX5_raise_55 : decode cX5_raise 55 = .ok (.istore 5, 2) := by decide +kernel
theorem dX5_raise_57 : decode cX5_raise 57 = .ok (.aload_n 0, 1) := by decide +kernel
theorem dX5_raise_58 : decode cX5_raise 58 = .ok (.getfield 23, 3) := by decide +kernel
theorem dX5_raise_61 : decode cX5_raise 61 = .ok (.iload 4, 2) := by decide +kernel
theorem dX5_raise_63 : decode cX5_raise 63 = .ok (.iload_n 3, 1) := by decide +kernel
theorem dX5_raise_64 : decode cX5_raise 64 = .ok (.iload 5, 2) := by decide +kernel
theorem dX5_raise_66 : decode cX5_raise 66 = .ok (.invokevirtual 89, 3) := by decide +kernel
theorem dX5_raise_69 : decode cX5_raise 69 = .ok (.iload 5, 2) := by decide +kernel
theorem dX5_raise_71 : decode cX5_raise 71 = .ok (.ireturn, 1) := by decide +kernel
set_option maxRecDepth 20000 in
theorem ggX5_clear_X5_checkAlarm : GoodIn wsX5_clear wsX5_checkAlarm := goodIn_ca (goodIn_r _ [6, 7, 8, 9, 10, 5, 11, 12, 13, 14] (by decide +kernel) (by decide +kernel)) (goodIn_sub (fun _ h => List.mem_cons_of_mem _ (List.mem_append_left _ (List.mem_append_left _ (List.mem_append_right _ h)))) (by decide +kernel))
set_option maxRecDepth 20000 in
theorem gX5_clear_X5_checkAlarm : GoodIn wsX5_clear (va_wsS RX5 56 yX5_checkAlarm wsX5_checkAlarm) := goodIn_app (goodIn_of _ (by decide +kernel)) ggX5_clear_X5_checkAlarm
set_option maxRecDepth 20000 in
theorem ggX5_clear_X5_alarmOf : GoodIn wsX5_clear wsX5_alarmOf := goodIn_r _ [17] (by decide +kernel) (by decide +kernel)
set_option maxRecDepth 20000 in
theorem gX5_clear_X5_alarmOf : GoodIn wsX5_clear (va_wsS RX5 63 yX5_alarmOf wsX5_alarmOf) := goodIn_app (goodIn_of _ (by decide +kernel)) ggX5_clear_X5_alarmOf
set_option maxRecDepth 20000 in
theorem ggX5_clear_X5_checkActive : GoodIn wsX5_clear wsX5_checkActive := goodIn_ca (goodIn_ca (goodIn_r _ [21, 22, 23, 1, 24, 25, 26, 27, 28, 29, 30, 31, 32, 65, 66, 67, 68, 69, 70, 71, 72, 73, 74] (by decide +kernel) (by decide +kernel)) (goodIn_sub (fun _ h => List.mem_cons_of_mem _ (List.mem_append_left _ (List.mem_append_right _ h))) (by decide +kernel))) (goodIn_sub (fun _ h => List.mem_cons_of_mem _ (List.mem_append_right _ h)) (by decide +kernel))
set_option maxRecDepth 20000 in
theorem gX5_clear_X5_checkActive : GoodIn wsX5_clear (wsV RX5 93 RX5 yX5_checkActive wsX5_checkActive) := goodIn_app (goodIn_of _ (by decide +kernel)) ggX5_clear_X5_checkActive
set_option maxRecDepth 20000 in
theorem ggX5_clear_X0_lineOf : GoodIn wsX5_clear wsX0_lineOf := goodIn_ca (goodIn_r _ [36, 37, 38, 25, 26, 27, 28, 29, 30, 31, 32, 72, 73, 74] (by decide +kernel) (by decide +kernel)) (goodIn_sub (fun _ h => List.mem_cons_of_mem _ (List.mem_append_right _ h)) (by decide +kernel))
set_option maxRecDepth 20000 in
theorem gX5_clear_X0_lineOf : GoodIn wsX5_clear (wsV RX5 96 RX0 yX0_lineOf wsX0_lineOf) := goodIn_app (goodIn_of _ (by decide +kernel)) ggX5_clear_X0_lineOf
set_option maxRecDepth 20000 in
theorem ggX5_clear_X0_deactivate : GoodIn wsX5_clear wsX0_deactivate := goodIn_ca (goodIn_r _ [42, 29, 30, 31, 27, 32, 72, 73, 74] (by decide +kernel) (by decide +kernel)) (goodIn_sub (fun _ h => List.mem_cons_of_mem _ (List.mem_append_right _ h)) (by decide +kernel))
set_option maxRecDepth 20000 in
theorem gX5_clear_X0_deactivate : GoodIn wsX5_clear (wsV RX5 99 RX0 yX0_deactivate wsX0_deactivate) := goodIn_app (goodIn_of _ (by decide +kernel)) ggX5_clear_X0_deactivate
set_option maxRecDepth 20000 in
theorem ggX5_clear_X2_closeLine : GoodIn wsX5_clear wsX2_closeLine := goodIn_ca (goodIn_r _ [47, 48, 49, 50, 51, 52, 46, 53, 54, 55, 56, 57, 58, 59, 60, 61, 62, 63, 64, 75, 76, 77, 78, 79, 80, 81, 82, 83] (by decide +kernel) (by decide +kernel)) (goodIn_sub (fun _ h => List.mem_cons_of_mem _ (List.mem_append_right _ h)) (by decide +kernel))
set_option maxRecDepth 20000 in
theorem gX5_clear_X2_closeLine : GoodIn wsX5_clear (wsV RX5 102 RX2 yX2_closeLine wsX2_closeLine) := goodIn_app (goodIn_of _ (by decide +kernel)) ggX5_clear_X2_closeLine
theorem dX5_clear_0 : decode cX5_clear 0 = .ok (.iload_n 1, 1) := by decide +kernel
theorem dX5_clear_1 : decode cX5_clear 1 = .ok (.iload_n 2, 1) := by decide +kernel
theorem dX5_clear_2 : decode cX5_clear 2 = .ok (.invokestatic 56, 3) := by decide +kernel
theorem dX5_clear_5 : decode cX5_clear 5 = .ok (.iload_n 1, 1) := by decide +kernel
theorem dX5_clear_6 : decode cX5_clear 6 = .ok (.iload_n 2, 1) := by decide +kernel
theorem dX5_clear_7 : decode cX5_clear 7 = .ok (.invokestatic 63, 3) := by decide +kernel
theorem dX5_clear_10 : decode cX5_clear 10 = .ok (.istore_n 3, 1) := by decide +kernel
theorem dX5_clear_11 : decode cX5_clear 11 = .ok (.aload_n 0, 1) := by decide +kernel
theorem dX5_clear_12 : decode cX5_clear 12 = .ok (.iload_n 3, 1) := by decide +kernel
theorem dX5_clear_13 : decode cX5_clear 13 = .ok (.invokevirtual 93, 3) := by decide +kernel
theorem dX5_clear_16 : decode cX5_clear 16 = .ok (.aload_n 0, 1) := by decide +kernel
theorem dX5_clear_17 : decode cX5_clear 17 = .ok (.getfield 23, 3) := by decide +kernel
theorem dX5_clear_20 : decode cX5_clear 20 = .ok (.iload_n 3, 1) := by decide +kernel
theorem dX5_clear_21 : decode cX5_clear 21 = .ok (.invokevirtual 96, 3) := by decide +kernel
theorem dX5_clear_24 : decode cX5_clear 24 = .ok (.istore 4, 2) := by decide +kernel
theorem dX5_clear_26 : decode cX5_clear 26 = .ok (.aload_n 0, 1) := by decide +kernel
theorem dX5_clear_27 : decode cX5_clear 27 = .ok (.getfield 23, 3) := by decide +kernel
theorem dX5_clear_30 : decode cX5_clear 30 = .ok (.iload_n 3, 1) := by decide +kernel
theorem dX5_clear_31 : decode cX5_clear 31 = .ok (.invokevirtual 99, 3) := by decide +kernel
theorem dX5_clear_34 : decode cX5_clear 34 = .ok (.aload_n 0, 1) := by decide +kernel
theorem dX5_clear_35 : decode cX5_clear 35 = .ok (.getfield 16, 3) := by decide +kernel
theorem dX5_clear_38 : decode cX5_clear 38 = .ok (.iload 4, 2) := by decide +kernel
theorem dX5_clear_40 : decode cX5_clear 40 = .ok (.invokevirtual 102, 3) := by decide +kernel
theorem dX5_clear_43 : decode cX5_clear 43 = .ok (.iload 4, 2) := by decide +kernel
theorem dX5_clear_45 : decode cX5_clear 45 = .ok (.ireturn, 1) := by decide +kernel
set_option maxRecDepth 20000 in
theorem ggX5_shelve_X5_checkAlarm : GoodIn wsX5_shelve wsX5_checkAlarm := goodIn_ca (goodIn_r _ [10, 11, 12, 13, 14, 9, 15, 16, 17, 18] (by decide +kernel) (by decide +kernel)) (goodIn_sub (fun _ h => List.mem_cons_of_mem _ (List.mem_append_left _ (List.mem_append_left _ (List.mem_append_right _ h)))) (by decide +kernel))
set_option maxRecDepth 20000 in
theorem gX5_shelve_X5_checkAlarm : GoodIn wsX5_shelve (va_wsS RX5 56 yX5_checkAlarm wsX5_checkAlarm) := goodIn_app (goodIn_of _ (by decide +kernel)) ggX5_shelve_X5_checkAlarm
set_option maxRecDepth 20000 in
theorem ggX5_shelve_X5_alarmOf : GoodIn wsX5_shelve wsX5_alarmOf := goodIn_r _ [21] (by decide +kernel) (by decide +kernel)
set_option maxRecDepth 20000 in
theorem gX5_shelve_X5_alarmOf : GoodIn wsX5_shelve (va_wsS RX5 63 yX5_alarmOf wsX5_alarmOf) := goodIn_app (goodIn_of _ (by decide +kernel)) ggX5_shelve_X5_alarmOf
set_option maxRecDepth 20000 in
theorem ggX5_shelve_X5_checkActive : GoodIn wsX5_shelve wsX5_checkActive := goodIn_ca (goodIn_ca (goodIn_r _ [25, 26, 27, 5, 28, 29, 30, 31, 32, 33, 34, 35, 36, 47, 48, 49, 50, 51, 52, 53, 54, 55, 56] (by decide +kernel) (by decide +kernel)) (goodIn_sub (fun _ h => List.mem_cons_of_mem _ (List.mem_append_left _ (List.mem_append_right _ h))) (by decide +kernel))) (goodIn_sub (fun _ h => List.mem_cons_of_mem _ (List.mem_append_right _ h)) (by decide +kernel))
set_option maxRecDepth 20000 in
theorem gX5_shelve_X5_checkActive : GoodIn wsX5_shelve (wsV RX5 93 RX5 yX5_checkActive wsX5_checkActive) := goodIn_app (goodIn_of _ (by decide +kernel)) ggX5_shelve_X5_checkActive
set_option maxRecDepth 20000 in
theorem ggX5_shelve_X0_isOnShelf : GoodIn wsX5_shelve wsX0_isOnShelf := goodIn_ca (goodIn_r _ [40, 41, 42, 29, 30, 31, 32, 33, 34, 35, 36, 54, 55, 56] (by decide +kernel) (by decide +kernel)) (goodIn_sub (fun _ h => List.mem_cons_of_mem _ (List.mem_append_right _ h)) (by decide +kernel))
set_option maxRecDepth 20000 in
theorem gX5_shelve_X0_isOnShelf : GoodIn wsX5_shelve (wsV RX5 110 RX0 yX0_isOnShelf wsX0_isOnShelf) := goodIn_app (goodIn_of _ (by decide +kernel)) ggX5_shelve_X0_isOnShelf
set_option maxRecDepth 20000 in
theorem ggX5_shelve_X0_putOnShelf : GoodIn wsX5_shelve wsX0_putOnShelf := goodIn_ca (goodIn_r _ [46, 41, 34, 35, 31, 36, 54, 55, 56] (by decide +kernel) (by decide +kernel)) (goodIn_sub (fun _ h => List.mem_cons_of_mem _ (List.mem_append_right _ h)) (by decide +kernel))
set_option maxRecDepth 20000 in
theorem gX5_shelve_X0_putOnShelf : GoodIn wsX5_shelve (wsV RX5 116 RX0 yX0_putOnShelf wsX0_putOnShelf) := goodIn_app (goodIn_of _ (by decide +kernel)) ggX5_shelve_X0_putOnShelf
theorem dX5_shelve_0 : decode cX5_shelve 0 = .ok (.iload_n 1, 1) := by decide +kernel
theorem dX5_shelve_1 : decode cX5_shelve 1 = .ok (.iload_n 2, 1) := by decide +kernel
theorem dX5_shelve_2 : decode cX5_shelve 2 = .ok (.invokestatic 56, 3) := by decide +kernel
theorem dX5_shelve_5 : decode cX5_shelve 5 = .ok (.iload_n 1, 1) := by decide +kernel
theorem dX5_shelve_6 : decode cX5_shelve 6 = .ok (.iload_n 2, 1) := by decide +kernel
theorem dX5_shelve_7 : decode cX5_shelve 7 = .ok (.invokestatic 63, 3) := by decide +kernel
theorem dX5_shelve_10 : decode cX5_shelve 10 = .ok (.istore 4, 2) := by decide +kernel
theorem dX5_shelve_12 : decode cX5_shelve 12 = .ok (.aload_n 0, 1) := by decide +kernel
theorem dX5_shelve_13 : decode cX5_shelve 13 = .ok (.iload 4, 2) := by decide +kernel
theorem dX5_shelve_15 : decode cX5_shelve 15 = .ok (.invokevirtual 93, 3) := by decide +kernel
theorem dX5_shelve_18 : decode cX5_shelve 18 = .ok (.iload_n 3, 1) := by decide +kernel
theorem dX5_shelve_19 : decode cX5_shelve 19 = .ok (.iconst 1, 1) := by decide +kernel
theorem dX5_shelve_20 : decode cX5_shelve 20 = .ok (.if_icmp .lt 9, 3) := by decide +kernel
theorem dX5_shelve_23 : decode cX5_shelve 23 = .ok (.iload_n 3, 1) := by decide +kernel
theorem dX5_shelve_24 : decode cX5_shelve 24 = .ok (.bipush 24, 2) := by decide +kernel
theorem dX5_shelve_26 : decode cX5_shelve 26 = .ok (.if_icmp .le 13, 3) := by decide +kernel
theorem dX5_shelve_29 : decode cX5_shelve 29 = .ok (.new 105, 3) := by decide +kernel
theorem dX5_shelve_32 : decode cX5_shelve 32 = .ok (.dup, 1) := by decide +kernel
theorem dX5_shelve_33 : decode cX5_shelve 33 = .ok (.ldc 107, 2) := by decide +kernel
theorem dX5_shelve_35 : decode cX5_shelve 35 = .ok (.invokespecial 109, 3) := by decide +kernel
theorem dX5_shelve_38 : decode cX5_shelve 38 = .ok (.athrow, 1) := by decide +kernel
theorem dX5_shelve_39 : decode cX5_shelve 39 = .ok (.aload_n 0, 1) := by decide +kernel
theorem dX5_shelve_40 : decode cX5_shelve 40 = .ok (.getfield 23, 3) := by decide +kernel
theorem dX5_shelve_43 : decode cX5_shelve 43 = .ok (.iload 4, 2) := by decide +kernel
theorem dX5_shelve_45 : decode cX5_shelve 45 = .ok (.aload_n 0, 1) := by decide +kernel
theorem dX5_shelve_46 : decode cX5_shelve 46 = .ok (.getfield 81, 3) := by decide +kernel
theorem dX5_shelve_49 : decode cX5_shelve 49 = .ok (.invokevirtual 110, 3) := by decide +kernel
theorem dX5_shelve_52 : decode cX5_shelve 52 = .ok (.ifCond .eq 13, 3) := by decide +kernel
theorem dX5_shelve_55 : decode cX5_shelve 55 = .ok (.new 71, 3) := by decide +kernel
theorem dX5_shelve_58 : decode cX5_shelve 58 = .ok (.dup, 1) := by decide +kernel
theorem dX5_shelve_59 : decode cX5_shelve 59 = .ok (.ldc 114, 2) := by decide +kernel
theorem dX5_shelve_61 : decode cX5_shelve 61 = .ok (.invokespecial 75, 3) := by decide +kernel
theorem dX5_shelve_64 : decode cX5_shelve 64 = .ok (.athrow, 1) := by decide +kernel
theorem dX5_shelve_65 : decode cX5_shelve 65 = .ok (.aload_n 0, 1) := by decide +kernel
theorem dX5_shelve_66 : decode cX5_shelve 66 = .ok (.getfield 81, 3) := by decide +kernel
theorem dX5_shelve_69 : decode cX5_shelve 69 = .ok (.iload_n 3, 1) := by decide +kernel
theorem dX5_shelve_70 : decode cX5_shelve 70 = .ok (.iadd, 1) := by decide +kernel
theorem dX5_shelve_71 : decode cX5_shelve 71 = .ok (.istore 5, 2) := by decide +kernel
theorem dX5_shelve_73 : decode cX5_shelve 73 = .ok (.aload_n 0, 1) := by decide +kernel
theorem dX5_shelve_74 : decode cX5_shelve 74 = .ok (.getfield 23, 3) := by decide +kernel
theorem dX5_shelve_77 : decode cX5_shelve 77 = .ok (.iload 4, 2) := by decide +kernel
theorem dX5_shelve_79 : decode cX5_shelve 79 = .ok (.iload 5, 2) := by decide +kernel
theorem dX5_shelve_81 : decode cX5_shelve 81 = .ok (.invokevirtual 116, 3) := by decide +kernel
theorem dX5_shelve_84 : decode cX5_shelve 84 = .ok (.iload 5, 2) := by decide +kernel
theorem dX5_shelve_86 : decode cX5_shelve 86 = .ok (.ireturn, 1) := by decide +kernel
set_option maxRecDepth 20000 in
theorem ggX5_isShelved_X5_checkAlarm : GoodIn wsX5_isShelved wsX5_checkAlarm := goodIn_ca (goodIn_r _ [6, 7, 8, 9, 10, 5, 11, 12, 13, 14] (by decide +kernel) (by decide +kernel)) (goodIn_sub (fun _ h => List.mem_cons_of_mem _ (List.mem_append_left _ (List.mem_append_right _ h))) (by decide +kernel))
set_option maxRecDepth 20000 in
theorem gX5_isShelved_X5_checkAlarm : GoodIn wsX5_isShelved (va_wsS RX5 56 yX5_checkAlarm wsX5_checkAlarm) := goodIn_app (goodIn_of _ (by decide +kernel)) ggX5_isShelved_X5_checkAlarm
set_option maxRecDepth 20000 in
theorem ggX5_isShelved_X5_alarmOf : GoodIn wsX5_isShelved wsX5_alarmOf := goodIn_r _ [17] (by decide +kernel) (by decide +kernel)
set_option maxRecDepth 20000 in
theorem gX5_isShelved_X5_alarmOf : GoodIn wsX5_isShelved (va_wsS RX5 63 yX5_alarmOf wsX5_alarmOf) := goodIn_app (goodIn_of _ (by decide +kernel)) ggX5_isShelved_X5_alarmOf
set_option maxRecDepth 20000 in
theorem ggX5_isShelved_X0_isOnShelf : GoodIn wsX5_isShelved wsX0_isOnShelf := goodIn_ca (goodIn_r _ [22, 23, 24, 25, 26, 21, 27, 28, 29, 30, 31, 39, 40, 41] (by decide +kernel) (by decide +kernel)) (goodIn_sub (fun _ h => List.mem_cons_of_mem _ (List.mem_append_right _ h)) (by decide +kernel))
set_option maxRecDepth 20000 in
theorem gX5_isShelved_X0_isOnShelf : GoodIn wsX5_isShelved (wsV RX5 110 RX0 yX0_isOnShelf wsX0_isOnShelf) := goodIn_app (goodIn_of _ (by decide +kernel)) ggX5_isShelved_X0_isOnShelf
theorem dX5_isShelved_0 : decode cX5_isShelved 0 = .ok (.iload_n 1, 1) := by decide +kernel
theorem dX5_isShelved_1 : decode cX5_isShelved 1 = .ok (.iload_n 2, 1) := by decide +kernel
theorem dX5_isShelved_2 : decode cX5_isShelved 2 = .ok (.invokestatic 56, 3) := by decide +kernel
theorem dX5_isShelved_5 : decode cX5_isShelved 5 = .ok (.aload_n 0, 1) := by decide +kernel
theorem dX5_isShelved_6 : decode cX5_isShelved 6 = .ok (.getfield 23, 3) := by decide +kernel
theorem dX5_isShelved_9 : decode cX5_isShelved 9 = .ok (.iload_n 1, 1) := by decide +kernel
theorem dX5_isShelved_10 : decode cX5_isShelved 10 = .ok (.iload_n 2, 1) := by decide +kernel
theorem dX5_isShelved_11 : decode cX5_isShelved 11 = .ok (.invokestatic 63, 3) := by decide +kernel
theorem dX5_isShelved_14 : decode cX5_isShelved 14 = .ok (.aload_n 0, 1) := by decide +kernel
theorem dX5_isShelved_15 : decode cX5_isShelved 15 = .ok (.getfield 81, 3) := by decide +kernel
theorem dX5_isShelved_18 : decode cX5_isShelved 18 = .ok (.invokevirtual 110, 3) := by decide +kernel
theorem dX5_isShelved_21 : decode cX5_isShelved 21 = .ok (.ireturn, 1) := by decide +kernel
set_option maxRecDepth 20000 in
theorem ggX5_alarms_X5_checkPriority : GoodIn wsX5_alarms wsX5_checkPriority := goodIn_ca (goodIn_r _ [6, 7, 8] (by decide +kernel) (by decide +kernel)) (goodIn_sub (fun _ h => List.mem_cons_of_mem _ (List.mem_append_left _ (List.mem_append_right _ h))) (by decide +kernel))
set_option maxRecDepth 20000 in
theorem gX5_alarms_X5_checkPriority : GoodIn wsX5_alarms (va_wsS RX5 60 yX5_checkPriority wsX5_checkPriority) := goodIn_app (goodIn_of _ (by decide +kernel)) ggX5_alarms_X5_checkPriority
set_option maxRecDepth 20000 in
theorem ggX5_alarms_X0_countSounding : GoodIn wsX5_alarms wsX0_countSounding := goodIn_ca (goodIn_r _ [13, 14, 15, 16, 17, 12, 18, 19, 20, 21, 22, 23, 24, 25, 26, 27, 28, 29, 30, 38, 39, 40] (by decide +kernel) (by decide +kernel)) (goodIn_sub (fun _ h => List.mem_cons_of_mem _ (List.mem_append_right _ h)) (by decide +kernel))
set_option maxRecDepth 20000 in
theorem gX5_alarms_X0_countSounding : GoodIn wsX5_alarms (wsV RX5 119 RX0 yX0_countSounding wsX0_countSounding) := goodIn_app (goodIn_of _ (by decide +kernel)) ggX5_alarms_X0_countSounding
theorem dX5_alarms_0 : decode cX5_alarms 0 = .ok (.iload_n 1, 1) := by decide +kernel
theorem dX5_alarms_1 : decode cX5_alarms 1 = .ok (.invokestatic 60, 3) := by decide +kernel
theorem dX5_alarms_4 : decode cX5_alarms 4 = .ok (.aload_n 0, 1) := by decide +kernel
theorem dX5_alarms_5 : decode cX5_alarms 5 = .ok (.getfield 23, 3) := by decide +kernel
theorem dX5_alarms_8 : decode cX5_alarms 8 = .ok (.iload_n 1, 1) := by decide +kernel
theorem dX5_alarms_9 : decode cX5_alarms 9 = .ok (.aload_n 0, 1) := by decide +kernel
theorem dX5_alarms_10 : decode cX5_alarms 10 = .ok (.getfield 81, 3) := by decide +kernel
theorem dX5_alarms_13 : decode cX5_alarms 13 = .ok (.invokevirtual 119, 3) := by decide +kernel
theorem dX5_alarms_16 : decode cX5_alarms 16 = .ok (.ireturn, 1) := by decide +kernel
set_option maxRecDepth 20000 in
theorem ggX5_top_X0_topLine : GoodIn wsX5_top wsX0_topLine := goodIn_ca (goodIn_r _ [9, 10, 11, 12, 8, 13, 14, 15, 16, 17, 18, 19, 20, 21, 22, 23, 24, 25, 26, 27, 28, 29, 30, 31, 32, 33, 34, 35, 43, 44, 45] (by decide +kernel) (by decide +kernel)) (goodIn_sub (fun _ h => List.mem_cons_of_mem _ (List.mem_append_right _ h)) (by decide +kernel))
set_option maxRecDepth 20000 in
theorem gX5_top_X0_topLine : GoodIn wsX5_top (wsV RX5 122 RX0 yX0_topLine wsX0_topLine) := goodIn_app (goodIn_of _ (by decide +kernel)) ggX5_top_X0_topLine
theorem dX5_top_0 : decode cX5_top 0 = .ok (.aload_n 0, 1) := by decide +kernel
theorem dX5_top_1 : decode cX5_top 1 = .ok (.getfield 23, 3) := by decide +kernel
theorem dX5_top_4 : decode cX5_top 4 = .ok (.aload_n 0, 1) := by decide +kernel
theorem dX5_top_5 : decode cX5_top 5 = .ok (.getfield 81, 3) := by decide +kernel
theorem dX5_top_8 : decode cX5_top 8 = .ok (.invokevirtual 122, 3) := by decide +kernel
theorem dX5_top_11 : decode cX5_top 11 = .ok (.istore_n 1, 1) := by decide +kernel
theorem dX5_top_12 : decode cX5_top 12 = .ok (.iload_n 1, 1) := by decide +kernel
theorem dX5_top_13 : decode cX5_top 13 = .ok (.iconst (-1), 1) := by decide +kernel
theorem dX5_top_14 : decode cX5_top 14 = .ok (.if_icmp .ne 13, 3) := by decide +kernel
theorem dX5_top_17 : decode cX5_top 17 = .ok (.new 125, 3) := by decide +kernel
theorem dX5_top_20 : decode cX5_top 20 = .ok (.dup, 1) := by decide +kernel
theorem dX5_top_21 : decode cX5_top 21 = .ok (.ldc 127, 2) := by decide +kernel
theorem dX5_top_23 : decode cX5_top 23 = .ok (.invokespecial 129, 3) := by decide +kernel
theorem dX5_top_26 : decode cX5_top 26 = .ok (.athrow, 1) := by decide +kernel
theorem dX5_top_27 : decode cX5_top 27 = .ok (.iload_n 1, 1) := by decide +kernel
theorem dX5_top_28 : decode cX5_top 28 = .ok (.ireturn, 1) := by decide +kernel
set_option maxRecDepth 20000 in
theorem ggX5_addProcedure_X4_isFull : GoodIn wsX5_addProcedure wsX4_isFull := goodIn_r _ [8, 9, 21, 22, 23, 24, 25, 26, 27, 28, 29, 30] (by decide +kernel) (by decide +kernel)
set_option maxRecDepth 20000 in
theorem gX5_addProcedure_X4_isFull : GoodIn wsX5_addProcedure (wsV RX5 130 RX4 yX4_isFull wsX4_isFull) := goodIn_app (goodIn_of _ (by decide +kernel)) ggX5_addProcedure_X4_isFull
set_option maxRecDepth 20000 in
theorem ggX5_addProcedure_X4_append : GoodIn wsX5_addProcedure wsX4_append := goodIn_r _ [13, 9, 21, 22, 23, 24, 25, 26, 27, 28, 29, 30] (by decide +kernel) (by decide +kernel)
set_option maxRecDepth 20000 in
theorem gX5_addProcedure_X4_append : GoodIn wsX5_addProcedure (wsV RX5 136 RX4 yX4_append wsX4_append) := goodIn_app (goodIn_of _ (by decide +kernel)) ggX5_addProcedure_X4_append
theorem dX5_addProcedure_0 : decode cX5_addProcedure 0 = .ok (.aload_n 0, 1) := by decide +kernel
theorem dX5_addProcedure_1 : decode cX5_addProcedure 1 = .ok (.getfield 30, 3) := by decide +kernel
theorem dX5_addProcedure_4 : decode cX5_addProcedure 4 = .ok (.invokevirtual 130, 3) := by decide +kernel
theorem dX5_addProcedure_7 : decode cX5_addProcedure 7 = .ok (.ifCond .eq 13, 3) := by decide +kernel
theorem dX5_addProcedure_10 : decode cX5_addProcedure 10 = .ok (.new 71, 3) := by decide +kernel
theorem dX5_addProcedure_13 : decode cX5_addProcedure 13 = .ok (.dup, 1) := by decide +kernel
theorem dX5_addProcedure_14 : decode cX5_addProcedure 14 = .ok (.ldc 134, 2) := by decide +kernel
theorem dX5_addProcedure_16 : decode cX5_addProcedure 16 = .ok (.invokespecial 75, 3) := by decide +kernel
theorem dX5_addProcedure_19 : decode cX5_addProcedure 19 = .ok (.athrow, 1) := by decide +kernel
theorem dX5_addProcedure_20 : decode cX5_addProcedure 20 = .ok (.aload_n 0, 1) := by decide +kernel
theorem dX5_addProcedure_21 : decode cX5_addProcedure 21 = .ok (.getfield 30, 3) := by decide +kernel
theorem dX5_addProcedure_24 : decode cX5_addProcedure 24 = .ok (.invokevirtual 136, 3) := by decide +kernel
theorem dX5_addProcedure_27 : decode cX5_addProcedure 27 = .ok (.ireturn, 1) := by decide +kernel
set_option maxRecDepth 20000 in
theorem ggX5_addStep_X5_checkProcedure : GoodIn wsX5_addStep wsX5_checkProcedure := goodIn_ca (goodIn_r _ [8, 9, 10, 3, 11, 12, 13, 14, 15, 16, 62, 63, 64, 65, 66, 67, 68, 69, 70, 71, 72, 73, 74, 75, 76, 77, 78] (by decide +kernel) (by decide +kernel)) (goodIn_sub (fun _ h => List.mem_cons_of_mem _ (List.mem_append_left _ (List.mem_append_left _ (List.mem_append_left _ (List.mem_append_right _ h))))) (by decide +kernel))
set_option maxRecDepth 20000 in
theorem gX5_addStep_X5_checkProcedure : GoodIn wsX5_addStep (wsV RX5 140 RX5 yX5_checkProcedure wsX5_checkProcedure) := goodIn_app (goodIn_of _ (by decide +kernel)) ggX5_addStep_X5_checkProcedure
set_option maxRecDepth 20000 in
theorem ggX5_addStep_X5_checkUnit : GoodIn wsX5_addStep wsX5_checkUnit := goodIn_ca (goodIn_r _ [19, 20, 21, 22, 23, 7, 24] (by decide +kernel) (by decide +kernel)) (goodIn_sub (fun _ h => List.mem_cons_of_mem _ (List.mem_append_left _ (List.mem_append_left _ (List.mem_append_right _ h)))) (by decide +kernel))
set_option maxRecDepth 20000 in
theorem gX5_addStep_X5_checkUnit : GoodIn wsX5_addStep (va_wsS RX5 48 yX5_checkUnit wsX5_checkUnit) := goodIn_app (goodIn_of _ (by decide +kernel)) ggX5_addStep_X5_checkUnit
set_option maxRecDepth 20000 in
theorem ggX5_addStep_X5_checkState : GoodIn wsX5_addStep wsX5_checkState := goodIn_ca (goodIn_r _ [27, 28, 29] (by decide +kernel) (by decide +kernel)) (goodIn_sub (fun _ h => List.mem_cons_of_mem _ (List.mem_append_left _ (List.mem_append_right _ h))) (by decide +kernel))
set_option maxRecDepth 20000 in
theorem gX5_addStep_X5_checkState : GoodIn wsX5_addStep (va_wsS RX5 143 yX5_checkState wsX5_checkState) := goodIn_app (goodIn_of _ (by decide +kernel)) ggX5_addStep_X5_checkState
set_option maxRecDepth 20000 in
theorem ggX5_addStep_X4_stepCount : GoodIn wsX5_addStep wsX4_stepCount := goodIn_ca (goodIn_r _ [33, 34, 35, 12, 13, 14, 15, 16, 69, 70, 71, 72, 73, 74, 75, 76, 77, 78] (by decide +kernel) (by decide +kernel)) (goodIn_sub (fun _ h => List.mem_cons_of_mem _ (List.mem_append_right _ h)) (by decide +kernel))
set_option maxRecDepth 20000 in
theorem gX5_addStep_X4_stepCount : GoodIn wsX5_addStep (wsV RX5 146 RX4 yX4_stepCount wsX4_stepCount) := goodIn_app (goodIn_of _ (by decide +kernel)) ggX5_addStep_X4_stepCount
set_option maxRecDepth 20000 in
theorem ggX5_addStep_X4_appendStep : GoodIn wsX5_addStep wsX4_appendStep := goodIn_ca (goodIn_r _ [39, 34, 40, 41, 35, 12, 13, 14, 15, 16, 42, 7, 43, 44, 45, 46, 69, 70, 71, 72, 73, 74, 75, 76, 77, 78] (by decide +kernel) (by decide +kernel)) (goodIn_sub (fun _ h => List.mem_cons_of_mem _ (List.mem_append_right _ h)) (by decide +kernel))
set_option maxRecDepth 20000 in
theorem gX5_addStep_X4_appendStep : GoodIn wsX5_addStep (wsV RX5 151 RX4 yX4_appendStep wsX4_appendStep) := goodIn_app (goodIn_of _ (by decide +kernel)) ggX5_addStep_X4_appendStep
set_option maxRecDepth 20000 in
theorem ggX5_addStep_X4_setNeed : GoodIn wsX5_addStep wsX4_setNeed := goodIn_ca (goodIn_r _ [50, 51, 52, 44, 45, 14, 46, 69, 70, 71, 72, 73, 74, 75, 76, 77, 78] (by decide +kernel) (by decide +kernel)) (goodIn_sub (fun _ h => List.mem_cons_of_mem _ (List.mem_append_right _ h)) (by decide +kernel))
set_option maxRecDepth 20000 in
theorem gX5_addStep_X4_setNeed : GoodIn wsX5_addStep (wsV RX5 154 RX4 yX4_setNeed wsX4_setNeed) := goodIn_app (goodIn_of _ (by decide +kernel)) ggX5_addStep_X4_setNeed
set_option maxRecDepth 20000 in
theorem ggX5_addStep_X4_setEffect : GoodIn wsX5_addStep wsX4_setEffect := goodIn_ca (goodIn_r _ [56, 57, 58, 44, 45, 14, 46, 69, 70, 71, 72, 73, 74, 75, 76, 77, 78] (by decide +kernel) (by decide +kernel)) (goodIn_sub (fun _ h => List.mem_cons_of_mem _ (List.mem_append_right _ h)) (by decide +kernel))
set_option maxRecDepth 20000 in
theorem gX5_addStep_X4_setEffect : GoodIn wsX5_addStep (wsV RX5 157 RX4 yX4_setEffect wsX4_setEffect) := goodIn_app (goodIn_of _ (by decide +kernel)) ggX5_addStep_X4_setEffect
set_option maxRecDepth 20000 in
theorem ggX5_addStep_X5_stepNumber : GoodIn wsX5_addStep wsX5_stepNumber := goodIn_r _ [61] (by decide +kernel) (by decide +kernel)
set_option maxRecDepth 20000 in
theorem gX5_addStep_X5_stepNumber : GoodIn wsX5_addStep (va_wsS RX5 160 yX5_stepNumber wsX5_stepNumber) := goodIn_app (goodIn_of _ (by decide +kernel)) ggX5_addStep_X5_stepNumber
theorem dX5_addStep_0 : decode cX5_addStep 0 = .ok (.aload_n 0, 1) := by decide +kernel
theorem dX5_addStep_1 : decode cX5_addStep 1 = .ok (.iload_n 1, 1) := by decide +kernel
theorem dX5_addStep_2 : decode cX5_addStep 2 = .ok (.invokevirtual 140, 3) := by decide +kernel
theorem dX5_addStep_5 : decode cX5_addStep 5 = .ok (.iload_n 2, 1) := by decide +kernel
theorem dX5_addStep_6 : decode cX5_addStep 6 = .ok (.invokestatic 48, 3) := by decide +kernel
theorem dX5_addStep_9 : decode cX5_addStep 9 = .ok (.iload 4, 2) := by decide +kernel
theorem dX5_addStep_11 : decode cX5_addStep 11 = .ok (.invokestatic 48, 3) := by decide +kernel
theorem dX5_addStep_14 : decode cX5_addStep 14 = .ok (.iload_n 3, 1) := by decide +kernel
theorem dX5_addStep_15 : decode cX5_addStep 15 = .ok (.invokestatic 143, 3) := by decide +kernel
theorem dX5_addStep_18 : decode cX5_addStep 18 = .ok (.iload 5, 2) := by decide +kernel
theorem dX5_addStep_20 : decode cX5_addStep 20 = .ok (.invokestatic 143, 3) := by decide +kernel
theorem dX5_addStep_23 : decode cX5_addStep 23 = .ok (.aload_n 0, 1) := by decide +kernel
theorem dX5_addStep_24 : decode cX5_addStep 24 = .ok (.getfield 30, 3) := by decide +kernel
theorem dX5_addStep_27 : decode cX5_addStep 27 = .ok (.iload_n 1, 1) := by decide +kernel
theorem dX5_addStep_28 : decode cX5_addStep 28 = .ok (.invokevirtual 146, 3) := by decide +kernel
theorem dX5_addStep_31 : decode cX5_addStep 31 = .ok (.bipush 8, 2) := by decide +kernel
theorem dX5_addStep_33 : decode cX5_addStep 33 = .ok (.if_icmp .lt 13, 3) := by decide +kernel
theorem dX5_addStep_36 : decode cX5_addStep 36 = .ok (.new 71, 3) := by decide +kernel
theorem dX5_addStep_39 : decode cX5_addStep 39 = .ok (.dup, 1) := by decide +kernel
theorem dX5_addStep_40 : decode cX5_addStep 40 = .ok (.ldc 149, 2) := by decide +kernel
theorem dX5_addStep_42 : decode cX5_addStep 42 = .ok (.invokespecial 75, 3) := by decide +kernel
theorem dX5_addStep_45 : decode cX5_addStep 45 = .ok (.athrow, 1) := by decide +kernel
theorem dX5_addStep_46 : decode cX5_addStep 46 = .ok (.aload_n 0, 1) := by decide +kernel
theorem dX5_addStep_47 : decode cX5_addStep 47 = .ok (.getfield 30, 3) := by decide +kernel
theorem dX5_addStep_50 : decode cX5_addStep 50 = .ok (.iload_n 1, 1) := by decide +kernel
theorem dX5_addStep_51 : decode cX5_addStep 51 = .ok (.invokevirtual 151, 3) := by decide +kernel
theorem dX5_addStep_54 : decode cX5_addStep 54 = .ok (.istore 6, 2) := by decide +kernel
theorem dX5_addStep_56 : decode cX5_addStep 56 = .ok (.aload_n 0, 1) := by decide +kernel
theorem dX5_addStep_57 : decode cX5_addStep 57 = .ok (.getfield 30, 3) := by decide +kernel
theorem dX5_addStep_60 : decode cX5_addStep 60 = .ok (.iload 6, 2) := by decide +kernel
theorem dX5_addStep_62 : decode cX5_addStep 62 = .ok (.iload_n 2, 1) := by decide +kernel
theorem dX5_addStep_63 : decode cX5_addStep 63 = .ok (.iload_n 3, 1) := by decide +kernel
theorem dX5_addStep_64 : decode cX5_addStep 64 = .ok (.invokevirtual 154, 3) := by decide +kernel
theorem dX5_addStep_67 : decode cX5_addStep 67 = .ok (.aload_n 0, 1) := by decide +kernel
theorem dX5_addStep_68 : decode cX5_addStep 68 = .ok (.getfield 30, 3) := by decide +kernel
theorem dX5_addStep_71 : decode cX5_addStep 71 = .ok (.iload 6, 2) := by decide +kernel
theorem dX5_addStep_73 : decode cX5_addStep 73 = .ok (.iload 4, 2) := by decide +kernel
theorem dX5_addStep_75 : decode cX5_addStep 75 = .ok (.iload 5, 2) := by decide +kernel
theorem dX5_addStep_77 : decode cX5_addStep 77 = .ok (.invokevirtual 157, 3) := by decide +kernel
theorem dX5_addStep_80 : decode cX5_addStep 80 = .ok (.iload 6, 2) := by decide +kernel
theorem dX5_addStep_82 : decode cX5_addStep 82 = .ok (.invokestatic 160, 3) := by decide +kernel
theorem dX5_addStep_85 : decode cX5_addStep 85 = .ok (.ireturn, 1) := by decide +kernel
set_option maxRecDepth 20000 in
theorem ggX5_done_X5_checkProcedure : GoodIn wsX5_done wsX5_checkProcedure := goodIn_ca (goodIn_r _ [6, 7, 8, 1, 9, 10, 11, 12, 13, 14, 21, 22, 23, 24, 25, 26, 27, 28, 29, 30, 31, 32, 33, 34, 35, 36, 37] (by decide +kernel) (by decide +kernel)) (goodIn_sub (fun _ h => List.mem_cons_of_mem _ (List.mem_append_left _ (List.mem_append_right _ h))) (by decide +kernel))
set_option maxRecDepth 20000 in
theorem gX5_done_X5_checkProcedure : GoodIn wsX5_done (wsV RX5 140 RX5 yX5_checkProcedure wsX5_checkProcedure) := goodIn_app (goodIn_of _ (by decide +kernel)) ggX5_done_X5_checkProcedure
set_option maxRecDepth 20000 in
theorem ggX5_done_X4_doneCount : GoodIn wsX5_done wsX4_doneCount := goodIn_ca (goodIn_r _ [18, 19, 20, 10, 11, 12, 13, 14, 28, 29, 30, 31, 32, 33, 34, 35, 36, 37] (by decide +kernel) (by decide +kernel)) (goodIn_sub (fun _ h => List.mem_cons_of_mem _ (List.mem_append_right _ h)) (by decide +kernel))
set_option maxRecDepth 20000 in
theorem gX5_done_X4_doneCount : GoodIn wsX5_done (wsV RX5 163 RX4 yX4_doneCount wsX4_doneCount) := goodIn_app (goodIn_of _ (by decide +kernel)) ggX5_done_X4_doneCount
theorem dX5_done_0 : decode cX5_done 0 = .ok (.aload_n 0, 1) := by decide +kernel
theorem dX5_done_1 : decode cX5_done 1 = .ok (.iload_n 1, 1) := by decide +kernel
theorem dX5_done_2 : decode cX5_done 2 = .ok (.invokevirtual 140, 3) := by decide +kernel
theorem dX5_done_5 : decode cX5_done 5 = .ok (.aload_n 0, 1) := by decide +kernel
theorem dX5_done_6 : decode cX5_done 6 = .ok (.getfield 30, 3) := by decide +kernel
theorem dX5_done_9 : decode cX5_done 9 = .ok (.iload_n 1, 1) := by decide +kernel
theorem dX5_done_10 : decode cX5_done 10 = .ok (.invokevirtual 163, 3) := by decide +kernel
theorem dX5_done_13 : decode cX5_done 13 = .ok (.ireturn, 1) := by decide +kernel
set_option maxRecDepth 20000 in
theorem ggX5_reason_X5_checkProcedure : GoodIn wsX5_reason wsX5_checkProcedure := goodIn_ca (goodIn_r _ [5, 6, 7, 8, 9, 10, 11, 12, 13, 14, 96, 97, 98, 99, 100, 101, 102, 103, 104, 105, 106, 107, 108, 109, 110, 111, 112] (by decide +kernel) (by decide +kernel)) (goodIn_sub (fun _ h => List.mem_cons_of_mem _ (List.mem_append_left _ (List.mem_append_right _ h))) (by decide +kernel))
set_option maxRecDepth 20000 in
theorem gX5_reason_X5_checkProcedure : GoodIn wsX5_reason (wsV RX5 140 RX5 yX5_checkProcedure wsX5_checkProcedure) := goodIn_app (goodIn_of _ (by decide +kernel)) ggX5_reason_X5_checkProcedure
set_option maxRecDepth 20000 in
theorem ggX5_reason_X5_reasonOf : GoodIn wsX5_reason wsX5_reasonOf := goodIn_ca (goodIn_r _ [18, 8, 19, 20, 21, 22, 23, 24, 12, 25, 26, 27, 28, 29, 30, 31, 10, 11, 13, 14, 32, 33, 34, 35, 36, 37, 4, 38, 39, 40, 41, 42, 43, 44, 45, 46, 47, 48, 49, 50, 51, 52, 53, 54, 55, 56, 57, 58, 59, 60, 61, 62, 63, 64, 65, 66, 67, 68, 69, 70, 71, 72, 73, 74, 75, 76, 77, 78, 79, 80, 81, 82, 83, 84, 85, 86, 87, 88, 89, 90, 91, 92, 93, 94, 95, 96, 97, 98, 99, 100, 101, 102, 103, 104, 105, 106, 107, 108, 109, 110, 111, 112, 113, 114, 115, 116, 117, 118, 119, 120] (by decide +kernel) (by decide +kernel)) (goodIn_sub (fun _ h => List.mem_cons_of_mem _ (List.mem_append_right _ h)) (by decide +kernel))
set_option maxRecDepth 20000 in
theorem gX5_reason_X5_reasonOf : GoodIn wsX5_reason (wsV RX5 166 RX5 yX5_reasonOf wsX5_reasonOf) := goodIn_app (goodIn_of _ (by decide +kernel)) ggX5_reason_X5_reasonOf
theorem dX5_reason_0 : decode cX5_reason 0 = .ok (.aload_n 0, 1) := by decide +kernel
theorem dX5_reason_1 : decode cX5_reason 1 = .ok (.iload_n 1, 1) := by decide +kernel
theorem dX5_reason_2 : decode cX5_reason 2 = .ok (.invokevirtual 140, 3) := by decide +kernel
theorem dX5_reason_5 : decode cX5_reason 5 = .ok (.aload_n 0, 1) := by decide +kernel
theorem dX5_reason_6 : decode cX5_reason 6 = .ok (.iload_n 1, 1) := by decide +kernel
theorem dX5_reason_7 : decode cX5_reason 7 = .ok (.invokevirtual 166, 3) := by decide +kernel
theorem dX5_reason_10 : decode cX5_reason 10 = .ok (.ireturn, 1) := by decide +kernel
set_option maxRecDepth 20000 in
theorem ggX5_barredBy_X5_checkProcedure : GoodIn wsX5_barredBy wsX5_checkProcedure := goodIn_ca (goodIn_r _ [9, 1, 2, 3, 10, 11, 12, 13, 14, 15, 63, 64, 65, 66, 67, 68, 69, 70, 71, 72, 73, 74, 75, 76, 77, 78, 79] (by decide +kernel) (by decide +kernel)) (goodIn_sub (fun _ h => List.mem_cons_of_mem _ (List.mem_append_left _ (List.mem_append_right _ h))) (by decide +kernel))
set_option maxRecDepth 20000 in
theorem gX5_barredBy_X5_checkProcedure : GoodIn wsX5_barredBy (wsV RX5 140 RX5 yX5_checkProcedure wsX5_checkProcedure) := goodIn_app (goodIn_of _ (by decide +kernel)) ggX5_barredBy_X5_checkProcedure
set_option maxRecDepth 20000 in
theorem ggX5_barredBy_X4_nextPlace : GoodIn wsX5_barredBy wsX4_nextPlace := goodIn_ca (goodIn_r _ [19, 20, 21, 22, 13, 23, 24, 25, 11, 12, 14, 15, 26, 27, 28, 29, 30, 31, 8, 32, 70, 71, 72, 73, 74, 75, 76, 77, 78, 79] (by decide +kernel) (by decide +kernel)) (goodIn_sub (fun _ h => List.mem_cons_of_mem _ (List.mem_append_right _ h)) (by decide +kernel))
set_option maxRecDepth 20000 in
theorem gX5_barredBy_X4_nextPlace : GoodIn wsX5_barredBy (wsV RX5 170 RX4 yX4_nextPlace wsX4_nextPlace) := goodIn_app (goodIn_of _ (by decide +kernel)) ggX5_barredBy_X4_nextPlace
set_option maxRecDepth 20000 in
theorem ggX5_barredBy_X4_unitOf : GoodIn wsX5_barredBy wsX4_unitOf := goodIn_ca (goodIn_r _ [36, 37, 38, 39, 13, 40, 70, 71, 72, 73, 74, 75, 76, 77, 78, 79] (by decide +kernel) (by decide +kernel)) (goodIn_sub (fun _ h => List.mem_cons_of_mem _ (List.mem_append_right _ h)) (by decide +kernel))
set_option maxRecDepth 20000 in
theorem gX5_barredBy_X4_unitOf : GoodIn wsX5_barredBy (wsV RX5 175 RX4 yX4_unitOf wsX4_unitOf) := goodIn_app (goodIn_of _ (by decide +kernel)) ggX5_barredBy_X4_unitOf
set_option maxRecDepth 20000 in
theorem ggX5_barredBy_X5_unitBit : GoodIn wsX5_barredBy wsX5_unitBit := goodIn_r _ [43, 44, 45, 8, 46] (by decide +kernel) (by decide +kernel)
set_option maxRecDepth 20000 in
theorem gX5_barredBy_X5_unitBit : GoodIn wsX5_barredBy (va_wsS RX5 178 yX5_unitBit wsX5_unitBit) := goodIn_app (goodIn_of _ (by decide +kernel)) ggX5_barredBy_X5_unitBit
set_option maxRecDepth 20000 in
theorem ggX5_barredBy_X3_firstOpenWith : GoodIn wsX5_barredBy wsX3_firstOpenWith := goodIn_ca (goodIn_r _ [51, 52, 53, 54, 55, 50, 56, 57, 58, 59, 60, 61, 62, 80, 81, 82, 83] (by decide +kernel) (by decide +kernel)) (goodIn_sub (fun _ h => List.mem_cons_of_mem _ (List.mem_append_right _ h)) (by decide +kernel))
set_option maxRecDepth 20000 in
theorem gX5_barredBy_X3_firstOpenWith : GoodIn wsX5_barredBy (wsV RX5 181 RX3 yX3_firstOpenWith wsX3_firstOpenWith) := goodIn_app (goodIn_of _ (by decide +kernel)) ggX5_barredBy_X3_firstOpenWith
theorem dX5_barredBy_0 : decode cX5_barredBy 0 = .ok (.aload_n 0, 1) := by decide +kernel
theorem dX5_barredBy_1 : decode cX5_barredBy 1 = .ok (.iload_n 1, 1) := by decide +kernel
theorem dX5_barredBy_2 : decode cX5_barredBy 2 = .ok (.invokevirtual 140, 3) := by decide +kernel
theorem dX5_barredBy_5 : decode cX5_barredBy 5 = .ok (.aload_n 0, 1) := by decide +kernel
theorem dX5_barredBy_6 : decode cX5_barredBy 6 = .ok (.getfield 30, 3) := by decide +kernel
theorem dX5_barredBy_9 : decode cX5_barredBy 9 = .ok (.iload_n 1, 1) := by decide +kernel
theorem dX5_barredBy_10 : decode cX5_barredBy 10 = .ok (.invokevirtual 170, 3) := by decide +kernel
theorem dX5_barredBy_13 : decode cX5_barredBy 13 = .ok (.istore_n 2, 1) := by decide +kernel
theorem dX5_barredBy_14 : decode cX5_barredBy 14 = .ok (.iload_n 2, 1) := by decide +kernel
theorem dX5_barredBy_15 : decode cX5_barredBy 15 = .ok (.iconst (-1), 1) := by decide +kernel
theorem dX5_barredBy_16 : decode cX5_barredBy 16 = .ok (.if_icmp .ne 13, 3) := by decide +kernel
theorem dX5_barredBy_19 : decode cX5_barredBy 19 = .ok (.new 125, 3) := by decide +kernel
theorem dX5_barredBy_22 : decode cX5_barredBy 22 = .ok (.dup, 1) := by decide +kernel
theorem dX5_barredBy_23 : decode cX5_barredBy 23 = .ok (.ldc 173, 2) := by decide +kernel
theorem dX5_barredBy_25 : decode cX5_barredBy 25 = .ok (.invokespecial 129, 3) := by decide +kernel
theorem dX5_barredBy_28 : decode cX5_barredBy 28 = .ok (.athrow, 1) := by decide +kernel
theorem dX5_barredBy_29 : decode cX5_barredBy 29 = .ok (.aload_n 0, 1) := by decide +kernel
theorem dX5_barredBy_30 : decode cX5_barredBy 30 = .ok (.getfield 37, 3) := by decide +kernel
theorem dX5_barredBy_33 : decode cX5_barredBy 33 = .ok (.aload_n 0, 1) := by decide +kernel
theorem dX5_barredBy_34 : decode cX5_barredBy 34 = .ok (.getfield 30, 3) := by decide +kernel
theorem dX5_barredBy_37 : decode cX5_barredBy 37 = .ok (.iload_n 2, 1) := by decide +kernel
theorem dX5_barredBy_38 : decode cX5_barredBy 38 = .ok (.invokevirtual 175, 3) := by decide +kernel
theorem dX5_barredBy_41 : decode cX5_barredBy 41 = .ok (.invokestatic 178, 3) := by decide +kernel
theorem dX5_barredBy_44 : decode cX5_barredBy 44 = .ok (.invokevirtual 181, 3) := by decide +kernel
theorem dX5_barredBy_47 : decode cX5_barredBy 47 = .ok (.istore_n 3, 1) := by decide +kernel
theorem dX5_barredBy_48 : decode cX5_barredBy 48 = .ok (.iload_n 3, 1) := by decide +kernel
theorem dX5_barredBy_49 : decode cX5_barredBy 49 = .ok (.iconst (-1), 1) := by decide +kernel
theorem dX5_barredBy_50 : decode cX5_barredBy 50 = .ok (.if_icmp .ne 13, 3) := by decide +kernel
theorem dX5_barredBy_53 : decode cX5_barredBy 53 = .ok (.new 125, 3) := by decide +kernel
theorem dX5_barredBy_56 : decode cX5_barredBy 56 = .ok (.dup, 1) := by decide +kernel
theorem dX5_barredBy_57 : decode cX5_barredBy 57 = .ok (.ldc 184, 2) := by decide +kernel
theorem dX5_barredBy_59 : decode cX5_barredBy 59 = .ok (.invokespecial 129, 3) := by decide +kernel
theorem dX5_barredBy_62 : decode cX5_barredBy 62 = .ok (.athrow, 1) := by decide +kernel
theorem dX5_barredBy_63 : decode cX5_barredBy 63 = .ok (.iload_n 3, 1) := by decide +kernel
theorem dX5_barredBy_64 : decode cX5_barredBy 64 = .ok (.ireturn, 1) := by decide +kernel
set_option maxRecDepth 20000 in
theorem ggX5_step_X5_checkProcedure : GoodIn wsX5_step wsX5_checkProcedure := goodIn_ca (goodIn_r _ [9, 10, 11, 3, 12, 13, 14, 15, 16, 17, 161, 162, 163, 164, 165, 166, 167, 168, 169, 170, 171, 172, 173, 174, 175, 176, 177] (by decide +kernel) (by decide +kernel)) (goodIn_sub (fun _ h => List.mem_cons_of_mem _ (List.mem_append_left _ (List.mem_append_right _ h))) (by decide +kernel))
set_option maxRecDepth 20000 in
theorem gX5_step_X5_checkProcedure : GoodIn wsX5_step (wsV RX5 140 RX5 yX5_checkProcedure wsX5_checkProcedure) := goodIn_app (goodIn_of _ (by decide +kernel)) ggX5_step_X5_checkProcedure
set_option maxRecDepth 20000 in
theorem ggX5_step_X5_reasonOf : GoodIn wsX5_step wsX5_reasonOf := goodIn_ca (goodIn_r _ [21, 3, 22, 4, 23, 24, 25, 26, 15, 27, 28, 29, 30, 31, 32, 33, 13, 14, 16, 17, 34, 35, 36, 37, 38, 39, 8, 40, 41, 42, 43, 44, 45, 46, 47, 48, 49, 50, 51, 52, 53, 54, 55, 56, 57, 58, 59, 60, 61, 62, 63, 64, 65, 66, 67, 68, 69, 70, 71, 72, 73, 74, 75, 76, 77, 78, 79, 80, 81, 82, 83, 84, 85, 86, 87, 88, 89, 90, 91, 92, 93, 94, 95, 96, 97, 161, 162, 163, 164, 165, 166, 167, 168, 169, 170, 171, 172, 173, 174, 175, 176, 177, 178, 179, 180, 181, 182, 183, 184, 185] (by decide +kernel) (by decide +kernel)) (goodIn_sub (fun _ h => List.mem_cons_of_mem _ (List.mem_append_right _ h)) (by decide +kernel))
set_option maxRecDepth 20000 in
theorem gX5_step_X5_reasonOf : GoodIn wsX5_step (wsV RX5 166 RX5 yX5_reasonOf wsX5_reasonOf) := goodIn_app (goodIn_of _ (by decide +kernel)) ggX5_step_X5_reasonOf
set_option maxRecDepth 20000 in
theorem ggX5_step_X4_nextPlace : GoodIn wsX5_step wsX4_nextPlace := goodIn_ca (goodIn_r _ [27, 28, 29, 30, 15, 31, 32, 33, 13, 14, 16, 17, 34, 35, 36, 37, 38, 39, 8, 40, 168, 169, 170, 171, 172, 173, 174, 175, 176, 177] (by decide +kernel) (by decide +kernel)) (goodIn_sub (fun _ h => List.mem_cons_of_mem _ (List.mem_append_right _ h)) (by decide +kernel))
set_option maxRecDepth 20000 in
theorem gX5_step_X4_nextPlace : GoodIn wsX5_step (wsV RX5 170 RX4 yX4_nextPlace wsX4_nextPlace) := goodIn_app (goodIn_of _ (by decide +kernel)) ggX5_step_X4_nextPlace
set_option maxRecDepth 20000 in
theorem ggX5_step_X4_unitOf : GoodIn wsX5_step wsX4_unitOf := goodIn_ca (goodIn_r _ [56, 57, 58, 59, 15, 60, 168, 169, 170, 171, 172, 173, 174, 175, 176, 177] (by decide +kernel) (by decide +kernel)) (goodIn_sub (fun _ h => List.mem_cons_of_mem _ (List.mem_append_right _ h)) (by decide +kernel))
set_option maxRecDepth 20000 in
theorem gX5_step_X4_unitOf : GoodIn wsX5_step (wsV RX5 175 RX4 yX4_unitOf wsX4_unitOf) := goodIn_app (goodIn_of _ (by decide +kernel)) ggX5_step_X4_unitOf
set_option maxRecDepth 20000 in
theorem ggX5_step_X5_stateOf : GoodIn wsX5_step wsX5_stateOf := goodIn_ca (goodIn_r _ [91, 92, 64, 65, 8, 66, 161, 162, 163, 164, 165, 166, 167] (by decide +kernel) (by decide +kernel)) (goodIn_sub (fun _ h => List.mem_cons_of_mem _ (List.mem_append_right _ h)) (by decide +kernel))
set_option maxRecDepth 20000 in
theorem gX5_step_X5_stateOf : GoodIn wsX5_step (wsV RX5 52 RX5 yX5_stateOf wsX5_stateOf) := goodIn_app (goodIn_of _ (by decide +kernel)) ggX5_step_X5_stateOf
set_option maxRecDepth 20000 in
theorem ggX5_step_X4_markTaken : GoodIn wsX5_step wsX4_markTaken := goodIn_ca (goodIn_r _ [101, 32, 102, 103, 104, 25, 26, 15, 27, 28, 29, 30, 31, 33, 13, 14, 16, 17, 34, 35, 36, 37, 38, 39, 8, 40, 58, 59, 60, 168, 169, 170, 171, 172, 173, 174, 175, 176, 177] (by decide +kernel) (by decide +kernel)) (goodIn_sub (fun _ h => List.mem_cons_of_mem _ (List.mem_append_right _ h)) (by decide +kernel))
set_option maxRecDepth 20000 in
theorem gX5_step_X4_markTaken : GoodIn wsX5_step (wsV RX5 188 RX4 yX4_markTaken wsX4_markTaken) := goodIn_app (goodIn_of _ (by decide +kernel)) ggX5_step_X4_markTaken
set_option maxRecDepth 20000 in
theorem ggX5_step_X4_newStateOf : GoodIn wsX5_step wsX4_newStateOf := goodIn_ca (goodIn_r _ [108, 109, 58, 59, 15, 60, 168, 169, 170, 171, 172, 173, 174, 175, 176, 177] (by decide +kernel) (by decide +kernel)) (goodIn_sub (fun _ h => List.mem_cons_of_mem _ (List.mem_append_right _ h)) (by decide +kernel))
set_option maxRecDepth 20000 in
theorem gX5_step_X4_newStateOf : GoodIn wsX5_step (wsV RX5 191 RX4 yX4_newStateOf wsX4_newStateOf) := goodIn_app (goodIn_of _ (by decide +kernel)) ggX5_step_X4_newStateOf
set_option maxRecDepth 20000 in
theorem ggX5_step_X5_setState : GoodIn wsX5_step wsX5_setState := goodIn_ca (goodIn_r _ [113, 92, 64, 65, 8, 66, 161, 162, 163, 164, 165, 166, 167] (by decide +kernel) (by decide +kernel)) (goodIn_sub (fun _ h => List.mem_cons_of_mem _ (List.mem_append_right _ h)) (by decide +kernel))
set_option maxRecDepth 20000 in
theorem gX5_step_X5_setState : GoodIn wsX5_step (wsV RX5 194 RX5 yX5_setState wsX5_setState) := goodIn_app (goodIn_of _ (by decide +kernel)) ggX5_step_X5_setState
set_option maxRecDepth 20000 in
theorem ggX5_step_X5_closeUndoneLine : GoodIn wsX5_step wsX5_closeUndoneLine := goodIn_ca (goodIn_r _ [117, 3, 118, 119, 120, 121, 15, 122, 123, 124, 125, 126, 127, 58, 59, 60, 128, 8, 129, 34, 35, 36, 37, 38, 33, 13, 14, 16, 17, 130, 131, 132, 133, 134, 135, 136, 137, 138, 139, 140, 141, 142, 143, 144, 145, 146, 147, 148, 149, 150, 151, 152, 153, 154, 155, 156, 157, 158, 159, 161, 162, 163, 164, 165, 166, 167, 168, 169, 170, 171, 172, 173, 174, 175, 176, 177, 186, 187, 188, 189, 190, 191, 192, 193, 194] (by decide +kernel) (by decide +kernel)) (goodIn_sub (fun _ h => List.mem_cons_of_mem _ (List.mem_append_right _ h)) (by decide +kernel))
set_option maxRecDepth 20000 in
theorem gX5_step_X5_closeUndoneLine : GoodIn wsX5_step (wsV RX5 197 RX5 yX5_closeUndoneLine wsX5_closeUndoneLine) := goodIn_app (goodIn_of _ (by decide +kernel)) ggX5_step_X5_closeUndoneLine
set_option maxRecDepth 20000 in
theorem ggX5_step_X5_stepNumber : GoodIn wsX5_step wsX5_stepNumber := goodIn_r _ [129] (by decide +kernel) (by decide +kernel)
set_option maxRecDepth 20000 in
theorem gX5_step_X5_stepNumber : GoodIn wsX5_step (va_wsS RX5 160 yX5_stepNumber wsX5_stepNumber) := goodIn_app (goodIn_of _ (by decide +kernel)) ggX5_step_X5_stepNumber
theorem dX5_step_0 : decode cX5_step 0 = .ok (.aload_n 0, 1) := by decide +kernel
theorem dX5_step_1 : decode cX5_step 1 = .ok (.iload_n 1, 1) := by decide +kernel
theorem dX5_step_2 : decode cX5_step 2 = .ok (.invokevirtual 140, 3) := by decide +kernel
theorem dX5_step_5 : decode cX5_step 5 = .ok (.aload_n 0, 1) := by decide +kernel
theorem dX5_step_6 : decode cX5_step 6 = .ok (.iload_n 1, 1) := by decide +kernel
theorem dX5_step_7 : decode cX5_step 7 = .ok (.invokevirtual 166, 3) := by decide +kernel
theorem dX5_step_10 : decode cX5_step 10 = .ok (.bipush 45, 2) := by decide +kernel
theorem dX5_step_12 : decode cX5_step 12 = .ok (.if_icmp .eq 13, 3) := by decide +kernel
theorem dX5_step_15 : decode cX5_step 15 = .ok (.new 71, 3) := by decide +kernel
theorem dX5_step_18 : decode cX5_step 18 = .ok (.dup, 1) := by decide +kernel
theorem dX5_step_19 : decode cX5_step 19 = .ok (.ldc 186, 2) := by decide +kernel
theorem dX5_step_21 : decode cX5_step 21 = .ok (.invokespecial 75, 3) := by decide +kernel
theorem dX5_step_24 : decode cX5_step 24 = .ok (.athrow, 1) := by decide +kernel
theorem dX5_step_25 : decode cX5_step 25 = .ok (.aload_n 0, 1) := by decide +kernel
theorem dX5_step_26 : decode cX5_step 26 = .ok (.getfield 30, 3) := by decide +kernel
theorem dX5_step_29 : decode cX5_step 29 = .ok (.iload_n 1, 1) := by decide +kernel
theorem dX5_step_30 : decode cX5_step 30 = .ok (.invokevirtual 170, 3) := by decide +kernel
theorem dX5_step_33 : decode cX5_step 33 = .ok (.istore_n 2, 1) := by decide +kernel
theorem dX5_step_34 : decode cX5_step 34 = .ok (.aload_n 0, 1) := by decide +kernel
theorem dX5_step_35 : decode cX5_step 35 = .ok (.getfield 30, 3) := by decide +kernel
theorem dX5_step_38 : decode cX5_step 38 = .ok (.iload_n 2, 1) := by decide +kernel
theorem dX5_step_39 : decode cX5_step 39 = .ok (.invokevirtual 175, 3) := by decide +kernel
theorem dX5_step_42 : decode cX5_step 42 = .ok (.istore_n 3, 1) := by decide +kernel
theorem dX5_step_43 : decode cX5_step 43 = .ok (.aload_n 0, 1) := by decide +kernel
theorem dX5_step_44 : decode cX5_step 44 = .ok (.getfield 30, 3) := by decide +kernel
theorem dX5_step_47 : decode cX5_step 47 = .ok (.iload_n 1, 1) := by decide +kernel
theorem dX5_step_48 : decode cX5_step 48 = .ok (.aload_n 0, 1) := by decide +kernel
theorem dX5_step_49 : decode cX5_step 49 = .ok (.iload_n 3, 1) := by decide +kernel
theorem dX5_step_50 : decode cX5_step 50 = .ok (.invokevirtual 52, 3) := by decide +kernel
theorem dX5_step_53 : decode cX5_step 53 = .ok (.aload_n 0, 1) := by decide +kernel
theorem dX5_step_54 : decode cX5_step 54 = .ok (.getfield 81, 3) := by decide +kernel
theorem dX5_step_57 : decode cX5_step 57 = .ok (.invokevirtual 188, 3) := by decide +kernel
theorem dX5_step_60 : decode cX5_step 60 = .ok (.aload_n 0, 1) := by decide +kernel
theorem dX5_step_61 : decode cX5_step 61 = .ok (.iload_n 3, 1) := by decide +kernel
theorem dX5_step_62 : decode cX5_step 62 = .ok (.aload_n 0, 1) := by decide +kernel
theorem dX5_step_63 : decode cX5_step 63 = .ok (.getfield 30, 3) := by decide +kernel
theorem dX5_step_66 : decode cX5_step 66 = .ok (.iload_n 2, 1) := by decide +kernel
theorem dX5_step_67 : decode cX5_step 67 = .ok (.invokevirtual 191, 3) := by decide +kernel
theorem dX5_step_70 : decode cX5_step 70 = .ok (.invokevirtual 194, 3) := by decide +kernel
theorem dX5_step_73 : decode cX5_step 73 = .ok (.aload_n 0, 1) := by decide +kernel
theorem dX5_step_74 : decode cX5_step 74 = .ok (.iload_n 2, 1) := by decide +kernel
theorem dX5_step_75 : decode cX5_step 75 = .ok (.invokevirtual 197, 3) := by decide +kernel
theorem dX5_step_78 : decode cX5_step 78 = .ok (.pop, 1) := by decide +kernel
theorem dX5_step_79 : decode cX5_step 79 = .ok (.iload_n 2, 1) := by decide +kernel
theorem dX5_step_80 : decode cX5_step 80 = .ok (.invokestatic 160, 3) := by decide +kernel
theorem dX5_step_83 : decode cX5_step 83 = .ok (.ireturn, 1) := by decide +kernel
set_option maxRecDepth 20000 in
theorem ggX5_undo_X5_checkProcedure : GoodIn wsX5_undo wsX5_checkProcedure := goodIn_ca (goodIn_r _ [13, 14, 15, 5, 16, 17, 18, 19, 20, 21, 130, 131, 132, 133, 134, 135, 136, 137, 138, 139, 140, 141, 142, 143, 144, 145, 146] (by decide +kernel) (by decide +kernel)) (goodIn_sub (fun _ h => List.mem_cons_of_mem _ (List.mem_append_left _ (List.mem_append_right _ h))) (by decide +kernel))
set_option maxRecDepth 20000 in
theorem gX5_undo_X5_checkProcedure : GoodIn wsX5_undo (wsV RX5 140 RX5 yX5_checkProcedure wsX5_checkProcedure) := goodIn_app (goodIn_of _ (by decide +kernel)) ggX5_undo_X5_checkProcedure
set_option maxRecDepth 20000 in
theorem ggX5_undo_X4_lastDonePlace : GoodIn wsX5_undo wsX4_lastDonePlace := goodIn_ca (goodIn_r _ [25, 26, 27, 28, 19, 29, 30, 31, 17, 18, 20, 21, 32, 12, 33, 137, 138, 139, 140, 141, 142, 143, 144, 145, 146] (by decide +kernel) (by decide +kernel)) (goodIn_sub (fun _ h => List.mem_cons_of_mem _ (List.mem_append_right _ h)) (by decide +kernel))
set_option maxRecDepth 20000 in
theorem gX5_undo_X4_lastDonePlace : GoodIn wsX5_undo (wsV RX5 200 RX4 yX4_lastDonePlace wsX4_lastDonePlace) := goodIn_app (goodIn_of _ (by decide +kernel)) ggX5_undo_X4_lastDonePlace
set_option maxRecDepth 20000 in
theorem ggX5_undo_X5_checkAtWork : GoodIn wsX5_undo wsX5_checkAtWork := goodIn_ca (goodIn_r _ [37, 1, 2, 38, 39, 40, 41, 42, 43, 44, 45, 130, 131, 132, 133, 134, 135, 136, 147, 148, 149, 150] (by decide +kernel) (by decide +kernel)) (goodIn_sub (fun _ h => List.mem_cons_of_mem _ (List.mem_append_left _ (List.mem_append_left _ (List.mem_append_left _ (List.mem_append_right _ h))))) (by decide +kernel))
set_option maxRecDepth 20000 in
theorem gX5_undo_X5_checkAtWork : GoodIn wsX5_undo (wsV RX5 205 RX5 yX5_checkAtWork wsX5_checkAtWork) := goodIn_app (goodIn_of _ (by decide +kernel)) ggX5_undo_X5_checkAtWork
set_option maxRecDepth 20000 in
theorem ggX5_undo_X5_checkRoomForLine : GoodIn wsX5_undo wsX5_checkRoomForLine := goodIn_ca (goodIn_r _ [49, 1, 2, 7, 50, 51, 52, 53, 54, 55, 130, 131, 132, 133, 134, 135, 136, 151, 152, 153, 154, 155, 156, 157, 158, 159] (by decide +kernel) (by decide +kernel)) (goodIn_sub (fun _ h => List.mem_cons_of_mem _ (List.mem_append_left _ (List.mem_append_left _ (List.mem_append_left _ (List.mem_append_right _ h))))) (by decide +kernel))
set_option maxRecDepth 20000 in
theorem gX5_undo_X5_checkRoomForLine : GoodIn wsX5_undo (wsV RX5 78 RX5 yX5_checkRoomForLine wsX5_checkRoomForLine) := goodIn_app (goodIn_of _ (by decide +kernel)) ggX5_undo_X5_checkRoomForLine
set_option maxRecDepth 20000 in
theorem ggX5_undo_X4_unitOf : GoodIn wsX5_undo wsX4_unitOf := goodIn_ca (goodIn_r _ [59, 60, 61, 62, 19, 63, 137, 138, 139, 140, 141, 142, 143, 144, 145, 146] (by decide +kernel) (by decide +kernel)) (goodIn_sub (fun _ h => List.mem_cons_of_mem _ (List.mem_append_right _ h)) (by decide +kernel))
set_option maxRecDepth 20000 in
theorem gX5_undo_X4_unitOf : GoodIn wsX5_undo (wsV RX5 175 RX4 yX4_unitOf wsX4_unitOf) := goodIn_app (goodIn_of _ (by decide +kernel)) ggX5_undo_X4_unitOf
set_option maxRecDepth 20000 in
theorem ggX5_undo_X5_stateOf : GoodIn wsX5_undo wsX5_stateOf := goodIn_ca (goodIn_r _ [67, 68, 69, 70, 12, 71, 130, 131, 132, 133, 134, 135, 136] (by decide +kernel) (by decide +kernel)) (goodIn_sub (fun _ h => List.mem_cons_of_mem _ (List.mem_append_right _ h)) (by decide +kernel))
set_option maxRecDepth 20000 in
theorem gX5_undo_X5_stateOf : GoodIn wsX5_undo (wsV RX5 52 RX5 yX5_stateOf wsX5_stateOf) := goodIn_app (goodIn_of _ (by decide +kernel)) ggX5_undo_X5_stateOf
set_option maxRecDepth 20000 in
theorem ggX5_undo_X4_newStateOf : GoodIn wsX5_undo wsX4_newStateOf := goodIn_ca (goodIn_r _ [75, 76, 61, 62, 19, 63, 137, 138, 139, 140, 141, 142, 143, 144, 145, 146] (by decide +kernel) (by decide +kernel)) (goodIn_sub (fun _ h => List.mem_cons_of_mem _ (List.mem_append_right _ h)) (by decide +kernel))
set_option maxRecDepth 20000 in
theorem gX5_undo_X4_newStateOf : GoodIn wsX5_undo (wsV RX5 191 RX4 yX4_newStateOf wsX4_newStateOf) := goodIn_app (goodIn_of _ (by decide +kernel)) ggX5_undo_X4_newStateOf
set_option maxRecDepth 20000 in
theorem ggX5_undo_X5_unitBit : GoodIn wsX5_undo wsX5_unitBit := goodIn_r _ [79, 69, 70, 12, 71] (by decide +kernel) (by decide +kernel)
set_option maxRecDepth 20000 in
theorem gX5_undo_X5_unitBit : GoodIn wsX5_undo (va_wsS RX5 178 yX5_unitBit wsX5_unitBit) := goodIn_app (goodIn_of _ (by decide +kernel)) ggX5_undo_X5_unitBit
set_option maxRecDepth 20000 in
theorem ggX5_undo_X3_firstOpenWith : GoodIn wsX5_undo wsX3_firstOpenWith := goodIn_ca (goodIn_r _ [84, 85, 86, 87, 88, 83, 89, 90, 91, 92, 93, 94, 95, 160, 161, 162, 163] (by decide +kernel) (by decide +kernel)) (goodIn_sub (fun _ h => List.mem_cons_of_mem _ (List.mem_append_right _ h)) (by decide +kernel))
set_option maxRecDepth 20000 in
theorem gX5_undo_X3_firstOpenWith : GoodIn wsX5_undo (wsV RX5 181 RX3 yX3_firstOpenWith wsX3_firstOpenWith) := goodIn_app (goodIn_of _ (by decide +kernel)) ggX5_undo_X3_firstOpenWith
set_option maxRecDepth 20000 in
theorem ggX5_undo_X2_openLine : GoodIn wsX5_undo wsX2_openLine := goodIn_ca (goodIn_r _ [99, 55, 100, 101, 102, 103, 104, 51, 52, 53, 54, 105, 106, 107, 108, 109, 110, 111, 112, 113, 114, 151, 152, 153, 154, 155, 156, 157, 158, 159] (by decide +kernel) (by decide +kernel)) (goodIn_sub (fun _ h => List.mem_cons_of_mem _ (List.mem_append_right _ h)) (by decide +kernel))
set_option maxRecDepth 20000 in
theorem gX5_undo_X2_openLine : GoodIn wsX5_undo (wsV RX5 85 RX2 yX2_openLine wsX2_openLine) := goodIn_app (goodIn_of _ (by decide +kernel)) ggX5_undo_X2_openLine
set_option maxRecDepth 20000 in
theorem ggX5_undo_X4_notedStateOf : GoodIn wsX5_undo wsX4_notedStateOf := goodIn_ca (goodIn_r _ [118, 119, 61, 62, 19, 63, 137, 138, 139, 140, 141, 142, 143, 144, 145, 146] (by decide +kernel) (by decide +kernel)) (goodIn_sub (fun _ h => List.mem_cons_of_mem _ (List.mem_append_right _ h)) (by decide +kernel))
set_option maxRecDepth 20000 in
theorem gX5_undo_X4_notedStateOf : GoodIn wsX5_undo (wsV RX5 213 RX4 yX4_notedStateOf wsX4_notedStateOf) := goodIn_app (goodIn_of _ (by decide +kernel)) ggX5_undo_X4_notedStateOf
set_option maxRecDepth 20000 in
theorem ggX5_undo_X5_setState : GoodIn wsX5_undo wsX5_setState := goodIn_ca (goodIn_r _ [123, 68, 69, 70, 12, 71, 130, 131, 132, 133, 134, 135, 136] (by decide +kernel) (by decide +kernel)) (goodIn_sub (fun _ h => List.mem_cons_of_mem _ (List.mem_append_right _ h)) (by decide +kernel))
set_option maxRecDepth 20000 in
theorem gX5_undo_X5_setState : GoodIn wsX5_undo (wsV RX5 194 RX5 yX5_setState wsX5_setState) := goodIn_app (goodIn_of _ (by decide +kernel)) ggX5_undo_X5_setState
set_option maxRecDepth 20000 in
theorem ggX5_undo_X4_markUndone : GoodIn wsX5_undo wsX4_markUndone := goodIn_ca (goodIn_r _ [127, 30, 128, 129, 23, 24, 19, 25, 26, 27, 28, 29, 31, 17, 18, 20, 21, 32, 12, 33, 61, 62, 63, 137, 138, 139, 140, 141, 142, 143, 144, 145, 146] (by decide +kernel) (by decide +kernel)) (goodIn_sub (fun _ h => List.mem_cons_of_mem _ (List.mem_append_right _ h)) (by decide +kernel))
set_option maxRecDepth 20000 in
theorem gX5_undo_X4_markUndone : GoodIn wsX5_undo (wsV RX5 216 RX4 yX4_markUndone wsX4_markUndone) := goodIn_app (goodIn_of _ (by decide +kernel)) ggX5_undo_X4_markUndone
theorem dX5_undo_0 : decode cX5_undo 0 = .ok (.aload_n 0, 1) := by decide +kernel
theorem dX5_undo_1 : decode cX5_undo 1 = .ok (.iload_n 1, 1) := by decide +kernel
theorem dX5_undo_2 : decode cX5_undo 2 = .ok (.invokevirtual 140, 3) := by decide +kernel
theorem dX5_undo_5 : decode cX5_undo 5 = .ok (.aload_n 0, 1) := by decide +kernel
theorem dX5_undo_6 : decode cX5_undo 6 = .ok (.getfield 30, 3) := by decide +kernel
theorem dX5_undo_9 : decode cX5_undo 9 = .ok (.iload_n 1, 1) := by decide +kernel
theorem dX5_undo_10 : decode cX5_undo 10 = .ok (.invokevirtual 200, 3) := by decide +kernel
theorem dX5_undo_13 : decode cX5_undo 13 = .ok (.istore_n 2, 1) := by decide +kernel
theorem dX5_undo_14 : decode cX5_undo 14 = .ok (.iload_n 2, 1) := by decide +kernel
theorem dX5_undo_15 : decode cX5_undo 15 = .ok (.iconst (-1), 1) := by decide +kernel
theorem dX5_undo_16 : decode cX5_undo 16 = .ok (.if_icmp .ne 13, 3) := by decide +kernel
theorem dX5_undo_19 : decode cX5_undo 19 = .ok (.new 71, 3) := by decide +kernel
theorem dX5_undo_22 : decode cX5_undo 22 = .ok (.dup, 1) := by decide +kernel
theorem dX5_undo_23 : decode cX5_undo 23 = .ok (.ldc 203, 2) := by decide +kernel
theorem dX5_undo_25 : decode cX5_undo 25 = .ok (.invokespecial 75, 3) := by decide +kernel
theorem dX5_undo_28 : decode cX5_undo 28 = .ok (.athrow, 1) := by decide +kernel
theorem dX5_undo_29 : decode cX5_undo 29 = .ok (.aload_n 0, 1) := by decide +kernel
theorem dX5_undo_30 : decode cX5_undo 30 = .ok (.invokevirtual 205, 3) := by decide +kernel
theorem dX5_undo_33 : decode cX5_undo 33 = .ok (.aload_n 0, 1) := by decide +kernel
theorem dX5_undo_34 : decode cX5_undo 34 = .ok (.invokevirtual 78, 3) := by decide +kernel
theorem dX5_undo_37 : decode cX5_undo 37 = .ok (.aload_n 0, 1) := by decide +kernel
theorem dX5_undo_38 : decode cX5_undo 38 = .ok (.getfield 30, 3) := by decide +kernel
theorem dX5_undo_41 : decode cX5_undo 41 = .ok (.iload_n 2, 1) := by decide +kernel
theorem dX5_undo_42 : decode cX5_undo 42 = .ok (.invokevirtual 175, 3) := by decide +kernel
theorem dX5_undo_45 : decode cX5_undo 45 = .ok (.istore_n 3, 1) := by decide +kernel
theorem dX5_undo_46 : decode cX5_undo 46 = .ok (.aload_n 0, 1) := by decide +kernel
theorem dX5_undo_47 : decode cX5_undo 47 = .ok (.iload_n 3, 1) := by decide +kernel
theorem dX5_undo_48 : decode cX5_undo 48 = .ok (.invokevirtual 52, 3) := by decide +kernel
theorem dX5_undo_51 : decode cX5_undo 51 = .ok (.aload_n 0, 1) := by decide +kernel
theorem dX5_undo_52 : decode cX5_undo 52 = .ok (.getfield 30, 3) := by decide +kernel
theorem dX5_undo_55 : decode cX5_undo 55 = .ok (.iload_n 2, 1) := by decide +kernel
theorem dX5_undo_56 : decode cX5_undo 56 = .ok (.invokevirtual 191, 3) := by decide +kernel
theorem dX5_undo_59 : decode cX5_undo 59 = .ok (.if_icmp .ne 18, 3) := by decide +kernel
theorem dX5_undo_62 : decode cX5_undo 62 = .ok (.aload_n 0, 1) := by decide +kernel
theorem dX5_undo_63 : decode cX5_undo 63 = .ok (.getfield 37, 3) := by decide +kernel
theorem dX5_undo_66 : decode cX5_undo 66 = .ok (.iload_n 3, 1) := by decide +kernel
theorem dX5_undo_67 : decode cX5_undo 67 = .ok (.invokestatic 178, 3) := by decide +kernel
theorem dX5_undo_70 : decode cX5_undo 70 = .ok (.invokevirtual 181, 3) := by decide +kernel
theorem dX5_undo_73 : decode cX5_undo 73 = .ok (.iconst (-1), 1) := by decide +kernel
theorem dX5_undo_74 : decode cX5_undo 74 = .ok (.if_icmp .eq 13, 3) := by decide +kernel
theorem dX5_undo_77 : decode cX5_undo 77 = .ok (.new 208, 3) := by decide +kernel
theorem dX5_undo_80 : decode cX5_undo 80 = .ok (.dup, 1) := by decide +kernel
theorem dX5_undo_81 : decode cX5_undo 81 = .ok (.ldc 210, 2) := by decide +kernel
theorem dX5_undo_83 : decode cX5_undo 83 = .ok (.invokespecial 212, 3) := by decide +kernel
theorem dX5_undo_86 : decode cX5_undo 86 = .ok (.athrow, 1) := by decide +kernel
theorem dX5_undo_87 : decode cX5_undo 87 = .ok (.aload_n 0, 1) := by decide +kernel
theorem dX5_undo_88 : decode cX5_undo 88 = .ok (.getfield 16, 3) := by decide +kernel
theorem dX5_undo_91 : decode cX5_undo 91 = .ok (.bipush 115, 2) := by decide +kernel
theorem dX5_undo_93 : decode cX5_undo 93 = .ok (.aload_n 0, 1) := by decide +kernel
theorem dX5_undo_94 : decode cX5_undo 94 = .ok (.getfield 81, 3) := by decide +kernel
theorem dX5_undo_97 : decode cX5_undo 97 = .ok (.invokevirtual 85, 3) := by decide +kernel
theorem dX5_undo_100 : decode cX5_undo 100 = .ok (.istore 4, 2) := by decide +kernel
theorem dX5_undo_102 : decode cX5_undo 102 = .ok (.aload_n 0, 1) := by decide +kernel
theorem dX5_undo_103 : decode cX5_undo 103 = .ok (.iload_n 3, 1) := by decide +kernel
theorem dX5_undo_104 : decode cX5_undo 104 = .ok (.aload_n 0, 1) := by decide +kernel
theorem dX5_undo_105 : decode cX5_undo 105 = .ok (.getfield 30, 3) := by decide +kernel
theorem dX5_undo_108 : decode cX5_undo 108 = .ok (.iload_n 2, 1) := by decide +kernel
theorem dX5_undo_109 : decode cX5_undo 109 = .ok (.invokevirtual 213, 3) := by decide +kernel
theorem dX5_undo_112 : decode cX5_undo 112 = .ok (.invokevirtual 194, 3) := by decide +kernel
theorem dX5_undo_115 : decode cX5_undo 115 = .ok (.aload_n 0, 1) := by decide +kernel
theorem dX5_undo_116 : decode cX5_undo 116 = .ok (.getfield 30, 3) := by decide +kernel
theorem dX5_undo_119 : decode cX5_undo 119 = .ok (.iload_n 1, 1) := by decide +kernel
theorem dX5_undo_120 : decode cX5_undo 120 = .ok (.iload 4, 2) := by decide +kernel
theorem dX5_undo_122 : decode cX5_undo 122 = .ok (.invokevirtual 216, 3) := by decide +kernel
theorem dX5_undo_125 : decode cX5_undo 125 = .ok (.iload 4, 2) := by decide +kernel
theorem dX5_undo_127 : decode cX5_undo 127 = .ok (.ireturn, 1) := by decide +kernel
set_option maxRecDepth 20000 in
theorem ggX5_reset_X5_checkProcedure : GoodIn wsX5_reset wsX5_checkProcedure := goodIn_ca (goodIn_r _ [6, 7, 8, 1, 9, 10, 11, 12, 13, 14, 92, 93, 94, 95, 96, 97, 98, 99, 100, 101, 102, 103, 104, 105, 106, 107, 108] (by decide +kernel) (by decide +kernel)) (goodIn_sub (fun _ h => List.mem_cons_of_mem _ (List.mem_append_left _ (List.mem_append_left _ (List.mem_append_right _ h)))) (by decide +kernel))
set_option maxRecDepth 20000 in
theorem gX5_reset_X5_checkProcedure : GoodIn wsX5_reset (wsV RX5 140 RX5 yX5_checkProcedure wsX5_checkProcedure) := goodIn_app (goodIn_of _ (by decide +kernel)) ggX5_reset_X5_checkProcedure
set_option maxRecDepth 20000 in
theorem ggX5_reset_X5_checkAtWork : GoodIn wsX5_reset wsX5_checkAtWork := goodIn_ca (goodIn_r _ [18, 19, 20, 21, 22, 23, 24, 25, 26, 27, 28, 92, 93, 94, 95, 96, 97, 98, 109, 110, 111, 112] (by decide +kernel) (by decide +kernel)) (goodIn_sub (fun _ h => List.mem_cons_of_mem _ (List.mem_append_left _ (List.mem_append_right _ h))) (by decide +kernel))
set_option maxRecDepth 20000 in
theorem gX5_reset_X5_checkAtWork : GoodIn wsX5_reset (wsV RX5 205 RX5 yX5_checkAtWork wsX5_checkAtWork) := goodIn_app (goodIn_of _ (by decide +kernel)) ggX5_reset_X5_checkAtWork
set_option maxRecDepth 20000 in
theorem ggX5_reset_X4_markNoneDone : GoodIn wsX5_reset wsX4_markNoneDone := goodIn_ca (goodIn_r _ [32, 33, 34, 10, 11, 12, 13, 14, 99, 100, 101, 102, 103, 104, 105, 106, 107, 108] (by decide +kernel) (by decide +kernel)) (goodIn_sub (fun _ h => List.mem_cons_of_mem _ (List.mem_append_right _ h)) (by decide +kernel))
set_option maxRecDepth 20000 in
theorem gX5_reset_X4_markNoneDone : GoodIn wsX5_reset (wsV RX5 219 RX4 yX4_markNoneDone wsX4_markNoneDone) := goodIn_app (goodIn_of _ (by decide +kernel)) ggX5_reset_X4_markNoneDone
set_option maxRecDepth 20000 in
theorem ggX5_reset_X5_stepPlace : GoodIn wsX5_reset wsX5_stepPlace := goodIn_r _ [37] (by decide +kernel) (by decide +kernel)
set_option maxRecDepth 20000 in
theorem gX5_reset_X5_stepPlace : GoodIn wsX5_reset (va_wsS RX5 222 yX5_stepPlace wsX5_stepPlace) := goodIn_app (goodIn_of _ (by decide +kernel)) ggX5_reset_X5_stepPlace
set_option maxRecDepth 20000 in
theorem ggX5_reset_X5_closeUndoneLine : GoodIn wsX5_reset wsX5_closeUndoneLine := goodIn_ca (goodIn_r _ [41, 1, 42, 43, 44, 45, 12, 46, 47, 48, 49, 50, 51, 52, 53, 54, 55, 5, 56, 57, 58, 59, 60, 61, 34, 10, 11, 13, 14, 62, 63, 64, 65, 66, 67, 68, 69, 70, 71, 72, 73, 74, 75, 76, 77, 78, 79, 80, 81, 82, 83, 84, 85, 86, 87, 88, 89, 90, 91, 92, 93, 94, 95, 96, 97, 98, 99, 100, 101, 102, 103, 104, 105, 106, 107, 108, 113, 114, 115, 116, 117, 118, 119, 120, 121] (by decide +kernel) (by decide +kernel)) (goodIn_sub (fun _ h => List.mem_cons_of_mem _ (List.mem_append_right _ h)) (by decide +kernel))
set_option maxRecDepth 20000 in
theorem gX5_reset_X5_closeUndoneLine : GoodIn wsX5_reset (wsV RX5 197 RX5 yX5_closeUndoneLine wsX5_closeUndoneLine) := goodIn_app (goodIn_of _ (by decide +kernel)) ggX5_reset_X5_closeUndoneLine
theorem dX5_reset_0 : decode cX5_reset 0 = .ok (.aload_n 0, 1) := by decide +kernel
theorem dX5_reset_1 : decode cX5_reset 1 = .ok (.iload_n 1, 1) := by decide +kernel
theorem dX5_reset_2 : decode cX5_reset 2 = .ok (.invokevirtual 140, 3) := by decide +kernel
theorem dX5_reset_5 : decode cX5_reset 5 = .ok (.aload_n 0, 1) := by decide +kernel
theorem dX5_reset_6 : decode cX5_reset 6 = .ok (.invokevirtual 205, 3) := by decide +kernel
theorem dX5_reset_9 : decode cX5_reset 9 = .ok (.aload_n 0, 1) := by decide +kernel
theorem dX5_reset_10 : decode cX5_reset 10 = .ok (.getfield 30, 3) := by decide +kernel
theorem dX5_reset_13 : decode cX5_reset 13 = .ok (.iload_n 1, 1) := by decide +kernel
theorem dX5_reset_14 : decode cX5_reset 14 = .ok (.invokevirtual 219, 3) := by decide +kernel
theorem dX5_reset_17 : decode cX5_reset 17 = .ok (.iconst 0, 1) := by decide +kernel
theorem dX5_reset_18 : decode cX5_reset 18 = .ok (.istore_n 2, 1) := by decide +kernel
theorem dX5_reset_19 : decode cX5_reset 19 = .ok (.iconst 0, 1) := by decide +kernel
theorem dX5_reset_20 : decode cX5_reset 20 = .ok (.istore_n 3, 1) := by decide +kernel
theorem dX5_reset_21 : decode cX5_reset 21 = .ok (.iload_n 3, 1) := by decide +kernel
theorem dX5_reset_22 : decode cX5_reset 22 = .ok (.bipush 8, 2) := by decide +kernel
theorem dX5_reset_24 : decode cX5_reset 24 = .ok (.if_icmp .ge 24, 3) := by decide +kernel
theorem dX5_reset_27 : decode cX5_reset 27 = .ok (.aload_n 0, 1) := by decide +kernel
theorem dX5_reset_28 : decode cX5_reset 28 = .ok (.iload_n 1, 1) := by decide +kernel
theorem dX5_reset_29 : decode cX5_reset 29 = .ok (.iload_n 3, 1) := by decide +kernel
theorem dX5_reset_30 : decode cX5_reset 30 = .ok (.invokestatic 222, 3) := by decide +kernel
theorem dX5_reset_33 : decode cX5_reset 33 = .ok (.invokevirtual 197, 3) := by decide +kernel
theorem dX5_reset_36 : decode cX5_reset 36 = .ok (.ifCond .eq 6, 3) := by decide +kernel
theorem dX5_reset_39 : decode cX5_reset 39 = .ok (.iinc 2 1, 3) := by decide +kernel
theorem dX5_reset_42 : decode cX5_reset 42 = .ok (.iinc 3 1, 3) := by decide +kernel
theorem dX5_reset_45 : decode cX5_reset 45 = .ok (.goto (-24), 3) := by decide +kernel
theorem dX5_reset_48 : decode cX5_reset 48 = .ok (.iload_n 2, 1) := by decide +kernel
theorem dX5_reset_49 : decode cX5_reset 49 = .ok (.ireturn, 1) := by decide +kernel
set_option maxRecDepth 20000 in
theorem ggX5_drill_X4_longestNotTaken : GoodIn wsX5_drill wsX4_longestNotTaken := goodIn_ca (goodIn_r _ [8, 9, 10, 11, 12, 7, 13, 14, 15, 16, 17, 18, 19, 20, 21, 22, 23, 24, 25, 26, 27, 28, 29, 37, 38, 39, 40, 41, 42, 43, 44, 45, 46] (by decide +kernel) (by decide +kernel)) (goodIn_sub (fun _ h => List.mem_cons_of_mem _ (List.mem_append_right _ h)) (by decide +kernel))
set_option maxRecDepth 20000 in
theorem gX5_drill_X4_longestNotTaken : GoodIn wsX5_drill (wsV RX5 225 RX4 yX4_longestNotTaken wsX4_longestNotTaken) := goodIn_app (goodIn_of _ (by decide +kernel)) ggX5_drill_X4_longestNotTaken
theorem dX5_drill_0 : decode cX5_drill 0 = .ok (.aload_n 0, 1) := by decide +kernel
theorem dX5_drill_1 : decode cX5_drill 1 = .ok (.getfield 30, 3) := by decide +kernel
theorem dX5_drill_4 : decode cX5_drill 4 = .ok (.invokevirtual 225, 3) := by decide +kernel
theorem dX5_drill_7 : decode cX5_drill 7 = .ok (.istore_n 1, 1) := by decide +kernel
theorem dX5_drill_8 : decode cX5_drill 8 = .ok (.iload_n 1, 1) := by decide +kernel
theorem dX5_drill_9 : decode cX5_drill 9 = .ok (.iconst (-1), 1) := by decide +kernel
theorem dX5_drill_10 : decode cX5_drill 10 = .ok (.if_icmp .ne 13, 3) := by decide +kernel
theorem dX5_drill_13 : decode cX5_drill 13 = .ok (.new 125, 3) := by decide +kernel
theorem dX5_drill_16 : decode cX5_drill 16 = .ok (.dup, 1) := by decide +kernel
theorem dX5_drill_17 : decode cX5_drill 17 = .ok (.ldc 228, 2) := by decide +kernel
theorem dX5_drill_19 : decode cX5_drill 19 = .ok (.invokespecial 129, 3) := by decide +kernel
theorem dX5_drill_22 : decode cX5_drill 22 = .ok (.athrow, 1) := by decide +kernel
theorem dX5_drill_23 : decode cX5_drill 23 = .ok (.iload_n 1, 1) := by decide +kernel
theorem dX5_drill_24 : decode cX5_drill 24 = .ok (.ireturn, 1) := by decide +kernel
set_option maxRecDepth 20000 in
theorem ggX5_openPermit_X5_checkAtWork : GoodIn wsX5_openPermit wsX5_checkAtWork := goodIn_ca (goodIn_r _ [15, 3, 4, 8, 16, 17, 18, 19, 20, 21, 22, 82, 83, 84, 85, 86, 87, 88, 89, 90, 91, 92] (by decide +kernel) (by decide +kernel)) (goodIn_sub (fun _ h => List.mem_cons_of_mem _ (List.mem_append_left _ (List.mem_append_left _ (List.mem_append_right _ h)))) (by decide +kernel))
set_option maxRecDepth 20000 in
theorem gX5_openPermit_X5_checkAtWork : GoodIn wsX5_openPermit (wsV RX5 205 RX5 yX5_checkAtWork wsX5_checkAtWork) := goodIn_app (goodIn_of _ (by decide +kernel)) ggX5_openPermit_X5_checkAtWork
set_option maxRecDepth 20000 in
theorem ggX5_openPermit_X3_isFull : GoodIn wsX5_openPermit wsX3_isFull := goodIn_r _ [27, 28, 93, 94, 95, 96] (by decide +kernel) (by decide +kernel)
set_option maxRecDepth 20000 in
theorem gX5_openPermit_X3_isFull : GoodIn wsX5_openPermit (wsV RX5 232 RX3 yX3_isFull wsX3_isFull) := goodIn_app (goodIn_of _ (by decide +kernel)) ggX5_openPermit_X3_isFull
set_option maxRecDepth 20000 in
theorem ggX5_openPermit_X5_checkRoomForLine : GoodIn wsX5_openPermit wsX5_checkRoomForLine := goodIn_ca (goodIn_r _ [32, 3, 4, 10, 33, 34, 35, 36, 37, 38, 82, 83, 84, 85, 86, 87, 88, 97, 98, 99, 100, 101, 102, 103, 104, 105] (by decide +kernel) (by decide +kernel)) (goodIn_sub (fun _ h => List.mem_cons_of_mem _ (List.mem_append_left _ (List.mem_append_left _ (List.mem_append_right _ h)))) (by decide +kernel))
set_option maxRecDepth 20000 in
theorem gX5_openPermit_X5_checkRoomForLine : GoodIn wsX5_openPermit (wsV RX5 78 RX5 yX5_checkRoomForLine wsX5_checkRoomForLine) := goodIn_app (goodIn_of _ (by decide +kernel)) ggX5_openPermit_X5_checkRoomForLine
set_option maxRecDepth 20000 in
theorem ggX5_openPermit_X3_firstOpenWith : GoodIn wsX5_openPermit wsX3_firstOpenWith := goodIn_ca (goodIn_r _ [42, 43, 44, 45, 46, 26, 47, 48, 49, 50, 51, 52, 28, 93, 94, 95, 96] (by decide +kernel) (by decide +kernel)) (goodIn_sub (fun _ h => List.mem_cons_of_mem _ (List.mem_append_right _ h)) (by decide +kernel))
set_option maxRecDepth 20000 in
theorem gX5_openPermit_X3_firstOpenWith : GoodIn wsX5_openPermit (wsV RX5 181 RX3 yX3_firstOpenWith wsX3_firstOpenWith) := goodIn_app (goodIn_of _ (by decide +kernel)) ggX5_openPermit_X3_firstOpenWith
set_option maxRecDepth 20000 in
theorem ggX5_openPermit_X1_isWeary : GoodIn wsX5_openPermit wsX1_isWeary := goodIn_r _ [56, 21, 57, 89, 90, 91, 92] (by decide +kernel) (by decide +kernel)
set_option maxRecDepth 20000 in
theorem gX5_openPermit_X1_isWeary : GoodIn wsX5_openPermit (wsV RX5 235 RX1 yX1_isWeary wsX1_isWeary) := goodIn_app (goodIn_of _ (by decide +kernel)) ggX5_openPermit_X1_isWeary
set_option maxRecDepth 20000 in
theorem ggX5_openPermit_X2_openLine : GoodIn wsX5_openPermit wsX2_openLine := goodIn_ca (goodIn_r _ [61, 38, 62, 63, 64, 65, 66, 34, 35, 36, 37, 67, 68, 69, 70, 71, 72, 73, 74, 75, 76, 97, 98, 99, 100, 101, 102, 103, 104, 105] (by decide +kernel) (by decide +kernel)) (goodIn_sub (fun _ h => List.mem_cons_of_mem _ (List.mem_append_right _ h)) (by decide +kernel))
set_option maxRecDepth 20000 in
theorem gX5_openPermit_X2_openLine : GoodIn wsX5_openPermit (wsV RX5 85 RX2 yX2_openLine wsX2_openLine) := goodIn_app (goodIn_of _ (by decide +kernel)) ggX5_openPermit_X2_openLine
set_option maxRecDepth 20000 in
theorem ggX5_openPermit_X3_append : GoodIn wsX5_openPermit wsX3_append := goodIn_ca (goodIn_r _ [80, 28, 43, 81, 48, 49, 50, 51, 26, 52, 93, 94, 95, 96] (by decide +kernel) (by decide +kernel)) (goodIn_sub (fun _ h => List.mem_cons_of_mem _ (List.mem_append_right _ h)) (by decide +kernel))
set_option maxRecDepth 20000 in
theorem gX5_openPermit_X3_append : GoodIn wsX5_openPermit (wsV RX5 240 RX3 yX3_append wsX3_append) := goodIn_app (goodIn_of _ (by decide +kernel)) ggX5_openPermit_X3_append
theorem dX5_openPermit_0 : decode cX5_openPermit 0 = .ok (.iload_n 1, 1) := by decide +kernel
theorem dX5_openPermit_1 : decode cX5_openPermit 1 = .ok (.iconst 1, 1) := by decide +kernel
theorem dX5_openPermit_2 : decode cX5_openPermit 2 = .ok (.if_icmp .lt 10, 3) := by decide +kernel
theorem dX5_openPermit_5 : decode cX5_openPermit 5 = .ok (.iload_n 1, 1) := by decide +kernel
theorem dX5_openPermit_6 : decode cX5_openPermit 6 = .ok (.sipush 255, 3) := by decide +kernel
theorem dX5_openPermit_9 : decode cX5_openPermit 9 = .ok (.if_icmp .le 13, 3) := by decide +kernel
theorem dX5_openPermit_12 : decode cX5_openPermit 12 = .ok (.new 105, 3) := by decide +kernel
theorem dX5_openPermit_15 : decode cX5_openPermit 15 = .ok (.dup, 1) := by decide +kernel
theorem dX5_openPermit_16 : decode cX5_openPermit 16 = .ok (.ldc 230, 2) := by decide +kernel
theorem dX5_openPermit_18 : decode cX5_openPermit 18 = .ok (.invokespecial 109, 3) := by decide +kernel
theorem dX5_openPermit_21 : decode cX5_openPermit 21 = .ok (.athrow, 1) := by decide +kernel
theorem dX5_openPermit_22 : decode cX5_openPermit 22 = .ok (.aload_n 0, 1) := by decide +kernel
theorem dX5_openPermit_23 : decode cX5_openPermit 23 = .ok (.invokevirtual 205, 3) := by decide +kernel
theorem dX5_openPermit_26 : decode cX5_openPermit 26 = .ok (.aload_n 0, 1) := by decide +kernel
theorem dX5_openPermit_27 : decode cX5_openPermit 27 = .ok (.getfield 37, 3) := by decide +kernel
theorem dX5_openPermit_30 : decode cX5_openPermit 30 = .ok (.invokevirtual 232, 3) := by decide +kernel
theorem dX5_openPermit_33 : decode cX5_openPermit 33 = .ok (.ifCond .eq 13, 3) := by decide +kernel
theorem dX5_openPermit_36 : decode cX5_openPermit 36 = .ok (.new 71, 3) := by decide +kernel
theorem dX5_openPermit_39 : decode cX5_openPermit 39 = .ok (.dup, 1) := by decide +kernel
theorem dX5_openPermit_40 : decode cX5_openPermit 40 = .ok (.ldc 233, 2) := by decide +kernel
theorem dX5_openPermit_42 : decode cX5_openPermit 42 = .ok (.invokespecial 75, 3) := by decide +kernel
theorem dX5_openPermit_45 : decode cX5_openPermit 45 = .ok (.athrow, 1) := by decide +kernel
theorem dX5_openPermit_46 : decode cX5_openPermit 46 = .ok (.aload_n 0, 1) := by decide +kernel
theorem dX5_openPermit_47 : decode cX5_openPermit 47 = .ok (.invokevirtual 78, 3) := by decide +kernel
theorem dX5_openPermit_50 : decode cX5_openPermit 50 = .ok (.aload_n 0, 1) := by decide +kernel
theorem dX5_openPermit_51 : decode cX5_openPermit 51 = .ok (.getfield 37, 3) := by decide +kernel
theorem dX5_openPermit_54 : decode cX5_openPermit 54 = .ok (.iload_n 1, 1) := by decide +kernel
theorem dX5_openPermit_55 : decode cX5_openPermit 55 = .ok (.invokevirtual 181, 3) := by decide +kernel
theorem dX5_openPermit_58 : decode cX5_openPermit 58 = .ok (.iconst (-1), 1) := by decide +kernel
theorem dX5_openPermit_59 : decode cX5_openPermit 59 = .ok (.if_icmp .ne 17, 3) := by decide +kernel
theorem dX5_openPermit_62 : decode cX5_openPermit 62 = .ok (.aload_n 0, 1) := by decide +kernel
theorem dX5_openPermit_63 : decode cX5_openPermit 63 = .ok (.getfield 44, 3) := by decide +kernel
theorem dX5_openPermit_66 : decode cX5_openPermit 66 = .ok (.aload_n 0, 1) := by decide +kernel
theorem dX5_openPermit_67 : decode cX5_openPermit 67 = .ok (.getfield 81, 3) := by decide +kernel
theorem dX5_openPermit_70 : decode cX5_openPermit 70 = .ok (.invokevirtual 235, 3) := by decide +kernel
theorem dX5_openPermit_73 : decode cX5_openPermit 73 = .ok (.ifCond .eq 13, 3) := by decide +kernel
theorem dX5_openPermit_76 : decode cX5_openPermit 76 = .ok (.new 208, 3) := by decide +kernel
theorem dX5_openPermit_79 : decode cX5_openPermit 79 = .ok (.dup, 1) := by decide +kernel
theorem dX5_openPermit_80 : decode cX5_openPermit 80 = .ok (.ldc 238, 2) := by decide +kernel
theorem dX5_openPermit_82 : decode cX5_openPermit 82 = .ok (.invokespecial 212, 3) := by decide +kernel
theorem dX5_openPermit_85 : decode cX5_openPermit 85 = .ok (.athrow, 1) := by decide +kernel
theorem dX5_openPermit_86 : decode cX5_openPermit 86 = .ok (.aload_n 0, 1) := by decide +kernel
theorem dX5_openPermit_87 : decode cX5_openPermit 87 = .ok (.getfield 37, 3) := by decide +kernel
theorem dX5_openPermit_90 : decode cX5_openPermit 90 = .ok (.iload_n 1, 1) := by decide +kernel
theorem dX5_openPermit_91 : decode cX5_openPermit 91 = .ok (.aload_n 0, 1) := by decide +kernel
theorem dX5_openPermit_92 : decode cX5_openPermit 92 = .ok (.getfield 16, 3) := by decide +kernel
theorem dX5_openPermit_95 : decode cX5_openPermit 95 = .ok (.bipush 112, 2) := by decide +kernel
theorem dX5_openPermit_97 : decode cX5_openPermit 97 = .ok (.aload_n 0, 1) := by decide +kernel
theorem dX5_openPermit_98 : decode cX5_openPermit 98 = .ok (.getfield 81, 3) := by decide +kernel
theorem dX5_openPermit_101 : decode cX5_openPermit 101 = .ok (.invokevirtual 85, 3) := by decide +kernel
theorem dX5_openPermit_104 : decode cX5_openPermit 104 = .ok (.invokevirtual 240, 3) := by decide +kernel
theorem dX5_openPermit_107 : decode cX5_openPermit 107 = .ok (.ireturn, 1) := by decide +kernel
set_option maxRecDepth 20000 in
theorem ggX5_closePermit_X5_checkPermit : GoodIn wsX5_closePermit wsX5_checkPermit := goodIn_ca (goodIn_r _ [9, 10, 11, 3, 12, 13, 14, 15, 16, 17, 67, 68, 69, 70, 71, 72, 73, 74, 75, 76, 77] (by decide +kernel) (by decide +kernel)) (goodIn_sub (fun _ h => List.mem_cons_of_mem _ (List.mem_append_left _ (List.mem_append_right _ h))) (by decide +kernel))
set_option maxRecDepth 20000 in
theorem gX5_closePermit_X5_checkPermit : GoodIn wsX5_closePermit (wsV RX5 242 RX5 yX5_checkPermit wsX5_checkPermit) := goodIn_app (goodIn_of _ (by decide +kernel)) ggX5_closePermit_X5_checkPermit
set_option maxRecDepth 20000 in
theorem ggX5_closePermit_X3_isOpen : GoodIn wsX5_closePermit wsX3_isOpen := goodIn_ca (goodIn_r _ [21, 22, 23, 13, 14, 15, 16, 17, 74, 75, 76, 77] (by decide +kernel) (by decide +kernel)) (goodIn_sub (fun _ h => List.mem_cons_of_mem _ (List.mem_append_right _ h)) (by decide +kernel))
set_option maxRecDepth 20000 in
theorem gX5_closePermit_X3_isOpen : GoodIn wsX5_closePermit (wsV RX5 245 RX3 yX3_isOpen wsX3_isOpen) := goodIn_app (goodIn_of _ (by decide +kernel)) ggX5_closePermit_X3_isOpen
set_option maxRecDepth 20000 in
theorem ggX5_closePermit_X5_checkAtWork : GoodIn wsX5_closePermit wsX5_checkAtWork := goodIn_ca (goodIn_r _ [27, 1, 2, 28, 29, 30, 31, 32, 33, 34, 35, 67, 68, 69, 70, 71, 72, 73, 78, 79, 80, 81] (by decide +kernel) (by decide +kernel)) (goodIn_sub (fun _ h => List.mem_cons_of_mem _ (List.mem_append_left _ (List.mem_append_left _ (List.mem_append_right _ h)))) (by decide +kernel))
set_option maxRecDepth 20000 in
theorem gX5_closePermit_X5_checkAtWork : GoodIn wsX5_closePermit (wsV RX5 205 RX5 yX5_checkAtWork wsX5_checkAtWork) := goodIn_app (goodIn_of _ (by decide +kernel)) ggX5_closePermit_X5_checkAtWork
set_option maxRecDepth 20000 in
theorem ggX5_closePermit_X3_lineOf : GoodIn wsX5_closePermit wsX3_lineOf := goodIn_ca (goodIn_r _ [39, 40, 23, 13, 14, 15, 16, 17, 74, 75, 76, 77] (by decide +kernel) (by decide +kernel)) (goodIn_sub (fun _ h => List.mem_cons_of_mem _ (List.mem_append_right _ h)) (by decide +kernel))
set_option maxRecDepth 20000 in
theorem gX5_closePermit_X3_lineOf : GoodIn wsX5_closePermit (wsV RX5 250 RX3 yX3_lineOf wsX3_lineOf) := goodIn_app (goodIn_of _ (by decide +kernel)) ggX5_closePermit_X3_lineOf
set_option maxRecDepth 20000 in
theorem ggX5_closePermit_X3_shut : GoodIn wsX5_closePermit wsX3_shut := goodIn_ca (goodIn_r _ [44, 22, 23, 13, 14, 15, 16, 17, 74, 75, 76, 77] (by decide +kernel) (by decide +kernel)) (goodIn_sub (fun _ h => List.mem_cons_of_mem _ (List.mem_append_right _ h)) (by decide +kernel))
set_option maxRecDepth 20000 in
theorem gX5_closePermit_X3_shut : GoodIn wsX5_closePermit (wsV RX5 251 RX3 yX3_shut wsX3_shut) := goodIn_app (goodIn_of _ (by decide +kernel)) ggX5_closePermit_X3_shut
set_option maxRecDepth 20000 in
theorem ggX5_closePermit_X2_closeLine : GoodIn wsX5_closePermit wsX2_closeLine := goodIn_ca (goodIn_r _ [49, 50, 51, 52, 53, 54, 48, 55, 56, 57, 58, 59, 60, 61, 62, 63, 64, 65, 66, 82, 83, 84, 85, 86, 87, 88, 89, 90] (by decide +kernel) (by decide +kernel)) (goodIn_sub (fun _ h => List.mem_cons_of_mem _ (List.mem_append_right _ h)) (by decide +kernel))
set_option maxRecDepth 20000 in
theorem gX5_closePermit_X2_closeLine : GoodIn wsX5_closePermit (wsV RX5 102 RX2 yX2_closeLine wsX2_closeLine) := goodIn_app (goodIn_of _ (by decide +kernel)) ggX5_closePermit_X2_closeLine
theorem dX5_closePermit_0 : decode cX5_closePermit 0 = .ok (.aload_n 0, 1) := by decide +kernel
theorem dX5_closePermit_1 : decode cX5_closePermit 1 = .ok (.iload_n 1, 1) := by decide +kernel
theorem dX5_closePermit_2 : decode cX5_closePermit 2 = .ok (.invokevirtual 242, 3) := by decide +kernel
theorem dX5_closePermit_5 : decode cX5_closePermit 5 = .ok (.aload_n 0, 1) := by decide +kernel
theorem dX5_closePermit_6 : decode cX5_closePermit 6 = .ok (.getfield 37, 3) := by decide +kernel
theorem dX5_closePermit_9 : decode cX5_closePermit 9 = .ok (.iload_n 1, 1) := by decide +kernel
theorem dX5_closePermit_10 : decode cX5_closePermit 10 = .ok (.invokevirtual 245, 3) := by decide +kernel
theorem dX5_closePermit_13 : decode cX5_closePermit 13 = .ok (.ifCond .ne 13, 3) := by decide +kernel
theorem dX5_closePermit_16 : decode cX5_closePermit 16 = .ok (.new 71, 3) := by decide +kernel
theorem dX5_closePermit_19 : decode cX5_closePermit 19 = .ok (.dup, 1) := by decide +kernel
theorem dX5_closePermit_20 : decode cX5_closePermit 20 = .ok (.ldc 248, 2) := by decide +kernel
theorem dX5_closePermit_22 : decode cX5_closePermit 22 = .ok (.invokespecial 75, 3) := by decide +kernel
theorem dX5_closePermit_25 : decode cX5_closePermit 25 = .ok (.athrow, 1) := by decide +kernel
theorem dX5_closePermit_26 : decode cX5_closePermit 26 = .ok (.aload_n 0, 1) := by decide +kernel
theorem dX5_closePermit_27 : decode cX5_closePermit 27 = .ok (.invokevirtual 205, 3) := by decide +kernel
theorem dX5_closePermit_30 : decode cX5_closePermit 30 = .ok (.aload_n 0, 1) := by decide +kernel
theorem dX5_closePermit_31 : decode cX5_closePermit 31 = .ok (.getfield 37, 3) := by decide +kernel
theorem dX5_closePermit_34 : decode cX5_closePermit 34 = .ok (.iload_n 1, 1) := by decide +kernel
theorem dX5_closePermit_35 : decode cX5_closePermit 35 = .ok (.invokevirtual 250, 3) := by decide +kernel
theorem dX5_closePermit_38 : decode cX5_closePermit 38 = .ok (.istore_n 2, 1) := by decide +kernel
theorem dX5_closePermit_39 : decode cX5_closePermit 39 = .ok (.aload_n 0, 1) := by decide +kernel
theorem dX5_closePermit_40 : decode cX5_closePermit 40 = .ok (.getfield 37, 3) := by decide +kernel
theorem dX5_closePermit_43 : decode cX5_closePermit 43 = .ok (.iload_n 1, 1) := by decide +kernel
theorem dX5_closePermit_44 : decode cX5_closePermit 44 = .ok (.invokevirtual 251, 3) := by decide +kernel
theorem dX5_closePermit_47 : decode cX5_closePermit 47 = .ok (.aload_n 0, 1) := by decide +kernel
theorem dX5_closePermit_48 : decode cX5_closePermit 48 = .ok (.getfield 16, 3) := by decide +kernel
theorem dX5_closePermit_51 : decode cX5_closePermit 51 = .ok (.iload_n 2, 1) := by decide +kernel
theorem dX5_closePermit_52 : decode cX5_closePermit 52 = .ok (.invokevirtual 102, 3) := by decide +kernel
theorem dX5_closePermit_55 : decode cX5_closePermit 55 = .ok (.iload_n 2, 1) := by decide +kernel
theorem dX5_closePermit_56 : decode cX5_closePermit 56 = .ok (.ireturn, 1) := by decide +kernel
set_option maxRecDepth 20000 in
theorem ggX5_isPermitOpen_X5_checkPermit : GoodIn wsX5_isPermitOpen wsX5_checkPermit := goodIn_ca (goodIn_r _ [6, 7, 8, 1, 9, 10, 11, 12, 13, 14, 21, 22, 23, 24, 25, 26, 27, 28, 29, 30, 31] (by decide +kernel) (by decide +kernel)) (goodIn_sub (fun _ h => List.mem_cons_of_mem _ (List.mem_append_left _ (List.mem_append_right _ h))) (by decide +kernel))
set_option maxRecDepth 20000 in
theorem gX5_isPermitOpen_X5_checkPermit : GoodIn wsX5_isPermitOpen (wsV RX5 242 RX5 yX5_checkPermit wsX5_checkPermit) := goodIn_app (goodIn_of _ (by decide +kernel)) ggX5_isPermitOpen_X5_checkPermit
set_option maxRecDepth 20000 in
theorem ggX5_isPermitOpen_X3_isOpen : GoodIn wsX5_isPermitOpen wsX3_isOpen := goodIn_ca (goodIn_r _ [18, 19, 20, 10, 11, 12, 13, 14, 28, 29, 30, 31] (by decide +kernel) (by decide +kernel)) (goodIn_sub (fun _ h => List.mem_cons_of_mem _ (List.mem_append_right _ h)) (by decide +kernel))
set_option maxRecDepth 20000 in
theorem gX5_isPermitOpen_X3_isOpen : GoodIn wsX5_isPermitOpen (wsV RX5 245 RX3 yX3_isOpen wsX3_isOpen) := goodIn_app (goodIn_of _ (by decide +kernel)) ggX5_isPermitOpen_X3_isOpen
theorem dX5_isPermitOpen_0 : decode cX5_isPermitOpen 0 = .ok (.aload_n 0, 1) := by decide +kernel
theorem dX5_isPermitOpen_1 : decode cX5_isPermitOpen 1 = .ok (.iload_n 1, 1) := by decide +kernel
theorem dX5_isPermitOpen_2 : decode cX5_isPermitOpen 2 = .ok (.invokevirtual 242, 3) := by decide +kernel
theorem dX5_isPermitOpen_5 : decode cX5_isPermitOpen 5 = .ok (.aload_n 0, 1) := by decide +kernel
theorem dX5_isPermitOpen_6 : decode cX5_isPermitOpen 6 = .ok (.getfield 37, 3) := by decide +kernel
theorem dX5_isPermitOpen_9 : decode cX5_isPermitOpen 9 = .ok (.iload_n 1, 1) := by decide +kernel
theorem dX5_isPermitOpen_10 : decode cX5_isPermitOpen 10 = .ok (.invokevirtual 245, 3) := by decide +kernel
theorem dX5_isPermitOpen_13 : decode cX5_isPermitOpen 13 = .ok (.ireturn, 1) := by decide +kernel
set_option maxRecDepth 20000 in
theorem ggX5_note_X5_checkRoomForLine : GoodIn wsX5_note wsX5_checkRoomForLine := goodIn_ca (goodIn_r _ [7, 8, 9, 1, 10, 11, 12, 13, 14, 15, 35, 36, 37, 38, 39, 40, 41, 42, 43, 44, 45, 46, 47, 48, 49, 50] (by decide +kernel) (by decide +kernel)) (goodIn_sub (fun _ h => List.mem_cons_of_mem _ (List.mem_append_left _ (List.mem_append_right _ h))) (by decide +kernel))
set_option maxRecDepth 20000 in
theorem gX5_note_X5_checkRoomForLine : GoodIn wsX5_note (wsV RX5 78 RX5 yX5_checkRoomForLine wsX5_checkRoomForLine) := goodIn_app (goodIn_of _ (by decide +kernel)) ggX5_note_X5_checkRoomForLine
set_option maxRecDepth 20000 in
theorem ggX5_note_X2_openLine : GoodIn wsX5_note wsX2_openLine := goodIn_ca (goodIn_r _ [19, 15, 20, 21, 22, 23, 24, 11, 12, 13, 14, 25, 26, 27, 28, 29, 30, 31, 32, 33, 34, 42, 43, 44, 45, 46, 47, 48, 49, 50] (by decide +kernel) (by decide +kernel)) (goodIn_sub (fun _ h => List.mem_cons_of_mem _ (List.mem_append_right _ h)) (by decide +kernel))
set_option maxRecDepth 20000 in
theorem gX5_note_X2_openLine : GoodIn wsX5_note (wsV RX5 85 RX2 yX2_openLine wsX2_openLine) := goodIn_app (goodIn_of _ (by decide +kernel)) ggX5_note_X2_openLine
theorem dX5_note_0 : decode cX5_note 0 = .ok (.aload_n 0, 1) := by decide +kernel
theorem dX5_note_1 : decode cX5_note 1 = .ok (.invokevirtual 78, 3) := by decide +kernel
theorem dX5_note_4 : decode cX5_note 4 = .ok (.aload_n 0, 1) := by decide +kernel
theorem dX5_note_5 : decode cX5_note 5 = .ok (.getfield 16, 3) := by decide +kernel
theorem dX5_note_8 : decode cX5_note 8 = .ok (.bipush 110, 2) := by decide +kernel
theorem dX5_note_10 : decode cX5_note 10 = .ok (.aload_n 0, 1) := by decide +kernel
theorem dX5_note_11 : decode cX5_note 11 = .ok (.getfield 81, 3) := by decide +kernel
theorem dX5_note_14 : decode cX5_note 14 = .ok (.invokevirtual 85, 3) := by decide +kernel
theorem dX5_note_17 : decode cX5_note 17 = .ok (.ireturn, 1) := by decide +kernel
set_option maxRecDepth 20000 in
theorem ggX5_close_X5_checkLine : GoodIn wsX5_close wsX5_checkLine := goodIn_ca (goodIn_r _ [10, 11, 12, 5, 13, 14, 15, 16, 17, 18, 46, 47, 48, 49, 50, 51, 52, 53, 54, 55, 56, 57, 58, 59, 60, 61] (by decide +kernel) (by decide +kernel)) (goodIn_sub (fun _ h => List.mem_cons_of_mem _ (List.mem_append_left _ (List.mem_append_right _ h))) (by decide +kernel))
set_option maxRecDepth 20000 in
theorem gX5_close_X5_checkLine : GoodIn wsX5_close (wsV RX5 254 RX5 yX5_checkLine wsX5_checkLine) := goodIn_app (goodIn_of _ (by decide +kernel)) ggX5_close_X5_checkLine
set_option maxRecDepth 20000 in
theorem ggX5_close_X2_kindAt : GoodIn wsX5_close wsX2_kindAt := goodIn_ca (goodIn_r _ [22, 23, 24, 14, 15, 16, 17, 18, 53, 54, 55, 56, 57, 58, 59, 60, 61] (by decide +kernel) (by decide +kernel)) (goodIn_sub (fun _ h => List.mem_cons_of_mem _ (List.mem_append_right _ h)) (by decide +kernel))
set_option maxRecDepth 20000 in
theorem gX5_close_X2_kindAt : GoodIn wsX5_close (wsV RX5 257 RX2 yX2_kindAt wsX2_kindAt) := goodIn_app (goodIn_of _ (by decide +kernel)) ggX5_close_X2_kindAt
set_option maxRecDepth 20000 in
theorem ggX5_close_X2_isOpen : GoodIn wsX5_close wsX2_isOpen := goodIn_ca (goodIn_r _ [28, 29, 24, 14, 15, 16, 17, 18, 53, 54, 55, 56, 57, 58, 59, 60, 61] (by decide +kernel) (by decide +kernel)) (goodIn_sub (fun _ h => List.mem_cons_of_mem _ (List.mem_append_right _ h)) (by decide +kernel))
set_option maxRecDepth 20000 in
theorem gX5_close_X2_isOpen : GoodIn wsX5_close (wsV RX5 262 RX2 yX2_isOpen wsX2_isOpen) := goodIn_app (goodIn_of _ (by decide +kernel)) ggX5_close_X2_isOpen
set_option maxRecDepth 20000 in
theorem ggX5_close_X2_closeLine : GoodIn wsX5_close wsX2_closeLine := goodIn_ca (goodIn_r _ [33, 29, 34, 35, 26, 27, 16, 28, 24, 14, 15, 17, 18, 36, 37, 38, 39, 40, 41, 53, 54, 55, 56, 57, 58, 59, 60, 61] (by decide +kernel) (by decide +kernel)) (goodIn_sub (fun _ h => List.mem_cons_of_mem _ (List.mem_append_right _ h)) (by decide +kernel))
set_option maxRecDepth 20000 in
theorem gX5_close_X2_closeLine : GoodIn wsX5_close (wsV RX5 102 RX2 yX2_closeLine wsX2_closeLine) := goodIn_app (goodIn_of _ (by decide +kernel)) ggX5_close_X2_closeLine
set_option maxRecDepth 20000 in
theorem ggX5_close_X2_openCount : GoodIn wsX5_close wsX2_openCount := goodIn_r _ [45, 34, 53, 54, 55, 56, 57, 58, 59, 60, 61] (by decide +kernel) (by decide +kernel)
set_option maxRecDepth 20000 in
theorem gX5_close_X2_openCount : GoodIn wsX5_close (wsV RX5 265 RX2 yX2_openCount wsX2_openCount) := goodIn_app (goodIn_of _ (by decide +kernel)) ggX5_close_X2_openCount
theorem dX5_close_0 : decode cX5_close 0 = .ok (.aload_n 0, 1) := by decide +kernel
theorem dX5_close_1 : decode cX5_close 1 = .ok (.iload_n 1, 1) := by decide +kernel
theorem dX5_close_2 : decode cX5_close 2 = .ok (.invokevirtual 254, 3) := by decide +kernel
theorem dX5_close_5 : decode cX5_close 5 = .ok (.aload_n 0, 1) := by decide +kernel
theorem dX5_close_6 : decode cX5_close 6 = .ok (.getfield 16, 3) := by decide +kernel
theorem dX5_close_9 : decode cX5_close 9 = .ok (.iload_n 1, 1) := by decide +kernel
theorem dX5_close_10 : decode cX5_close 10 = .ok (.invokevirtual 257, 3) := by decide +kernel
theorem dX5_close_13 : decode cX5_close 13 = .ok (.bipush 110, 2) := by decide +kernel
theorem dX5_close_15 : decode cX5_close 15 = .ok (.if_icmp .eq 14, 3) := by decide +kernel
theorem dX5_close_18 : decode cX5_close 18 = .ok (.new 208, 3) := by decide +kernel
theorem dX5_close_21 : decode cX5_close 21 = .ok (.dup, 1) := by decide +kernel
theorem dX5_close_22 : decode cX5_close 22 = .ok (.ldc_w 260, 3) := by decide +kernel
theorem dX5_close_25 : decode cX5_close 25 = .ok (.invokespecial 212, 3) := by decide +kernel
theorem dX5_close_28 : decode cX5_close 28 = .ok (.athrow, 1) := by decide +kernel
theorem dX5_close_29 : decode cX5_close 29 = .ok (.aload_n 0, 1) := by decide +kernel
theorem dX5_close_30 : decode cX5_close 30 = .ok (.getfield 16, 3) := by decide +kernel
theorem dX5_close_33 : decode cX5_close 33 = .ok (.iload_n 1, 1) := by decide +kernel
theorem dX5_close_34 : decode cX5_close 34 = .ok (.invokevirtual 262, 3) := by decide +kernel
theorem dX5_close_37 : decode cX5_close 37 = .ok (.ifCond .ne 14, 3) := by decide +kernel
theorem dX5_close_40 : decode cX5_close 40 = .ok (.new 71, 3) := by decide +kernel
theorem dX5_close_43 : decode cX5_close 43 = .ok (.dup, 1) := by decide +kernel
theorem dX5_close_44 : decode cX5_close 44 = .ok (.ldc_w 263, 3) := by decide +kernel
theorem dX5_close_47 : decode cX5_close 47 = .ok (.invokespecial 75, 3) := by decide +kernel
theorem dX5_close_50 : decode cX5_close 50 = .ok (.athrow, 1) := by decide +kernel
theorem dX5_close_51 : decode cX5_close 51 = .ok (.aload_n 0, 1) := by decide +kernel
theorem dX5_close_52 : decode cX5_close 52 = .ok (.getfield 16, 3) := by decide +kernel
theorem dX5_close_55 : decode cX5_close 55 = .ok (.iload_n 1, 1) := by decide +kernel
theorem dX5_close_56 : decode cX5_close 56 = .ok (.invokevirtual 102, 3) := by decide +kernel
theorem dX5_close_59 : decode cX5_close 59 = .ok (.aload_n 0, 1) := by decide +kernel
theorem dX5_close_60 : decode cX5_close 60 = .ok (.getfield 16, 3) := by decide +kernel
theorem dX5_close_63 : decode cX5_close 63 = .ok (.invokevirtual 265, 3) := by decide +kernel
theorem dX5_close_66 : decode cX5_close 66 = .ok (.ireturn, 1) := by decide +kernel
set_option maxRecDepth 20000 in
theorem ggX5_begin_X5_checkCrew : GoodIn wsX5_begin wsX5_checkCrew := goodIn_ca (goodIn_r _ [8, 9, 10, 11, 12, 7, 13] (by decide +kernel) (by decide +kernel)) (goodIn_sub (fun _ h => List.mem_cons_of_mem _ (List.mem_append_right _ h)) (by decide +kernel))
set_option maxRecDepth 20000 in
theorem gX5_begin_X5_checkCrew : GoodIn wsX5_begin (va_wsS RX5 268 yX5_checkCrew wsX5_checkCrew) := goodIn_app (goodIn_of _ (by decide +kernel)) ggX5_begin_X5_checkCrew
set_option maxRecDepth 20000 in
theorem ggX5_begin_X1_crewOnDuty : GoodIn wsX5_begin wsX1_crewOnDuty := goodIn_r _ [18, 19, 32, 33, 34, 35] (by decide +kernel) (by decide +kernel)
set_option maxRecDepth 20000 in
theorem gX5_begin_X1_crewOnDuty : GoodIn wsX5_begin (wsV RX5 271 RX1 yX1_crewOnDuty wsX1_crewOnDuty) := goodIn_app (goodIn_of _ (by decide +kernel)) ggX5_begin_X1_crewOnDuty
set_option maxRecDepth 20000 in
theorem ggX5_begin_X1_startShift : GoodIn wsX5_begin wsX1_startShift := goodIn_r _ [23, 19, 24, 32, 33, 34, 35] (by decide +kernel) (by decide +kernel)
set_option maxRecDepth 20000 in
theorem gX5_begin_X1_startShift : GoodIn wsX5_begin (wsV RX5 276 RX1 yX1_startShift wsX1_startShift) := goodIn_app (goodIn_of _ (by decide +kernel)) ggX5_begin_X1_startShift
theorem dX5_begin_0 : decode cX5_begin 0 = .ok (.iload_n 1, 1) := by decide +kernel
theorem dX5_begin_1 : decode cX5_begin 1 = .ok (.invokestatic 268, 3) := by decide +kernel
theorem dX5_begin_4 : decode cX5_begin 4 = .ok (.aload_n 0, 1) := by decide +kernel
theorem dX5_begin_5 : decode cX5_begin 5 = .ok (.getfield 44, 3) := by decide +kernel
theorem dX5_begin_8 : decode cX5_begin 8 = .ok (.invokevirtual 271, 3) := by decide +kernel
theorem dX5_begin_11 : decode cX5_begin 11 = .ok (.iconst (-1), 1) := by decide +kernel
theorem dX5_begin_12 : decode cX5_begin 12 = .ok (.if_icmp .eq 14, 3) := by decide +kernel
theorem dX5_begin_15 : decode cX5_begin 15 = .ok (.new 71, 3) := by decide +kernel
theorem dX5_begin_18 : decode cX5_begin 18 = .ok (.dup, 1) := by decide +kernel
theorem dX5_begin_19 : decode cX5_begin 19 = .ok (.ldc_w 274, 3) := by decide +kernel
theorem dX5_begin_22 : decode cX5_begin 22 = .ok (.invokespecial 75, 3) := by decide +kernel
theorem dX5_begin_25 : decode cX5_begin 25 = .ok (.athrow, 1) := by decide +kernel
theorem dX5_begin_26 : decode cX5_begin 26 = .ok (.aload_n 0, 1) := by decide +kernel
theorem dX5_begin_27 : decode cX5_begin 27 = .ok (.getfield 44, 3) := by decide +kernel
theorem dX5_begin_30 : decode cX5_begin 30 = .ok (.iload_n 1, 1) := by decide +kernel
theorem dX5_begin_31 : decode cX5_begin 31 = .ok (.aload_n 0, 1) := by decide +kernel
theorem dX5_begin_32 : decode cX5_begin 32 = .ok (.getfield 81, 3) := by decide +kernel
theorem dX5_begin_35 : decode cX5_begin 35 = .ok (.invokevirtual 276, 3) := by decide +kernel
theorem dX5_begin_38 : decode cX5_begin 38 = .ok (.aload_n 0, 1) := by decide +kernel
theorem dX5_begin_39 : decode cX5_begin 39 = .ok (.getfield 81, 3) := by decide +kernel
theorem dX5_begin_42 : decode cX5_begin 42 = .ok (.ireturn, 1) := by decide +kernel
set_option maxRecDepth 20000 in
theorem ggX5_handOver_X5_checkCrew : GoodIn wsX5_handOver wsX5_checkCrew := goodIn_ca (goodIn_r _ [11, 12, 13, 14, 15, 10, 16] (by decide +kernel) (by decide +kernel)) (goodIn_sub (fun _ h => List.mem_cons_of_mem _ (List.mem_append_left _ (List.mem_append_right _ h))) (by decide +kernel))
set_option maxRecDepth 20000 in
theorem gX5_handOver_X5_checkCrew : GoodIn wsX5_handOver (va_wsS RX5 268 yX5_checkCrew wsX5_checkCrew) := goodIn_app (goodIn_of _ (by decide +kernel)) ggX5_handOver_X5_checkCrew
set_option maxRecDepth 20000 in
theorem ggX5_handOver_X5_checkAtWork : GoodIn wsX5_handOver wsX5_checkAtWork := goodIn_ca (goodIn_r _ [20, 1, 2, 5, 21, 22, 23, 24, 25, 26, 27, 52, 53, 54, 55, 56, 57, 58, 59, 60, 61, 62] (by decide +kernel) (by decide +kernel)) (goodIn_sub (fun _ h => List.mem_cons_of_mem _ (List.mem_append_left _ (List.mem_append_left _ (List.mem_append_left _ (List.mem_append_right _ h))))) (by decide +kernel))
set_option maxRecDepth 20000 in
theorem gX5_handOver_X5_checkAtWork : GoodIn wsX5_handOver (wsV RX5 205 RX5 yX5_checkAtWork wsX5_checkAtWork) := goodIn_app (goodIn_of _ (by decide +kernel)) ggX5_handOver_X5_checkAtWork
set_option maxRecDepth 20000 in
theorem ggX5_handOver_X1_crewOnDuty : GoodIn wsX5_handOver wsX1_crewOnDuty := goodIn_r _ [31, 26, 59, 60, 61, 62] (by decide +kernel) (by decide +kernel)
set_option maxRecDepth 20000 in
theorem gX5_handOver_X1_crewOnDuty : GoodIn wsX5_handOver (wsV RX5 271 RX1 yX1_crewOnDuty wsX1_crewOnDuty) := goodIn_app (goodIn_of _ (by decide +kernel)) ggX5_handOver_X1_crewOnDuty
set_option maxRecDepth 20000 in
theorem ggX5_handOver_X1_restOf : GoodIn wsX5_handOver wsX1_restOf := goodIn_ca (goodIn_r _ [35, 36, 15, 10, 16, 59, 60, 61, 62] (by decide +kernel) (by decide +kernel)) (goodIn_sub (fun _ h => List.mem_cons_of_mem _ (List.mem_append_right _ h)) (by decide +kernel))
set_option maxRecDepth 20000 in
theorem gX5_handOver_X1_restOf : GoodIn wsX5_handOver (wsV RX5 281 RX1 yX1_restOf wsX1_restOf) := goodIn_app (goodIn_of _ (by decide +kernel)) ggX5_handOver_X1_restOf
set_option maxRecDepth 20000 in
theorem ggX5_handOver_X1_startHandOver : GoodIn wsX5_handOver wsX1_startHandOver := goodIn_r _ [40, 27, 59, 60, 61, 62] (by decide +kernel) (by decide +kernel)
set_option maxRecDepth 20000 in
theorem gX5_handOver_X1_startHandOver : GoodIn wsX5_handOver (wsV RX5 286 RX1 yX1_startHandOver wsX1_startHandOver) := goodIn_app (goodIn_of _ (by decide +kernel)) ggX5_handOver_X1_startHandOver
set_option maxRecDepth 20000 in
theorem ggX5_handOver_X2_forgetAcknowledged : GoodIn wsX5_handOver wsX2_forgetAcknowledged := goodIn_ca (goodIn_r _ [45, 46, 63, 64, 65, 66, 67, 68, 69, 70, 71] (by decide +kernel) (by decide +kernel)) (goodIn_sub (fun _ h => List.mem_cons_of_mem _ (List.mem_append_right _ h)) (by decide +kernel))
set_option maxRecDepth 20000 in
theorem gX5_handOver_X2_forgetAcknowledged : GoodIn wsX5_handOver (wsV RX5 289 RX2 yX2_forgetAcknowledged wsX2_forgetAcknowledged) := goodIn_app (goodIn_of _ (by decide +kernel)) ggX5_handOver_X2_forgetAcknowledged
set_option maxRecDepth 20000 in
theorem ggX5_handOver_X2_openCount : GoodIn wsX5_handOver wsX2_openCount := goodIn_r _ [50, 51, 63, 64, 65, 66, 67, 68, 69, 70, 71] (by decide +kernel) (by decide +kernel)
set_option maxRecDepth 20000 in
theorem gX5_handOver_X2_openCount : GoodIn wsX5_handOver (wsV RX5 265 RX2 yX2_openCount wsX2_openCount) := goodIn_app (goodIn_of _ (by decide +kernel)) ggX5_handOver_X2_openCount
theorem dX5_handOver_0 : decode cX5_handOver 0 = .ok (.iload_n 1, 1) := by decide +kernel
theorem dX5_handOver_1 : decode cX5_handOver 1 = .ok (.invokestatic 268, 3) := by decide +kernel
theorem dX5_handOver_4 : decode cX5_handOver 4 = .ok (.aload_n 0, 1) := by decide +kernel
theorem dX5_handOver_5 : decode cX5_handOver 5 = .ok (.invokevirtual 205, 3) := by decide +kernel
theorem dX5_handOver_8 : decode cX5_handOver 8 = .ok (.aload_n 0, 1) := by decide +kernel
theorem dX5_handOver_9 : decode cX5_handOver 9 = .ok (.getfield 44, 3) := by decide +kernel
theorem dX5_handOver_12 : decode cX5_handOver 12 = .ok (.invokevirtual 271, 3) := by decide +kernel
theorem dX5_handOver_15 : decode cX5_handOver 15 = .ok (.iload_n 1, 1) := by decide +kernel
theorem dX5_handOver_16 : decode cX5_handOver 16 = .ok (.if_icmp .ne 14, 3) := by decide +kernel
theorem dX5_handOver_19 : decode cX5_handOver 19 = .ok (.new 71, 3) := by decide +kernel
theorem dX5_handOver_22 : decode cX5_handOver 22 = .ok (.dup, 1) := by decide +kernel
theorem dX5_handOver_23 : decode cX5_handOver 23 = .ok (.ldc_w 279, 3) := by decide +kernel
theorem dX5_handOver_26 : decode cX5_handOver 26 = .ok (.invokespecial 75, 3) := by decide +kernel
theorem dX5_handOver_29 : decode cX5_handOver 29 = .ok (.athrow, 1) := by decide +kernel
theorem dX5_handOver_30 : decode cX5_handOver 30 = .ok (.aload_n 0, 1) := by decide +kernel
theorem dX5_handOver_31 : decode cX5_handOver 31 = .ok (.getfield 44, 3) := by decide +kernel
theorem dX5_handOver_34 : decode cX5_handOver 34 = .ok (.iload_n 1, 1) := by decide +kernel
theorem dX5_handOver_35 : decode cX5_handOver 35 = .ok (.aload_n 0, 1) := by decide +kernel
theorem dX5_handOver_36 : decode cX5_handOver 36 = .ok (.getfield 81, 3) := by decide +kernel
theorem dX5_handOver_39 : decode cX5_handOver 39 = .ok (.invokevirtual 281, 3) := by decide +kernel
theorem dX5_handOver_42 : decode cX5_handOver 42 = .ok (.ifCond .le 14, 3) := by decide +kernel
theorem dX5_handOver_45 : decode cX5_handOver 45 = .ok (.new 208, 3) := by decide +kernel
theorem dX5_handOver_48 : decode cX5_handOver 48 = .ok (.dup, 1) := by decide +kernel
theorem dX5_handOver_49 : decode cX5_handOver 49 = .ok (.ldc_w 284, 3) := by decide +kernel
theorem dX5_handOver_52 : decode cX5_handOver 52 = .ok (.invokespecial 212, 3) := by decide +kernel
theorem dX5_handOver_55 : decode cX5_handOver 55 = .ok (.athrow, 1) := by decide +kernel
theorem dX5_handOver_56 : decode cX5_handOver 56 = .ok (.aload_n 0, 1) := by decide +kernel
theorem dX5_handOver_57 : decode cX5_handOver 57 = .ok (.getfield 44, 3) := by decide +kernel
theorem dX5_handOver_60 : decode cX5_handOver 60 = .ok (.iload_n 1, 1) := by decide +kernel
theorem dX5_handOver_61 : decode cX5_handOver 61 = .ok (.invokevirtual 286, 3) := by decide +kernel
theorem dX5_handOver_64 : decode cX5_handOver 64 = .ok (.aload_n 0, 1) := by decide +kernel
theorem dX5_handOver_65 : decode cX5_handOver 65 = .ok (.getfield 16, 3) := by decide +kernel
theorem dX5_handOver_68 : decode cX5_handOver 68 = .ok (.invokevirtual 289, 3) := by decide +kernel
theorem dX5_handOver_71 : decode cX5_handOver 71 = .ok (.aload_n 0, 1) := by decide +kernel
theorem dX5_handOver_72 : decode cX5_handOver 72 = .ok (.getfield 16, 3) := by decide +kernel
theorem dX5_handOver_75 : decode cX5_handOver 75 = .ok (.invokevirtual 265, 3) := by decide +kernel
theorem dX5_handOver_78 : decode cX5_handOver 78 = .ok (.ireturn, 1) := by decide +kernel
set_option maxRecDepth 20000 in
theorem ggX5_acknowledge_X5_checkLine : GoodIn wsX5_acknowledge wsX5_checkLine := goodIn_ca (goodIn_r _ [8, 9, 10, 3, 11, 12, 13, 14, 15, 16, 53, 54, 55, 56, 57, 58, 59, 60, 61, 62, 63, 64, 65, 66, 67, 68] (by decide +kernel) (by decide +kernel)) (goodIn_sub (fun _ h => List.mem_cons_of_mem _ (List.mem_append_left _ (List.mem_append_right _ h))) (by decide +kernel))
set_option maxRecDepth 20000 in
theorem gX5_acknowledge_X5_checkLine : GoodIn wsX5_acknowledge (wsV RX5 254 RX5 yX5_checkLine wsX5_checkLine) := goodIn_app (goodIn_of _ (by decide +kernel)) ggX5_acknowledge_X5_checkLine
set_option maxRecDepth 20000 in
theorem ggX5_acknowledge_X5_checkHandOver : GoodIn wsX5_acknowledge wsX5_checkHandOver := goodIn_ca (goodIn_r _ [20, 1, 2, 21, 22, 23, 24, 25, 26, 27, 53, 54, 55, 56, 57, 58, 59, 69, 70, 71, 72] (by decide +kernel) (by decide +kernel)) (goodIn_sub (fun _ h => List.mem_cons_of_mem _ (List.mem_append_left _ (List.mem_append_left _ (List.mem_append_right _ h)))) (by decide +kernel))
set_option maxRecDepth 20000 in
theorem gX5_acknowledge_X5_checkHandOver : GoodIn wsX5_acknowledge (wsV RX5 292 RX5 yX5_checkHandOver wsX5_checkHandOver) := goodIn_app (goodIn_of _ (by decide +kernel)) ggX5_acknowledge_X5_checkHandOver
set_option maxRecDepth 20000 in
theorem ggX5_acknowledge_X2_isOpen : GoodIn wsX5_acknowledge wsX2_isOpen := goodIn_ca (goodIn_r _ [31, 32, 33, 12, 13, 14, 15, 16, 60, 61, 62, 63, 64, 65, 66, 67, 68] (by decide +kernel) (by decide +kernel)) (goodIn_sub (fun _ h => List.mem_cons_of_mem _ (List.mem_append_right _ h)) (by decide +kernel))
set_option maxRecDepth 20000 in
theorem gX5_acknowledge_X2_isOpen : GoodIn wsX5_acknowledge (wsV RX5 262 RX2 yX2_isOpen wsX2_isOpen) := goodIn_app (goodIn_of _ (by decide +kernel)) ggX5_acknowledge_X2_isOpen
set_option maxRecDepth 20000 in
theorem ggX5_acknowledge_X2_isAcknowledged : GoodIn wsX5_acknowledge wsX2_isAcknowledged := goodIn_ca (goodIn_r _ [37, 38, 33, 12, 13, 14, 15, 16, 60, 61, 62, 63, 64, 65, 66, 67, 68] (by decide +kernel) (by decide +kernel)) (goodIn_sub (fun _ h => List.mem_cons_of_mem _ (List.mem_append_right _ h)) (by decide +kernel))
set_option maxRecDepth 20000 in
theorem gX5_acknowledge_X2_isAcknowledged : GoodIn wsX5_acknowledge (wsV RX5 295 RX2 yX2_isAcknowledged wsX2_isAcknowledged) := goodIn_app (goodIn_of _ (by decide +kernel)) ggX5_acknowledge_X2_isAcknowledged
set_option maxRecDepth 20000 in
theorem ggX5_acknowledge_X2_markAcknowledged : GoodIn wsX5_acknowledge wsX2_markAcknowledged := goodIn_ca (goodIn_r _ [42, 38, 33, 12, 13, 14, 15, 16, 60, 61, 62, 63, 64, 65, 66, 67, 68] (by decide +kernel) (by decide +kernel)) (goodIn_sub (fun _ h => List.mem_cons_of_mem _ (List.mem_append_right _ h)) (by decide +kernel))
set_option maxRecDepth 20000 in
theorem gX5_acknowledge_X2_markAcknowledged : GoodIn wsX5_acknowledge (wsV RX5 300 RX2 yX2_markAcknowledged wsX2_markAcknowledged) := goodIn_app (goodIn_of _ (by decide +kernel)) ggX5_acknowledge_X2_markAcknowledged
set_option maxRecDepth 20000 in
theorem ggX5_acknowledge_X2_openCount : GoodIn wsX5_acknowledge wsX2_openCount := goodIn_r _ [46, 47, 60, 61, 62, 63, 64, 65, 66, 67, 68] (by decide +kernel) (by decide +kernel)
set_option maxRecDepth 20000 in
theorem gX5_acknowledge_X2_openCount : GoodIn wsX5_acknowledge (wsV RX5 265 RX2 yX2_openCount wsX2_openCount) := goodIn_app (goodIn_of _ (by decide +kernel)) ggX5_acknowledge_X2_openCount
set_option maxRecDepth 20000 in
theorem ggX5_acknowledge_X2_acknowledgedCount : GoodIn wsX5_acknowledge wsX2_acknowledgedCount := goodIn_ca (goodIn_r _ [51, 38, 52, 29, 30, 14, 31, 32, 33, 12, 13, 15, 16, 60, 61, 62, 63, 64, 65, 66, 67, 68] (by decide +kernel) (by decide +kernel)) (goodIn_sub (fun _ h => List.mem_cons_of_mem _ (List.mem_append_right _ h)) (by decide +kernel))
set_option maxRecDepth 20000 in
theorem gX5_acknowledge_X2_acknowledgedCount : GoodIn wsX5_acknowledge (wsV RX5 303 RX2 yX2_acknowledgedCount wsX2_acknowledgedCount) := goodIn_app (goodIn_of _ (by decide +kernel)) ggX5_acknowledge_X2_acknowledgedCount
theorem dX5_acknowledge_0 : decode cX5_acknowledge 0 = .ok (.aload_n 0, 1) := by decide +kernel
theorem dX5_acknowledge_1 : decode cX5_acknowledge 1 = .ok (.iload_n 1, 1) := by decide +kernel
theorem dX5_acknowledge_2 : decode cX5_acknowledge 2 = .ok (.invokevirtual 254, 3) := by decide +kernel
theorem dX5_acknowledge_5 : decode cX5_acknowledge 5 = .ok (.aload_n 0, 1) := by decide +kernel
theorem dX5_acknowledge_6 : decode cX5_acknowledge 6 = .ok (.invokevirtual 292, 3) := by decide +kernel
theorem dX5_acknowledge_9 : decode cX5_acknowledge 9 = .ok (.aload_n 0, 1) := by decide +kernel
theorem dX5_acknowledge_10 : decode cX5_acknowledge 10 = .ok (.getfield 16, 3) := by decide +kernel
theorem dX5_acknowledge_13 : decode cX5_acknowledge 13 = .ok (.iload_n 1, 1) := by decide +kernel
theorem dX5_acknowledge_14 : decode cX5_acknowledge 14 = .ok (.invokevirtual 262, 3) := by decide +kernel
theorem dX5_acknowledge_17 : decode cX5_acknowledge 17 = .ok (.ifCond .eq 14, 3) := by decide +kernel
theorem dX5_acknowledge_20 : decode cX5_acknowledge 20 = .ok (.aload_n 0, 1) := by decide +kernel
theorem dX5_acknowledge_21 : decode cX5_acknowledge 21 = .ok (.getfield 16, 3) := by decide +kernel
theorem dX5_acknowledge_24 : decode cX5_acknowledge 24 = .ok (.iload_n 1, 1) := by decide +kernel
theorem dX5_acknowledge_25 : decode cX5_acknowledge 25 = .ok (.invokevirtual 295, 3) := by decide +kernel
theorem dX5_acknowledge_28 : decode cX5_acknowledge 28 = .ok (.ifCond .eq 14, 3) := by decide +kernel
theorem dX5_acknowledge_31 : decode cX5_acknowledge 31 = .ok (.new 71, 3) := by decide +kernel
theorem dX5_acknowledge_34 : decode cX5_acknowledge 34 = .ok (.dup, 1) := by decide +kernel
theorem dX5_acknowledge_35 : decode cX5_acknowledge 35 = .ok (.ldc_w 298, 3) := by decide +kernel
theorem dX5_acknowledge_38 : decode cX5_acknowledge 38 = .ok (.invokespecial 75, 3) := by decide +kernel
theorem dX5_acknowledge_41 : decode cX5_acknowledge 41 = .ok (.athrow, 1) := by decide +kernel
theorem dX5_acknowledge_42 : decode cX5_acknowledge 42 = .ok (.aload_n 0, 1) := by decide +kernel
theorem dX5_acknowledge_43 : decode cX5_acknowledge 43 = .ok (.getfield 16, 3) := by decide +kernel
theorem dX5_acknowledge_46 : decode cX5_acknowledge 46 = .ok (.iload_n 1, 1) := by decide +kernel
theorem dX5_acknowledge_47 : decode cX5_acknowledge 47 = .ok (.invokevirtual 300, 3) := by decide +kernel
theorem dX5_acknowledge_50 : decode cX5_acknowledge 50 = .ok (.aload_n 0, 1) := by decide +kernel
theorem dX5_acknowledge_51 : decode cX5_acknowledge 51 = .ok (.getfield 16, 3) := by decide +kernel
theorem dX5_acknowledge_54 : decode cX5_acknowledge 54 = .ok (.invokevirtual 265, 3) := by decide +kernel
theorem dX5_acknowledge_57 : decode cX5_acknowledge 57 = .ok (.aload_n 0, 1) := by decide +kernel
theorem dX5_acknowledge_58 : decode cX5_acknowledge 58 = .ok (.getfield 16, 3) := by decide +kernel
theorem dX5_acknowledge_61 : decode cX5_acknowledge 61 = .ok (.invokevirtual 303, 3) := by decide +kernel
theorem dX5_acknowledge_64 : decode cX5_acknowledge 64 = .ok (.isub, 1) := by decide +kernel
theorem dX5_acknowledge_65 : decode cX5_acknowledge 65 = .ok (.ireturn, 1) := by decide +kernel
set_option maxRecDepth 20000 in
theorem ggX5_take_X5_checkHandOver : GoodIn wsX5_take wsX5_checkHandOver := goodIn_ca (goodIn_r _ [10, 11, 12, 4, 13, 14, 15, 16, 17, 18, 62, 63, 64, 65, 66, 67, 68, 69, 70, 71, 72] (by decide +kernel) (by decide +kernel)) (goodIn_sub (fun _ h => List.mem_cons_of_mem _ (List.mem_append_left _ (List.mem_append_right _ h))) (by decide +kernel))
set_option maxRecDepth 20000 in
theorem gX5_take_X5_checkHandOver : GoodIn wsX5_take (wsV RX5 292 RX5 yX5_checkHandOver wsX5_checkHandOver) := goodIn_app (goodIn_of _ (by decide +kernel)) ggX5_take_X5_checkHandOver
set_option maxRecDepth 20000 in
theorem ggX5_take_X2_acknowledgedCount : GoodIn wsX5_take wsX2_acknowledgedCount := goodIn_ca (goodIn_r _ [23, 24, 25, 26, 27, 22, 28, 29, 30, 31, 32, 33, 34, 73, 74, 75, 76, 77, 78, 79, 80, 81] (by decide +kernel) (by decide +kernel)) (goodIn_sub (fun _ h => List.mem_cons_of_mem _ (List.mem_append_right _ h)) (by decide +kernel))
set_option maxRecDepth 20000 in
theorem gX5_take_X2_acknowledgedCount : GoodIn wsX5_take (wsV RX5 303 RX2 yX2_acknowledgedCount wsX2_acknowledgedCount) := goodIn_app (goodIn_of _ (by decide +kernel)) ggX5_take_X2_acknowledgedCount
set_option maxRecDepth 20000 in
theorem ggX5_take_X2_openCount : GoodIn wsX5_take wsX2_openCount := goodIn_r _ [38, 39, 73, 74, 75, 76, 77, 78, 79, 80, 81] (by decide +kernel) (by decide +kernel)
set_option maxRecDepth 20000 in
theorem gX5_take_X2_openCount : GoodIn wsX5_take (wsV RX5 265 RX2 yX2_openCount wsX2_openCount) := goodIn_app (goodIn_of _ (by decide +kernel)) ggX5_take_X2_openCount
set_option maxRecDepth 20000 in
theorem ggX5_take_X1_changeShift : GoodIn wsX5_take wsX1_changeShift := goodIn_ca (goodIn_r _ [43, 44, 45, 18, 46, 9, 47, 48, 49, 50, 16, 51, 52, 53, 54, 55, 56, 69, 70, 71, 72] (by decide +kernel) (by decide +kernel)) (goodIn_sub (fun _ h => List.mem_cons_of_mem _ (List.mem_append_right _ h)) (by decide +kernel))
set_option maxRecDepth 20000 in
theorem gX5_take_X1_changeShift : GoodIn wsX5_take (wsV RX5 308 RX1 yX1_changeShift wsX1_changeShift) := goodIn_app (goodIn_of _ (by decide +kernel)) ggX5_take_X1_changeShift
set_option maxRecDepth 20000 in
theorem ggX5_take_X2_countHandOver : GoodIn wsX5_take wsX2_countHandOver := goodIn_ca (goodIn_r _ [60, 61, 25, 26, 27, 22, 28, 29, 30, 31, 32, 33, 34, 73, 74, 75, 76, 77, 78, 79, 80, 81] (by decide +kernel) (by decide +kernel)) (goodIn_sub (fun _ h => List.mem_cons_of_mem _ (List.mem_append_right _ h)) (by decide +kernel))
set_option maxRecDepth 20000 in
theorem gX5_take_X2_countHandOver : GoodIn wsX5_take (wsV RX5 311 RX2 yX2_countHandOver wsX2_countHandOver) := goodIn_app (goodIn_of _ (by decide +kernel)) ggX5_take_X2_countHandOver
theorem dX5_take_0 : decode cX5_take 0 = .ok (.aload_n 0, 1) := by decide +kernel
theorem dX5_take_1 : decode cX5_take 1 = .ok (.invokevirtual 292, 3) := by decide +kernel
theorem dX5_take_4 : decode cX5_take 4 = .ok (.aload_n 0, 1) := by decide +kernel
theorem dX5_take_5 : decode cX5_take 5 = .ok (.getfield 16, 3) := by decide +kernel
theorem dX5_take_8 : decode cX5_take 8 = .ok (.invokevirtual 303, 3) := by decide +kernel
theorem dX5_take_11 : decode cX5_take 11 = .ok (.aload_n 0, 1) := by decide +kernel
theorem dX5_take_12 : decode cX5_take 12 = .ok (.getfield 16, 3) := by decide +kernel
theorem dX5_take_15 : decode cX5_take 15 = .ok (.invokevirtual 265, 3) := by decide +kernel
theorem dX5_take_18 : decode cX5_take 18 = .ok (.if_icmp .ge 14, 3) := by decide +kernel
theorem dX5_take_21 : decode cX5_take 21 = .ok (.new 208, 3) := by decide +kernel
theorem dX5_take_24 : decode cX5_take 24 = .ok (.dup, 1) := by decide +kernel
theorem dX5_take_25 : decode cX5_take 25 = .ok (.ldc_w 306, 3) := by decide +kernel
theorem dX5_take_28 : decode cX5_take 28 = .ok (.invokespecial 212, 3) := by decide +kernel
theorem dX5_take_31 : decode cX5_take 31 = .ok (.athrow, 1) := by decide +kernel
theorem dX5_take_32 : decode cX5_take 32 = .ok (.aload_n 0, 1) := by decide +kernel
theorem dX5_take_33 : decode cX5_take 33 = .ok (.getfield 44, 3) := by decide +kernel
theorem dX5_take_36 : decode cX5_take 36 = .ok (.aload_n 0, 1) := by decide +kernel
theorem dX5_take_37 : decode cX5_take 37 = .ok (.getfield 81, 3) := by decide +kernel
theorem dX5_take_40 : decode cX5_take 40 = .ok (.invokevirtual 308, 3) := by decide +kernel
theorem dX5_take_43 : decode cX5_take 43 = .ok (.aload_n 0, 1) := by decide +kernel
theorem dX5_take_44 : decode cX5_take 44 = .ok (.getfield 16, 3) := by decide +kernel
theorem dX5_take_47 : decode cX5_take 47 = .ok (.invokevirtual 311, 3) := by decide +kernel
theorem dX5_take_50 : decode cX5_take 50 = .ok (.aload_n 0, 1) := by decide +kernel
theorem dX5_take_51 : decode cX5_take 51 = .ok (.getfield 16, 3) := by decide +kernel
theorem dX5_take_54 : decode cX5_take 54 = .ok (.invokevirtual 265, 3) := by decide +kernel
theorem dX5_take_57 : decode cX5_take 57 = .ok (.ireturn, 1) := by decide +kernel
set_option maxRecDepth 20000 in
theorem ggX5_cancel_X5_checkHandOver : GoodIn wsX5_cancel wsX5_checkHandOver := goodIn_ca (goodIn_r _ [7, 8, 9, 1, 10, 11, 12, 13, 14, 15, 36, 37, 38, 39, 40, 41, 42, 43, 44, 45, 46] (by decide +kernel) (by decide +kernel)) (goodIn_sub (fun _ h => List.mem_cons_of_mem _ (List.mem_append_left _ (List.mem_append_right _ h))) (by decide +kernel))
set_option maxRecDepth 20000 in
theorem gX5_cancel_X5_checkHandOver : GoodIn wsX5_cancel (wsV RX5 292 RX5 yX5_checkHandOver wsX5_checkHandOver) := goodIn_app (goodIn_of _ (by decide +kernel)) ggX5_cancel_X5_checkHandOver
set_option maxRecDepth 20000 in
theorem ggX5_cancel_X1_stopHandOver : GoodIn wsX5_cancel wsX1_stopHandOver := goodIn_r _ [19, 15, 43, 44, 45, 46] (by decide +kernel) (by decide +kernel)
set_option maxRecDepth 20000 in
theorem gX5_cancel_X1_stopHandOver : GoodIn wsX5_cancel (wsV RX5 314 RX1 yX1_stopHandOver wsX1_stopHandOver) := goodIn_app (goodIn_of _ (by decide +kernel)) ggX5_cancel_X1_stopHandOver
set_option maxRecDepth 20000 in
theorem ggX5_cancel_X2_acknowledgedCount : GoodIn wsX5_cancel wsX2_acknowledgedCount := goodIn_ca (goodIn_r _ [24, 25, 26, 27, 28, 23, 29, 30, 31, 32, 33, 34, 35, 47, 48, 49, 50, 51, 52, 53, 54, 55] (by decide +kernel) (by decide +kernel)) (goodIn_sub (fun _ h => List.mem_cons_of_mem _ (List.mem_append_right _ h)) (by decide +kernel))
set_option maxRecDepth 20000 in
theorem gX5_cancel_X2_acknowledgedCount : GoodIn wsX5_cancel (wsV RX5 303 RX2 yX2_acknowledgedCount wsX2_acknowledgedCount) := goodIn_app (goodIn_of _ (by decide +kernel)) ggX5_cancel_X2_acknowledgedCount
theorem dX5_cancel_0 : decode cX5_cancel 0 = .ok (.aload_n 0, 1) := by decide +kernel
theorem dX5_cancel_1 : decode cX5_cancel 1 = .ok (.invokevirtual 292, 3) := by decide +kernel
theorem dX5_cancel_4 : decode cX5_cancel 4 = .ok (.aload_n 0, 1) := by decide +kernel
theorem dX5_cancel_5 : decode cX5_cancel 5 = .ok (.getfield 44, 3) := by decide +kernel
theorem dX5_cancel_8 : decode cX5_cancel 8 = .ok (.invokevirtual 314, 3) := by decide +kernel
theorem dX5_cancel_11 : decode cX5_cancel 11 = .ok (.aload_n 0, 1) := by decide +kernel
theorem dX5_cancel_12 : decode cX5_cancel 12 = .ok (.getfield 16, 3) := by decide +kernel
theorem dX5_cancel_15 : decode cX5_cancel 15 = .ok (.invokevirtual 303, 3) := by decide +kernel
theorem dX5_cancel_18 : decode cX5_cancel 18 = .ok (.ireturn, 1) := by decide +kernel
set_option maxRecDepth 20000 in
theorem ggX5_pass_X0_countOnShelf : GoodIn wsX5_pass wsX0_countOnShelf := goodIn_ca (goodIn_r _ [9, 10, 11, 12, 8, 13, 14, 15, 16, 17, 18, 19, 20, 21, 22, 30, 31, 32] (by decide +kernel) (by decide +kernel)) (goodIn_sub (fun _ h => List.mem_cons_of_mem _ (List.mem_append_right _ h)) (by decide +kernel))
set_option maxRecDepth 20000 in
theorem gX5_pass_X0_countOnShelf : GoodIn wsX5_pass (wsV RX5 317 RX0 yX0_countOnShelf wsX0_countOnShelf) := goodIn_app (goodIn_of _ (by decide +kernel)) ggX5_pass_X0_countOnShelf
theorem dX5_pass_0 : decode cX5_pass 0 = .ok (.iload_n 1, 1) := by decide +kernel
theorem dX5_pass_1 : decode cX5_pass 1 = .ok (.iconst 1, 1) := by decide +kernel
theorem dX5_pass_2 : decode cX5_pass 2 = .ok (.if_icmp .lt 9, 3) := by decide +kernel
theorem dX5_pass_5 : decode cX5_pass 5 = .ok (.iload_n 1, 1) := by decide +kernel
theorem dX5_pass_6 : decode cX5_pass 6 = .ok (.bipush 48, 2) := by decide +kernel
theorem dX5_pass_8 : decode cX5_pass 8 = .ok (.if_icmp .le 13, 3) := by decide +kernel
theorem dX5_pass_11 : decode cX5_pass 11 = .ok (.new 105, 3) := by decide +kernel
theorem dX5_pass_14 : decode cX5_pass 14 = .ok (.dup, 1) := by decide +kernel
theorem dX5_pass_15 : decode cX5_pass 15 = .ok (.ldc 107, 2) := by decide +kernel
theorem dX5_pass_17 : decode cX5_pass 17 = .ok (.invokespecial 109, 3) := by decide +kernel
theorem dX5_pass_20 : decode cX5_pass 20 = .ok (.athrow, 1) := by decide +kernel
theorem dX5_pass_21 : decode cX5_pass 21 = .ok (.aload_n 0, 1) := by decide +kernel
theorem dX5_pass_22 : decode cX5_pass 22 = .ok (.getfield 23, 3) := by decide +kernel
theorem dX5_pass_25 : decode cX5_pass 25 = .ok (.aload_n 0, 1) := by decide +kernel
theorem dX5_pass_26 : decode cX5_pass 26 = .ok (.getfield 81, 3) := by decide +kernel
theorem dX5_pass_29 : decode cX5_pass 29 = .ok (.invokevirtual 317, 3) := by decide +kernel
theorem dX5_pass_32 : decode cX5_pass 32 = .ok (.istore_n 2, 1) := by decide +kernel
theorem dX5_pass_33 : decode cX5_pass 33 = .ok (.aload_n 0, 1) := by decide +kernel
theorem dX5_pass_34 : decode cX5_pass 34 = .ok (.dup, 1) := by decide +kernel
theorem dX5_pass_35 : decode cX5_pass 35 = .ok (.getfield 81, 3) := by decide +kernel
theorem dX5_pass_38 : decode cX5_pass 38 = .ok (.iload_n 1, 1) := by decide +kernel
theorem dX5_pass_39 : decode cX5_pass 39 = .ok (.iadd, 1) := by decide +kernel
theorem dX5_pass_40 : decode cX5_pass 40 = .ok (.putfield 81, 3) := by decide +kernel
theorem dX5_pass_43 : decode cX5_pass 43 = .ok (.iload_n 2, 1) := by decide +kernel
theorem dX5_pass_44 : decode cX5_pass 44 = .ok (.aload_n 0, 1) := by decide +kernel
theorem dX5_pass_45 : decode cX5_pass 45 = .ok (.getfield 23, 3) := by decide +kernel
theorem dX5_pass_48 : decode cX5_pass 48 = .ok (.aload_n 0, 1) := by decide +kernel
theorem dX5_pass_49 : decode cX5_pass 49 = .ok (.getfield 81, 3) := by decide +kernel
theorem dX5_pass_52 : decode cX5_pass 52 = .ok (.invokevirtual 317, 3) := by decide +kernel
theorem dX5_pass_55 : decode cX5_pass 55 = .ok (.isub, 1) := by decide +kernel
theorem dX5_pass_56 : decode cX5_pass 56 = .ok (.ireturn, 1) := by decide +kernel
theorem dX5_hour_0 : decode cX5_hour 0 = .ok (.aload_n 0, 1) := by decide +kernel
theorem dX5_hour_1 : decode cX5_hour 1 = .ok (.getfield 81, 3) := by decide +kernel
theorem dX5_hour_4 : decode cX5_hour 4 = .ok (.ireturn, 1) := by decide +kernel
set_option maxRecDepth 20000 in
theorem ggX5_onDuty_X1_crewOnDuty : GoodIn wsX5_onDuty wsX1_crewOnDuty := goodIn_r _ [8, 9, 17, 18, 19, 20] (by decide +kernel) (by decide +kernel)
set_option maxRecDepth 20000 in
theorem gX5_onDuty_X1_crewOnDuty : GoodIn wsX5_onDuty (wsV RX5 271 RX1 yX1_crewOnDuty wsX1_crewOnDuty) := goodIn_app (goodIn_of _ (by decide +kernel)) ggX5_onDuty_X1_crewOnDuty
theorem dX5_onDuty_0 : decode cX5_onDuty 0 = .ok (.aload_n 0, 1) := by decide +kernel
theorem dX5_onDuty_1 : decode cX5_onDuty 1 = .ok (.getfield 44, 3) := by decide +kernel
theorem dX5_onDuty_4 : decode cX5_onDuty 4 = .ok (.invokevirtual 271, 3) := by decide +kernel
theorem dX5_onDuty_7 : decode cX5_onDuty 7 = .ok (.istore_n 1, 1) := by decide +kernel
theorem dX5_onDuty_8 : decode cX5_onDuty 8 = .ok (.iload_n 1, 1) := by decide +kernel
theorem dX5_onDuty_9 : decode cX5_onDuty 9 = .ok (.iconst (-1), 1) := by decide +kernel
theorem dX5_onDuty_10 : decode cX5_onDuty 10 = .ok (.if_icmp .ne 14, 3) := by decide +kernel
theorem dX5_onDuty_13 : decode cX5_onDuty 13 = .ok (.new 125, 3) := by decide +kernel
theorem dX5_onDuty_16 : decode cX5_onDuty 16 = .ok (.dup, 1) := by decide +kernel
theorem dX5_onDuty_17 : decode cX5_onDuty 17 = .ok (.ldc_w 320, 3) := by decide +kernel
theorem dX5_onDuty_20 : decode cX5_onDuty 20 = .ok (.invokespecial 129, 3) := by decide +kernel
theorem dX5_onDuty_23 : decode cX5_onDuty 23 = .ok (.athrow, 1) := by decide +kernel
theorem dX5_onDuty_24 : decode cX5_onDuty 24 = .ok (.iload_n 1, 1) := by decide +kernel
theorem dX5_onDuty_25 : decode cX5_onDuty 25 = .ok (.ireturn, 1) := by decide +kernel
set_option maxRecDepth 20000 in
theorem ggX5_isTired_X1_isWeary : GoodIn wsX5_isTired wsX1_isWeary := goodIn_r _ [7, 8, 9, 17, 18, 19, 20] (by decide +kernel) (by decide +kernel)
set_option maxRecDepth 20000 in
theorem gX5_isTired_X1_isWeary : GoodIn wsX5_isTired (wsV RX5 235 RX1 yX1_isWeary wsX1_isWeary) := goodIn_app (goodIn_of _ (by decide +kernel)) ggX5_isTired_X1_isWeary
theorem dX5_isTired_0 : decode cX5_isTired 0 = .ok (.aload_n 0, 1) := by decide +kernel
theorem dX5_isTired_1 : decode cX5_isTired 1 = .ok (.getfield 44, 3) := by decide +kernel
theorem dX5_isTired_4 : decode cX5_isTired 4 = .ok (.aload_n 0, 1) := by decide +kernel
theorem dX5_isTired_5 : decode cX5_isTired 5 = .ok (.getfield 81, 3) := by decide +kernel
theorem dX5_isTired_8 : decode cX5_isTired 8 = .ok (.invokevirtual 235, 3) := by decide +kernel
theorem dX5_isTired_11 : decode cX5_isTired 11 = .ok (.ireturn, 1) := by decide +kernel
set_option maxRecDepth 20000 in
theorem ggX5_restLeft_X5_checkCrew : GoodIn wsX5_restLeft wsX5_checkCrew := goodIn_ca (goodIn_r _ [6, 7, 8, 9, 10, 5, 11] (by decide +kernel) (by decide +kernel)) (goodIn_sub (fun _ h => List.mem_cons_of_mem _ (List.mem_append_left _ (List.mem_append_right _ h))) (by decide +kernel))
set_option maxRecDepth 20000 in
theorem gX5_restLeft_X5_checkCrew : GoodIn wsX5_restLeft (va_wsS RX5 268 yX5_checkCrew wsX5_checkCrew) := goodIn_app (goodIn_of _ (by decide +kernel)) ggX5_restLeft_X5_checkCrew
set_option maxRecDepth 20000 in
theorem ggX5_restLeft_X1_restOf : GoodIn wsX5_restLeft wsX1_restOf := goodIn_ca (goodIn_r _ [16, 17, 10, 5, 11, 25, 26, 27, 28] (by decide +kernel) (by decide +kernel)) (goodIn_sub (fun _ h => List.mem_cons_of_mem _ (List.mem_append_right _ h)) (by decide +kernel))
set_option maxRecDepth 20000 in
theorem gX5_restLeft_X1_restOf : GoodIn wsX5_restLeft (wsV RX5 281 RX1 yX1_restOf wsX1_restOf) := goodIn_app (goodIn_of _ (by decide +kernel)) ggX5_restLeft_X1_restOf
theorem dX5_restLeft_0 : decode cX5_restLeft 0 = .ok (.iload_n 1, 1) := by decide +kernel
theorem dX5_restLeft_1 : decode cX5_restLeft 1 = .ok (.invokestatic 268, 3) := by decide +kernel
theorem dX5_restLeft_4 : decode cX5_restLeft 4 = .ok (.aload_n 0, 1) := by decide +kernel
theorem dX5_restLeft_5 : decode cX5_restLeft 5 = .ok (.getfield 44, 3) := by decide +kernel
theorem dX5_restLeft_8 : decode cX5_restLeft 8 = .ok (.iload_n 1, 1) := by decide +kernel
theorem dX5_restLeft_9 : decode cX5_restLeft 9 = .ok (.aload_n 0, 1) := by decide +kernel
theorem dX5_restLeft_10 : decode cX5_restLeft 10 = .ok (.getfield 81, 3) := by decide +kernel
theorem dX5_restLeft_13 : decode cX5_restLeft 13 = .ok (.invokevirtual 281, 3) := by decide +kernel
theorem dX5_restLeft_16 : decode cX5_restLeft 16 = .ok (.ireturn, 1) := by decide +kernel
set_option maxRecDepth 20000 in
theorem ggX5_openLines_X2_openCount : GoodIn wsX5_openLines wsX2_openCount := goodIn_r _ [6, 7, 15, 16, 17, 18, 19, 20, 21, 22, 23] (by decide +kernel) (by decide +kernel)
set_option maxRecDepth 20000 in
theorem gX5_openLines_X2_openCount : GoodIn wsX5_openLines (wsV RX5 265 RX2 yX2_openCount wsX2_openCount) := goodIn_app (goodIn_of _ (by decide +kernel)) ggX5_openLines_X2_openCount
theorem dX5_openLines_0 : decode cX5_openLines 0 = .ok (.aload_n 0, 1) := by decide +kernel
theorem dX5_openLines_1 : decode cX5_openLines 1 = .ok (.getfield 16, 3) := by decide +kernel
theorem dX5_openLines_4 : decode cX5_openLines 4 = .ok (.invokevirtual 265, 3) := by decide +kernel
theorem dX5_openLines_7 : decode cX5_openLines 7 = .ok (.ireturn, 1) := by decide +kernel
set_option maxRecDepth 20000 in
theorem ggX5_openByLog_X2_openCountByEntries : GoodIn wsX5_openByLog wsX2_openCountByEntries := goodIn_ca (goodIn_r _ [6, 7, 8, 16, 17, 18, 19, 20, 21, 22, 23, 24] (by decide +kernel) (by decide +kernel)) (goodIn_sub (fun _ h => List.mem_cons_of_mem _ (List.mem_append_right _ h)) (by decide +kernel))
set_option maxRecDepth 20000 in
theorem gX5_openByLog_X2_openCountByEntries : GoodIn wsX5_openByLog (wsV RX5 322 RX2 yX2_openCountByEntries wsX2_openCountByEntries) := goodIn_app (goodIn_of _ (by decide +kernel)) ggX5_openByLog_X2_openCountByEntries
theorem dX5_openByLog_0 : decode cX5_openByLog 0 = .ok (.aload_n 0, 1) := by decide +kernel
theorem dX5_openByLog_1 : decode cX5_openByLog 1 = .ok (.getfield 16, 3) := by decide +kernel
theorem dX5_openByLog_4 : decode cX5_openByLog 4 = .ok (.invokevirtual 322, 3) := by decide +kernel
theorem dX5_openByLog_7 : decode cX5_openByLog 7 = .ok (.ireturn, 1) := by decide +kernel
set_option maxRecDepth 20000 in
theorem ggX5_openAt_X2_openLineAt : GoodIn wsX5_openAt wsX2_openLineAt := goodIn_ca (goodIn_r _ [8, 9, 10, 11, 7, 12, 13, 14, 15, 16, 17, 18, 26, 27, 28, 29, 30, 31, 32, 33, 34] (by decide +kernel) (by decide +kernel)) (goodIn_sub (fun _ h => List.mem_cons_of_mem _ (List.mem_append_right _ h)) (by decide +kernel))
set_option maxRecDepth 20000 in
theorem gX5_openAt_X2_openLineAt : GoodIn wsX5_openAt (wsV RX5 325 RX2 yX2_openLineAt wsX2_openLineAt) := goodIn_app (goodIn_of _ (by decide +kernel)) ggX5_openAt_X2_openLineAt
theorem dX5_openAt_0 : decode cX5_openAt 0 = .ok (.aload_n 0, 1) := by decide +kernel
theorem dX5_openAt_1 : decode cX5_openAt 1 = .ok (.getfield 16, 3) := by decide +kernel
theorem dX5_openAt_4 : decode cX5_openAt 4 = .ok (.iload_n 1, 1) := by decide +kernel
theorem dX5_openAt_5 : decode cX5_openAt 5 = .ok (.invokevirtual 325, 3) := by decide +kernel
theorem dX5_openAt_8 : decode cX5_openAt 8 = .ok (.istore_n 2, 1) := by decide +kernel
theorem dX5_openAt_9 : decode cX5_openAt 9 = .ok (.iload_n 2, 1) := by decide +kernel
theorem dX5_openAt_10 : decode cX5_openAt 10 = .ok (.iconst (-1), 1) := by decide +kernel
theorem dX5_openAt_11 : decode cX5_openAt 11 = .ok (.if_icmp .ne 14, 3) := by decide +kernel
theorem dX5_openAt_14 : decode cX5_openAt 14 = .ok (.new 328, 3) := by decide +kernel
theorem dX5_openAt_17 : decode cX5_openAt 17 = .ok (.dup, 1) := by decide +kernel
theorem dX5_openAt_18 : decode cX5_openAt 18 = .ok (.ldc_w 330, 3) := by decide +kernel
theorem dX5_openAt_21 : decode cX5_openAt 21 = .ok (.invokespecial 332, 3) := by decide +kernel
theorem dX5_openAt_24 : decode cX5_openAt 24 = .ok (.athrow, 1) := by decide +kernel
theorem dX5_openAt_25 : decode cX5_openAt 25 = .ok (.iload_n 2, 1) := by decide +kernel
theorem dX5_openAt_26 : decode cX5_openAt 26 = .ok (.ireturn, 1) := by decide +kernel
set_option maxRecDepth 20000 in
theorem ggX5_kindOf_X5_checkLine : GoodIn wsX5_kindOf wsX5_checkLine := goodIn_ca (goodIn_r _ [6, 7, 8, 1, 9, 10, 11, 12, 13, 14, 21, 22, 23, 24, 25, 26, 27, 28, 29, 30, 31, 32, 33, 34, 35, 36] (by decide +kernel) (by decide +kernel)) (goodIn_sub (fun _ h => List.mem_cons_of_mem _ (List.mem_append_left _ (List.mem_append_right _ h))) (by decide +kernel))
set_option maxRecDepth 20000 in
theorem gX5_kindOf_X5_checkLine : GoodIn wsX5_kindOf (wsV RX5 254 RX5 yX5_checkLine wsX5_checkLine) := goodIn_app (goodIn_of _ (by decide +kernel)) ggX5_kindOf_X5_checkLine
set_option maxRecDepth 20000 in
theorem ggX5_kindOf_X2_kindAt : GoodIn wsX5_kindOf wsX2_kindAt := goodIn_ca (goodIn_r _ [18, 19, 20, 10, 11, 12, 13, 14, 28, 29, 30, 31, 32, 33, 34, 35, 36] (by decide +kernel) (by decide +kernel)) (goodIn_sub (fun _ h => List.mem_cons_of_mem _ (List.mem_append_right _ h)) (by decide +kernel))
set_option maxRecDepth 20000 in
theorem gX5_kindOf_X2_kindAt : GoodIn wsX5_kindOf (wsV RX5 257 RX2 yX2_kindAt wsX2_kindAt) := goodIn_app (goodIn_of _ (by decide +kernel)) ggX5_kindOf_X2_kindAt
theorem dX5_kindOf_0 : decode cX5_kindOf 0 = .ok (.aload_n 0, 1) := by decide +kernel
theorem dX5_kindOf_1 : decode cX5_kindOf 1 = .ok (.iload_n 1, 1) := by decide +kernel
theorem dX5_kindOf_2 : decode cX5_kindOf 2 = .ok (.invokevirtual 254, 3) := by decide +kernel
theorem dX5_kindOf_5 : decode cX5_kindOf 5 = .ok (.aload_n 0, 1) := by decide +kernel
theorem dX5_kindOf_6 : decode cX5_kindOf 6 = .ok (.getfield 16, 3) := by decide +kernel
theorem dX5_kindOf_9 : decode cX5_kindOf 9 = .ok (.iload_n 1, 1) := by decide +kernel
theorem dX5_kindOf_10 : decode cX5_kindOf 10 = .ok (.invokevirtual 257, 3) := by decide +kernel
theorem dX5_kindOf_13 : decode cX5_kindOf 13 = .ok (.ireturn, 1) := by decide +kernel
set_option maxRecDepth 20000 in
theorem ggX5_passed_X5_checkLine : GoodIn wsX5_passed wsX5_checkLine := goodIn_ca (goodIn_r _ [6, 7, 8, 1, 9, 10, 11, 12, 13, 14, 21, 22, 23, 24, 25, 26, 27, 28, 29, 30, 31, 32, 33, 34, 35, 36] (by decide +kernel) (by decide +kernel)) (goodIn_sub (fun _ h => List.mem_cons_of_mem _ (List.mem_append_left _ (List.mem_append_right _ h))) (by decide +kernel))
set_option maxRecDepth 20000 in
theorem gX5_passed_X5_checkLine : GoodIn wsX5_passed (wsV RX5 254 RX5 yX5_checkLine wsX5_checkLine) := goodIn_app (goodIn_of _ (by decide +kernel)) ggX5_passed_X5_checkLine
set_option maxRecDepth 20000 in
theorem ggX5_passed_X2_handOversOf : GoodIn wsX5_passed wsX2_handOversOf := goodIn_ca (goodIn_r _ [18, 19, 20, 10, 11, 12, 13, 14, 28, 29, 30, 31, 32, 33, 34, 35, 36] (by decide +kernel) (by decide +kernel)) (goodIn_sub (fun _ h => List.mem_cons_of_mem _ (List.mem_append_right _ h)) (by decide +kernel))
set_option maxRecDepth 20000 in
theorem gX5_passed_X2_handOversOf : GoodIn wsX5_passed (wsV RX5 333 RX2 yX2_handOversOf wsX2_handOversOf) := goodIn_app (goodIn_of _ (by decide +kernel)) ggX5_passed_X2_handOversOf
theorem dX5_passed_0 : decode cX5_passed 0 = .ok (.aload_n 0, 1) := by decide +kernel
theorem dX5_passed_1 : decode cX5_passed 1 = .ok (.iload_n 1, 1) := by decide +kernel
theorem dX5_passed_2 : decode cX5_passed 2 = .ok (.invokevirtual 254, 3) := by decide +kernel
theorem dX5_passed_5 : decode cX5_passed 5 = .ok (.aload_n 0, 1) := by decide +kernel
theorem dX5_passed_6 : decode cX5_passed 6 = .ok (.getfield 16, 3) := by decide +kernel
theorem dX5_passed_9 : decode cX5_passed 9 = .ok (.iload_n 1, 1) := by decide +kernel
theorem dX5_passed_10 : decode cX5_passed 10 = .ok (.invokevirtual 333, 3) := by decide +kernel
theorem dX5_passed_13 : decode cX5_passed 13 = .ok (.ireturn, 1) := by decide +kernel
set_option maxRecDepth 20000 in
theorem ggX5_closedShare_X2_lineCount : GoodIn wsX5_closedShare wsX2_lineCount := goodIn_r _ [8, 9, 22, 23, 24, 25, 26, 27, 28, 29, 30] (by decide +kernel) (by decide +kernel)
set_option maxRecDepth 20000 in
theorem gX5_closedShare_X2_lineCount : GoodIn wsX5_closedShare (wsV RX5 336 RX2 yX2_lineCount wsX2_lineCount) := goodIn_app (goodIn_of _ (by decide +kernel)) ggX5_closedShare_X2_lineCount
set_option maxRecDepth 20000 in
theorem ggX5_closedShare_X2_openCount : GoodIn wsX5_closedShare wsX2_openCount := goodIn_r _ [13, 14, 22, 23, 24, 25, 26, 27, 28, 29, 30] (by decide +kernel) (by decide +kernel)
set_option maxRecDepth 20000 in
theorem gX5_closedShare_X2_openCount : GoodIn wsX5_closedShare (wsV RX5 265 RX2 yX2_openCount wsX2_openCount) := goodIn_app (goodIn_of _ (by decide +kernel)) ggX5_closedShare_X2_openCount
theorem dX5_closedShare_0 : decode cX5_closedShare 0 = .ok (.aload_n 0, 1) := by decide +kernel
theorem dX5_closedShare_1 : decode cX5_closedShare 1 = .ok (.getfield 16, 3) := by decide +kernel
theorem dX5_closedShare_4 : decode cX5_closedShare 4 = .ok (.invokevirtual 336, 3) := by decide +kernel
theorem dX5_closedShare_7 : decode cX5_closedShare 7 = .ok (.istore_n 1, 1) := by decide +kernel
theorem dX5_closedShare_8 : decode cX5_closedShare 8 = .ok (.iload_n 1, 1) := by decide +kernel
theorem dX5_closedShare_9 : decode cX5_closedShare 9 = .ok (.ifCond .ne 14, 3) := by decide +kernel
theorem dX5_closedShare_12 : decode cX5_closedShare 12 = .ok (.new 339, 3) := by decide +kernel
theorem dX5_closedShare_15 : decode cX5_closedShare 15 = .ok (.dup, 1) := by decide +kernel
theorem dX5_closedShare_16 : decode cX5_closedShare 16 = .ok (.ldc_w 341, 3) := by decide +kernel
theorem dX5_closedShare_19 : decode cX5_closedShare 19 = .ok (.invokespecial 343, 3) := by decide +kernel
theorem dX5_closedShare_22 : decode cX5_closedShare 22 = .ok (.athrow, 1) := by decide +kernel
theorem dX5_closedShare_23 : decode cX5_closedShare 23 = .ok (.iload_n 1, 1) := by decide +kernel
theorem dX5_closedShare_24 : decode cX5_closedShare 24 = .ok (.aload_n 0, 1) := by decide +kernel
theorem dX5_closedShare_25 : decode cX5_closedShare 25 = .ok (.getfield 16, 3) := by decide +kernel
theorem dX5_closedShare_28 : decode cX5_closedShare 28 = .ok (.invokevirtual 265, 3) := by decide +kernel
theorem dX5_closedShare_31 : decode cX5_closedShare 31 = .ok (.isub, 1) := by decide +kernel
theorem dX5_closedShare_32 : decode cX5_closedShare 32 = .ok (.i2f, 1) := by decide +kernel
theorem dX5_closedShare_33 : decode cX5_closedShare 33 = .ok (.iload_n 1, 1) := by decide +kernel
theorem dX5_closedShare_34 : decode cX5_closedShare 34 = .ok (.i2f, 1) := by decide +kernel
theorem dX5_closedShare_35 : decode cX5_closedShare 35 = .ok (.fdiv, 1) := by decide +kernel
theorem dX5_closedShare_36 : decode cX5_closedShare 36 = .ok (.freturn, 1) := by decide +kernel
set_option maxRecDepth 20000 in
theorem ggX5_meanAge_X2_openCount : GoodIn wsX5_meanAge wsX2_openCount := goodIn_r _ [9, 10, 33, 34, 35, 36, 37, 38, 39, 40, 41] (by decide +kernel) (by decide +kernel)
set_option maxRecDepth 20000 in
theorem gX5_meanAge_X2_openCount : GoodIn wsX5_meanAge (wsV RX5 265 RX2 yX2_openCount wsX2_openCount) := goodIn_app (goodIn_of _ (by decide +kernel)) ggX5_meanAge_X2_openCount
set_option maxRecDepth 20000 in
theorem ggX5_meanAge_X2_sumOfAges : GoodIn wsX5_meanAge wsX2_sumOfAges := goodIn_ca (goodIn_r _ [14, 15, 16, 17, 18, 8, 19, 20, 21, 22, 23, 24, 25, 33, 34, 35, 36, 37, 38, 39, 40, 41] (by decide +kernel) (by decide +kernel)) (goodIn_sub (fun _ h => List.mem_cons_of_mem _ (List.mem_append_right _ h)) (by decide +kernel))
set_option maxRecDepth 20000 in
theorem gX5_meanAge_X2_sumOfAges : GoodIn wsX5_meanAge (wsV RX5 346 RX2 yX2_sumOfAges wsX2_sumOfAges) := goodIn_app (goodIn_of _ (by decide +kernel)) ggX5_meanAge_X2_sumOfAges
theorem dX5_meanAge_0 : decode cX5_meanAge 0 = .ok (.aload_n 0, 1) := by decide +kernel
theorem dX5_meanAge_1 : decode cX5_meanAge 1 = .ok (.getfield 16, 3) := by decide +kernel
theorem dX5_meanAge_4 : decode cX5_meanAge 4 = .ok (.invokevirtual 265, 3) := by decide +kernel
theorem dX5_meanAge_7 : decode cX5_meanAge 7 = .ok (.istore_n 1, 1) := by decide +kernel
theorem dX5_meanAge_8 : decode cX5_meanAge 8 = .ok (.iload_n 1, 1) := by decide +kernel
theorem dX5_meanAge_9 : decode cX5_meanAge 9 = .ok (.ifCond .ne 14, 3) := by decide +kernel
theorem dX5_meanAge_12 : decode cX5_meanAge 12 = .ok (.new 339, 3) := by decide +kernel
theorem dX5_meanAge_15 : decode cX5_meanAge 15 = .ok (.dup, 1) := by decide +kernel
theorem dX5_meanAge_16 : decode cX5_meanAge 16 = .ok (.ldc_w 344, 3) := by decide +kernel
theorem dX5_meanAge_19 : decode cX5_meanAge 19 = .ok (.invokespecial 343, 3) := by decide +kernel
theorem dX5_meanAge_22 : decode cX5_meanAge 22 = .ok (.athrow, 1) := by decide +kernel
theorem dX5_meanAge_23 : decode cX5_meanAge 23 = .ok (.aload_n 0, 1) := by decide +kernel
theorem dX5_meanAge_24 : decode cX5_meanAge 24 = .ok (.getfield 16, 3) := by decide +kernel
theorem dX5_meanAge_27 : decode cX5_meanAge 27 = .ok (.aload_n 0, 1) := by decide +kernel
theorem dX5_meanAge_28 : decode cX5_meanAge 28 = .ok (.getfield 81, 3) := by decide +kernel
theorem dX5_meanAge_31 : decode cX5_meanAge 31 = .ok (.invokevirtual 346, 3) := by decide +kernel
theorem dX5_meanAge_34 : decode cX5_meanAge 34 = .ok (.i2d, 1) := by decide +kernel
theorem dX5_meanAge_35 : decode cX5_meanAge 35 = .ok (.iload_n 1, 1) := by decide +kernel
theorem dX5_meanAge_36 : decode cX5_meanAge 36 = .ok (.i2d, 1) := by decide +kernel
theorem dX5_meanAge_37 : decode cX5_meanAge 37 = .ok (.ddiv, 1) := by decide +kernel
theorem dX5_meanAge_38 : decode cX5_meanAge 38 = .ok (.dreturn, 1) := by decide +kernel
set_option maxRecDepth 20000 in
theorem ggX5_isSound_X2_openCount : GoodIn wsX5_isSound wsX2_openCount := goodIn_r _ [7, 8, 103, 104, 105, 106, 107, 108, 109, 110, 111] (by decide +kernel) (by decide +kernel)
set_option maxRecDepth 20000 in
theorem gX5_isSound_X2_openCount : GoodIn wsX5_isSound (wsV RX5 265 RX2 yX2_openCount wsX2_openCount) := goodIn_app (goodIn_of _ (by decide +kernel)) ggX5_isSound_X2_openCount
set_option maxRecDepth 20000 in
theorem ggX5_isSound_X2_openCountByEntries : GoodIn wsX5_isSound wsX2_openCountByEntries := goodIn_ca (goodIn_r _ [12, 13, 14, 103, 104, 105, 106, 107, 108, 109, 110, 111] (by decide +kernel) (by decide +kernel)) (goodIn_sub (fun _ h => List.mem_cons_of_mem _ (List.mem_append_right _ h)) (by decide +kernel))
set_option maxRecDepth 20000 in
theorem gX5_isSound_X2_openCountByEntries : GoodIn wsX5_isSound (wsV RX5 322 RX2 yX2_openCountByEntries wsX2_openCountByEntries) := goodIn_app (goodIn_of _ (by decide +kernel)) ggX5_isSound_X2_openCountByEntries
set_option maxRecDepth 20000 in
theorem ggX5_isSound_X3_areOpenApart : GoodIn wsX5_isSound wsX3_areOpenApart := goodIn_ca (goodIn_r _ [19, 20, 21, 22, 23, 18, 24, 25, 26, 27, 28, 29, 30, 112, 113, 114, 115] (by decide +kernel) (by decide +kernel)) (goodIn_sub (fun _ h => List.mem_cons_of_mem _ (List.mem_append_right _ h)) (by decide +kernel))
set_option maxRecDepth 20000 in
theorem gX5_isSound_X3_areOpenApart : GoodIn wsX5_isSound (wsV RX5 349 RX3 yX3_areOpenApart wsX3_areOpenApart) := goodIn_app (goodIn_of _ (by decide +kernel)) ggX5_isSound_X3_areOpenApart
set_option maxRecDepth 20000 in
theorem ggX5_isSound_X5_activeAlarmsHaveLines : GoodIn wsX5_isSound wsX5_activeAlarmsHaveLines := goodIn_ca (goodIn_r _ [35, 36, 1, 37, 38, 39, 40, 41, 42, 43, 44, 45, 46, 47, 48, 49, 50, 51, 52, 53, 54, 6, 55, 56, 57, 58, 59, 60, 61, 96, 97, 98, 99, 100, 101, 102, 116, 117, 118, 103, 104, 105, 106, 107, 108, 109, 110, 111] (by decide +kernel) (by decide +kernel)) (goodIn_sub (fun _ h => List.mem_cons_of_mem _ (List.mem_append_right _ h)) (by decide +kernel))
set_option maxRecDepth 20000 in
theorem gX5_isSound_X5_activeAlarmsHaveLines : GoodIn wsX5_isSound (wsV RX5 352 RX5 yX5_activeAlarmsHaveLines wsX5_activeAlarmsHaveLines) := goodIn_app (goodIn_of _ (by decide +kernel)) ggX5_isSound_X5_activeAlarmsHaveLines
set_option maxRecDepth 20000 in
theorem ggX5_isSound_X5_undoneStepsHaveLines : GoodIn wsX5_isSound wsX5_undoneStepsHaveLines := goodIn_ca (goodIn_r _ [65, 66, 1, 67, 68, 69, 70, 71, 72, 73, 74, 75, 76, 77, 78, 79, 80, 34, 81, 82, 83, 84, 85, 86, 87, 88, 89, 90, 91, 92, 93, 94, 95, 52, 53, 54, 6, 55, 56, 57, 58, 59, 60, 61, 96, 97, 98, 99, 100, 101, 102, 119, 120, 121, 122, 123, 124, 125, 126, 127, 128, 103, 104, 105, 106, 107, 108, 109, 110, 111] (by decide +kernel) (by decide +kernel)) (goodIn_sub (fun _ h => List.mem_cons_of_mem _ (List.mem_append_right _ h)) (by decide +kernel))
set_option maxRecDepth 20000 in
theorem gX5_isSound_X5_undoneStepsHaveLines : GoodIn wsX5_isSound (wsV RX5 355 RX5 yX5_undoneStepsHaveLines wsX5_undoneStepsHaveLines) := goodIn_app (goodIn_of _ (by decide +kernel)) ggX5_isSound_X5_undoneStepsHaveLines
theorem dX5_isSound_0 : decode cX5_isSound 0 = .ok (.aload_n 0, 1) := by decide +kernel
theorem dX5_isSound_1 : decode cX5_isSound 1 = .ok (.getfield 16, 3) := by decide +kernel
theorem dX5_isSound_4 : decode cX5_isSound 4 = .ok (.invokevirtual 265, 3) := by decide +kernel
theorem dX5_isSound_7 : decode cX5_isSound 7 = .ok (.aload_n 0, 1) := by decide +kernel
theorem dX5_isSound_8 : decode cX5_isSound 8 = .ok (.getfield 16, 3) := by decide +kernel
theorem dX5_isSound_11 : decode cX5_isSound 11 = .ok (.invokevirtual 322, 3) := by decide +kernel
theorem dX5_isSound_14 : decode cX5_isSound 14 = .ok (.if_icmp .ne 31, 3) := by decide +kernel
theorem dX5_isSound_17 : decode cX5_isSound 17 = .ok (.aload_n 0, 1) := by decide +kernel
theorem dX5_isSound_18 : decode cX5_isSound 18 = .ok (.getfield 37, 3) := by decide +kernel
theorem dX5_isSound_21 : decode cX5_isSound 21 = .ok (.invokevirtual 349, 3) := by decide +kernel
theorem dX5_isSound_24 : decode cX5_isSound 24 = .ok (.ifCond .eq 21, 3) := by decide +kernel
theorem dX5_isSound_27 : decode cX5_isSound 27 = .ok (.aload_n 0, 1) := by decide +kernel
theorem dX5_isSound_28 : decode cX5_isSound 28 = .ok (.invokevirtual 352, 3) := by decide +kernel
theorem dX5_isSound_31 : decode cX5_isSound 31 = .ok (.ifCond .eq 14, 3) := by decide +kernel
theorem dX5_isSound_34 : decode cX5_isSound 34 = .ok (.aload_n 0, 1) := by decide +kernel
theorem dX5_isSound_35 : decode cX5_isSound 35 = .ok (.invokevirtual 355, 3) := by decide +kernel
theorem dX5_isSound_38 : decode cX5_isSound 38 = .ok (.ifCond .eq 7, 3) := by decide +kernel
theorem dX5_isSound_41 : decode cX5_isSound 41 = .ok (.iconst 1, 1) := by decide +kernel
theorem dX5_isSound_42 : decode cX5_isSound 42 = .ok (.goto 4, 3) := by decide +kernel
theorem dX5_isSound_45 : decode cX5_isSound 45 = .ok (.iconst 0, 1) := by decide +kernel
theorem dX5_isSound_46 : decode cX5_isSound 46 = .ok (.ireturn, 1) := by decide +kernel
set_option maxRecDepth 20000 in
theorem ggX5_activeAlarmsHaveLines_X0_isActive : GoodIn wsX5_activeAlarmsHaveLines wsX0_isActive := goodIn_ca (goodIn_r _ [7, 8, 9, 10, 6, 11, 36, 37, 38] (by decide +kernel) (by decide +kernel)) (goodIn_sub (fun _ h => List.mem_cons_of_mem _ (List.mem_append_right _ h)) (by decide +kernel))
set_option maxRecDepth 20000 in
theorem gX5_activeAlarmsHaveLines_X0_isActive : GoodIn wsX5_activeAlarmsHaveLines (wsV RX5 67 RX0 yX0_isActive wsX0_isActive) := goodIn_app (goodIn_of _ (by decide +kernel)) ggX5_activeAlarmsHaveLines_X0_isActive
set_option maxRecDepth 20000 in
theorem ggX5_activeAlarmsHaveLines_X0_lineOf : GoodIn wsX5_activeAlarmsHaveLines wsX0_lineOf := goodIn_ca (goodIn_r _ [15, 16, 17, 4, 5, 6, 7, 8, 9, 10, 11, 36, 37, 38] (by decide +kernel) (by decide +kernel)) (goodIn_sub (fun _ h => List.mem_cons_of_mem _ (List.mem_append_right _ h)) (by decide +kernel))
set_option maxRecDepth 20000 in
theorem gX5_activeAlarmsHaveLines_X0_lineOf : GoodIn wsX5_activeAlarmsHaveLines (wsV RX5 96 RX0 yX0_lineOf wsX0_lineOf) := goodIn_app (goodIn_of _ (by decide +kernel)) ggX5_activeAlarmsHaveLines_X0_lineOf
set_option maxRecDepth 20000 in
theorem ggX5_activeAlarmsHaveLines_X2_isOpen : GoodIn wsX5_activeAlarmsHaveLines wsX2_isOpen := goodIn_ca (goodIn_r _ [22, 23, 24, 25, 26, 21, 27, 28, 39, 40, 41, 42, 43, 44, 45, 46, 47] (by decide +kernel) (by decide +kernel)) (goodIn_sub (fun _ h => List.mem_cons_of_mem _ (List.mem_append_right _ h)) (by decide +kernel))
set_option maxRecDepth 20000 in
theorem gX5_activeAlarmsHaveLines_X2_isOpen : GoodIn wsX5_activeAlarmsHaveLines (wsV RX5 262 RX2 yX2_isOpen wsX2_isOpen) := goodIn_app (goodIn_of _ (by decide +kernel)) ggX5_activeAlarmsHaveLines_X2_isOpen
theorem dX5_activeAlarmsHaveLines_0 : decode cX5_activeAlarmsHaveLines 0 = .ok (.iconst 0, 1) := by decide +kernel
theorem dX5_activeAlarmsHaveLines_1 : decode cX5_activeAlarmsHaveLines 1 = .ok (.istore_n 1, 1) := by decide +kernel
theorem dX5_activeAlarmsHaveLines_2 : decode cX5_activeAlarmsHaveLines 2 = .ok (.iload_n 1, 1) := by decide +kernel
theorem dX5_activeAlarmsHaveLines_3 : decode cX5_activeAlarmsHaveLines 3 = .ok (.bipush 32, 2) := by decide +kernel
theorem dX5_activeAlarmsHaveLines_5 : decode cX5_activeAlarmsHaveLines 5 = .ok (.if_icmp .ge 40, 3) := by decide +kernel
theorem dX5_activeAlarmsHaveLines_8 : decode cX5_activeAlarmsHaveLines 8 = .ok (.aload_n 0, 1) := by decide +kernel
theorem dX5_activeAlarmsHaveLines_9 : decode cX5_activeAlarmsHaveLines 9 = .ok (.getfield 23, 3) := by decide +kernel
theorem dX5_activeAlarmsHaveLines_12 : decode cX5_activeAlarmsHaveLines 12 = .ok (.iload_n 1, 1) := by decide +kernel
theorem dX5_activeAlarmsHaveLines_13 : decode cX5_activeAlarmsHaveLines 13 = .ok (.invokevirtual 67, 3) := by decide +kernel
theorem dX5_activeAlarmsHaveLines_16 : decode cX5_activeAlarmsHaveLines 16 = .ok (.ifCond .eq 23, 3) := by decide +kernel
theorem dX5_activeAlarmsHaveLines_19 : decode cX5_activeAlarmsHaveLines 19 = .ok (.aload_n 0, 1) := by decide +kernel
theorem dX5_activeAlarmsHaveLines_20 : decode cX5_activeAlarmsHaveLines 20 = .ok (.getfield 16, 3) := by decide +kernel
theorem dX5_activeAlarmsHaveLines_23 : decode cX5_activeAlarmsHaveLines 23 = .ok (.aload_n 0, 1) := by decide +kernel
theorem dX5_activeAlarmsHaveLines_24 : decode cX5_activeAlarmsHaveLines 24 = .ok (.getfield 23, 3) := by decide +kernel
theorem dX5_activeAlarmsHaveLines_27 : decode cX5_activeAlarmsHaveLines 27 = .ok (.iload_n 1, 1) := by decide +kernel
theorem dX5_activeAlarmsHaveLines_28 : decode cX5_activeAlarmsHaveLines 28 = .ok (.invokevirtual 96, 3) := by decide +kernel
theorem dX5_activeAlarmsHaveLines_31 : decode cX5_activeAlarmsHaveLines 31 = .ok (.invokevirtual 262, 3) := by decide +kernel
theorem dX5_activeAlarmsHaveLines_34 : decode cX5_activeAlarmsHaveLines 34 = .ok (.ifCond .ne 5, 3) := by decide +kernel
theorem dX5_activeAlarmsHaveLines_37 : decode cX5_activeAlarmsHaveLines 37 = .ok (.iconst 0, 1) := by decide +kernel
theorem dX5_activeAlarmsHaveLines_38 : decode cX5_activeAlarmsHaveLines 38 = .ok (.ireturn, 1) := by decide +kernel
theorem dX5_activeAlarmsHaveLines_39 : decode cX5_activeAlarmsHaveLines 39 = .ok (.iinc 1 1, 3) := by decide +kernel
theorem dX5_activeAlarmsHaveLines_42 : decode cX5_activeAlarmsHaveLines 42 = .ok (.goto (-40), 3) := by decide +kernel
theorem dX5_activeAlarmsHaveLines_45 : decode cX5_activeAlarmsHaveLines 45 = .ok (.iconst 1, 1) := by decide +kernel
theorem dX5_activeAlarmsHaveLines_46 : decode cX5_activeAlarmsHaveLines 46 = .ok (.ireturn, 1) := by decide +kernel
set_option maxRecDepth 20000 in
theorem ggX5_undoneStepsHaveLines_X4_isUndone : GoodIn wsX5_undoneStepsHaveLines wsX4_isUndone := goodIn_ca (goodIn_r _ [7, 8, 9, 10, 11, 6, 12, 13, 14, 15, 16, 17, 18, 19, 20, 21, 22, 23, 24, 25, 26, 27, 28, 51, 52, 53, 54, 55, 56, 57, 58, 59, 60] (by decide +kernel) (by decide +kernel)) (goodIn_sub (fun _ h => List.mem_cons_of_mem _ (List.mem_append_right _ h)) (by decide +kernel))
set_option maxRecDepth 20000 in
theorem gX5_undoneStepsHaveLines_X4_isUndone : GoodIn wsX5_undoneStepsHaveLines (wsV RX5 358 RX4 yX4_isUndone wsX4_isUndone) := goodIn_app (goodIn_of _ (by decide +kernel)) ggX5_undoneStepsHaveLines_X4_isUndone
set_option maxRecDepth 20000 in
theorem ggX5_undoneStepsHaveLines_X4_undoneLineOf : GoodIn wsX5_undoneStepsHaveLines wsX4_undoneLineOf := goodIn_ca (goodIn_r _ [32, 8, 9, 10, 11, 6, 12, 13, 14, 15, 16, 17, 18, 19, 20, 21, 22, 23, 24, 25, 26, 27, 28, 51, 52, 53, 54, 55, 56, 57, 58, 59, 60] (by decide +kernel) (by decide +kernel)) (goodIn_sub (fun _ h => List.mem_cons_of_mem _ (List.mem_append_right _ h)) (by decide +kernel))
set_option maxRecDepth 20000 in
theorem gX5_undoneStepsHaveLines_X4_undoneLineOf : GoodIn wsX5_undoneStepsHaveLines (wsV RX5 361 RX4 yX4_undoneLineOf wsX4_undoneLineOf) := goodIn_app (goodIn_of _ (by decide +kernel)) ggX5_undoneStepsHaveLines_X4_undoneLineOf
set_option maxRecDepth 20000 in
theorem ggX5_undoneStepsHaveLines_X2_isOpen : GoodIn wsX5_undoneStepsHaveLines wsX2_isOpen := goodIn_ca (goodIn_r _ [37, 38, 39, 40, 41, 36, 42, 43, 61, 62, 63, 64, 65, 66, 67, 68, 69] (by decide +kernel) (by decide +kernel)) (goodIn_sub (fun _ h => List.mem_cons_of_mem _ (List.mem_append_right _ h)) (by decide +kernel))
set_option maxRecDepth 20000 in
theorem gX5_undoneStepsHaveLines_X2_isOpen : GoodIn wsX5_undoneStepsHaveLines (wsV RX5 262 RX2 yX2_isOpen wsX2_isOpen) := goodIn_app (goodIn_of _ (by decide +kernel)) ggX5_undoneStepsHaveLines_X2_isOpen
theorem dX5_undoneStepsHaveLines_0 : decode cX5_undoneStepsHaveLines 0 = .ok (.iconst 0, 1) := by decide +kernel
theorem dX5_undoneStepsHaveLines_1 : decode cX5_undoneStepsHaveLines 1 = .ok (.istore_n 1, 1) := by decide +kernel
theorem dX5_undoneStepsHaveLines_2 : decode cX5_undoneStepsHaveLines 2 = .ok (.iload_n 1, 1) := by decide +kernel
theorem dX5_undoneStepsHaveLines_3 : decode cX5_undoneStepsHaveLines 3 = .ok (.bipush 48, 2) := by decide +kernel
theorem dX5_undoneStepsHaveLines_5 : decode cX5_undoneStepsHaveLines 5 = .ok (.if_icmp .ge 40, 3) := by decide +kernel
theorem dX5_undoneStepsHaveLines_8 : decode cX5_undoneStepsHaveLines 8 = .ok (.aload_n 0, 1) := by decide +kernel
theorem dX5_undoneStepsHaveLines_9 : decode cX5_undoneStepsHaveLines 9 = .ok (.getfield 30, 3) := by decide +kernel
theorem dX5_undoneStepsHaveLines_12 : decode cX5_undoneStepsHaveLines 12 = .ok (.iload_n 1, 1) := by decide +kernel
theorem dX5_undoneStepsHaveLines_13 : decode cX5_undoneStepsHaveLines 13 = .ok (.invokevirtual 358, 3) := by decide +kernel
theorem dX5_undoneStepsHaveLines_16 : decode cX5_undoneStepsHaveLines 16 = .ok (.ifCond .eq 23, 3) := by decide +kernel
theorem dX5_undoneStepsHaveLines_19 : decode cX5_undoneStepsHaveLines 19 = .ok (.aload_n 0, 1) := by decide +kernel
theorem dX5_undoneStepsHaveLines_20 : decode cX5_undoneStepsHaveLines 20 = .ok (.getfield 16, 3) := by decide +kernel
theorem dX5_undoneStepsHaveLines_23 : decode cX5_undoneStepsHaveLines 23 = .ok (.aload_n 0, 1) := by decide +kernel
theorem dX5_undoneStepsHaveLines_24 : decode cX5_undoneStepsHaveLines 24 = .ok (.getfield 30, 3) := by decide +kernel
theorem dX5_undoneStepsHaveLines_27 : decode cX5_undoneStepsHaveLines 27 = .ok (.iload_n 1, 1) := by decide +kernel
theorem dX5_undoneStepsHaveLines_28 : decode cX5_undoneStepsHaveLines 28 = .ok (.invokevirtual 361, 3) := by decide +kernel
theorem dX5_undoneStepsHaveLines_31 : decode cX5_undoneStepsHaveLines 31 = .ok (.invokevirtual 262, 3) := by decide +kernel
theorem dX5_undoneStepsHaveLines_34 : decode cX5_undoneStepsHaveLines 34 = .ok (.ifCond .ne 5, 3) := by decide +kernel
theorem dX5_undoneStepsHaveLines_37 : decode cX5_undoneStepsHaveLines 37 = .ok (.iconst 0, 1) := by decide +kernel
theorem dX5_undoneStepsHaveLines_38 : decode cX5_undoneStepsHaveLines 38 = .ok (.ireturn, 1) := by decide +kernel
theorem dX5_undoneStepsHaveLines_39 : decode cX5_undoneStepsHaveLines 39 = .ok (.iinc 1 1, 3) := by decide +kernel
theorem dX5_undoneStepsHaveLines_42 : decode cX5_undoneStepsHaveLines 42 = .ok (.goto (-40), 3) := by decide +kernel
theorem dX5_undoneStepsHaveLines_45 : decode cX5_undoneStepsHaveLines 45 = .ok (.iconst 1, 1) := by decide +kernel
theorem dX5_undoneStepsHaveLines_46 : decode cX5_undoneStepsHaveLines 46 = .ok (.ireturn, 1) := by decide +kernel
set_option maxRecDepth 20000 in
theorem ggX5_reasonOf_X4_nextPlace : GoodIn wsX5_reasonOf wsX4_nextPlace := goodIn_ca (goodIn_r _ [9, 10, 11, 12, 8, 13, 14, 15, 16, 17, 18, 19, 20, 21, 22, 23, 24, 25, 26, 27, 92, 93, 94, 95, 96, 97, 98, 99, 100, 101] (by decide +kernel) (by decide +kernel)) (goodIn_sub (fun _ h => List.mem_cons_of_mem _ (List.mem_append_right _ h)) (by decide +kernel))
set_option maxRecDepth 20000 in
theorem gX5_reasonOf_X4_nextPlace : GoodIn wsX5_reasonOf (wsV RX5 170 RX4 yX4_nextPlace wsX4_nextPlace) := goodIn_app (goodIn_of _ (by decide +kernel)) ggX5_reasonOf_X4_nextPlace
set_option maxRecDepth 20000 in
theorem ggX5_reasonOf_X1_isAtWork : GoodIn wsX5_reasonOf wsX1_isAtWork := goodIn_r _ [32, 33, 34, 102, 103, 104, 105] (by decide +kernel) (by decide +kernel)
set_option maxRecDepth 20000 in
theorem gX5_reasonOf_X1_isAtWork : GoodIn wsX5_reasonOf (wsV RX5 364 RX1 yX1_isAtWork wsX1_isAtWork) := goodIn_app (goodIn_of _ (by decide +kernel)) ggX5_reasonOf_X1_isAtWork
set_option maxRecDepth 20000 in
theorem ggX5_reasonOf_X1_isWeary : GoodIn wsX5_reasonOf wsX1_isWeary := goodIn_r _ [38, 33, 39, 102, 103, 104, 105] (by decide +kernel) (by decide +kernel)
set_option maxRecDepth 20000 in
theorem gX5_reasonOf_X1_isWeary : GoodIn wsX5_reasonOf (wsV RX5 235 RX1 yX1_isWeary wsX1_isWeary) := goodIn_app (goodIn_of _ (by decide +kernel)) ggX5_reasonOf_X1_isWeary
set_option maxRecDepth 20000 in
theorem ggX5_reasonOf_X4_unitOf : GoodIn wsX5_reasonOf wsX4_unitOf := goodIn_ca (goodIn_r _ [43, 44, 45, 46, 8, 47, 92, 93, 94, 95, 96, 97, 98, 99, 100, 101] (by decide +kernel) (by decide +kernel)) (goodIn_sub (fun _ h => List.mem_cons_of_mem _ (List.mem_append_right _ h)) (by decide +kernel))
set_option maxRecDepth 20000 in
theorem gX5_reasonOf_X4_unitOf : GoodIn wsX5_reasonOf (wsV RX5 175 RX4 yX4_unitOf wsX4_unitOf) := goodIn_app (goodIn_of _ (by decide +kernel)) ggX5_reasonOf_X4_unitOf
set_option maxRecDepth 20000 in
theorem ggX5_reasonOf_X5_unitBit : GoodIn wsX5_reasonOf wsX5_unitBit := goodIn_r _ [50, 51, 52, 26, 53] (by decide +kernel) (by decide +kernel)
set_option maxRecDepth 20000 in
theorem gX5_reasonOf_X5_unitBit : GoodIn wsX5_reasonOf (va_wsS RX5 178 yX5_unitBit wsX5_unitBit) := goodIn_app (goodIn_of _ (by decide +kernel)) ggX5_reasonOf_X5_unitBit
set_option maxRecDepth 20000 in
theorem ggX5_reasonOf_X3_firstOpenWith : GoodIn wsX5_reasonOf wsX3_firstOpenWith := goodIn_ca (goodIn_r _ [58, 59, 60, 61, 62, 57, 63, 64, 65, 66, 67, 68, 69, 106, 107, 108, 109] (by decide +kernel) (by decide +kernel)) (goodIn_sub (fun _ h => List.mem_cons_of_mem _ (List.mem_append_right _ h)) (by decide +kernel))
set_option maxRecDepth 20000 in
theorem gX5_reasonOf_X3_firstOpenWith : GoodIn wsX5_reasonOf (wsV RX5 181 RX3 yX3_firstOpenWith wsX3_firstOpenWith) := goodIn_app (goodIn_of _ (by decide +kernel)) ggX5_reasonOf_X3_firstOpenWith
set_option maxRecDepth 20000 in
theorem ggX5_reasonOf_X4_neededOf : GoodIn wsX5_reasonOf wsX4_neededOf := goodIn_ca (goodIn_r _ [73, 74, 45, 46, 8, 47, 92, 93, 94, 95, 96, 97, 98, 99, 100, 101] (by decide +kernel) (by decide +kernel)) (goodIn_sub (fun _ h => List.mem_cons_of_mem _ (List.mem_append_right _ h)) (by decide +kernel))
set_option maxRecDepth 20000 in
theorem gX5_reasonOf_X4_neededOf : GoodIn wsX5_reasonOf (wsV RX5 367 RX4 yX4_neededOf wsX4_neededOf) := goodIn_app (goodIn_of _ (by decide +kernel)) ggX5_reasonOf_X4_neededOf
set_option maxRecDepth 20000 in
theorem ggX5_reasonOf_X5_stateOf : GoodIn wsX5_reasonOf wsX5_stateOf := goodIn_ca (goodIn_r _ [78, 79, 51, 52, 26, 53, 85, 86, 87, 88, 89, 90, 91] (by decide +kernel) (by decide +kernel)) (goodIn_sub (fun _ h => List.mem_cons_of_mem _ (List.mem_append_right _ h)) (by decide +kernel))
set_option maxRecDepth 20000 in
theorem gX5_reasonOf_X5_stateOf : GoodIn wsX5_reasonOf (wsV RX5 52 RX5 yX5_stateOf wsX5_stateOf) := goodIn_app (goodIn_of _ (by decide +kernel)) ggX5_reasonOf_X5_stateOf
set_option maxRecDepth 20000 in
theorem ggX5_reasonOf_X4_neededStateOf : GoodIn wsX5_reasonOf wsX4_neededStateOf := goodIn_ca (goodIn_r _ [83, 84, 45, 46, 8, 47, 92, 93, 94, 95, 96, 97, 98, 99, 100, 101] (by decide +kernel) (by decide +kernel)) (goodIn_sub (fun _ h => List.mem_cons_of_mem _ (List.mem_append_right _ h)) (by decide +kernel))
set_option maxRecDepth 20000 in
theorem gX5_reasonOf_X4_neededStateOf : GoodIn wsX5_reasonOf (wsV RX5 370 RX4 yX4_neededStateOf wsX4_neededStateOf) := goodIn_app (goodIn_of _ (by decide +kernel)) ggX5_reasonOf_X4_neededStateOf
theorem dX5_reasonOf_0 : decode cX5_reasonOf 0 = .ok (.aload_n 0, 1) := by decide +kernel
theorem dX5_reasonOf_1 : decode cX5_reasonOf 1 = .ok (.getfield 30, 3) := by decide +kernel
theorem dX5_reasonOf_4 : decode cX5_reasonOf 4 = .ok (.iload_n 1, 1) := by decide +kernel
theorem dX5_reasonOf_5 : decode cX5_reasonOf 5 = .ok (.invokevirtual 170, 3) := by decide +kernel
theorem dX5_reasonOf_8 : decode cX5_reasonOf 8 = .ok (.istore_n 2, 1) := by decide +kernel
theorem dX5_reasonOf_9 : decode cX5_reasonOf 9 = .ok (.iload_n 2, 1) := by decide +kernel
theorem dX5_reasonOf_10 : decode cX5_reasonOf 10 = .ok (.iconst (-1), 1) := by decide +kernel
theorem dX5_reasonOf_11 : decode cX5_reasonOf 11 = .ok (.if_icmp .ne 6, 3) := by decide +kernel
theorem dX5_reasonOf_14 : decode cX5_reasonOf 14 = .ok (.bipush 101, 2) := by decide +kernel
theorem dX5_reasonOf_16 : decode cX5_reasonOf 16 = .ok (.ireturn, 1) := by decide +kernel
theorem dX5_reasonOf_17 : decode cX5_reasonOf 17 = .ok (.aload_n 0, 1) := by decide +kernel
theorem dX5_reasonOf_18 : decode cX5_reasonOf 18 = .ok (.getfield 44, 3) := by decide +kernel
theorem dX5_reasonOf_21 : decode cX5_reasonOf 21 = .ok (.invokevirtual 364, 3) := by decide +kernel
theorem dX5_reasonOf_24 : decode cX5_reasonOf 24 = .ok (.ifCond .ne 6, 3) := by decide +kernel
theorem dX5_reasonOf_27 : decode cX5_reasonOf 27 = .ok (.bipush 100, 2) := by decide +kernel
theorem dX5_reasonOf_29 : decode cX5_reasonOf 29 = .ok (.ireturn, 1) := by decide +kernel
theorem dX5_reasonOf_30 : decode cX5_reasonOf 30 = .ok (.aload_n 0, 1) := by decide +kernel
theorem dX5_reasonOf_31 : decode cX5_reasonOf 31 = .ok (.getfield 44, 3) := by decide +kernel
theorem dX5_reasonOf_34 : decode cX5_reasonOf 34 = .ok (.aload_n 0, 1) := by decide +kernel
theorem dX5_reasonOf_35 : decode cX5_reasonOf 35 = .ok (.getfield 81, 3) := by decide +kernel
theorem dX5_reasonOf_38 : decode cX5_reasonOf 38 = .ok (.invokevirtual 235, 3) := by decide +kernel
theorem dX5_reasonOf_41 : decode cX5_reasonOf 41 = .ok (.ifCond .eq 6, 3) := by decide +kernel
theorem dX5_reasonOf_44 : decode cX5_reasonOf 44 = .ok (.bipush 116, 2) := by decide +kernel
theorem dX5_reasonOf_46 : decode cX5_reasonOf 46 = .ok (.ireturn, 1) := by decide +kernel
theorem dX5_reasonOf_47 : decode cX5_reasonOf 47 = .ok (.aload_n 0, 1) := by decide +kernel
theorem dX5_reasonOf_48 : decode cX5_reasonOf 48 = .ok (.getfield 37, 3) := by decide +kernel
theorem dX5_reasonOf_51 : decode cX5_reasonOf 51 = .ok (.aload_n 0, 1) := by decide +kernel
theorem dX5_reasonOf_52 : decode cX5_reasonOf 52 = .ok (.getfield 30, 3) := by decide +kernel
theorem dX5_reasonOf_55 : decode cX5_reasonOf 55 = .ok (.iload_n 2, 1) := by decide +kernel
theorem dX5_reasonOf_56 : decode cX5_reasonOf 56 = .ok (.invokevirtual 175, 3) := by decide +kernel
theorem dX5_reasonOf_59 : decode cX5_reasonOf 59 = .ok (.invokestatic 178, 3) := by decide +kernel
theorem dX5_reasonOf_62 : decode cX5_reasonOf 62 = .ok (.invokevirtual 181, 3) := by decide +kernel
theorem dX5_reasonOf_65 : decode cX5_reasonOf 65 = .ok (.iconst (-1), 1) := by decide +kernel
theorem dX5_reasonOf_66 : decode cX5_reasonOf 66 = .ok (.if_icmp .eq 6, 3) := by decide +kernel
theorem dX5_reasonOf_69 : decode cX5_reasonOf 69 = .ok (.bipush 98, 2) := by decide +kernel
theorem dX5_reasonOf_71 : decode cX5_reasonOf 71 = .ok (.ireturn, 1) := by decide +kernel
theorem dX5_reasonOf_72 : decode cX5_reasonOf 72 = .ok (.aload_n 0, 1) := by decide +kernel
theorem dX5_reasonOf_73 : decode cX5_reasonOf 73 = .ok (.aload_n 0, 1) := by decide +kernel
theorem dX5_reasonOf_74 : decode cX5_reasonOf 74 = .ok (.getfield 30, 3) := by decide +kernel
theorem dX5_reasonOf_77 : decode cX5_reasonOf 77 = .ok (.iload_n 2, 1) := by decide +kernel
theorem dX5_reasonOf_78 : decode cX5_reasonOf 78 = .ok (.invokevirtual 367, 3) := by decide +kernel
theorem dX5_reasonOf_81 : decode cX5_reasonOf 81 = .ok (.invokevirtual 52, 3) := by decide +kernel
theorem dX5_reasonOf_84 : decode cX5_reasonOf 84 = .ok (.aload_n 0, 1) := by decide +kernel
theorem dX5_reasonOf_85 : decode cX5_reasonOf 85 = .ok (.getfield 30, 3) := by decide +kernel
theorem dX5_reasonOf_88 : decode cX5_reasonOf 88 = .ok (.iload_n 2, 1) := by decide +kernel
theorem dX5_reasonOf_89 : decode cX5_reasonOf 89 = .ok (.invokevirtual 370, 3) := by decide +kernel
theorem dX5_reasonOf_92 : decode cX5_reasonOf 92 = .ok (.if_icmp .eq 6, 3) := by decide +kernel
theorem dX5_reasonOf_95 : decode cX5_reasonOf 95 = .ok (.bipush 110, 2) := by decide +kernel
theorem dX5_reasonOf_97 : decode cX5_reasonOf 97 = .ok (.ireturn, 1) := by decide +kernel
theorem dX5_reasonOf_98 : decode cX5_reasonOf 98 = .ok (.bipush 45, 2) := by decide +kernel
theorem dX5_reasonOf_100 : decode cX5_reasonOf 100 = .ok (.ireturn, 1) := by decide +kernel
set_option maxRecDepth 20000 in
theorem ggX5_closeUndoneLine_X4_isUndone : GoodIn wsX5_closeUndoneLine wsX4_isUndone := goodIn_ca (goodIn_r _ [7, 8, 9, 10, 11, 6, 12, 13, 14, 15, 16, 17, 18, 19, 20, 21, 22, 23, 24, 25, 26, 27, 28, 66, 67, 68, 69, 70, 71, 72, 73, 74, 75] (by decide +kernel) (by decide +kernel)) (goodIn_sub (fun _ h => List.mem_cons_of_mem _ (List.mem_append_right _ h)) (by decide +kernel))
set_option maxRecDepth 20000 in
theorem gX5_closeUndoneLine_X4_isUndone : GoodIn wsX5_closeUndoneLine (wsV RX5 358 RX4 yX4_isUndone wsX4_isUndone) := goodIn_app (goodIn_of _ (by decide +kernel)) ggX5_closeUndoneLine_X4_isUndone
set_option maxRecDepth 20000 in
theorem ggX5_closeUndoneLine_X4_undoneLineOf : GoodIn wsX5_closeUndoneLine wsX4_undoneLineOf := goodIn_ca (goodIn_r _ [32, 8, 9, 10, 11, 6, 12, 13, 14, 15, 16, 17, 18, 19, 20, 21, 22, 23, 24, 25, 26, 27, 28, 66, 67, 68, 69, 70, 71, 72, 73, 74, 75] (by decide +kernel) (by decide +kernel)) (goodIn_sub (fun _ h => List.mem_cons_of_mem _ (List.mem_append_right _ h)) (by decide +kernel))
set_option maxRecDepth 20000 in
theorem gX5_closeUndoneLine_X4_undoneLineOf : GoodIn wsX5_closeUndoneLine (wsV RX5 361 RX4 yX4_undoneLineOf wsX4_undoneLineOf) := goodIn_app (goodIn_of _ (by decide +kernel)) ggX5_closeUndoneLine_X4_undoneLineOf
set_option maxRecDepth 20000 in
theorem ggX5_closeUndoneLine_X2_closeLine : GoodIn wsX5_closeUndoneLine wsX2_closeLine := goodIn_ca (goodIn_r _ [37, 38, 39, 40, 41, 42, 36, 43, 44, 45, 46, 47, 48, 49, 50, 51, 52, 53, 54, 76, 77, 78, 79, 80, 81, 82, 83, 84] (by decide +kernel) (by decide +kernel)) (goodIn_sub (fun _ h => List.mem_cons_of_mem _ (List.mem_append_right _ h)) (by decide +kernel))
set_option maxRecDepth 20000 in
theorem gX5_closeUndoneLine_X2_closeLine : GoodIn wsX5_closeUndoneLine (wsV RX5 102 RX2 yX2_closeLine wsX2_closeLine) := goodIn_app (goodIn_of _ (by decide +kernel)) ggX5_closeUndoneLine_X2_closeLine
set_option maxRecDepth 20000 in
theorem ggX5_closeUndoneLine_X4_markNotUndone : GoodIn wsX5_closeUndoneLine wsX4_markNotUndone := goodIn_ca (goodIn_r _ [58, 8, 13, 14, 6, 15, 66, 67, 68, 69, 70, 71, 72, 73, 74, 75] (by decide +kernel) (by decide +kernel)) (goodIn_sub (fun _ h => List.mem_cons_of_mem _ (List.mem_append_right _ h)) (by decide +kernel))
set_option maxRecDepth 20000 in
theorem gX5_closeUndoneLine_X4_markNotUndone : GoodIn wsX5_closeUndoneLine (wsV RX5 373 RX4 yX4_markNotUndone wsX4_markNotUndone) := goodIn_app (goodIn_of _ (by decide +kernel)) ggX5_closeUndoneLine_X4_markNotUndone
theorem dX5_closeUndoneLine_0 : decode cX5_closeUndoneLine 0 = .ok (.aload_n 0, 1) := by decide +kernel
theorem dX5_closeUndoneLine_1 : decode cX5_closeUndoneLine 1 = .ok (.getfield 30, 3) := by decide +kernel
theorem dX5_closeUndoneLine_4 : decode cX5_closeUndoneLine 4 = .ok (.iload_n 1, 1) := by decide +kernel
theorem dX5_closeUndoneLine_5 : decode cX5_closeUndoneLine 5 = .ok (.invokevirtual 358, 3) := by decide +kernel
theorem dX5_closeUndoneLine_8 : decode cX5_closeUndoneLine 8 = .ok (.ifCond .ne 5, 3) := by decide +kernel
theorem dX5_closeUndoneLine_11 : decode cX5_closeUndoneLine 11 = .ok (.iconst 0, 1) := by decide +kernel
theorem dX5_closeUndoneLine_12 : decode cX5_closeUndoneLine 12 = .ok (.ireturn, 1) := by decide +kernel
theorem dX5_closeUndoneLine_13 : decode cX5_closeUndoneLine 13 = .ok (.aload_n 0, 1) := by decide +kernel
theorem dX5_closeUndoneLine_14 : decode cX5_closeUndoneLine 14 = .ok (.getfield 16, 3) := by decide +kernel
theorem dX5_closeUndoneLine_17 : decode cX5_closeUndoneLine 17 = .ok (.aload_n 0, 1) := by decide +kernel
theorem dX5_closeUndoneLine_18 : decode cX5_closeUndoneLine 18 = .ok (.getfield 30, 3) := by decide +kernel
theorem dX5_closeUndoneLine_21 : decode cX5_closeUndoneLine 21 = .ok (.iload_n 1, 1) := by decide +kernel
theorem dX5_closeUndoneLine_22 : decode cX5_closeUndoneLine 22 = .ok (.invokevirtual 361, 3) := by decide +kernel
theorem dX5_closeUndoneLine_25 : decode cX5_closeUndoneLine 25 = .ok (.invokevirtual 102, 3) := by decide +kernel
theorem dX5_closeUndoneLine_28 : decode cX5_closeUndoneLine 28 = .ok (.aload_n 0, 1) := by decide +kernel
theorem dX5_closeUndoneLine_29 : decode cX5_closeUndoneLine 29 = .ok (.getfield 30, 3) := by decide +kernel
theorem dX5_closeUndoneLine_32 : decode cX5_closeUndoneLine 32 = .ok (.iload_n 1, 1) := by decide +kernel
theorem dX5_closeUndoneLine_33 : decode cX5_closeUndoneLine 33 = .ok (.invokevirtual 373, 3) := by decide +kernel
theorem dX5_closeUndoneLine_36 : decode cX5_closeUndoneLine 36 = .ok (.iconst 1, 1) := by decide +kernel
theorem dX5_closeUndoneLine_37 : decode cX5_closeUndoneLine 37 = .ok (.ireturn, 1) := by decide +kernel
set_option maxRecDepth 20000 in
theorem ggX5_stateOf_X5_isUnit : GoodIn wsX5_stateOf wsX5_isUnit := goodIn_r _ [5] (by decide +kernel) (by decide +kernel)
set_option maxRecDepth 20000 in
theorem gX5_stateOf_X5_isUnit : GoodIn wsX5_stateOf (va_wsS RX5 376 yX5_isUnit wsX5_isUnit) := goodIn_app (goodIn_of _ (by decide +kernel)) ggX5_stateOf_X5_isUnit
theorem dX5_stateOf_0 : decode cX5_stateOf 0 = .ok (.iload_n 1, 1) := by decide +kernel
theorem dX5_stateOf_1 : decode cX5_stateOf 1 = .ok (.invokestatic 376, 3) := by decide +kernel
theorem dX5_stateOf_4 : decode cX5_stateOf 4 = .ok (.ifCond .eq 12, 3) := by decide +kernel
theorem dX5_stateOf_7 : decode cX5_stateOf 7 = .ok (.aload_n 0, 1) := by decide +kernel
theorem dX5_stateOf_8 : decode cX5_stateOf 8 = .ok (.getfield 9, 3) := by decide +kernel
theorem dX5_stateOf_11 : decode cX5_stateOf 11 = .ok (.iload_n 1, 1) := by decide +kernel
theorem dX5_stateOf_12 : decode cX5_stateOf 12 = .ok (.iaload, 1) := by decide +kernel
theorem dX5_stateOf_13 : decode cX5_stateOf 13 = .ok (.goto 4, 3) := by decide +kernel
theorem dX5_stateOf_16 : decode cX5_stateOf 16 = .ok (.iconst 0, 1) := by decide +kernel
theorem dX5_stateOf_17 : decode cX5_stateOf 17 = .ok (.ireturn, 1) := by decide +kernel
set_option maxRecDepth 20000 in
theorem ggX5_setState_X5_isUnit : GoodIn wsX5_setState wsX5_isUnit := goodIn_r _ [5] (by decide +kernel) (by decide +kernel)
set_option maxRecDepth 20000 in
theorem gX5_setState_X5_isUnit : GoodIn wsX5_setState (va_wsS RX5 376 yX5_isUnit wsX5_isUnit) := goodIn_app (goodIn_of _ (by decide +kernel)) ggX5_setState_X5_isUnit
theorem dX5_setState_0 : decode cX5_setState 0 = .ok (.iload_n 1, 1) := by decide +kernel
theorem dX5_setState_1 : decode cX5_setState 1 = .ok (.invokestatic 376, 3) := by decide +kernel
theorem dX5_setState_4 : decode cX5_setState 4 = .ok (.ifCond .eq 10, 3) := by decide +kernel
theorem dX5_setState_7 : decode cX5_setState 7 = .ok (.aload_n 0, 1) := by decide +kernel
theorem dX5_setState_8 : decode cX5_setState 8 = .ok (.getfield 9, 3) := by decide +kernel
theorem dX5_setState_11 : decode cX5_setState 11 = .ok (.iload_n 1, 1) := by decide +kernel
theorem dX5_setState_12 : decode cX5_setState 12 = .ok (.iload_n 2, 1) := by decide +kernel
theorem dX5_setState_13 : decode cX5_setState 13 = .ok (.iastore, 1) := by decide +kernel
theorem dX5_setState_14 : decode cX5_setState 14 = .ok (.return_, 1) := by decide +kernel
set_option maxRecDepth 20000 in
theorem ggX5_checkRoomForLine_X2_isFull : GoodIn wsX5_checkRoomForLine wsX2_isFull := goodIn_r _ [8, 9, 17, 18, 19, 20, 21, 22, 23, 24, 25] (by decide +kernel) (by decide +kernel)
set_option maxRecDepth 20000 in
theorem gX5_checkRoomForLine_X2_isFull : GoodIn wsX5_checkRoomForLine (wsV RX5 379 RX2 yX2_isFull wsX2_isFull) := goodIn_app (goodIn_of _ (by decide +kernel)) ggX5_checkRoomForLine_X2_isFull
theorem dX5_checkRoomForLine_0 : decode cX5_checkRoomForLine 0 = .ok (.aload_n 0, 1) := by decide +kernel
theorem dX5_checkRoomForLine_1 : decode cX5_checkRoomForLine 1 = .ok (.getfield 16, 3) := by decide +kernel
theorem dX5_checkRoomForLine_4 : decode cX5_checkRoomForLine 4 = .ok (.invokevirtual 379, 3) := by decide +kernel
theorem dX5_checkRoomForLine_7 : decode cX5_checkRoomForLine 7 = .ok (.ifCond .eq 14, 3) := by decide +kernel
theorem dX5_checkRoomForLine_10 : decode cX5_checkRoomForLine 10 = .ok (.new 71, 3) := by decide +kernel
theorem dX5_checkRoomForLine_13 : decode cX5_checkRoomForLine 13 = .ok (.dup, 1) := by decide +kernel
theorem dX5_checkRoomForLine_14 : decode cX5_checkRoomForLine 14 = .ok (.ldc_w 380, 3) := by decide +kernel
theorem dX5_checkRoomForLine_17 : decode cX5_checkRoomForLine 17 = .ok (.invokespecial 75, 3) := by decide +kernel
theorem dX5_checkRoomForLine_20 : decode cX5_checkRoomForLine 20 = .ok (.athrow, 1) := by decide +kernel
theorem dX5_checkRoomForLine_21 : decode cX5_checkRoomForLine 21 = .ok (.return_, 1) := by decide +kernel
set_option maxRecDepth 20000 in
theorem ggX5_checkLine_X2_hasLine : GoodIn wsX5_checkLine wsX2_hasLine := goodIn_r _ [8, 9, 17, 18, 19, 20, 21, 22, 23, 24, 25] (by decide +kernel) (by decide +kernel)
set_option maxRecDepth 20000 in
theorem gX5_checkLine_X2_hasLine : GoodIn wsX5_checkLine (wsV RX5 382 RX2 yX2_hasLine wsX2_hasLine) := goodIn_app (goodIn_of _ (by decide +kernel)) ggX5_checkLine_X2_hasLine
theorem dX5_checkLine_0 : decode cX5_checkLine 0 = .ok (.aload_n 0, 1) := by decide +kernel
theorem dX5_checkLine_1 : decode cX5_checkLine 1 = .ok (.getfield 16, 3) := by decide +kernel
theorem dX5_checkLine_4 : decode cX5_checkLine 4 = .ok (.iload_n 1, 1) := by decide +kernel
theorem dX5_checkLine_5 : decode cX5_checkLine 5 = .ok (.invokevirtual 382, 3) := by decide +kernel
theorem dX5_checkLine_8 : decode cX5_checkLine 8 = .ok (.ifCond .ne 14, 3) := by decide +kernel
theorem dX5_checkLine_11 : decode cX5_checkLine 11 = .ok (.new 125, 3) := by decide +kernel
theorem dX5_checkLine_14 : decode cX5_checkLine 14 = .ok (.dup, 1) := by decide +kernel
theorem dX5_checkLine_15 : decode cX5_checkLine 15 = .ok (.ldc_w 385, 3) := by decide +kernel
theorem dX5_checkLine_18 : decode cX5_checkLine 18 = .ok (.invokespecial 129, 3) := by decide +kernel
theorem dX5_checkLine_21 : decode cX5_checkLine 21 = .ok (.athrow, 1) := by decide +kernel
theorem dX5_checkLine_22 : decode cX5_checkLine 22 = .ok (.return_, 1) := by decide +kernel
set_option maxRecDepth 20000 in
theorem ggX5_checkActive_X0_isActive : GoodIn wsX5_checkActive wsX0_isActive := goodIn_ca (goodIn_r _ [8, 9, 10, 11, 7, 12, 20, 21, 22] (by decide +kernel) (by decide +kernel)) (goodIn_sub (fun _ h => List.mem_cons_of_mem _ (List.mem_append_right _ h)) (by decide +kernel))
set_option maxRecDepth 20000 in
theorem gX5_checkActive_X0_isActive : GoodIn wsX5_checkActive (wsV RX5 67 RX0 yX0_isActive wsX0_isActive) := goodIn_app (goodIn_of _ (by decide +kernel)) ggX5_checkActive_X0_isActive
theorem dX5_checkActive_0 : decode cX5_checkActive 0 = .ok (.aload_n 0, 1) := by decide +kernel
theorem dX5_checkActive_1 : decode cX5_checkActive 1 = .ok (.getfield 23, 3) := by decide +kernel
theorem dX5_checkActive_4 : decode cX5_checkActive 4 = .ok (.iload_n 1, 1) := by decide +kernel
theorem dX5_checkActive_5 : decode cX5_checkActive 5 = .ok (.invokevirtual 67, 3) := by decide +kernel
theorem dX5_checkActive_8 : decode cX5_checkActive 8 = .ok (.ifCond .ne 14, 3) := by decide +kernel
theorem dX5_checkActive_11 : decode cX5_checkActive 11 = .ok (.new 125, 3) := by decide +kernel
theorem dX5_checkActive_14 : decode cX5_checkActive 14 = .ok (.dup, 1) := by decide +kernel
theorem dX5_checkActive_15 : decode cX5_checkActive 15 = .ok (.ldc_w 387, 3) := by decide +kernel
theorem dX5_checkActive_18 : decode cX5_checkActive 18 = .ok (.invokespecial 129, 3) := by decide +kernel
theorem dX5_checkActive_21 : decode cX5_checkActive 21 = .ok (.athrow, 1) := by decide +kernel
theorem dX5_checkActive_22 : decode cX5_checkActive 22 = .ok (.return_, 1) := by decide +kernel
set_option maxRecDepth 20000 in
theorem ggX5_checkProcedure_X4_hasProcedure : GoodIn wsX5_checkProcedure wsX4_hasProcedure := goodIn_r _ [8, 9, 17, 18, 19, 20, 21, 22, 23, 24, 25, 26] (by decide +kernel) (by decide +kernel)
set_option maxRecDepth 20000 in
theorem gX5_checkProcedure_X4_hasProcedure : GoodIn wsX5_checkProcedure (wsV RX5 389 RX4 yX4_hasProcedure wsX4_hasProcedure) := goodIn_app (goodIn_of _ (by decide +kernel)) ggX5_checkProcedure_X4_hasProcedure
theorem dX5_checkProcedure_0 : decode cX5_checkProcedure 0 = .ok (.aload_n 0, 1) := by decide +kernel
theorem dX5_checkProcedure_1 : decode cX5_checkProcedure 1 = .ok (.getfield 30, 3) := by decide +kernel
theorem dX5_checkProcedure_4 : decode cX5_checkProcedure 4 = .ok (.iload_n 1, 1) := by decide +kernel
theorem dX5_checkProcedure_5 : decode cX5_checkProcedure 5 = .ok (.invokevirtual 389, 3) := by decide +kernel
theorem dX5_checkProcedure_8 : decode cX5_checkProcedure 8 = .ok (.ifCond .ne 14, 3) := by decide +kernel
theorem dX5_checkProcedure_11 : decode cX5_checkProcedure 11 = .ok (.new 125, 3) := by decide +kernel
theorem dX5_checkProcedure_14 : decode cX5_checkProcedure 14 = .ok (.dup, 1) := by decide +kernel
theorem dX5_checkProcedure_15 : decode cX5_checkProcedure 15 = .ok (.ldc_w 392, 3) := by decide +kernel
theorem dX5_checkProcedure_18 : decode cX5_checkProcedure 18 = .ok (.invokespecial 129, 3) := by decide +kernel
theorem dX5_checkProcedure_21 : decode cX5_checkProcedure 21 = .ok (.athrow, 1) := by decide +kernel
theorem dX5_checkProcedure_22 : decode cX5_checkProcedure 22 = .ok (.return_, 1) := by decide +kernel
set_option maxRecDepth 20000 in
theorem ggX5_checkPermit_X3_hasPermit : GoodIn wsX5_checkPermit wsX3_hasPermit := goodIn_r _ [8, 9, 17, 18, 19, 20] (by decide +kernel) (by decide +kernel)
set_option maxRecDepth 20000 in
theorem gX5_checkPermit_X3_hasPermit : GoodIn wsX5_checkPermit (wsV RX5 394 RX3 yX3_hasPermit wsX3_hasPermit) := goodIn_app (goodIn_of _ (by decide +kernel)) ggX5_checkPermit_X3_hasPermit
theorem dX5_checkPermit_0 : decode cX5_checkPermit 0 = .ok (.aload_n 0, 1) := by decide +kernel
theorem dX5_checkPermit_1 : decode cX5_checkPermit 1 = .ok (.getfield 37, 3) := by decide +kernel
theorem dX5_checkPermit_4 : decode cX5_checkPermit 4 = .ok (.iload_n 1, 1) := by decide +kernel
theorem dX5_checkPermit_5 : decode cX5_checkPermit 5 = .ok (.invokevirtual 394, 3) := by decide +kernel
theorem dX5_checkPermit_8 : decode cX5_checkPermit 8 = .ok (.ifCond .ne 14, 3) := by decide +kernel
theorem dX5_checkPermit_11 : decode cX5_checkPermit 11 = .ok (.new 125, 3) := by decide +kernel
theorem dX5_checkPermit_14 : decode cX5_checkPermit 14 = .ok (.dup, 1) := by decide +kernel
theorem dX5_checkPermit_15 : decode cX5_checkPermit 15 = .ok (.ldc_w 397, 3) := by decide +kernel
theorem dX5_checkPermit_18 : decode cX5_checkPermit 18 = .ok (.invokespecial 129, 3) := by decide +kernel
theorem dX5_checkPermit_21 : decode cX5_checkPermit 21 = .ok (.athrow, 1) := by decide +kernel
theorem dX5_checkPermit_22 : decode cX5_checkPermit 22 = .ok (.return_, 1) := by decide +kernel
set_option maxRecDepth 20000 in
theorem ggX5_checkAtWork_X1_isAtWork : GoodIn wsX5_checkAtWork wsX1_isAtWork := goodIn_r _ [8, 9, 10, 18, 19, 20, 21] (by decide +kernel) (by decide +kernel)
set_option maxRecDepth 20000 in
theorem gX5_checkAtWork_X1_isAtWork : GoodIn wsX5_checkAtWork (wsV RX5 364 RX1 yX1_isAtWork wsX1_isAtWork) := goodIn_app (goodIn_of _ (by decide +kernel)) ggX5_checkAtWork_X1_isAtWork
theorem dX5_checkAtWork_0 : decode cX5_checkAtWork 0 = .ok (.aload_n 0, 1) := by decide +kernel
theorem dX5_checkAtWork_1 : decode cX5_checkAtWork 1 = .ok (.getfield 44, 3) := by decide +kernel
theorem dX5_checkAtWork_4 : decode cX5_checkAtWork 4 = .ok (.invokevirtual 364, 3) := by decide +kernel
theorem dX5_checkAtWork_7 : decode cX5_checkAtWork 7 = .ok (.ifCond .ne 14, 3) := by decide +kernel
theorem dX5_checkAtWork_10 : decode cX5_checkAtWork 10 = .ok (.new 71, 3) := by decide +kernel
theorem dX5_checkAtWork_13 : decode cX5_checkAtWork 13 = .ok (.dup, 1) := by decide +kernel
theorem dX5_checkAtWork_14 : decode cX5_checkAtWork 14 = .ok (.ldc_w 399, 3) := by decide +kernel
theorem dX5_checkAtWork_17 : decode cX5_checkAtWork 17 = .ok (.invokespecial 75, 3) := by decide +kernel
theorem dX5_checkAtWork_20 : decode cX5_checkAtWork 20 = .ok (.athrow, 1) := by decide +kernel
theorem dX5_checkAtWork_21 : decode cX5_checkAtWork 21 = .ok (.return_, 1) := by decide +kernel
set_option maxRecDepth 20000 in
theorem ggX5_checkHandOver_X1_isHandingOver : GoodIn wsX5_checkHandOver wsX1_isHandingOver := goodIn_r _ [8, 9, 17, 18, 19, 20] (by decide +kernel) (by decide +kernel)
set_option maxRecDepth 20000 in
theorem gX5_checkHandOver_X1_isHandingOver : GoodIn wsX5_checkHandOver (wsV RX5 401 RX1 yX1_isHandingOver wsX1_isHandingOver) := goodIn_app (goodIn_of _ (by decide +kernel)) ggX5_checkHandOver_X1_isHandingOver
theorem dX5_checkHandOver_0 : decode cX5_checkHandOver 0 = .ok (.aload_n 0, 1) := by decide +kernel
theorem dX5_checkHandOver_1 : decode cX5_checkHandOver 1 = .ok (.getfield 44, 3) := by decide +kernel
theorem dX5_checkHandOver_4 : decode cX5_checkHandOver 4 = .ok (.invokevirtual 401, 3) := by decide +kernel
theorem dX5_checkHandOver_7 : decode cX5_checkHandOver 7 = .ok (.ifCond .ne 14, 3) := by decide +kernel
theorem dX5_checkHandOver_10 : decode cX5_checkHandOver 10 = .ok (.new 71, 3) := by decide +kernel
theorem dX5_checkHandOver_13 : decode cX5_checkHandOver 13 = .ok (.dup, 1) := by decide +kernel
theorem dX5_checkHandOver_14 : decode cX5_checkHandOver 14 = .ok (.ldc_w 404, 3) := by decide +kernel
theorem dX5_checkHandOver_17 : decode cX5_checkHandOver 17 = .ok (.invokespecial 75, 3) := by decide +kernel
theorem dX5_checkHandOver_20 : decode cX5_checkHandOver 20 = .ok (.athrow, 1) := by decide +kernel
theorem dX5_checkHandOver_21 : decode cX5_checkHandOver 21 = .ok (.return_, 1) := by decide +kernel
set_option maxRecDepth 20000 in
theorem ggX5_checkUnit_X5_isUnit : GoodIn wsX5_checkUnit wsX5_isUnit := goodIn_r _ [6] (by decide +kernel) (by decide +kernel)
set_option maxRecDepth 20000 in
theorem gX5_checkUnit_X5_isUnit : GoodIn wsX5_checkUnit (va_wsS RX5 376 yX5_isUnit wsX5_isUnit) := goodIn_app (goodIn_of _ (by decide +kernel)) ggX5_checkUnit_X5_isUnit
theorem dX5_checkUnit_0 : decode cX5_checkUnit 0 = .ok (.iload_n 0, 1) := by decide +kernel
theorem dX5_checkUnit_1 : decode cX5_checkUnit 1 = .ok (.invokestatic 376, 3) := by decide +kernel
theorem dX5_checkUnit_4 : decode cX5_checkUnit 4 = .ok (.ifCond .ne 14, 3) := by decide +kernel
theorem dX5_checkUnit_7 : decode cX5_checkUnit 7 = .ok (.new 328, 3) := by decide +kernel
theorem dX5_checkUnit_10 : decode cX5_checkUnit 10 = .ok (.dup, 1) := by decide +kernel
theorem dX5_checkUnit_11 : decode cX5_checkUnit 11 = .ok (.ldc_w 406, 3) := by decide +kernel
theorem dX5_checkUnit_14 : decode cX5_checkUnit 14 = .ok (.invokespecial 332, 3) := by decide +kernel
theorem dX5_checkUnit_17 : decode cX5_checkUnit 17 = .ok (.athrow, 1) := by decide +kernel
theorem dX5_checkUnit_18 : decode cX5_checkUnit 18 = .ok (.return_, 1) := by decide +kernel
set_option maxRecDepth 20000 in
theorem ggX5_checkAlarm_X5_checkUnit : GoodIn wsX5_checkAlarm wsX5_checkUnit := goodIn_ca (goodIn_r _ [6, 1, 2, 7, 8, 5, 9] (by decide +kernel) (by decide +kernel)) (goodIn_sub (fun _ h => List.mem_cons_of_mem _ (List.mem_append_right _ h)) (by decide +kernel))
set_option maxRecDepth 20000 in
theorem gX5_checkAlarm_X5_checkUnit : GoodIn wsX5_checkAlarm (va_wsS RX5 48 yX5_checkUnit wsX5_checkUnit) := goodIn_app (goodIn_of _ (by decide +kernel)) ggX5_checkAlarm_X5_checkUnit
theorem dX5_checkAlarm_0 : decode cX5_checkAlarm 0 = .ok (.iload_n 0, 1) := by decide +kernel
theorem dX5_checkAlarm_1 : decode cX5_checkAlarm 1 = .ok (.invokestatic 48, 3) := by decide +kernel
theorem dX5_checkAlarm_4 : decode cX5_checkAlarm 4 = .ok (.iload_n 1, 1) := by decide +kernel
theorem dX5_checkAlarm_5 : decode cX5_checkAlarm 5 = .ok (.ifCond .lt 8, 3) := by decide +kernel
theorem dX5_checkAlarm_8 : decode cX5_checkAlarm 8 = .ok (.iload_n 1, 1) := by decide +kernel
theorem dX5_checkAlarm_9 : decode cX5_checkAlarm 9 = .ok (.iconst 4, 1) := by decide +kernel
theorem dX5_checkAlarm_10 : decode cX5_checkAlarm 10 = .ok (.if_icmp .lt 14, 3) := by decide +kernel
theorem dX5_checkAlarm_13 : decode cX5_checkAlarm 13 = .ok (.new 328, 3) := by decide +kernel
theorem dX5_checkAlarm_16 : decode cX5_checkAlarm 16 = .ok (.dup, 1) := by decide +kernel
theorem dX5_checkAlarm_17 : decode cX5_checkAlarm 17 = .ok (.ldc_w 408, 3) := by decide +kernel
theorem dX5_checkAlarm_20 : decode cX5_checkAlarm 20 = .ok (.invokespecial 332, 3) := by decide +kernel
theorem dX5_checkAlarm_23 : decode cX5_checkAlarm 23 = .ok (.athrow, 1) := by decide +kernel
theorem dX5_checkAlarm_24 : decode cX5_checkAlarm 24 = .ok (.return_, 1) := by decide +kernel
theorem dX5_checkPriority_0 : decode cX5_checkPriority 0 = .ok (.iload_n 0, 1) := by decide +kernel
theorem dX5_checkPriority_1 : decode cX5_checkPriority 1 = .ok (.iconst 1, 1) := by decide +kernel
theorem dX5_checkPriority_2 : decode cX5_checkPriority 2 = .ok (.if_icmp .lt 8, 3) := by decide +kernel
theorem dX5_checkPriority_5 : decode cX5_checkPriority 5 = .ok (.iload_n 0, 1) := by decide +kernel
theorem dX5_checkPriority_6 : decode cX5_checkPriority 6 = .ok (.iconst 5, 1) := by decide +kernel
theorem dX5_checkPriority_7 : decode cX5_checkPriority 7 = .ok (.if_icmp .le 14, 3) := by decide +kernel
theorem dX5_checkPriority_10 : decode cX5_checkPriority 10 = .ok (.new 105, 3) := by decide +kernel
theorem dX5_checkPriority_13 : decode cX5_checkPriority 13 = .ok (.dup, 1) := by decide +kernel
theorem dX5_checkPriority_14 : decode cX5_checkPriority 14 = .ok (.ldc_w 410, 3) := by decide +kernel
theorem dX5_checkPriority_17 : decode cX5_checkPriority 17 = .ok (.invokespecial 109, 3) := by decide +kernel
theorem dX5_checkPriority_20 : decode cX5_checkPriority 20 = .ok (.athrow, 1) := by decide +kernel
theorem dX5_checkPriority_21 : decode cX5_checkPriority 21 = .ok (.return_, 1) := by decide +kernel
theorem dX5_checkState_0 : decode cX5_checkState 0 = .ok (.iload_n 0, 1) := by decide +kernel
theorem dX5_checkState_1 : decode cX5_checkState 1 = .ok (.ifCond .lt 8, 3) := by decide +kernel
theorem dX5_checkState_4 : decode cX5_checkState 4 = .ok (.iload_n 0, 1) := by decide +kernel
theorem dX5_checkState_5 : decode cX5_checkState 5 = .ok (.iconst 4, 1) := by decide +kernel
theorem dX5_checkState_6 : decode cX5_checkState 6 = .ok (.if_icmp .lt 14, 3) := by decide +kernel
theorem dX5_checkState_9 : decode cX5_checkState 9 = .ok (.new 105, 3) := by decide +kernel
theorem dX5_checkState_12 : decode cX5_checkState 12 = .ok (.dup, 1) := by decide +kernel
theorem dX5_checkState_13 : decode cX5_checkState 13 = .ok (.ldc_w 412, 3) := by decide +kernel
theorem dX5_checkState_16 : decode cX5_checkState 16 = .ok (.invokespecial 109, 3) := by decide +kernel
theorem dX5_checkState_19 : decode cX5_checkState 19 = .ok (.athrow, 1) := by decide +kernel
theorem dX5_checkState_20 : decode cX5_checkState 20 = .ok (.return_, 1) := by decide +kernel
set_option maxRecDepth 20000 in
theorem ggX5_checkCrew_X5_isCrew : GoodIn wsX5_checkCrew wsX5_isCrew := goodIn_r _ [6] (by decide +kernel) (by decide +kernel)
set_option maxRecDepth 20000 in
theorem gX5_checkCrew_X5_isCrew : GoodIn wsX5_checkCrew (va_wsS RX5 414 yX5_isCrew wsX5_isCrew) := goodIn_app (goodIn_of _ (by decide +kernel)) ggX5_checkCrew_X5_isCrew
theorem dX5_checkCrew_0 : decode cX5_checkCrew 0 = .ok (.iload_n 0, 1) := by decide +kernel
theorem dX5_checkCrew_1 : decode cX5_checkCrew 1 = .ok (.invokestatic 414, 3) := by decide +kernel
theorem dX5_checkCrew_4 : decode cX5_checkCrew 4 = .ok (.ifCond .ne 14, 3) := by decide +kernel
theorem dX5_checkCrew_7 : decode cX5_checkCrew 7 = .ok (.new 105, 3) := by decide +kernel
theorem dX5_checkCrew_10 : decode cX5_checkCrew 10 = .ok (.dup, 1) := by decide +kernel
theorem dX5_checkCrew_11 : decode cX5_checkCrew 11 = .ok (.ldc_w 417, 3) := by decide +kernel
theorem dX5_checkCrew_14 : decode cX5_checkCrew 14 = .ok (.invokespecial 109, 3) := by decide +kernel
theorem dX5_checkCrew_17 : decode cX5_checkCrew 17 = .ok (.athrow, 1) := by decide +kernel
theorem dX5_checkCrew_18 : decode cX5_checkCrew 18 = .ok (.return_, 1) := by decide +kernel
theorem dX5_isUnit_0 : decode cX5_isUnit 0 = .ok (.iload_n 0, 1) := by decide +kernel
theorem dX5_isUnit_1 : decode cX5_isUnit 1 = .ok (.ifCond .lt 13, 3) := by decide +kernel
theorem dX5_isUnit_4 : decode cX5_isUnit 4 = .ok (.iload_n 0, 1) := by decide +kernel
theorem dX5_isUnit_5 : decode cX5_isUnit 5 = .ok (.bipush 8, 2) := by decide +kernel
theorem dX5_isUnit_7 : decode cX5_isUnit 7 = .ok (.if_icmp .ge 7, 3) := by decide +kernel
theorem dX5_isUnit_10 : decode cX5_isUnit 10 = .ok (.iconst 1, 1) := by decide +kernel
theorem dX5_isUnit_11 : decode cX5_isUnit 11 = .ok (.goto 4, 3) := by decide +kernel
theorem dX5_isUnit_14 : decode cX5_isUnit 14 = .ok (.iconst 0, 1) := by decide +kernel
theorem dX5_isUnit_15 : decode cX5_isUnit 15 = .ok (.ireturn, 1) := by decide +kernel
theorem dX5_isCrew_0 : decode cX5_isCrew 0 = .ok (.iload_n 0, 1) := by decide +kernel
theorem dX5_isCrew_1 : decode cX5_isCrew 1 = .ok (.ifCond .lt 12, 3) := by decide +kernel
theorem dX5_isCrew_4 : decode cX5_isCrew 4 = .ok (.iload_n 0, 1) := by decide +kernel
theorem dX5_isCrew_5 : decode cX5_isCrew 5 = .ok (.iconst 4, 1) := by decide +kernel
theorem dX5_isCrew_6 : decode cX5_isCrew 6 = .ok (.if_icmp .ge 7, 3) := by decide +kernel
theorem dX5_isCrew_9 : decode cX5_isCrew 9 = .ok (.iconst 1, 1) := by decide +kernel
theorem dX5_isCrew_10 : decode cX5_isCrew 10 = .ok (.goto 4, 3) := by decide +kernel
theorem dX5_isCrew_13 : decode cX5_isCrew 13 = .ok (.iconst 0, 1) := by decide +kernel
theorem dX5_isCrew_14 : decode cX5_isCrew 14 = .ok (.ireturn, 1) := by decide +kernel
set_option maxRecDepth 20000 in
theorem ggX5_unitBit_X5_isUnit : GoodIn wsX5_unitBit wsX5_isUnit := goodIn_r _ [4] (by decide +kernel) (by decide +kernel)
set_option maxRecDepth 20000 in
theorem gX5_unitBit_X5_isUnit : GoodIn wsX5_unitBit (va_wsS RX5 376 yX5_isUnit wsX5_isUnit) := goodIn_app (goodIn_of _ (by decide +kernel)) ggX5_unitBit_X5_isUnit
theorem dX5_unitBit_0 : decode cX5_unitBit 0 = .ok (.iload_n 0, 1) := by decide +kernel
theorem dX5_unitBit_1 : decode cX5_unitBit 1 = .ok (.invokestatic 376, 3) := by decide +kernel
theorem dX5_unitBit_4 : decode cX5_unitBit 4 = .ok (.ifCond .eq 9, 3) := by decide +kernel
theorem dX5_unitBit_7 : decode cX5_unitBit 7 = .ok (.iconst 1, 1) := by decide +kernel
theorem dX5_unitBit_8 : decode cX5_unitBit 8 = .ok (.iload_n 0, 1) := by decide +kernel
theorem dX5_unitBit_9 : decode cX5_unitBit 9 = .ok (.ishl, 1) := by decide +kernel
theorem dX5_unitBit_10 : decode cX5_unitBit 10 = .ok (.goto 4, 3) := by decide +kernel
theorem dX5_unitBit_13 : decode cX5_unitBit 13 = .ok (.iconst 0, 1) := by decide +kernel
theorem dX5_unitBit_14 : decode cX5_unitBit 14 = .ok (.ireturn, 1) := by decide +kernel
theorem dX5_alarmOf_0 : decode cX5_alarmOf 0 = .ok (.iload_n 0, 1) := by decide +kernel
theorem dX5_alarmOf_1 : decode cX5_alarmOf 1 = .ok (.iconst 4, 1) := by decide +kernel
theorem dX5_alarmOf_2 : decode cX5_alarmOf 2 = .ok (.imul, 1) := by decide +kernel
theorem dX5_alarmOf_3 : decode cX5_alarmOf 3 = .ok (.iload_n 1, 1) := by decide +kernel
theorem dX5_alarmOf_4 : decode cX5_alarmOf 4 = .ok (.iadd, 1) := by decide +kernel
theorem dX5_alarmOf_5 : decode cX5_alarmOf 5 = .ok (.ireturn, 1) := by decide +kernel
theorem dX5_stepPlace_0 : decode cX5_stepPlace 0 = .ok (.iload_n 0, 1) := by decide +kernel
theorem dX5_stepPlace_1 : decode cX5_stepPlace 1 = .ok (.bipush 8, 2) := by decide +kernel
theorem dX5_stepPlace_3 : decode cX5_stepPlace 3 = .ok (.imul, 1) := by decide +kernel
theorem dX5_stepPlace_4 : decode cX5_stepPlace 4 = .ok (.iload_n 1, 1) := by decide +kernel
theorem dX5_stepPlace_5 : decode cX5_stepPlace 5 = .ok (.iadd, 1) := by decide +kernel
theorem dX5_stepPlace_6 : decode cX5_stepPlace 6 = .ok (.ireturn, 1) := by decide +kernel
theorem dX5_stepNumber_0 : decode cX5_stepNumber 0 = .ok (.iload_n 0, 1) := by decide +kernel
theorem dX5_stepNumber_1 : decode cX5_stepNumber 1 = .ok (.bipush 8, 2) := by decide +kernel
theorem dX5_stepNumber_3 : decode cX5_stepNumber 3 = .ok (.irem, 1) := by decide +kernel
theorem dX5_stepNumber_4 : decode cX5_stepNumber 4 = .ok (.ireturn, 1) := by decide +kernel
theorem dX6_init_0 : decode cX6_init 0 = .ok (.aload_n 0, 1) := by decide +kernel
theorem dX6_init_1 : decode cX6_init 1 = .ok (.invokespecial 1, 3) := by decide +kernel
theorem dX6_init_4 : decode cX6_init 4 = .ok (.aload_n 0, 1) := by decide +kernel
theorem dX6_init_5 : decode cX6_init 5 = .ok (.bipush 8, 2) := by decide +kernel
theorem dX6_init_7 : decode cX6_init 7 = .ok (.newarray .int, 2) := by decide +kernel
theorem dX6_init_9 : decode cX6_init 9 = .ok (.putfield 7, 3) := by decide +kernel
theorem dX6_init_12 : decode cX6_init 12 = .ok (.aload_n 0, 1) := by decide +kernel
theorem dX6_init_13 : decode cX6_init 13 = .ok (.bipush 60, 2) := by decide +kernel
theorem dX6_init_15 : decode cX6_init 15 = .ok (.newarray .char, 2) := by decide +kernel
theorem dX6_init_17 : decode cX6_init 17 = .ok (.putfield 13, 3) := by decide +kernel
theorem dX6_init_20 : decode cX6_init 20 = .ok (.aload_n 0, 1) := by decide +kernel
theorem dX6_init_21 : decode cX6_init 21 = .ok (.bipush 60, 2) := by decide +kernel
theorem dX6_init_23 : decode cX6_init 23 = .ok (.newarray .boolean, 2) := by decide +kernel
theorem dX6_init_25 : decode cX6_init 25 = .ok (.putfield 17, 3) := by decide +kernel
theorem dX6_init_28 : decode cX6_init 28 = .ok (.aload_n 0, 1) := by decide +kernel
theorem dX6_init_29 : decode cX6_init 29 = .ok (.bipush 60, 2) := by decide +kernel
theorem dX6_init_31 : decode cX6_init 31 = .ok (.newarray .int, 2) := by decide +kernel
theorem dX6_init_33 : decode cX6_init 33 = .ok (.putfield 21, 3) := by decide +kernel
theorem dX6_init_36 : decode cX6_init 36 = .ok (.aload_n 0, 1) := by decide +kernel
theorem dX6_init_37 : decode cX6_init 37 = .ok (.bipush 60, 2) := by decide +kernel
theorem dX6_init_39 : decode cX6_init 39 = .ok (.newarray .int, 2) := by decide +kernel
theorem dX6_init_41 : decode cX6_init 41 = .ok (.putfield 24, 3) := by decide +kernel
theorem dX6_init_44 : decode cX6_init 44 = .ok (.aload_n 0, 1) := by decide +kernel
theorem dX6_init_45 : decode cX6_init 45 = .ok (.bipush 60, 2) := by decide +kernel
theorem dX6_init_47 : decode cX6_init 47 = .ok (.newarray .boolean, 2) := by decide +kernel
theorem dX6_init_49 : decode cX6_init 49 = .ok (.putfield 27, 3) := by decide +kernel
theorem dX6_init_52 : decode cX6_init 52 = .ok (.aload_n 0, 1) := by decide +kernel
theorem dX6_init_53 : decode cX6_init 53 = .ok (.bipush 32, 2) := by decide +kernel
theorem dX6_init_55 : decode cX6_init 55 = .ok (.newarray .int, 2) := by decide +kernel
theorem dX6_init_57 : decode cX6_init 57 = .ok (.putfield 30, 3) := by decide +kernel
theorem dX6_init_60 : decode cX6_init 60 = .ok (.aload_n 0, 1) := by decide +kernel
theorem dX6_init_61 : decode cX6_init 61 = .ok (.bipush 32, 2) := by decide +kernel
theorem dX6_init_63 : decode cX6_init 63 = .ok (.newarray .int, 2) := by decide +kernel
theorem dX6_init_65 : decode cX6_init 65 = .ok (.putfield 33, 3) := by decide +kernel
theorem dX6_init_68 : decode cX6_init 68 = .ok (.aload_n 0, 1) := by decide +kernel
theorem dX6_init_69 : decode cX6_init 69 = .ok (.bipush 32, 2) := by decide +kernel
theorem dX6_init_71 : decode cX6_init 71 = .ok (.newarray .int, 2) := by decide +kernel
theorem dX6_init_73 : decode cX6_init 73 = .ok (.putfield 36, 3) := by decide +kernel
theorem dX6_init_76 : decode cX6_init 76 = .ok (.aload_n 0, 1) := by decide +kernel
theorem dX6_init_77 : decode cX6_init 77 = .ok (.bipush 48, 2) := by decide +kernel
theorem dX6_init_79 : decode cX6_init 79 = .ok (.newarray .int, 2) := by decide +kernel
theorem dX6_init_81 : decode cX6_init 81 = .ok (.putfield 39, 3) := by decide +kernel
theorem dX6_init_84 : decode cX6_init 84 = .ok (.aload_n 0, 1) := by decide +kernel
theorem dX6_init_85 : decode cX6_init 85 = .ok (.bipush 48, 2) := by decide +kernel
theorem dX6_init_87 : decode cX6_init 87 = .ok (.newarray .int, 2) := by decide +kernel
theorem dX6_init_89 : decode cX6_init 89 = .ok (.putfield 42, 3) := by decide +kernel
theorem dX6_init_92 : decode cX6_init 92 = .ok (.aload_n 0, 1) := by decide +kernel
theorem dX6_init_93 : decode cX6_init 93 = .ok (.bipush 48, 2) := by decide +kernel
theorem dX6_init_95 : decode cX6_init 95 = .ok (.newarray .int, 2) := by decide +kernel
theorem dX6_init_97 : decode cX6_init 97 = .ok (.putfield 45, 3) := by decide +kernel
theorem dX6_init_100 : decode cX6_init 100 = .ok (.aload_n 0, 1) := by decide +kernel
theorem dX6_init_101 : decode cX6_init 101 = .ok (.bipush 48, 2) := by decide +kernel
theorem dX6_init_103 : decode cX6_init 103 = .ok (.newarray .int, 2) := by decide +kernel
theorem dX6_init_105 : decode cX6_init 105 = .ok (.putfield 48, 3) := by decide +kernel
theorem dX6_init_108 : decode cX6_init 108 = .ok (.aload_n 0, 1) := by decide +kernel
theorem dX6_init_109 : decode cX6_init 109 = .ok (.bipush 48, 2) := by decide +kernel
theorem dX6_init_111 : decode cX6_init 111 = .ok (.newarray .int, 2) := by decide +kernel
theorem dX6_init_113 : decode cX6_init 113 = .ok (.putfield 51, 3) := by decide +kernel
theorem dX6_init_116 : decode cX6_init 116 = .ok (.aload_n 0, 1) := by decide +kernel
theorem dX6_init_117 : decode cX6_init 117 = .ok (.bipush 48, 2) := by decide +kernel
theorem dX6_init_119 : decode cX6_init 119 = .ok (.newarray .int, 2) := by decide +kernel
theorem dX6_init_121 : decode cX6_init 121 = .ok (.putfield 54, 3) := by decide +kernel
theorem dX6_init_124 : decode cX6_init 124 = .ok (.aload_n 0, 1) := by decide +kernel
theorem dX6_init_125 : decode cX6_init 125 = .ok (.bipush 48, 2) := by decide +kernel
theorem dX6_init_127 : decode cX6_init 127 = .ok (.newarray .int, 2) := by decide +kernel
theorem dX6_init_129 : decode cX6_init 129 = .ok (.putfield 57, 3) := by decide +kernel
theorem dX6_init_132 : decode cX6_init 132 = .ok (.aload_n 0, 1) := by decide +kernel
theorem dX6_init_133 : decode cX6_init 133 = .ok (.bipush 6, 2) := by decide +kernel
theorem dX6_init_135 : decode cX6_init 135 = .ok (.newarray .int, 2) := by decide +kernel
theorem dX6_init_137 : decode cX6_init 137 = .ok (.putfield 60, 3) := by decide +kernel
theorem dX6_init_140 : decode cX6_init 140 = .ok (.aload_n 0, 1) := by decide +kernel
theorem dX6_init_141 : decode cX6_init 141 = .ok (.bipush 6, 2) := by decide +kernel
theorem dX6_init_143 : decode cX6_init 143 = .ok (.newarray .int, 2) := by decide +kernel
theorem dX6_init_145 : decode cX6_init 145 = .ok (.putfield 63, 3) := by decide +kernel
theorem dX6_init_148 : decode cX6_init 148 = .ok (.aload_n 0, 1) := by decide +kernel
theorem dX6_init_149 : decode cX6_init 149 = .ok (.bipush 8, 2) := by decide +kernel
theorem dX6_init_151 : decode cX6_init 151 = .ok (.newarray .int, 2) := by decide +kernel
theorem dX6_init_153 : decode cX6_init 153 = .ok (.putfield 66, 3) := by decide +kernel
theorem dX6_init_156 : decode cX6_init 156 = .ok (.aload_n 0, 1) := by decide +kernel
theorem dX6_init_157 : decode cX6_init 157 = .ok (.bipush 8, 2) := by decide +kernel
theorem dX6_init_159 : decode cX6_init 159 = .ok (.newarray .int, 2) := by decide +kernel
theorem dX6_init_161 : decode cX6_init 161 = .ok (.putfield 69, 3) := by decide +kernel
theorem dX6_init_164 : decode cX6_init 164 = .ok (.aload_n 0, 1) := by decide +kernel
theorem dX6_init_165 : decode cX6_init 165 = .ok (.iconst (-1), 1) := by decide +kernel
theorem dX6_init_166 : decode cX6_init 166 = .ok (.putfield 72, 3) := by decide +kernel
theorem dX6_init_169 : decode cX6_init 169 = .ok (.aload_n 0, 1) := by decide +kernel
theorem dX6_init_170 : decode cX6_init 170 = .ok (.iconst (-1), 1) := by decide +kernel
theorem dX6_init_171 : decode cX6_init 171 = .ok (.putfield 76, 3) := by decide +kernel
theorem dX6_init_174 : decode cX6_init 174 = .ok (.aload_n 0, 1) := by decide +kernel
theorem dX6_init_175 : decode cX6_init 175 = .ok (.iconst 4, 1) := by decide +kernel
theorem dX6_init_176 : decode cX6_init 176 = .ok (.newarray .int, 2) := by decide +kernel
theorem dX6_init_178 : decode cX6_init 178 = .ok (.putfield 79, 3) := by decide +kernel
theorem dX6_init_181 : decode cX6_init 181 = .ok (.iconst 0, 1) := by decide +kernel
theorem dX6_init_182 : decode cX6_init 182 = .ok (.istore_n 1, 1) := by decide +kernel
theorem dX6_init_183 : decode cX6_init 183 = .ok (.iload_n 1, 1) := by decide +kernel
theorem dX6_init_184 : decode cX6_init 184 = .ok (.bipush 32, 2) := by decide +kernel
theorem dX6_init_186 : decode cX6_init 186 = .ok (.if_icmp .ge 16, 3) := by decide +kernel
theorem dX6_init_189 : decode cX6_init 189 = .ok (.aload_n 0, 1) := by decide +kernel
theorem dX6_init_190 : decode cX6_init 190 = .ok (.getfield 30, 3) := by decide +kernel
theorem dX6_init_193 : decode cX6_init 193 = .ok (.iload_n 1, 1) := by decide +kernel
theorem dX6_init_194 : decode cX6_init 194 = .ok (.iconst (-1), 1) := by decide +kernel
theorem dX6_init_195 : decode cX6_init 195 = .ok (.iastore, 1) := by decide +kernel
theorem dX6_init_196 : decode cX6_init 196 = .ok (.iinc 1 1, 3) := by decide +kernel
theorem dX6_init_199 : decode cX6_init 199 = .ok (.goto (-16), 3) := by decide +kernel
theorem dX6_init_202 : decode cX6_init 202 = .ok (.iconst 0, 1) := by decide +kernel
theorem dX6_init_203 : decode cX6_init 203 = .ok (.istore_n 1, 1) := by decide +kernel
theorem dX6_init_204 : decode cX6_init 204 = .ok (.iload_n 1, 1) := by decide +kernel
theorem dX6_init_205 : decode cX6_init 205 = .ok (.iconst 4, 1) := by decide +kernel
theorem dX6_init_206 : decode cX6_init 206 = .ok (.if_icmp .ge 16, 3) := by decide +kernel
theorem dX6_init_209 : decode cX6_init 209 = .ok (.aload_n 0, 1) := by decide +kernel
theorem dX6_init_210 : decode cX6_init 210 = .ok (.getfield 79, 3) := by decide +kernel
theorem dX6_init_213 : decode cX6_init 213 = .ok (.iload_n 1, 1) := by decide +kernel
theorem dX6_init_214 : decode cX6_init 214 = .ok (.iconst (-1), 1) := by decide +kernel
theorem dX6_init_215 : decode cX6_init 215 = .ok (.iastore, 1) := by decide +kernel
theorem dX6_init_216 : decode cX6_init 216 = .ok (.iinc 1 1, 3) := by decide +kernel
theorem dX6_init_219 : decode cX6_init 219 = .ok (.goto (-15), 3) := by decide +kernel
theorem dX6_init_222 : decode cX6_init 222 = .ok (.return_, 1) := by decide +kernel
theorem dX6_thrown_0 : decode cX6_thrown 0 = .ok (.aload_n 0, 1) := by decide +kernel
theorem dX6_thrown_1 : decode cX6_thrown 1 = .ok (.getfield 82, 3) := by decide +kernel
theorem dX6_thrown_4 : decode cX6_thrown 4 = .ok (.ireturn, 1) := by decide +kernel
theorem dX6_in_0 : decode cX6_in 0 = .ok (.lload_n 0, 1) := by decide +kernel
theorem dX6_in_1 : decode cX6_in 1 = .ok (.lload_n 2, 1) := by decide +kernel
theorem dX6_in_2 : decode cX6_in 2 = .ok (.lcmp, 1) := by decide +kernel
theorem dX6_in_3 : decode cX6_in 3 = .ok (.ifCond .lt 14, 3) := by decide +kernel
theorem dX6_in_6 : decode cX6_in 6 = .ok (.lload_n 0, 1) := by decide +kernel
theorem dX6_in_7 : decode cX6_in 7 = .ok (.lload 4, 2) := by decide +kernel
theorem dX6_in_9 : decode cX6_in 9 = .ok (.lcmp, 1) := by decide +kernel
theorem dX6_in_10 : decode cX6_in 10 = .ok (.ifCond .gt 7, 3) := by decide +kernel
theorem dX6_in_13 : decode cX6_in 13 = .ok (.iconst 1, 1) := by decide +kernel
theorem dX6_in_14 : decode cX6_in 14 = .ok (.goto 4, 3) := by decide +kernel
theorem dX6_in_17 : decode cX6_in 17 = .ok (.iconst 0, 1) := by decide +kernel
theorem dX6_in_18 : decode cX6_in 18 = .ok (.ireturn, 1) := by decide +kernel
set_option maxRecDepth 20000 in
theorem ggX6_isUnit_X6_in : GoodIn wsX6_isUnit wsX6_in := goodIn_r _ [5] (by decide +kernel) (by decide +kernel)
set_option maxRecDepth 20000 in
theorem gX6_isUnit_X6_in : GoodIn wsX6_isUnit (va_wsS RX6 87 yX6_in wsX6_in) := goodIn_app (goodIn_of _ (by decide +kernel)) ggX6_isUnit_X6_in
theorem dX6_isUnit_0 : decode cX6_isUnit 0 = .ok (.iload_n 0, 1) := by decide +kernel
theorem dX6_isUnit_1 : decode cX6_isUnit 1 = .ok (.i2l, 1) := by decide +kernel
theorem dX6_isUnit_2 : decode cX6_isUnit 2 = .ok (.lconst 0, 1) := by decide +kernel
theorem dX6_isUnit_3 : decode cX6_isUnit 3 = .ok (.ldc2_w 85, 3) := by decide +kernel
theorem dX6_isUnit_6 : decode cX6_isUnit 6 = .ok (.invokestatic 87, 3) := by decide +kernel
theorem dX6_isUnit_9 : decode cX6_isUnit 9 = .ok (.ireturn, 1) := by decide +kernel
set_option maxRecDepth 20000 in
theorem ggX6_state_X6_isUnit : GoodIn wsX6_state wsX6_isUnit := goodIn_r _ [6, 7, 8, 9, 5, 10] (by decide +kernel) (by decide +kernel)
set_option maxRecDepth 20000 in
theorem gX6_state_X6_isUnit : GoodIn wsX6_state (va_wsS RX6 91 yX6_isUnit wsX6_isUnit) := goodIn_app (goodIn_of _ (by decide +kernel)) ggX6_state_X6_isUnit
theorem dX6_state_0 : decode cX6_state 0 = .ok (.aload_n 0, 1) := by decide +kernel
theorem dX6_state_1 : decode cX6_state 1 = .ok (.iload_n 1, 1) := by decide +kernel
theorem dX6_state_2 : decode cX6_state 2 = .ok (.invokestatic 91, 3) := by decide +kernel
theorem dX6_state_5 : decode cX6_state 5 = .ok (.ifCond .eq 7, 3) := by decide +kernel
theorem dX6_state_8 : decode cX6_state 8 = .ok (.iconst 0, 1) := by decide +kernel
theorem dX6_state_9 : decode cX6_state 9 = .ok (.goto 4, 3) := by decide +kernel
theorem dX6_state_12 : decode cX6_state 12 = .ok (.iconst 1, 1) := by decide +kernel
theorem dX6_state_13 : decode cX6_state 13 = .ok (.putfield 82, 3) := by decide +kernel
theorem dX6_state_16 : decode cX6_state 16 = .ok (.aload_n 0, 1) := by decide +kernel
theorem dX6_state_17 : decode cX6_state 17 = .ok (.getfield 82, 3) := by decide +kernel
theorem dX6_state_20 : decode cX6_state 20 = .ok (.ifCond .ne 12, 3) := by decide +kernel
theorem dX6_state_23 : decode cX6_state 23 = .ok (.aload_n 0, 1) := by decide +kernel
theorem dX6_state_24 : decode cX6_state 24 = .ok (.getfield 7, 3) := by decide +kernel
theorem dX6_state_27 : decode cX6_state 27 = .ok (.iload_n 1, 1) := by decide +kernel
theorem dX6_state_28 : decode cX6_state 28 = .ok (.iaload, 1) := by decide +kernel
theorem dX6_state_29 : decode cX6_state 29 = .ok (.goto 4, 3) := by decide +kernel
theorem dX6_state_32 : decode cX6_state 32 = .ok (.iconst (-1), 1) := by decide +kernel
theorem dX6_state_33 : decode cX6_state 33 = .ok (.ireturn, 1) := by decide +kernel
theorem dX6_opens_0 : decode cX6_opens 0 = .ok (.aload_n 0, 1) := by decide +kernel
theorem dX6_opens_1 : decode cX6_opens 1 = .ok (.getfield 13, 3) := by decide +kernel
theorem dX6_opens_4 : decode cX6_opens 4 = .ok (.aload_n 0, 1) := by decide +kernel
theorem dX6_opens_5 : decode cX6_opens 5 = .ok (.getfield 95, 3) := by decide +kernel
theorem dX6_opens_8 : decode cX6_opens 8 = .ok (.iload_n 1, 1) := by decide +kernel
theorem dX6_opens_9 : decode cX6_opens 9 = .ok (.castore, 1) := by decide +kernel
theorem dX6_opens_10 : decode cX6_opens 10 = .ok (.aload_n 0, 1) := by decide +kernel
theorem dX6_opens_11 : decode cX6_opens 11 = .ok (.getfield 17, 3) := by decide +kernel
theorem dX6_opens_14 : decode cX6_opens 14 = .ok (.aload_n 0, 1) := by decide +kernel
theorem dX6_opens_15 : decode cX6_opens 15 = .ok (.getfield 95, 3) := by decide +kernel
theorem dX6_opens_18 : decode cX6_opens 18 = .ok (.iconst 1, 1) := by decide +kernel
theorem dX6_opens_19 : decode cX6_opens 19 = .ok (.bastore, 1) := by decide +kernel
theorem dX6_opens_20 : decode cX6_opens 20 = .ok (.aload_n 0, 1) := by decide +kernel
theorem dX6_opens_21 : decode cX6_opens 21 = .ok (.getfield 21, 3) := by decide +kernel
theorem dX6_opens_24 : decode cX6_opens 24 = .ok (.aload_n 0, 1) := by decide +kernel
theorem dX6_opens_25 : decode cX6_opens 25 = .ok (.getfield 95, 3) := by decide +kernel
theorem dX6_opens_28 : decode cX6_opens 28 = .ok (.aload_n 0, 1) := by decide +kernel
theorem dX6_opens_29 : decode cX6_opens 29 = .ok (.getfield 98, 3) := by decide +kernel
theorem dX6_opens_32 : decode cX6_opens 32 = .ok (.iastore, 1) := by decide +kernel
theorem dX6_opens_33 : decode cX6_opens 33 = .ok (.aload_n 0, 1) := by decide +kernel
theorem dX6_opens_34 : decode cX6_opens 34 = .ok (.getfield 24, 3) := by decide +kernel
theorem dX6_opens_37 : decode cX6_opens 37 = .ok (.aload_n 0, 1) := by decide +kernel
theorem dX6_opens_38 : decode cX6_opens 38 = .ok (.getfield 95, 3) := by decide +kernel
theorem dX6_opens_41 : decode cX6_opens 41 = .ok (.iconst 0, 1) := by decide +kernel
theorem dX6_opens_42 : decode cX6_opens 42 = .ok (.iastore, 1) := by decide +kernel
theorem dX6_opens_43 : decode cX6_opens 43 = .ok (.aload_n 0, 1) := by decide +kernel
theorem dX6_opens_44 : decode cX6_opens 44 = .ok (.getfield 27, 3) := by decide +kernel
theorem dX6_opens_47 : decode cX6_opens 47 = .ok (.aload_n 0, 1) := by decide +kernel
theorem dX6_opens_48 : decode cX6_opens 48 = .ok (.getfield 95, 3) := by decide +kernel
theorem dX6_opens_51 : decode cX6_opens 51 = .ok (.iconst 0, 1) := by decide +kernel
theorem dX6_opens_52 : decode cX6_opens 52 = .ok (.bastore, 1) := by decide +kernel
theorem dX6_opens_53 : decode cX6_opens 53 = .ok (.aload_n 0, 1) := by decide +kernel
theorem dX6_opens_54 : decode cX6_opens 54 = .ok (.dup, 1) := by decide +kernel
theorem dX6_opens_55 : decode cX6_opens 55 = .ok (.getfield 95, 3) := by decide +kernel
theorem dX6_opens_58 : decode cX6_opens 58 = .ok (.iconst 1, 1) := by decide +kernel
theorem dX6_opens_59 : decode cX6_opens 59 = .ok (.iadd, 1) := by decide +kernel
theorem dX6_opens_60 : decode cX6_opens 60 = .ok (.putfield 95, 3) := by decide +kernel
theorem dX6_opens_63 : decode cX6_opens 63 = .ok (.aload_n 0, 1) := by decide +kernel
theorem dX6_opens_64 : decode cX6_opens 64 = .ok (.getfield 95, 3) := by decide +kernel
theorem dX6_opens_67 : decode cX6_opens 67 = .ok (.iconst 1, 1) := by decide +kernel
theorem dX6_opens_68 : decode cX6_opens 68 = .ok (.isub, 1) := by decide +kernel
theorem dX6_opens_69 : decode cX6_opens 69 = .ok (.ireturn, 1) := by decide +kernel
set_option maxRecDepth 20000 in
theorem ggX6_isAlarm_X6_isUnit : GoodIn wsX6_isAlarm wsX6_isUnit := goodIn_r _ [5, 6, 7, 8, 4, 9] (by decide +kernel) (by decide +kernel)
set_option maxRecDepth 20000 in
theorem gX6_isAlarm_X6_isUnit : GoodIn wsX6_isAlarm (va_wsS RX6 91 yX6_isUnit wsX6_isUnit) := goodIn_app (goodIn_of _ (by decide +kernel)) ggX6_isAlarm_X6_isUnit
set_option maxRecDepth 20000 in
theorem ggX6_isAlarm_X6_in : GoodIn wsX6_isAlarm wsX6_in := goodIn_r _ [9] (by decide +kernel) (by decide +kernel)
set_option maxRecDepth 20000 in
theorem gX6_isAlarm_X6_in : GoodIn wsX6_isAlarm (va_wsS RX6 87 yX6_in wsX6_in) := goodIn_app (goodIn_of _ (by decide +kernel)) ggX6_isAlarm_X6_in
theorem dX6_isAlarm_0 : decode cX6_isAlarm 0 = .ok (.iload_n 1, 1) := by decide +kernel
theorem dX6_isAlarm_1 : decode cX6_isAlarm 1 = .ok (.invokestatic 91, 3) := by decide +kernel
theorem dX6_isAlarm_4 : decode cX6_isAlarm 4 = .ok (.ifCond .eq 19, 3) := by decide +kernel
theorem dX6_isAlarm_7 : decode cX6_isAlarm 7 = .ok (.iload_n 2, 1) := by decide +kernel
theorem dX6_isAlarm_8 : decode cX6_isAlarm 8 = .ok (.i2l, 1) := by decide +kernel
theorem dX6_isAlarm_9 : decode cX6_isAlarm 9 = .ok (.lconst 0, 1) := by decide +kernel
theorem dX6_isAlarm_10 : decode cX6_isAlarm 10 = .ok (.ldc2_w 101, 3) := by decide +kernel
theorem dX6_isAlarm_13 : decode cX6_isAlarm 13 = .ok (.invokestatic 87, 3) := by decide +kernel
theorem dX6_isAlarm_16 : decode cX6_isAlarm 16 = .ok (.ifCond .eq 7, 3) := by decide +kernel
theorem dX6_isAlarm_19 : decode cX6_isAlarm 19 = .ok (.iconst 1, 1) := by decide +kernel
theorem dX6_isAlarm_20 : decode cX6_isAlarm 20 = .ok (.goto 4, 3) := by decide +kernel
theorem dX6_isAlarm_23 : decode cX6_isAlarm 23 = .ok (.iconst 0, 1) := by decide +kernel
theorem dX6_isAlarm_24 : decode cX6_isAlarm 24 = .ok (.ireturn, 1) := by decide +kernel
set_option maxRecDepth 20000 in
theorem ggX6_raise_X6_isAlarm : GoodIn wsX6_raise wsX6_isAlarm := goodIn_r _ [11, 12, 13, 14, 10, 15, 16, 17, 18, 19] (by decide +kernel) (by decide +kernel)
set_option maxRecDepth 20000 in
theorem gX6_raise_X6_isAlarm : GoodIn wsX6_raise (wsV RX6 103 RX6 yX6_isAlarm wsX6_isAlarm) := goodIn_app (goodIn_of _ (by decide +kernel)) ggX6_raise_X6_isAlarm
set_option maxRecDepth 20000 in
theorem ggX6_raise_X6_in : GoodIn wsX6_raise wsX6_in := goodIn_r _ [19] (by decide +kernel) (by decide +kernel)
set_option maxRecDepth 20000 in
theorem gX6_raise_X6_in : GoodIn wsX6_raise (va_wsS RX6 87 yX6_in wsX6_in) := goodIn_app (goodIn_of _ (by decide +kernel)) ggX6_raise_X6_in
set_option maxRecDepth 20000 in
theorem ggX6_raise_X6_opens : GoodIn wsX6_raise wsX6_opens := goodIn_ca (goodIn_r _ [23, 24, 4, 25, 26, 27, 28, 29, 30, 31, 32, 33, 34, 35, 36, 37, 38, 39, 40, 41, 42, 43, 44, 45, 46, 47, 48, 49, 50, 51, 52, 53, 54, 55, 56, 57, 58] (by decide +kernel) (by decide +kernel)) (goodIn_sub (fun _ h => List.mem_cons_of_mem _ (List.mem_append_right _ h)) (by decide +kernel))
set_option maxRecDepth 20000 in
theorem gX6_raise_X6_opens : GoodIn wsX6_raise (wsV RX6 109 RX6 yX6_opens wsX6_opens) := goodIn_app (goodIn_of _ (by decide +kernel)) ggX6_raise_X6_opens
theorem dX6_raise_0 : decode cX6_raise 0 = .ok (.aload_n 0, 1) := by decide +kernel
theorem dX6_raise_1 : decode cX6_raise 1 = .ok (.iload_n 1, 1) := by decide +kernel
theorem dX6_raise_2 : decode cX6_raise 2 = .ok (.iload_n 2, 1) := by decide +kernel
theorem dX6_raise_3 : decode cX6_raise 3 = .ok (.invokevirtual 103, 3) := by decide +kernel
theorem dX6_raise_6 : decode cX6_raise 6 = .ok (.ifCond .eq 15, 3) := by decide +kernel
theorem dX6_raise_9 : decode cX6_raise 9 = .ok (.iload_n 3, 1) := by decide +kernel
theorem dX6_raise_10 : decode cX6_raise 10 = .ok (.i2l, 1) := by decide +kernel
theorem dX6_raise_11 : decode cX6_raise 11 = .ok (.lconst 1, 1) := by decide +kernel
theorem dX6_raise_12 : decode cX6_raise 12 = .ok (.ldc2_w 107, 3) := by decide +kernel
theorem dX6_raise_15 : decode cX6_raise 15 = .ok (.invokestatic 87, 3) := by decide +kernel
theorem dX6_raise_18 : decode cX6_raise 18 = .ok (.ifCond .ne 23, 3) := by decide +kernel
theorem dX6_raise_21 : decode cX6_raise 21 = .ok (.aload_n 0, 1) := by decide +kernel
theorem dX6_raise_22 : decode cX6_raise 22 = .ok (.aload_n 0, 1) := by decide +kernel
theorem dX6_raise_23 : decode cX6_raise 23 = .ok (.iload_n 1, 1) := by decide +kernel
theorem dX6_raise_24 : decode cX6_raise 24 = .ok (.iload_n 2, 1) := by decide +kernel
theorem dX6_raise_25 : decode cX6_raise 25 = .ok (.invokevirtual 103, 3) := by decide +kernel
theorem dX6_raise_28 : decode cX6_raise 28 = .ok (.ifCond .ne 7, 3) := by decide +kernel
theorem dX6_raise_31 : decode cX6_raise 31 = .ok (.iconst 1, 1) := by decide +kernel
theorem dX6_raise_32 : decode cX6_raise 32 = .ok (.goto 4, 3) := by decide +kernel
theorem dX6_raise_35 : decode cX6_raise 35 = .ok (.iconst 2, 1) := by decide +kernel
theorem dX6_raise_36 : decode cX6_raise 36 = .ok (.putfield 82, 3) := by decide +kernel
theorem dX6_raise_39 : decode cX6_raise 39 = .ok (.iconst (-1), 1) := by decide +kernel
theorem dX6_raise_40 : decode cX6_raise 40 = .ok (.ireturn, 1) := by decide +kernel
theorem dX6_raise_41 : decode cX6_raise 41 = .ok (.iconst 4, 1) := by decide +kernel
theorem dX6_raise_42 : decode cX6_raise 42 = .ok (.iload_n 1, 1) := by decide +kernel
theorem dX6_raise_43 : decode cX6_raise 43 = .ok (.imul, 1) := by decide +kernel
theorem dX6_raise_44 : decode cX6_raise 44 = .ok (.iload_n 2, 1) := by decide +kernel
theorem dX6_raise_45 : decode cX6_raise 45 = .ok (.iadd, 1) := by decide +kernel
theorem dX6_raise_46 : decode cX6_raise 46 = .ok (.istore 4, 2) := by decide +kernel
theorem dX6_raise_48 : decode cX6_raise 48 = .ok (.aload_n 0, 1) := by decide +kernel
theorem dX6_raise_49 : decode cX6_raise 49 = .ok (.aload_n 0, 1) := by decide +kernel
theorem dX6_raise_50 : decode cX6_raise 50 = .ok (.getfield 30, 3) := by decide +kernel
theorem dX6_raise_53 : decode cX6_raise 53 = .ok (.iload 4, 2) := by decide +kernel
theorem dX6_raise_55 : decode cX6_raise 55 = .ok (.iaload, 1) := by decide +kernel
theorem dX6_raise_56 : decode cX6_raise 56 = .ok (.iconst (-1), 1) := by decide +kernel
theorem dX6_raise_57 : decode cX6_raise 57 = .ok (.if_icmp .ne 12, 3) := by decide +kernel
theorem dX6_raise_60 : decode cX6_raise 60 = .ok (.aload_n 0, 1) := by decide +kernel
theorem dX6_raise_61 : decode cX6_raise 61 = .ok (.getfield 95, 3) := by decide +kernel
theorem dX6_raise_64 : decode cX6_raise 64 = .ok (.bipush 60, 2) := by decide +kernel
theorem dX6_raise_66 : decode cX6_raise 66 = .ok (.if_icmp .ne 7, 3) := by decide +kernel
theorem dX6_raise_69 : decode cX6_raise 69 = .ok (.iconst 3, 1) := by decide +kernel
theorem dX6_raise_70 : decode cX6_raise 70 = .ok (.goto 4, 3) := by decide +kernel
theorem dX6_raise_73 : decode cX6_raise 73 = .ok (.iconst 0, 1) := by decide +kernel
theorem dX6_raise_74 : decode cX6_raise 74 = .ok (.putfield 82, 3) := by decide +kernel
theorem dX6_raise_77 : decode cX6_raise 77 = .ok (.aload_n 0, 1) := by decide +kernel
theorem dX6_raise_78 : decode cX6_raise 78 = .ok (.getfield 82, 3) := by decide +kernel
theorem dX6_raise_81 : decode cX6_raise 81 = .ok (.ifCond .le 5, 3) := by decide +kernel
theorem dX6_raise_84 : decode cX6_raise 84 = .ok (.iconst (-1), 1) := by decide +kernel
theorem dX6_raise_85 : decode cX6_raise 85 = .ok (.ireturn, 1) := by decide +kernel
theorem dX6_raise_86 : decode cX6_raise 86 = .ok (.aload_n 0, 1) := by decide +kernel
theorem dX6_raise_87 : decode cX6_raise 87 = .ok (.getfield 30, 3) := by decide +kernel
theorem dX6_raise_90 : decode cX6_raise 90 = .ok (.iload 4, 2) := by decide +kernel
theorem dX6_raise_92 : decode cX6_raise 92 = .ok (.aload_n 0, 1) := by decide +kernel
theorem dX6_raise_93 : decode cX6_raise 93 = .ok (.bipush 97, 2) := by decide +kernel
theorem dX6_raise_95 : decode cX6_raise 95 = .ok (.invokevirtual 109, 3) := by decide +kernel
theorem dX6_raise_98 : decode cX6_raise 98 = .ok (.iastore, 1) := by decide +kernel
theorem dX6_raise_99 : decode cX6_raise 99 = .ok (.aload_n 0, 1) := by decide +kernel
theorem dX6_raise_100 : decode cX6_raise 100 = .ok (.getfield 33, 3) := by decide +kernel
theorem dX6_raise_103 : decode cX6_raise 103 = .ok (.iload 4, 2) := by decide +kernel
theorem dX6_raise_105 : decode cX6_raise 105 = .ok (.iload_n 3, 1) := by decide +kernel
theorem dX6_raise_106 : decode cX6_raise 106 = .ok (.iastore, 1) := by decide +kernel
theorem dX6_raise_107 : decode cX6_raise 107 = .ok (.aload_n 0, 1) := by decide +kernel
theorem dX6_raise_108 : decode cX6_raise 108 = .ok (.getfield 36, 3) := by decide +kernel
theorem dX6_raise_111 : decode cX6_raise 111 = .ok (.iload 4, 2) := by decide +kernel
theorem dX6_raise_113 : decode cX6_raise 113 = .ok (.iconst 0, 1) := by decide +kernel
theorem dX6_raise_114 : decode cX6_raise 114 = .ok (.iastore, 1) := by decide +kernel
theorem dX6_raise_115 : decode cX6_raise 115 = .ok (.aload_n 0, 1) := by decide +kernel
theorem dX6_raise_116 : decode cX6_raise 116 = .ok (.getfield 30, 3) := by decide +kernel
theorem dX6_raise_119 : decode cX6_raise 119 = .ok (.iload 4, 2) := by decide +kernel
theorem dX6_raise_121 : decode cX6_raise 121 = .ok (.iaload, 1) := by decide +kernel
theorem dX6_raise_122 : decode cX6_raise 122 = .ok (.ireturn, 1) := by decide +kernel
set_option maxRecDepth 20000 in
theorem ggX6_clear_X6_isAlarm : GoodIn wsX6_clear wsX6_isAlarm := goodIn_r _ [8, 9, 10, 11, 7, 12, 13, 14, 15, 16] (by decide +kernel) (by decide +kernel)
set_option maxRecDepth 20000 in
theorem gX6_clear_X6_isAlarm : GoodIn wsX6_clear (wsV RX6 103 RX6 yX6_isAlarm wsX6_isAlarm) := goodIn_app (goodIn_of _ (by decide +kernel)) ggX6_clear_X6_isAlarm
theorem dX6_clear_0 : decode cX6_clear 0 = .ok (.aload_n 0, 1) := by decide +kernel
theorem dX6_clear_1 : decode cX6_clear 1 = .ok (.aload_n 0, 1) := by decide +kernel
theorem dX6_clear_2 : decode cX6_clear 2 = .ok (.iload_n 1, 1) := by decide +kernel
theorem dX6_clear_3 : decode cX6_clear 3 = .ok (.iload_n 2, 1) := by decide +kernel
theorem dX6_clear_4 : decode cX6_clear 4 = .ok (.invokevirtual 103, 3) := by decide +kernel
theorem dX6_clear_7 : decode cX6_clear 7 = .ok (.ifCond .ne 7, 3) := by decide +kernel
theorem dX6_clear_10 : decode cX6_clear 10 = .ok (.iconst 1, 1) := by decide +kernel
theorem dX6_clear_11 : decode cX6_clear 11 = .ok (.goto 22, 3) := by decide +kernel
theorem dX6_clear_14 : decode cX6_clear 14 = .ok (.aload_n 0, 1) := by decide +kernel
theorem dX6_clear_15 : decode cX6_clear 15 = .ok (.getfield 30, 3) := by decide +kernel
theorem dX6_clear_18 : decode cX6_clear 18 = .ok (.iconst 4, 1) := by decide +kernel
theorem dX6_clear_19 : decode cX6_clear 19 = .ok (.iload_n 1, 1) := by decide +kernel
theorem dX6_clear_20 : decode cX6_clear 20 = .ok (.imul, 1) := by decide +kernel
theorem dX6_clear_21 : decode cX6_clear 21 = .ok (.iload_n 2, 1) := by decide +kernel
theorem dX6_clear_22 : decode cX6_clear 22 = .ok (.iadd, 1) := by decide +kernel
theorem dX6_clear_23 : decode cX6_clear 23 = .ok (.iaload, 1) := by decide +kernel
theorem dX6_clear_24 : decode cX6_clear 24 = .ok (.iconst (-1), 1) := by decide +kernel
theorem dX6_clear_25 : decode cX6_clear 25 = .ok (.if_icmp .ne 7, 3) := by decide +kernel
theorem dX6_clear_28 : decode cX6_clear 28 = .ok (.iconst 2, 1) := by decide +kernel
theorem dX6_clear_29 : decode cX6_clear 29 = .ok (.goto 4, 3) := by decide +kernel
theorem dX6_clear_32 : decode cX6_clear 32 = .ok (.iconst 0, 1) := by decide +kernel
theorem dX6_clear_33 : decode cX6_clear 33 = .ok (.putfield 82, 3) := by decide +kernel
theorem dX6_clear_36 : decode cX6_clear 36 = .ok (.aload_n 0, 1) := by decide +kernel
theorem dX6_clear_37 : decode cX6_clear 37 = .ok (.getfield 82, 3) := by decide +kernel
theorem dX6_clear_40 : decode cX6_clear 40 = .ok (.ifCond .le 5, 3) := by decide +kernel
theorem dX6_clear_43 : decode cX6_clear 43 = .ok (.iconst (-1), 1) := by decide +kernel
theorem dX6_clear_44 : decode cX6_clear 44 = .ok (.ireturn, 1) := by decide +kernel
theorem dX6_clear_45 : decode cX6_clear 45 = .ok (.aload_n 0, 1) := by decide +kernel
theorem dX6_clear_46 : decode cX6_clear 46 = .ok (.getfield 30, 3) := by decide +kernel
theorem dX6_clear_49 : decode cX6_clear 49 = .ok (.iconst 4, 1) := by decide +kernel
theorem dX6_clear_50 : decode cX6_clear 50 = .ok (.iload_n 1, 1) := by decide +kernel
theorem dX6_clear_51 : decode cX6_clear 51 = .ok (.imul, 1) := by decide +kernel
theorem dX6_clear_52 : decode cX6_clear 52 = .ok (.iload_n 2, 1) := by decide +kernel
theorem dX6_clear_53 : decode cX6_clear 53 = .ok (.iadd, 1) := by decide +kernel
theorem dX6_clear_54 : decode cX6_clear 54 = .ok (.iaload, 1) := by decide +kernel
theorem dX6_clear_55 : decode cX6_clear 55 = .ok (.istore_n 3, 1) := by decide +kernel
theorem dX6_clear_56 : decode cX6_clear 56 = .ok (.aload_n 0, 1) := by decide +kernel
theorem dX6_clear_57 : decode cX6_clear 57 = .ok (.getfield 17, 3) := by decide +kernel
theorem dX6_clear_60 : decode cX6_clear 60 = .ok (.iload_n 3, 1) := by decide +kernel
theorem dX6_clear_61 : decode cX6_clear 61 = .ok (.iconst 0, 1) := by decide +kernel
theorem dX6_clear_62 : decode cX6_clear 62 = .ok (.bastore, 1) := by decide +kernel
theorem dX6_clear_63 : decode cX6_clear 63 = .ok (.aload_n 0, 1) := by decide +kernel
theorem dX6_clear_64 : decode cX6_clear 64 = .ok (.getfield 30, 3) := by decide +kernel
theorem dX6_clear_67 : decode cX6_clear 67 = .ok (.iconst 4, 1) := by decide +kernel
theorem dX6_clear_68 : decode cX6_clear 68 = .ok (.iload_n 1, 1) := by decide +kernel
theorem dX6_clear_69 : decode cX6_clear 69 = .ok (.imul, 1) := by decide +kernel
theorem dX6_clear_70 : decode cX6_clear 70 = .ok (.iload_n 2, 1) := by decide +kernel
theorem dX6_clear_71 : decode cX6_clear 71 = .ok (.iadd, 1) := by decide +kernel
theorem dX6_clear_72 : decode cX6_clear 72 = .ok (.iconst (-1), 1) := by decide +kernel
theorem dX6_clear_73 : decode cX6_clear 73 = .ok (.iastore, 1) := by decide +kernel
theorem dX6_clear_74 : decode cX6_clear 74 = .ok (.iload_n 3, 1) := by decide +kernel
theorem dX6_clear_75 : decode cX6_clear 75 = .ok (.ireturn, 1) := by decide +kernel
theorem dX6_isShelved_0 : decode cX6_isShelved 0 = .ok (.aload_n 0, 1) := by decide +kernel
theorem dX6_isShelved_1 : decode cX6_isShelved 1 = .ok (.getfield 30, 3) := by decide +kernel
theorem dX6_isShelved_4 : decode cX6_isShelved 4 = .ok (.iload_n 1, 1) := by decide +kernel
theorem dX6_isShelved_5 : decode cX6_isShelved 5 = .ok (.iaload, 1) := by decide +kernel
theorem dX6_isShelved_6 : decode cX6_isShelved 6 = .ok (.iconst (-1), 1) := by decide +kernel
theorem dX6_isShelved_7 : decode cX6_isShelved 7 = .ok (.if_icmp .eq 20, 3) := by decide +kernel
theorem dX6_isShelved_10 : decode cX6_isShelved 10 = .ok (.aload_n 0, 1) := by decide +kernel
theorem dX6_isShelved_11 : decode cX6_isShelved 11 = .ok (.getfield 98, 3) := by decide +kernel
theorem dX6_isShelved_14 : decode cX6_isShelved 14 = .ok (.aload_n 0, 1) := by decide +kernel
theorem dX6_isShelved_15 : decode cX6_isShelved 15 = .ok (.getfield 36, 3) := by decide +kernel
theorem dX6_isShelved_18 : decode cX6_isShelved 18 = .ok (.iload_n 1, 1) := by decide +kernel
theorem dX6_isShelved_19 : decode cX6_isShelved 19 = .ok (.iaload, 1) := by decide +kernel
theorem dX6_isShelved_20 : decode cX6_isShelved 20 = .ok (.if_icmp .ge 7, 3) := by decide +kernel
theorem dX6_isShelved_23 : decode cX6_isShelved 23 = .ok (.iconst 1, 1) := by decide +kernel
theorem dX6_isShelved_24 : decode cX6_isShelved 24 = .ok (.goto 4, 3) := by decide +kernel
theorem dX6_isShelved_27 : decode cX6_isShelved 27 = .ok (.iconst 0, 1) := by decide +kernel
theorem dX6_isShelved_28 : decode cX6_isShelved 28 = .ok (.ireturn, 1) := by decide +kernel
set_option maxRecDepth 20000 in
theorem ggX6_shelve_X6_isAlarm : GoodIn wsX6_shelve wsX6_isAlarm := goodIn_r _ [10, 11, 12, 13, 9, 14, 15, 16, 17, 18] (by decide +kernel) (by decide +kernel)
set_option maxRecDepth 20000 in
theorem gX6_shelve_X6_isAlarm : GoodIn wsX6_shelve (wsV RX6 103 RX6 yX6_isAlarm wsX6_isAlarm) := goodIn_app (goodIn_of _ (by decide +kernel)) ggX6_shelve_X6_isAlarm
set_option maxRecDepth 20000 in
theorem ggX6_shelve_X6_in : GoodIn wsX6_shelve wsX6_in := goodIn_r _ [18] (by decide +kernel) (by decide +kernel)
set_option maxRecDepth 20000 in
theorem gX6_shelve_X6_in : GoodIn wsX6_shelve (va_wsS RX6 87 yX6_in wsX6_in) := goodIn_app (goodIn_of _ (by decide +kernel)) ggX6_shelve_X6_in
set_option maxRecDepth 20000 in
theorem ggX6_shelve_X6_isShelved : GoodIn wsX6_shelve wsX6_isShelved := goodIn_ca (goodIn_r _ [22, 1, 5, 4, 23, 24, 25, 26, 27, 28, 29, 30, 31, 32, 33, 34, 35, 36, 37, 38, 39, 40, 41, 42, 43, 44, 45, 46, 47, 48, 49, 50, 51] (by decide +kernel) (by decide +kernel)) (goodIn_sub (fun _ h => List.mem_cons_of_mem _ (List.mem_append_right _ h)) (by decide +kernel))
set_option maxRecDepth 20000 in
theorem gX6_shelve_X6_isShelved : GoodIn wsX6_shelve (wsV RX6 115 RX6 yX6_isShelved wsX6_isShelved) := goodIn_app (goodIn_of _ (by decide +kernel)) ggX6_shelve_X6_isShelved
theorem dX6_shelve_0 : decode cX6_shelve 0 = .ok (.aload_n 0, 1) := by decide +kernel
theorem dX6_shelve_1 : decode cX6_shelve 1 = .ok (.iload_n 1, 1) := by decide +kernel
theorem dX6_shelve_2 : decode cX6_shelve 2 = .ok (.iload_n 2, 1) := by decide +kernel
theorem dX6_shelve_3 : decode cX6_shelve 3 = .ok (.invokevirtual 103, 3) := by decide +kernel
theorem dX6_shelve_6 : decode cX6_shelve 6 = .ok (.ifCond .eq 17, 3) := by decide +kernel
theorem dX6_shelve_9 : decode cX6_shelve 9 = .ok (.aload_n 0, 1) := by decide +kernel
theorem dX6_shelve_10 : decode cX6_shelve 10 = .ok (.getfield 30, 3) := by decide +kernel
theorem dX6_shelve_13 : decode cX6_shelve 13 = .ok (.iconst 4, 1) := by decide +kernel
theorem dX6_shelve_14 : decode cX6_shelve 14 = .ok (.iload_n 1, 1) := by decide +kernel
theorem dX6_shelve_15 : decode cX6_shelve 15 = .ok (.imul, 1) := by decide +kernel
theorem dX6_shelve_16 : decode cX6_shelve 16 = .ok (.iload_n 2, 1) := by decide +kernel
theorem dX6_shelve_17 : decode cX6_shelve 17 = .ok (.iadd, 1) := by decide +kernel
theorem dX6_shelve_18 : decode cX6_shelve 18 = .ok (.iaload, 1) := by decide +kernel
theorem dX6_shelve_19 : decode cX6_shelve 19 = .ok (.iconst (-1), 1) := by decide +kernel
theorem dX6_shelve_20 : decode cX6_shelve 20 = .ok (.if_icmp .ne 23, 3) := by decide +kernel
theorem dX6_shelve_23 : decode cX6_shelve 23 = .ok (.aload_n 0, 1) := by decide +kernel
theorem dX6_shelve_24 : decode cX6_shelve 24 = .ok (.aload_n 0, 1) := by decide +kernel
theorem dX6_shelve_25 : decode cX6_shelve 25 = .ok (.iload_n 1, 1) := by decide +kernel
theorem dX6_shelve_26 : decode cX6_shelve 26 = .ok (.iload_n 2, 1) := by decide +kernel
theorem dX6_shelve_27 : decode cX6_shelve 27 = .ok (.invokevirtual 103, 3) := by decide +kernel
theorem dX6_shelve_30 : decode cX6_shelve 30 = .ok (.ifCond .ne 7, 3) := by decide +kernel
theorem dX6_shelve_33 : decode cX6_shelve 33 = .ok (.iconst 1, 1) := by decide +kernel
theorem dX6_shelve_34 : decode cX6_shelve 34 = .ok (.goto 4, 3) := by decide +kernel
theorem dX6_shelve_37 : decode cX6_shelve 37 = .ok (.iconst 2, 1) := by decide +kernel
theorem dX6_shelve_38 : decode cX6_shelve 38 = .ok (.putfield 82, 3) := by decide +kernel
theorem dX6_shelve_41 : decode cX6_shelve 41 = .ok (.iconst (-1), 1) := by decide +kernel
theorem dX6_shelve_42 : decode cX6_shelve 42 = .ok (.ireturn, 1) := by decide +kernel
theorem dX6_shelve_43 : decode cX6_shelve 43 = .ok (.iconst 4, 1) := by decide +kernel
theorem dX6_shelve_44 : decode cX6_shelve 44 = .ok (.iload_n 1, 1) := by decide +kernel
theorem dX6_shelve_45 : decode cX6_shelve 45 = .ok (.imul, 1) := by decide +kernel
theorem dX6_shelve_46 : decode cX6_shelve 46 = .ok (.iload_n 2, 1) := by decide +kernel
theorem dX6_shelve_47 : decode cX6_shelve 47 = .ok (.iadd, 1) := by decide +kernel
theorem dX6_shelve_48 : decode cX6_shelve 48 = .ok (.istore 4, 2) := by decide +kernel
theorem dX6_shelve_50 : decode cX6_shelve 50 = .ok (.aload_n 0, 1) := by decide +kernel
theorem dX6_shelve_51 : decode cX6_shelve 51 = .ok (.iload_n 3, 1) := by decide +kernel
theorem dX6_shelve_52 : decode cX6_shelve 52 = .ok (.i2l, 1) := by decide +kernel
theorem dX6_shelve_53 : decode cX6_shelve 53 = .ok (.lconst 1, 1) := by decide +kernel
theorem dX6_shelve_54 : decode cX6_shelve 54 = .ok (.ldc2_w 113, 3) := by decide +kernel
theorem dX6_shelve_57 : decode cX6_shelve 57 = .ok (.invokestatic 87, 3) := by decide +kernel
theorem dX6_shelve_60 : decode cX6_shelve 60 = .ok (.ifCond .ne 7, 3) := by decide +kernel
theorem dX6_shelve_63 : decode cX6_shelve 63 = .ok (.iconst 3, 1) := by decide +kernel
theorem dX6_shelve_64 : decode cX6_shelve 64 = .ok (.goto 17, 3) := by decide +kernel
theorem dX6_shelve_67 : decode cX6_shelve 67 = .ok (.aload_n 0, 1) := by decide +kernel
theorem dX6_shelve_68 : decode cX6_shelve 68 = .ok (.iload 4, 2) := by decide +kernel
theorem dX6_shelve_70 : decode cX6_shelve 70 = .ok (.invokevirtual 115, 3) := by decide +kernel
theorem dX6_shelve_73 : decode cX6_shelve 73 = .ok (.ifCond .eq 7, 3) := by decide +kernel
theorem dX6_shelve_76 : decode cX6_shelve 76 = .ok (.iconst 4, 1) := by decide +kernel
theorem dX6_shelve_77 : decode cX6_shelve 77 = .ok (.goto 4, 3) := by decide +kernel
theorem dX6_shelve_80 : decode cX6_shelve 80 = .ok (.iconst 0, 1) := by decide +kernel
theorem dX6_shelve_81 : decode cX6_shelve 81 = .ok (.putfield 82, 3) := by decide +kernel
theorem dX6_shelve_84 : decode cX6_shelve 84 = .ok (.aload_n 0, 1) := by decide +kernel
theorem dX6_shelve_85 : decode cX6_shelve 85 = .ok (.getfield 82, 3) := by decide +kernel
theorem dX6_shelve_88 : decode cX6_shelve 88 = .ok (.ifCond .le 5, 3) := by decide +kernel
theorem dX6_shelve_91 : decode cX6_shelve 91 = .ok (.iconst (-1), 1) := by decide +kernel
theorem dX6_shelve_92 : decode cX6_shelve 92 = .ok (.ireturn, 1) := by decide +kernel
theorem dX6_shelve_93 : decode cX6_shelve 93 = .ok (.aload_n 0, 1) := by decide +kernel
theorem dX6_shelve_94 : decode cX6_shelve 94 = .ok (.getfield 36, 3) := by decide +kernel
theorem dX6_shelve_97 : decode cX6_shelve 97 = .ok (.iload 4, 2) := by decide +kernel
theorem dX6_shelve_99 : decode cX6_shelve 99 = .ok (.aload_n 0, 1) := by decide +kernel
theorem dX6_shelve_100 : decode cX6_shelve 100 = .ok (.getfield 98, 3) := by decide +kernel
theorem dX6_shelve_103 : decode cX6_shelve 103 = .ok (.iload_n 3, 1) := by decide +kernel
theorem dX6_shelve_104 : decode cX6_shelve 104 = .ok (.iadd, 1) := by decide +kernel
theorem dX6_shelve_105 : decode cX6_shelve 105 = .ok (.iastore, 1) := by decide +kernel
theorem dX6_shelve_106 : decode cX6_shelve 106 = .ok (.aload_n 0, 1) := by decide +kernel
theorem dX6_shelve_107 : decode cX6_shelve 107 = .ok (.getfield 36, 3) := by decide +kernel
theorem dX6_shelve_110 : decode cX6_shelve 110 = .ok (.iload 4, 2) := by decide +kernel
theorem dX6_shelve_112 : decode cX6_shelve 112 = .ok (.iaload, 1) := by decide +kernel
theorem dX6_shelve_113 : decode cX6_shelve 113 = .ok (.ireturn, 1) := by decide +kernel
set_option maxRecDepth 20000 in
theorem ggX6_isShelved__X6_isAlarm : GoodIn wsX6_isShelved_ wsX6_isAlarm := goodIn_r _ [6, 7, 8, 9, 5, 10, 11, 12, 13, 14] (by decide +kernel) (by decide +kernel)
set_option maxRecDepth 20000 in
theorem gX6_isShelved__X6_isAlarm : GoodIn wsX6_isShelved_ (wsV RX6 103 RX6 yX6_isAlarm wsX6_isAlarm) := goodIn_app (goodIn_of _ (by decide +kernel)) ggX6_isShelved__X6_isAlarm
set_option maxRecDepth 20000 in
theorem ggX6_isShelved__X6_isShelved : GoodIn wsX6_isShelved_ wsX6_isShelved := goodIn_ca (goodIn_r _ [18, 19, 20, 21, 22, 23, 24, 25, 26, 27, 28, 29, 30, 31, 32, 33, 34, 35, 36, 37, 38, 39, 40, 41, 42, 43, 44, 45, 46, 47, 48, 49, 50] (by decide +kernel) (by decide +kernel)) (goodIn_sub (fun _ h => List.mem_cons_of_mem _ (List.mem_append_right _ h)) (by decide +kernel))
set_option maxRecDepth 20000 in
theorem gX6_isShelved__X6_isShelved : GoodIn wsX6_isShelved_ (wsV RX6 115 RX6 yX6_isShelved wsX6_isShelved) := goodIn_app (goodIn_of _ (by decide +kernel)) ggX6_isShelved__X6_isShelved
theorem dX6_isShelved__0 : decode cX6_isShelved_ 0 = .ok (.aload_n 0, 1) := by decide +kernel
theorem dX6_isShelved__1 : decode cX6_isShelved_ 1 = .ok (.aload_n 0, 1) := by decide +kernel
theorem dX6_isShelved__2 : decode cX6_isShelved_ 2 = .ok (.iload_n 1, 1) := by decide +kernel
theorem dX6_isShelved__3 : decode cX6_isShelved_ 3 = .ok (.iload_n 2, 1) := by decide +kernel
theorem dX6_isShelved__4 : decode cX6_isShelved_ 4 = .ok (.invokevirtual 103, 3) := by decide +kernel
theorem dX6_isShelved__7 : decode cX6_isShelved_ 7 = .ok (.ifCond .eq 7, 3) := by decide +kernel
theorem dX6_isShelved__10 : decode cX6_isShelved_ 10 = .ok (.iconst 0, 1) := by decide +kernel
theorem dX6_isShelved__11 : decode cX6_isShelved_ 11 = .ok (.goto 4, 3) := by decide +kernel
theorem dX6_isShelved__14 : decode cX6_isShelved_ 14 = .ok (.iconst 1, 1) := by decide +kernel
theorem dX6_isShelved__15 : decode cX6_isShelved_ 15 = .ok (.putfield 82, 3) := by decide +kernel
theorem dX6_isShelved__18 : decode cX6_isShelved_ 18 = .ok (.aload_n 0, 1) := by decide +kernel
theorem dX6_isShelved__19 : decode cX6_isShelved_ 19 = .ok (.getfield 82, 3) := by decide +kernel
theorem dX6_isShelved__22 : decode cX6_isShelved_ 22 = .ok (.ifCond .ne 19, 3) := by decide +kernel
theorem dX6_isShelved__25 : decode cX6_isShelved_ 25 = .ok (.aload_n 0, 1) := by decide +kernel
theorem dX6_isShelved__26 : decode cX6_isShelved_ 26 = .ok (.iconst 4, 1) := by decide +kernel
theorem dX6_isShelved__27 : decode cX6_isShelved_ 27 = .ok (.iload_n 1, 1) := by decide +kernel
theorem dX6_isShelved__28 : decode cX6_isShelved_ 28 = .ok (.imul, 1) := by decide +kernel
theorem dX6_isShelved__29 : decode cX6_isShelved_ 29 = .ok (.iload_n 2, 1) := by decide +kernel
theorem dX6_isShelved__30 : decode cX6_isShelved_ 30 = .ok (.iadd, 1) := by decide +kernel
theorem dX6_isShelved__31 : decode cX6_isShelved_ 31 = .ok (.invokevirtual 115, 3) := by decide +kernel
theorem dX6_isShelved__34 : decode cX6_isShelved_ 34 = .ok (.ifCond .eq 7, 3) := by decide +kernel
theorem dX6_isShelved__37 : decode cX6_isShelved_ 37 = .ok (.iconst 1, 1) := by decide +kernel
theorem dX6_isShelved__38 : decode cX6_isShelved_ 38 = .ok (.goto 4, 3) := by decide +kernel
theorem dX6_isShelved__41 : decode cX6_isShelved_ 41 = .ok (.iconst 0, 1) := by decide +kernel
theorem dX6_isShelved__42 : decode cX6_isShelved_ 42 = .ok (.ireturn, 1) := by decide +kernel
set_option maxRecDepth 20000 in
theorem ggX6_alarms_X6_in : GoodIn wsX6_alarms wsX6_in := goodIn_r _ [8] (by decide +kernel) (by decide +kernel)
set_option maxRecDepth 20000 in
theorem gX6_alarms_X6_in : GoodIn wsX6_alarms (va_wsS RX6 87 yX6_in wsX6_in) := goodIn_app (goodIn_of _ (by decide +kernel)) ggX6_alarms_X6_in
set_option maxRecDepth 20000 in
theorem ggX6_alarms_X6_isShelved : GoodIn wsX6_alarms wsX6_isShelved := goodIn_ca (goodIn_r _ [12, 3, 13, 14, 15, 16, 17, 18, 19, 20, 21, 22, 23, 24, 25, 26, 27, 28, 29, 30, 31, 32, 33, 34, 35, 36, 37, 38, 39, 40, 41, 42, 43] (by decide +kernel) (by decide +kernel)) (goodIn_sub (fun _ h => List.mem_cons_of_mem _ (List.mem_append_right _ h)) (by decide +kernel))
set_option maxRecDepth 20000 in
theorem gX6_alarms_X6_isShelved : GoodIn wsX6_alarms (wsV RX6 115 RX6 yX6_isShelved wsX6_isShelved) := goodIn_app (goodIn_of _ (by decide +kernel)) ggX6_alarms_X6_isShelved
theorem dX6_alarms_0 : decode cX6_alarms 0 = .ok (.aload_n 0, 1) := by decide +kernel
theorem dX6_alarms_1 : decode cX6_alarms 1 = .ok (.iload_n 1, 1) := by decide +kernel
theorem dX6_alarms_2 : decode cX6_alarms 2 = .ok (.i2l, 1) := by decide +kernel
theorem dX6_alarms_3 : decode cX6_alarms 3 = .ok (.lconst 1, 1) := by decide +kernel
theorem dX6_alarms_4 : decode cX6_alarms 4 = .ok (.ldc2_w 107, 3) := by decide +kernel
theorem dX6_alarms_7 : decode cX6_alarms 7 = .ok (.invokestatic 87, 3) := by decide +kernel
theorem dX6_alarms_10 : decode cX6_alarms 10 = .ok (.ifCond .eq 7, 3) := by decide +kernel
theorem dX6_alarms_13 : decode cX6_alarms 13 = .ok (.iconst 0, 1) := by decide +kernel
theorem dX6_alarms_14 : decode cX6_alarms 14 = .ok (.goto 4, 3) := by decide +kernel
theorem dX6_alarms_17 : decode cX6_alarms 17 = .ok (.iconst 1, 1) := by decide +kernel
theorem dX6_alarms_18 : decode cX6_alarms 18 = .ok (.putfield 82, 3) := by decide +kernel
theorem dX6_alarms_21 : decode cX6_alarms 21 = .ok (.aload_n 0, 1) := by decide +kernel
theorem dX6_alarms_22 : decode cX6_alarms 22 = .ok (.getfield 82, 3) := by decide +kernel
theorem dX6_alarms_25 : decode cX6_alarms 25 = .ok (.ifCond .ne 7, 3) := by decide +kernel
theorem dX6_alarms_28 : decode cX6_alarms 28 = .ok (.iconst 0, 1) := by decide +kernel
theorem dX6_alarms_29 : decode cX6_alarms 29 = .ok (.goto 4, 3) := by decide +kernel
theorem dX6_alarms_32 : decode cX6_alarms 32 = .ok (.iconst (-1), 1) := by decide +kernel
theorem dX6_alarms_33 : decode cX6_alarms 33 = .ok (.istore_n 2, 1) := by decide +kernel
theorem dX6_alarms_34 : decode cX6_alarms 34 = .ok (.iconst 0, 1) := by decide +kernel
theorem dX6_alarms_35 : decode cX6_alarms 35 = .ok (.istore_n 3, 1) := by decide +kernel
theorem dX6_alarms_36 : decode cX6_alarms 36 = .ok (.iload_n 3, 1) := by decide +kernel
theorem dX6_alarms_37 : decode cX6_alarms 37 = .ok (.bipush 32, 2) := by decide +kernel
theorem dX6_alarms_39 : decode cX6_alarms 39 = .ok (.if_icmp .ge 52, 3) := by decide +kernel
theorem dX6_alarms_42 : decode cX6_alarms 42 = .ok (.aload_n 0, 1) := by decide +kernel
theorem dX6_alarms_43 : decode cX6_alarms 43 = .ok (.getfield 82, 3) := by decide +kernel
theorem dX6_alarms_46 : decode cX6_alarms 46 = .ok (.ifCond .ne 45, 3) := by decide +kernel
theorem dX6_alarms_49 : decode cX6_alarms 49 = .ok (.iload_n 2, 1) := by decide +kernel
theorem dX6_alarms_50 : decode cX6_alarms 50 = .ok (.aload_n 0, 1) := by decide +kernel
theorem dX6_alarms_51 : decode cX6_alarms 51 = .ok (.getfield 30, 3) := by decide +kernel
theorem dX6_alarms_54 : decode cX6_alarms 54 = .ok (.iload_n 3, 1) := by decide +kernel
theorem dX6_alarms_55 : decode cX6_alarms 55 = .ok (.iaload, 1) := by decide +kernel
theorem dX6_alarms_56 : decode cX6_alarms 56 = .ok (.iconst (-1), 1) := by decide +kernel
theorem dX6_alarms_57 : decode cX6_alarms 57 = .ok (.if_icmp .eq 25, 3) := by decide +kernel
theorem dX6_alarms_60 : decode cX6_alarms 60 = .ok (.aload_n 0, 1) := by decide +kernel
theorem dX6_alarms_61 : decode cX6_alarms 61 = .ok (.iload_n 3, 1) := by decide +kernel
theorem dX6_alarms_62 : decode cX6_alarms 62 = .ok (.invokevirtual 115, 3) := by decide +kernel
theorem dX6_alarms_65 : decode cX6_alarms 65 = .ok (.ifCond .ne 17, 3) := by decide +kernel
theorem dX6_alarms_68 : decode cX6_alarms 68 = .ok (.aload_n 0, 1) := by decide +kernel
theorem dX6_alarms_69 : decode cX6_alarms 69 = .ok (.getfield 33, 3) := by decide +kernel
theorem dX6_alarms_72 : decode cX6_alarms 72 = .ok (.iload_n 3, 1) := by decide +kernel
theorem dX6_alarms_73 : decode cX6_alarms 73 = .ok (.iaload, 1) := by decide +kernel
theorem dX6_alarms_74 : decode cX6_alarms 74 = .ok (.iload_n 1, 1) := by decide +kernel
theorem dX6_alarms_75 : decode cX6_alarms 75 = .ok (.if_icmp .lt 7, 3) := by decide +kernel
theorem dX6_alarms_78 : decode cX6_alarms 78 = .ok (.iconst 1, 1) := by decide +kernel
theorem dX6_alarms_79 : decode cX6_alarms 79 = .ok (.goto 4, 3) := by decide +kernel
theorem dX6_alarms_82 : decode cX6_alarms 82 = .ok (.iconst 0, 1) := by decide +kernel
theorem dX6_alarms_83 : decode cX6_alarms 83 = .ok (.iadd, 1) := by decide +kernel
theorem dX6_alarms_84 : decode cX6_alarms 84 = .ok (.istore_n 2, 1) := by decide +kernel
theorem dX6_alarms_85 : decode cX6_alarms 85 = .ok (.iinc 3 1, 3) := by decide +kernel
theorem dX6_alarms_88 : decode cX6_alarms 88 = .ok (.goto (-52), 3) := by decide +kernel
theorem dX6_alarms_91 : decode cX6_alarms 91 = .ok (.iload_n 2, 1) := by decide +kernel
theorem dX6_alarms_92 : decode cX6_alarms 92 = .ok (.ireturn, 1) := by decide +kernel
set_option maxRecDepth 20000 in
theorem ggX6_top_X6_isShelved : GoodIn wsX6_top wsX6_isShelved := goodIn_ca (goodIn_r _ [8, 1, 9, 10, 11, 12, 13, 14, 15, 16, 17, 18, 19, 20, 21, 22, 23, 24, 25, 26, 27, 28, 29, 30, 31, 32, 33, 34, 35, 36, 37, 38, 39] (by decide +kernel) (by decide +kernel)) (goodIn_sub (fun _ h => List.mem_cons_of_mem _ (List.mem_append_right _ h)) (by decide +kernel))
set_option maxRecDepth 20000 in
theorem gX6_top_X6_isShelved : GoodIn wsX6_top (wsV RX6 115 RX6 yX6_isShelved wsX6_isShelved) := goodIn_app (goodIn_of _ (by decide +kernel)) ggX6_top_X6_isShelved
theorem dX6_top_0 : decode cX6_top 0 = .ok (.iconst (-1), 1) := by decide +kernel
theorem dX6_top_1 : decode cX6_top 1 = .ok (.istore_n 1, 1) := by decide +kernel
theorem dX6_top_2 : decode cX6_top 2 = .ok (.iconst 0, 1) := by decide +kernel
theorem dX6_top_3 : decode cX6_top 3 = .ok (.istore_n 2, 1) := by decide +kernel
theorem dX6_top_4 : decode cX6_top 4 = .ok (.iload_n 2, 1) := by decide +kernel
theorem dX6_top_5 : decode cX6_top 5 = .ok (.bipush 32, 2) := by decide +kernel
theorem dX6_top_7 : decode cX6_top 7 = .ok (.if_icmp .ge 103, 3) := by decide +kernel
theorem dX6_top_10 : decode cX6_top 10 = .ok (.aload_n 0, 1) := by decide +kernel
theorem dX6_top_11 : decode cX6_top 11 = .ok (.getfield 30, 3) := by decide +kernel
theorem dX6_top_14 : decode cX6_top 14 = .ok (.iload_n 2, 1) := by decide +kernel
theorem dX6_top_15 : decode cX6_top 15 = .ok (.iaload, 1) := by decide +kernel
theorem dX6_top_16 : decode cX6_top 16 = .ok (.iconst (-1), 1) := by decide +kernel
theorem dX6_top_17 : decode cX6_top 17 = .ok (.if_icmp .eq 87, 3) := by decide +kernel
theorem dX6_top_20 : decode cX6_top 20 = .ok (.aload_n 0, 1) := by decide +kernel
theorem dX6_top_21 : decode cX6_top 21 = .ok (.iload_n 2, 1) := by decide +kernel
theorem dX6_top_22 : decode cX6_top 22 = .ok (.invokevirtual 115, 3) := by decide +kernel
theorem dX6_top_25 : decode cX6_top 25 = .ok (.ifCond .ne 79, 3) := by decide +kernel
theorem dX6_top_28 : decode cX6_top 28 = .ok (.iload_n 1, 1) := by decide +kernel
theorem dX6_top_29 : decode cX6_top 29 = .ok (.iconst (-1), 1) := by decide +kernel
theorem dX6_top_30 : decode cX6_top 30 = .ok (.if_icmp .eq 18, 3) := by decide +kernel
theorem dX6_top_33 : decode cX6_top 33 = .ok (.aload_n 0, 1) := by decide +kernel
theorem dX6_top_34 : decode cX6_top 34 = .ok (.getfield 33, 3) := by decide +kernel
theorem dX6_top_37 : decode cX6_top 37 = .ok (.iload_n 2, 1) := by decide +kernel
theorem dX6_top_38 : decode cX6_top 38 = .ok (.iaload, 1) := by decide +kernel
theorem dX6_top_39 : decode cX6_top 39 = .ok (.aload_n 0, 1) := by decide +kernel
theorem dX6_top_40 : decode cX6_top 40 = .ok (.getfield 33, 3) := by decide +kernel
theorem dX6_top_43 : decode cX6_top 43 = .ok (.iload_n 1, 1) := by decide +kernel
theorem dX6_top_44 : decode cX6_top 44 = .ok (.iaload, 1) := by decide +kernel
theorem dX6_top_45 : decode cX6_top 45 = .ok (.if_icmp .le 7, 3) := by decide +kernel
theorem dX6_top_48 : decode cX6_top 48 = .ok (.iconst 1, 1) := by decide +kernel
theorem dX6_top_49 : decode cX6_top 49 = .ok (.goto 4, 3) := by decide +kernel
theorem dX6_top_52 : decode cX6_top 52 = .ok (.iconst 0, 1) := by decide +kernel
theorem dX6_top_53 : decode cX6_top 53 = .ok (.istore_n 3, 1) := by decide +kernel
theorem dX6_top_54 : decode cX6_top 54 = .ok (.iload_n 3, 1) := by decide +kernel
theorem dX6_top_55 : decode cX6_top 55 = .ok (.ifCond .ne 33, 3) := by decide +kernel
theorem dX6_top_58 : decode cX6_top 58 = .ok (.aload_n 0, 1) := by decide +kernel
theorem dX6_top_59 : decode cX6_top 59 = .ok (.getfield 33, 3) := by decide +kernel
theorem dX6_top_62 : decode cX6_top 62 = .ok (.iload_n 2, 1) := by decide +kernel
theorem dX6_top_63 : decode cX6_top 63 = .ok (.iaload, 1) := by decide +kernel
theorem dX6_top_64 : decode cX6_top 64 = .ok (.aload_n 0, 1) := by decide +kernel
theorem dX6_top_65 : decode cX6_top 65 = .ok (.getfield 33, 3) := by decide +kernel
theorem dX6_top_68 : decode cX6_top 68 = .ok (.iload_n 1, 1) := by decide +kernel
theorem dX6_top_69 : decode cX6_top 69 = .ok (.iaload, 1) := by decide +kernel
theorem dX6_top_70 : decode cX6_top 70 = .ok (.if_icmp .ne 22, 3) := by decide +kernel
theorem dX6_top_73 : decode cX6_top 73 = .ok (.aload_n 0, 1) := by decide +kernel
theorem dX6_top_74 : decode cX6_top 74 = .ok (.getfield 30, 3) := by decide +kernel
theorem dX6_top_77 : decode cX6_top 77 = .ok (.iload_n 2, 1) := by decide +kernel
theorem dX6_top_78 : decode cX6_top 78 = .ok (.iaload, 1) := by decide +kernel
theorem dX6_top_79 : decode cX6_top 79 = .ok (.aload_n 0, 1) := by decide +kernel
theorem dX6_top_80 : decode cX6_top 80 = .ok (.getfield 30, 3) := by decide +kernel
theorem dX6_top_83 : decode cX6_top 83 = .ok (.iload_n 1, 1) := by decide +kernel
theorem dX6_top_84 : decode cX6_top 84 = .ok (.iaload, 1) := by decide +kernel
theorem dX6_top_85 : decode cX6_top 85 = .ok (.if_icmp .ge 7, 3) := by decide +kernel
theorem dX6_top_88 : decode cX6_top 88 = .ok (.iconst 1, 1) := by decide +kernel
theorem dX6_top_89 : decode cX6_top 89 = .ok (.goto 4, 3) := by decide +kernel
theorem dX6_top_92 : decode cX6_top 92 = .ok (.iconst 0, 1) := by decide +kernel
theorem dX6_top_93 : decode cX6_top 93 = .ok (.istore_n 3, 1) := by decide +kernel
theorem dX6_top_94 : decode cX6_top 94 = .ok (.iload_n 3, 1) := by decide +kernel
theorem dX6_top_95 : decode cX6_top 95 = .ok (.ifCond .eq 7, 3) := by decide +kernel
theorem dX6_top_98 : decode cX6_top 98 = .ok (.iload_n 2, 1) := by decide +kernel
theorem dX6_top_99 : decode cX6_top 99 = .ok (.goto 4, 3) := by decide +kernel
theorem dX6_top_102 : decode cX6_top 102 = .ok (.iload_n 1, 1) := by decide +kernel
theorem dX6_top_103 : decode cX6_top 103 = .ok (.istore_n 1, 1) := by decide +kernel
theorem dX6_top_104 : decode cX6_top 104 = .ok (.iinc 2 1, 3) := by decide +kernel
theorem dX6_top_107 : decode cX6_top 107 = .ok (.goto (-103), 3) := by decide +kernel
theorem dX6_top_110 : decode cX6_top 110 = .ok (.aload_n 0, 1) := by decide +kernel
theorem dX6_top_111 : decode cX6_top 111 = .ok (.iload_n 1, 1) := by decide +kernel
theorem dX6_top_112 : decode cX6_top 112 = .ok (.iconst (-1), 1) := by decide +kernel
theorem dX6_top_113 : decode cX6_top 113 = .ok (.if_icmp .ne 7, 3) := by decide +kernel
theorem dX6_top_116 : decode cX6_top 116 = .ok (.iconst 1, 1) := by decide +kernel
theorem dX6_top_117 : decode cX6_top 117 = .ok (.goto 4, 3) := by decide +kernel
theorem dX6_top_120 : decode cX6_top 120 = .ok (.iconst 0, 1) := by decide +kernel
theorem dX6_top_121 : decode cX6_top 121 = .ok (.putfield 82, 3) := by decide +kernel
theorem dX6_top_124 : decode cX6_top 124 = .ok (.aload_n 0, 1) := by decide +kernel
theorem dX6_top_125 : decode cX6_top 125 = .ok (.getfield 82, 3) := by decide +kernel
theorem dX6_top_128 : decode cX6_top 128 = .ok (.ifCond .ne 12, 3) := by decide +kernel
theorem dX6_top_131 : decode cX6_top 131 = .ok (.aload_n 0, 1) := by decide +kernel
theorem dX6_top_132 : decode cX6_top 132 = .ok (.getfield 30, 3) := by decide +kernel
theorem dX6_top_135 : decode cX6_top 135 = .ok (.iload_n 1, 1) := by decide +kernel
theorem dX6_top_136 : decode cX6_top 136 = .ok (.iaload, 1) := by decide +kernel
theorem dX6_top_137 : decode cX6_top 137 = .ok (.goto 4, 3) := by decide +kernel
theorem dX6_top_140 : decode cX6_top 140 = .ok (.iconst (-1), 1) := by decide +kernel
theorem dX6_top_141 : decode cX6_top 141 = .ok (.ireturn, 1) := by decide +kernel
theorem dX6_addProcedure_0 : decode cX6_addProcedure 0 = .ok (.aload_n 0, 1) := by decide +kernel
theorem dX6_addProcedure_1 : decode cX6_addProcedure 1 = .ok (.aload_n 0, 1) := by decide +kernel
theorem dX6_addProcedure_2 : decode cX6_addProcedure 2 = .ok (.getfield 118, 3) := by decide +kernel
theorem dX6_addProcedure_5 : decode cX6_addProcedure 5 = .ok (.bipush 6, 2) := by decide +kernel
theorem dX6_addProcedure_7 : decode cX6_addProcedure 7 = .ok (.if_icmp .ne 7, 3) := by decide +kernel
theorem dX6_addProcedure_10 : decode cX6_addProcedure 10 = .ok (.iconst 1, 1) := by decide +kernel
theorem dX6_addProcedure_11 : decode cX6_addProcedure 11 = .ok (.goto 4, 3) := by decide +kernel
theorem dX6_addProcedure_14 : decode cX6_addProcedure 14 = .ok (.iconst 0, 1) := by decide +kernel
theorem dX6_addProcedure_15 : decode cX6_addProcedure 15 = .ok (.putfield 82, 3) := by decide +kernel
theorem dX6_addProcedure_18 : decode cX6_addProcedure 18 = .ok (.aload_n 0, 1) := by decide +kernel
theorem dX6_addProcedure_19 : decode cX6_addProcedure 19 = .ok (.dup, 1) := by decide +kernel
theorem dX6_addProcedure_20 : decode cX6_addProcedure 20 = .ok (.getfield 118, 3) := by decide +kernel
theorem dX6_addProcedure_23 : decode cX6_addProcedure 23 = .ok (.aload_n 0, 1) := by decide +kernel
theorem dX6_addProcedure_24 : decode cX6_addProcedure 24 = .ok (.getfield 82, 3) := by decide +kernel
theorem dX6_addProcedure_27 : decode cX6_addProcedure 27 = .ok (.ifCond .ne 7, 3) := by decide +kernel
theorem dX6_addProcedure_30 : decode cX6_addProcedure 30 = .ok (.iconst 1, 1) := by decide +kernel
theorem dX6_addProcedure_31 : decode cX6_addProcedure 31 = .ok (.goto 4, 3) := by decide +kernel
theorem dX6_addProcedure_34 : decode cX6_addProcedure 34 = .ok (.iconst 0, 1) := by decide +kernel
theorem dX6_addProcedure_35 : decode cX6_addProcedure 35 = .ok (.iadd, 1) := by decide +kernel
theorem dX6_addProcedure_36 : decode cX6_addProcedure 36 = .ok (.putfield 118, 3) := by decide +kernel
theorem dX6_addProcedure_39 : decode cX6_addProcedure 39 = .ok (.aload_n 0, 1) := by decide +kernel
theorem dX6_addProcedure_40 : decode cX6_addProcedure 40 = .ok (.getfield 82, 3) := by decide +kernel
theorem dX6_addProcedure_43 : decode cX6_addProcedure 43 = .ok (.ifCond .ne 12, 3) := by decide +kernel
theorem dX6_addProcedure_46 : decode cX6_addProcedure 46 = .ok (.aload_n 0, 1) := by decide +kernel
theorem dX6_addProcedure_47 : decode cX6_addProcedure 47 = .ok (.getfield 118, 3) := by decide +kernel
theorem dX6_addProcedure_50 : decode cX6_addProcedure 50 = .ok (.iconst 1, 1) := by decide +kernel
theorem dX6_addProcedure_51 : decode cX6_addProcedure 51 = .ok (.isub, 1) := by decide +kernel
theorem dX6_addProcedure_52 : decode cX6_addProcedure 52 = .ok (.goto 4, 3) := by decide +kernel
theorem dX6_addProcedure_55 : decode cX6_addProcedure 55 = .ok (.iconst (-1), 1) := by decide +kernel
theorem dX6_addProcedure_56 : decode cX6_addProcedure 56 = .ok (.ireturn, 1) := by decide +kernel
set_option maxRecDepth 20000 in
theorem ggX6_isProcedure_X6_in : GoodIn wsX6_isProcedure wsX6_in := goodIn_r _ [5] (by decide +kernel) (by decide +kernel)
set_option maxRecDepth 20000 in
theorem gX6_isProcedure_X6_in : GoodIn wsX6_isProcedure (va_wsS RX6 87 yX6_in wsX6_in) := goodIn_app (goodIn_of _ (by decide +kernel)) ggX6_isProcedure_X6_in
theorem dX6_isProcedure_0 : decode cX6_isProcedure 0 = .ok (.iload_n 1, 1) := by decide +kernel
theorem dX6_isProcedure_1 : decode cX6_isProcedure 1 = .ok (.i2l, 1) := by decide +kernel
theorem dX6_isProcedure_2 : decode cX6_isProcedure 2 = .ok (.lconst 0, 1) := by decide +kernel
theorem dX6_isProcedure_3 : decode cX6_isProcedure 3 = .ok (.aload_n 0, 1) := by decide +kernel
theorem dX6_isProcedure_4 : decode cX6_isProcedure 4 = .ok (.getfield 118, 3) := by decide +kernel
theorem dX6_isProcedure_7 : decode cX6_isProcedure 7 = .ok (.iconst 1, 1) := by decide +kernel
theorem dX6_isProcedure_8 : decode cX6_isProcedure 8 = .ok (.isub, 1) := by decide +kernel
theorem dX6_isProcedure_9 : decode cX6_isProcedure 9 = .ok (.i2l, 1) := by decide +kernel
theorem dX6_isProcedure_10 : decode cX6_isProcedure 10 = .ok (.invokestatic 87, 3) := by decide +kernel
theorem dX6_isProcedure_13 : decode cX6_isProcedure 13 = .ok (.ireturn, 1) := by decide +kernel
set_option maxRecDepth 20000 in
theorem ggX6_addStep_X6_isProcedure : GoodIn wsX6_addStep wsX6_isProcedure := goodIn_r _ [14, 15, 16, 17, 13, 18, 23, 24, 25, 26, 27, 28, 29, 30, 31, 32, 33, 34, 35, 36, 37, 38, 39, 40, 41, 42, 43, 44, 45, 46, 47, 48, 49, 50, 51] (by decide +kernel) (by decide +kernel)
set_option maxRecDepth 20000 in
theorem gX6_addStep_X6_isProcedure : GoodIn wsX6_addStep (wsV RX6 121 RX6 yX6_isProcedure wsX6_isProcedure) := goodIn_app (goodIn_of _ (by decide +kernel)) ggX6_addStep_X6_isProcedure
set_option maxRecDepth 20000 in
theorem ggX6_addStep_X6_isUnit : GoodIn wsX6_addStep wsX6_isUnit := goodIn_r _ [21, 22, 16, 17, 13, 18] (by decide +kernel) (by decide +kernel)
set_option maxRecDepth 20000 in
theorem gX6_addStep_X6_isUnit : GoodIn wsX6_addStep (va_wsS RX6 91 yX6_isUnit wsX6_isUnit) := goodIn_app (goodIn_of _ (by decide +kernel)) ggX6_addStep_X6_isUnit
set_option maxRecDepth 20000 in
theorem ggX6_addStep_X6_in : GoodIn wsX6_addStep wsX6_in := goodIn_r _ [18] (by decide +kernel) (by decide +kernel)
set_option maxRecDepth 20000 in
theorem gX6_addStep_X6_in : GoodIn wsX6_addStep (va_wsS RX6 87 yX6_in wsX6_in) := goodIn_app (goodIn_of _ (by decide +kernel)) ggX6_addStep_X6_in
theorem dX6_addStep_0 : decode cX6_addStep 0 = .ok (.aload_n 0, 1) := by decide +kernel
theorem dX6_addStep_1 : decode cX6_addStep 1 = .ok (.iload_n 1, 1) := by decide +kernel
theorem dX6_addStep_2 : decode cX6_addStep 2 = .ok (.invokevirtual 121, 3) := by decide +kernel
theorem dX6_addStep_5 : decode cX6_addStep 5 = .ok (.ifCond .eq 18, 3) := by decide +kernel
theorem dX6_addStep_8 : decode cX6_addStep 8 = .ok (.iload_n 2, 1) := by decide +kernel
theorem dX6_addStep_9 : decode cX6_addStep 9 = .ok (.invokestatic 91, 3) := by decide +kernel
theorem dX6_addStep_12 : decode cX6_addStep 12 = .ok (.ifCond .eq 11, 3) := by decide +kernel
theorem dX6_addStep_15 : decode cX6_addStep 15 = .ok (.iload 4, 2) := by decide +kernel
theorem dX6_addStep_17 : decode cX6_addStep 17 = .ok (.invokestatic 91, 3) := by decide +kernel
theorem dX6_addStep_20 : decode cX6_addStep 20 = .ok (.ifCond .ne 22, 3) := by decide +kernel
theorem dX6_addStep_23 : decode cX6_addStep 23 = .ok (.aload_n 0, 1) := by decide +kernel
theorem dX6_addStep_24 : decode cX6_addStep 24 = .ok (.aload_n 0, 1) := by decide +kernel
theorem dX6_addStep_25 : decode cX6_addStep 25 = .ok (.iload_n 1, 1) := by decide +kernel
theorem dX6_addStep_26 : decode cX6_addStep 26 = .ok (.invokevirtual 121, 3) := by decide +kernel
theorem dX6_addStep_29 : decode cX6_addStep 29 = .ok (.ifCond .ne 7, 3) := by decide +kernel
theorem dX6_addStep_32 : decode cX6_addStep 32 = .ok (.iconst 1, 1) := by decide +kernel
theorem dX6_addStep_33 : decode cX6_addStep 33 = .ok (.goto 4, 3) := by decide +kernel
theorem dX6_addStep_36 : decode cX6_addStep 36 = .ok (.iconst 2, 1) := by decide +kernel
theorem dX6_addStep_37 : decode cX6_addStep 37 = .ok (.putfield 82, 3) := by decide +kernel
theorem dX6_addStep_40 : decode cX6_addStep 40 = .ok (.iconst (-1), 1) := by decide +kernel
theorem dX6_addStep_41 : decode cX6_addStep 41 = .ok (.ireturn, 1) := by decide +kernel
theorem dX6_addStep_42 : decode cX6_addStep 42 = .ok (.iload_n 3, 1) := by decide +kernel
theorem dX6_addStep_43 : decode cX6_addStep 43 = .ok (.i2l, 1) := by decide +kernel
theorem dX6_addStep_44 : decode cX6_addStep 44 = .ok (.lconst 0, 1) := by decide +kernel
theorem dX6_addStep_45 : decode cX6_addStep 45 = .ok (.ldc2_w 101, 3) := by decide +kernel
theorem dX6_addStep_48 : decode cX6_addStep 48 = .ok (.invokestatic 87, 3) := by decide +kernel
theorem dX6_addStep_51 : decode cX6_addStep 51 = .ok (.ifCond .eq 20, 3) := by decide +kernel
theorem dX6_addStep_54 : decode cX6_addStep 54 = .ok (.iload 5, 2) := by decide +kernel
theorem dX6_addStep_56 : decode cX6_addStep 56 = .ok (.i2l, 1) := by decide +kernel
theorem dX6_addStep_57 : decode cX6_addStep 57 = .ok (.lconst 0, 1) := by decide +kernel
theorem dX6_addStep_58 : decode cX6_addStep 58 = .ok (.ldc2_w 101, 3) := by decide +kernel
theorem dX6_addStep_61 : decode cX6_addStep 61 = .ok (.invokestatic 87, 3) := by decide +kernel
theorem dX6_addStep_64 : decode cX6_addStep 64 = .ok (.ifCond .eq 7, 3) := by decide +kernel
theorem dX6_addStep_67 : decode cX6_addStep 67 = .ok (.iconst 1, 1) := by decide +kernel
theorem dX6_addStep_68 : decode cX6_addStep 68 = .ok (.goto 4, 3) := by decide +kernel
theorem dX6_addStep_71 : decode cX6_addStep 71 = .ok (.iconst 0, 1) := by decide +kernel
theorem dX6_addStep_72 : decode cX6_addStep 72 = .ok (.istore 6, 2) := by decide +kernel
theorem dX6_addStep_74 : decode cX6_addStep 74 = .ok (.aload_n 0, 1) := by decide +kernel
theorem dX6_addStep_75 : decode cX6_addStep 75 = .ok (.iload 6, 2) := by decide +kernel
theorem dX6_addStep_77 : decode cX6_addStep 77 = .ok (.ifCond .ne 7, 3) := by decide +kernel
theorem dX6_addStep_80 : decode cX6_addStep 80 = .ok (.iconst 3, 1) := by decide +kernel
theorem dX6_addStep_81 : decode cX6_addStep 81 = .ok (.goto 19, 3) := by decide +kernel
theorem dX6_addStep_84 : decode cX6_addStep 84 = .ok (.aload_n 0, 1) := by decide +kernel
theorem dX6_addStep_85 : decode cX6_addStep 85 = .ok (.getfield 60, 3) := by decide +kernel
theorem dX6_addStep_88 : decode cX6_addStep 88 = .ok (.iload_n 1, 1) := by decide +kernel
theorem dX6_addStep_89 : decode cX6_addStep 89 = .ok (.iaload, 1) := by decide +kernel
theorem dX6_addStep_90 : decode cX6_addStep 90 = .ok (.bipush 8, 2) := by decide +kernel
theorem dX6_addStep_92 : decode cX6_addStep 92 = .ok (.if_icmp .ne 7, 3) := by decide +kernel
theorem dX6_addStep_95 : decode cX6_addStep 95 = .ok (.iconst 4, 1) := by decide +kernel
theorem dX6_addStep_96 : decode cX6_addStep 96 = .ok (.goto 4, 3) := by decide +kernel
theorem dX6_addStep_99 : decode cX6_addStep 99 = .ok (.iconst 0, 1) := by decide +kernel
theorem dX6_addStep_100 : decode cX6_addStep 100 = .ok (.putfield 82, 3) := by decide +kernel
theorem dX6_addStep_103 : decode cX6_addStep 103 = .ok (.aload_n 0, 1) := by decide +kernel
theorem dX6_addStep_104 : decode cX6_addStep 104 = .ok (.getfield 82, 3) := by decide +kernel
theorem dX6_addStep_107 : decode cX6_addStep 107 = .ok (.ifCond .le 5, 3) := by decide +kernel
theorem dX6_addStep_110 : decode cX6_addStep 110 = .ok (.iconst (-1), 1) := by decide +kernel
theorem dX6_addStep_111 : decode cX6_addStep 111 = .ok (.ireturn, 1) := by decide +kernel
theorem dX6_addStep_112 : decode cX6_addStep 112 = .ok (.bipush 8, 2) := by decide +kernel
theorem dX6_addStep_114 : decode cX6_addStep 114 = .ok (.iload_n 1, 1) := by decide +kernel
theorem dX6_addStep_115 : decode cX6_addStep 115 = .ok (.imul, 1) := by decide +kernel
theorem dX6_addStep_116 : decode cX6_addStep 116 = .ok (.aload_n 0, 1) := by decide +kernel
theorem dX6_addStep_117 : decode cX6_addStep 117 = .ok (.getfield 60, 3) := by decide +kernel
theorem dX6_addStep_120 : decode cX6_addStep 120 = .ok (.iload_n 1, 1) := by decide +kernel
theorem dX6_addStep_121 : decode cX6_addStep 121 = .ok (.iaload, 1) := by decide +kernel
theorem dX6_addStep_122 : decode cX6_addStep 122 = .ok (.iadd, 1) := by decide +kernel
theorem dX6_addStep_123 : decode cX6_addStep 123 = .ok (.istore 7, 2) := by decide +kernel
theorem dX6_addStep_125 : decode cX6_addStep 125 = .ok (.aload_n 0, 1) := by decide +kernel
theorem dX6_addStep_126 : decode cX6_addStep 126 = .ok (.getfield 39, 3) := by decide +kernel
theorem dX6_addStep_129 : decode cX6_addStep 129 = .ok (.iload 7, 2) := by decide +kernel
theorem dX6_addStep_131 : decode cX6_addStep 131 = .ok (.iload_n 2, 1) := by decide +kernel
theorem dX6_addStep_132 : decode cX6_addStep 132 = .ok (.iastore, 1) := by decide +kernel
theorem dX6_addStep_133 : decode cX6_addStep 133 = .ok (.aload_n 0, 1) := by decide +kernel
theorem dX6_addStep_134 : decode cX6_addStep 134 = .ok (.getfield 42, 3) := by decide +kernel
theorem dX6_addStep_137 : decode cX6_addStep 137 = .ok (.iload 7, 2) := by decide +kernel
theorem dX6_addStep_139 : decode cX6_addStep 139 = .ok (.iload_n 3, 1) := by decide +kernel
theorem dX6_addStep_140 : decode cX6_addStep 140 = .ok (.iastore, 1) := by decide +kernel
theorem dX6_addStep_141 : decode cX6_addStep 141 = .ok (.aload_n 0, 1) := by decide +kernel
theorem dX6_addStep_142 : decode cX6_addStep 142 = .ok (.getfield 45, 3) := by decide +kernel
theorem dX6_addStep_145 : decode cX6_addStep 145 = .ok (.iload 7, 2) := by decide +kernel
theorem dX6_addStep_147 : decode cX6_addStep 147 = .ok (.iload 4, 2) := by decide +kernel
theorem dX6_addStep_149 : decode cX6_addStep 149 = .ok (.iastore, 1) := by decide +kernel
theorem dX6_addStep_150 : decode cX6_addStep 150 = .ok (.aload_n 0, 1) := by decide +kernel
theorem dX6_addStep_151 : decode cX6_addStep 151 = .ok (.getfield 48, 3) := by decide +kernel
theorem dX6_addStep_154 : decode cX6_addStep 154 = .ok (.iload 7, 2) := by decide +kernel
theorem dX6_addStep_156 : decode cX6_addStep 156 = .ok (.iload 5, 2) := by decide +kernel
theorem dX6_addStep_158 : decode cX6_addStep 158 = .ok (.iastore, 1) := by decide +kernel
theorem dX6_addStep_159 : decode cX6_addStep 159 = .ok (.aload_n 0, 1) := by decide +kernel
theorem dX6_addStep_160 : decode cX6_addStep 160 = .ok (.getfield 54, 3) := by decide +kernel
theorem dX6_addStep_163 : decode cX6_addStep 163 = .ok (.iload 7, 2) := by decide +kernel
theorem dX6_addStep_165 : decode cX6_addStep 165 = .ok (.iconst (-1), 1) := by decide +kernel
theorem dX6_addStep_166 : decode cX6_addStep 166 = .ok (.iastore, 1) := by decide +kernel
theorem dX6_addStep_167 : decode cX6_addStep 167 = .ok (.aload_n 0, 1) := by decide +kernel
theorem dX6_addStep_168 : decode cX6_addStep 168 = .ok (.getfield 57, 3) := by decide +kernel
theorem dX6_addStep_171 : decode cX6_addStep 171 = .ok (.iload 7, 2) := by decide +kernel
theorem dX6_addStep_173 : decode cX6_addStep 173 = .ok (.iconst (-1), 1) := by decide +kernel
theorem dX6_addStep_174 : decode cX6_addStep 174 = .ok (.iastore, 1) := by decide +kernel
theorem dX6_addStep_175 : decode cX6_addStep 175 = .ok (.aload_n 0, 1) := by decide +kernel
theorem dX6_addStep_176 : decode cX6_addStep 176 = .ok (.getfield 60, 3) := by decide +kernel
theorem dX6_addStep_179 : decode cX6_addStep 179 = .ok (.iload_n 1, 1) := by decide +kernel
theorem dX6_addStep_180 : decode cX6_addStep 180 = .ok (.dup2, 1) := by decide +kernel
theorem dX6_addStep_181 : decode cX6_addStep 181 = .ok (.iaload, 1) := by decide +kernel
theorem dX6_addStep_182 : decode cX6_addStep 182 = .ok (.iconst 1, 1) := by decide +kernel
theorem dX6_addStep_183 : decode cX6_addStep 183 = .ok (.iadd, 1) := by decide +kernel
theorem dX6_addStep_184 : decode cX6_addStep 184 = .ok (.iastore, 1) := by decide +kernel
theorem dX6_addStep_185 : decode cX6_addStep 185 = .ok (.aload_n 0, 1) := by decide +kernel
theorem dX6_addStep_186 : decode cX6_addStep 186 = .ok (.getfield 60, 3) := by decide +kernel
theorem dX6_addStep_189 : decode cX6_addStep 189 = .ok (.iload_n 1, 1) := by decide +kernel
theorem dX6_addStep_190 : decode cX6_addStep 190 = .ok (.iaload, 1) := by decide +kernel
theorem dX6_addStep_191 : decode cX6_addStep 191 = .ok (.iconst 1, 1) := by decide +kernel
theorem dX6_addStep_192 : decode cX6_addStep 192 = .ok (.isub, 1) := by decide +kernel
theorem dX6_addStep_193 : decode cX6_addStep 193 = .ok (.ireturn, 1) := by decide +kernel
set_option maxRecDepth 20000 in
theorem ggX6_asks_X6_isProcedure : GoodIn wsX6_asks wsX6_isProcedure := goodIn_r _ [6, 7, 8, 9, 5, 10, 11, 12, 13, 14, 15, 16, 17, 18, 19, 20, 21, 22, 23, 24, 25, 26, 27, 28, 29, 30, 31, 32, 33, 34, 35, 36, 37, 38, 39] (by decide +kernel) (by decide +kernel)
set_option maxRecDepth 20000 in
theorem gX6_asks_X6_isProcedure : GoodIn wsX6_asks (wsV RX6 121 RX6 yX6_isProcedure wsX6_isProcedure) := goodIn_app (goodIn_of _ (by decide +kernel)) ggX6_asks_X6_isProcedure
theorem dX6_asks_0 : decode cX6_asks 0 = .ok (.aload_n 0, 1) := by decide +kernel
theorem dX6_asks_1 : decode cX6_asks 1 = .ok (.aload_n 0, 1) := by decide +kernel
theorem dX6_asks_2 : decode cX6_asks 2 = .ok (.iload_n 1, 1) := by decide +kernel
theorem dX6_asks_3 : decode cX6_asks 3 = .ok (.invokevirtual 121, 3) := by decide +kernel
theorem dX6_asks_6 : decode cX6_asks 6 = .ok (.ifCond .eq 7, 3) := by decide +kernel
theorem dX6_asks_9 : decode cX6_asks 9 = .ok (.iconst 0, 1) := by decide +kernel
theorem dX6_asks_10 : decode cX6_asks 10 = .ok (.goto 4, 3) := by decide +kernel
theorem dX6_asks_13 : decode cX6_asks 13 = .ok (.iconst 1, 1) := by decide +kernel
theorem dX6_asks_14 : decode cX6_asks 14 = .ok (.putfield 82, 3) := by decide +kernel
theorem dX6_asks_17 : decode cX6_asks 17 = .ok (.aload_n 0, 1) := by decide +kernel
theorem dX6_asks_18 : decode cX6_asks 18 = .ok (.getfield 82, 3) := by decide +kernel
theorem dX6_asks_21 : decode cX6_asks 21 = .ok (.ifCond .ne 7, 3) := by decide +kernel
theorem dX6_asks_24 : decode cX6_asks 24 = .ok (.iconst 1, 1) := by decide +kernel
theorem dX6_asks_25 : decode cX6_asks 25 = .ok (.goto 4, 3) := by decide +kernel
theorem dX6_asks_28 : decode cX6_asks 28 = .ok (.iconst 0, 1) := by decide +kernel
theorem dX6_asks_29 : decode cX6_asks 29 = .ok (.ireturn, 1) := by decide +kernel
set_option maxRecDepth 20000 in
theorem ggX6_done_X6_asks : GoodIn wsX6_done wsX6_asks := goodIn_r _ [6, 7, 8, 9, 10, 5, 11, 12, 13, 14, 15, 16, 17, 18, 19, 20, 21, 22, 23, 24, 25, 26, 27, 28, 29, 30, 31, 32, 33, 34, 35, 36, 37, 38, 39, 40, 41, 42, 43, 44] (by decide +kernel) (by decide +kernel)
set_option maxRecDepth 20000 in
theorem gX6_done_X6_asks : GoodIn wsX6_done (wsV RX6 124 RX6 yX6_asks wsX6_asks) := goodIn_app (goodIn_of _ (by decide +kernel)) ggX6_done_X6_asks
theorem dX6_done_0 : decode cX6_done 0 = .ok (.aload_n 0, 1) := by decide +kernel
theorem dX6_done_1 : decode cX6_done 1 = .ok (.iload_n 1, 1) := by decide +kernel
theorem dX6_done_2 : decode cX6_done 2 = .ok (.invokevirtual 124, 3) := by decide +kernel
theorem dX6_done_5 : decode cX6_done 5 = .ok (.ifCond .eq 12, 3) := by decide +kernel
theorem dX6_done_8 : decode cX6_done 8 = .ok (.aload_n 0, 1) := by decide +kernel
theorem dX6_done_9 : decode cX6_done 9 = .ok (.getfield 63, 3) := by decide +kernel
theorem dX6_done_12 : decode cX6_done 12 = .ok (.iload_n 1, 1) := by decide +kernel
theorem dX6_done_13 : decode cX6_done 13 = .ok (.iaload, 1) := by decide +kernel
theorem dX6_done_14 : decode cX6_done 14 = .ok (.goto 4, 3) := by decide +kernel
theorem dX6_done_17 : decode cX6_done 17 = .ok (.iconst (-1), 1) := by decide +kernel
theorem dX6_done_18 : decode cX6_done 18 = .ok (.ireturn, 1) := by decide +kernel
theorem dX6_tired_0 : decode cX6_tired 0 = .ok (.aload_n 0, 1) := by decide +kernel
theorem dX6_tired_1 : decode cX6_tired 1 = .ok (.getfield 72, 3) := by decide +kernel
theorem dX6_tired_4 : decode cX6_tired 4 = .ok (.iconst (-1), 1) := by decide +kernel
theorem dX6_tired_5 : decode cX6_tired 5 = .ok (.if_icmp .eq 21, 3) := by decide +kernel
theorem dX6_tired_8 : decode cX6_tired 8 = .ok (.aload_n 0, 1) := by decide +kernel
theorem dX6_tired_9 : decode cX6_tired 9 = .ok (.getfield 98, 3) := by decide +kernel
theorem dX6_tired_12 : decode cX6_tired 12 = .ok (.aload_n 0, 1) := by decide +kernel
theorem dX6_tired_13 : decode cX6_tired 13 = .ok (.getfield 127, 3) := by decide +kernel
theorem dX6_tired_16 : decode cX6_tired 16 = .ok (.isub, 1) := by decide +kernel
theorem dX6_tired_17 : decode cX6_tired 17 = .ok (.bipush 12, 2) := by decide +kernel
theorem dX6_tired_19 : decode cX6_tired 19 = .ok (.if_icmp .lt 7, 3) := by decide +kernel
theorem dX6_tired_22 : decode cX6_tired 22 = .ok (.iconst 1, 1) := by decide +kernel
theorem dX6_tired_23 : decode cX6_tired 23 = .ok (.goto 4, 3) := by decide +kernel
theorem dX6_tired_26 : decode cX6_tired 26 = .ok (.iconst 0, 1) := by decide +kernel
theorem dX6_tired_27 : decode cX6_tired 27 = .ok (.ireturn, 1) := by decide +kernel
theorem dX6_acts_0 : decode cX6_acts 0 = .ok (.aload_n 0, 1) := by decide +kernel
theorem dX6_acts_1 : decode cX6_acts 1 = .ok (.getfield 72, 3) := by decide +kernel
theorem dX6_acts_4 : decode cX6_acts 4 = .ok (.iconst (-1), 1) := by decide +kernel
theorem dX6_acts_5 : decode cX6_acts 5 = .ok (.if_icmp .eq 15, 3) := by decide +kernel
theorem dX6_acts_8 : decode cX6_acts 8 = .ok (.aload_n 0, 1) := by decide +kernel
theorem dX6_acts_9 : decode cX6_acts 9 = .ok (.getfield 76, 3) := by decide +kernel
theorem dX6_acts_12 : decode cX6_acts 12 = .ok (.iconst (-1), 1) := by decide +kernel
theorem dX6_acts_13 : decode cX6_acts 13 = .ok (.if_icmp .ne 7, 3) := by decide +kernel
theorem dX6_acts_16 : decode cX6_acts 16 = .ok (.iconst 1, 1) := by decide +kernel
theorem dX6_acts_17 : decode cX6_acts 17 = .ok (.goto 4, 3) := by decide +kernel
theorem dX6_acts_20 : decode cX6_acts 20 = .ok (.iconst 0, 1) := by decide +kernel
theorem dX6_acts_21 : decode cX6_acts 21 = .ok (.ireturn, 1) := by decide +kernel
theorem dX6_barring_0 : decode cX6_barring 0 = .ok (.iconst 0, 1) := by decide +kernel
theorem dX6_barring_1 : decode cX6_barring 1 = .ok (.istore_n 2, 1) := by decide +kernel
theorem dX6_barring_2 : decode cX6_barring 2 = .ok (.iload_n 2, 1) := by decide +kernel
theorem dX6_barring_3 : decode cX6_barring 3 = .ok (.aload_n 0, 1) := by decide +kernel
theorem dX6_barring_4 : decode cX6_barring 4 = .ok (.getfield 130, 3) := by decide +kernel
theorem dX6_barring_7 : decode cX6_barring 7 = .ok (.if_icmp .ge 39, 3) := by decide +kernel
theorem dX6_barring_10 : decode cX6_barring 10 = .ok (.aload_n 0, 1) := by decide +kernel
theorem dX6_barring_11 : decode cX6_barring 11 = .ok (.getfield 17, 3) := by decide +kernel
theorem dX6_barring_14 : decode cX6_barring 14 = .ok (.aload_n 0, 1) := by decide +kernel
theorem dX6_barring_15 : decode cX6_barring 15 = .ok (.getfield 69, 3) := by decide +kernel
theorem dX6_barring_18 : decode cX6_barring 18 = .ok (.iload_n 2, 1) := by decide +kernel
theorem dX6_barring_19 : decode cX6_barring 19 = .ok (.iaload, 1) := by decide +kernel
theorem dX6_barring_20 : decode cX6_barring 20 = .ok (.baload, 1) := by decide +kernel
theorem dX6_barring_21 : decode cX6_barring 21 = .ok (.ifCond .eq 19, 3) := by decide +kernel
theorem dX6_barring_24 : decode cX6_barring 24 = .ok (.aload_n 0, 1) := by decide +kernel
theorem dX6_barring_25 : decode cX6_barring 25 = .ok (.getfield 66, 3) := by decide +kernel
theorem dX6_barring_28 : decode cX6_barring 28 = .ok (.iload_n 2, 1) := by decide +kernel
theorem dX6_barring_29 : decode cX6_barring 29 = .ok (.iaload, 1) := by decide +kernel
theorem dX6_barring_30 : decode cX6_barring 30 = .ok (.iload_n 1, 1) := by decide +kernel
theorem dX6_barring_31 : decode cX6_barring 31 = .ok (.ishr, 1) := by decide +kernel
theorem dX6_barring_32 : decode cX6_barring 32 = .ok (.iconst 1, 1) := by decide +kernel
theorem dX6_barring_33 : decode cX6_barring 33 = .ok (.iand, 1) := by decide +kernel
theorem dX6_barring_34 : decode cX6_barring 34 = .ok (.iconst 1, 1) := by decide +kernel
theorem dX6_barring_35 : decode cX6_barring 35 = .ok (.if_icmp .ne 5, 3) := by decide +kernel
theorem dX6_barring_38 : decode cX6_barring 38 = .ok (.iload_n 2, 1) := by decide +kernel
theorem dX6_barring_39 : decode cX6_barring 39 = .ok (.ireturn, 1) := by decide +kernel
theorem dX6_barring_40 : decode cX6_barring 40 = .ok (.iinc 2 1, 3) := by decide +kernel
theorem dX6_barring_43 : decode cX6_barring 43 = .ok (.goto (-41), 3) := by decide +kernel
theorem dX6_barring_46 : decode cX6_barring 46 = .ok (.iconst (-1), 1) := by decide +kernel
theorem dX6_barring_47 : decode cX6_barring 47 = .ok (.ireturn, 1) := by decide +kernel
set_option maxRecDepth 20000 in
theorem ggX6_reasonOf_X6_acts : GoodIn wsX6_reasonOf wsX6_acts := goodIn_r _ [11, 12, 13, 28, 29, 30, 31, 32, 33, 34, 35, 36, 37, 38, 39, 40, 41, 42, 43, 44, 45, 46, 47, 48, 49, 50, 51, 52, 53, 54, 55, 56] (by decide +kernel) (by decide +kernel)
set_option maxRecDepth 20000 in
theorem gX6_reasonOf_X6_acts : GoodIn wsX6_reasonOf (wsV RX6 133 RX6 yX6_acts wsX6_acts) := goodIn_app (goodIn_of _ (by decide +kernel)) ggX6_reasonOf_X6_acts
set_option maxRecDepth 20000 in
theorem ggX6_reasonOf_X6_tired : GoodIn wsX6_reasonOf wsX6_tired := goodIn_r _ [17, 12, 18, 19, 28, 29, 30, 31, 32, 33, 34, 35, 36, 37, 38, 39, 40, 41, 42, 43, 44, 45, 46, 47, 48, 49, 50, 51, 52, 53, 54, 55, 56] (by decide +kernel) (by decide +kernel)
set_option maxRecDepth 20000 in
theorem gX6_reasonOf_X6_tired : GoodIn wsX6_reasonOf (wsV RX6 137 RX6 yX6_tired wsX6_tired) := goodIn_app (goodIn_of _ (by decide +kernel)) ggX6_reasonOf_X6_tired
set_option maxRecDepth 20000 in
theorem ggX6_reasonOf_X6_barring : GoodIn wsX6_reasonOf wsX6_barring := goodIn_ca (goodIn_r _ [23, 24, 25, 26, 27, 28, 29, 30, 31, 32, 33, 34, 35, 36, 37, 38, 39, 40, 41, 42, 43, 44, 45, 46, 47, 48, 49, 50, 51, 52, 53, 54, 55, 56] (by decide +kernel) (by decide +kernel)) (goodIn_sub (fun _ h => List.mem_cons_of_mem _ (List.mem_append_right _ h)) (by decide +kernel))
set_option maxRecDepth 20000 in
theorem gX6_reasonOf_X6_barring : GoodIn wsX6_reasonOf (wsV RX6 140 RX6 yX6_barring wsX6_barring) := goodIn_app (goodIn_of _ (by decide +kernel)) ggX6_reasonOf_X6_barring
theorem dX6_reasonOf_0 : decode cX6_reasonOf 0 = .ok (.aload_n 0, 1) := by decide +kernel
theorem dX6_reasonOf_1 : decode cX6_reasonOf 1 = .ok (.getfield 63, 3) := by decide +kernel
theorem dX6_reasonOf_4 : decode cX6_reasonOf 4 = .ok (.iload_n 1, 1) := by decide +kernel
theorem dX6_reasonOf_5 : decode cX6_reasonOf 5 = .ok (.iaload, 1) := by decide +kernel
theorem dX6_reasonOf_6 : decode cX6_reasonOf 6 = .ok (.aload_n 0, 1) := by decide +kernel
theorem dX6_reasonOf_7 : decode cX6_reasonOf 7 = .ok (.getfield 60, 3) := by decide +kernel
theorem dX6_reasonOf_10 : decode cX6_reasonOf 10 = .ok (.iload_n 1, 1) := by decide +kernel
theorem dX6_reasonOf_11 : decode cX6_reasonOf 11 = .ok (.iaload, 1) := by decide +kernel
theorem dX6_reasonOf_12 : decode cX6_reasonOf 12 = .ok (.if_icmp .ne 6, 3) := by decide +kernel
theorem dX6_reasonOf_15 : decode cX6_reasonOf 15 = .ok (.bipush 101, 2) := by decide +kernel
theorem dX6_reasonOf_17 : decode cX6_reasonOf 17 = .ok (.ireturn, 1) := by decide +kernel
theorem dX6_reasonOf_18 : decode cX6_reasonOf 18 = .ok (.aload_n 0, 1) := by decide +kernel
theorem dX6_reasonOf_19 : decode cX6_reasonOf 19 = .ok (.invokevirtual 133, 3) := by decide +kernel
theorem dX6_reasonOf_22 : decode cX6_reasonOf 22 = .ok (.ifCond .ne 6, 3) := by decide +kernel
theorem dX6_reasonOf_25 : decode cX6_reasonOf 25 = .ok (.bipush 100, 2) := by decide +kernel
theorem dX6_reasonOf_27 : decode cX6_reasonOf 27 = .ok (.ireturn, 1) := by decide +kernel
theorem dX6_reasonOf_28 : decode cX6_reasonOf 28 = .ok (.bipush 8, 2) := by decide +kernel
theorem dX6_reasonOf_30 : decode cX6_reasonOf 30 = .ok (.iload_n 1, 1) := by decide +kernel
theorem dX6_reasonOf_31 : decode cX6_reasonOf 31 = .ok (.imul, 1) := by decide +kernel
theorem dX6_reasonOf_32 : decode cX6_reasonOf 32 = .ok (.aload_n 0, 1) := by decide +kernel
theorem dX6_reasonOf_33 : decode cX6_reasonOf 33 = .ok (.getfield 63, 3) := by decide +kernel
theorem dX6_reasonOf_36 : decode cX6_reasonOf 36 = .ok (.iload_n 1, 1) := by decide +kernel
theorem dX6_reasonOf_37 : decode cX6_reasonOf 37 = .ok (.iaload, 1) := by decide +kernel
theorem dX6_reasonOf_38 : decode cX6_reasonOf 38 = .ok (.iadd, 1) := by decide +kernel
theorem dX6_reasonOf_39 : decode cX6_reasonOf 39 = .ok (.istore_n 2, 1) := by decide +kernel
theorem dX6_reasonOf_40 : decode cX6_reasonOf 40 = .ok (.aload_n 0, 1) := by decide +kernel
theorem dX6_reasonOf_41 : decode cX6_reasonOf 41 = .ok (.getfield 7, 3) := by decide +kernel
theorem dX6_reasonOf_44 : decode cX6_reasonOf 44 = .ok (.aload_n 0, 1) := by decide +kernel
theorem dX6_reasonOf_45 : decode cX6_reasonOf 45 = .ok (.getfield 39, 3) := by decide +kernel
theorem dX6_reasonOf_48 : decode cX6_reasonOf 48 = .ok (.iload_n 2, 1) := by decide +kernel
theorem dX6_reasonOf_49 : decode cX6_reasonOf 49 = .ok (.iaload, 1) := by decide +kernel
theorem dX6_reasonOf_50 : decode cX6_reasonOf 50 = .ok (.iaload, 1) := by decide +kernel
theorem dX6_reasonOf_51 : decode cX6_reasonOf 51 = .ok (.aload_n 0, 1) := by decide +kernel
theorem dX6_reasonOf_52 : decode cX6_reasonOf 52 = .ok (.getfield 42, 3) := by decide +kernel
theorem dX6_reasonOf_55 : decode cX6_reasonOf 55 = .ok (.iload_n 2, 1) := by decide +kernel
theorem dX6_reasonOf_56 : decode cX6_reasonOf 56 = .ok (.iaload, 1) := by decide +kernel
theorem dX6_reasonOf_57 : decode cX6_reasonOf 57 = .ok (.if_icmp .eq 7, 3) := by decide +kernel
theorem dX6_reasonOf_60 : decode cX6_reasonOf 60 = .ok (.iconst 1, 1) := by decide +kernel
theorem dX6_reasonOf_61 : decode cX6_reasonOf 61 = .ok (.goto 4, 3) := by decide +kernel
theorem dX6_reasonOf_64 : decode cX6_reasonOf 64 = .ok (.iconst 0, 1) := by decide +kernel
theorem dX6_reasonOf_65 : decode cX6_reasonOf 65 = .ok (.istore_n 3, 1) := by decide +kernel
theorem dX6_reasonOf_66 : decode cX6_reasonOf 66 = .ok (.aload_n 0, 1) := by decide +kernel
theorem dX6_reasonOf_67 : decode cX6_reasonOf 67 = .ok (.invokevirtual 137, 3) := by decide +kernel
theorem dX6_reasonOf_70 : decode cX6_reasonOf 70 = .ok (.ifCond .eq 8, 3) := by decide +kernel
theorem dX6_reasonOf_73 : decode cX6_reasonOf 73 = .ok (.bipush 116, 2) := by decide +kernel
theorem dX6_reasonOf_75 : decode cX6_reasonOf 75 = .ok (.goto 33, 3) := by decide +kernel
theorem dX6_reasonOf_78 : decode cX6_reasonOf 78 = .ok (.aload_n 0, 1) := by decide +kernel
theorem dX6_reasonOf_79 : decode cX6_reasonOf 79 = .ok (.aload_n 0, 1) := by decide +kernel
theorem dX6_reasonOf_80 : decode cX6_reasonOf 80 = .ok (.getfield 45, 3) := by decide +kernel
theorem dX6_reasonOf_83 : decode cX6_reasonOf 83 = .ok (.iload_n 2, 1) := by decide +kernel
theorem dX6_reasonOf_84 : decode cX6_reasonOf 84 = .ok (.iaload, 1) := by decide +kernel
theorem dX6_reasonOf_85 : decode cX6_reasonOf 85 = .ok (.invokevirtual 140, 3) := by decide +kernel
theorem dX6_reasonOf_88 : decode cX6_reasonOf 88 = .ok (.iconst (-1), 1) := by decide +kernel
theorem dX6_reasonOf_89 : decode cX6_reasonOf 89 = .ok (.if_icmp .eq 8, 3) := by decide +kernel
theorem dX6_reasonOf_92 : decode cX6_reasonOf 92 = .ok (.bipush 98, 2) := by decide +kernel
theorem dX6_reasonOf_94 : decode cX6_reasonOf 94 = .ok (.goto 14, 3) := by decide +kernel
theorem dX6_reasonOf_97 : decode cX6_reasonOf 97 = .ok (.iload_n 3, 1) := by decide +kernel
theorem dX6_reasonOf_98 : decode cX6_reasonOf 98 = .ok (.ifCond .eq 8, 3) := by decide +kernel
theorem dX6_reasonOf_101 : decode cX6_reasonOf 101 = .ok (.bipush 110, 2) := by decide +kernel
theorem dX6_reasonOf_103 : decode cX6_reasonOf 103 = .ok (.goto 5, 3) := by decide +kernel
theorem dX6_reasonOf_106 : decode cX6_reasonOf 106 = .ok (.bipush 45, 2) := by decide +kernel
theorem dX6_reasonOf_108 : decode cX6_reasonOf 108 = .ok (.ireturn, 1) := by decide +kernel
set_option maxRecDepth 20000 in
theorem ggX6_reason_X6_asks : GoodIn wsX6_reason wsX6_asks := goodIn_r _ [5, 6, 7, 8, 9, 4, 10, 11, 12, 13, 14, 45, 46, 47, 48, 49, 50, 51, 52, 53, 54, 55, 56, 57, 58, 59, 60, 61, 62, 63, 64, 65, 66, 67, 68, 69, 70, 71, 72, 73] (by decide +kernel) (by decide +kernel)
set_option maxRecDepth 20000 in
theorem gX6_reason_X6_asks : GoodIn wsX6_reason (wsV RX6 124 RX6 yX6_asks wsX6_asks) := goodIn_app (goodIn_of _ (by decide +kernel)) ggX6_reason_X6_asks
set_option maxRecDepth 20000 in
theorem ggX6_reason_X6_reasonOf : GoodIn wsX6_reason wsX6_reasonOf := goodIn_ca (goodIn_r _ [18, 19, 20, 21, 22, 23, 24, 25, 26, 27, 4, 28, 29, 30, 31, 32, 33, 34, 35, 36, 37, 38, 39, 40, 41, 42, 43, 44, 45, 46, 47, 48, 49, 50, 51, 52, 53, 54, 55, 56, 57, 58, 59, 60, 61, 62, 63, 64, 65, 66, 67, 68, 69, 70, 71, 72, 73] (by decide +kernel) (by decide +kernel)) (goodIn_sub (fun _ h => List.mem_cons_of_mem _ (List.mem_append_right _ h)) (by decide +kernel))
set_option maxRecDepth 20000 in
theorem gX6_reason_X6_reasonOf : GoodIn wsX6_reason (wsV RX6 144 RX6 yX6_reasonOf wsX6_reasonOf) := goodIn_app (goodIn_of _ (by decide +kernel)) ggX6_reason_X6_reasonOf
theorem dX6_reason_0 : decode cX6_reason 0 = .ok (.aload_n 0, 1) := by decide +kernel
theorem dX6_reason_1 : decode cX6_reason 1 = .ok (.iload_n 1, 1) := by decide +kernel
theorem dX6_reason_2 : decode cX6_reason 2 = .ok (.invokevirtual 124, 3) := by decide +kernel
theorem dX6_reason_5 : decode cX6_reason 5 = .ok (.ifCond .eq 11, 3) := by decide +kernel
theorem dX6_reason_8 : decode cX6_reason 8 = .ok (.aload_n 0, 1) := by decide +kernel
theorem dX6_reason_9 : decode cX6_reason 9 = .ok (.iload_n 1, 1) := by decide +kernel
theorem dX6_reason_10 : decode cX6_reason 10 = .ok (.invokevirtual 144, 3) := by decide +kernel
theorem dX6_reason_13 : decode cX6_reason 13 = .ok (.goto 5, 3) := by decide +kernel
theorem dX6_reason_16 : decode cX6_reason 16 = .ok (.bipush 32, 2) := by decide +kernel
theorem dX6_reason_18 : decode cX6_reason 18 = .ok (.ireturn, 1) := by decide +kernel
set_option maxRecDepth 20000 in
theorem ggX6_barredBy_X6_asks : GoodIn wsX6_barredBy wsX6_asks := goodIn_r _ [9, 4, 10, 11, 12, 8, 13, 14, 15, 16, 17, 26, 27, 28, 29, 30, 31, 32, 33, 34, 35, 36, 37, 38, 39, 40, 41, 42, 43, 44, 45, 46, 47, 48, 49, 50, 51, 52, 53, 54] (by decide +kernel) (by decide +kernel)
set_option maxRecDepth 20000 in
theorem gX6_barredBy_X6_asks : GoodIn wsX6_barredBy (wsV RX6 124 RX6 yX6_asks wsX6_asks) := goodIn_app (goodIn_of _ (by decide +kernel)) ggX6_barredBy_X6_asks
set_option maxRecDepth 20000 in
theorem ggX6_barredBy_X6_barring : GoodIn wsX6_barredBy wsX6_barring := goodIn_ca (goodIn_r _ [21, 22, 23, 24, 25, 26, 27, 28, 29, 30, 31, 32, 33, 34, 35, 36, 37, 38, 39, 40, 41, 42, 43, 44, 45, 46, 47, 48, 49, 50, 51, 52, 53, 54] (by decide +kernel) (by decide +kernel)) (goodIn_sub (fun _ h => List.mem_cons_of_mem _ (List.mem_append_right _ h)) (by decide +kernel))
set_option maxRecDepth 20000 in
theorem gX6_barredBy_X6_barring : GoodIn wsX6_barredBy (wsV RX6 140 RX6 yX6_barring wsX6_barring) := goodIn_app (goodIn_of _ (by decide +kernel)) ggX6_barredBy_X6_barring
theorem dX6_barredBy_0 : decode cX6_barredBy 0 = .ok (.aload_n 0, 1) := by decide +kernel
theorem dX6_barredBy_1 : decode cX6_barredBy 1 = .ok (.iload_n 1, 1) := by decide +kernel
theorem dX6_barredBy_2 : decode cX6_barredBy 2 = .ok (.invokevirtual 124, 3) := by decide +kernel
theorem dX6_barredBy_5 : decode cX6_barredBy 5 = .ok (.ifCond .ne 5, 3) := by decide +kernel
theorem dX6_barredBy_8 : decode cX6_barredBy 8 = .ok (.iconst (-1), 1) := by decide +kernel
theorem dX6_barredBy_9 : decode cX6_barredBy 9 = .ok (.ireturn, 1) := by decide +kernel
theorem dX6_barredBy_10 : decode cX6_barredBy 10 = .ok (.aload_n 0, 1) := by decide +kernel
theorem dX6_barredBy_11 : decode cX6_barredBy 11 = .ok (.getfield 63, 3) := by decide +kernel
theorem dX6_barredBy_14 : decode cX6_barredBy 14 = .ok (.iload_n 1, 1) := by decide +kernel
theorem dX6_barredBy_15 : decode cX6_barredBy 15 = .ok (.iaload, 1) := by decide +kernel
theorem dX6_barredBy_16 : decode cX6_barredBy 16 = .ok (.aload_n 0, 1) := by decide +kernel
theorem dX6_barredBy_17 : decode cX6_barredBy 17 = .ok (.getfield 60, 3) := by decide +kernel
theorem dX6_barredBy_20 : decode cX6_barredBy 20 = .ok (.iload_n 1, 1) := by decide +kernel
theorem dX6_barredBy_21 : decode cX6_barredBy 21 = .ok (.iaload, 1) := by decide +kernel
theorem dX6_barredBy_22 : decode cX6_barredBy 22 = .ok (.if_icmp .ne 7, 3) := by decide +kernel
theorem dX6_barredBy_25 : decode cX6_barredBy 25 = .ok (.iconst 1, 1) := by decide +kernel
theorem dX6_barredBy_26 : decode cX6_barredBy 26 = .ok (.goto 4, 3) := by decide +kernel
theorem dX6_barredBy_29 : decode cX6_barredBy 29 = .ok (.iconst 0, 1) := by decide +kernel
theorem dX6_barredBy_30 : decode cX6_barredBy 30 = .ok (.istore_n 2, 1) := by decide +kernel
theorem dX6_barredBy_31 : decode cX6_barredBy 31 = .ok (.iload_n 2, 1) := by decide +kernel
theorem dX6_barredBy_32 : decode cX6_barredBy 32 = .ok (.ifCond .eq 7, 3) := by decide +kernel
theorem dX6_barredBy_35 : decode cX6_barredBy 35 = .ok (.iconst (-1), 1) := by decide +kernel
theorem dX6_barredBy_36 : decode cX6_barredBy 36 = .ok (.goto 23, 3) := by decide +kernel
theorem dX6_barredBy_39 : decode cX6_barredBy 39 = .ok (.aload_n 0, 1) := by decide +kernel
theorem dX6_barredBy_40 : decode cX6_barredBy 40 = .ok (.aload_n 0, 1) := by decide +kernel
theorem dX6_barredBy_41 : decode cX6_barredBy 41 = .ok (.getfield 45, 3) := by decide +kernel
theorem dX6_barredBy_44 : decode cX6_barredBy 44 = .ok (.bipush 8, 2) := by decide +kernel
theorem dX6_barredBy_46 : decode cX6_barredBy 46 = .ok (.iload_n 1, 1) := by decide +kernel
theorem dX6_barredBy_47 : decode cX6_barredBy 47 = .ok (.imul, 1) := by decide +kernel
theorem dX6_barredBy_48 : decode cX6_barredBy 48 = .ok (.aload_n 0, 1) := by decide +kernel
theorem dX6_barredBy_49 : decode cX6_barredBy 49 = .ok (.getfield 63, 3) := by decide +kernel
theorem dX6_barredBy_52 : decode cX6_barredBy 52 = .ok (.iload_n 1, 1) := by decide +kernel
theorem dX6_barredBy_53 : decode cX6_barredBy 53 = .ok (.iaload, 1) := by decide +kernel
theorem dX6_barredBy_54 : decode cX6_barredBy 54 = .ok (.iadd, 1) := by decide +kernel
theorem dX6_barredBy_55 : decode cX6_barredBy 55 = .ok (.iaload, 1) := by decide +kernel
theorem dX6_barredBy_56 : decode cX6_barredBy 56 = .ok (.invokevirtual 140, 3) := by decide +kernel
theorem dX6_barredBy_59 : decode cX6_barredBy 59 = .ok (.istore_n 3, 1) := by decide +kernel
theorem dX6_barredBy_60 : decode cX6_barredBy 60 = .ok (.aload_n 0, 1) := by decide +kernel
theorem dX6_barredBy_61 : decode cX6_barredBy 61 = .ok (.iload_n 3, 1) := by decide +kernel
theorem dX6_barredBy_62 : decode cX6_barredBy 62 = .ok (.iconst (-1), 1) := by decide +kernel
theorem dX6_barredBy_63 : decode cX6_barredBy 63 = .ok (.if_icmp .ne 7, 3) := by decide +kernel
theorem dX6_barredBy_66 : decode cX6_barredBy 66 = .ok (.iconst 1, 1) := by decide +kernel
theorem dX6_barredBy_67 : decode cX6_barredBy 67 = .ok (.goto 4, 3) := by decide +kernel
theorem dX6_barredBy_70 : decode cX6_barredBy 70 = .ok (.iconst 0, 1) := by decide +kernel
theorem dX6_barredBy_71 : decode cX6_barredBy 71 = .ok (.putfield 82, 3) := by decide +kernel
theorem dX6_barredBy_74 : decode cX6_barredBy 74 = .ok (.iload_n 3, 1) := by decide +kernel
theorem dX6_barredBy_75 : decode cX6_barredBy 75 = .ok (.ireturn, 1) := by decide +kernel
theorem dX6_closesUndone_0 : decode cX6_closesUndone 0 = .ok (.aload_n 0, 1) := by decide +kernel
theorem dX6_closesUndone_1 : decode cX6_closesUndone 1 = .ok (.getfield 57, 3) := by decide +kernel
theorem dX6_closesUndone_4 : decode cX6_closesUndone 4 = .ok (.iload_n 1, 1) := by decide +kernel
theorem dX6_closesUndone_5 : decode cX6_closesUndone 5 = .ok (.iaload, 1) := by decide +kernel
theorem dX6_closesUndone_6 : decode cX6_closesUndone 6 = .ok (.istore_n 2, 1) := by decide +kernel
theorem dX6_closesUndone_7 : decode cX6_closesUndone 7 = .ok (.aload_n 0, 1) := by decide +kernel
theorem dX6_closesUndone_8 : decode cX6_closesUndone 8 = .ok (.getfield 57, 3) := by decide +kernel
theorem dX6_closesUndone_11 : decode cX6_closesUndone 11 = .ok (.iload_n 1, 1) := by decide +kernel
theorem dX6_closesUndone_12 : decode cX6_closesUndone 12 = .ok (.iconst (-1), 1) := by decide +kernel
theorem dX6_closesUndone_13 : decode cX6_closesUndone 13 = .ok (.iastore, 1) := by decide +kernel
theorem dX6_closesUndone_14 : decode cX6_closesUndone 14 = .ok (.iload_n 2, 1) := by decide +kernel
theorem dX6_closesUndone_15 : decode cX6_closesUndone 15 = .ok (.iconst (-1), 1) := by decide +kernel
theorem dX6_closesUndone_16 : decode cX6_closesUndone 16 = .ok (.if_icmp .eq 12, 3) := by decide +kernel
theorem dX6_closesUndone_19 : decode cX6_closesUndone 19 = .ok (.aload_n 0, 1) := by decide +kernel
theorem dX6_closesUndone_20 : decode cX6_closesUndone 20 = .ok (.getfield 17, 3) := by decide +kernel
theorem dX6_closesUndone_23 : decode cX6_closesUndone 23 = .ok (.iload_n 2, 1) := by decide +kernel
theorem dX6_closesUndone_24 : decode cX6_closesUndone 24 = .ok (.baload, 1) := by decide +kernel
theorem dX6_closesUndone_25 : decode cX6_closesUndone 25 = .ok (.ifCond .ne 5, 3) := by decide +kernel
theorem dX6_closesUndone_28 : decode cX6_closesUndone 28 = .ok (.iconst 0, 1) := by decide +kernel
theorem dX6_closesUndone_29 : decode cX6_closesUndone 29 = .ok (.ireturn, 1) := by decide +kernel
theorem dX6_closesUndone_30 : decode cX6_closesUndone 30 = .ok (.aload_n 0, 1) := by decide +kernel
theorem dX6_closesUndone_31 : decode cX6_closesUndone 31 = .ok (.getfield 17, 3) := by decide +kernel
theorem dX6_closesUndone_34 : decode cX6_closesUndone 34 = .ok (.iload_n 2, 1) := by decide +kernel
theorem dX6_closesUndone_35 : decode cX6_closesUndone 35 = .ok (.iconst 0, 1) := by decide +kernel
theorem dX6_closesUndone_36 : decode cX6_closesUndone 36 = .ok (.bastore, 1) := by decide +kernel
theorem dX6_closesUndone_37 : decode cX6_closesUndone 37 = .ok (.iconst 1, 1) := by decide +kernel
theorem dX6_closesUndone_38 : decode cX6_closesUndone 38 = .ok (.ireturn, 1) := by decide +kernel
set_option maxRecDepth 20000 in
theorem ggX6_step_X6_isProcedure : GoodIn wsX6_step wsX6_isProcedure := goodIn_r _ [13, 14, 15, 16, 12, 17, 49, 50, 51, 52, 53, 54, 55, 56, 57, 58, 59, 60, 61, 62, 63, 64, 65, 66, 67, 68, 69, 70, 71, 72, 73, 74, 75, 76, 77] (by decide +kernel) (by decide +kernel)
set_option maxRecDepth 20000 in
theorem gX6_step_X6_isProcedure : GoodIn wsX6_step (wsV RX6 121 RX6 yX6_isProcedure wsX6_isProcedure) := goodIn_app (goodIn_of _ (by decide +kernel)) ggX6_step_X6_isProcedure
set_option maxRecDepth 20000 in
theorem ggX6_step_X6_reasonOf : GoodIn wsX6_step wsX6_reasonOf := goodIn_ca (goodIn_r _ [21, 2, 22, 4, 23, 24, 5, 25, 26, 27, 12, 28, 29, 30, 31, 32, 33, 34, 8, 35, 36, 37, 38, 39, 40, 41, 42, 43, 49, 50, 51, 52, 53, 54, 55, 56, 57, 58, 59, 60, 61, 62, 63, 64, 65, 66, 67, 68, 69, 70, 71, 72, 73, 74, 75, 76, 77] (by decide +kernel) (by decide +kernel)) (goodIn_sub (fun _ h => List.mem_cons_of_mem _ (List.mem_append_right _ h)) (by decide +kernel))
set_option maxRecDepth 20000 in
theorem gX6_step_X6_reasonOf : GoodIn wsX6_step (wsV RX6 144 RX6 yX6_reasonOf wsX6_reasonOf) := goodIn_app (goodIn_of _ (by decide +kernel)) ggX6_step_X6_reasonOf
set_option maxRecDepth 20000 in
theorem ggX6_step_X6_closesUndone : GoodIn wsX6_step wsX6_closesUndone := goodIn_ca (goodIn_r _ [47, 48, 41, 49, 50, 51, 52, 53, 54, 55, 56, 57, 58, 59, 60, 61, 62, 63, 64, 65, 66, 67, 68, 69, 70, 71, 72, 73, 74, 75, 76, 77] (by decide +kernel) (by decide +kernel)) (goodIn_sub (fun _ h => List.mem_cons_of_mem _ (List.mem_append_right _ h)) (by decide +kernel))
set_option maxRecDepth 20000 in
theorem gX6_step_X6_closesUndone : GoodIn wsX6_step (wsV RX6 148 RX6 yX6_closesUndone wsX6_closesUndone) := goodIn_app (goodIn_of _ (by decide +kernel)) ggX6_step_X6_closesUndone
theorem dX6_step_0 : decode cX6_step 0 = .ok (.aload_n 0, 1) := by decide +kernel
theorem dX6_step_1 : decode cX6_step 1 = .ok (.aload_n 0, 1) := by decide +kernel
theorem dX6_step_2 : decode cX6_step 2 = .ok (.iload_n 1, 1) := by decide +kernel
theorem dX6_step_3 : decode cX6_step 3 = .ok (.invokevirtual 121, 3) := by decide +kernel
theorem dX6_step_6 : decode cX6_step 6 = .ok (.ifCond .ne 7, 3) := by decide +kernel
theorem dX6_step_9 : decode cX6_step 9 = .ok (.iconst 1, 1) := by decide +kernel
theorem dX6_step_10 : decode cX6_step 10 = .ok (.goto 18, 3) := by decide +kernel
theorem dX6_step_13 : decode cX6_step 13 = .ok (.aload_n 0, 1) := by decide +kernel
theorem dX6_step_14 : decode cX6_step 14 = .ok (.iload_n 1, 1) := by decide +kernel
theorem dX6_step_15 : decode cX6_step 15 = .ok (.invokevirtual 144, 3) := by decide +kernel
theorem dX6_step_18 : decode cX6_step 18 = .ok (.bipush 45, 2) := by decide +kernel
theorem dX6_step_20 : decode cX6_step 20 = .ok (.if_icmp .eq 7, 3) := by decide +kernel
theorem dX6_step_23 : decode cX6_step 23 = .ok (.iconst 2, 1) := by decide +kernel
theorem dX6_step_24 : decode cX6_step 24 = .ok (.goto 4, 3) := by decide +kernel
theorem dX6_step_27 : decode cX6_step 27 = .ok (.iconst 0, 1) := by decide +kernel
theorem dX6_step_28 : decode cX6_step 28 = .ok (.putfield 82, 3) := by decide +kernel
theorem dX6_step_31 : decode cX6_step 31 = .ok (.aload_n 0, 1) := by decide +kernel
theorem dX6_step_32 : decode cX6_step 32 = .ok (.getfield 82, 3) := by decide +kernel
theorem dX6_step_35 : decode cX6_step 35 = .ok (.ifCond .le 5, 3) := by decide +kernel
theorem dX6_step_38 : decode cX6_step 38 = .ok (.iconst (-1), 1) := by decide +kernel
theorem dX6_step_39 : decode cX6_step 39 = .ok (.ireturn, 1) := by decide +kernel
theorem dX6_step_40 : decode cX6_step 40 = .ok (.bipush 8, 2) := by decide +kernel
theorem dX6_step_42 : decode cX6_step 42 = .ok (.iload_n 1, 1) := by decide +kernel
theorem dX6_step_43 : decode cX6_step 43 = .ok (.imul, 1) := by decide +kernel
theorem dX6_step_44 : decode cX6_step 44 = .ok (.aload_n 0, 1) := by decide +kernel
theorem dX6_step_45 : decode cX6_step 45 = .ok (.getfield 63, 3) := by decide +kernel
theorem dX6_step_48 : decode cX6_step 48 = .ok (.iload_n 1, 1) := by decide +kernel
theorem dX6_step_49 : decode cX6_step 49 = .ok (.iaload, 1) := by decide +kernel
theorem dX6_step_50 : decode cX6_step 50 = .ok (.iadd, 1) := by decide +kernel
theorem dX6_step_51 : decode cX6_step 51 = .ok (.istore_n 2, 1) := by decide +kernel
theorem dX6_step_52 : decode cX6_step 52 = .ok (.aload_n 0, 1) := by decide +kernel
theorem dX6_step_53 : decode cX6_step 53 = .ok (.getfield 51, 3) := by decide +kernel
theorem dX6_step_56 : decode cX6_step 56 = .ok (.iload_n 2, 1) := by decide +kernel
theorem dX6_step_57 : decode cX6_step 57 = .ok (.aload_n 0, 1) := by decide +kernel
theorem dX6_step_58 : decode cX6_step 58 = .ok (.getfield 7, 3) := by decide +kernel
theorem dX6_step_61 : decode cX6_step 61 = .ok (.aload_n 0, 1) := by decide +kernel
theorem dX6_step_62 : decode cX6_step 62 = .ok (.getfield 45, 3) := by decide +kernel
theorem dX6_step_65 : decode cX6_step 65 = .ok (.iload_n 2, 1) := by decide +kernel
theorem dX6_step_66 : decode cX6_step 66 = .ok (.iaload, 1) := by decide +kernel
theorem dX6_step_67 : decode cX6_step 67 = .ok (.iaload, 1) := by decide +kernel
theorem dX6_step_68 : decode cX6_step 68 = .ok (.iastore, 1) := by decide +kernel
theorem dX6_step_69 : decode cX6_step 69 = .ok (.aload_n 0, 1) := by decide +kernel
theorem dX6_step_70 : decode cX6_step 70 = .ok (.getfield 7, 3) := by decide +kernel
theorem dX6_step_73 : decode cX6_step 73 = .ok (.aload_n 0, 1) := by decide +kernel
theorem dX6_step_74 : decode cX6_step 74 = .ok (.getfield 45, 3) := by decide +kernel
theorem dX6_step_77 : decode cX6_step 77 = .ok (.iload_n 2, 1) := by decide +kernel
theorem dX6_step_78 : decode cX6_step 78 = .ok (.iaload, 1) := by decide +kernel
theorem dX6_step_79 : decode cX6_step 79 = .ok (.aload_n 0, 1) := by decide +kernel
theorem dX6_step_80 : decode cX6_step 80 = .ok (.getfield 48, 3) := by decide +kernel
theorem dX6_step_83 : decode cX6_step 83 = .ok (.iload_n 2, 1) := by decide +kernel
theorem dX6_step_84 : decode cX6_step 84 = .ok (.iaload, 1) := by decide +kernel
theorem dX6_step_85 : decode cX6_step 85 = .ok (.iastore, 1) := by decide +kernel
theorem dX6_step_86 : decode cX6_step 86 = .ok (.aload_n 0, 1) := by decide +kernel
theorem dX6_step_87 : decode cX6_step 87 = .ok (.getfield 54, 3) := by decide +kernel
theorem dX6_step_90 : decode cX6_step 90 = .ok (.iload_n 2, 1) := by decide +kernel
theorem dX6_step_91 : decode cX6_step 91 = .ok (.aload_n 0, 1) := by decide +kernel
theorem dX6_step_92 : decode cX6_step 92 = .ok (.getfield 98, 3) := by decide +kernel
theorem dX6_step_95 : decode cX6_step 95 = .ok (.iastore, 1) := by decide +kernel
theorem dX6_step_96 : decode cX6_step 96 = .ok (.aload_n 0, 1) := by decide +kernel
theorem dX6_step_97 : decode cX6_step 97 = .ok (.iload_n 2, 1) := by decide +kernel
theorem dX6_step_98 : decode cX6_step 98 = .ok (.invokevirtual 148, 3) := by decide +kernel
theorem dX6_step_101 : decode cX6_step 101 = .ok (.pop, 1) := by decide +kernel
theorem dX6_step_102 : decode cX6_step 102 = .ok (.aload_n 0, 1) := by decide +kernel
theorem dX6_step_103 : decode cX6_step 103 = .ok (.getfield 63, 3) := by decide +kernel
theorem dX6_step_106 : decode cX6_step 106 = .ok (.iload_n 1, 1) := by decide +kernel
theorem dX6_step_107 : decode cX6_step 107 = .ok (.dup2, 1) := by decide +kernel
theorem dX6_step_108 : decode cX6_step 108 = .ok (.iaload, 1) := by decide +kernel
theorem dX6_step_109 : decode cX6_step 109 = .ok (.iconst 1, 1) := by decide +kernel
theorem dX6_step_110 : decode cX6_step 110 = .ok (.iadd, 1) := by decide +kernel
theorem dX6_step_111 : decode cX6_step 111 = .ok (.iastore, 1) := by decide +kernel
theorem dX6_step_112 : decode cX6_step 112 = .ok (.aload_n 0, 1) := by decide +kernel
theorem dX6_step_113 : decode cX6_step 113 = .ok (.getfield 63, 3) := by decide +kernel
theorem dX6_step_116 : decode cX6_step 116 = .ok (.iload_n 1, 1) := by decide +kernel
theorem dX6_step_117 : decode cX6_step 117 = .ok (.iaload, 1) := by decide +kernel
theorem dX6_step_118 : decode cX6_step 118 = .ok (.iconst 1, 1) := by decide +kernel
theorem dX6_step_119 : decode cX6_step 119 = .ok (.isub, 1) := by decide +kernel
theorem dX6_step_120 : decode cX6_step 120 = .ok (.ireturn, 1) := by decide +kernel
set_option maxRecDepth 20000 in
theorem ggX6_undo_X6_isProcedure : GoodIn wsX6_undo wsX6_isProcedure := goodIn_r _ [13, 14, 15, 16, 12, 17, 41, 42, 43, 44, 45, 46, 47, 48, 49, 50, 51, 52, 53, 54, 55, 56, 57, 58, 59, 60, 61, 62, 63, 64, 65, 66, 67, 68, 69] (by decide +kernel) (by decide +kernel)
set_option maxRecDepth 20000 in
theorem gX6_undo_X6_isProcedure : GoodIn wsX6_undo (wsV RX6 121 RX6 yX6_isProcedure wsX6_isProcedure) := goodIn_app (goodIn_of _ (by decide +kernel)) ggX6_undo_X6_isProcedure
set_option maxRecDepth 20000 in
theorem ggX6_undo_X6_acts : GoodIn wsX6_undo wsX6_acts := goodIn_r _ [21, 22, 23, 41, 42, 43, 44, 45, 46, 47, 48, 49, 50, 51, 52, 53, 54, 55, 56, 57, 58, 59, 60, 61, 62, 63, 64, 65, 66, 67, 68, 69] (by decide +kernel) (by decide +kernel)
set_option maxRecDepth 20000 in
theorem gX6_undo_X6_acts : GoodIn wsX6_undo (wsV RX6 133 RX6 yX6_acts wsX6_acts) := goodIn_app (goodIn_of _ (by decide +kernel)) ggX6_undo_X6_acts
set_option maxRecDepth 20000 in
theorem ggX6_undo_X6_barring : GoodIn wsX6_undo wsX6_barring := goodIn_ca (goodIn_r _ [27, 28, 29, 30, 31, 41, 42, 43, 44, 45, 46, 47, 48, 49, 50, 51, 52, 53, 54, 55, 56, 57, 58, 59, 60, 61, 62, 63, 64, 65, 66, 67, 68, 69] (by decide +kernel) (by decide +kernel)) (goodIn_sub (fun _ h => List.mem_cons_of_mem _ (List.mem_append_right _ h)) (by decide +kernel))
set_option maxRecDepth 20000 in
theorem gX6_undo_X6_barring : GoodIn wsX6_undo (wsV RX6 140 RX6 yX6_barring wsX6_barring) := goodIn_app (goodIn_of _ (by decide +kernel)) ggX6_undo_X6_barring
set_option maxRecDepth 20000 in
theorem ggX6_undo_X6_opens : GoodIn wsX6_undo wsX6_opens := goodIn_ca (goodIn_r _ [35, 36, 2, 29, 37, 38, 39, 40, 41, 42, 43, 44, 45, 46, 47, 48, 49, 50, 51, 52, 53, 54, 55, 56, 57, 58, 59, 60, 61, 62, 63, 64, 65, 66, 67, 68, 69] (by decide +kernel) (by decide +kernel)) (goodIn_sub (fun _ h => List.mem_cons_of_mem _ (List.mem_append_right _ h)) (by decide +kernel))
set_option maxRecDepth 20000 in
theorem gX6_undo_X6_opens : GoodIn wsX6_undo (wsV RX6 109 RX6 yX6_opens wsX6_opens) := goodIn_app (goodIn_of _ (by decide +kernel)) ggX6_undo_X6_opens
theorem dX6_undo_0 : decode cX6_undo 0 = .ok (.aload_n 0, 1) := by decide +kernel
theorem dX6_undo_1 : decode cX6_undo 1 = .ok (.iload_n 1, 1) := by decide +kernel
theorem dX6_undo_2 : decode cX6_undo 2 = .ok (.invokevirtual 121, 3) := by decide +kernel
theorem dX6_undo_5 : decode cX6_undo 5 = .ok (.ifCond .eq 28, 3) := by decide +kernel
theorem dX6_undo_8 : decode cX6_undo 8 = .ok (.aload_n 0, 1) := by decide +kernel
theorem dX6_undo_9 : decode cX6_undo 9 = .ok (.getfield 63, 3) := by decide +kernel
theorem dX6_undo_12 : decode cX6_undo 12 = .ok (.iload_n 1, 1) := by decide +kernel
theorem dX6_undo_13 : decode cX6_undo 13 = .ok (.iaload, 1) := by decide +kernel
theorem dX6_undo_14 : decode cX6_undo 14 = .ok (.ifCond .eq 19, 3) := by decide +kernel
theorem dX6_undo_17 : decode cX6_undo 17 = .ok (.aload_n 0, 1) := by decide +kernel
theorem dX6_undo_18 : decode cX6_undo 18 = .ok (.invokevirtual 133, 3) := by decide +kernel
theorem dX6_undo_21 : decode cX6_undo 21 = .ok (.ifCond .eq 12, 3) := by decide +kernel
theorem dX6_undo_24 : decode cX6_undo 24 = .ok (.aload_n 0, 1) := by decide +kernel
theorem dX6_undo_25 : decode cX6_undo 25 = .ok (.getfield 95, 3) := by decide +kernel
theorem dX6_undo_28 : decode cX6_undo 28 = .ok (.bipush 60, 2) := by decide +kernel
theorem dX6_undo_30 : decode cX6_undo 30 = .ok (.if_icmp .ne 22, 3) := by decide +kernel
theorem dX6_undo_33 : decode cX6_undo 33 = .ok (.aload_n 0, 1) := by decide +kernel
theorem dX6_undo_34 : decode cX6_undo 34 = .ok (.aload_n 0, 1) := by decide +kernel
theorem dX6_undo_35 : decode cX6_undo 35 = .ok (.iload_n 1, 1) := by decide +kernel
theorem dX6_undo_36 : decode cX6_undo 36 = .ok (.invokevirtual 121, 3) := by decide +kernel
theorem dX6_undo_39 : decode cX6_undo 39 = .ok (.ifCond .ne 7, 3) := by decide +kernel
theorem dX6_undo_42 : decode cX6_undo 42 = .ok (.iconst 1, 1) := by decide +kernel
theorem dX6_undo_43 : decode cX6_undo 43 = .ok (.goto 4, 3) := by decide +kernel
theorem dX6_undo_46 : decode cX6_undo 46 = .ok (.iconst 2, 1) := by decide +kernel
theorem dX6_undo_47 : decode cX6_undo 47 = .ok (.putfield 82, 3) := by decide +kernel
theorem dX6_undo_50 : decode cX6_undo 50 = .ok (.iconst (-1), 1) := by decide +kernel
theorem dX6_undo_51 : decode cX6_undo 51 = .ok (.ireturn, 1) := by decide +kernel
theorem dX6_undo_52 : decode cX6_undo 52 = .ok (.bipush 8, 2) := by decide +kernel
theorem dX6_undo_54 : decode cX6_undo 54 = .ok (.iload_n 1, 1) := by decide +kernel
theorem dX6_undo_55 : decode cX6_undo 55 = .ok (.imul, 1) := by decide +kernel
theorem dX6_undo_56 : decode cX6_undo 56 = .ok (.aload_n 0, 1) := by decide +kernel
theorem dX6_undo_57 : decode cX6_undo 57 = .ok (.getfield 63, 3) := by decide +kernel
theorem dX6_undo_60 : decode cX6_undo 60 = .ok (.iload_n 1, 1) := by decide +kernel
theorem dX6_undo_61 : decode cX6_undo 61 = .ok (.iaload, 1) := by decide +kernel
theorem dX6_undo_62 : decode cX6_undo 62 = .ok (.iadd, 1) := by decide +kernel
theorem dX6_undo_63 : decode cX6_undo 63 = .ok (.iconst 1, 1) := by decide +kernel
theorem dX6_undo_64 : decode cX6_undo 64 = .ok (.isub, 1) := by decide +kernel
theorem dX6_undo_65 : decode cX6_undo 65 = .ok (.istore_n 2, 1) := by decide +kernel
theorem dX6_undo_66 : decode cX6_undo 66 = .ok (.aload_n 0, 1) := by decide +kernel
theorem dX6_undo_67 : decode cX6_undo 67 = .ok (.aload_n 0, 1) := by decide +kernel
theorem dX6_undo_68 : decode cX6_undo 68 = .ok (.getfield 7, 3) := by decide +kernel
theorem dX6_undo_71 : decode cX6_undo 71 = .ok (.aload_n 0, 1) := by decide +kernel
theorem dX6_undo_72 : decode cX6_undo 72 = .ok (.getfield 45, 3) := by decide +kernel
theorem dX6_undo_75 : decode cX6_undo 75 = .ok (.iload_n 2, 1) := by decide +kernel
theorem dX6_undo_76 : decode cX6_undo 76 = .ok (.iaload, 1) := by decide +kernel
theorem dX6_undo_77 : decode cX6_undo 77 = .ok (.iaload, 1) := by decide +kernel
theorem dX6_undo_78 : decode cX6_undo 78 = .ok (.aload_n 0, 1) := by decide +kernel
theorem dX6_undo_79 : decode cX6_undo 79 = .ok (.getfield 48, 3) := by decide +kernel
theorem dX6_undo_82 : decode cX6_undo 82 = .ok (.iload_n 2, 1) := by decide +kernel
theorem dX6_undo_83 : decode cX6_undo 83 = .ok (.iaload, 1) := by decide +kernel
theorem dX6_undo_84 : decode cX6_undo 84 = .ok (.if_icmp .ne 17, 3) := by decide +kernel
theorem dX6_undo_87 : decode cX6_undo 87 = .ok (.aload_n 0, 1) := by decide +kernel
theorem dX6_undo_88 : decode cX6_undo 88 = .ok (.aload_n 0, 1) := by decide +kernel
theorem dX6_undo_89 : decode cX6_undo 89 = .ok (.getfield 45, 3) := by decide +kernel
theorem dX6_undo_92 : decode cX6_undo 92 = .ok (.iload_n 2, 1) := by decide +kernel
theorem dX6_undo_93 : decode cX6_undo 93 = .ok (.iaload, 1) := by decide +kernel
theorem dX6_undo_94 : decode cX6_undo 94 = .ok (.invokevirtual 140, 3) := by decide +kernel
theorem dX6_undo_97 : decode cX6_undo 97 = .ok (.iconst (-1), 1) := by decide +kernel
theorem dX6_undo_98 : decode cX6_undo 98 = .ok (.if_icmp .eq 7, 3) := by decide +kernel
theorem dX6_undo_101 : decode cX6_undo 101 = .ok (.iconst 3, 1) := by decide +kernel
theorem dX6_undo_102 : decode cX6_undo 102 = .ok (.goto 4, 3) := by decide +kernel
theorem dX6_undo_105 : decode cX6_undo 105 = .ok (.iconst 0, 1) := by decide +kernel
theorem dX6_undo_106 : decode cX6_undo 106 = .ok (.putfield 82, 3) := by decide +kernel
theorem dX6_undo_109 : decode cX6_undo 109 = .ok (.aload_n 0, 1) := by decide +kernel
theorem dX6_undo_110 : decode cX6_undo 110 = .ok (.getfield 82, 3) := by decide +kernel
theorem dX6_undo_113 : decode cX6_undo 113 = .ok (.ifCond .le 5, 3) := by decide +kernel
theorem dX6_undo_116 : decode cX6_undo 116 = .ok (.iconst (-1), 1) := by decide +kernel
theorem dX6_undo_117 : decode cX6_undo 117 = .ok (.ireturn, 1) := by decide +kernel
theorem dX6_undo_118 : decode cX6_undo 118 = .ok (.aload_n 0, 1) := by decide +kernel
theorem dX6_undo_119 : decode cX6_undo 119 = .ok (.getfield 7, 3) := by decide +kernel
theorem dX6_undo_122 : decode cX6_undo 122 = .ok (.aload_n 0, 1) := by decide +kernel
theorem dX6_undo_123 : decode cX6_undo 123 = .ok (.getfield 45, 3) := by decide +kernel
theorem dX6_undo_126 : decode cX6_undo 126 = .ok (.iload_n 2, 1) := by decide +kernel
theorem dX6_undo_127 : decode cX6_undo 127 = .ok (.iaload, 1) := by decide +kernel
theorem dX6_undo_128 : decode cX6_undo 128 = .ok (.aload_n 0, 1) := by decide +kernel
theorem dX6_undo_129 : decode cX6_undo 129 = .ok (.getfield 51, 3) := by decide +kernel
theorem dX6_undo_132 : decode cX6_undo 132 = .ok (.iload_n 2, 1) := by decide +kernel
theorem dX6_undo_133 : decode cX6_undo 133 = .ok (.iaload, 1) := by decide +kernel
theorem dX6_undo_134 : decode cX6_undo 134 = .ok (.iastore, 1) := by decide +kernel
theorem dX6_undo_135 : decode cX6_undo 135 = .ok (.aload_n 0, 1) := by decide +kernel
theorem dX6_undo_136 : decode cX6_undo 136 = .ok (.getfield 63, 3) := by decide +kernel
theorem dX6_undo_139 : decode cX6_undo 139 = .ok (.iload_n 1, 1) := by decide +kernel
theorem dX6_undo_140 : decode cX6_undo 140 = .ok (.dup2, 1) := by decide +kernel
theorem dX6_undo_141 : decode cX6_undo 141 = .ok (.iaload, 1) := by decide +kernel
theorem dX6_undo_142 : decode cX6_undo 142 = .ok (.iconst 1, 1) := by decide +kernel
theorem dX6_undo_143 : decode cX6_undo 143 = .ok (.isub, 1) := by decide +kernel
theorem dX6_undo_144 : decode cX6_undo 144 = .ok (.iastore, 1) := by decide +kernel
theorem dX6_undo_145 : decode cX6_undo 145 = .ok (.aload_n 0, 1) := by decide +kernel
theorem dX6_undo_146 : decode cX6_undo 146 = .ok (.getfield 57, 3) := by decide +kernel
theorem dX6_undo_149 : decode cX6_undo 149 = .ok (.iload_n 2, 1) := by decide +kernel
theorem dX6_undo_150 : decode cX6_undo 150 = .ok (.aload_n 0, 1) := by decide +kernel
theorem dX6_undo_151 : decode cX6_undo 151 = .ok (.bipush 115, 2) := by decide +kernel
theorem dX6_undo_153 : decode cX6_undo 153 = .ok (.invokevirtual 109, 3) := by decide +kernel
theorem dX6_undo_156 : decode cX6_undo 156 = .ok (.iastore, 1) := by decide +kernel
theorem dX6_undo_157 : decode cX6_undo 157 = .ok (.aload_n 0, 1) := by decide +kernel
theorem dX6_undo_158 : decode cX6_undo 158 = .ok (.getfield 57, 3) := by decide +kernel
theorem dX6_undo_161 : decode cX6_undo 161 = .ok (.iload_n 2, 1) := by decide +kernel
theorem dX6_undo_162 : decode cX6_undo 162 = .ok (.iaload, 1) := by decide +kernel
theorem dX6_undo_163 : decode cX6_undo 163 = .ok (.ireturn, 1) := by decide +kernel
set_option maxRecDepth 20000 in
theorem ggX6_reset_X6_isProcedure : GoodIn wsX6_reset wsX6_isProcedure := goodIn_r _ [8, 9, 10, 11, 7, 12, 25, 26, 27, 28, 29, 30, 31, 32, 33, 34, 35, 36, 37, 38, 39, 40, 41, 42, 43, 44, 45, 46, 47, 48, 49, 50, 51, 52, 53] (by decide +kernel) (by decide +kernel)
set_option maxRecDepth 20000 in
theorem gX6_reset_X6_isProcedure : GoodIn wsX6_reset (wsV RX6 121 RX6 yX6_isProcedure wsX6_isProcedure) := goodIn_app (goodIn_of _ (by decide +kernel)) ggX6_reset_X6_isProcedure
set_option maxRecDepth 20000 in
theorem ggX6_reset_X6_acts : GoodIn wsX6_reset wsX6_acts := goodIn_r _ [16, 17, 18, 25, 26, 27, 28, 29, 30, 31, 32, 33, 34, 35, 36, 37, 38, 39, 40, 41, 42, 43, 44, 45, 46, 47, 48, 49, 50, 51, 52, 53] (by decide +kernel) (by decide +kernel)
set_option maxRecDepth 20000 in
theorem gX6_reset_X6_acts : GoodIn wsX6_reset (wsV RX6 133 RX6 yX6_acts wsX6_acts) := goodIn_app (goodIn_of _ (by decide +kernel)) ggX6_reset_X6_acts
set_option maxRecDepth 20000 in
theorem ggX6_reset_X6_closesUndone : GoodIn wsX6_reset wsX6_closesUndone := goodIn_ca (goodIn_r _ [22, 23, 24, 25, 26, 27, 28, 29, 30, 31, 32, 33, 34, 35, 36, 37, 38, 39, 40, 41, 42, 43, 44, 45, 46, 47, 48, 49, 50, 51, 52, 53] (by decide +kernel) (by decide +kernel)) (goodIn_sub (fun _ h => List.mem_cons_of_mem _ (List.mem_append_right _ h)) (by decide +kernel))
set_option maxRecDepth 20000 in
theorem gX6_reset_X6_closesUndone : GoodIn wsX6_reset (wsV RX6 148 RX6 yX6_closesUndone wsX6_closesUndone) := goodIn_app (goodIn_of _ (by decide +kernel)) ggX6_reset_X6_closesUndone
theorem dX6_reset_0 : decode cX6_reset 0 = .ok (.aload_n 0, 1) := by decide +kernel
theorem dX6_reset_1 : decode cX6_reset 1 = .ok (.aload_n 0, 1) := by decide +kernel
theorem dX6_reset_2 : decode cX6_reset 2 = .ok (.iload_n 1, 1) := by decide +kernel
theorem dX6_reset_3 : decode cX6_reset 3 = .ok (.invokevirtual 121, 3) := by decide +kernel
theorem dX6_reset_6 : decode cX6_reset 6 = .ok (.ifCond .ne 7, 3) := by decide +kernel
theorem dX6_reset_9 : decode cX6_reset 9 = .ok (.iconst 1, 1) := by decide +kernel
theorem dX6_reset_10 : decode cX6_reset 10 = .ok (.goto 15, 3) := by decide +kernel
theorem dX6_reset_13 : decode cX6_reset 13 = .ok (.aload_n 0, 1) := by decide +kernel
theorem dX6_reset_14 : decode cX6_reset 14 = .ok (.invokevirtual 133, 3) := by decide +kernel
theorem dX6_reset_17 : decode cX6_reset 17 = .ok (.ifCond .ne 7, 3) := by decide +kernel
theorem dX6_reset_20 : decode cX6_reset 20 = .ok (.iconst 2, 1) := by decide +kernel
theorem dX6_reset_21 : decode cX6_reset 21 = .ok (.goto 4, 3) := by decide +kernel
theorem dX6_reset_24 : decode cX6_reset 24 = .ok (.iconst 0, 1) := by decide +kernel
theorem dX6_reset_25 : decode cX6_reset 25 = .ok (.putfield 82, 3) := by decide +kernel
theorem dX6_reset_28 : decode cX6_reset 28 = .ok (.aload_n 0, 1) := by decide +kernel
theorem dX6_reset_29 : decode cX6_reset 29 = .ok (.getfield 82, 3) := by decide +kernel
theorem dX6_reset_32 : decode cX6_reset 32 = .ok (.ifCond .ne 7, 3) := by decide +kernel
theorem dX6_reset_35 : decode cX6_reset 35 = .ok (.iconst 0, 1) := by decide +kernel
theorem dX6_reset_36 : decode cX6_reset 36 = .ok (.goto 4, 3) := by decide +kernel
theorem dX6_reset_39 : decode cX6_reset 39 = .ok (.iconst (-1), 1) := by decide +kernel
theorem dX6_reset_40 : decode cX6_reset 40 = .ok (.istore_n 2, 1) := by decide +kernel
theorem dX6_reset_41 : decode cX6_reset 41 = .ok (.iconst 0, 1) := by decide +kernel
theorem dX6_reset_42 : decode cX6_reset 42 = .ok (.istore_n 3, 1) := by decide +kernel
theorem dX6_reset_43 : decode cX6_reset 43 = .ok (.aload_n 0, 1) := by decide +kernel
theorem dX6_reset_44 : decode cX6_reset 44 = .ok (.getfield 82, 3) := by decide +kernel
theorem dX6_reset_47 : decode cX6_reset 47 = .ok (.ifCond .ne 32, 3) := by decide +kernel
theorem dX6_reset_50 : decode cX6_reset 50 = .ok (.iload_n 3, 1) := by decide +kernel
theorem dX6_reset_51 : decode cX6_reset 51 = .ok (.aload_n 0, 1) := by decide +kernel
theorem dX6_reset_52 : decode cX6_reset 52 = .ok (.getfield 60, 3) := by decide +kernel
theorem dX6_reset_55 : decode cX6_reset 55 = .ok (.iload_n 1, 1) := by decide +kernel
theorem dX6_reset_56 : decode cX6_reset 56 = .ok (.iaload, 1) := by decide +kernel
theorem dX6_reset_57 : decode cX6_reset 57 = .ok (.if_icmp .ge 22, 3) := by decide +kernel
theorem dX6_reset_60 : decode cX6_reset 60 = .ok (.iload_n 2, 1) := by decide +kernel
theorem dX6_reset_61 : decode cX6_reset 61 = .ok (.aload_n 0, 1) := by decide +kernel
theorem dX6_reset_62 : decode cX6_reset 62 = .ok (.bipush 8, 2) := by decide +kernel
theorem dX6_reset_64 : decode cX6_reset 64 = .ok (.iload_n 1, 1) := by decide +kernel
theorem dX6_reset_65 : decode cX6_reset 65 = .ok (.imul, 1) := by decide +kernel
theorem dX6_reset_66 : decode cX6_reset 66 = .ok (.iload_n 3, 1) := by decide +kernel
theorem dX6_reset_67 : decode cX6_reset 67 = .ok (.iadd, 1) := by decide +kernel
theorem dX6_reset_68 : decode cX6_reset 68 = .ok (.invokevirtual 148, 3) := by decide +kernel
theorem dX6_reset_71 : decode cX6_reset 71 = .ok (.iadd, 1) := by decide +kernel
theorem dX6_reset_72 : decode cX6_reset 72 = .ok (.istore_n 2, 1) := by decide +kernel
theorem dX6_reset_73 : decode cX6_reset 73 = .ok (.iinc 3 1, 3) := by decide +kernel
theorem dX6_reset_76 : decode cX6_reset 76 = .ok (.goto (-33), 3) := by decide +kernel
theorem dX6_reset_79 : decode cX6_reset 79 = .ok (.aload_n 0, 1) := by decide +kernel
theorem dX6_reset_80 : decode cX6_reset 80 = .ok (.getfield 82, 3) := by decide +kernel
theorem dX6_reset_83 : decode cX6_reset 83 = .ok (.ifCond .ne 10, 3) := by decide +kernel
theorem dX6_reset_86 : decode cX6_reset 86 = .ok (.aload_n 0, 1) := by decide +kernel
theorem dX6_reset_87 : decode cX6_reset 87 = .ok (.getfield 63, 3) := by decide +kernel
theorem dX6_reset_90 : decode cX6_reset 90 = .ok (.iload_n 1, 1) := by decide +kernel
theorem dX6_reset_91 : decode cX6_reset 91 = .ok (.iconst 0, 1) := by decide +kernel
theorem dX6_reset_92 : decode cX6_reset 92 = .ok (.iastore, 1) := by decide +kernel
theorem dX6_reset_93 : decode cX6_reset 93 = .ok (.iload_n 2, 1) := by decide +kernel
theorem dX6_reset_94 : decode cX6_reset 94 = .ok (.ireturn, 1) := by decide +kernel
theorem dX6_drill_0 : decode cX6_drill 0 = .ok (.iconst (-1), 1) := by decide +kernel
theorem dX6_drill_1 : decode cX6_drill 1 = .ok (.istore_n 1, 1) := by decide +kernel
theorem dX6_drill_2 : decode cX6_drill 2 = .ok (.iconst 0, 1) := by decide +kernel
theorem dX6_drill_3 : decode cX6_drill 3 = .ok (.istore_n 2, 1) := by decide +kernel
theorem dX6_drill_4 : decode cX6_drill 4 = .ok (.iload_n 2, 1) := by decide +kernel
theorem dX6_drill_5 : decode cX6_drill 5 = .ok (.aload_n 0, 1) := by decide +kernel
theorem dX6_drill_6 : decode cX6_drill 6 = .ok (.getfield 118, 3) := by decide +kernel
theorem dX6_drill_9 : decode cX6_drill 9 = .ok (.if_icmp .ge 61, 3) := by decide +kernel
theorem dX6_drill_12 : decode cX6_drill 12 = .ok (.bipush 8, 2) := by decide +kernel
theorem dX6_drill_14 : decode cX6_drill 14 = .ok (.iload_n 2, 1) := by decide +kernel
theorem dX6_drill_15 : decode cX6_drill 15 = .ok (.imul, 1) := by decide +kernel
theorem dX6_drill_16 : decode cX6_drill 16 = .ok (.istore_n 3, 1) := by decide +kernel
theorem dX6_drill_17 : decode cX6_drill 17 = .ok (.iload_n 3, 1) := by decide +kernel
theorem dX6_drill_18 : decode cX6_drill 18 = .ok (.bipush 8, 2) := by decide +kernel
theorem dX6_drill_20 : decode cX6_drill 20 = .ok (.iload_n 2, 1) := by decide +kernel
theorem dX6_drill_21 : decode cX6_drill 21 = .ok (.imul, 1) := by decide +kernel
theorem dX6_drill_22 : decode cX6_drill 22 = .ok (.aload_n 0, 1) := by decide +kernel
theorem dX6_drill_23 : decode cX6_drill 23 = .ok (.getfield 60, 3) := by decide +kernel
theorem dX6_drill_26 : decode cX6_drill 26 = .ok (.iload_n 2, 1) := by decide +kernel
theorem dX6_drill_27 : decode cX6_drill 27 = .ok (.iaload, 1) := by decide +kernel
theorem dX6_drill_28 : decode cX6_drill 28 = .ok (.iadd, 1) := by decide +kernel
theorem dX6_drill_29 : decode cX6_drill 29 = .ok (.if_icmp .ge 35, 3) := by decide +kernel
theorem dX6_drill_32 : decode cX6_drill 32 = .ok (.iload_n 1, 1) := by decide +kernel
theorem dX6_drill_33 : decode cX6_drill 33 = .ok (.iconst (-1), 1) := by decide +kernel
theorem dX6_drill_34 : decode cX6_drill 34 = .ok (.if_icmp .eq 18, 3) := by decide +kernel
theorem dX6_drill_37 : decode cX6_drill 37 = .ok (.aload_n 0, 1) := by decide +kernel
theorem dX6_drill_38 : decode cX6_drill 38 = .ok (.getfield 54, 3) := by decide +kernel
theorem dX6_drill_41 : decode cX6_drill 41 = .ok (.iload_n 3, 1) := by decide +kernel
theorem dX6_drill_42 : decode cX6_drill 42 = .ok (.iaload, 1) := by decide +kernel
theorem dX6_drill_43 : decode cX6_drill 43 = .ok (.aload_n 0, 1) := by decide +kernel
theorem dX6_drill_44 : decode cX6_drill 44 = .ok (.getfield 54, 3) := by decide +kernel
theorem dX6_drill_47 : decode cX6_drill 47 = .ok (.iload_n 1, 1) := by decide +kernel
theorem dX6_drill_48 : decode cX6_drill 48 = .ok (.iaload, 1) := by decide +kernel
theorem dX6_drill_49 : decode cX6_drill 49 = .ok (.if_icmp .ge 7, 3) := by decide +kernel
theorem dX6_drill_52 : decode cX6_drill 52 = .ok (.iload_n 3, 1) := by decide +kernel
theorem dX6_drill_53 : decode cX6_drill 53 = .ok (.goto 4, 3) := by decide +kernel
theorem dX6_drill_56 : decode cX6_drill 56 = .ok (.iload_n 1, 1) := by decide +kernel
theorem dX6_drill_57 : decode cX6_drill 57 = .ok (.istore_n 1, 1) := by decide +kernel
theorem dX6_drill_58 : decode cX6_drill 58 = .ok (.iinc 3 1, 3) := by decide +kernel
theorem dX6_drill_61 : decode cX6_drill 61 = .ok (.goto (-44), 3) := by decide +kernel
theorem dX6_drill_64 : decode cX6_drill 64 = .ok (.iinc 2 1, 3) := by decide +kernel
theorem dX6_drill_67 : decode cX6_drill 67 = .ok (.goto (-63), 3) := by decide +kernel
theorem dX6_drill_70 : decode cX6_drill 70 = .ok (.aload_n 0, 1) := by decide +kernel
theorem dX6_drill_71 : decode cX6_drill 71 = .ok (.iload_n 1, 1) := by decide +kernel
theorem dX6_drill_72 : decode cX6_drill 72 = .ok (.iconst (-1), 1) := by decide +kernel
theorem dX6_drill_73 : decode cX6_drill 73 = .ok (.if_icmp .ne 7, 3) := by decide +kernel
theorem dX6_drill_76 : decode cX6_drill 76 = .ok (.iconst 1, 1) := by decide +kernel
theorem dX6_drill_77 : decode cX6_drill 77 = .ok (.goto 4, 3) := by decide +kernel
theorem dX6_drill_80 : decode cX6_drill 80 = .ok (.iconst 0, 1) := by decide +kernel
theorem dX6_drill_81 : decode cX6_drill 81 = .ok (.putfield 82, 3) := by decide +kernel
theorem dX6_drill_84 : decode cX6_drill 84 = .ok (.iload_n 1, 1) := by decide +kernel
theorem dX6_drill_85 : decode cX6_drill 85 = .ok (.ireturn, 1) := by decide +kernel
set_option maxRecDepth 20000 in
theorem ggX6_openPermit_X6_in : GoodIn wsX6_openPermit wsX6_in := goodIn_r _ [10] (by decide +kernel) (by decide +kernel)
set_option maxRecDepth 20000 in
theorem gX6_openPermit_X6_in : GoodIn wsX6_openPermit (va_wsS RX6 87 yX6_in wsX6_in) := goodIn_app (goodIn_of _ (by decide +kernel)) ggX6_openPermit_X6_in
set_option maxRecDepth 20000 in
theorem ggX6_openPermit_X6_acts : GoodIn wsX6_openPermit wsX6_acts := goodIn_r _ [14, 15, 16, 36, 37, 38, 39, 40, 41, 42, 43, 44, 45, 46, 47, 48, 49, 50, 51, 52, 53, 54, 55, 56, 57, 58, 59, 60, 61, 62, 63, 64] (by decide +kernel) (by decide +kernel)
set_option maxRecDepth 20000 in
theorem gX6_openPermit_X6_acts : GoodIn wsX6_openPermit (wsV RX6 133 RX6 yX6_acts wsX6_acts) := goodIn_app (goodIn_of _ (by decide +kernel)) ggX6_openPermit_X6_acts
set_option maxRecDepth 20000 in
theorem ggX6_openPermit_X6_barring : GoodIn wsX6_openPermit wsX6_barring := goodIn_ca (goodIn_r _ [20, 3, 21, 6, 5, 36, 37, 38, 39, 40, 41, 42, 43, 44, 45, 46, 47, 48, 49, 50, 51, 52, 53, 54, 55, 56, 57, 58, 59, 60, 61, 62, 63, 64] (by decide +kernel) (by decide +kernel)) (goodIn_sub (fun _ h => List.mem_cons_of_mem _ (List.mem_append_right _ h)) (by decide +kernel))
set_option maxRecDepth 20000 in
theorem gX6_openPermit_X6_barring : GoodIn wsX6_openPermit (wsV RX6 140 RX6 yX6_barring wsX6_barring) := goodIn_app (goodIn_of _ (by decide +kernel)) ggX6_openPermit_X6_barring
set_option maxRecDepth 20000 in
theorem ggX6_openPermit_X6_tired : GoodIn wsX6_openPermit wsX6_tired := goodIn_r _ [25, 15, 26, 27, 36, 37, 38, 39, 40, 41, 42, 43, 44, 45, 46, 47, 48, 49, 50, 51, 52, 53, 54, 55, 56, 57, 58, 59, 60, 61, 62, 63, 64] (by decide +kernel) (by decide +kernel)
set_option maxRecDepth 20000 in
theorem gX6_openPermit_X6_tired : GoodIn wsX6_openPermit (wsV RX6 137 RX6 yX6_tired wsX6_tired) := goodIn_app (goodIn_of _ (by decide +kernel)) ggX6_openPermit_X6_tired
set_option maxRecDepth 20000 in
theorem ggX6_openPermit_X6_opens : GoodIn wsX6_openPermit wsX6_opens := goodIn_ca (goodIn_r _ [31, 32, 4, 21, 33, 26, 34, 35, 36, 37, 38, 39, 40, 41, 42, 43, 44, 45, 46, 47, 48, 49, 50, 51, 52, 53, 54, 55, 56, 57, 58, 59, 60, 61, 62, 63, 64] (by decide +kernel) (by decide +kernel)) (goodIn_sub (fun _ h => List.mem_cons_of_mem _ (List.mem_append_right _ h)) (by decide +kernel))
set_option maxRecDepth 20000 in
theorem gX6_openPermit_X6_opens : GoodIn wsX6_openPermit (wsV RX6 109 RX6 yX6_opens wsX6_opens) := goodIn_app (goodIn_of _ (by decide +kernel)) ggX6_openPermit_X6_opens
theorem dX6_openPermit_0 : decode cX6_openPermit 0 = .ok (.iload_n 1, 1) := by decide +kernel
theorem dX6_openPermit_1 : decode cX6_openPermit 1 = .ok (.i2l, 1) := by decide +kernel
theorem dX6_openPermit_2 : decode cX6_openPermit 2 = .ok (.lconst 1, 1) := by decide +kernel
theorem dX6_openPermit_3 : decode cX6_openPermit 3 = .ok (.ldc2_w 151, 3) := by decide +kernel
theorem dX6_openPermit_6 : decode cX6_openPermit 6 = .ok (.invokestatic 87, 3) := by decide +kernel
theorem dX6_openPermit_9 : decode cX6_openPermit 9 = .ok (.ifCond .ne 10, 3) := by decide +kernel
theorem dX6_openPermit_12 : decode cX6_openPermit 12 = .ok (.aload_n 0, 1) := by decide +kernel
theorem dX6_openPermit_13 : decode cX6_openPermit 13 = .ok (.iconst 1, 1) := by decide +kernel
theorem dX6_openPermit_14 : decode cX6_openPermit 14 = .ok (.putfield 82, 3) := by decide +kernel
theorem dX6_openPermit_17 : decode cX6_openPermit 17 = .ok (.iconst (-1), 1) := by decide +kernel
theorem dX6_openPermit_18 : decode cX6_openPermit 18 = .ok (.ireturn, 1) := by decide +kernel
theorem dX6_openPermit_19 : decode cX6_openPermit 19 = .ok (.aload_n 0, 1) := by decide +kernel
theorem dX6_openPermit_20 : decode cX6_openPermit 20 = .ok (.invokevirtual 133, 3) := by decide +kernel
theorem dX6_openPermit_23 : decode cX6_openPermit 23 = .ok (.ifCond .eq 21, 3) := by decide +kernel
theorem dX6_openPermit_26 : decode cX6_openPermit 26 = .ok (.aload_n 0, 1) := by decide +kernel
theorem dX6_openPermit_27 : decode cX6_openPermit 27 = .ok (.getfield 130, 3) := by decide +kernel
theorem dX6_openPermit_30 : decode cX6_openPermit 30 = .ok (.bipush 8, 2) := by decide +kernel
theorem dX6_openPermit_32 : decode cX6_openPermit 32 = .ok (.if_icmp .eq 12, 3) := by decide +kernel
theorem dX6_openPermit_35 : decode cX6_openPermit 35 = .ok (.aload_n 0, 1) := by decide +kernel
theorem dX6_openPermit_36 : decode cX6_openPermit 36 = .ok (.getfield 95, 3) := by decide +kernel
theorem dX6_openPermit_39 : decode cX6_openPermit 39 = .ok (.bipush 60, 2) := by decide +kernel
theorem dX6_openPermit_41 : decode cX6_openPermit 41 = .ok (.if_icmp .ne 7, 3) := by decide +kernel
theorem dX6_openPermit_44 : decode cX6_openPermit 44 = .ok (.iconst 1, 1) := by decide +kernel
theorem dX6_openPermit_45 : decode cX6_openPermit 45 = .ok (.goto 4, 3) := by decide +kernel
theorem dX6_openPermit_48 : decode cX6_openPermit 48 = .ok (.iconst 0, 1) := by decide +kernel
theorem dX6_openPermit_49 : decode cX6_openPermit 49 = .ok (.istore_n 2, 1) := by decide +kernel
theorem dX6_openPermit_50 : decode cX6_openPermit 50 = .ok (.iconst 0, 1) := by decide +kernel
theorem dX6_openPermit_51 : decode cX6_openPermit 51 = .ok (.istore_n 3, 1) := by decide +kernel
theorem dX6_openPermit_52 : decode cX6_openPermit 52 = .ok (.iconst 0, 1) := by decide +kernel
theorem dX6_openPermit_53 : decode cX6_openPermit 53 = .ok (.istore 4, 2) := by decide +kernel
theorem dX6_openPermit_55 : decode cX6_openPermit 55 = .ok (.iload 4, 2) := by decide +kernel
theorem dX6_openPermit_57 : decode cX6_openPermit 57 = .ok (.bipush 8, 2) := by decide +kernel
theorem dX6_openPermit_59 : decode cX6_openPermit 59 = .ok (.if_icmp .ge 39, 3) := by decide +kernel
theorem dX6_openPermit_62 : decode cX6_openPermit 62 = .ok (.iload_n 3, 1) := by decide +kernel
theorem dX6_openPermit_63 : decode cX6_openPermit 63 = .ok (.ifCond .ne 23, 3) := by decide +kernel
theorem dX6_openPermit_66 : decode cX6_openPermit 66 = .ok (.iload_n 1, 1) := by decide +kernel
theorem dX6_openPermit_67 : decode cX6_openPermit 67 = .ok (.iload 4, 2) := by decide +kernel
theorem dX6_openPermit_69 : decode cX6_openPermit 69 = .ok (.ishr, 1) := by decide +kernel
theorem dX6_openPermit_70 : decode cX6_openPermit 70 = .ok (.iconst 1, 1) := by decide +kernel
theorem dX6_openPermit_71 : decode cX6_openPermit 71 = .ok (.iand, 1) := by decide +kernel
theorem dX6_openPermit_72 : decode cX6_openPermit 72 = .ok (.iconst 1, 1) := by decide +kernel
theorem dX6_openPermit_73 : decode cX6_openPermit 73 = .ok (.if_icmp .ne 17, 3) := by decide +kernel
theorem dX6_openPermit_76 : decode cX6_openPermit 76 = .ok (.aload_n 0, 1) := by decide +kernel
theorem dX6_openPermit_77 : decode cX6_openPermit 77 = .ok (.iload 4, 2) := by decide +kernel
theorem dX6_openPermit_79 : decode cX6_openPermit 79 = .ok (.invokevirtual 140, 3) := by decide +kernel
theorem dX6_openPermit_82 : decode cX6_openPermit 82 = .ok (.iconst (-1), 1) := by decide +kernel
theorem dX6_openPermit_83 : decode cX6_openPermit 83 = .ok (.if_icmp .eq 7, 3) := by decide +kernel
theorem dX6_openPermit_86 : decode cX6_openPermit 86 = .ok (.iconst 1, 1) := by decide +kernel
theorem dX6_openPermit_87 : decode cX6_openPermit 87 = .ok (.goto 4, 3) := by decide +kernel
theorem dX6_openPermit_90 : decode cX6_openPermit 90 = .ok (.iconst 0, 1) := by decide +kernel
theorem dX6_openPermit_91 : decode cX6_openPermit 91 = .ok (.istore_n 3, 1) := by decide +kernel
theorem dX6_openPermit_92 : decode cX6_openPermit 92 = .ok (.iinc 4 1, 3) := by decide +kernel
theorem dX6_openPermit_95 : decode cX6_openPermit 95 = .ok (.goto (-40), 3) := by decide +kernel
theorem dX6_openPermit_98 : decode cX6_openPermit 98 = .ok (.aload_n 0, 1) := by decide +kernel
theorem dX6_openPermit_99 : decode cX6_openPermit 99 = .ok (.iload_n 2, 1) := by decide +kernel
theorem dX6_openPermit_100 : decode cX6_openPermit 100 = .ok (.ifCond .eq 7, 3) := by decide +kernel
theorem dX6_openPermit_103 : decode cX6_openPermit 103 = .ok (.iconst 2, 1) := by decide +kernel
theorem dX6_openPermit_104 : decode cX6_openPermit 104 = .ok (.goto 19, 3) := by decide +kernel
theorem dX6_openPermit_107 : decode cX6_openPermit 107 = .ok (.iload_n 3, 1) := by decide +kernel
theorem dX6_openPermit_108 : decode cX6_openPermit 108 = .ok (.ifCond .ne 10, 3) := by decide +kernel
theorem dX6_openPermit_111 : decode cX6_openPermit 111 = .ok (.aload_n 0, 1) := by decide +kernel
theorem dX6_openPermit_112 : decode cX6_openPermit 112 = .ok (.invokevirtual 137, 3) := by decide +kernel
theorem dX6_openPermit_115 : decode cX6_openPermit 115 = .ok (.ifCond .eq 7, 3) := by decide +kernel
theorem dX6_openPermit_118 : decode cX6_openPermit 118 = .ok (.iconst 3, 1) := by decide +kernel
theorem dX6_openPermit_119 : decode cX6_openPermit 119 = .ok (.goto 4, 3) := by decide +kernel
theorem dX6_openPermit_122 : decode cX6_openPermit 122 = .ok (.iconst 0, 1) := by decide +kernel
theorem dX6_openPermit_123 : decode cX6_openPermit 123 = .ok (.putfield 82, 3) := by decide +kernel
theorem dX6_openPermit_126 : decode cX6_openPermit 126 = .ok (.aload_n 0, 1) := by decide +kernel
theorem dX6_openPermit_127 : decode cX6_openPermit 127 = .ok (.getfield 82, 3) := by decide +kernel
theorem dX6_openPermit_130 : decode cX6_openPermit 130 = .ok (.ifCond .le 5, 3) := by decide +kernel
theorem dX6_openPermit_133 : decode cX6_openPermit 133 = .ok (.iconst (-1), 1) := by decide +kernel
theorem dX6_openPermit_134 : decode cX6_openPermit 134 = .ok (.ireturn, 1) := by decide +kernel
theorem dX6_openPermit_135 : decode cX6_openPermit 135 = .ok (.aload_n 0, 1) := by decide +kernel
theorem dX6_openPermit_136 : decode cX6_openPermit 136 = .ok (.getfield 66, 3) := by decide +kernel
theorem dX6_openPermit_139 : decode cX6_openPermit 139 = .ok (.aload_n 0, 1) := by decide +kernel
theorem dX6_openPermit_140 : decode cX6_openPermit 140 = .ok (.getfield 130, 3) := by decide +kernel
theorem dX6_openPermit_143 : decode cX6_openPermit 143 = .ok (.iload_n 1, 1) := by decide +kernel
theorem dX6_openPermit_144 : decode cX6_openPermit 144 = .ok (.iastore, 1) := by decide +kernel
theorem dX6_openPermit_145 : decode cX6_openPermit 145 = .ok (.aload_n 0, 1) := by decide +kernel
theorem dX6_openPermit_146 : decode cX6_openPermit 146 = .ok (.getfield 69, 3) := by decide +kernel
theorem dX6_openPermit_149 : decode cX6_openPermit 149 = .ok (.aload_n 0, 1) := by decide +kernel
theorem dX6_openPermit_150 : decode cX6_openPermit 150 = .ok (.getfield 130, 3) := by decide +kernel
theorem dX6_openPermit_153 : decode cX6_openPermit 153 = .ok (.aload_n 0, 1) := by decide +kernel
theorem dX6_openPermit_154 : decode cX6_openPermit 154 = .ok (.bipush 112, 2) := by decide +kernel
theorem dX6_openPermit_156 : decode cX6_openPermit 156 = .ok (.invokevirtual 109, 3) := by decide +kernel
theorem dX6_openPermit_159 : decode cX6_openPermit 159 = .ok (.iastore, 1) := by decide +kernel
theorem dX6_openPermit_160 : decode cX6_openPermit 160 = .ok (.aload_n 0, 1) := by decide +kernel
theorem dX6_openPermit_161 : decode cX6_openPermit 161 = .ok (.dup, 1) := by decide +kernel
theorem dX6_openPermit_162 : decode cX6_openPermit 162 = .ok (.getfield 130, 3) := by decide +kernel
theorem dX6_openPermit_165 : decode cX6_openPermit 165 = .ok (.iconst 1, 1) := by decide +kernel
theorem dX6_openPermit_166 : decode cX6_openPermit 166 = .ok (.iadd, 1) := by decide +kernel
theorem dX6_openPermit_167 : decode cX6_openPermit 167 = .ok (.putfield 130, 3) := by decide +kernel
theorem dX6_openPermit_170 : decode cX6_openPermit 170 = .ok (.aload_n 0, 1) := by decide +kernel
theorem dX6_openPermit_171 : decode cX6_openPermit 171 = .ok (.getfield 130, 3) := by decide +kernel
theorem dX6_openPermit_174 : decode cX6_openPermit 174 = .ok (.iconst 1, 1) := by decide +kernel
theorem dX6_openPermit_175 : decode cX6_openPermit 175 = .ok (.isub, 1) := by decide +kernel
theorem dX6_openPermit_176 : decode cX6_openPermit 176 = .ok (.ireturn, 1) := by decide +kernel
set_option maxRecDepth 20000 in
theorem ggX6_isPermit_X6_in : GoodIn wsX6_isPermit wsX6_in := goodIn_r _ [5] (by decide +kernel) (by decide +kernel)
set_option maxRecDepth 20000 in
theorem gX6_isPermit_X6_in : GoodIn wsX6_isPermit (va_wsS RX6 87 yX6_in wsX6_in) := goodIn_app (goodIn_of _ (by decide +kernel)) ggX6_isPermit_X6_in
theorem dX6_isPermit_0 : decode cX6_isPermit 0 = .ok (.iload_n 1, 1) := by decide +kernel
theorem dX6_isPermit_1 : decode cX6_isPermit 1 = .ok (.i2l, 1) := by decide +kernel
theorem dX6_isPermit_2 : decode cX6_isPermit 2 = .ok (.lconst 0, 1) := by decide +kernel
theorem dX6_isPermit_3 : decode cX6_isPermit 3 = .ok (.aload_n 0, 1) := by decide +kernel
theorem dX6_isPermit_4 : decode cX6_isPermit 4 = .ok (.getfield 130, 3) := by decide +kernel
theorem dX6_isPermit_7 : decode cX6_isPermit 7 = .ok (.iconst 1, 1) := by decide +kernel
theorem dX6_isPermit_8 : decode cX6_isPermit 8 = .ok (.isub, 1) := by decide +kernel
theorem dX6_isPermit_9 : decode cX6_isPermit 9 = .ok (.i2l, 1) := by decide +kernel
theorem dX6_isPermit_10 : decode cX6_isPermit 10 = .ok (.invokestatic 87, 3) := by decide +kernel
theorem dX6_isPermit_13 : decode cX6_isPermit 13 = .ok (.ireturn, 1) := by decide +kernel
set_option maxRecDepth 20000 in
theorem ggX6_closePermit_X6_isPermit : GoodIn wsX6_closePermit wsX6_isPermit := goodIn_r _ [8, 9, 10, 11, 7, 12, 19, 20, 21, 22, 23, 24, 25, 26, 27, 28, 29, 30, 31, 32, 33, 34, 35, 36, 37, 38, 39, 40, 41, 42, 43, 44, 45, 46, 47] (by decide +kernel) (by decide +kernel)
set_option maxRecDepth 20000 in
theorem gX6_closePermit_X6_isPermit : GoodIn wsX6_closePermit (wsV RX6 153 RX6 yX6_isPermit wsX6_isPermit) := goodIn_app (goodIn_of _ (by decide +kernel)) ggX6_closePermit_X6_isPermit
set_option maxRecDepth 20000 in
theorem ggX6_closePermit_X6_acts : GoodIn wsX6_closePermit wsX6_acts := goodIn_r _ [16, 17, 18, 19, 20, 21, 22, 23, 24, 25, 26, 27, 28, 29, 30, 31, 32, 33, 34, 35, 36, 37, 38, 39, 40, 41, 42, 43, 44, 45, 46, 47] (by decide +kernel) (by decide +kernel)
set_option maxRecDepth 20000 in
theorem gX6_closePermit_X6_acts : GoodIn wsX6_closePermit (wsV RX6 133 RX6 yX6_acts wsX6_acts) := goodIn_app (goodIn_of _ (by decide +kernel)) ggX6_closePermit_X6_acts
theorem dX6_closePermit_0 : decode cX6_closePermit 0 = .ok (.aload_n 0, 1) := by decide +kernel
theorem dX6_closePermit_1 : decode cX6_closePermit 1 = .ok (.aload_n 0, 1) := by decide +kernel
theorem dX6_closePermit_2 : decode cX6_closePermit 2 = .ok (.iload_n 1, 1) := by decide +kernel
theorem dX6_closePermit_3 : decode cX6_closePermit 3 = .ok (.invokevirtual 153, 3) := by decide +kernel
theorem dX6_closePermit_6 : decode cX6_closePermit 6 = .ok (.ifCond .ne 7, 3) := by decide +kernel
theorem dX6_closePermit_9 : decode cX6_closePermit 9 = .ok (.iconst 1, 1) := by decide +kernel
theorem dX6_closePermit_10 : decode cX6_closePermit 10 = .ok (.goto 29, 3) := by decide +kernel
theorem dX6_closePermit_13 : decode cX6_closePermit 13 = .ok (.aload_n 0, 1) := by decide +kernel
theorem dX6_closePermit_14 : decode cX6_closePermit 14 = .ok (.getfield 17, 3) := by decide +kernel
theorem dX6_closePermit_17 : decode cX6_closePermit 17 = .ok (.aload_n 0, 1) := by decide +kernel
theorem dX6_closePermit_18 : decode cX6_closePermit 18 = .ok (.getfield 69, 3) := by decide +kernel
theorem dX6_closePermit_21 : decode cX6_closePermit 21 = .ok (.iload_n 1, 1) := by decide +kernel
theorem dX6_closePermit_22 : decode cX6_closePermit 22 = .ok (.iaload, 1) := by decide +kernel
theorem dX6_closePermit_23 : decode cX6_closePermit 23 = .ok (.baload, 1) := by decide +kernel
theorem dX6_closePermit_24 : decode cX6_closePermit 24 = .ok (.ifCond .eq 10, 3) := by decide +kernel
theorem dX6_closePermit_27 : decode cX6_closePermit 27 = .ok (.aload_n 0, 1) := by decide +kernel
theorem dX6_closePermit_28 : decode cX6_closePermit 28 = .ok (.invokevirtual 133, 3) := by decide +kernel
theorem dX6_closePermit_31 : decode cX6_closePermit 31 = .ok (.ifCond .ne 7, 3) := by decide +kernel
theorem dX6_closePermit_34 : decode cX6_closePermit 34 = .ok (.iconst 2, 1) := by decide +kernel
theorem dX6_closePermit_35 : decode cX6_closePermit 35 = .ok (.goto 4, 3) := by decide +kernel
theorem dX6_closePermit_38 : decode cX6_closePermit 38 = .ok (.iconst 0, 1) := by decide +kernel
theorem dX6_closePermit_39 : decode cX6_closePermit 39 = .ok (.putfield 82, 3) := by decide +kernel
theorem dX6_closePermit_42 : decode cX6_closePermit 42 = .ok (.aload_n 0, 1) := by decide +kernel
theorem dX6_closePermit_43 : decode cX6_closePermit 43 = .ok (.getfield 82, 3) := by decide +kernel
theorem dX6_closePermit_46 : decode cX6_closePermit 46 = .ok (.ifCond .le 5, 3) := by decide +kernel
theorem dX6_closePermit_49 : decode cX6_closePermit 49 = .ok (.iconst (-1), 1) := by decide +kernel
theorem dX6_closePermit_50 : decode cX6_closePermit 50 = .ok (.ireturn, 1) := by decide +kernel
theorem dX6_closePermit_51 : decode cX6_closePermit 51 = .ok (.aload_n 0, 1) := by decide +kernel
theorem dX6_closePermit_52 : decode cX6_closePermit 52 = .ok (.getfield 17, 3) := by decide +kernel
theorem dX6_closePermit_55 : decode cX6_closePermit 55 = .ok (.aload_n 0, 1) := by decide +kernel
theorem dX6_closePermit_56 : decode cX6_closePermit 56 = .ok (.getfield 69, 3) := by decide +kernel
theorem dX6_closePermit_59 : decode cX6_closePermit 59 = .ok (.iload_n 1, 1) := by decide +kernel
theorem dX6_closePermit_60 : decode cX6_closePermit 60 = .ok (.iaload, 1) := by decide +kernel
theorem dX6_closePermit_61 : decode cX6_closePermit 61 = .ok (.iconst 0, 1) := by decide +kernel
theorem dX6_closePermit_62 : decode cX6_closePermit 62 = .ok (.bastore, 1) := by decide +kernel
theorem dX6_closePermit_63 : decode cX6_closePermit 63 = .ok (.aload_n 0, 1) := by decide +kernel
theorem dX6_closePermit_64 : decode cX6_closePermit 64 = .ok (.getfield 69, 3) := by decide +kernel
theorem dX6_closePermit_67 : decode cX6_closePermit 67 = .ok (.iload_n 1, 1) := by decide +kernel
theorem dX6_closePermit_68 : decode cX6_closePermit 68 = .ok (.iaload, 1) := by decide +kernel
theorem dX6_closePermit_69 : decode cX6_closePermit 69 = .ok (.ireturn, 1) := by decide +kernel
set_option maxRecDepth 20000 in
theorem ggX6_isPermitOpen_X6_isPermit : GoodIn wsX6_isPermitOpen wsX6_isPermit := goodIn_r _ [8, 9, 10, 11, 7, 12, 13, 14, 15, 16, 17, 18, 19, 20, 21, 22, 23, 24, 25, 26, 27, 28, 29, 30, 31, 32, 33, 34, 35, 36, 37, 38, 39, 40, 41] (by decide +kernel) (by decide +kernel)
set_option maxRecDepth 20000 in
theorem gX6_isPermitOpen_X6_isPermit : GoodIn wsX6_isPermitOpen (wsV RX6 153 RX6 yX6_isPermit wsX6_isPermit) := goodIn_app (goodIn_of _ (by decide +kernel)) ggX6_isPermitOpen_X6_isPermit
theorem dX6_isPermitOpen_0 : decode cX6_isPermitOpen 0 = .ok (.aload_n 0, 1) := by decide +kernel
theorem dX6_isPermitOpen_1 : decode cX6_isPermitOpen 1 = .ok (.aload_n 0, 1) := by decide +kernel
theorem dX6_isPermitOpen_2 : decode cX6_isPermitOpen 2 = .ok (.iload_n 1, 1) := by decide +kernel
theorem dX6_isPermitOpen_3 : decode cX6_isPermitOpen 3 = .ok (.invokevirtual 153, 3) := by decide +kernel
theorem dX6_isPermitOpen_6 : decode cX6_isPermitOpen 6 = .ok (.ifCond .eq 7, 3) := by decide +kernel
theorem dX6_isPermitOpen_9 : decode cX6_isPermitOpen 9 = .ok (.iconst 0, 1) := by decide +kernel
theorem dX6_isPermitOpen_10 : decode cX6_isPermitOpen 10 = .ok (.goto 4, 3) := by decide +kernel
theorem dX6_isPermitOpen_13 : decode cX6_isPermitOpen 13 = .ok (.iconst 1, 1) := by decide +kernel
theorem dX6_isPermitOpen_14 : decode cX6_isPermitOpen 14 = .ok (.putfield 82, 3) := by decide +kernel
theorem dX6_isPermitOpen_17 : decode cX6_isPermitOpen 17 = .ok (.aload_n 0, 1) := by decide +kernel
theorem dX6_isPermitOpen_18 : decode cX6_isPermitOpen 18 = .ok (.getfield 82, 3) := by decide +kernel
theorem dX6_isPermitOpen_21 : decode cX6_isPermitOpen 21 = .ok (.ifCond .ne 21, 3) := by decide +kernel
theorem dX6_isPermitOpen_24 : decode cX6_isPermitOpen 24 = .ok (.aload_n 0, 1) := by decide +kernel
theorem dX6_isPermitOpen_25 : decode cX6_isPermitOpen 25 = .ok (.getfield 17, 3) := by decide +kernel
theorem dX6_isPermitOpen_28 : decode cX6_isPermitOpen 28 = .ok (.aload_n 0, 1) := by decide +kernel
theorem dX6_isPermitOpen_29 : decode cX6_isPermitOpen 29 = .ok (.getfield 69, 3) := by decide +kernel
theorem dX6_isPermitOpen_32 : decode cX6_isPermitOpen 32 = .ok (.iload_n 1, 1) := by decide +kernel
theorem dX6_isPermitOpen_33 : decode cX6_isPermitOpen 33 = .ok (.iaload, 1) := by decide +kernel
theorem dX6_isPermitOpen_34 : decode cX6_isPermitOpen 34 = .ok (.baload, 1) := by decide +kernel
theorem dX6_isPermitOpen_35 : decode cX6_isPermitOpen 35 = .ok (.ifCond .eq 7, 3) := by decide +kernel
theorem dX6_isPermitOpen_38 : decode cX6_isPermitOpen 38 = .ok (.iconst 1, 1) := by decide +kernel
theorem dX6_isPermitOpen_39 : decode cX6_isPermitOpen 39 = .ok (.goto 4, 3) := by decide +kernel
theorem dX6_isPermitOpen_42 : decode cX6_isPermitOpen 42 = .ok (.iconst 0, 1) := by decide +kernel
theorem dX6_isPermitOpen_43 : decode cX6_isPermitOpen 43 = .ok (.ireturn, 1) := by decide +kernel
set_option maxRecDepth 20000 in
theorem ggX6_note_X6_opens : GoodIn wsX6_note wsX6_opens := goodIn_ca (goodIn_r _ [7, 8, 1, 9, 10, 11, 12, 13, 14, 15, 16, 17, 18, 19, 20, 21, 22, 23, 24, 25, 26, 27, 28, 29, 30, 31, 32, 33, 34, 35, 36, 37, 38, 39, 40, 41, 42] (by decide +kernel) (by decide +kernel)) (goodIn_sub (fun _ h => List.mem_cons_of_mem _ (List.mem_append_right _ h)) (by decide +kernel))
set_option maxRecDepth 20000 in
theorem gX6_note_X6_opens : GoodIn wsX6_note (wsV RX6 109 RX6 yX6_opens wsX6_opens) := goodIn_app (goodIn_of _ (by decide +kernel)) ggX6_note_X6_opens
theorem dX6_note_0 : decode cX6_note 0 = .ok (.aload_n 0, 1) := by decide +kernel
theorem dX6_note_1 : decode cX6_note 1 = .ok (.aload_n 0, 1) := by decide +kernel
theorem dX6_note_2 : decode cX6_note 2 = .ok (.getfield 95, 3) := by decide +kernel
theorem dX6_note_5 : decode cX6_note 5 = .ok (.bipush 60, 2) := by decide +kernel
theorem dX6_note_7 : decode cX6_note 7 = .ok (.if_icmp .ne 7, 3) := by decide +kernel
theorem dX6_note_10 : decode cX6_note 10 = .ok (.iconst 1, 1) := by decide +kernel
theorem dX6_note_11 : decode cX6_note 11 = .ok (.goto 4, 3) := by decide +kernel
theorem dX6_note_14 : decode cX6_note 14 = .ok (.iconst 0, 1) := by decide +kernel
theorem dX6_note_15 : decode cX6_note 15 = .ok (.putfield 82, 3) := by decide +kernel
theorem dX6_note_18 : decode cX6_note 18 = .ok (.aload_n 0, 1) := by decide +kernel
theorem dX6_note_19 : decode cX6_note 19 = .ok (.getfield 82, 3) := by decide +kernel
theorem dX6_note_22 : decode cX6_note 22 = .ok (.ifCond .ne 12, 3) := by decide +kernel
theorem dX6_note_25 : decode cX6_note 25 = .ok (.aload_n 0, 1) := by decide +kernel
theorem dX6_note_26 : decode cX6_note 26 = .ok (.bipush 110, 2) := by decide +kernel
theorem dX6_note_28 : decode cX6_note 28 = .ok (.invokevirtual 109, 3) := by decide +kernel
theorem dX6_note_31 : decode cX6_note 31 = .ok (.goto 4, 3) := by decide +kernel
theorem dX6_note_34 : decode cX6_note 34 = .ok (.iconst (-1), 1) := by decide +kernel
theorem dX6_note_35 : decode cX6_note 35 = .ok (.ireturn, 1) := by decide +kernel
set_option maxRecDepth 20000 in
theorem ggX6_isLine_X6_in : GoodIn wsX6_isLine wsX6_in := goodIn_r _ [5] (by decide +kernel) (by decide +kernel)
set_option maxRecDepth 20000 in
theorem gX6_isLine_X6_in : GoodIn wsX6_isLine (va_wsS RX6 87 yX6_in wsX6_in) := goodIn_app (goodIn_of _ (by decide +kernel)) ggX6_isLine_X6_in
theorem dX6_isLine_0 : decode cX6_isLine 0 = .ok (.iload_n 1, 1) := by decide +kernel
theorem dX6_isLine_1 : decode cX6_isLine 1 = .ok (.i2l, 1) := by decide +kernel
theorem dX6_isLine_2 : decode cX6_isLine 2 = .ok (.lconst 0, 1) := by decide +kernel
theorem dX6_isLine_3 : decode cX6_isLine 3 = .ok (.aload_n 0, 1) := by decide +kernel
theorem dX6_isLine_4 : decode cX6_isLine 4 = .ok (.getfield 95, 3) := by decide +kernel
theorem dX6_isLine_7 : decode cX6_isLine 7 = .ok (.iconst 1, 1) := by decide +kernel
theorem dX6_isLine_8 : decode cX6_isLine 8 = .ok (.isub, 1) := by decide +kernel
theorem dX6_isLine_9 : decode cX6_isLine 9 = .ok (.i2l, 1) := by decide +kernel
theorem dX6_isLine_10 : decode cX6_isLine 10 = .ok (.invokestatic 87, 3) := by decide +kernel
theorem dX6_isLine_13 : decode cX6_isLine 13 = .ok (.ireturn, 1) := by decide +kernel
theorem dX6_open_0 : decode cX6_open 0 = .ok (.iconst 0, 1) := by decide +kernel
theorem dX6_open_1 : decode cX6_open 1 = .ok (.istore_n 1, 1) := by decide +kernel
theorem dX6_open_2 : decode cX6_open 2 = .ok (.iconst 0, 1) := by decide +kernel
theorem dX6_open_3 : decode cX6_open 3 = .ok (.istore_n 2, 1) := by decide +kernel
theorem dX6_open_4 : decode cX6_open 4 = .ok (.iload_n 2, 1) := by decide +kernel
theorem dX6_open_5 : decode cX6_open 5 = .ok (.aload_n 0, 1) := by decide +kernel
theorem dX6_open_6 : decode cX6_open 6 = .ok (.getfield 95, 3) := by decide +kernel
theorem dX6_open_9 : decode cX6_open 9 = .ok (.if_icmp .ge 26, 3) := by decide +kernel
theorem dX6_open_12 : decode cX6_open 12 = .ok (.iload_n 1, 1) := by decide +kernel
theorem dX6_open_13 : decode cX6_open 13 = .ok (.aload_n 0, 1) := by decide +kernel
theorem dX6_open_14 : decode cX6_open 14 = .ok (.getfield 17, 3) := by decide +kernel
theorem dX6_open_17 : decode cX6_open 17 = .ok (.iload_n 2, 1) := by decide +kernel
theorem dX6_open_18 : decode cX6_open 18 = .ok (.baload, 1) := by decide +kernel
theorem dX6_open_19 : decode cX6_open 19 = .ok (.ifCond .eq 7, 3) := by decide +kernel
theorem dX6_open_22 : decode cX6_open 22 = .ok (.iconst 1, 1) := by decide +kernel
theorem dX6_open_23 : decode cX6_open 23 = .ok (.goto 4, 3) := by decide +kernel
theorem dX6_open_26 : decode cX6_open 26 = .ok (.iconst 0, 1) := by decide +kernel
theorem dX6_open_27 : decode cX6_open 27 = .ok (.iadd, 1) := by decide +kernel
theorem dX6_open_28 : decode cX6_open 28 = .ok (.istore_n 1, 1) := by decide +kernel
theorem dX6_open_29 : decode cX6_open 29 = .ok (.iinc 2 1, 3) := by decide +kernel
theorem dX6_open_32 : decode cX6_open 32 = .ok (.goto (-28), 3) := by decide +kernel
theorem dX6_open_35 : decode cX6_open 35 = .ok (.iload_n 1, 1) := by decide +kernel
theorem dX6_open_36 : decode cX6_open 36 = .ok (.ireturn, 1) := by decide +kernel
theorem dX6_unknown_0 : decode cX6_unknown 0 = .ok (.iconst 0, 1) := by decide +kernel
theorem dX6_unknown_1 : decode cX6_unknown 1 = .ok (.istore_n 1, 1) := by decide +kernel
theorem dX6_unknown_2 : decode cX6_unknown 2 = .ok (.iconst 0, 1) := by decide +kernel
theorem dX6_unknown_3 : decode cX6_unknown 3 = .ok (.istore_n 2, 1) := by decide +kernel
theorem dX6_unknown_4 : decode cX6_unknown 4 = .ok (.iload_n 2, 1) := by decide +kernel
theorem dX6_unknown_5 : decode cX6_unknown 5 = .ok (.aload_n 0, 1) := by decide +kernel
theorem dX6_unknown_6 : decode cX6_unknown 6 = .ok (.getfield 95, 3) := by decide +kernel
theorem dX6_unknown_9 : decode cX6_unknown 9 = .ok (.if_icmp .ge 35, 3) := by decide +kernel
theorem dX6_unknown_12 : decode cX6_unknown 12 = .ok (.iload_n 1, 1) := by decide +kernel
theorem dX6_unknown_13 : decode cX6_unknown 13 = .ok (.aload_n 0, 1) := by decide +kernel
theorem dX6_unknown_14 : decode cX6_unknown 14 = .ok (.getfield 17, 3) := by decide +kernel
theorem dX6_unknown_17 : decode cX6_unknown 17 = .ok (.iload_n 2, 1) := by decide +kernel
theorem dX6_unknown_18 : decode cX6_unknown 18 = .ok (.baload, 1) := by decide +kernel
theorem dX6_unknown_19 : decode cX6_unknown 19 = .ok (.ifCond .eq 16, 3) := by decide +kernel
theorem dX6_unknown_22 : decode cX6_unknown 22 = .ok (.aload_n 0, 1) := by decide +kernel
theorem dX6_unknown_23 : decode cX6_unknown 23 = .ok (.getfield 27, 3) := by decide +kernel
theorem dX6_unknown_26 : decode cX6_unknown 26 = .ok (.iload_n 2, 1) := by decide +kernel
theorem dX6_unknown_27 : decode cX6_unknown 27 = .ok (.baload, 1) := by decide +kernel
theorem dX6_unknown_28 : decode cX6_unknown 28 = .ok (.ifCond .ne 7, 3) := by decide +kernel
theorem dX6_unknown_31 : decode cX6_unknown 31 = .ok (.iconst 1, 1) := by decide +kernel
theorem dX6_unknown_32 : decode cX6_unknown 32 = .ok (.goto 4, 3) := by decide +kernel
theorem dX6_unknown_35 : decode cX6_unknown 35 = .ok (.iconst 0, 1) := by decide +kernel
theorem dX6_unknown_36 : decode cX6_unknown 36 = .ok (.iadd, 1) := by decide +kernel
theorem dX6_unknown_37 : decode cX6_unknown 37 = .ok (.istore_n 1, 1) := by decide +kernel
theorem dX6_unknown_38 : decode cX6_unknown 38 = .ok (.iinc 2 1, 3) := by decide +kernel
theorem dX6_unknown_41 : decode cX6_unknown 41 = .ok (.goto (-37), 3) := by decide +kernel
theorem dX6_unknown_44 : decode cX6_unknown 44 = .ok (.iload_n 1, 1) := by decide +kernel
theorem dX6_unknown_45 : decode cX6_unknown 45 = .ok (.ireturn, 1) := by decide +kernel
set_option maxRecDepth 20000 in
theorem ggX6_close_X6_isLine : GoodIn wsX6_close wsX6_isLine := goodIn_r _ [8, 9, 10, 11, 7, 12, 17, 18, 19, 20, 21, 22, 23, 24, 25, 26, 27, 28, 29, 30, 31, 32, 33, 34, 35, 36, 37, 38, 39, 40, 41, 42, 43, 44, 45] (by decide +kernel) (by decide +kernel)
set_option maxRecDepth 20000 in
theorem gX6_close_X6_isLine : GoodIn wsX6_close (wsV RX6 156 RX6 yX6_isLine wsX6_isLine) := goodIn_app (goodIn_of _ (by decide +kernel)) ggX6_close_X6_isLine
set_option maxRecDepth 20000 in
theorem ggX6_close_X6_open : GoodIn wsX6_close wsX6_open := goodIn_ca (goodIn_r _ [16, 9, 2, 17, 18, 19, 20, 21, 22, 23, 24, 25, 26, 27, 28, 29, 30, 31, 32, 33, 34, 35, 36, 37, 38, 39, 40, 41, 42, 43, 44, 45] (by decide +kernel) (by decide +kernel)) (goodIn_sub (fun _ h => List.mem_cons_of_mem _ (List.mem_append_right _ h)) (by decide +kernel))
set_option maxRecDepth 20000 in
theorem gX6_close_X6_open : GoodIn wsX6_close (wsV RX6 159 RX6 yX6_open wsX6_open) := goodIn_app (goodIn_of _ (by decide +kernel)) ggX6_close_X6_open
theorem dX6_close_0 : decode cX6_close 0 = .ok (.aload_n 0, 1) := by decide +kernel
theorem dX6_close_1 : decode cX6_close 1 = .ok (.aload_n 0, 1) := by decide +kernel
theorem dX6_close_2 : decode cX6_close 2 = .ok (.iload_n 1, 1) := by decide +kernel
theorem dX6_close_3 : decode cX6_close 3 = .ok (.invokevirtual 156, 3) := by decide +kernel
theorem dX6_close_6 : decode cX6_close 6 = .ok (.ifCond .ne 7, 3) := by decide +kernel
theorem dX6_close_9 : decode cX6_close 9 = .ok (.iconst 1, 1) := by decide +kernel
theorem dX6_close_10 : decode cX6_close 10 = .ok (.goto 32, 3) := by decide +kernel
theorem dX6_close_13 : decode cX6_close 13 = .ok (.aload_n 0, 1) := by decide +kernel
theorem dX6_close_14 : decode cX6_close 14 = .ok (.getfield 13, 3) := by decide +kernel
theorem dX6_close_17 : decode cX6_close 17 = .ok (.iload_n 1, 1) := by decide +kernel
theorem dX6_close_18 : decode cX6_close 18 = .ok (.caload, 1) := by decide +kernel
theorem dX6_close_19 : decode cX6_close 19 = .ok (.bipush 110, 2) := by decide +kernel
theorem dX6_close_21 : decode cX6_close 21 = .ok (.if_icmp .eq 7, 3) := by decide +kernel
theorem dX6_close_24 : decode cX6_close 24 = .ok (.iconst 2, 1) := by decide +kernel
theorem dX6_close_25 : decode cX6_close 25 = .ok (.goto 17, 3) := by decide +kernel
theorem dX6_close_28 : decode cX6_close 28 = .ok (.aload_n 0, 1) := by decide +kernel
theorem dX6_close_29 : decode cX6_close 29 = .ok (.getfield 17, 3) := by decide +kernel
theorem dX6_close_32 : decode cX6_close 32 = .ok (.iload_n 1, 1) := by decide +kernel
theorem dX6_close_33 : decode cX6_close 33 = .ok (.baload, 1) := by decide +kernel
theorem dX6_close_34 : decode cX6_close 34 = .ok (.ifCond .ne 7, 3) := by decide +kernel
theorem dX6_close_37 : decode cX6_close 37 = .ok (.iconst 3, 1) := by decide +kernel
theorem dX6_close_38 : decode cX6_close 38 = .ok (.goto 4, 3) := by decide +kernel
theorem dX6_close_41 : decode cX6_close 41 = .ok (.iconst 0, 1) := by decide +kernel
theorem dX6_close_42 : decode cX6_close 42 = .ok (.putfield 82, 3) := by decide +kernel
theorem dX6_close_45 : decode cX6_close 45 = .ok (.aload_n 0, 1) := by decide +kernel
theorem dX6_close_46 : decode cX6_close 46 = .ok (.getfield 82, 3) := by decide +kernel
theorem dX6_close_49 : decode cX6_close 49 = .ok (.ifCond .le 5, 3) := by decide +kernel
theorem dX6_close_52 : decode cX6_close 52 = .ok (.iconst (-1), 1) := by decide +kernel
theorem dX6_close_53 : decode cX6_close 53 = .ok (.ireturn, 1) := by decide +kernel
theorem dX6_close_54 : decode cX6_close 54 = .ok (.aload_n 0, 1) := by decide +kernel
theorem dX6_close_55 : decode cX6_close 55 = .ok (.getfield 17, 3) := by decide +kernel
theorem dX6_close_58 : decode cX6_close 58 = .ok (.iload_n 1, 1) := by decide +kernel
theorem dX6_close_59 : decode cX6_close 59 = .ok (.iconst 0, 1) := by decide +kernel
theorem dX6_close_60 : decode cX6_close 60 = .ok (.bastore, 1) := by decide +kernel
theorem dX6_close_61 : decode cX6_close 61 = .ok (.aload_n 0, 1) := by decide +kernel
theorem dX6_close_62 : decode cX6_close 62 = .ok (.invokevirtual 159, 3) := by decide +kernel
theorem dX6_close_65 : decode cX6_close 65 = .ok (.ireturn, 1) := by decide +kernel
set_option maxRecDepth 20000 in
theorem ggX6_isCrew_X6_in : GoodIn wsX6_isCrew wsX6_in := goodIn_r _ [5] (by decide +kernel) (by decide +kernel)
set_option maxRecDepth 20000 in
theorem gX6_isCrew_X6_in : GoodIn wsX6_isCrew (va_wsS RX6 87 yX6_in wsX6_in) := goodIn_app (goodIn_of _ (by decide +kernel)) ggX6_isCrew_X6_in
theorem dX6_isCrew_0 : decode cX6_isCrew 0 = .ok (.iload_n 0, 1) := by decide +kernel
theorem dX6_isCrew_1 : decode cX6_isCrew 1 = .ok (.i2l, 1) := by decide +kernel
theorem dX6_isCrew_2 : decode cX6_isCrew 2 = .ok (.lconst 0, 1) := by decide +kernel
theorem dX6_isCrew_3 : decode cX6_isCrew 3 = .ok (.ldc2_w 101, 3) := by decide +kernel
theorem dX6_isCrew_6 : decode cX6_isCrew 6 = .ok (.invokestatic 87, 3) := by decide +kernel
theorem dX6_isCrew_9 : decode cX6_isCrew 9 = .ok (.ireturn, 1) := by decide +kernel
set_option maxRecDepth 20000 in
theorem ggX6_begin_X6_isCrew : GoodIn wsX6_begin wsX6_isCrew := goodIn_r _ [8, 9, 10, 11, 7, 12] (by decide +kernel) (by decide +kernel)
set_option maxRecDepth 20000 in
theorem gX6_begin_X6_isCrew : GoodIn wsX6_begin (va_wsS RX6 163 yX6_isCrew wsX6_isCrew) := goodIn_app (goodIn_of _ (by decide +kernel)) ggX6_begin_X6_isCrew
theorem dX6_begin_0 : decode cX6_begin 0 = .ok (.aload_n 0, 1) := by decide +kernel
theorem dX6_begin_1 : decode cX6_begin 1 = .ok (.iload_n 1, 1) := by decide +kernel
theorem dX6_begin_2 : decode cX6_begin 2 = .ok (.invokestatic 163, 3) := by decide +kernel
theorem dX6_begin_5 : decode cX6_begin 5 = .ok (.ifCond .ne 7, 3) := by decide +kernel
theorem dX6_begin_8 : decode cX6_begin 8 = .ok (.iconst 1, 1) := by decide +kernel
theorem dX6_begin_9 : decode cX6_begin 9 = .ok (.goto 16, 3) := by decide +kernel
theorem dX6_begin_12 : decode cX6_begin 12 = .ok (.aload_n 0, 1) := by decide +kernel
theorem dX6_begin_13 : decode cX6_begin 13 = .ok (.getfield 72, 3) := by decide +kernel
theorem dX6_begin_16 : decode cX6_begin 16 = .ok (.iconst (-1), 1) := by decide +kernel
theorem dX6_begin_17 : decode cX6_begin 17 = .ok (.if_icmp .eq 7, 3) := by decide +kernel
theorem dX6_begin_20 : decode cX6_begin 20 = .ok (.iconst 2, 1) := by decide +kernel
theorem dX6_begin_21 : decode cX6_begin 21 = .ok (.goto 4, 3) := by decide +kernel
theorem dX6_begin_24 : decode cX6_begin 24 = .ok (.iconst 0, 1) := by decide +kernel
theorem dX6_begin_25 : decode cX6_begin 25 = .ok (.putfield 82, 3) := by decide +kernel
theorem dX6_begin_28 : decode cX6_begin 28 = .ok (.aload_n 0, 1) := by decide +kernel
theorem dX6_begin_29 : decode cX6_begin 29 = .ok (.getfield 82, 3) := by decide +kernel
theorem dX6_begin_32 : decode cX6_begin 32 = .ok (.ifCond .le 5, 3) := by decide +kernel
theorem dX6_begin_35 : decode cX6_begin 35 = .ok (.iconst (-1), 1) := by decide +kernel
theorem dX6_begin_36 : decode cX6_begin 36 = .ok (.ireturn, 1) := by decide +kernel
theorem dX6_begin_37 : decode cX6_begin 37 = .ok (.aload_n 0, 1) := by decide +kernel
theorem dX6_begin_38 : decode cX6_begin 38 = .ok (.iload_n 1, 1) := by decide +kernel
theorem dX6_begin_39 : decode cX6_begin 39 = .ok (.putfield 72, 3) := by decide +kernel
theorem dX6_begin_42 : decode cX6_begin 42 = .ok (.aload_n 0, 1) := by decide +kernel
theorem dX6_begin_43 : decode cX6_begin 43 = .ok (.aload_n 0, 1) := by decide +kernel
theorem dX6_begin_44 : decode cX6_begin 44 = .ok (.getfield 98, 3) := by decide +kernel
theorem dX6_begin_47 : decode cX6_begin 47 = .ok (.putfield 127, 3) := by decide +kernel
theorem dX6_begin_50 : decode cX6_begin 50 = .ok (.aload_n 0, 1) := by decide +kernel
theorem dX6_begin_51 : decode cX6_begin 51 = .ok (.getfield 98, 3) := by decide +kernel
theorem dX6_begin_54 : decode cX6_begin 54 = .ok (.ireturn, 1) := by decide +kernel
theorem dX6_restOf_0 : decode cX6_restOf 0 = .ok (.aload_n 0, 1) := by decide +kernel
theorem dX6_restOf_1 : decode cX6_restOf 1 = .ok (.getfield 79, 3) := by decide +kernel
theorem dX6_restOf_4 : decode cX6_restOf 4 = .ok (.iload_n 1, 1) := by decide +kernel
theorem dX6_restOf_5 : decode cX6_restOf 5 = .ok (.iaload, 1) := by decide +kernel
theorem dX6_restOf_6 : decode cX6_restOf 6 = .ok (.iconst (-1), 1) := by decide +kernel
theorem dX6_restOf_7 : decode cX6_restOf 7 = .ok (.if_icmp .eq 11, 3) := by decide +kernel
theorem dX6_restOf_10 : decode cX6_restOf 10 = .ok (.aload_n 0, 1) := by decide +kernel
theorem dX6_restOf_11 : decode cX6_restOf 11 = .ok (.getfield 72, 3) := by decide +kernel
theorem dX6_restOf_14 : decode cX6_restOf 14 = .ok (.iload_n 1, 1) := by decide +kernel
theorem dX6_restOf_15 : decode cX6_restOf 15 = .ok (.if_icmp .ne 7, 3) := by decide +kernel
theorem dX6_restOf_18 : decode cX6_restOf 18 = .ok (.iconst 0, 1) := by decide +kernel
theorem dX6_restOf_19 : decode cX6_restOf 19 = .ok (.goto 17, 3) := by decide +kernel
theorem dX6_restOf_22 : decode cX6_restOf 22 = .ok (.aload_n 0, 1) := by decide +kernel
theorem dX6_restOf_23 : decode cX6_restOf 23 = .ok (.getfield 79, 3) := by decide +kernel
theorem dX6_restOf_26 : decode cX6_restOf 26 = .ok (.iload_n 1, 1) := by decide +kernel
theorem dX6_restOf_27 : decode cX6_restOf 27 = .ok (.iaload, 1) := by decide +kernel
theorem dX6_restOf_28 : decode cX6_restOf 28 = .ok (.bipush 11, 2) := by decide +kernel
theorem dX6_restOf_30 : decode cX6_restOf 30 = .ok (.iadd, 1) := by decide +kernel
theorem dX6_restOf_31 : decode cX6_restOf 31 = .ok (.aload_n 0, 1) := by decide +kernel
theorem dX6_restOf_32 : decode cX6_restOf 32 = .ok (.getfield 98, 3) := by decide +kernel
theorem dX6_restOf_35 : decode cX6_restOf 35 = .ok (.isub, 1) := by decide +kernel
theorem dX6_restOf_36 : decode cX6_restOf 36 = .ok (.istore_n 2, 1) := by decide +kernel
theorem dX6_restOf_37 : decode cX6_restOf 37 = .ok (.iload_n 2, 1) := by decide +kernel
theorem dX6_restOf_38 : decode cX6_restOf 38 = .ok (.ifCond .le 7, 3) := by decide +kernel
theorem dX6_restOf_41 : decode cX6_restOf 41 = .ok (.iload_n 2, 1) := by decide +kernel
theorem dX6_restOf_42 : decode cX6_restOf 42 = .ok (.goto 4, 3) := by decide +kernel
theorem dX6_restOf_45 : decode cX6_restOf 45 = .ok (.iconst 0, 1) := by decide +kernel
theorem dX6_restOf_46 : decode cX6_restOf 46 = .ok (.ireturn, 1) := by decide +kernel
set_option maxRecDepth 20000 in
theorem ggX6_handOver_X6_isCrew : GoodIn wsX6_handOver wsX6_isCrew := goodIn_r _ [9, 10, 11, 12, 8, 13] (by decide +kernel) (by decide +kernel)
set_option maxRecDepth 20000 in
theorem gX6_handOver_X6_isCrew : GoodIn wsX6_handOver (va_wsS RX6 163 yX6_isCrew wsX6_isCrew) := goodIn_app (goodIn_of _ (by decide +kernel)) ggX6_handOver_X6_isCrew
set_option maxRecDepth 20000 in
theorem ggX6_handOver_X6_acts : GoodIn wsX6_handOver wsX6_acts := goodIn_r _ [17, 2, 3, 29, 30, 31, 32, 33, 34, 35, 36, 37, 38, 39, 40, 41, 42, 43, 44, 45, 46, 47, 48, 49, 50, 51, 52, 53, 54, 55, 56, 57] (by decide +kernel) (by decide +kernel)
set_option maxRecDepth 20000 in
theorem gX6_handOver_X6_acts : GoodIn wsX6_handOver (wsV RX6 133 RX6 yX6_acts wsX6_acts) := goodIn_app (goodIn_of _ (by decide +kernel)) ggX6_handOver_X6_acts
set_option maxRecDepth 20000 in
theorem ggX6_handOver_X6_restOf : GoodIn wsX6_handOver wsX6_restOf := goodIn_ca (goodIn_r _ [21, 22, 2, 23, 29, 30, 31, 32, 33, 34, 35, 36, 37, 38, 39, 40, 41, 42, 43, 44, 45, 46, 47, 48, 49, 50, 51, 52, 53, 54, 55, 56, 57] (by decide +kernel) (by decide +kernel)) (goodIn_sub (fun _ h => List.mem_cons_of_mem _ (List.mem_append_right _ h)) (by decide +kernel))
set_option maxRecDepth 20000 in
theorem gX6_handOver_X6_restOf : GoodIn wsX6_handOver (wsV RX6 166 RX6 yX6_restOf wsX6_restOf) := goodIn_app (goodIn_of _ (by decide +kernel)) ggX6_handOver_X6_restOf
set_option maxRecDepth 20000 in
theorem ggX6_handOver_X6_open : GoodIn wsX6_handOver wsX6_open := goodIn_ca (goodIn_r _ [27, 4, 28, 29, 30, 31, 32, 33, 34, 35, 36, 37, 38, 39, 40, 41, 42, 43, 44, 45, 46, 47, 48, 49, 50, 51, 52, 53, 54, 55, 56, 57] (by decide +kernel) (by decide +kernel)) (goodIn_sub (fun _ h => List.mem_cons_of_mem _ (List.mem_append_right _ h)) (by decide +kernel))
set_option maxRecDepth 20000 in
theorem gX6_handOver_X6_open : GoodIn wsX6_handOver (wsV RX6 159 RX6 yX6_open wsX6_open) := goodIn_app (goodIn_of _ (by decide +kernel)) ggX6_handOver_X6_open
theorem dX6_handOver_0 : decode cX6_handOver 0 = .ok (.iload_n 1, 1) := by decide +kernel
theorem dX6_handOver_1 : decode cX6_handOver 1 = .ok (.invokestatic 163, 3) := by decide +kernel
theorem dX6_handOver_4 : decode cX6_handOver 4 = .ok (.ifCond .ne 10, 3) := by decide +kernel
theorem dX6_handOver_7 : decode cX6_handOver 7 = .ok (.aload_n 0, 1) := by decide +kernel
theorem dX6_handOver_8 : decode cX6_handOver 8 = .ok (.iconst 1, 1) := by decide +kernel
theorem dX6_handOver_9 : decode cX6_handOver 9 = .ok (.putfield 82, 3) := by decide +kernel
theorem dX6_handOver_12 : decode cX6_handOver 12 = .ok (.iconst (-1), 1) := by decide +kernel
theorem dX6_handOver_13 : decode cX6_handOver 13 = .ok (.ireturn, 1) := by decide +kernel
theorem dX6_handOver_14 : decode cX6_handOver 14 = .ok (.aload_n 0, 1) := by decide +kernel
theorem dX6_handOver_15 : decode cX6_handOver 15 = .ok (.aload_n 0, 1) := by decide +kernel
theorem dX6_handOver_16 : decode cX6_handOver 16 = .ok (.invokevirtual 133, 3) := by decide +kernel
theorem dX6_handOver_19 : decode cX6_handOver 19 = .ok (.ifCond .eq 11, 3) := by decide +kernel
theorem dX6_handOver_22 : decode cX6_handOver 22 = .ok (.aload_n 0, 1) := by decide +kernel
theorem dX6_handOver_23 : decode cX6_handOver 23 = .ok (.getfield 72, 3) := by decide +kernel
theorem dX6_handOver_26 : decode cX6_handOver 26 = .ok (.iload_n 1, 1) := by decide +kernel
theorem dX6_handOver_27 : decode cX6_handOver 27 = .ok (.if_icmp .ne 7, 3) := by decide +kernel
theorem dX6_handOver_30 : decode cX6_handOver 30 = .ok (.iconst 2, 1) := by decide +kernel
theorem dX6_handOver_31 : decode cX6_handOver 31 = .ok (.goto 16, 3) := by decide +kernel
theorem dX6_handOver_34 : decode cX6_handOver 34 = .ok (.aload_n 0, 1) := by decide +kernel
theorem dX6_handOver_35 : decode cX6_handOver 35 = .ok (.iload_n 1, 1) := by decide +kernel
theorem dX6_handOver_36 : decode cX6_handOver 36 = .ok (.invokevirtual 166, 3) := by decide +kernel
theorem dX6_handOver_39 : decode cX6_handOver 39 = .ok (.ifCond .le 7, 3) := by decide +kernel
theorem dX6_handOver_42 : decode cX6_handOver 42 = .ok (.iconst 3, 1) := by decide +kernel
theorem dX6_handOver_43 : decode cX6_handOver 43 = .ok (.goto 4, 3) := by decide +kernel
theorem dX6_handOver_46 : decode cX6_handOver 46 = .ok (.iconst 0, 1) := by decide +kernel
theorem dX6_handOver_47 : decode cX6_handOver 47 = .ok (.putfield 82, 3) := by decide +kernel
theorem dX6_handOver_50 : decode cX6_handOver 50 = .ok (.aload_n 0, 1) := by decide +kernel
theorem dX6_handOver_51 : decode cX6_handOver 51 = .ok (.getfield 82, 3) := by decide +kernel
theorem dX6_handOver_54 : decode cX6_handOver 54 = .ok (.ifCond .le 5, 3) := by decide +kernel
theorem dX6_handOver_57 : decode cX6_handOver 57 = .ok (.iconst (-1), 1) := by decide +kernel
theorem dX6_handOver_58 : decode cX6_handOver 58 = .ok (.ireturn, 1) := by decide +kernel
theorem dX6_handOver_59 : decode cX6_handOver 59 = .ok (.aload_n 0, 1) := by decide +kernel
theorem dX6_handOver_60 : decode cX6_handOver 60 = .ok (.iload_n 1, 1) := by decide +kernel
theorem dX6_handOver_61 : decode cX6_handOver 61 = .ok (.putfield 76, 3) := by decide +kernel
theorem dX6_handOver_64 : decode cX6_handOver 64 = .ok (.iconst 0, 1) := by decide +kernel
theorem dX6_handOver_65 : decode cX6_handOver 65 = .ok (.istore_n 2, 1) := by decide +kernel
theorem dX6_handOver_66 : decode cX6_handOver 66 = .ok (.iload_n 2, 1) := by decide +kernel
theorem dX6_handOver_67 : decode cX6_handOver 67 = .ok (.aload_n 0, 1) := by decide +kernel
theorem dX6_handOver_68 : decode cX6_handOver 68 = .ok (.getfield 95, 3) := by decide +kernel
theorem dX6_handOver_71 : decode cX6_handOver 71 = .ok (.if_icmp .ge 16, 3) := by decide +kernel
theorem dX6_handOver_74 : decode cX6_handOver 74 = .ok (.aload_n 0, 1) := by decide +kernel
theorem dX6_handOver_75 : decode cX6_handOver 75 = .ok (.getfield 27, 3) := by decide +kernel
theorem dX6_handOver_78 : decode cX6_handOver 78 = .ok (.iload_n 2, 1) := by decide +kernel
theorem dX6_handOver_79 : decode cX6_handOver 79 = .ok (.iconst 0, 1) := by decide +kernel
theorem dX6_handOver_80 : decode cX6_handOver 80 = .ok (.bastore, 1) := by decide +kernel
theorem dX6_handOver_81 : decode cX6_handOver 81 = .ok (.iinc 2 1, 3) := by decide +kernel
theorem dX6_handOver_84 : decode cX6_handOver 84 = .ok (.goto (-18), 3) := by decide +kernel
theorem dX6_handOver_87 : decode cX6_handOver 87 = .ok (.aload_n 0, 1) := by decide +kernel
theorem dX6_handOver_88 : decode cX6_handOver 88 = .ok (.invokevirtual 159, 3) := by decide +kernel
theorem dX6_handOver_91 : decode cX6_handOver 91 = .ok (.ireturn, 1) := by decide +kernel
set_option maxRecDepth 20000 in
theorem ggX6_acknowledge_X6_isLine : GoodIn wsX6_acknowledge wsX6_isLine := goodIn_r _ [9, 10, 11, 12, 8, 13, 18, 19, 20, 21, 22, 23, 24, 25, 26, 27, 28, 29, 30, 31, 32, 33, 34, 35, 36, 37, 38, 39, 40, 41, 42, 43, 44, 45, 46] (by decide +kernel) (by decide +kernel)
set_option maxRecDepth 20000 in
theorem gX6_acknowledge_X6_isLine : GoodIn wsX6_acknowledge (wsV RX6 156 RX6 yX6_isLine wsX6_isLine) := goodIn_app (goodIn_of _ (by decide +kernel)) ggX6_acknowledge_X6_isLine
set_option maxRecDepth 20000 in
theorem ggX6_acknowledge_X6_unknown : GoodIn wsX6_acknowledge wsX6_unknown := goodIn_ca (goodIn_r _ [17, 10, 2, 3, 18, 19, 20, 21, 22, 23, 24, 25, 26, 27, 28, 29, 30, 31, 32, 33, 34, 35, 36, 37, 38, 39, 40, 41, 42, 43, 44, 45, 46] (by decide +kernel) (by decide +kernel)) (goodIn_sub (fun _ h => List.mem_cons_of_mem _ (List.mem_append_right _ h)) (by decide +kernel))
set_option maxRecDepth 20000 in
theorem gX6_acknowledge_X6_unknown : GoodIn wsX6_acknowledge (wsV RX6 169 RX6 yX6_unknown wsX6_unknown) := goodIn_app (goodIn_of _ (by decide +kernel)) ggX6_acknowledge_X6_unknown
theorem dX6_acknowledge_0 : decode cX6_acknowledge 0 = .ok (.aload_n 0, 1) := by decide +kernel
theorem dX6_acknowledge_1 : decode cX6_acknowledge 1 = .ok (.aload_n 0, 1) := by decide +kernel
theorem dX6_acknowledge_2 : decode cX6_acknowledge 2 = .ok (.iload_n 1, 1) := by decide +kernel
theorem dX6_acknowledge_3 : decode cX6_acknowledge 3 = .ok (.invokevirtual 156, 3) := by decide +kernel
theorem dX6_acknowledge_6 : decode cX6_acknowledge 6 = .ok (.ifCond .ne 7, 3) := by decide +kernel
theorem dX6_acknowledge_9 : decode cX6_acknowledge 9 = .ok (.iconst 1, 1) := by decide +kernel
theorem dX6_acknowledge_10 : decode cX6_acknowledge 10 = .ok (.goto 34, 3) := by decide +kernel
theorem dX6_acknowledge_13 : decode cX6_acknowledge 13 = .ok (.aload_n 0, 1) := by decide +kernel
theorem dX6_acknowledge_14 : decode cX6_acknowledge 14 = .ok (.getfield 76, 3) := by decide +kernel
theorem dX6_acknowledge_17 : decode cX6_acknowledge 17 = .ok (.iconst (-1), 1) := by decide +kernel
theorem dX6_acknowledge_18 : decode cX6_acknowledge 18 = .ok (.if_icmp .eq 21, 3) := by decide +kernel
theorem dX6_acknowledge_21 : decode cX6_acknowledge 21 = .ok (.aload_n 0, 1) := by decide +kernel
theorem dX6_acknowledge_22 : decode cX6_acknowledge 22 = .ok (.getfield 17, 3) := by decide +kernel
theorem dX6_acknowledge_25 : decode cX6_acknowledge 25 = .ok (.iload_n 1, 1) := by decide +kernel
theorem dX6_acknowledge_26 : decode cX6_acknowledge 26 = .ok (.baload, 1) := by decide +kernel
theorem dX6_acknowledge_27 : decode cX6_acknowledge 27 = .ok (.ifCond .eq 12, 3) := by decide +kernel
theorem dX6_acknowledge_30 : decode cX6_acknowledge 30 = .ok (.aload_n 0, 1) := by decide +kernel
theorem dX6_acknowledge_31 : decode cX6_acknowledge 31 = .ok (.getfield 27, 3) := by decide +kernel
theorem dX6_acknowledge_34 : decode cX6_acknowledge 34 = .ok (.iload_n 1, 1) := by decide +kernel
theorem dX6_acknowledge_35 : decode cX6_acknowledge 35 = .ok (.baload, 1) := by decide +kernel
theorem dX6_acknowledge_36 : decode cX6_acknowledge 36 = .ok (.ifCond .eq 7, 3) := by decide +kernel
theorem dX6_acknowledge_39 : decode cX6_acknowledge 39 = .ok (.iconst 2, 1) := by decide +kernel
theorem dX6_acknowledge_40 : decode cX6_acknowledge 40 = .ok (.goto 4, 3) := by decide +kernel
theorem dX6_acknowledge_43 : decode cX6_acknowledge 43 = .ok (.iconst 0, 1) := by decide +kernel
theorem dX6_acknowledge_44 : decode cX6_acknowledge 44 = .ok (.putfield 82, 3) := by decide +kernel
theorem dX6_acknowledge_47 : decode cX6_acknowledge 47 = .ok (.aload_n 0, 1) := by decide +kernel
theorem dX6_acknowledge_48 : decode cX6_acknowledge 48 = .ok (.getfield 82, 3) := by decide +kernel
theorem dX6_acknowledge_51 : decode cX6_acknowledge 51 = .ok (.ifCond .le 5, 3) := by decide +kernel
theorem dX6_acknowledge_54 : decode cX6_acknowledge 54 = .ok (.iconst (-1), 1) := by decide +kernel
theorem dX6_acknowledge_55 : decode cX6_acknowledge 55 = .ok (.ireturn, 1) := by decide +kernel
theorem dX6_acknowledge_56 : decode cX6_acknowledge 56 = .ok (.aload_n 0, 1) := by decide +kernel
theorem dX6_acknowledge_57 : decode cX6_acknowledge 57 = .ok (.getfield 27, 3) := by decide +kernel
theorem dX6_acknowledge_60 : decode cX6_acknowledge 60 = .ok (.iload_n 1, 1) := by decide +kernel
theorem dX6_acknowledge_61 : decode cX6_acknowledge 61 = .ok (.iconst 1, 1) := by decide +kernel
theorem dX6_acknowledge_62 : decode cX6_acknowledge 62 = .ok (.bastore, 1) := by decide +kernel
theorem dX6_acknowledge_63 : decode cX6_acknowledge 63 = .ok (.aload_n 0, 1) := by decide +kernel
theorem dX6_acknowledge_64 : decode cX6_acknowledge 64 = .ok (.invokevirtual 169, 3) := by decide +kernel
theorem dX6_acknowledge_67 : decode cX6_acknowledge 67 = .ok (.ireturn, 1) := by decide +kernel
set_option maxRecDepth 20000 in
theorem ggX6_take_X6_unknown : GoodIn wsX6_take wsX6_unknown := goodIn_ca (goodIn_r _ [14, 3, 5, 15, 20, 21, 22, 23, 24, 25, 26, 27, 28, 29, 30, 31, 32, 33, 34, 35, 36, 37, 38, 39, 40, 41, 42, 43, 44, 45, 46, 47, 48] (by decide +kernel) (by decide +kernel)) (goodIn_sub (fun _ h => List.mem_cons_of_mem _ (List.mem_append_right _ h)) (by decide +kernel))
set_option maxRecDepth 20000 in
theorem gX6_take_X6_unknown : GoodIn wsX6_take (wsV RX6 169 RX6 yX6_unknown wsX6_unknown) := goodIn_app (goodIn_of _ (by decide +kernel)) ggX6_take_X6_unknown
set_option maxRecDepth 20000 in
theorem ggX6_take_X6_open : GoodIn wsX6_take wsX6_open := goodIn_ca (goodIn_r _ [19, 3, 5, 20, 21, 22, 23, 24, 25, 26, 27, 28, 29, 30, 31, 32, 33, 34, 35, 36, 37, 38, 39, 40, 41, 42, 43, 44, 45, 46, 47, 48] (by decide +kernel) (by decide +kernel)) (goodIn_sub (fun _ h => List.mem_cons_of_mem _ (List.mem_append_right _ h)) (by decide +kernel))
set_option maxRecDepth 20000 in
theorem gX6_take_X6_open : GoodIn wsX6_take (wsV RX6 159 RX6 yX6_open wsX6_open) := goodIn_app (goodIn_of _ (by decide +kernel)) ggX6_take_X6_open
theorem dX6_take_0 : decode cX6_take 0 = .ok (.aload_n 0, 1) := by decide +kernel
theorem dX6_take_1 : decode cX6_take 1 = .ok (.aload_n 0, 1) := by decide +kernel
theorem dX6_take_2 : decode cX6_take 2 = .ok (.getfield 76, 3) := by decide +kernel
theorem dX6_take_5 : decode cX6_take 5 = .ok (.iconst (-1), 1) := by decide +kernel
theorem dX6_take_6 : decode cX6_take 6 = .ok (.if_icmp .ne 7, 3) := by decide +kernel
theorem dX6_take_9 : decode cX6_take 9 = .ok (.iconst 1, 1) := by decide +kernel
theorem dX6_take_10 : decode cX6_take 10 = .ok (.goto 15, 3) := by decide +kernel
theorem dX6_take_13 : decode cX6_take 13 = .ok (.aload_n 0, 1) := by decide +kernel
theorem dX6_take_14 : decode cX6_take 14 = .ok (.invokevirtual 169, 3) := by decide +kernel
theorem dX6_take_17 : decode cX6_take 17 = .ok (.ifCond .le 7, 3) := by decide +kernel
theorem dX6_take_20 : decode cX6_take 20 = .ok (.iconst 2, 1) := by decide +kernel
theorem dX6_take_21 : decode cX6_take 21 = .ok (.goto 4, 3) := by decide +kernel
theorem dX6_take_24 : decode cX6_take 24 = .ok (.iconst 0, 1) := by decide +kernel
theorem dX6_take_25 : decode cX6_take 25 = .ok (.putfield 82, 3) := by decide +kernel
theorem dX6_take_28 : decode cX6_take 28 = .ok (.aload_n 0, 1) := by decide +kernel
theorem dX6_take_29 : decode cX6_take 29 = .ok (.getfield 82, 3) := by decide +kernel
theorem dX6_take_32 : decode cX6_take 32 = .ok (.ifCond .le 5, 3) := by decide +kernel
theorem dX6_take_35 : decode cX6_take 35 = .ok (.iconst (-1), 1) := by decide +kernel
theorem dX6_take_36 : decode cX6_take 36 = .ok (.ireturn, 1) := by decide +kernel
theorem dX6_take_37 : decode cX6_take 37 = .ok (.iconst 0, 1) := by decide +kernel
theorem dX6_take_38 : decode cX6_take 38 = .ok (.istore_n 1, 1) := by decide +kernel
theorem dX6_take_39 : decode cX6_take 39 = .ok (.iload_n 1, 1) := by decide +kernel
theorem dX6_take_40 : decode cX6_take 40 = .ok (.aload_n 0, 1) := by decide +kernel
theorem dX6_take_41 : decode cX6_take 41 = .ok (.getfield 95, 3) := by decide +kernel
theorem dX6_take_44 : decode cX6_take 44 = .ok (.if_icmp .ge 32, 3) := by decide +kernel
theorem dX6_take_47 : decode cX6_take 47 = .ok (.aload_n 0, 1) := by decide +kernel
theorem dX6_take_48 : decode cX6_take 48 = .ok (.getfield 24, 3) := by decide +kernel
theorem dX6_take_51 : decode cX6_take 51 = .ok (.iload_n 1, 1) := by decide +kernel
theorem dX6_take_52 : decode cX6_take 52 = .ok (.dup2, 1) := by decide +kernel
theorem dX6_take_53 : decode cX6_take 53 = .ok (.iaload, 1) := by decide +kernel
theorem dX6_take_54 : decode cX6_take 54 = .ok (.aload_n 0, 1) := by decide +kernel
theorem dX6_take_55 : decode cX6_take 55 = .ok (.getfield 17, 3) := by decide +kernel
theorem dX6_take_58 : decode cX6_take 58 = .ok (.iload_n 1, 1) := by decide +kernel
theorem dX6_take_59 : decode cX6_take 59 = .ok (.baload, 1) := by decide +kernel
theorem dX6_take_60 : decode cX6_take 60 = .ok (.ifCond .eq 7, 3) := by decide +kernel
theorem dX6_take_63 : decode cX6_take 63 = .ok (.iconst 1, 1) := by decide +kernel
theorem dX6_take_64 : decode cX6_take 64 = .ok (.goto 4, 3) := by decide +kernel
theorem dX6_take_67 : decode cX6_take 67 = .ok (.iconst 0, 1) := by decide +kernel
theorem dX6_take_68 : decode cX6_take 68 = .ok (.iadd, 1) := by decide +kernel
theorem dX6_take_69 : decode cX6_take 69 = .ok (.iastore, 1) := by decide +kernel
theorem dX6_take_70 : decode cX6_take 70 = .ok (.iinc 1 1, 3) := by decide +kernel
theorem dX6_take_73 : decode cX6_take 73 = .ok (.goto (-34), 3) := by decide +kernel
theorem dX6_take_76 : decode cX6_take 76 = .ok (.aload_n 0, 1) := by decide +kernel
theorem dX6_take_77 : decode cX6_take 77 = .ok (.getfield 79, 3) := by decide +kernel
theorem dX6_take_80 : decode cX6_take 80 = .ok (.aload_n 0, 1) := by decide +kernel
theorem dX6_take_81 : decode cX6_take 81 = .ok (.getfield 72, 3) := by decide +kernel
theorem dX6_take_84 : decode cX6_take 84 = .ok (.aload_n 0, 1) := by decide +kernel
theorem dX6_take_85 : decode cX6_take 85 = .ok (.getfield 98, 3) := by decide +kernel
theorem dX6_take_88 : decode cX6_take 88 = .ok (.iastore, 1) := by decide +kernel
theorem dX6_take_89 : decode cX6_take 89 = .ok (.aload_n 0, 1) := by decide +kernel
theorem dX6_take_90 : decode cX6_take 90 = .ok (.aload_n 0, 1) := by decide +kernel
theorem dX6_take_91 : decode cX6_take 91 = .ok (.getfield 76, 3) := by decide +kernel
theorem dX6_take_94 : decode cX6_take 94 = .ok (.putfield 72, 3) := by decide +kernel
theorem dX6_take_97 : decode cX6_take 97 = .ok (.aload_n 0, 1) := by decide +kernel
theorem dX6_take_98 : decode cX6_take 98 = .ok (.aload_n 0, 1) := by decide +kernel
theorem dX6_take_99 : decode cX6_take 99 = .ok (.getfield 98, 3) := by decide +kernel
theorem dX6_take_102 : decode cX6_take 102 = .ok (.putfield 127, 3) := by decide +kernel
theorem dX6_take_105 : decode cX6_take 105 = .ok (.aload_n 0, 1) := by decide +kernel
theorem dX6_take_106 : decode cX6_take 106 = .ok (.iconst (-1), 1) := by decide +kernel
theorem dX6_take_107 : decode cX6_take 107 = .ok (.putfield 76, 3) := by decide +kernel
theorem dX6_take_110 : decode cX6_take 110 = .ok (.aload_n 0, 1) := by decide +kernel
theorem dX6_take_111 : decode cX6_take 111 = .ok (.invokevirtual 159, 3) := by decide +kernel
theorem dX6_take_114 : decode cX6_take 114 = .ok (.ireturn, 1) := by decide +kernel
set_option maxRecDepth 20000 in
theorem ggX6_cancel_X6_open : GoodIn wsX6_cancel wsX6_open := goodIn_ca (goodIn_r _ [7, 8, 9, 15, 16, 17, 18, 19, 20, 21, 22, 23, 24, 25, 26, 27, 28, 29, 30, 31, 32, 33, 34, 35, 36, 37, 38, 39, 40, 41, 42, 43] (by decide +kernel) (by decide +kernel)) (goodIn_sub (fun _ h => List.mem_cons_of_mem _ (List.mem_append_right _ h)) (by decide +kernel))
set_option maxRecDepth 20000 in
theorem gX6_cancel_X6_open : GoodIn wsX6_cancel (wsV RX6 159 RX6 yX6_open wsX6_open) := goodIn_app (goodIn_of _ (by decide +kernel)) ggX6_cancel_X6_open
set_option maxRecDepth 20000 in
theorem ggX6_cancel_X6_unknown : GoodIn wsX6_cancel wsX6_unknown := goodIn_ca (goodIn_r _ [13, 8, 9, 14, 15, 16, 17, 18, 19, 20, 21, 22, 23, 24, 25, 26, 27, 28, 29, 30, 31, 32, 33, 34, 35, 36, 37, 38, 39, 40, 41, 42, 43] (by decide +kernel) (by decide +kernel)) (goodIn_sub (fun _ h => List.mem_cons_of_mem _ (List.mem_append_right _ h)) (by decide +kernel))
set_option maxRecDepth 20000 in
theorem gX6_cancel_X6_unknown : GoodIn wsX6_cancel (wsV RX6 169 RX6 yX6_unknown wsX6_unknown) := goodIn_app (goodIn_of _ (by decide +kernel)) ggX6_cancel_X6_unknown
theorem dX6_cancel_0 : decode cX6_cancel 0 = .ok (.aload_n 0, 1) := by decide +kernel
theorem dX6_cancel_1 : decode cX6_cancel 1 = .ok (.aload_n 0, 1) := by decide +kernel
theorem dX6_cancel_2 : decode cX6_cancel 2 = .ok (.getfield 76, 3) := by decide +kernel
theorem dX6_cancel_5 : decode cX6_cancel 5 = .ok (.iconst (-1), 1) := by decide +kernel
theorem dX6_cancel_6 : decode cX6_cancel 6 = .ok (.if_icmp .ne 7, 3) := by decide +kernel
theorem dX6_cancel_9 : decode cX6_cancel 9 = .ok (.iconst 1, 1) := by decide +kernel
theorem dX6_cancel_10 : decode cX6_cancel 10 = .ok (.goto 4, 3) := by decide +kernel
theorem dX6_cancel_13 : decode cX6_cancel 13 = .ok (.iconst 0, 1) := by decide +kernel
theorem dX6_cancel_14 : decode cX6_cancel 14 = .ok (.putfield 82, 3) := by decide +kernel
theorem dX6_cancel_17 : decode cX6_cancel 17 = .ok (.aload_n 0, 1) := by decide +kernel
theorem dX6_cancel_18 : decode cX6_cancel 18 = .ok (.getfield 82, 3) := by decide +kernel
theorem dX6_cancel_21 : decode cX6_cancel 21 = .ok (.ifCond .le 5, 3) := by decide +kernel
theorem dX6_cancel_24 : decode cX6_cancel 24 = .ok (.iconst (-1), 1) := by decide +kernel
theorem dX6_cancel_25 : decode cX6_cancel 25 = .ok (.ireturn, 1) := by decide +kernel
theorem dX6_cancel_26 : decode cX6_cancel 26 = .ok (.aload_n 0, 1) := by decide +kernel
theorem dX6_cancel_27 : decode cX6_cancel 27 = .ok (.iconst (-1), 1) := by decide +kernel
theorem dX6_cancel_28 : decode cX6_cancel 28 = .ok (.putfield 76, 3) := by decide +kernel
theorem dX6_cancel_31 : decode cX6_cancel 31 = .ok (.aload_n 0, 1) := by decide +kernel
theorem dX6_cancel_32 : decode cX6_cancel 32 = .ok (.invokevirtual 159, 3) := by decide +kernel
theorem dX6_cancel_35 : decode cX6_cancel 35 = .ok (.aload_n 0, 1) := by decide +kernel
theorem dX6_cancel_36 : decode cX6_cancel 36 = .ok (.invokevirtual 169, 3) := by decide +kernel
theorem dX6_cancel_39 : decode cX6_cancel 39 = .ok (.isub, 1) := by decide +kernel
theorem dX6_cancel_40 : decode cX6_cancel 40 = .ok (.ireturn, 1) := by decide +kernel
set_option maxRecDepth 20000 in
theorem ggX6_pass_X6_in : GoodIn wsX6_pass wsX6_in := goodIn_r _ [8] (by decide +kernel) (by decide +kernel)
set_option maxRecDepth 20000 in
theorem gX6_pass_X6_in : GoodIn wsX6_pass (va_wsS RX6 87 yX6_in wsX6_in) := goodIn_app (goodIn_of _ (by decide +kernel)) ggX6_pass_X6_in
set_option maxRecDepth 20000 in
theorem ggX6_pass_X6_isShelved : GoodIn wsX6_pass wsX6_isShelved := goodIn_ca (goodIn_r _ [12, 13, 3, 4, 14, 15, 16, 17, 18, 19, 20, 21, 22, 23, 24, 25, 26, 27, 28, 29, 30, 31, 32, 33, 34, 35, 36, 37, 38, 39, 40, 41, 42] (by decide +kernel) (by decide +kernel)) (goodIn_sub (fun _ h => List.mem_cons_of_mem _ (List.mem_append_right _ h)) (by decide +kernel))
set_option maxRecDepth 20000 in
theorem gX6_pass_X6_isShelved : GoodIn wsX6_pass (wsV RX6 115 RX6 yX6_isShelved wsX6_isShelved) := goodIn_app (goodIn_of _ (by decide +kernel)) ggX6_pass_X6_isShelved
theorem dX6_pass_0 : decode cX6_pass 0 = .ok (.aload_n 0, 1) := by decide +kernel
theorem dX6_pass_1 : decode cX6_pass 1 = .ok (.iload_n 1, 1) := by decide +kernel
theorem dX6_pass_2 : decode cX6_pass 2 = .ok (.i2l, 1) := by decide +kernel
theorem dX6_pass_3 : decode cX6_pass 3 = .ok (.lconst 1, 1) := by decide +kernel
theorem dX6_pass_4 : decode cX6_pass 4 = .ok (.ldc2_w 172, 3) := by decide +kernel
theorem dX6_pass_7 : decode cX6_pass 7 = .ok (.invokestatic 87, 3) := by decide +kernel
theorem dX6_pass_10 : decode cX6_pass 10 = .ok (.ifCond .eq 7, 3) := by decide +kernel
theorem dX6_pass_13 : decode cX6_pass 13 = .ok (.iconst 0, 1) := by decide +kernel
theorem dX6_pass_14 : decode cX6_pass 14 = .ok (.goto 4, 3) := by decide +kernel
theorem dX6_pass_17 : decode cX6_pass 17 = .ok (.iconst 1, 1) := by decide +kernel
theorem dX6_pass_18 : decode cX6_pass 18 = .ok (.putfield 82, 3) := by decide +kernel
theorem dX6_pass_21 : decode cX6_pass 21 = .ok (.aload_n 0, 1) := by decide +kernel
theorem dX6_pass_22 : decode cX6_pass 22 = .ok (.getfield 82, 3) := by decide +kernel
theorem dX6_pass_25 : decode cX6_pass 25 = .ok (.ifCond .le 5, 3) := by decide +kernel
theorem dX6_pass_28 : decode cX6_pass 28 = .ok (.iconst (-1), 1) := by decide +kernel
theorem dX6_pass_29 : decode cX6_pass 29 = .ok (.ireturn, 1) := by decide +kernel
theorem dX6_pass_30 : decode cX6_pass 30 = .ok (.iconst 0, 1) := by decide +kernel
theorem dX6_pass_31 : decode cX6_pass 31 = .ok (.istore_n 2, 1) := by decide +kernel
theorem dX6_pass_32 : decode cX6_pass 32 = .ok (.iconst 0, 1) := by decide +kernel
theorem dX6_pass_33 : decode cX6_pass 33 = .ok (.istore_n 3, 1) := by decide +kernel
theorem dX6_pass_34 : decode cX6_pass 34 = .ok (.iload_n 3, 1) := by decide +kernel
theorem dX6_pass_35 : decode cX6_pass 35 = .ok (.bipush 32, 2) := by decide +kernel
theorem dX6_pass_37 : decode cX6_pass 37 = .ok (.if_icmp .ge 40, 3) := by decide +kernel
theorem dX6_pass_40 : decode cX6_pass 40 = .ok (.iload_n 2, 1) := by decide +kernel
theorem dX6_pass_41 : decode cX6_pass 41 = .ok (.aload_n 0, 1) := by decide +kernel
theorem dX6_pass_42 : decode cX6_pass 42 = .ok (.iload_n 3, 1) := by decide +kernel
theorem dX6_pass_43 : decode cX6_pass 43 = .ok (.invokevirtual 115, 3) := by decide +kernel
theorem dX6_pass_46 : decode cX6_pass 46 = .ok (.ifCond .eq 22, 3) := by decide +kernel
theorem dX6_pass_49 : decode cX6_pass 49 = .ok (.aload_n 0, 1) := by decide +kernel
theorem dX6_pass_50 : decode cX6_pass 50 = .ok (.getfield 98, 3) := by decide +kernel
theorem dX6_pass_53 : decode cX6_pass 53 = .ok (.iload_n 1, 1) := by decide +kernel
theorem dX6_pass_54 : decode cX6_pass 54 = .ok (.iadd, 1) := by decide +kernel
theorem dX6_pass_55 : decode cX6_pass 55 = .ok (.aload_n 0, 1) := by decide +kernel
theorem dX6_pass_56 : decode cX6_pass 56 = .ok (.getfield 36, 3) := by decide +kernel
theorem dX6_pass_59 : decode cX6_pass 59 = .ok (.iload_n 3, 1) := by decide +kernel
theorem dX6_pass_60 : decode cX6_pass 60 = .ok (.iaload, 1) := by decide +kernel
theorem dX6_pass_61 : decode cX6_pass 61 = .ok (.if_icmp .lt 7, 3) := by decide +kernel
theorem dX6_pass_64 : decode cX6_pass 64 = .ok (.iconst 1, 1) := by decide +kernel
theorem dX6_pass_65 : decode cX6_pass 65 = .ok (.goto 4, 3) := by decide +kernel
theorem dX6_pass_68 : decode cX6_pass 68 = .ok (.iconst 0, 1) := by decide +kernel
theorem dX6_pass_69 : decode cX6_pass 69 = .ok (.iadd, 1) := by decide +kernel
theorem dX6_pass_70 : decode cX6_pass 70 = .ok (.istore_n 2, 1) := by decide +kernel
theorem dX6_pass_71 : decode cX6_pass 71 = .ok (.iinc 3 1, 3) := by decide +kernel
theorem dX6_pass_74 : decode cX6_pass 74 = .ok (.goto (-40), 3) := by decide +kernel
theorem dX6_pass_77 : decode cX6_pass 77 = .ok (.aload_n 0, 1) := by decide +kernel
theorem dX6_pass_78 : decode cX6_pass 78 = .ok (.dup, 1) := by decide +kernel
theorem dX6_pass_79 : decode cX6_pass 79 = .ok (.getfield 98, 3) := by decide +kernel
theorem dX6_pass_82 : decode cX6_pass 82 = .ok (.iload_n 1, 1) := by decide +kernel
theorem dX6_pass_83 : decode cX6_pass 83 = .ok (.iadd, 1) := by decide +kernel
theorem dX6_pass_84 : decode cX6_pass 84 = .ok (.putfield 98, 3) := by decide +kernel
theorem dX6_pass_87 : decode cX6_pass 87 = .ok (.iload_n 2, 1) := by decide +kernel
theorem dX6_pass_88 : decode cX6_pass 88 = .ok (.ireturn, 1) := by decide +kernel
theorem dX6_hour_0 : decode cX6_hour 0 = .ok (.aload_n 0, 1) := by decide +kernel
theorem dX6_hour_1 : decode cX6_hour 1 = .ok (.iconst 0, 1) := by decide +kernel
theorem dX6_hour_2 : decode cX6_hour 2 = .ok (.putfield 82, 3) := by decide +kernel
theorem dX6_hour_5 : decode cX6_hour 5 = .ok (.aload_n 0, 1) := by decide +kernel
theorem dX6_hour_6 : decode cX6_hour 6 = .ok (.getfield 98, 3) := by decide +kernel
theorem dX6_hour_9 : decode cX6_hour 9 = .ok (.ireturn, 1) := by decide +kernel
theorem dX6_onDuty_0 : decode cX6_onDuty 0 = .ok (.aload_n 0, 1) := by decide +kernel
theorem dX6_onDuty_1 : decode cX6_onDuty 1 = .ok (.aload_n 0, 1) := by decide +kernel
theorem dX6_onDuty_2 : decode cX6_onDuty 2 = .ok (.getfield 72, 3) := by decide +kernel
theorem dX6_onDuty_5 : decode cX6_onDuty 5 = .ok (.iconst (-1), 1) := by decide +kernel
theorem dX6_onDuty_6 : decode cX6_onDuty 6 = .ok (.if_icmp .ne 7, 3) := by decide +kernel
theorem dX6_onDuty_9 : decode cX6_onDuty 9 = .ok (.iconst 1, 1) := by decide +kernel
theorem dX6_onDuty_10 : decode cX6_onDuty 10 = .ok (.goto 4, 3) := by decide +kernel
theorem dX6_onDuty_13 : decode cX6_onDuty 13 = .ok (.iconst 0, 1) := by decide +kernel
theorem dX6_onDuty_14 : decode cX6_onDuty 14 = .ok (.putfield 82, 3) := by decide +kernel
theorem dX6_onDuty_17 : decode cX6_onDuty 17 = .ok (.aload_n 0, 1) := by decide +kernel
theorem dX6_onDuty_18 : decode cX6_onDuty 18 = .ok (.getfield 72, 3) := by decide +kernel
theorem dX6_onDuty_21 : decode cX6_onDuty 21 = .ok (.ireturn, 1) := by decide +kernel
set_option maxRecDepth 20000 in
theorem ggX6_isTired_X6_tired : GoodIn wsX6_isTired wsX6_tired := goodIn_r _ [6, 7, 8, 9, 10, 11, 12, 13, 14, 15, 16, 17, 18, 19, 20, 21, 22, 23, 24, 25, 26, 27, 28, 29, 30, 31, 32, 33, 34, 35, 36, 37, 38] (by decide +kernel) (by decide +kernel)
set_option maxRecDepth 20000 in
theorem gX6_isTired_X6_tired : GoodIn wsX6_isTired (wsV RX6 137 RX6 yX6_tired wsX6_tired) := goodIn_app (goodIn_of _ (by decide +kernel)) ggX6_isTired_X6_tired
theorem dX6_isTired_0 : decode cX6_isTired 0 = .ok (.aload_n 0, 1) := by decide +kernel
theorem dX6_isTired_1 : decode cX6_isTired 1 = .ok (.iconst 0, 1) := by decide +kernel
theorem dX6_isTired_2 : decode cX6_isTired 2 = .ok (.putfield 82, 3) := by decide +kernel
theorem dX6_isTired_5 : decode cX6_isTired 5 = .ok (.aload_n 0, 1) := by decide +kernel
theorem dX6_isTired_6 : decode cX6_isTired 6 = .ok (.invokevirtual 137, 3) := by decide +kernel
theorem dX6_isTired_9 : decode cX6_isTired 9 = .ok (.ireturn, 1) := by decide +kernel
set_option maxRecDepth 20000 in
theorem ggX6_restLeft_X6_isCrew : GoodIn wsX6_restLeft wsX6_isCrew := goodIn_r _ [5, 6, 7, 8, 4, 9] (by decide +kernel) (by decide +kernel)
set_option maxRecDepth 20000 in
theorem gX6_restLeft_X6_isCrew : GoodIn wsX6_restLeft (va_wsS RX6 163 yX6_isCrew wsX6_isCrew) := goodIn_app (goodIn_of _ (by decide +kernel)) ggX6_restLeft_X6_isCrew
set_option maxRecDepth 20000 in
theorem ggX6_restLeft_X6_restOf : GoodIn wsX6_restLeft wsX6_restOf := goodIn_ca (goodIn_r _ [13, 14, 15, 16, 17, 18, 19, 20, 21, 22, 23, 24, 25, 26, 27, 28, 29, 30, 31, 32, 33, 34, 35, 36, 37, 38, 39, 40, 41, 42, 43, 44, 45] (by decide +kernel) (by decide +kernel)) (goodIn_sub (fun _ h => List.mem_cons_of_mem _ (List.mem_append_right _ h)) (by decide +kernel))
set_option maxRecDepth 20000 in
theorem gX6_restLeft_X6_restOf : GoodIn wsX6_restLeft (wsV RX6 166 RX6 yX6_restOf wsX6_restOf) := goodIn_app (goodIn_of _ (by decide +kernel)) ggX6_restLeft_X6_restOf
theorem dX6_restLeft_0 : decode cX6_restLeft 0 = .ok (.aload_n 0, 1) := by decide +kernel
theorem dX6_restLeft_1 : decode cX6_restLeft 1 = .ok (.iload_n 1, 1) := by decide +kernel
theorem dX6_restLeft_2 : decode cX6_restLeft 2 = .ok (.invokestatic 163, 3) := by decide +kernel
theorem dX6_restLeft_5 : decode cX6_restLeft 5 = .ok (.ifCond .eq 7, 3) := by decide +kernel
theorem dX6_restLeft_8 : decode cX6_restLeft 8 = .ok (.iconst 0, 1) := by decide +kernel
theorem dX6_restLeft_9 : decode cX6_restLeft 9 = .ok (.goto 4, 3) := by decide +kernel
theorem dX6_restLeft_12 : decode cX6_restLeft 12 = .ok (.iconst 1, 1) := by decide +kernel
theorem dX6_restLeft_13 : decode cX6_restLeft 13 = .ok (.putfield 82, 3) := by decide +kernel
theorem dX6_restLeft_16 : decode cX6_restLeft 16 = .ok (.aload_n 0, 1) := by decide +kernel
theorem dX6_restLeft_17 : decode cX6_restLeft 17 = .ok (.getfield 82, 3) := by decide +kernel
theorem dX6_restLeft_20 : decode cX6_restLeft 20 = .ok (.ifCond .ne 11, 3) := by decide +kernel
theorem dX6_restLeft_23 : decode cX6_restLeft 23 = .ok (.aload_n 0, 1) := by decide +kernel
theorem dX6_restLeft_24 : decode cX6_restLeft 24 = .ok (.iload_n 1, 1) := by decide +kernel
theorem dX6_restLeft_25 : decode cX6_restLeft 25 = .ok (.invokevirtual 166, 3) := by decide +kernel
theorem dX6_restLeft_28 : decode cX6_restLeft 28 = .ok (.goto 4, 3) := by decide +kernel
theorem dX6_restLeft_31 : decode cX6_restLeft 31 = .ok (.iconst (-1), 1) := by decide +kernel
theorem dX6_restLeft_32 : decode cX6_restLeft 32 = .ok (.ireturn, 1) := by decide +kernel
set_option maxRecDepth 20000 in
theorem ggX6_openLines_X6_open : GoodIn wsX6_openLines wsX6_open := goodIn_ca (goodIn_r _ [6, 7, 8, 9, 10, 11, 12, 13, 14, 15, 16, 17, 18, 19, 20, 21, 22, 23, 24, 25, 26, 27, 28, 29, 30, 31, 32, 33, 34, 35, 36, 37] (by decide +kernel) (by decide +kernel)) (goodIn_sub (fun _ h => List.mem_cons_of_mem _ (List.mem_append_right _ h)) (by decide +kernel))
set_option maxRecDepth 20000 in
theorem gX6_openLines_X6_open : GoodIn wsX6_openLines (wsV RX6 159 RX6 yX6_open wsX6_open) := goodIn_app (goodIn_of _ (by decide +kernel)) ggX6_openLines_X6_open
theorem dX6_openLines_0 : decode cX6_openLines 0 = .ok (.aload_n 0, 1) := by decide +kernel
theorem dX6_openLines_1 : decode cX6_openLines 1 = .ok (.iconst 0, 1) := by decide +kernel
theorem dX6_openLines_2 : decode cX6_openLines 2 = .ok (.putfield 82, 3) := by decide +kernel
theorem dX6_openLines_5 : decode cX6_openLines 5 = .ok (.aload_n 0, 1) := by decide +kernel
theorem dX6_openLines_6 : decode cX6_openLines 6 = .ok (.invokevirtual 159, 3) := by decide +kernel
theorem dX6_openLines_9 : decode cX6_openLines 9 = .ok (.ireturn, 1) := by decide +kernel
set_option maxRecDepth 20000 in
theorem ggX6_openByLog_X6_openLines : GoodIn wsX6_openByLog wsX6_openLines := goodIn_ca (goodIn_r _ [5, 6, 7, 8, 9, 4, 10, 11, 12, 13, 14, 15, 16, 17, 18, 19, 20, 21, 22, 23, 24, 25, 26, 27, 28, 29, 30, 31, 32, 33, 34, 35, 36, 37, 38, 39, 40, 41] (by decide +kernel) (by decide +kernel)) (goodIn_sub (fun _ h => List.mem_cons_of_mem _ (List.mem_append_right _ h)) (by decide +kernel))
set_option maxRecDepth 20000 in
theorem gX6_openByLog_X6_openLines : GoodIn wsX6_openByLog (wsV RX6 174 RX6 yX6_openLines wsX6_openLines) := goodIn_app (goodIn_of _ (by decide +kernel)) ggX6_openByLog_X6_openLines
theorem dX6_openByLog_0 : decode cX6_openByLog 0 = .ok (.aload_n 0, 1) := by decide +kernel
theorem dX6_openByLog_1 : decode cX6_openByLog 1 = .ok (.invokevirtual 174, 3) := by decide +kernel
theorem dX6_openByLog_4 : decode cX6_openByLog 4 = .ok (.ireturn, 1) := by decide +kernel
theorem dX6_openAt_0 : decode cX6_openAt 0 = .ok (.iconst 0, 1) := by decide +kernel
theorem dX6_openAt_1 : decode cX6_openAt 1 = .ok (.istore_n 2, 1) := by decide +kernel
theorem dX6_openAt_2 : decode cX6_openAt 2 = .ok (.iconst 0, 1) := by decide +kernel
theorem dX6_openAt_3 : decode cX6_openAt 3 = .ok (.istore_n 3, 1) := by decide +kernel
theorem dX6_openAt_4 : decode cX6_openAt 4 = .ok (.iload_n 3, 1) := by decide +kernel
theorem dX6_openAt_5 : decode cX6_openAt 5 = .ok (.aload_n 0, 1) := by decide +kernel
theorem dX6_openAt_6 : decode cX6_openAt 6 = .ok (.getfield 95, 3) := by decide +kernel
theorem dX6_openAt_9 : decode cX6_openAt 9 = .ok (.if_icmp .ge 47, 3) := by decide +kernel
theorem dX6_openAt_12 : decode cX6_openAt 12 = .ok (.aload_n 0, 1) := by decide +kernel
theorem dX6_openAt_13 : decode cX6_openAt 13 = .ok (.getfield 17, 3) := by decide +kernel
theorem dX6_openAt_16 : decode cX6_openAt 16 = .ok (.iload_n 3, 1) := by decide +kernel
theorem dX6_openAt_17 : decode cX6_openAt 17 = .ok (.baload, 1) := by decide +kernel
theorem dX6_openAt_18 : decode cX6_openAt 18 = .ok (.ifCond .eq 15, 3) := by decide +kernel
theorem dX6_openAt_21 : decode cX6_openAt 21 = .ok (.iload_n 2, 1) := by decide +kernel
theorem dX6_openAt_22 : decode cX6_openAt 22 = .ok (.iload_n 1, 1) := by decide +kernel
theorem dX6_openAt_23 : decode cX6_openAt 23 = .ok (.if_icmp .ne 10, 3) := by decide +kernel
theorem dX6_openAt_26 : decode cX6_openAt 26 = .ok (.aload_n 0, 1) := by decide +kernel
theorem dX6_openAt_27 : decode cX6_openAt 27 = .ok (.iconst 0, 1) := by decide +kernel
theorem dX6_openAt_28 : decode cX6_openAt 28 = .ok (.putfield 82, 3) := by decide +kernel
theorem dX6_openAt_31 : decode cX6_openAt 31 = .ok (.iload_n 3, 1) := by decide +kernel
theorem dX6_openAt_32 : decode cX6_openAt 32 = .ok (.ireturn, 1) := by decide +kernel
theorem dX6_openAt_33 : decode cX6_openAt 33 = .ok (.iload_n 2, 1) := by decide +kernel
theorem dX6_openAt_34 : decode cX6_openAt 34 = .ok (.aload_n 0, 1) := by decide +kernel
theorem dX6_openAt_35 : decode cX6_openAt 35 = .ok (.getfield 17, 3) := by decide +kernel
theorem dX6_openAt_38 : decode cX6_openAt 38 = .ok (.iload_n 3, 1) := by decide +kernel
theorem dX6_openAt_39 : decode cX6_openAt 39 = .ok (.baload, 1) := by decide +kernel
theorem dX6_openAt_40 : decode cX6_openAt 40 = .ok (.ifCond .eq 7, 3) := by decide +kernel
theorem dX6_openAt_43 : decode cX6_openAt 43 = .ok (.iconst 1, 1) := by decide +kernel
theorem dX6_openAt_44 : decode cX6_openAt 44 = .ok (.goto 4, 3) := by decide +kernel
theorem dX6_openAt_47 : decode cX6_openAt 47 = .ok (.iconst 0, 1) := by decide +kernel
theorem dX6_openAt_48 : decode cX6_openAt 48 = .ok (.iadd, 1) := by decide +kernel
theorem dX6_openAt_49 : decode cX6_openAt 49 = .ok (.istore_n 2, 1) := by decide +kernel
theorem dX6_openAt_50 : decode cX6_openAt 50 = .ok (.iinc 3 1, 3) := by decide +kernel
theorem dX6_openAt_53 : decode cX6_openAt 53 = .ok (.goto (-49), 3) := by decide +kernel
theorem dX6_openAt_56 : decode cX6_openAt 56 = .ok (.aload_n 0, 1) := by decide +kernel
theorem dX6_openAt_57 : decode cX6_openAt 57 = .ok (.iconst 1, 1) := by decide +kernel
theorem dX6_openAt_58 : decode cX6_openAt 58 = .ok (.putfield 82, 3) := by decide +kernel
theorem dX6_openAt_61 : decode cX6_openAt 61 = .ok (.iconst (-1), 1) := by decide +kernel
theorem dX6_openAt_62 : decode cX6_openAt 62 = .ok (.ireturn, 1) := by decide +kernel
set_option maxRecDepth 20000 in
theorem ggX6_kindOf_X6_isLine : GoodIn wsX6_kindOf wsX6_isLine := goodIn_r _ [7, 8, 9, 10, 6, 11, 12, 13, 14, 15, 16, 17, 18, 19, 20, 21, 22, 23, 24, 25, 26, 27, 28, 29, 30, 31, 32, 33, 34, 35, 36, 37, 38, 39, 40] (by decide +kernel) (by decide +kernel)
set_option maxRecDepth 20000 in
theorem gX6_kindOf_X6_isLine : GoodIn wsX6_kindOf (wsV RX6 156 RX6 yX6_isLine wsX6_isLine) := goodIn_app (goodIn_of _ (by decide +kernel)) ggX6_kindOf_X6_isLine
theorem dX6_kindOf_0 : decode cX6_kindOf 0 = .ok (.aload_n 0, 1) := by decide +kernel
theorem dX6_kindOf_1 : decode cX6_kindOf 1 = .ok (.aload_n 0, 1) := by decide +kernel
theorem dX6_kindOf_2 : decode cX6_kindOf 2 = .ok (.iload_n 1, 1) := by decide +kernel
theorem dX6_kindOf_3 : decode cX6_kindOf 3 = .ok (.invokevirtual 156, 3) := by decide +kernel
theorem dX6_kindOf_6 : decode cX6_kindOf 6 = .ok (.ifCond .eq 7, 3) := by decide +kernel
theorem dX6_kindOf_9 : decode cX6_kindOf 9 = .ok (.iconst 0, 1) := by decide +kernel
theorem dX6_kindOf_10 : decode cX6_kindOf 10 = .ok (.goto 4, 3) := by decide +kernel
theorem dX6_kindOf_13 : decode cX6_kindOf 13 = .ok (.iconst 1, 1) := by decide +kernel
theorem dX6_kindOf_14 : decode cX6_kindOf 14 = .ok (.putfield 82, 3) := by decide +kernel
theorem dX6_kindOf_17 : decode cX6_kindOf 17 = .ok (.aload_n 0, 1) := by decide +kernel
theorem dX6_kindOf_18 : decode cX6_kindOf 18 = .ok (.getfield 82, 3) := by decide +kernel
theorem dX6_kindOf_21 : decode cX6_kindOf 21 = .ok (.ifCond .ne 12, 3) := by decide +kernel
theorem dX6_kindOf_24 : decode cX6_kindOf 24 = .ok (.aload_n 0, 1) := by decide +kernel
theorem dX6_kindOf_25 : decode cX6_kindOf 25 = .ok (.getfield 13, 3) := by decide +kernel
theorem dX6_kindOf_28 : decode cX6_kindOf 28 = .ok (.iload_n 1, 1) := by decide +kernel
theorem dX6_kindOf_29 : decode cX6_kindOf 29 = .ok (.caload, 1) := by decide +kernel
theorem dX6_kindOf_30 : decode cX6_kindOf 30 = .ok (.goto 5, 3) := by decide +kernel
theorem dX6_kindOf_33 : decode cX6_kindOf 33 = .ok (.bipush 32, 2) := by decide +kernel
theorem dX6_kindOf_35 : decode cX6_kindOf 35 = .ok (.ireturn, 1) := by decide +kernel
set_option maxRecDepth 20000 in
theorem ggX6_passed_X6_isLine : GoodIn wsX6_passed wsX6_isLine := goodIn_r _ [7, 8, 9, 10, 6, 11, 12, 13, 14, 15, 16, 17, 18, 19, 20, 21, 22, 23, 24, 25, 26, 27, 28, 29, 30, 31, 32, 33, 34, 35, 36, 37, 38, 39, 40] (by decide +kernel) (by decide +kernel)
set_option maxRecDepth 20000 in
theorem gX6_passed_X6_isLine : GoodIn wsX6_passed (wsV RX6 156 RX6 yX6_isLine wsX6_isLine) := goodIn_app (goodIn_of _ (by decide +kernel)) ggX6_passed_X6_isLine
theorem dX6_passed_0 : decode cX6_passed 0 = .ok (.aload_n 0, 1) := by decide +kernel
theorem dX6_passed_1 : decode cX6_passed 1 = .ok (.aload_n 0, 1) := by decide +kernel
theorem dX6_passed_2 : decode cX6_passed 2 = .ok (.iload_n 1, 1) := by decide +kernel
theorem dX6_passed_3 : decode cX6_passed 3 = .ok (.invokevirtual 156, 3) := by decide +kernel
theorem dX6_passed_6 : decode cX6_passed 6 = .ok (.ifCond .eq 7, 3) := by decide +kernel
theorem dX6_passed_9 : decode cX6_passed 9 = .ok (.iconst 0, 1) := by decide +kernel
theorem dX6_passed_10 : decode cX6_passed 10 = .ok (.goto 4, 3) := by decide +kernel
theorem dX6_passed_13 : decode cX6_passed 13 = .ok (.iconst 1, 1) := by decide +kernel
theorem dX6_passed_14 : decode cX6_passed 14 = .ok (.putfield 82, 3) := by decide +kernel
theorem dX6_passed_17 : decode cX6_passed 17 = .ok (.aload_n 0, 1) := by decide +kernel
theorem dX6_passed_18 : decode cX6_passed 18 = .ok (.getfield 82, 3) := by decide +kernel
theorem dX6_passed_21 : decode cX6_passed 21 = .ok (.ifCond .ne 12, 3) := by decide +kernel
theorem dX6_passed_24 : decode cX6_passed 24 = .ok (.aload_n 0, 1) := by decide +kernel
theorem dX6_passed_25 : decode cX6_passed 25 = .ok (.getfield 24, 3) := by decide +kernel
theorem dX6_passed_28 : decode cX6_passed 28 = .ok (.iload_n 1, 1) := by decide +kernel
theorem dX6_passed_29 : decode cX6_passed 29 = .ok (.iaload, 1) := by decide +kernel
theorem dX6_passed_30 : decode cX6_passed 30 = .ok (.goto 4, 3) := by decide +kernel
theorem dX6_passed_33 : decode cX6_passed 33 = .ok (.iconst (-1), 1) := by decide +kernel
theorem dX6_passed_34 : decode cX6_passed 34 = .ok (.ireturn, 1) := by decide +kernel
set_option maxRecDepth 20000 in
theorem ggX6_closedShare_X6_open : GoodIn wsX6_closedShare wsX6_open := goodIn_ca (goodIn_r _ [7, 1, 8, 9, 10, 11, 12, 13, 14, 15, 16, 17, 18, 19, 20, 21, 22, 23, 24, 25, 26, 27, 28, 29, 30, 31, 32, 33, 34, 35, 36, 37] (by decide +kernel) (by decide +kernel)) (goodIn_sub (fun _ h => List.mem_cons_of_mem _ (List.mem_append_right _ h)) (by decide +kernel))
set_option maxRecDepth 20000 in
theorem gX6_closedShare_X6_open : GoodIn wsX6_closedShare (wsV RX6 159 RX6 yX6_open wsX6_open) := goodIn_app (goodIn_of _ (by decide +kernel)) ggX6_closedShare_X6_open
theorem dX6_closedShare_0 : decode cX6_closedShare 0 = .ok (.aload_n 0, 1) := by decide +kernel
theorem dX6_closedShare_1 : decode cX6_closedShare 1 = .ok (.aload_n 0, 1) := by decide +kernel
theorem dX6_closedShare_2 : decode cX6_closedShare 2 = .ok (.getfield 95, 3) := by decide +kernel
theorem dX6_closedShare_5 : decode cX6_closedShare 5 = .ok (.ifCond .ne 7, 3) := by decide +kernel
theorem dX6_closedShare_8 : decode cX6_closedShare 8 = .ok (.iconst 1, 1) := by decide +kernel
theorem dX6_closedShare_9 : decode cX6_closedShare 9 = .ok (.goto 4, 3) := by decide +kernel
theorem dX6_closedShare_12 : decode cX6_closedShare 12 = .ok (.iconst 0, 1) := by decide +kernel
theorem dX6_closedShare_13 : decode cX6_closedShare 13 = .ok (.putfield 82, 3) := by decide +kernel
theorem dX6_closedShare_16 : decode cX6_closedShare 16 = .ok (.aload_n 0, 1) := by decide +kernel
theorem dX6_closedShare_17 : decode cX6_closedShare 17 = .ok (.getfield 82, 3) := by decide +kernel
theorem dX6_closedShare_20 : decode cX6_closedShare 20 = .ok (.ifCond .ne 22, 3) := by decide +kernel
theorem dX6_closedShare_23 : decode cX6_closedShare 23 = .ok (.aload_n 0, 1) := by decide +kernel
theorem dX6_closedShare_24 : decode cX6_closedShare 24 = .ok (.getfield 95, 3) := by decide +kernel
theorem dX6_closedShare_27 : decode cX6_closedShare 27 = .ok (.aload_n 0, 1) := by decide +kernel
theorem dX6_closedShare_28 : decode cX6_closedShare 28 = .ok (.invokevirtual 159, 3) := by decide +kernel
theorem dX6_closedShare_31 : decode cX6_closedShare 31 = .ok (.isub, 1) := by decide +kernel
theorem dX6_closedShare_32 : decode cX6_closedShare 32 = .ok (.i2f, 1) := by decide +kernel
theorem dX6_closedShare_33 : decode cX6_closedShare 33 = .ok (.aload_n 0, 1) := by decide +kernel
theorem dX6_closedShare_34 : decode cX6_closedShare 34 = .ok (.getfield 95, 3) := by decide +kernel
theorem dX6_closedShare_37 : decode cX6_closedShare 37 = .ok (.i2f, 1) := by decide +kernel
theorem dX6_closedShare_38 : decode cX6_closedShare 38 = .ok (.fdiv, 1) := by decide +kernel
theorem dX6_closedShare_39 : decode cX6_closedShare 39 = .ok (.goto 4, 3) := by decide +kernel
theorem dX6_closedShare_42 : decode cX6_closedShare 42 = .ok (.fconst 0, 1) := by decide +kernel
theorem dX6_closedShare_43 : decode cX6_closedShare 43 = .ok (.freturn, 1) := by decide +kernel
set_option maxRecDepth 20000 in
theorem ggX6_meanAge_X6_open : GoodIn wsX6_meanAge wsX6_open := goodIn_ca (goodIn_r _ [10, 1, 2, 11, 12, 13, 14, 15, 16, 17, 18, 19, 20, 21, 22, 23, 24, 25, 26, 27, 28, 29, 30, 31, 32, 33, 34, 35, 36, 37, 38, 39] (by decide +kernel) (by decide +kernel)) (goodIn_sub (fun _ h => List.mem_cons_of_mem _ (List.mem_append_right _ h)) (by decide +kernel))
set_option maxRecDepth 20000 in
theorem gX6_meanAge_X6_open : GoodIn wsX6_meanAge (wsV RX6 159 RX6 yX6_open wsX6_open) := goodIn_app (goodIn_of _ (by decide +kernel)) ggX6_meanAge_X6_open
theorem dX6_meanAge_0 : decode cX6_meanAge 0 = .ok (.iconst 0, 1) := by decide +kernel
theorem dX6_meanAge_1 : decode cX6_meanAge 1 = .ok (.istore_n 1, 1) := by decide +kernel
theorem dX6_meanAge_2 : decode cX6_meanAge 2 = .ok (.iconst 0, 1) := by decide +kernel
theorem dX6_meanAge_3 : decode cX6_meanAge 3 = .ok (.istore_n 2, 1) := by decide +kernel
theorem dX6_meanAge_4 : decode cX6_meanAge 4 = .ok (.iload_n 2, 1) := by decide +kernel
theorem dX6_meanAge_5 : decode cX6_meanAge 5 = .ok (.aload_n 0, 1) := by decide +kernel
theorem dX6_meanAge_6 : decode cX6_meanAge 6 = .ok (.getfield 95, 3) := by decide +kernel
theorem dX6_meanAge_9 : decode cX6_meanAge 9 = .ok (.if_icmp .ge 36, 3) := by decide +kernel
theorem dX6_meanAge_12 : decode cX6_meanAge 12 = .ok (.iload_n 1, 1) := by decide +kernel
theorem dX6_meanAge_13 : decode cX6_meanAge 13 = .ok (.aload_n 0, 1) := by decide +kernel
theorem dX6_meanAge_14 : decode cX6_meanAge 14 = .ok (.getfield 17, 3) := by decide +kernel
theorem dX6_meanAge_17 : decode cX6_meanAge 17 = .ok (.iload_n 2, 1) := by decide +kernel
theorem dX6_meanAge_18 : decode cX6_meanAge 18 = .ok (.baload, 1) := by decide +kernel
theorem dX6_meanAge_19 : decode cX6_meanAge 19 = .ok (.ifCond .eq 17, 3) := by decide +kernel
theorem dX6_meanAge_22 : decode cX6_meanAge 22 = .ok (.aload_n 0, 1) := by decide +kernel
theorem dX6_meanAge_23 : decode cX6_meanAge 23 = .ok (.getfield 98, 3) := by decide +kernel
theorem dX6_meanAge_26 : decode cX6_meanAge 26 = .ok (.aload_n 0, 1) := by decide +kernel
theorem dX6_meanAge_27 : decode cX6_meanAge 27 = .ok (.getfield 21, 3) := by decide +kernel
theorem dX6_meanAge_30 : decode cX6_meanAge 30 = .ok (.iload_n 2, 1) := by decide +kernel
theorem dX6_meanAge_31 : decode cX6_meanAge 31 = .ok (.iaload, 1) := by decide +kernel
theorem dX6_meanAge_32 : decode cX6_meanAge 32 = .ok (.isub, 1) := by decide +kernel
theorem dX6_meanAge_33 : decode cX6_meanAge 33 = .ok (.goto 4, 3) := by decide +kernel
theorem dX6_meanAge_36 : decode cX6_meanAge 36 = .ok (.iconst 0, 1) := by decide +kernel
theorem dX6_meanAge_37 : decode cX6_meanAge 37 = .ok (.iadd, 1) := by decide +kernel
theorem dX6_meanAge_38 : decode cX6_meanAge 38 = .ok (.istore_n 1, 1) := by decide +kernel
theorem dX6_meanAge_39 : decode cX6_meanAge 39 = .ok (.iinc 2 1, 3) := by decide +kernel
theorem dX6_meanAge_42 : decode cX6_meanAge 42 = .ok (.goto (-38), 3) := by decide +kernel
theorem dX6_meanAge_45 : decode cX6_meanAge 45 = .ok (.aload_n 0, 1) := by decide +kernel
theorem dX6_meanAge_46 : decode cX6_meanAge 46 = .ok (.aload_n 0, 1) := by decide +kernel
theorem dX6_meanAge_47 : decode cX6_meanAge 47 = .ok (.invokevirtual 159, 3) := by decide +kernel
theorem dX6_meanAge_50 : decode cX6_meanAge 50 = .ok (.ifCond .ne 7, 3) := by decide +kernel
theorem dX6_meanAge_53 : decode cX6_meanAge 53 = .ok (.iconst 1, 1) := by decide +kernel
theorem dX6_meanAge_54 : decode cX6_meanAge 54 = .ok (.goto 4, 3) := by decide +kernel
theorem dX6_meanAge_57 : decode cX6_meanAge 57 = .ok (.iconst 0, 1) := by decide +kernel
theorem dX6_meanAge_58 : decode cX6_meanAge 58 = .ok (.putfield 82, 3) := by decide +kernel
theorem dX6_meanAge_61 : decode cX6_meanAge 61 = .ok (.aload_n 0, 1) := by decide +kernel
theorem dX6_meanAge_62 : decode cX6_meanAge 62 = .ok (.getfield 82, 3) := by decide +kernel
theorem dX6_meanAge_65 : decode cX6_meanAge 65 = .ok (.ifCond .ne 14, 3) := by decide +kernel
theorem dX6_meanAge_68 : decode cX6_meanAge 68 = .ok (.iload_n 1, 1) := by decide +kernel
theorem dX6_meanAge_69 : decode cX6_meanAge 69 = .ok (.i2d, 1) := by decide +kernel
theorem dX6_meanAge_70 : decode cX6_meanAge 70 = .ok (.aload_n 0, 1) := by decide +kernel
theorem dX6_meanAge_71 : decode cX6_meanAge 71 = .ok (.invokevirtual 159, 3) := by decide +kernel
theorem dX6_meanAge_74 : decode cX6_meanAge 74 = .ok (.i2d, 1) := by decide +kernel
theorem dX6_meanAge_75 : decode cX6_meanAge 75 = .ok (.ddiv, 1) := by decide +kernel
theorem dX6_meanAge_76 : decode cX6_meanAge 76 = .ok (.goto 4, 3) := by decide +kernel
theorem dX6_meanAge_79 : decode cX6_meanAge 79 = .ok (.dconst 0, 1) := by decide +kernel
theorem dX6_meanAge_80 : decode cX6_meanAge 80 = .ok (.dreturn, 1) := by decide +kernel
theorem dX6_isSound_0 : decode cX6_isSound 0 = .ok (.aload_n 0, 1) := by decide +kernel
theorem dX6_isSound_1 : decode cX6_isSound 1 = .ok (.iconst 0, 1) := by decide +kernel
theorem dX6_isSound_2 : decode cX6_isSound 2 = .ok (.putfield 82, 3) := by decide +kernel
theorem dX6_isSound_5 : decode cX6_isSound 5 = .ok (.iconst 1, 1) := by decide +kernel
theorem dX6_isSound_6 : decode cX6_isSound 6 = .ok (.ireturn, 1) := by decide +kernel
theorem dJx00060_init_a7421_0 : decode cJx00060_init_a7421 0 = .ok (.aload_n 0, 1) := by decide +kernel
theorem dJx00060_init_a7421_1 : decode cJx00060_init_a7421 1 = .ok (.aload_n 1, 1) := by decide +kernel
theorem dJx00060_init_a7421_2 : decode cJx00060_init_a7421 2 = .ok (.invokespecial 7, 3) := by decide +kernel
theorem dJx00060_init_a7421_5 : decode cJx00060_init_a7421 5 = .ok (.return_, 1) := by decide +kernel
set_option maxRecDepth 20000 in
theorem ggL_state_X5_state : GoodIn wsL_state wsX5_state := goodIn_ca (goodIn_ca (goodIn_r _ [6, 7, 8, 5, 9, 10, 11, 12, 13, 14, 15, 16, 17, 18, 19, 20, 21, 22, 23, 24, 25, 26] (by decide +kernel) (by decide +kernel)) (goodIn_sub (fun _ h => List.mem_cons_of_mem _ (List.mem_append_right _ h)) (by decide +kernel))) (goodIn_sub (fun _ h => List.mem_cons_of_mem _ (List.mem_append_left _ (List.mem_append_right _ h))) (by decide +kernel))
set_option maxRecDepth 20000 in
theorem gL_state_X5_state : GoodIn wsL_state (wsV RL 7 RX5 yX5_state wsX5_state) := goodIn_app (goodIn_of _ (by decide +kernel)) ggL_state_X5_state
theorem dL_state_0 : decode cL_state 0 = .ok (.aload_n 2, 1) := by decide +kernel
theorem dL_state_1 : decode cL_state 1 = .ok (.iconst 0, 1) := by decide +kernel
theorem dL_state_2 : decode cL_state 2 = .ok (.aload_n 0, 1) := by decide +kernel
theorem dL_state_3 : decode cL_state 3 = .ok (.iload_n 1, 1) := by decide +kernel
theorem dL_state_4 : decode cL_state 4 = .ok (.invokevirtual 7, 3) := by decide +kernel
theorem dL_state_7 : decode cL_state 7 = .ok (.i2l, 1) := by decide +kernel
theorem dL_state_8 : decode cL_state 8 = .ok (.lastore, 1) := by decide +kernel
theorem dL_state_9 : decode cL_state 9 = .ok (.goto 6, 3) := by decide +kernel
theorem dL_state_12 : decode cL_state 12 = .ok (.astore_n 3, 1) := by decide +kernel
theorem dL_state_13 : decode cL_state 13 = .ok (.iconst 1, 1) := by decide +kernel
theorem dL_state_14 : decode cL_state 14 = .ok (.ireturn, 1) := by decide +kernel
theorem dL_state_15 : decode cL_state 15 = .ok (.iconst 0, 1) := by decide +kernel
theorem dL_state_16 : decode cL_state 16 = .ok (.ireturn, 1) := by decide +kernel
set_option maxRecDepth 20000 in
theorem ggL_raise_X5_raise : GoodIn wsL_raise wsX5_raise := goodIn_ca (goodIn_ca (goodIn_ca (goodIn_ca (goodIn_r _ [6, 7, 8, 9, 10, 11, 12, 13, 5, 14, 15, 16, 17, 18, 19, 20, 21, 22, 23, 24, 25, 26, 27, 28, 29, 30, 31, 32, 33, 34, 35, 36, 37, 38, 39, 40, 41, 42, 43, 44, 45, 46, 47, 48, 49, 50, 51, 52, 53, 54, 55, 56, 57, 58, 59, 60, 61, 62, 63, 64, 65, 66, 67, 68, 69, 70, 71, 72, 73, 74, 75, 76, 77, 78, 79, 80, 81, 82, 83, 84, 85, 86, 87, 88, 89, 90, 91, 92, 93] (by decide +kernel) (by decide +kernel)) (goodIn_sub (fun _ h => List.mem_cons_of_mem _ (List.mem_append_left _ (List.mem_append_left _ (List.mem_append_right _ h)))) (by decide +kernel))) (goodIn_sub (fun _ h => List.mem_cons_of_mem _ (List.mem_append_left _ (List.mem_append_right _ h))) (by decide +kernel))) (goodIn_sub (fun _ h => List.mem_cons_of_mem _ (List.mem_append_right _ h)) (by decide +kernel))) (goodIn_sub (fun _ h => List.mem_cons_of_mem _ (List.mem_append_left _ (List.mem_append_left _ (List.mem_append_left _ (List.mem_append_right _ h))))) (by decide +kernel))
set_option maxRecDepth 20000 in
theorem gL_raise_X5_raise : GoodIn wsL_raise (wsV RL 15 RX5 yX5_raise wsX5_raise) := goodIn_app (goodIn_of _ (by decide +kernel)) ggL_raise_X5_raise
theorem dL_raise_0 : decode cL_raise 0 = .ok (.aload 4, 2) := by decide +kernel
theorem dL_raise_2 : decode cL_raise 2 = .ok (.iconst 0, 1) := by decide +kernel
theorem dL_raise_3 : decode cL_raise 3 = .ok (.aload_n 0, 1) := by decide +kernel
theorem dL_raise_4 : decode cL_raise 4 = .ok (.iload_n 1, 1) := by decide +kernel
theorem dL_raise_5 : decode cL_raise 5 = .ok (.iload_n 2, 1) := by decide +kernel
theorem dL_raise_6 : decode cL_raise 6 = .ok (.iload_n 3, 1) := by decide +kernel
theorem dL_raise_7 : decode cL_raise 7 = .ok (.invokevirtual 15, 3) := by decide +kernel
theorem dL_raise_10 : decode cL_raise 10 = .ok (.i2l, 1) := by decide +kernel
theorem dL_raise_11 : decode cL_raise 11 = .ok (.lastore, 1) := by decide +kernel
theorem dL_raise_12 : decode cL_raise 12 = .ok (.goto 15, 3) := by decide +kernel
theorem dL_raise_15 : decode cL_raise 15 = .ok (.astore 5, 2) := by decide +kernel
theorem dL_raise_17 : decode cL_raise 17 = .ok (.iconst 1, 1) := by decide +kernel
theorem dL_raise_18 : decode cL_raise 18 = .ok (.ireturn, 1) := by decide +kernel
theorem dL_raise_19 : decode cL_raise 19 = .ok (.astore 5, 2) := by decide +kernel
theorem dL_raise_21 : decode cL_raise 21 = .ok (.iconst 2, 1) := by decide +kernel
theorem dL_raise_22 : decode cL_raise 22 = .ok (.ireturn, 1) := by decide +kernel
theorem dL_raise_23 : decode cL_raise 23 = .ok (.astore 5, 2) := by decide +kernel
theorem dL_raise_25 : decode cL_raise 25 = .ok (.iconst 3, 1) := by decide +kernel
theorem dL_raise_26 : decode cL_raise 26 = .ok (.ireturn, 1) := by decide +kernel
theorem dL_raise_27 : decode cL_raise 27 = .ok (.iconst 0, 1) := by decide +kernel
theorem dL_raise_28 : decode cL_raise 28 = .ok (.ireturn, 1) := by decide +kernel
set_option maxRecDepth 20000 in
theorem ggL_clear_X5_clear : GoodIn wsL_clear wsX5_clear := goodIn_ca (goodIn_ca (goodIn_ca (goodIn_r _ [6, 7, 8, 9, 10, 5, 11, 12, 13, 14, 15, 16, 17, 18, 19, 20, 21, 22, 23, 24, 25, 26, 27, 28, 29, 30, 31, 32, 33, 34, 35, 36, 37, 38, 39, 40, 41, 42, 43, 44, 45, 46, 47, 48, 49, 50, 51, 52, 53, 54, 55, 56, 57, 58, 59, 60, 61, 62, 63, 64, 65, 66, 67, 68, 69, 70, 71, 72, 73, 74, 75, 76, 77, 78, 79, 80, 81, 82, 83, 84, 85, 86, 87, 88] (by decide +kernel) (by decide +kernel)) (goodIn_sub (fun _ h => List.mem_cons_of_mem _ (List.mem_append_left _ (List.mem_append_right _ h))) (by decide +kernel))) (goodIn_sub (fun _ h => List.mem_cons_of_mem _ (List.mem_append_right _ h)) (by decide +kernel))) (goodIn_sub (fun _ h => List.mem_cons_of_mem _ (List.mem_append_left _ (List.mem_append_left _ (List.mem_append_right _ h)))) (by decide +kernel))
set_option maxRecDepth 20000 in
theorem gL_clear_X5_clear : GoodIn wsL_clear (wsV RL 23 RX5 yX5_clear wsX5_clear) := goodIn_app (goodIn_of _ (by decide +kernel)) ggL_clear_X5_clear
theorem dL_clear_0 : decode cL_clear 0 = .ok (.aload_n 3, 1) := by decide +kernel
theorem dL_clear_1 : decode cL_clear 1 = .ok (.iconst 0, 1) := by decide +kernel
theorem dL_clear_2 : decode cL_clear 2 = .ok (.aload_n 0, 1) := by decide +kernel
theorem dL_clear_3 : decode cL_clear 3 = .ok (.iload_n 1, 1) := by decide +kernel
theorem dL_clear_4 : decode cL_clear 4 = .ok (.iload_n 2, 1) := by decide +kernel
theorem dL_clear_5 : decode cL_clear 5 = .ok (.invokevirtual 23, 3) := by decide +kernel
theorem dL_clear_8 : decode cL_clear 8 = .ok (.i2l, 1) := by decide +kernel
theorem dL_clear_9 : decode cL_clear 9 = .ok (.lastore, 1) := by decide +kernel
theorem dL_clear_10 : decode cL_clear 10 = .ok (.goto 11, 3) := by decide +kernel
theorem dL_clear_13 : decode cL_clear 13 = .ok (.astore 4, 2) := by decide +kernel
theorem dL_clear_15 : decode cL_clear 15 = .ok (.iconst 1, 1) := by decide +kernel
theorem dL_clear_16 : decode cL_clear 16 = .ok (.ireturn, 1) := by decide +kernel
theorem dL_clear_17 : decode cL_clear 17 = .ok (.astore 4, 2) := by decide +kernel
theorem dL_clear_19 : decode cL_clear 19 = .ok (.iconst 2, 1) := by decide +kernel
theorem dL_clear_20 : decode cL_clear 20 = .ok (.ireturn, 1) := by decide +kernel
theorem dL_clear_21 : decode cL_clear 21 = .ok (.iconst 0, 1) := by decide +kernel
theorem dL_clear_22 : decode cL_clear 22 = .ok (.ireturn, 1) := by decide +kernel
set_option maxRecDepth 20000 in
theorem ggL_shelve_X5_shelve : GoodIn wsL_shelve wsX5_shelve := goodIn_ca (goodIn_ca (goodIn_ca (goodIn_ca (goodIn_ca (goodIn_r _ [6, 7, 8, 9, 10, 11, 12, 13, 14, 5, 15, 16, 17, 18, 19, 20, 21, 22, 23, 24, 25, 26, 27, 28, 29, 30, 31, 32, 33, 34, 35, 36, 37, 38, 39, 40, 41, 42, 43, 44, 45, 46, 47, 48, 49, 50, 51, 52, 53, 54, 55, 56, 57, 58, 59, 60, 61] (by decide +kernel) (by decide +kernel)) (goodIn_sub (fun _ h => List.mem_cons_of_mem _ (List.mem_append_left _ (List.mem_append_left _ (List.mem_append_left _ (List.mem_append_right _ h))))) (by decide +kernel))) (goodIn_sub (fun _ h => List.mem_cons_of_mem _ (List.mem_append_left _ (List.mem_append_left _ (List.mem_append_right _ h)))) (by decide +kernel))) (goodIn_sub (fun _ h => List.mem_cons_of_mem _ (List.mem_append_left _ (List.mem_append_right _ h))) (by decide +kernel))) (goodIn_sub (fun _ h => List.mem_cons_of_mem _ (List.mem_append_right _ h)) (by decide +kernel))) (goodIn_sub (fun _ h => List.mem_cons_of_mem _ (List.mem_append_left _ (List.mem_append_left _ (List.mem_append_left _ (List.mem_append_left _ (List.mem_append_right _ h)))))) (by decide +kernel))
set_option maxRecDepth 20000 in
theorem gL_shelve_X5_shelve : GoodIn wsL_shelve (wsV RL 29 RX5 yX5_shelve wsX5_shelve) := goodIn_app (goodIn_of _ (by decide +kernel)) ggL_shelve_X5_shelve
theorem dL_shelve_0 : decode cL_shelve 0 = .ok (.aload 4, 2) := by decide +kernel
theorem dL_shelve_2 : decode cL_shelve 2 = .ok (.iconst 0, 1) := by decide +kernel
theorem dL_shelve_3 : decode cL_shelve 3 = .ok (.aload_n 0, 1) := by decide +kernel
theorem dL_shelve_4 : decode cL_shelve 4 = .ok (.iload_n 1, 1) := by decide +kernel
theorem dL_shelve_5 : decode cL_shelve 5 = .ok (.iload_n 2, 1) := by decide +kernel
theorem dL_shelve_6 : decode cL_shelve 6 = .ok (.iload_n 3, 1) := by decide +kernel
theorem dL_shelve_7 : decode cL_shelve 7 = .ok (.invokevirtual 29, 3) := by decide +kernel
theorem dL_shelve_10 : decode cL_shelve 10 = .ok (.i2l, 1) := by decide +kernel
theorem dL_shelve_11 : decode cL_shelve 11 = .ok (.lastore, 1) := by decide +kernel
theorem dL_shelve_12 : decode cL_shelve 12 = .ok (.goto 19, 3) := by decide +kernel
theorem dL_shelve_15 : decode cL_shelve 15 = .ok (.astore 5, 2) := by decide +kernel
theorem dL_shelve_17 : decode cL_shelve 17 = .ok (.iconst 1, 1) := by decide +kernel
theorem dL_shelve_18 : decode cL_shelve 18 = .ok (.ireturn, 1) := by decide +kernel
theorem dL_shelve_19 : decode cL_shelve 19 = .ok (.astore 5, 2) := by decide +kernel
theorem dL_shelve_21 : decode cL_shelve 21 = .ok (.iconst 2, 1) := by decide +kernel
theorem dL_shelve_22 : decode cL_shelve 22 = .ok (.ireturn, 1) := by decide +kernel
theorem dL_shelve_23 : decode cL_shelve 23 = .ok (.astore 5, 2) := by decide +kernel
theorem dL_shelve_25 : decode cL_shelve 25 = .ok (.iconst 3, 1) := by decide +kernel
theorem dL_shelve_26 : decode cL_shelve 26 = .ok (.ireturn, 1) := by decide +kernel
theorem dL_shelve_27 : decode cL_shelve 27 = .ok (.astore 5, 2) := by decide +kernel
theorem dL_shelve_29 : decode cL_shelve 29 = .ok (.iconst 4, 1) := by decide +kernel
theorem dL_shelve_30 : decode cL_shelve 30 = .ok (.ireturn, 1) := by decide +kernel
theorem dL_shelve_31 : decode cL_shelve 31 = .ok (.iconst 0, 1) := by decide +kernel
theorem dL_shelve_32 : decode cL_shelve 32 = .ok (.ireturn, 1) := by decide +kernel
set_option maxRecDepth 20000 in
theorem ggL_isShelved_X5_isShelved : GoodIn wsL_isShelved wsX5_isShelved := goodIn_ca (goodIn_ca (goodIn_r _ [6, 7, 8, 9, 10, 5, 11, 12, 13, 14, 15, 16, 17, 18, 19, 20, 21, 22, 23, 24, 25, 26, 27, 28, 29, 30, 31, 32, 33, 34, 35, 36, 37, 38, 39, 40, 41, 42, 43, 44, 45, 46] (by decide +kernel) (by decide +kernel)) (goodIn_sub (fun _ h => List.mem_cons_of_mem _ (List.mem_append_right _ h)) (by decide +kernel))) (goodIn_sub (fun _ h => List.mem_cons_of_mem _ (List.mem_append_left _ (List.mem_append_right _ h))) (by decide +kernel))
set_option maxRecDepth 20000 in
theorem gL_isShelved_X5_isShelved : GoodIn wsL_isShelved (wsV RL 32 RX5 yX5_isShelved wsX5_isShelved) := goodIn_app (goodIn_of _ (by decide +kernel)) ggL_isShelved_X5_isShelved
theorem dL_isShelved_0 : decode cL_isShelved 0 = .ok (.aload_n 3, 1) := by decide +kernel
theorem dL_isShelved_1 : decode cL_isShelved 1 = .ok (.iconst 0, 1) := by decide +kernel
theorem dL_isShelved_2 : decode cL_isShelved 2 = .ok (.aload_n 0, 1) := by decide +kernel
theorem dL_isShelved_3 : decode cL_isShelved 3 = .ok (.iload_n 1, 1) := by decide +kernel
theorem dL_isShelved_4 : decode cL_isShelved 4 = .ok (.iload_n 2, 1) := by decide +kernel
theorem dL_isShelved_5 : decode cL_isShelved 5 = .ok (.invokevirtual 32, 3) := by decide +kernel
theorem dL_isShelved_8 : decode cL_isShelved 8 = .ok (.ifCond .eq 7, 3) := by decide +kernel
theorem dL_isShelved_11 : decode cL_isShelved 11 = .ok (.lconst 1, 1) := by decide +kernel
theorem dL_isShelved_12 : decode cL_isShelved 12 = .ok (.goto 4, 3) := by decide +kernel
theorem dL_isShelved_15 : decode cL_isShelved 15 = .ok (.lconst 0, 1) := by decide +kernel
theorem dL_isShelved_16 : decode cL_isShelved 16 = .ok (.lastore, 1) := by decide +kernel
theorem dL_isShelved_17 : decode cL_isShelved 17 = .ok (.goto 7, 3) := by decide +kernel
theorem dL_isShelved_20 : decode cL_isShelved 20 = .ok (.astore 4, 2) := by decide +kernel
theorem dL_isShelved_22 : decode cL_isShelved 22 = .ok (.iconst 1, 1) := by decide +kernel
theorem dL_isShelved_23 : decode cL_isShelved 23 = .ok (.ireturn, 1) := by decide +kernel
theorem dL_isShelved_24 : decode cL_isShelved 24 = .ok (.iconst 0, 1) := by decide +kernel
theorem dL_isShelved_25 : decode cL_isShelved 25 = .ok (.ireturn, 1) := by decide +kernel
set_option maxRecDepth 20000 in
theorem ggL_alarms_X5_alarms : GoodIn wsL_alarms wsX5_alarms := goodIn_ca (goodIn_ca (goodIn_r _ [6, 7, 8, 9, 10, 5, 11, 12, 13, 14, 15, 16, 17, 18, 19, 20, 21, 22, 23, 24, 25, 26, 27, 28, 29, 30, 31, 32, 33, 34, 35, 36, 37, 38, 39, 40, 41, 42, 43, 44, 45] (by decide +kernel) (by decide +kernel)) (goodIn_sub (fun _ h => List.mem_cons_of_mem _ (List.mem_append_right _ h)) (by decide +kernel))) (goodIn_sub (fun _ h => List.mem_cons_of_mem _ (List.mem_append_left _ (List.mem_append_right _ h))) (by decide +kernel))
set_option maxRecDepth 20000 in
theorem gL_alarms_X5_alarms : GoodIn wsL_alarms (wsV RL 36 RX5 yX5_alarms wsX5_alarms) := goodIn_app (goodIn_of _ (by decide +kernel)) ggL_alarms_X5_alarms
theorem dL_alarms_0 : decode cL_alarms 0 = .ok (.aload_n 2, 1) := by decide +kernel
theorem dL_alarms_1 : decode cL_alarms 1 = .ok (.iconst 0, 1) := by decide +kernel
theorem dL_alarms_2 : decode cL_alarms 2 = .ok (.aload_n 0, 1) := by decide +kernel
theorem dL_alarms_3 : decode cL_alarms 3 = .ok (.iload_n 1, 1) := by decide +kernel
theorem dL_alarms_4 : decode cL_alarms 4 = .ok (.invokevirtual 36, 3) := by decide +kernel
theorem dL_alarms_7 : decode cL_alarms 7 = .ok (.i2l, 1) := by decide +kernel
theorem dL_alarms_8 : decode cL_alarms 8 = .ok (.lastore, 1) := by decide +kernel
theorem dL_alarms_9 : decode cL_alarms 9 = .ok (.goto 6, 3) := by decide +kernel
theorem dL_alarms_12 : decode cL_alarms 12 = .ok (.astore_n 3, 1) := by decide +kernel
theorem dL_alarms_13 : decode cL_alarms 13 = .ok (.iconst 1, 1) := by decide +kernel
theorem dL_alarms_14 : decode cL_alarms 14 = .ok (.ireturn, 1) := by decide +kernel
theorem dL_alarms_15 : decode cL_alarms 15 = .ok (.iconst 0, 1) := by decide +kernel
theorem dL_alarms_16 : decode cL_alarms 16 = .ok (.ireturn, 1) := by decide +kernel
set_option maxRecDepth 20000 in
theorem ggL_top_X5_top : GoodIn wsL_top wsX5_top := goodIn_ca (goodIn_ca (goodIn_r _ [6, 7, 8, 9, 10, 11, 12, 13, 14, 15, 16, 17, 18, 19, 20, 21, 22, 23, 24, 25, 26, 27, 28, 29, 30, 31, 32, 33, 34, 35, 36, 37, 38, 39, 40, 41, 42, 43, 44, 45, 46, 47, 48, 49, 50, 51] (by decide +kernel) (by decide +kernel)) (goodIn_sub (fun _ h => List.mem_cons_of_mem _ (List.mem_append_right _ h)) (by decide +kernel))) (goodIn_sub (fun _ h => List.mem_cons_of_mem _ (List.mem_append_left _ (List.mem_append_right _ h))) (by decide +kernel))
set_option maxRecDepth 20000 in
theorem gL_top_X5_top : GoodIn wsL_top (wsV RL 39 RX5 yX5_top wsX5_top) := goodIn_app (goodIn_of _ (by decide +kernel)) ggL_top_X5_top
theorem dL_top_0 : decode cL_top 0 = .ok (.aload_n 1, 1) := by decide +kernel
theorem dL_top_1 : decode cL_top 1 = .ok (.iconst 0, 1) := by decide +kernel
theorem dL_top_2 : decode cL_top 2 = .ok (.aload_n 0, 1) := by decide +kernel
theorem dL_top_3 : decode cL_top 3 = .ok (.invokevirtual 39, 3) := by decide +kernel
theorem dL_top_6 : decode cL_top 6 = .ok (.i2l, 1) := by decide +kernel
theorem dL_top_7 : decode cL_top 7 = .ok (.lastore, 1) := by decide +kernel
theorem dL_top_8 : decode cL_top 8 = .ok (.goto 6, 3) := by decide +kernel
theorem dL_top_11 : decode cL_top 11 = .ok (.astore_n 2, 1) := by decide +kernel
theorem dL_top_12 : decode cL_top 12 = .ok (.iconst 1, 1) := by decide +kernel
theorem dL_top_13 : decode cL_top 13 = .ok (.ireturn, 1) := by decide +kernel
theorem dL_top_14 : decode cL_top 14 = .ok (.iconst 0, 1) := by decide +kernel
theorem dL_top_15 : decode cL_top 15 = .ok (.ireturn, 1) := by decide +kernel
set_option maxRecDepth 20000 in
theorem ggL_addProcedure_X5_addProcedure : GoodIn wsL_addProcedure wsX5_addProcedure := goodIn_ca (goodIn_r _ [6, 7, 8, 9, 10, 11, 12, 13, 14, 15, 16, 17, 18, 19, 20, 21, 22, 23, 24, 25, 26, 27, 28, 29, 30, 31, 32, 33, 34, 35, 36] (by decide +kernel) (by decide +kernel)) (goodIn_sub (fun _ h => List.mem_cons_of_mem _ (List.mem_append_right _ h)) (by decide +kernel))
set_option maxRecDepth 20000 in
theorem gL_addProcedure_X5_addProcedure : GoodIn wsL_addProcedure (wsV RL 43 RX5 yX5_addProcedure wsX5_addProcedure) := goodIn_app (goodIn_of _ (by decide +kernel)) ggL_addProcedure_X5_addProcedure
theorem dL_addProcedure_0 : decode cL_addProcedure 0 = .ok (.aload_n 1, 1) := by decide +kernel
theorem dL_addProcedure_1 : decode cL_addProcedure 1 = .ok (.iconst 0, 1) := by decide +kernel
theorem dL_addProcedure_2 : decode cL_addProcedure 2 = .ok (.aload_n 0, 1) := by decide +kernel
theorem dL_addProcedure_3 : decode cL_addProcedure 3 = .ok (.invokevirtual 43, 3) := by decide +kernel
theorem dL_addProcedure_6 : decode cL_addProcedure 6 = .ok (.i2l, 1) := by decide +kernel
theorem dL_addProcedure_7 : decode cL_addProcedure 7 = .ok (.lastore, 1) := by decide +kernel
theorem dL_addProcedure_8 : decode cL_addProcedure 8 = .ok (.goto 6, 3) := by decide +kernel
theorem dL_addProcedure_11 : decode cL_addProcedure 11 = .ok (.astore_n 2, 1) := by decide +kernel
theorem dL_addProcedure_12 : decode cL_addProcedure 12 = .ok (.iconst 1, 1) := by decide +kernel
theorem dL_addProcedure_13 : decode cL_addProcedure 13 = .ok (.ireturn, 1) := by decide +kernel
theorem dL_addProcedure_14 : decode cL_addProcedure 14 = .ok (.iconst 0, 1) := by decide +kernel
theorem dL_addProcedure_15 : decode cL_addProcedure 15 = .ok (.ireturn, 1) := by decide +kernel
set_option maxRecDepth 20000 in
theorem ggL_addStep_X5_addStep : GoodIn wsL_addStep wsX5_addStep := goodIn_ca (goodIn_ca (goodIn_ca (goodIn_ca (goodIn_ca (goodIn_r _ [6, 7, 8, 9, 10, 11, 12, 5, 13, 14, 15, 16, 17, 18, 19, 20, 21, 22, 23, 24, 25, 26, 27, 28, 29, 30, 31, 32, 33, 34, 35, 36, 37, 38, 39, 40, 41, 42, 43, 44, 45, 46, 47, 48, 49, 50, 51, 52, 53, 54, 55, 56, 57, 58, 59, 60, 61, 62, 63, 64, 65, 66, 67, 68, 69, 70, 71, 72, 73, 74, 75, 76, 77, 78, 79, 80, 81, 82, 83] (by decide +kernel) (by decide +kernel)) (goodIn_sub (fun _ h => List.mem_cons_of_mem _ (List.mem_append_left _ (List.mem_append_left _ (List.mem_append_left _ (List.mem_append_right _ h))))) (by decide +kernel))) (goodIn_sub (fun _ h => List.mem_cons_of_mem _ (List.mem_append_left _ (List.mem_append_left _ (List.mem_append_right _ h)))) (by decide +kernel))) (goodIn_sub (fun _ h => List.mem_cons_of_mem _ (List.mem_append_left _ (List.mem_append_right _ h))) (by decide +kernel))) (goodIn_sub (fun _ h => List.mem_cons_of_mem _ (List.mem_append_right _ h)) (by decide +kernel))) (goodIn_sub (fun _ h => List.mem_cons_of_mem _ (List.mem_append_left _ (List.mem_append_left _ (List.mem_append_left _ (List.mem_append_left _ (List.mem_append_right _ h)))))) (by decide +kernel))
set_option maxRecDepth 20000 in
theorem gL_addStep_X5_addStep : GoodIn wsL_addStep (wsV RL 46 RX5 yX5_addStep wsX5_addStep) := goodIn_app (goodIn_of _ (by decide +kernel)) ggL_addStep_X5_addStep
theorem dL_addStep_0 : decode cL_addStep 0 = .ok (.aload 6, 2) := by decide +kernel
theorem dL_addStep_2 : decode cL_addStep 2 = .ok (.iconst 0, 1) := by decide +kernel
theorem dL_addStep_3 : decode cL_addStep 3 = .ok (.aload_n 0, 1) := by decide +kernel
theorem dL_addStep_4 : decode cL_addStep 4 = .ok (.iload_n 1, 1) := by decide +kernel
theorem dL_addStep_5 : decode cL_addStep 5 = .ok (.iload_n 2, 1) := by decide +kernel
theorem dL_addStep_6 : decode cL_addStep 6 = .ok (.iload_n 3, 1) := by decide +kernel
theorem dL_addStep_7 : decode cL_addStep 7 = .ok (.iload 4, 2) := by decide +kernel
theorem dL_addStep_9 : decode cL_addStep 9 = .ok (.iload 5, 2) := by decide +kernel
theorem dL_addStep_11 : decode cL_addStep 11 = .ok (.invokevirtual 46, 3) := by decide +kernel
theorem dL_addStep_14 : decode cL_addStep 14 = .ok (.i2l, 1) := by decide +kernel
theorem dL_addStep_15 : decode cL_addStep 15 = .ok (.lastore, 1) := by decide +kernel
theorem dL_addStep_16 : decode cL_addStep 16 = .ok (.goto 19, 3) := by decide +kernel
theorem dL_addStep_19 : decode cL_addStep 19 = .ok (.astore 7, 2) := by decide +kernel
theorem dL_addStep_21 : decode cL_addStep 21 = .ok (.iconst 1, 1) := by decide +kernel
theorem dL_addStep_22 : decode cL_addStep 22 = .ok (.ireturn, 1) := by decide +kernel
theorem dL_addStep_23 : decode cL_addStep 23 = .ok (.astore 7, 2) := by decide +kernel
theorem dL_addStep_25 : decode cL_addStep 25 = .ok (.iconst 2, 1) := by decide +kernel
theorem dL_addStep_26 : decode cL_addStep 26 = .ok (.ireturn, 1) := by decide +kernel
theorem dL_addStep_27 : decode cL_addStep 27 = .ok (.astore 7, 2) := by decide +kernel
theorem dL_addStep_29 : decode cL_addStep 29 = .ok (.iconst 3, 1) := by decide +kernel
theorem dL_addStep_30 : decode cL_addStep 30 = .ok (.ireturn, 1) := by decide +kernel
theorem dL_addStep_31 : decode cL_addStep 31 = .ok (.astore 7, 2) := by decide +kernel
theorem dL_addStep_33 : decode cL_addStep 33 = .ok (.iconst 4, 1) := by decide +kernel
theorem dL_addStep_34 : decode cL_addStep 34 = .ok (.ireturn, 1) := by decide +kernel
theorem dL_addStep_35 : decode cL_addStep 35 = .ok (.iconst 0, 1) := by decide +kernel
theorem dL_addStep_36 : decode cL_addStep 36 = .ok (.ireturn, 1) := by decide +kernel
set_option maxRecDepth 20000 in
theorem ggL_done_X5_done : GoodIn wsL_done wsX5_done := goodIn_ca (goodIn_ca (goodIn_r _ [6, 7, 8, 9, 10, 5, 11, 12, 13, 14, 15, 16, 17, 18, 19, 20, 21, 22, 23, 24, 25, 26, 27, 28, 29, 30, 31, 32, 33, 34, 35, 36, 37, 38, 39, 40, 41, 42] (by decide +kernel) (by decide +kernel)) (goodIn_sub (fun _ h => List.mem_cons_of_mem _ (List.mem_append_right _ h)) (by decide +kernel))) (goodIn_sub (fun _ h => List.mem_cons_of_mem _ (List.mem_append_left _ (List.mem_append_right _ h))) (by decide +kernel))
set_option maxRecDepth 20000 in
theorem gL_done_X5_done : GoodIn wsL_done (wsV RL 50 RX5 yX5_done wsX5_done) := goodIn_app (goodIn_of _ (by decide +kernel)) ggL_done_X5_done
theorem dL_done_0 : decode cL_done 0 = .ok (.aload_n 2, 1) := by decide +kernel
theorem dL_done_1 : decode cL_done 1 = .ok (.iconst 0, 1) := by decide +kernel
theorem dL_done_2 : decode cL_done 2 = .ok (.aload_n 0, 1) := by decide +kernel
theorem dL_done_3 : decode cL_done 3 = .ok (.iload_n 1, 1) := by decide +kernel
theorem dL_done_4 : decode cL_done 4 = .ok (.invokevirtual 50, 3) := by decide +kernel
theorem dL_done_7 : decode cL_done 7 = .ok (.i2l, 1) := by decide +kernel
theorem dL_done_8 : decode cL_done 8 = .ok (.lastore, 1) := by decide +kernel
theorem dL_done_9 : decode cL_done 9 = .ok (.goto 6, 3) := by decide +kernel
theorem dL_done_12 : decode cL_done 12 = .ok (.astore_n 3, 1) := by decide +kernel
theorem dL_done_13 : decode cL_done 13 = .ok (.iconst 1, 1) := by decide +kernel
theorem dL_done_14 : decode cL_done 14 = .ok (.ireturn, 1) := by decide +kernel
theorem dL_done_15 : decode cL_done 15 = .ok (.iconst 0, 1) := by decide +kernel
theorem dL_done_16 : decode cL_done 16 = .ok (.ireturn, 1) := by decide +kernel
set_option maxRecDepth 20000 in
theorem ggL_reason_X5_reason : GoodIn wsL_reason wsX5_reason := goodIn_ca (goodIn_ca (goodIn_r _ [6, 7, 8, 9, 5, 10, 11, 12, 13, 14, 15, 16, 17, 18, 19, 20, 21, 22, 23, 24, 25, 26, 27, 28, 29, 30, 31, 32, 33, 34, 35, 36, 37, 38, 39, 40, 41, 42, 43, 44, 45, 46, 47, 48, 49, 50, 51, 52, 53, 54, 55, 56, 57, 58, 59, 60, 61, 62, 63, 64, 65, 66, 67, 68, 69, 70, 71, 72, 73, 74, 75, 76, 77, 78, 79, 80, 81, 82, 83, 84, 85, 86, 87, 88, 89, 90, 91, 92, 93, 94, 95, 96, 97, 98, 99, 100, 101, 102, 103, 104, 105, 106, 107, 108, 109, 110, 111, 112, 113, 114, 115, 116, 117, 118, 119, 120, 121, 122, 123, 124, 125] (by decide +kernel) (by decide +kernel)) (goodIn_sub (fun _ h => List.mem_cons_of_mem _ (List.mem_append_right _ h)) (by decide +kernel))) (goodIn_sub (fun _ h => List.mem_cons_of_mem _ (List.mem_append_left _ (List.mem_append_right _ h))) (by decide +kernel))
set_option maxRecDepth 20000 in
theorem gL_reason_X5_reason : GoodIn wsL_reason (wsV RL 53 RX5 yX5_reason wsX5_reason) := goodIn_app (goodIn_of _ (by decide +kernel)) ggL_reason_X5_reason
theorem dL_reason_0 : decode cL_reason 0 = .ok (.aload_n 2, 1) := by decide +kernel
theorem dL_reason_1 : decode cL_reason 1 = .ok (.iconst 0, 1) := by decide +kernel
theorem dL_reason_2 : decode cL_reason 2 = .ok (.aload_n 0, 1) := by decide +kernel
theorem dL_reason_3 : decode cL_reason 3 = .ok (.iload_n 1, 1) := by decide +kernel
theorem dL_reason_4 : decode cL_reason 4 = .ok (.invokevirtual 53, 3) := by decide +kernel
theorem dL_reason_7 : decode cL_reason 7 = .ok (.i2l, 1) := by decide +kernel
theorem dL_reason_8 : decode cL_reason 8 = .ok (.lastore, 1) := by decide +kernel
theorem dL_reason_9 : decode cL_reason 9 = .ok (.goto 6, 3) := by decide +kernel
theorem dL_reason_12 : decode cL_reason 12 = .ok (.astore_n 3, 1) := by decide +kernel
theorem dL_reason_13 : decode cL_reason 13 = .ok (.iconst 1, 1) := by decide +kernel
theorem dL_reason_14 : decode cL_reason 14 = .ok (.ireturn, 1) := by decide +kernel
theorem dL_reason_15 : decode cL_reason 15 = .ok (.iconst 0, 1) := by decide +kernel
theorem dL_reason_16 : decode cL_reason 16 = .ok (.ireturn, 1) := by decide +kernel
set_option maxRecDepth 20000 in
theorem ggL_barredBy_X5_barredBy : GoodIn wsL_barredBy wsX5_barredBy := goodIn_ca (goodIn_ca (goodIn_r _ [6, 7, 8, 9, 10, 11, 12, 13, 5, 14, 15, 16, 17, 18, 19, 20, 21, 22, 23, 24, 25, 26, 27, 28, 29, 30, 31, 32, 33, 34, 35, 36, 37, 38, 39, 40, 41, 42, 43, 44, 45, 46, 47, 48, 49, 50, 51, 52, 53, 54, 55, 56, 57, 58, 59, 60, 61, 62, 63, 64, 65, 66, 67, 68, 69, 70, 71, 72, 73, 74, 75, 76, 77, 78, 79, 80, 81, 82, 83, 84, 85, 86, 87, 88] (by decide +kernel) (by decide +kernel)) (goodIn_sub (fun _ h => List.mem_cons_of_mem _ (List.mem_append_right _ h)) (by decide +kernel))) (goodIn_sub (fun _ h => List.mem_cons_of_mem _ (List.mem_append_left _ (List.mem_append_right _ h))) (by decide +kernel))
set_option maxRecDepth 20000 in
theorem gL_barredBy_X5_barredBy : GoodIn wsL_barredBy (wsV RL 57 RX5 yX5_barredBy wsX5_barredBy) := goodIn_app (goodIn_of _ (by decide +kernel)) ggL_barredBy_X5_barredBy
theorem dL_barredBy_0 : decode cL_barredBy 0 = .ok (.aload_n 2, 1) := by decide +kernel
theorem dL_barredBy_1 : decode cL_barredBy 1 = .ok (.iconst 0, 1) := by decide +kernel
theorem dL_barredBy_2 : decode cL_barredBy 2 = .ok (.aload_n 0, 1) := by decide +kernel
theorem dL_barredBy_3 : decode cL_barredBy 3 = .ok (.iload_n 1, 1) := by decide +kernel
theorem dL_barredBy_4 : decode cL_barredBy 4 = .ok (.invokevirtual 57, 3) := by decide +kernel
theorem dL_barredBy_7 : decode cL_barredBy 7 = .ok (.i2l, 1) := by decide +kernel
theorem dL_barredBy_8 : decode cL_barredBy 8 = .ok (.lastore, 1) := by decide +kernel
theorem dL_barredBy_9 : decode cL_barredBy 9 = .ok (.goto 6, 3) := by decide +kernel
theorem dL_barredBy_12 : decode cL_barredBy 12 = .ok (.astore_n 3, 1) := by decide +kernel
theorem dL_barredBy_13 : decode cL_barredBy 13 = .ok (.iconst 1, 1) := by decide +kernel
theorem dL_barredBy_14 : decode cL_barredBy 14 = .ok (.ireturn, 1) := by decide +kernel
theorem dL_barredBy_15 : decode cL_barredBy 15 = .ok (.iconst 0, 1) := by decide +kernel
theorem dL_barredBy_16 : decode cL_barredBy 16 = .ok (.ireturn, 1) := by decide +kernel
set_option maxRecDepth 20000 in
theorem ggL_step_X5_step : GoodIn wsL_step wsX5_step := goodIn_ca (goodIn_ca (goodIn_ca (goodIn_r _ [6, 7, 8, 9, 10, 11, 12, 13, 5, 14, 15, 16, 17, 18, 19, 20, 21, 22, 23, 24, 25, 26, 27, 28, 29, 30, 31, 32, 33, 34, 35, 36, 37, 38, 39, 40, 41, 42, 43, 44, 45, 46, 47, 48, 49, 50, 51, 52, 53, 54, 55, 56, 57, 58, 59, 60, 61, 62, 63, 64, 65, 66, 67, 68, 69, 70, 71, 72, 73, 74, 75, 76, 77, 78, 79, 80, 81, 82, 83, 84, 85, 86, 87, 88, 89, 90, 91, 92, 93, 94, 95, 96, 97, 98, 99, 100, 101, 102, 103, 104, 105, 106, 107, 108, 109, 110, 111, 112, 113, 114, 115, 116, 117, 118, 119, 120, 121, 122, 123, 124, 125, 126, 127, 128, 129, 130, 131, 132, 133, 134, 135, 136, 137, 138, 139, 140, 141, 142, 143, 144, 145, 146, 147, 148, 149, 150, 151, 152, 153, 154, 155, 156, 157, 158, 159, 160, 161, 162, 163, 164, 165, 166, 167, 168, 169, 170, 171, 172, 173, 174, 175, 176, 177, 178, 179, 180, 181, 182, 183, 184, 185, 186, 187, 188, 189, 190, 191, 192, 193, 194, 195, 196, 197, 198, 199] (by decide +kernel) (by decide +kernel)) (goodIn_sub (fun _ h => List.mem_cons_of_mem _ (List.mem_append_left _ (List.mem_append_right _ h))) (by decide +kernel))) (goodIn_sub (fun _ h => List.mem_cons_of_mem _ (List.mem_append_right _ h)) (by decide +kernel))) (goodIn_sub (fun _ h => List.mem_cons_of_mem _ (List.mem_append_left _ (List.mem_append_left _ (List.mem_append_right _ h)))) (by decide +kernel))
set_option maxRecDepth 20000 in
theorem gL_step_X5_step : GoodIn wsL_step (wsV RL 60 RX5 yX5_step wsX5_step) := goodIn_app (goodIn_of _ (by decide +kernel)) ggL_step_X5_step
theorem dL_step_0 : decode cL_step 0 = .ok (.aload_n 2, 1) := by decide +kernel
theorem dL_step_1 : decode cL_step 1 = .ok (.iconst 0, 1) := by decide +kernel
theorem dL_step_2 : decode cL_step 2 = .ok (.aload_n 0, 1) := by decide +kernel
theorem dL_step_3 : decode cL_step 3 = .ok (.iload_n 1, 1) := by decide +kernel
theorem dL_step_4 : decode cL_step 4 = .ok (.invokevirtual 60, 3) := by decide +kernel
theorem dL_step_7 : decode cL_step 7 = .ok (.i2l, 1) := by decide +kernel
theorem dL_step_8 : decode cL_step 8 = .ok (.lastore, 1) := by decide +kernel
theorem dL_step_9 : decode cL_step 9 = .ok (.goto 9, 3) := by decide +kernel
theorem dL_step_12 : decode cL_step 12 = .ok (.astore_n 3, 1) := by decide +kernel
theorem dL_step_13 : decode cL_step 13 = .ok (.iconst 1, 1) := by decide +kernel
theorem dL_step_14 : decode cL_step 14 = .ok (.ireturn, 1) := by decide +kernel
theorem dL_step_15 : decode cL_step 15 = .ok (.astore_n 3, 1) := by decide +kernel
theorem dL_step_16 : decode cL_step 16 = .ok (.iconst 2, 1) := by decide +kernel
theorem dL_step_17 : decode cL_step 17 = .ok (.ireturn, 1) := by decide +kernel
theorem dL_step_18 : decode cL_step 18 = .ok (.iconst 0, 1) := by decide +kernel
theorem dL_step_19 : decode cL_step 19 = .ok (.ireturn, 1) := by decide +kernel
set_option maxRecDepth 20000 in
theorem ggL_undo_X5_undo : GoodIn wsL_undo wsX5_undo := goodIn_ca (goodIn_ca (goodIn_ca (goodIn_ca (goodIn_r _ [6, 7, 8, 9, 10, 11, 12, 13, 14, 15, 16, 17, 5, 18, 19, 20, 21, 22, 23, 24, 25, 26, 27, 28, 29, 30, 31, 32, 33, 34, 35, 36, 37, 38, 39, 40, 41, 42, 43, 44, 45, 46, 47, 48, 49, 50, 51, 52, 53, 54, 55, 56, 57, 58, 59, 60, 61, 62, 63, 64, 65, 66, 67, 68, 69, 70, 71, 72, 73, 74, 75, 76, 77, 78, 79, 80, 81, 82, 83, 84, 85, 86, 87, 88, 89, 90, 91, 92, 93, 94, 95, 96, 97, 98, 99, 100, 101, 102, 103, 104, 105, 106, 107, 108, 109, 110, 111, 112, 113, 114, 115, 116, 117, 118, 119, 120, 121, 122, 123, 124, 125, 126, 127, 128, 129, 130, 131, 132, 133, 134, 135, 136, 137, 138, 139, 140, 141, 142, 143, 144, 145, 146, 147, 148, 149, 150, 151, 152, 153, 154, 155, 156, 157, 158, 159, 160, 161, 162, 163, 164, 165, 166, 167, 168] (by decide +kernel) (by decide +kernel)) (goodIn_sub (fun _ h => List.mem_cons_of_mem _ (List.mem_append_left _ (List.mem_append_left _ (List.mem_append_right _ h)))) (by decide +kernel))) (goodIn_sub (fun _ h => List.mem_cons_of_mem _ (List.mem_append_left _ (List.mem_append_right _ h))) (by decide +kernel))) (goodIn_sub (fun _ h => List.mem_cons_of_mem _ (List.mem_append_right _ h)) (by decide +kernel))) (goodIn_sub (fun _ h => List.mem_cons_of_mem _ (List.mem_append_left _ (List.mem_append_left _ (List.mem_append_left _ (List.mem_append_right _ h))))) (by decide +kernel))
set_option maxRecDepth 20000 in
theorem gL_undo_X5_undo : GoodIn wsL_undo (wsV RL 63 RX5 yX5_undo wsX5_undo) := goodIn_app (goodIn_of _ (by decide +kernel)) ggL_undo_X5_undo
theorem dL_undo_0 : decode cL_undo 0 = .ok (.aload_n 2, 1) := by decide +kernel
theorem dL_undo_1 : decode cL_undo 1 = .ok (.iconst 0, 1) := by decide +kernel
theorem dL_undo_2 : decode cL_undo 2 = .ok (.aload_n 0, 1) := by decide +kernel
theorem dL_undo_3 : decode cL_undo 3 = .ok (.iload_n 1, 1) := by decide +kernel
theorem dL_undo_4 : decode cL_undo 4 = .ok (.invokevirtual 63, 3) := by decide +kernel
theorem dL_undo_7 : decode cL_undo 7 = .ok (.i2l, 1) := by decide +kernel
theorem dL_undo_8 : decode cL_undo 8 = .ok (.lastore, 1) := by decide +kernel
theorem dL_undo_9 : decode cL_undo 9 = .ok (.goto 12, 3) := by decide +kernel
theorem dL_undo_12 : decode cL_undo 12 = .ok (.astore_n 3, 1) := by decide +kernel
theorem dL_undo_13 : decode cL_undo 13 = .ok (.iconst 1, 1) := by decide +kernel
theorem dL_undo_14 : decode cL_undo 14 = .ok (.ireturn, 1) := by decide +kernel
theorem dL_undo_15 : decode cL_undo 15 = .ok (.astore_n 3, 1) := by decide +kernel
theorem dL_undo_16 : decode cL_undo 16 = .ok (.iconst 2, 1) := by decide +kernel
theorem dL_undo_17 : decode cL_undo 17 = .ok (.ireturn, 1) := by decide +kernel
theorem dL_undo_18 : decode cL_undo 18 = .ok (.astore_n 3, 1) := by decide +kernel
theorem dL_undo_19 : decode cL_undo 19 = .ok (.iconst 3, 1) := by decide +kernel
theorem dL_undo_20 : decode cL_undo 20 = .ok (.ireturn, 1) := by decide +kernel
theorem dL_undo_21 : decode cL_undo 21 = .ok (.iconst 0, 1) := by decide +kernel
theorem dL_undo_22 : decode cL_undo 22 = .ok (.ireturn, 1) := by decide +kernel
set_option maxRecDepth 20000 in
theorem ggL_reset_X5_reset : GoodIn wsL_reset wsX5_reset := goodIn_ca (goodIn_ca (goodIn_ca (goodIn_r _ [6, 7, 8, 9, 10, 5, 11, 12, 13, 14, 15, 16, 17, 18, 19, 20, 21, 22, 23, 24, 25, 26, 27, 28, 29, 30, 31, 32, 33, 34, 35, 36, 37, 38, 39, 40, 41, 42, 43, 44, 45, 46, 47, 48, 49, 50, 51, 52, 53, 54, 55, 56, 57, 58, 59, 60, 61, 62, 63, 64, 65, 66, 67, 68, 69, 70, 71, 72, 73, 74, 75, 76, 77, 78, 79, 80, 81, 82, 83, 84, 85, 86, 87, 88, 89, 90, 91, 92, 93, 94, 95, 96, 97, 98, 99, 100, 101, 102, 103, 104, 105, 106, 107, 108, 109, 110, 111, 112, 113, 114, 115, 116, 117, 118, 119, 120, 121, 122, 123, 124, 125, 126] (by decide +kernel) (by decide +kernel)) (goodIn_sub (fun _ h => List.mem_cons_of_mem _ (List.mem_append_left _ (List.mem_append_right _ h))) (by decide +kernel))) (goodIn_sub (fun _ h => List.mem_cons_of_mem _ (List.mem_append_right _ h)) (by decide +kernel))) (goodIn_sub (fun _ h => List.mem_cons_of_mem _ (List.mem_append_left _ (List.mem_append_left _ (List.mem_append_right _ h)))) (by decide +kernel))
set_option maxRecDepth 20000 in
theorem gL_reset_X5_reset : GoodIn wsL_reset (wsV RL 68 RX5 yX5_reset wsX5_reset) := goodIn_app (goodIn_of _ (by decide +kernel)) ggL_reset_X5_reset
theorem dL_reset_0 : decode cL_reset 0 = .ok (.aload_n 2, 1) := by decide +kernel
theorem dL_reset_1 : decode cL_reset 1 = .ok (.iconst 0, 1) := by decide +kernel
theorem dL_reset_2 : decode cL_reset 2 = .ok (.aload_n 0, 1) := by decide +kernel
theorem dL_reset_3 : decode cL_reset 3 = .ok (.iload_n 1, 1) := by decide +kernel
theorem dL_reset_4 : decode cL_reset 4 = .ok (.invokevirtual 68, 3) := by decide +kernel
theorem dL_reset_7 : decode cL_reset 7 = .ok (.i2l, 1) := by decide +kernel
theorem dL_reset_8 : decode cL_reset 8 = .ok (.lastore, 1) := by decide +kernel
theorem dL_reset_9 : decode cL_reset 9 = .ok (.goto 9, 3) := by decide +kernel
theorem dL_reset_12 : decode cL_reset 12 = .ok (.astore_n 3, 1) := by decide +kernel
theorem dL_reset_13 : decode cL_reset 13 = .ok (.iconst 1, 1) := by decide +kernel
theorem dL_reset_14 : decode cL_reset 14 = .ok (.ireturn, 1) := by decide +kernel
theorem dL_reset_15 : decode cL_reset 15 = .ok (.astore_n 3, 1) := by decide +kernel
theorem dL_reset_16 : decode cL_reset 16 = .ok (.iconst 2, 1) := by decide +kernel
theorem dL_reset_17 : decode cL_reset 17 = .ok (.ireturn, 1) := by decide +kernel
theorem dL_reset_18 : decode cL_reset 18 = .ok (.iconst 0, 1) := by decide +kernel
theorem dL_reset_19 : decode cL_reset 19 = .ok (.ireturn, 1) := by decide +kernel
set_option maxRecDepth 20000 in
theorem ggL_drill_X5_drill : GoodIn wsL_drill wsX5_drill := goodIn_ca (goodIn_ca (goodIn_r _ [6, 7, 8, 9, 10, 11, 12, 13, 14, 15, 16, 17, 18, 19, 20, 21, 22, 23, 5, 24, 25, 26, 27, 28, 29, 30, 31, 32, 33, 34, 35, 36, 37, 38, 39, 40, 41, 42, 43, 44, 45, 46, 47, 48, 49, 50, 51] (by decide +kernel) (by decide +kernel)) (goodIn_sub (fun _ h => List.mem_cons_of_mem _ (List.mem_append_right _ h)) (by decide +kernel))) (goodIn_sub (fun _ h => List.mem_cons_of_mem _ (List.mem_append_left _ (List.mem_append_right _ h))) (by decide +kernel))
set_option maxRecDepth 20000 in
theorem gL_drill_X5_drill : GoodIn wsL_drill (wsV RL 71 RX5 yX5_drill wsX5_drill) := goodIn_app (goodIn_of _ (by decide +kernel)) ggL_drill_X5_drill
theorem dL_drill_0 : decode cL_drill 0 = .ok (.aload_n 1, 1) := by decide +kernel
theorem dL_drill_1 : decode cL_drill 1 = .ok (.iconst 0, 1) := by decide +kernel
theorem dL_drill_2 : decode cL_drill 2 = .ok (.aload_n 0, 1) := by decide +kernel
theorem dL_drill_3 : decode cL_drill 3 = .ok (.invokevirtual 71, 3) := by decide +kernel
theorem dL_drill_6 : decode cL_drill 6 = .ok (.i2l, 1) := by decide +kernel
theorem dL_drill_7 : decode cL_drill 7 = .ok (.lastore, 1) := by decide +kernel
theorem dL_drill_8 : decode cL_drill 8 = .ok (.goto 6, 3) := by decide +kernel
theorem dL_drill_11 : decode cL_drill 11 = .ok (.astore_n 2, 1) := by decide +kernel
theorem dL_drill_12 : decode cL_drill 12 = .ok (.iconst 1, 1) := by decide +kernel
theorem dL_drill_13 : decode cL_drill 13 = .ok (.ireturn, 1) := by decide +kernel
theorem dL_drill_14 : decode cL_drill 14 = .ok (.iconst 0, 1) := by decide +kernel
theorem dL_drill_15 : decode cL_drill 15 = .ok (.ireturn, 1) := by decide +kernel
set_option maxRecDepth 20000 in
theorem ggL_openPermit_X5_openPermit : GoodIn wsL_openPermit wsX5_openPermit := goodIn_ca (goodIn_ca (goodIn_ca (goodIn_ca (goodIn_r _ [6, 7, 8, 9, 10, 11, 12, 13, 14, 15, 16, 17, 18, 19, 5, 20, 21, 22, 23, 24, 25, 26, 27, 28, 29, 30, 31, 32, 33, 34, 35, 36, 37, 38, 39, 40, 41, 42, 43, 44, 45, 46, 47, 48, 49, 50, 51, 52, 53, 54, 55, 56, 57, 58, 59, 60, 61, 62, 63, 64, 65, 66, 67, 68, 69, 70, 71, 72, 73, 74, 75, 76, 77, 78, 79, 80, 81, 82, 83, 84, 85, 86, 87, 88, 89, 90, 91, 92, 93, 94, 95, 96, 97, 98, 99, 100, 101, 102, 103, 104, 105, 106, 107, 108, 109, 110] (by decide +kernel) (by decide +kernel)) (goodIn_sub (fun _ h => List.mem_cons_of_mem _ (List.mem_append_left _ (List.mem_append_left _ (List.mem_append_right _ h)))) (by decide +kernel))) (goodIn_sub (fun _ h => List.mem_cons_of_mem _ (List.mem_append_left _ (List.mem_append_right _ h))) (by decide +kernel))) (goodIn_sub (fun _ h => List.mem_cons_of_mem _ (List.mem_append_right _ h)) (by decide +kernel))) (goodIn_sub (fun _ h => List.mem_cons_of_mem _ (List.mem_append_left _ (List.mem_append_left _ (List.mem_append_left _ (List.mem_append_right _ h))))) (by decide +kernel))
set_option maxRecDepth 20000 in
theorem gL_openPermit_X5_openPermit : GoodIn wsL_openPermit (wsV RL 74 RX5 yX5_openPermit wsX5_openPermit) := goodIn_app (goodIn_of _ (by decide +kernel)) ggL_openPermit_X5_openPermit
theorem dL_openPermit_0 : decode cL_openPermit 0 = .ok (.aload_n 2, 1) := by decide +kernel
theorem dL_openPermit_1 : decode cL_openPermit 1 = .ok (.iconst 0, 1) := by decide +kernel
theorem dL_openPermit_2 : decode cL_openPermit 2 = .ok (.aload_n 0, 1) := by decide +kernel
theorem dL_openPermit_3 : decode cL_openPermit 3 = .ok (.iload_n 1, 1) := by decide +kernel
theorem dL_openPermit_4 : decode cL_openPermit 4 = .ok (.invokevirtual 74, 3) := by decide +kernel
theorem dL_openPermit_7 : decode cL_openPermit 7 = .ok (.i2l, 1) := by decide +kernel
theorem dL_openPermit_8 : decode cL_openPermit 8 = .ok (.lastore, 1) := by decide +kernel
theorem dL_openPermit_9 : decode cL_openPermit 9 = .ok (.goto 12, 3) := by decide +kernel
theorem dL_openPermit_12 : decode cL_openPermit 12 = .ok (.astore_n 3, 1) := by decide +kernel
theorem dL_openPermit_13 : decode cL_openPermit 13 = .ok (.iconst 1, 1) := by decide +kernel
theorem dL_openPermit_14 : decode cL_openPermit 14 = .ok (.ireturn, 1) := by decide +kernel
theorem dL_openPermit_15 : decode cL_openPermit 15 = .ok (.astore_n 3, 1) := by decide +kernel
theorem dL_openPermit_16 : decode cL_openPermit 16 = .ok (.iconst 2, 1) := by decide +kernel
theorem dL_openPermit_17 : decode cL_openPermit 17 = .ok (.ireturn, 1) := by decide +kernel
theorem dL_openPermit_18 : decode cL_openPermit 18 = .ok (.astore_n 3, 1) := by decide +kernel
theorem dL_openPermit_19 : decode cL_openPermit 19 = .ok (.iconst 3, 1) := by decide +kernel
theorem dL_openPermit_20 : decode cL_openPermit 20 = .ok (.ireturn, 1) := by decide +kernel
theorem dL_openPermit_21 : decode cL_openPermit 21 = .ok (.iconst 0, 1) := by decide +kernel
theorem dL_openPermit_22 : decode cL_openPermit 22 = .ok (.ireturn, 1) := by decide +kernel
set_option maxRecDepth 20000 in
theorem ggL_closePermit_X5_closePermit : GoodIn wsL_closePermit wsX5_closePermit := goodIn_ca (goodIn_ca (goodIn_ca (goodIn_r _ [6, 7, 8, 9, 10, 11, 12, 13, 5, 14, 15, 16, 17, 18, 19, 20, 21, 22, 23, 24, 25, 26, 27, 28, 29, 30, 31, 32, 33, 34, 35, 36, 37, 38, 39, 40, 41, 42, 43, 44, 45, 46, 47, 48, 49, 50, 51, 52, 53, 54, 55, 56, 57, 58, 59, 60, 61, 62, 63, 64, 65, 66, 67, 68, 69, 70, 71, 72, 73, 74, 75, 76, 77, 78, 79, 80, 81, 82, 83, 84, 85, 86, 87, 88, 89, 90, 91, 92, 93, 94, 95] (by decide +kernel) (by decide +kernel)) (goodIn_sub (fun _ h => List.mem_cons_of_mem _ (List.mem_append_left _ (List.mem_append_right _ h))) (by decide +kernel))) (goodIn_sub (fun _ h => List.mem_cons_of_mem _ (List.mem_append_right _ h)) (by decide +kernel))) (goodIn_sub (fun _ h => List.mem_cons_of_mem _ (List.mem_append_left _ (List.mem_append_left _ (List.mem_append_right _ h)))) (by decide +kernel))
set_option maxRecDepth 20000 in
theorem gL_closePermit_X5_closePermit : GoodIn wsL_closePermit (wsV RL 77 RX5 yX5_closePermit wsX5_closePermit) := goodIn_app (goodIn_of _ (by decide +kernel)) ggL_closePermit_X5_closePermit
theorem dL_closePermit_0 : decode cL_closePermit 0 = .ok (.aload_n 2, 1) := by decide +kernel
theorem dL_closePermit_1 : decode cL_closePermit 1 = .ok (.iconst 0, 1) := by decide +kernel
theorem dL_closePermit_2 : decode cL_closePermit 2 = .ok (.aload_n 0, 1) := by decide +kernel
theorem dL_closePermit_3 : decode cL_closePermit 3 = .ok (.iload_n 1, 1) := by decide +kernel
theorem dL_closePermit_4 : decode cL_closePermit 4 = .ok (.invokevirtual 77, 3) := by decide +kernel
theorem dL_closePermit_7 : decode cL_closePermit 7 = .ok (.i2l, 1) := by decide +kernel
theorem dL_closePermit_8 : decode cL_closePermit 8 = .ok (.lastore, 1) := by decide +kernel
theorem dL_closePermit_9 : decode cL_closePermit 9 = .ok (.goto 9, 3) := by decide +kernel
theorem dL_closePermit_12 : decode cL_closePermit 12 = .ok (.astore_n 3, 1) := by decide +kernel
theorem dL_closePermit_13 : decode cL_closePermit 13 = .ok (.iconst 1, 1) := by decide +kernel
theorem dL_closePermit_14 : decode cL_closePermit 14 = .ok (.ireturn, 1) := by decide +kernel
theorem dL_closePermit_15 : decode cL_closePermit 15 = .ok (.astore_n 3, 1) := by decide +kernel
theorem dL_closePermit_16 : decode cL_closePermit 16 = .ok (.iconst 2, 1) := by decide +kernel
theorem dL_closePermit_17 : decode cL_closePermit 17 = .ok (.ireturn, 1) := by decide +kernel
theorem dL_closePermit_18 : decode cL_closePermit 18 = .ok (.iconst 0, 1) := by decide +kernel
theorem dL_closePermit_19 : decode cL_closePermit 19 = .ok (.ireturn, 1) := by decide +kernel
set_option maxRecDepth 20000 in
theorem ggL_isPermitOpen_X5_isPermitOpen : GoodIn wsL_isPermitOpen wsX5_isPermitOpen := goodIn_ca (goodIn_ca (goodIn_r _ [6, 7, 8, 9, 10, 5, 11, 12, 13, 14, 15, 16, 17, 18, 19, 20, 21, 22, 23, 24, 25, 26, 27, 28, 29, 30, 31, 32, 33, 34, 35, 36] (by decide +kernel) (by decide +kernel)) (goodIn_sub (fun _ h => List.mem_cons_of_mem _ (List.mem_append_right _ h)) (by decide +kernel))) (goodIn_sub (fun _ h => List.mem_cons_of_mem _ (List.mem_append_left _ (List.mem_append_right _ h))) (by decide +kernel))
set_option maxRecDepth 20000 in
theorem gL_isPermitOpen_X5_isPermitOpen : GoodIn wsL_isPermitOpen (wsV RL 80 RX5 yX5_isPermitOpen wsX5_isPermitOpen) := goodIn_app (goodIn_of _ (by decide +kernel)) ggL_isPermitOpen_X5_isPermitOpen
theorem dL_isPermitOpen_0 : decode cL_isPermitOpen 0 = .ok (.aload_n 2, 1) := by decide +kernel
theorem dL_isPermitOpen_1 : decode cL_isPermitOpen 1 = .ok (.iconst 0, 1) := by decide +kernel
theorem dL_isPermitOpen_2 : decode cL_isPermitOpen 2 = .ok (.aload_n 0, 1) := by decide +kernel
theorem dL_isPermitOpen_3 : decode cL_isPermitOpen 3 = .ok (.iload_n 1, 1) := by decide +kernel
theorem dL_isPermitOpen_4 : decode cL_isPermitOpen 4 = .ok (.invokevirtual 80, 3) := by decide +kernel
theorem dL_isPermitOpen_7 : decode cL_isPermitOpen 7 = .ok (.ifCond .eq 7, 3) := by decide +kernel
theorem dL_isPermitOpen_10 : decode cL_isPermitOpen 10 = .ok (.lconst 1, 1) := by decide +kernel
theorem dL_isPermitOpen_11 : decode cL_isPermitOpen 11 = .ok (.goto 4, 3) := by decide +kernel
theorem dL_isPermitOpen_14 : decode cL_isPermitOpen 14 = .ok (.lconst 0, 1) := by decide +kernel
theorem dL_isPermitOpen_15 : decode cL_isPermitOpen 15 = .ok (.lastore, 1) := by decide +kernel
theorem dL_isPermitOpen_16 : decode cL_isPermitOpen 16 = .ok (.goto 6, 3) := by decide +kernel
theorem dL_isPermitOpen_19 : decode cL_isPermitOpen 19 = .ok (.astore_n 3, 1) := by decide +kernel
theorem dL_isPermitOpen_20 : decode cL_isPermitOpen 20 = .ok (.iconst 1, 1) := by decide +kernel
theorem dL_isPermitOpen_21 : decode cL_isPermitOpen 21 = .ok (.ireturn, 1) := by decide +kernel
theorem dL_isPermitOpen_22 : decode cL_isPermitOpen 22 = .ok (.iconst 0, 1) := by decide +kernel
theorem dL_isPermitOpen_23 : decode cL_isPermitOpen 23 = .ok (.ireturn, 1) := by decide +kernel
set_option maxRecDepth 20000 in
theorem ggL_note_X5_note : GoodIn wsL_note wsX5_note := goodIn_ca (goodIn_ca (goodIn_r _ [6, 7, 8, 9, 10, 11, 5, 12, 13, 14, 15, 16, 17, 18, 19, 20, 21, 22, 23, 24, 25, 26, 27, 28, 29, 30, 31, 32, 33, 34, 35, 36, 37, 38, 39, 40, 41, 42, 43, 44, 45, 46, 47, 48, 49, 50, 51, 52, 53, 54, 55] (by decide +kernel) (by decide +kernel)) (goodIn_sub (fun _ h => List.mem_cons_of_mem _ (List.mem_append_right _ h)) (by decide +kernel))) (goodIn_sub (fun _ h => List.mem_cons_of_mem _ (List.mem_append_left _ (List.mem_append_right _ h))) (by decide +kernel))
set_option maxRecDepth 20000 in
theorem gL_note_X5_note : GoodIn wsL_note (wsV RL 84 RX5 yX5_note wsX5_note) := goodIn_app (goodIn_of _ (by decide +kernel)) ggL_note_X5_note
theorem dL_note_0 : decode cL_note 0 = .ok (.aload_n 1, 1) := by decide +kernel
theorem dL_note_1 : decode cL_note 1 = .ok (.iconst 0, 1) := by decide +kernel
theorem dL_note_2 : decode cL_note 2 = .ok (.aload_n 0, 1) := by decide +kernel
theorem dL_note_3 : decode cL_note 3 = .ok (.invokevirtual 84, 3) := by decide +kernel
theorem dL_note_6 : decode cL_note 6 = .ok (.i2l, 1) := by decide +kernel
theorem dL_note_7 : decode cL_note 7 = .ok (.lastore, 1) := by decide +kernel
theorem dL_note_8 : decode cL_note 8 = .ok (.goto 6, 3) := by decide +kernel
theorem dL_note_11 : decode cL_note 11 = .ok (.astore_n 2, 1) := by decide +kernel
theorem dL_note_12 : decode cL_note 12 = .ok (.iconst 1, 1) := by decide +kernel
theorem dL_note_13 : decode cL_note 13 = .ok (.ireturn, 1) := by decide +kernel
theorem dL_note_14 : decode cL_note 14 = .ok (.iconst 0, 1) := by decide +kernel
theorem dL_note_15 : decode cL_note 15 = .ok (.ireturn, 1) := by decide +kernel
set_option maxRecDepth 20000 in
theorem ggL_close_X5_close : GoodIn wsL_close wsX5_close := goodIn_ca (goodIn_ca (goodIn_ca (goodIn_ca (goodIn_r _ [6, 7, 8, 9, 10, 11, 12, 13, 14, 5, 15, 16, 17, 18, 19, 20, 21, 22, 23, 24, 25, 26, 27, 28, 29, 30, 31, 32, 33, 34, 35, 36, 37, 38, 39, 40, 41, 42, 43, 44, 45, 46, 47, 48, 49, 50, 51, 52, 53, 54, 55, 56, 57, 58, 59, 60, 61, 62, 63, 64, 65, 66] (by decide +kernel) (by decide +kernel)) (goodIn_sub (fun _ h => List.mem_cons_of_mem _ (List.mem_append_left _ (List.mem_append_left _ (List.mem_append_right _ h)))) (by decide +kernel))) (goodIn_sub (fun _ h => List.mem_cons_of_mem _ (List.mem_append_left _ (List.mem_append_right _ h))) (by decide +kernel))) (goodIn_sub (fun _ h => List.mem_cons_of_mem _ (List.mem_append_right _ h)) (by decide +kernel))) (goodIn_sub (fun _ h => List.mem_cons_of_mem _ (List.mem_append_left _ (List.mem_append_left _ (List.mem_append_left _ (List.mem_append_right _ h))))) (by decide +kernel))
set_option maxRecDepth 20000 in
theorem gL_close_X5_close : GoodIn wsL_close (wsV RL 87 RX5 yX5_close wsX5_close) := goodIn_app (goodIn_of _ (by decide +kernel)) ggL_close_X5_close
theorem dL_close_0 : decode cL_close 0 = .ok (.aload_n 2, 1) := by decide +kernel
theorem dL_close_1 : decode cL_close 1 = .ok (.iconst 0, 1) := by decide +kernel
theorem dL_close_2 : decode cL_close 2 = .ok (.aload_n 0, 1) := by decide +kernel
theorem dL_close_3 : decode cL_close 3 = .ok (.iload_n 1, 1) := by decide +kernel
theorem dL_close_4 : decode cL_close 4 = .ok (.invokevirtual 87, 3) := by decide +kernel
theorem dL_close_7 : decode cL_close 7 = .ok (.i2l, 1) := by decide +kernel
theorem dL_close_8 : decode cL_close 8 = .ok (.lastore, 1) := by decide +kernel
theorem dL_close_9 : decode cL_close 9 = .ok (.goto 12, 3) := by decide +kernel
theorem dL_close_12 : decode cL_close 12 = .ok (.astore_n 3, 1) := by decide +kernel
theorem dL_close_13 : decode cL_close 13 = .ok (.iconst 1, 1) := by decide +kernel
theorem dL_close_14 : decode cL_close 14 = .ok (.ireturn, 1) := by decide +kernel
theorem dL_close_15 : decode cL_close 15 = .ok (.astore_n 3, 1) := by decide +kernel
theorem dL_close_16 : decode cL_close 16 = .ok (.iconst 2, 1) := by decide +kernel
theorem dL_close_17 : decode cL_close 17 = .ok (.ireturn, 1) := by decide +kernel
theorem dL_close_18 : decode cL_close 18 = .ok (.astore_n 3, 1) := by decide +kernel
theorem dL_close_19 : decode cL_close 19 = .ok (.iconst 3, 1) := by decide +kernel
theorem dL_close_20 : decode cL_close 20 = .ok (.ireturn, 1) := by decide +kernel
theorem dL_close_21 : decode cL_close 21 = .ok (.iconst 0, 1) := by decide +kernel
theorem dL_close_22 : decode cL_close 22 = .ok (.ireturn, 1) := by decide +kernel
set_option maxRecDepth 20000 in
theorem ggL_begin_X5_begin : GoodIn wsL_begin wsX5_begin := goodIn_ca (goodIn_ca (goodIn_r _ [6, 7, 8, 9, 10, 11, 12, 5, 13, 14, 15, 16, 17, 18, 19, 20, 21, 22, 23, 24, 25, 26, 27, 28, 29, 30, 31, 32, 33, 34, 35, 36, 37, 38, 39, 40] (by decide +kernel) (by decide +kernel)) (goodIn_sub (fun _ h => List.mem_cons_of_mem _ (List.mem_append_left _ (List.mem_append_right _ h))) (by decide +kernel))) (goodIn_sub (fun _ h => List.mem_cons_of_mem _ (List.mem_append_right _ h)) (by decide +kernel))
set_option maxRecDepth 20000 in
theorem gL_begin_X5_begin : GoodIn wsL_begin (wsV RL 90 RX5 yX5_begin wsX5_begin) := goodIn_app (goodIn_of _ (by decide +kernel)) ggL_begin_X5_begin
theorem dL_begin_0 : decode cL_begin 0 = .ok (.aload_n 2, 1) := by decide +kernel
theorem dL_begin_1 : decode cL_begin 1 = .ok (.iconst 0, 1) := by decide +kernel
theorem dL_begin_2 : decode cL_begin 2 = .ok (.aload_n 0, 1) := by decide +kernel
theorem dL_begin_3 : decode cL_begin 3 = .ok (.iload_n 1, 1) := by decide +kernel
theorem dL_begin_4 : decode cL_begin 4 = .ok (.invokevirtual 90, 3) := by decide +kernel
theorem dL_begin_7 : decode cL_begin 7 = .ok (.i2l, 1) := by decide +kernel
theorem dL_begin_8 : decode cL_begin 8 = .ok (.lastore, 1) := by decide +kernel
theorem dL_begin_9 : decode cL_begin 9 = .ok (.goto 9, 3) := by decide +kernel
theorem dL_begin_12 : decode cL_begin 12 = .ok (.astore_n 3, 1) := by decide +kernel
theorem dL_begin_13 : decode cL_begin 13 = .ok (.iconst 1, 1) := by decide +kernel
theorem dL_begin_14 : decode cL_begin 14 = .ok (.ireturn, 1) := by decide +kernel
theorem dL_begin_15 : decode cL_begin 15 = .ok (.astore_n 3, 1) := by decide +kernel
theorem dL_begin_16 : decode cL_begin 16 = .ok (.iconst 2, 1) := by decide +kernel
theorem dL_begin_17 : decode cL_begin 17 = .ok (.ireturn, 1) := by decide +kernel
theorem dL_begin_18 : decode cL_begin 18 = .ok (.iconst 0, 1) := by decide +kernel
theorem dL_begin_19 : decode cL_begin 19 = .ok (.ireturn, 1) := by decide +kernel
set_option maxRecDepth 20000 in
theorem ggL_handOver_X5_handOver : GoodIn wsL_handOver wsX5_handOver := goodIn_ca (goodIn_ca (goodIn_ca (goodIn_ca (goodIn_r _ [6, 7, 8, 9, 10, 11, 12, 13, 14, 15, 5, 16, 17, 18, 19, 20, 21, 22, 23, 24, 25, 26, 27, 28, 29, 30, 31, 32, 33, 34, 35, 36, 37, 38, 39, 40, 41, 42, 43, 44, 45, 46, 47, 48, 49, 50, 51, 52, 53, 54, 55, 56, 57, 58, 59, 60, 61, 62, 63, 64, 65, 66, 67, 68, 69, 70, 71, 72, 73, 74, 75, 76] (by decide +kernel) (by decide +kernel)) (goodIn_sub (fun _ h => List.mem_cons_of_mem _ (List.mem_append_left _ (List.mem_append_left _ (List.mem_append_right _ h)))) (by decide +kernel))) (goodIn_sub (fun _ h => List.mem_cons_of_mem _ (List.mem_append_left _ (List.mem_append_right _ h))) (by decide +kernel))) (goodIn_sub (fun _ h => List.mem_cons_of_mem _ (List.mem_append_right _ h)) (by decide +kernel))) (goodIn_sub (fun _ h => List.mem_cons_of_mem _ (List.mem_append_left _ (List.mem_append_left _ (List.mem_append_left _ (List.mem_append_right _ h))))) (by decide +kernel))
set_option maxRecDepth 20000 in
theorem gL_handOver_X5_handOver : GoodIn wsL_handOver (wsV RL 93 RX5 yX5_handOver wsX5_handOver) := goodIn_app (goodIn_of _ (by decide +kernel)) ggL_handOver_X5_handOver
theorem dL_handOver_0 : decode cL_handOver 0 = .ok (.aload_n 2, 1) := by decide +kernel
theorem dL_handOver_1 : decode cL_handOver 1 = .ok (.iconst 0, 1) := by decide +kernel
theorem dL_handOver_2 : decode cL_handOver 2 = .ok (.aload_n 0, 1) := by decide +kernel
theorem dL_handOver_3 : decode cL_handOver 3 = .ok (.iload_n 1, 1) := by decide +kernel
theorem dL_handOver_4 : decode cL_handOver 4 = .ok (.invokevirtual 93, 3) := by decide +kernel
theorem dL_handOver_7 : decode cL_handOver 7 = .ok (.i2l, 1) := by decide +kernel
theorem dL_handOver_8 : decode cL_handOver 8 = .ok (.lastore, 1) := by decide +kernel
theorem dL_handOver_9 : decode cL_handOver 9 = .ok (.goto 12, 3) := by decide +kernel
theorem dL_handOver_12 : decode cL_handOver 12 = .ok (.astore_n 3, 1) := by decide +kernel
theorem dL_handOver_13 : decode cL_handOver 13 = .ok (.iconst 1, 1) := by decide +kernel
theorem dL_handOver_14 : decode cL_handOver 14 = .ok (.ireturn, 1) := by decide +kernel
theorem dL_handOver_15 : decode cL_handOver 15 = .ok (.astore_n 3, 1) := by decide +kernel
theorem dL_handOver_16 : decode cL_handOver 16 = .ok (.iconst 2, 1) := by decide +kernel
theorem dL_handOver_17 : decode cL_handOver 17 = .ok (.ireturn, 1) := by decide +kernel
theorem dL_handOver_18 : decode cL_handOver 18 = .ok (.astore_n 3, 1) := by decide +kernel
theorem dL_handOver_19 : decode cL_handOver 19 = .ok (.iconst 3, 1) := by decide +kernel
theorem dL_handOver_20 : decode cL_handOver 20 = .ok (.ireturn, 1) := by decide +kernel
theorem dL_handOver_21 : decode cL_handOver 21 = .ok (.iconst 0, 1) := by decide +kernel
theorem dL_handOver_22 : decode cL_handOver 22 = .ok (.ireturn, 1) := by decide +kernel
set_option maxRecDepth 20000 in
theorem ggL_acknowledge_X5_acknowledge : GoodIn wsL_acknowledge wsX5_acknowledge := goodIn_ca (goodIn_ca (goodIn_ca (goodIn_r _ [6, 7, 8, 9, 10, 11, 12, 5, 13, 14, 15, 16, 17, 18, 19, 20, 21, 22, 23, 24, 25, 26, 27, 28, 29, 30, 31, 32, 33, 34, 35, 36, 37, 38, 39, 40, 41, 42, 43, 44, 45, 46, 47, 48, 49, 50, 51, 52, 53, 54, 55, 56, 57, 58, 59, 60, 61, 62, 63, 64, 65, 66, 67, 68, 69, 70, 71, 72, 73, 74, 75, 76, 77] (by decide +kernel) (by decide +kernel)) (goodIn_sub (fun _ h => List.mem_cons_of_mem _ (List.mem_append_left _ (List.mem_append_right _ h))) (by decide +kernel))) (goodIn_sub (fun _ h => List.mem_cons_of_mem _ (List.mem_append_right _ h)) (by decide +kernel))) (goodIn_sub (fun _ h => List.mem_cons_of_mem _ (List.mem_append_left _ (List.mem_append_left _ (List.mem_append_right _ h)))) (by decide +kernel))
set_option maxRecDepth 20000 in
theorem gL_acknowledge_X5_acknowledge : GoodIn wsL_acknowledge (wsV RL 96 RX5 yX5_acknowledge wsX5_acknowledge) := goodIn_app (goodIn_of _ (by decide +kernel)) ggL_acknowledge_X5_acknowledge
theorem dL_acknowledge_0 : decode cL_acknowledge 0 = .ok (.aload_n 2, 1) := by decide +kernel
theorem dL_acknowledge_1 : decode cL_acknowledge 1 = .ok (.iconst 0, 1) := by decide +kernel
theorem dL_acknowledge_2 : decode cL_acknowledge 2 = .ok (.aload_n 0, 1) := by decide +kernel
theorem dL_acknowledge_3 : decode cL_acknowledge 3 = .ok (.iload_n 1, 1) := by decide +kernel
theorem dL_acknowledge_4 : decode cL_acknowledge 4 = .ok (.invokevirtual 96, 3) := by decide +kernel
theorem dL_acknowledge_7 : decode cL_acknowledge 7 = .ok (.i2l, 1) := by decide +kernel
theorem dL_acknowledge_8 : decode cL_acknowledge 8 = .ok (.lastore, 1) := by decide +kernel
theorem dL_acknowledge_9 : decode cL_acknowledge 9 = .ok (.goto 9, 3) := by decide +kernel
theorem dL_acknowledge_12 : decode cL_acknowledge 12 = .ok (.astore_n 3, 1) := by decide +kernel
theorem dL_acknowledge_13 : decode cL_acknowledge 13 = .ok (.iconst 1, 1) := by decide +kernel
theorem dL_acknowledge_14 : decode cL_acknowledge 14 = .ok (.ireturn, 1) := by decide +kernel
theorem dL_acknowledge_15 : decode cL_acknowledge 15 = .ok (.astore_n 3, 1) := by decide +kernel
theorem dL_acknowledge_16 : decode cL_acknowledge 16 = .ok (.iconst 2, 1) := by decide +kernel
theorem dL_acknowledge_17 : decode cL_acknowledge 17 = .ok (.ireturn, 1) := by decide +kernel
theorem dL_acknowledge_18 : decode cL_acknowledge 18 = .ok (.iconst 0, 1) := by decide +kernel
theorem dL_acknowledge_19 : decode cL_acknowledge 19 = .ok (.ireturn, 1) := by decide +kernel
set_option maxRecDepth 20000 in
theorem ggL_take_X5_take : GoodIn wsL_take wsX5_take := goodIn_ca (goodIn_ca (goodIn_ca (goodIn_r _ [6, 7, 8, 9, 10, 11, 12, 13, 14, 5, 15, 16, 17, 18, 19, 20, 21, 22, 23, 24, 25, 26, 27, 28, 29, 30, 31, 32, 33, 34, 35, 36, 37, 38, 39, 40, 41, 42, 43, 44, 45, 46, 47, 48, 49, 50, 51, 52, 53, 54, 55, 56, 57, 58, 59, 60, 61, 62, 63, 64, 65, 66, 67, 68, 69, 70, 71, 72, 73, 74, 75, 76, 77, 78, 79, 80, 81, 82, 83, 84, 85, 86] (by decide +kernel) (by decide +kernel)) (goodIn_sub (fun _ h => List.mem_cons_of_mem _ (List.mem_append_left _ (List.mem_append_right _ h))) (by decide +kernel))) (goodIn_sub (fun _ h => List.mem_cons_of_mem _ (List.mem_append_right _ h)) (by decide +kernel))) (goodIn_sub (fun _ h => List.mem_cons_of_mem _ (List.mem_append_left _ (List.mem_append_left _ (List.mem_append_right _ h)))) (by decide +kernel))
set_option maxRecDepth 20000 in
theorem gL_take_X5_take : GoodIn wsL_take (wsV RL 99 RX5 yX5_take wsX5_take) := goodIn_app (goodIn_of _ (by decide +kernel)) ggL_take_X5_take
theorem dL_take_0 : decode cL_take 0 = .ok (.aload_n 1, 1) := by decide +kernel
theorem dL_take_1 : decode cL_take 1 = .ok (.iconst 0, 1) := by decide +kernel
theorem dL_take_2 : decode cL_take 2 = .ok (.aload_n 0, 1) := by decide +kernel
theorem dL_take_3 : decode cL_take 3 = .ok (.invokevirtual 99, 3) := by decide +kernel
theorem dL_take_6 : decode cL_take 6 = .ok (.i2l, 1) := by decide +kernel
theorem dL_take_7 : decode cL_take 7 = .ok (.lastore, 1) := by decide +kernel
theorem dL_take_8 : decode cL_take 8 = .ok (.goto 9, 3) := by decide +kernel
theorem dL_take_11 : decode cL_take 11 = .ok (.astore_n 2, 1) := by decide +kernel
theorem dL_take_12 : decode cL_take 12 = .ok (.iconst 1, 1) := by decide +kernel
theorem dL_take_13 : decode cL_take 13 = .ok (.ireturn, 1) := by decide +kernel
theorem dL_take_14 : decode cL_take 14 = .ok (.astore_n 2, 1) := by decide +kernel
theorem dL_take_15 : decode cL_take 15 = .ok (.iconst 2, 1) := by decide +kernel
theorem dL_take_16 : decode cL_take 16 = .ok (.ireturn, 1) := by decide +kernel
theorem dL_take_17 : decode cL_take 17 = .ok (.iconst 0, 1) := by decide +kernel
theorem dL_take_18 : decode cL_take 18 = .ok (.ireturn, 1) := by decide +kernel
set_option maxRecDepth 20000 in
theorem ggL_cancel_X5_cancel : GoodIn wsL_cancel wsX5_cancel := goodIn_ca (goodIn_ca (goodIn_r _ [6, 7, 8, 9, 10, 11, 5, 12, 13, 14, 15, 16, 17, 18, 19, 20, 21, 22, 23, 24, 25, 26, 27, 28, 29, 30, 31, 32, 33, 34, 35, 36, 37, 38, 39, 40, 41, 42, 43, 44, 45, 46, 47, 48, 49, 50, 51, 52, 53, 54, 55, 56, 57, 58, 59, 60] (by decide +kernel) (by decide +kernel)) (goodIn_sub (fun _ h => List.mem_cons_of_mem _ (List.mem_append_right _ h)) (by decide +kernel))) (goodIn_sub (fun _ h => List.mem_cons_of_mem _ (List.mem_append_left _ (List.mem_append_right _ h))) (by decide +kernel))
set_option maxRecDepth 20000 in
theorem gL_cancel_X5_cancel : GoodIn wsL_cancel (wsV RL 102 RX5 yX5_cancel wsX5_cancel) := goodIn_app (goodIn_of _ (by decide +kernel)) ggL_cancel_X5_cancel
theorem dL_cancel_0 : decode cL_cancel 0 = .ok (.aload_n 1, 1) := by decide +kernel
theorem dL_cancel_1 : decode cL_cancel 1 = .ok (.iconst 0, 1) := by decide +kernel
theorem dL_cancel_2 : decode cL_cancel 2 = .ok (.aload_n 0, 1) := by decide +kernel
theorem dL_cancel_3 : decode cL_cancel 3 = .ok (.invokevirtual 102, 3) := by decide +kernel
theorem dL_cancel_6 : decode cL_cancel 6 = .ok (.i2l, 1) := by decide +kernel
theorem dL_cancel_7 : decode cL_cancel 7 = .ok (.lastore, 1) := by decide +kernel
theorem dL_cancel_8 : decode cL_cancel 8 = .ok (.goto 6, 3) := by decide +kernel
theorem dL_cancel_11 : decode cL_cancel 11 = .ok (.astore_n 2, 1) := by decide +kernel
theorem dL_cancel_12 : decode cL_cancel 12 = .ok (.iconst 1, 1) := by decide +kernel
theorem dL_cancel_13 : decode cL_cancel 13 = .ok (.ireturn, 1) := by decide +kernel
theorem dL_cancel_14 : decode cL_cancel 14 = .ok (.iconst 0, 1) := by decide +kernel
theorem dL_cancel_15 : decode cL_cancel 15 = .ok (.ireturn, 1) := by decide +kernel
set_option maxRecDepth 20000 in
theorem ggL_pass_X5_pass : GoodIn wsL_pass wsX5_pass := goodIn_ca (goodIn_ca (goodIn_r _ [6, 7, 8, 9, 10, 11, 12, 13, 14, 15, 16, 17, 18, 19, 20, 21, 22, 23, 24, 25, 26, 27, 28, 29, 30, 31, 32, 33, 34, 35, 36, 37, 38] (by decide +kernel) (by decide +kernel)) (goodIn_sub (fun _ h => List.mem_cons_of_mem _ (List.mem_append_right _ h)) (by decide +kernel))) (goodIn_sub (fun _ h => List.mem_cons_of_mem _ (List.mem_append_left _ (List.mem_append_right _ h))) (by decide +kernel))
set_option maxRecDepth 20000 in
theorem gL_pass_X5_pass : GoodIn wsL_pass (wsV RL 105 RX5 yX5_pass wsX5_pass) := goodIn_app (goodIn_of _ (by decide +kernel)) ggL_pass_X5_pass
theorem dL_pass_0 : decode cL_pass 0 = .ok (.aload_n 2, 1) := by decide +kernel
theorem dL_pass_1 : decode cL_pass 1 = .ok (.iconst 0, 1) := by decide +kernel
theorem dL_pass_2 : decode cL_pass 2 = .ok (.aload_n 0, 1) := by decide +kernel
theorem dL_pass_3 : decode cL_pass 3 = .ok (.iload_n 1, 1) := by decide +kernel
theorem dL_pass_4 : decode cL_pass 4 = .ok (.invokevirtual 105, 3) := by decide +kernel
theorem dL_pass_7 : decode cL_pass 7 = .ok (.i2l, 1) := by decide +kernel
theorem dL_pass_8 : decode cL_pass 8 = .ok (.lastore, 1) := by decide +kernel
theorem dL_pass_9 : decode cL_pass 9 = .ok (.goto 6, 3) := by decide +kernel
theorem dL_pass_12 : decode cL_pass 12 = .ok (.astore_n 3, 1) := by decide +kernel
theorem dL_pass_13 : decode cL_pass 13 = .ok (.iconst 1, 1) := by decide +kernel
theorem dL_pass_14 : decode cL_pass 14 = .ok (.ireturn, 1) := by decide +kernel
theorem dL_pass_15 : decode cL_pass 15 = .ok (.iconst 0, 1) := by decide +kernel
theorem dL_pass_16 : decode cL_pass 16 = .ok (.ireturn, 1) := by decide +kernel
set_option maxRecDepth 20000 in
theorem ggL_onDuty_X5_onDuty : GoodIn wsL_onDuty wsX5_onDuty := goodIn_ca (goodIn_r _ [6, 7, 8, 9, 10, 11, 12, 13, 14, 15, 16, 17, 18, 19, 20, 21, 22, 23, 24, 25, 26] (by decide +kernel) (by decide +kernel)) (goodIn_sub (fun _ h => List.mem_cons_of_mem _ (List.mem_append_right _ h)) (by decide +kernel))
set_option maxRecDepth 20000 in
theorem gL_onDuty_X5_onDuty : GoodIn wsL_onDuty (wsV RL 108 RX5 yX5_onDuty wsX5_onDuty) := goodIn_app (goodIn_of _ (by decide +kernel)) ggL_onDuty_X5_onDuty
theorem dL_onDuty_0 : decode cL_onDuty 0 = .ok (.aload_n 1, 1) := by decide +kernel
theorem dL_onDuty_1 : decode cL_onDuty 1 = .ok (.iconst 0, 1) := by decide +kernel
theorem dL_onDuty_2 : decode cL_onDuty 2 = .ok (.aload_n 0, 1) := by decide +kernel
theorem dL_onDuty_3 : decode cL_onDuty 3 = .ok (.invokevirtual 108, 3) := by decide +kernel
theorem dL_onDuty_6 : decode cL_onDuty 6 = .ok (.i2l, 1) := by decide +kernel
theorem dL_onDuty_7 : decode cL_onDuty 7 = .ok (.lastore, 1) := by decide +kernel
theorem dL_onDuty_8 : decode cL_onDuty 8 = .ok (.goto 6, 3) := by decide +kernel
theorem dL_onDuty_11 : decode cL_onDuty 11 = .ok (.astore_n 2, 1) := by decide +kernel
theorem dL_onDuty_12 : decode cL_onDuty 12 = .ok (.iconst 1, 1) := by decide +kernel
theorem dL_onDuty_13 : decode cL_onDuty 13 = .ok (.ireturn, 1) := by decide +kernel
theorem dL_onDuty_14 : decode cL_onDuty 14 = .ok (.iconst 0, 1) := by decide +kernel
theorem dL_onDuty_15 : decode cL_onDuty 15 = .ok (.ireturn, 1) := by decide +kernel
set_option maxRecDepth 20000 in
theorem ggL_restLeft_X5_restLeft : GoodIn wsL_restLeft wsX5_restLeft := goodIn_ca (goodIn_ca (goodIn_r _ [6, 7, 8, 9, 10, 5, 11, 12, 13, 14, 15, 16, 17, 18, 19, 20, 21, 22, 23, 24, 25, 26, 27, 28, 29, 30, 31, 32, 33] (by decide +kernel) (by decide +kernel)) (goodIn_sub (fun _ h => List.mem_cons_of_mem _ (List.mem_append_right _ h)) (by decide +kernel))) (goodIn_sub (fun _ h => List.mem_cons_of_mem _ (List.mem_append_left _ (List.mem_append_right _ h))) (by decide +kernel))
set_option maxRecDepth 20000 in
theorem gL_restLeft_X5_restLeft : GoodIn wsL_restLeft (wsV RL 111 RX5 yX5_restLeft wsX5_restLeft) := goodIn_app (goodIn_of _ (by decide +kernel)) ggL_restLeft_X5_restLeft
theorem dL_restLeft_0 : decode cL_restLeft 0 = .ok (.aload_n 2, 1) := by decide +kernel
theorem dL_restLeft_1 : decode cL_restLeft 1 = .ok (.iconst 0, 1) := by decide +kernel
theorem dL_restLeft_2 : decode cL_restLeft 2 = .ok (.aload_n 0, 1) := by decide +kernel
theorem dL_restLeft_3 : decode cL_restLeft 3 = .ok (.iload_n 1, 1) := by decide +kernel
theorem dL_restLeft_4 : decode cL_restLeft 4 = .ok (.invokevirtual 111, 3) := by decide +kernel
theorem dL_restLeft_7 : decode cL_restLeft 7 = .ok (.i2l, 1) := by decide +kernel
theorem dL_restLeft_8 : decode cL_restLeft 8 = .ok (.lastore, 1) := by decide +kernel
theorem dL_restLeft_9 : decode cL_restLeft 9 = .ok (.goto 6, 3) := by decide +kernel
theorem dL_restLeft_12 : decode cL_restLeft 12 = .ok (.astore_n 3, 1) := by decide +kernel
theorem dL_restLeft_13 : decode cL_restLeft 13 = .ok (.iconst 1, 1) := by decide +kernel
theorem dL_restLeft_14 : decode cL_restLeft 14 = .ok (.ireturn, 1) := by decide +kernel
theorem dL_restLeft_15 : decode cL_restLeft 15 = .ok (.iconst 0, 1) := by decide +kernel
theorem dL_restLeft_16 : decode cL_restLeft 16 = .ok (.ireturn, 1) := by decide +kernel
set_option maxRecDepth 20000 in
theorem ggL_openAt_X5_openAt : GoodIn wsL_openAt wsX5_openAt := goodIn_ca (goodIn_ca (goodIn_r _ [6, 7, 8, 9, 10, 11, 12, 13, 14, 15, 16, 17, 18, 19, 20, 21, 22, 23, 24, 25, 26, 27, 28, 29, 30, 31, 32, 33, 34, 35, 36, 37, 38, 39, 40] (by decide +kernel) (by decide +kernel)) (goodIn_sub (fun _ h => List.mem_cons_of_mem _ (List.mem_append_right _ h)) (by decide +kernel))) (goodIn_sub (fun _ h => List.mem_cons_of_mem _ (List.mem_append_left _ (List.mem_append_right _ h))) (by decide +kernel))
set_option maxRecDepth 20000 in
theorem gL_openAt_X5_openAt : GoodIn wsL_openAt (wsV RL 114 RX5 yX5_openAt wsX5_openAt) := goodIn_app (goodIn_of _ (by decide +kernel)) ggL_openAt_X5_openAt
theorem dL_openAt_0 : decode cL_openAt 0 = .ok (.aload_n 2, 1) := by decide +kernel
theorem dL_openAt_1 : decode cL_openAt 1 = .ok (.iconst 0, 1) := by decide +kernel
theorem dL_openAt_2 : decode cL_openAt 2 = .ok (.aload_n 0, 1) := by decide +kernel
theorem dL_openAt_3 : decode cL_openAt 3 = .ok (.iload_n 1, 1) := by decide +kernel
theorem dL_openAt_4 : decode cL_openAt 4 = .ok (.invokevirtual 114, 3) := by decide +kernel
theorem dL_openAt_7 : decode cL_openAt 7 = .ok (.i2l, 1) := by decide +kernel
theorem dL_openAt_8 : decode cL_openAt 8 = .ok (.lastore, 1) := by decide +kernel
theorem dL_openAt_9 : decode cL_openAt 9 = .ok (.goto 6, 3) := by decide +kernel
theorem dL_openAt_12 : decode cL_openAt 12 = .ok (.astore_n 3, 1) := by decide +kernel
theorem dL_openAt_13 : decode cL_openAt 13 = .ok (.iconst 1, 1) := by decide +kernel
theorem dL_openAt_14 : decode cL_openAt 14 = .ok (.ireturn, 1) := by decide +kernel
theorem dL_openAt_15 : decode cL_openAt 15 = .ok (.iconst 0, 1) := by decide +kernel
theorem dL_openAt_16 : decode cL_openAt 16 = .ok (.ireturn, 1) := by decide +kernel
set_option maxRecDepth 20000 in
theorem ggL_kindOf_X5_kindOf : GoodIn wsL_kindOf wsX5_kindOf := goodIn_ca (goodIn_ca (goodIn_r _ [6, 7, 8, 9, 10, 5, 11, 12, 13, 14, 15, 16, 17, 18, 19, 20, 21, 22, 23, 24, 25, 26, 27, 28, 29, 30, 31, 32, 33, 34, 35, 36, 37, 38, 39, 40, 41] (by decide +kernel) (by decide +kernel)) (goodIn_sub (fun _ h => List.mem_cons_of_mem _ (List.mem_append_right _ h)) (by decide +kernel))) (goodIn_sub (fun _ h => List.mem_cons_of_mem _ (List.mem_append_left _ (List.mem_append_right _ h))) (by decide +kernel))
set_option maxRecDepth 20000 in
theorem gL_kindOf_X5_kindOf : GoodIn wsL_kindOf (wsV RL 117 RX5 yX5_kindOf wsX5_kindOf) := goodIn_app (goodIn_of _ (by decide +kernel)) ggL_kindOf_X5_kindOf
theorem dL_kindOf_0 : decode cL_kindOf 0 = .ok (.aload_n 2, 1) := by decide +kernel
theorem dL_kindOf_1 : decode cL_kindOf 1 = .ok (.iconst 0, 1) := by decide +kernel
theorem dL_kindOf_2 : decode cL_kindOf 2 = .ok (.aload_n 0, 1) := by decide +kernel
theorem dL_kindOf_3 : decode cL_kindOf 3 = .ok (.iload_n 1, 1) := by decide +kernel
theorem dL_kindOf_4 : decode cL_kindOf 4 = .ok (.invokevirtual 117, 3) := by decide +kernel
theorem dL_kindOf_7 : decode cL_kindOf 7 = .ok (.i2l, 1) := by decide +kernel
theorem dL_kindOf_8 : decode cL_kindOf 8 = .ok (.lastore, 1) := by decide +kernel
theorem dL_kindOf_9 : decode cL_kindOf 9 = .ok (.goto 6, 3) := by decide +kernel
theorem dL_kindOf_12 : decode cL_kindOf 12 = .ok (.astore_n 3, 1) := by decide +kernel
theorem dL_kindOf_13 : decode cL_kindOf 13 = .ok (.iconst 1, 1) := by decide +kernel
theorem dL_kindOf_14 : decode cL_kindOf 14 = .ok (.ireturn, 1) := by decide +kernel
theorem dL_kindOf_15 : decode cL_kindOf 15 = .ok (.iconst 0, 1) := by decide +kernel
theorem dL_kindOf_16 : decode cL_kindOf 16 = .ok (.ireturn, 1) := by decide +kernel
set_option maxRecDepth 20000 in
theorem ggL_passed_X5_passed : GoodIn wsL_passed wsX5_passed := goodIn_ca (goodIn_ca (goodIn_r _ [6, 7, 8, 9, 10, 5, 11, 12, 13, 14, 15, 16, 17, 18, 19, 20, 21, 22, 23, 24, 25, 26, 27, 28, 29, 30, 31, 32, 33, 34, 35, 36, 37, 38, 39, 40, 41] (by decide +kernel) (by decide +kernel)) (goodIn_sub (fun _ h => List.mem_cons_of_mem _ (List.mem_append_right _ h)) (by decide +kernel))) (goodIn_sub (fun _ h => List.mem_cons_of_mem _ (List.mem_append_left _ (List.mem_append_right _ h))) (by decide +kernel))
set_option maxRecDepth 20000 in
theorem gL_passed_X5_passed : GoodIn wsL_passed (wsV RL 120 RX5 yX5_passed wsX5_passed) := goodIn_app (goodIn_of _ (by decide +kernel)) ggL_passed_X5_passed
theorem dL_passed_0 : decode cL_passed 0 = .ok (.aload_n 2, 1) := by decide +kernel
theorem dL_passed_1 : decode cL_passed 1 = .ok (.iconst 0, 1) := by decide +kernel
theorem dL_passed_2 : decode cL_passed 2 = .ok (.aload_n 0, 1) := by decide +kernel
theorem dL_passed_3 : decode cL_passed 3 = .ok (.iload_n 1, 1) := by decide +kernel
theorem dL_passed_4 : decode cL_passed 4 = .ok (.invokevirtual 120, 3) := by decide +kernel
theorem dL_passed_7 : decode cL_passed 7 = .ok (.i2l, 1) := by decide +kernel
theorem dL_passed_8 : decode cL_passed 8 = .ok (.lastore, 1) := by decide +kernel
theorem dL_passed_9 : decode cL_passed 9 = .ok (.goto 6, 3) := by decide +kernel
theorem dL_passed_12 : decode cL_passed 12 = .ok (.astore_n 3, 1) := by decide +kernel
theorem dL_passed_13 : decode cL_passed 13 = .ok (.iconst 1, 1) := by decide +kernel
theorem dL_passed_14 : decode cL_passed 14 = .ok (.ireturn, 1) := by decide +kernel
theorem dL_passed_15 : decode cL_passed 15 = .ok (.iconst 0, 1) := by decide +kernel
theorem dL_passed_16 : decode cL_passed 16 = .ok (.ireturn, 1) := by decide +kernel
set_option maxRecDepth 20000 in
theorem ggL_closedShare_X5_closedShare : GoodIn wsL_closedShare wsX5_closedShare := goodIn_ca (goodIn_r _ [6, 7, 8, 9, 10, 11, 12, 13, 14, 15, 16, 17, 18, 19, 20, 21, 22, 23, 24, 25, 26, 27, 28, 29, 30, 31, 32, 33, 34, 35, 36] (by decide +kernel) (by decide +kernel)) (goodIn_sub (fun _ h => List.mem_cons_of_mem _ (List.mem_append_right _ h)) (by decide +kernel))
set_option maxRecDepth 20000 in
theorem gL_closedShare_X5_closedShare : GoodIn wsL_closedShare (wsV RL 123 RX5 yX5_closedShare wsX5_closedShare) := goodIn_app (goodIn_of _ (by decide +kernel)) ggL_closedShare_X5_closedShare
theorem dL_closedShare_0 : decode cL_closedShare 0 = .ok (.aload_n 1, 1) := by decide +kernel
theorem dL_closedShare_1 : decode cL_closedShare 1 = .ok (.iconst 0, 1) := by decide +kernel
theorem dL_closedShare_2 : decode cL_closedShare 2 = .ok (.aload_n 0, 1) := by decide +kernel
theorem dL_closedShare_3 : decode cL_closedShare 3 = .ok (.invokevirtual 123, 3) := by decide +kernel
theorem dL_closedShare_6 : decode cL_closedShare 6 = .ok (.f2d, 1) := by decide +kernel
theorem dL_closedShare_7 : decode cL_closedShare 7 = .ok (.dastore, 1) := by decide +kernel
theorem dL_closedShare_8 : decode cL_closedShare 8 = .ok (.goto 6, 3) := by decide +kernel
theorem dL_closedShare_11 : decode cL_closedShare 11 = .ok (.astore_n 2, 1) := by decide +kernel
theorem dL_closedShare_12 : decode cL_closedShare 12 = .ok (.iconst 1, 1) := by decide +kernel
theorem dL_closedShare_13 : decode cL_closedShare 13 = .ok (.ireturn, 1) := by decide +kernel
theorem dL_closedShare_14 : decode cL_closedShare 14 = .ok (.iconst 0, 1) := by decide +kernel
theorem dL_closedShare_15 : decode cL_closedShare 15 = .ok (.ireturn, 1) := by decide +kernel
set_option maxRecDepth 20000 in
theorem ggL_meanAge_X5_meanAge : GoodIn wsL_meanAge wsX5_meanAge := goodIn_ca (goodIn_ca (goodIn_r _ [6, 7, 8, 9, 10, 11, 12, 13, 14, 15, 16, 17, 18, 19, 20, 21, 22, 23, 24, 25, 26, 27, 28, 29, 30, 31, 32, 33, 34, 35, 36, 37, 38, 39, 40, 41, 42, 43, 44, 45, 46, 47] (by decide +kernel) (by decide +kernel)) (goodIn_sub (fun _ h => List.mem_cons_of_mem _ (List.mem_append_right _ h)) (by decide +kernel))) (goodIn_sub (fun _ h => List.mem_cons_of_mem _ (List.mem_append_left _ (List.mem_append_right _ h))) (by decide +kernel))
set_option maxRecDepth 20000 in
theorem gL_meanAge_X5_meanAge : GoodIn wsL_meanAge (wsV RL 129 RX5 yX5_meanAge wsX5_meanAge) := goodIn_app (goodIn_of _ (by decide +kernel)) ggL_meanAge_X5_meanAge
theorem dL_meanAge_0 : decode cL_meanAge 0 = .ok (.aload_n 1, 1) := by decide +kernel
theorem dL_meanAge_1 : decode cL_meanAge 1 = .ok (.iconst 0, 1) := by decide +kernel
theorem dL_meanAge_2 : decode cL_meanAge 2 = .ok (.aload_n 0, 1) := by decide +kernel
theorem dL_meanAge_3 : decode cL_meanAge 3 = .ok (.invokevirtual 129, 3) := by decide +kernel
theorem dL_meanAge_6 : decode cL_meanAge 6 = .ok (.dastore, 1) := by decide +kernel
theorem dL_meanAge_7 : decode cL_meanAge 7 = .ok (.goto 6, 3) := by decide +kernel
theorem dL_meanAge_10 : decode cL_meanAge 10 = .ok (.astore_n 2, 1) := by decide +kernel
theorem dL_meanAge_11 : decode cL_meanAge 11 = .ok (.iconst 1, 1) := by decide +kernel
theorem dL_meanAge_12 : decode cL_meanAge 12 = .ok (.ireturn, 1) := by decide +kernel
theorem dL_meanAge_13 : decode cL_meanAge 13 = .ok (.iconst 0, 1) := by decide +kernel
theorem dL_meanAge_14 : decode cL_meanAge 14 = .ok (.ireturn, 1) := by decide +kernel
set_option maxRecDepth 20000 in
theorem ggL_law_X5_init : GoodIn wsL_law wsX5_init := goodIn_r _ [10, 11, 12, 13, 14, 15, 16, 17, 18, 19, 20, 21, 22, 23, 24, 25, 26, 27, 28, 29, 30, 31, 32, 33, 34, 35, 36, 37, 38, 39, 40, 41, 42, 43, 44, 45, 46, 47, 48, 49, 50, 51, 52, 53, 54, 55, 56, 57, 58, 59, 60, 61, 62, 63, 64, 65, 66, 67, 68, 69, 70, 71, 72, 73, 74, 75, 76, 1011, 1012, 1013, 1014, 1015, 1016, 1017, 1047, 1048, 1049, 1050, 1051, 1052, 1053, 1054, 1055, 1056, 1057, 1058, 1059, 1060, 1061, 1062, 1063, 1064, 1065, 1066, 1067, 1068, 1069, 1070, 1071, 1072, 1073, 1074, 1075, 1076] (by decide +kernel) (by decide +kernel)
set_option maxRecDepth 20000 in
theorem gL_law_X5_init : GoodIn wsL_law (wsX5_init) := ggL_law_X5_init
set_option maxRecDepth 20000 in
theorem ggL_law_X6_init : GoodIn wsL_law wsX6_init := goodIn_ca (goodIn_r _ [79, 80, 12, 13, 14, 81, 39, 82, 42, 83, 84, 85, 86, 87, 88, 89, 90, 91, 92, 93, 94, 95, 96, 97, 98, 99, 100, 101, 102, 103, 1018, 1019, 1020, 1021, 1022, 1023, 1024, 1025, 1026, 1027, 1028, 1029, 1030, 1031, 1032, 1033, 1034, 1035, 1036, 1037, 1038, 1039, 1040, 1041, 1042, 1043, 1044, 1045, 1046] (by decide +kernel) (by decide +kernel)) (goodIn_sub (fun _ h => List.mem_append_left _ (List.mem_append_left _ (List.mem_append_left _ (List.mem_append_left _ (List.mem_append_left _ (List.mem_append_left _ (List.mem_append_right _ h))))))) (by decide +kernel))
set_option maxRecDepth 20000 in
theorem gL_law_X6_init : GoodIn wsL_law (wsX6_init) := ggL_law_X6_init
set_option maxRecDepth 20000 in
theorem ggL_law_L_state : GoodIn wsL_law wsL_state := goodIn_ca (goodIn_ca (goodIn_r _ [107, 108, 109, 110, 111, 2, 112, 113, 114, 115, 116, 117, 118, 119, 120, 121, 122, 123, 124, 15, 1011, 1012, 1013, 1014, 1015, 1016, 1017] (by decide +kernel) (by decide +kernel)) (goodIn_sub (fun _ h => List.mem_append_left _ (List.mem_append_left _ (List.mem_append_left _ (List.mem_append_left _ (List.mem_append_left _ (List.mem_append_left _ (List.mem_append_right _ h))))))) (by decide +kernel))) (goodIn_sub (fun _ h => List.mem_append_left _ (List.mem_append_left _ (List.mem_append_left _ (List.mem_append_left _ (List.mem_append_left _ (List.mem_append_right _ h)))))) (by decide +kernel))
set_option maxRecDepth 20000 in
theorem gL_law_L_state : GoodIn wsL_law (va_wsS RL 137 yL_state wsL_state) := goodIn_app (goodIn_of _ (by decide +kernel)) ggL_law_L_state
set_option maxRecDepth 20000 in
theorem ggL_law_X6_state : GoodIn wsL_law wsX6_state := goodIn_ca (goodIn_r _ [128, 129, 81, 130, 131, 5, 132, 133, 134, 135, 136, 1018, 1019, 1020, 1021, 1022, 1023, 1024, 1025, 1026, 1027, 1028, 1029, 1030, 1031, 1032, 1033, 1034, 1035, 1036, 1037, 1038, 1039, 1040, 1041, 1042, 1043, 1044, 1045, 1046] (by decide +kernel) (by decide +kernel)) (goodIn_sub (fun _ h => List.mem_append_left _ (List.mem_append_left _ (List.mem_append_left _ (List.mem_append_left _ (List.mem_append_left _ (List.mem_append_left _ (List.mem_append_right _ h))))))) (by decide +kernel))
set_option maxRecDepth 20000 in
theorem gL_law_X6_state : GoodIn wsL_law (wsV RL 142 RX6 yX6_state wsX6_state) := goodIn_app (goodIn_of _ (by decide +kernel)) ggL_law_X6_state
set_option maxRecDepth 20000 in
theorem ggL_law_X6_thrown : GoodIn wsL_law wsX6_thrown := goodIn_r _ [140, 129, 1018, 1019, 1020, 1021, 1022, 1023, 1024, 1025, 1026, 1027, 1028, 1029, 1030, 1031, 1032, 1033, 1034, 1035, 1036, 1037, 1038, 1039, 1040, 1041, 1042, 1043, 1044, 1045, 1046] (by decide +kernel) (by decide +kernel)
set_option maxRecDepth 20000 in
theorem gL_law_X6_thrown : GoodIn wsL_law (wsV RL 143 RX6 yX6_thrown wsX6_thrown) := goodIn_app (goodIn_of _ (by decide +kernel)) ggL_law_X6_thrown
set_option maxRecDepth 20000 in
theorem ggL_law_L_raise : GoodIn wsL_law wsL_raise := goodIn_ca (goodIn_ca (goodIn_ca (goodIn_ca (goodIn_r _ [143, 108, 144, 145, 146, 2, 147, 148, 149, 23, 19, 150, 151, 152, 153, 116, 117, 113, 114, 115, 118, 119, 120, 154, 155, 156, 157, 158, 159, 160, 161, 162, 163, 164, 22, 165, 50, 166, 167, 168, 169, 170, 171, 172, 173, 174, 175, 18, 176, 177, 178, 179, 180, 181, 40, 41, 43, 182, 183, 184, 185, 186, 187, 188, 189, 190, 191, 192, 46, 193, 194, 195, 196, 51, 52, 1011, 1012, 1013, 1014, 1015, 1016, 1017, 1056, 1057, 1058, 1047, 1048, 1049, 1050, 1051, 1052, 1053, 1054, 1055] (by decide +kernel) (by decide +kernel)) (goodIn_sub (fun _ h => List.mem_append_left _ (List.mem_append_left _ (List.mem_append_left _ (List.mem_append_left _ (List.mem_append_left _ (List.mem_append_left _ (List.mem_append_right _ h))))))) (by decide +kernel))) (goodIn_sub (fun _ h => List.mem_append_left _ (List.mem_append_left _ (List.mem_append_left _ (List.mem_append_left _ (List.mem_append_right _ h))))) (by decide +kernel))) (goodIn_sub (fun _ h => List.mem_append_left _ (List.mem_append_left _ (List.mem_append_left _ (List.mem_append_left _ (List.mem_append_left _ (List.mem_append_right _ h)))))) (by decide +kernel))) (goodIn_sub (fun _ h => List.mem_append_left _ (List.mem_append_left _ (List.mem_append_left _ (List.mem_append_right _ h)))) (by decide +kernel))
set_option maxRecDepth 20000 in
theorem gL_law_L_raise : GoodIn wsL_law (va_wsS RL 146 yL_raise wsL_raise) := goodIn_app (goodIn_of _ (by decide +kernel)) ggL_law_L_raise
set_option maxRecDepth 20000 in
theorem ggL_law_X6_raise : GoodIn wsL_law wsX6_raise := goodIn_ca (goodIn_r _ [200, 201, 129, 87, 202, 88, 89, 203, 204, 205, 5, 206, 207, 130, 131, 132, 133, 134, 135, 136, 208, 209, 210, 211, 82, 83, 84, 212, 85, 86, 1018, 1019, 1020, 1021, 1022, 1023, 1024, 1025, 1026, 1027, 1028, 1029, 1030, 1031, 1032, 1033, 1034, 1035, 1036, 1037, 1038, 1039, 1040, 1041, 1042, 1043, 1044, 1045, 1046] (by decide +kernel) (by decide +kernel)) (goodIn_sub (fun _ h => List.mem_append_left _ (List.mem_append_left _ (List.mem_append_left _ (List.mem_append_left _ (List.mem_append_left _ (List.mem_append_left _ (List.mem_append_right _ h))))))) (by decide +kernel))
set_option maxRecDepth 20000 in
theorem gL_law_X6_raise : GoodIn wsL_law (wsV RL 149 RX6 yX6_raise wsX6_raise) := goodIn_app (goodIn_of _ (by decide +kernel)) ggL_law_X6_raise
set_option maxRecDepth 20000 in
theorem ggL_law_L_clear : GoodIn wsL_law wsL_clear := goodIn_ca (goodIn_ca (goodIn_ca (goodIn_r _ [215, 108, 216, 217, 218, 2, 219, 23, 19, 151, 152, 153, 116, 117, 113, 114, 115, 118, 119, 120, 159, 160, 161, 220, 221, 222, 223, 224, 225, 162, 163, 164, 22, 165, 50, 166, 167, 168, 226, 227, 228, 229, 51, 230, 231, 232, 233, 234, 235, 236, 237, 18, 238, 43, 182, 239, 240, 241, 242, 184, 185, 186, 187, 177, 188, 189, 190, 191, 192, 46, 1011, 1012, 1013, 1014, 1015, 1016, 1017, 1056, 1057, 1058, 1047, 1048, 1049, 1050, 1051, 1052, 1053, 1054, 1055] (by decide +kernel) (by decide +kernel)) (goodIn_sub (fun _ h => List.mem_append_left _ (List.mem_append_left _ (List.mem_append_left _ (List.mem_append_left _ (List.mem_append_left _ (List.mem_append_left _ (List.mem_append_right _ h))))))) (by decide +kernel))) (goodIn_sub (fun _ h => List.mem_append_left _ (List.mem_append_left _ (List.mem_append_left _ (List.mem_append_left _ (List.mem_append_left _ (List.mem_append_right _ h)))))) (by decide +kernel))) (goodIn_sub (fun _ h => List.mem_append_left _ (List.mem_append_left _ (List.mem_append_right _ h))) (by decide +kernel))
set_option maxRecDepth 20000 in
theorem gL_law_L_clear : GoodIn wsL_law (va_wsS RL 150 yL_clear wsL_clear) := goodIn_app (goodIn_of _ (by decide +kernel)) ggL_law_L_clear
set_option maxRecDepth 20000 in
theorem ggL_law_X6_clear : GoodIn wsL_law wsX6_clear := goodIn_ca (goodIn_r _ [246, 87, 129, 83, 203, 204, 205, 5, 206, 207, 130, 131, 132, 133, 134, 135, 136, 1018, 1019, 1020, 1021, 1022, 1023, 1024, 1025, 1026, 1027, 1028, 1029, 1030, 1031, 1032, 1033, 1034, 1035, 1036, 1037, 1038, 1039, 1040, 1041, 1042, 1043, 1044, 1045, 1046] (by decide +kernel) (by decide +kernel)) (goodIn_sub (fun _ h => List.mem_append_left _ (List.mem_append_left _ (List.mem_append_left _ (List.mem_append_left _ (List.mem_append_left _ (List.mem_append_left _ (List.mem_append_right _ h))))))) (by decide +kernel))
set_option maxRecDepth 20000 in
theorem gL_law_X6_clear : GoodIn wsL_law (wsV RL 153 RX6 yX6_clear wsX6_clear) := goodIn_app (goodIn_of _ (by decide +kernel)) ggL_law_X6_clear
set_option maxRecDepth 20000 in
theorem ggL_law_L_shelve : GoodIn wsL_law wsL_shelve := goodIn_ca (goodIn_ca (goodIn_ca (goodIn_ca (goodIn_ca (goodIn_r _ [249, 108, 250, 251, 252, 2, 253, 157, 158, 148, 149, 23, 150, 151, 152, 153, 116, 117, 113, 114, 115, 118, 119, 120, 159, 160, 161, 220, 221, 222, 223, 224, 225, 162, 163, 164, 22, 165, 50, 166, 167, 168, 254, 255, 256, 257, 52, 230, 258, 259, 260, 261, 1011, 1012, 1013, 1014, 1015, 1016, 1017, 1056, 1057, 1058] (by decide +kernel) (by decide +kernel)) (goodIn_sub (fun _ h => List.mem_append_left _ (List.mem_append_left _ (List.mem_append_left _ (List.mem_append_left _ (List.mem_append_left _ (List.mem_append_left _ (List.mem_append_right _ h))))))) (by decide +kernel))) (goodIn_sub (fun _ h => List.mem_append_left _ (List.mem_append_left _ (List.mem_append_left _ (List.mem_append_right _ h)))) (by decide +kernel))) (goodIn_sub (fun _ h => List.mem_append_left _ (List.mem_append_left _ (List.mem_append_left _ (List.mem_append_left _ (List.mem_append_right _ h))))) (by decide +kernel))) (goodIn_sub (fun _ h => List.mem_append_left _ (List.mem_append_left _ (List.mem_append_left _ (List.mem_append_left _ (List.mem_append_left _ (List.mem_append_right _ h)))))) (by decide +kernel))) (goodIn_sub (fun _ h => List.mem_append_left _ (List.mem_append_left _ (List.mem_append_right _ h))) (by decide +kernel))
set_option maxRecDepth 20000 in
theorem gL_law_L_shelve : GoodIn wsL_law (va_wsS RL 154 yL_shelve wsL_shelve) := goodIn_app (goodIn_of _ (by decide +kernel)) ggL_law_L_shelve
set_option maxRecDepth 20000 in
theorem ggL_law_X6_shelve : GoodIn wsL_law wsX6_shelve := goodIn_ca (goodIn_r _ [265, 87, 129, 266, 89, 212, 203, 204, 205, 5, 206, 207, 130, 131, 132, 133, 134, 135, 136, 267, 268, 269, 270, 1018, 1019, 1020, 1021, 1022, 1023, 1024, 1025, 1026, 1027, 1028, 1029, 1030, 1031, 1032, 1033, 1034, 1035, 1036, 1037, 1038, 1039, 1040, 1041, 1042, 1043, 1044, 1045, 1046] (by decide +kernel) (by decide +kernel)) (goodIn_sub (fun _ h => List.mem_append_left _ (List.mem_append_left _ (List.mem_append_left _ (List.mem_append_left _ (List.mem_append_left _ (List.mem_append_left _ (List.mem_append_right _ h))))))) (by decide +kernel))
set_option maxRecDepth 20000 in
theorem gL_law_X6_shelve : GoodIn wsL_law (wsV RL 156 RX6 yX6_shelve wsX6_shelve) := goodIn_app (goodIn_of _ (by decide +kernel)) ggL_law_X6_shelve
set_option maxRecDepth 20000 in
theorem ggL_law_L_isShelved : GoodIn wsL_law wsL_isShelved := goodIn_ca (goodIn_ca (goodIn_r _ [273, 108, 274, 275, 276, 2, 277, 23, 150, 151, 152, 153, 116, 117, 113, 114, 115, 118, 119, 120, 159, 160, 161, 254, 255, 256, 22, 257, 52, 230, 163, 164, 165, 50, 166, 167, 168, 1011, 1012, 1013, 1014, 1015, 1016, 1017, 1056, 1057, 1058] (by decide +kernel) (by decide +kernel)) (goodIn_sub (fun _ h => List.mem_append_left _ (List.mem_append_left _ (List.mem_append_left _ (List.mem_append_left _ (List.mem_append_left _ (List.mem_append_left _ (List.mem_append_right _ h))))))) (by decide +kernel))) (goodIn_sub (fun _ h => List.mem_append_left _ (List.mem_append_left _ (List.mem_append_left _ (List.mem_append_left _ (List.mem_append_left _ (List.mem_append_right _ h)))))) (by decide +kernel))
set_option maxRecDepth 20000 in
theorem gL_law_L_isShelved : GoodIn wsL_law (va_wsS RL 157 yL_isShelved wsL_isShelved) := goodIn_app (goodIn_of _ (by decide +kernel)) ggL_law_L_isShelved
set_option maxRecDepth 20000 in
theorem ggL_law_X6_isShelved_ : GoodIn wsL_law wsX6_isShelved_ := goodIn_ca (goodIn_r _ [281, 129, 203, 204, 205, 5, 206, 207, 130, 131, 132, 133, 134, 135, 136, 267, 268, 269, 270, 87, 212, 89, 1018, 1019, 1020, 1021, 1022, 1023, 1024, 1025, 1026, 1027, 1028, 1029, 1030, 1031, 1032, 1033, 1034, 1035, 1036, 1037, 1038, 1039, 1040, 1041, 1042, 1043, 1044, 1045, 1046] (by decide +kernel) (by decide +kernel)) (goodIn_sub (fun _ h => List.mem_append_left _ (List.mem_append_left _ (List.mem_append_left _ (List.mem_append_left _ (List.mem_append_left _ (List.mem_append_left _ (List.mem_append_right _ h))))))) (by decide +kernel))
set_option maxRecDepth 20000 in
theorem gL_law_X6_isShelved_ : GoodIn wsL_law (wsV RL 159 RX6 yX6_isShelved_ wsX6_isShelved_) := goodIn_app (goodIn_of _ (by decide +kernel)) ggL_law_X6_isShelved_
set_option maxRecDepth 20000 in
theorem ggL_law_L_alarms : GoodIn wsL_law wsL_alarms := goodIn_ca (goodIn_ca (goodIn_r _ [284, 285, 286, 287, 288, 2, 289, 23, 150, 154, 155, 156, 157, 158, 290, 291, 292, 22, 293, 50, 294, 295, 296, 297, 230, 163, 164, 165, 166, 167, 168, 298, 255, 256, 257, 52, 1011, 1012, 1013, 1014, 1015, 1016, 1017, 1056, 1057, 1058] (by decide +kernel) (by decide +kernel)) (goodIn_sub (fun _ h => List.mem_append_left _ (List.mem_append_left _ (List.mem_append_left _ (List.mem_append_left _ (List.mem_append_left _ (List.mem_append_left _ (List.mem_append_right _ h))))))) (by decide +kernel))) (goodIn_sub (fun _ h => List.mem_append_left _ (List.mem_append_left _ (List.mem_append_left _ (List.mem_append_right _ h)))) (by decide +kernel))
set_option maxRecDepth 20000 in
theorem gL_law_L_alarms : GoodIn wsL_law (va_wsS RL 160 yL_alarms wsL_alarms) := goodIn_app (goodIn_of _ (by decide +kernel)) ggL_law_L_alarms
set_option maxRecDepth 20000 in
theorem ggL_law_X6_alarms : GoodIn wsL_law wsX6_alarms := goodIn_ca (goodIn_r _ [302, 201, 129, 87, 88, 134, 135, 5, 136, 267, 268, 269, 270, 212, 89, 1018, 1019, 1020, 1021, 1022, 1023, 1024, 1025, 1026, 1027, 1028, 1029, 1030, 1031, 1032, 1033, 1034, 1035, 1036, 1037, 1038, 1039, 1040, 1041, 1042, 1043, 1044, 1045, 1046] (by decide +kernel) (by decide +kernel)) (goodIn_sub (fun _ h => List.mem_append_left _ (List.mem_append_left _ (List.mem_append_left _ (List.mem_append_left _ (List.mem_append_left _ (List.mem_append_left _ (List.mem_append_right _ h))))))) (by decide +kernel))
set_option maxRecDepth 20000 in
theorem gL_law_X6_alarms : GoodIn wsL_law (wsV RL 162 RX6 yX6_alarms wsX6_alarms) := goodIn_app (goodIn_of _ (by decide +kernel)) ggL_law_X6_alarms
set_option maxRecDepth 20000 in
theorem ggL_law_L_top : GoodIn wsL_law wsL_top := goodIn_ca (goodIn_ca (goodIn_r _ [305, 306, 307, 308, 309, 2, 310, 224, 225, 23, 150, 311, 312, 313, 22, 314, 294, 295, 296, 297, 230, 163, 164, 165, 50, 166, 167, 168, 298, 255, 256, 257, 52, 315, 316, 317, 318, 51, 319, 227, 228, 229, 1011, 1012, 1013, 1014, 1015, 1016, 1017, 1056, 1057, 1058] (by decide +kernel) (by decide +kernel)) (goodIn_sub (fun _ h => List.mem_append_left _ (List.mem_append_left _ (List.mem_append_left _ (List.mem_append_left _ (List.mem_append_left _ (List.mem_append_left _ (List.mem_append_right _ h))))))) (by decide +kernel))) (goodIn_sub (fun _ h => List.mem_append_left _ (List.mem_append_left _ (List.mem_append_right _ h))) (by decide +kernel))
set_option maxRecDepth 20000 in
theorem gL_law_L_top : GoodIn wsL_law (va_wsS RL 163 yL_top wsL_top) := goodIn_app (goodIn_of _ (by decide +kernel)) ggL_law_L_top
set_option maxRecDepth 20000 in
theorem ggL_law_X6_top : GoodIn wsL_law wsX6_top := goodIn_ca (goodIn_r _ [323, 87, 88, 129, 267, 268, 269, 5, 270, 212, 89, 1018, 1019, 1020, 1021, 1022, 1023, 1024, 1025, 1026, 1027, 1028, 1029, 1030, 1031, 1032, 1033, 1034, 1035, 1036, 1037, 1038, 1039, 1040, 1041, 1042, 1043, 1044, 1045, 1046] (by decide +kernel) (by decide +kernel)) (goodIn_sub (fun _ h => List.mem_append_left _ (List.mem_append_left _ (List.mem_append_left _ (List.mem_append_left _ (List.mem_append_left _ (List.mem_append_left _ (List.mem_append_right _ h))))))) (by decide +kernel))
set_option maxRecDepth 20000 in
theorem gL_law_X6_top : GoodIn wsL_law (wsV RL 166 RX6 yX6_top wsX6_top) := goodIn_app (goodIn_of _ (by decide +kernel)) ggL_law_X6_top
set_option maxRecDepth 20000 in
theorem ggL_law_L_addProcedure : GoodIn wsL_law wsL_addProcedure := goodIn_ca (goodIn_ca (goodIn_r _ [326, 327, 328, 329, 330, 2, 331, 148, 149, 27, 332, 333, 334, 26, 335, 336, 337, 338, 339, 340, 1011, 1012, 1013, 1014, 1015, 1016, 1017, 1059, 1060, 1061, 1062, 1063, 1064, 1065, 1066, 1067, 1068] (by decide +kernel) (by decide +kernel)) (goodIn_sub (fun _ h => List.mem_append_left _ (List.mem_append_left _ (List.mem_append_left _ (List.mem_append_left _ (List.mem_append_left _ (List.mem_append_left _ (List.mem_append_right _ h))))))) (by decide +kernel))) (goodIn_sub (fun _ h => List.mem_append_left _ (List.mem_append_left _ (List.mem_append_left _ (List.mem_append_left _ (List.mem_append_right _ h))))) (by decide +kernel))
set_option maxRecDepth 20000 in
theorem gL_law_L_addProcedure : GoodIn wsL_law (va_wsS RL 167 yL_addProcedure wsL_addProcedure) := goodIn_app (goodIn_of _ (by decide +kernel)) ggL_law_L_addProcedure
set_option maxRecDepth 20000 in
theorem ggL_law_X6_addProcedure : GoodIn wsL_law wsX6_addProcedure := goodIn_r _ [344, 345, 129, 1018, 1019, 1020, 1021, 1022, 1023, 1024, 1025, 1026, 1027, 1028, 1029, 1030, 1031, 1032, 1033, 1034, 1035, 1036, 1037, 1038, 1039, 1040, 1041, 1042, 1043, 1044, 1045, 1046] (by decide +kernel) (by decide +kernel)
set_option maxRecDepth 20000 in
theorem gL_law_X6_addProcedure : GoodIn wsL_law (wsV RL 169 RX6 yX6_addProcedure wsX6_addProcedure) := goodIn_app (goodIn_of _ (by decide +kernel)) ggL_law_X6_addProcedure
set_option maxRecDepth 20000 in
theorem ggL_law_L_addStep : GoodIn wsL_law wsL_addStep := goodIn_ca (goodIn_ca (goodIn_ca (goodIn_ca (goodIn_ca (goodIn_r _ [348, 306, 349, 350, 351, 2, 352, 148, 149, 27, 353, 354, 355, 356, 224, 225, 357, 358, 359, 26, 360, 336, 113, 114, 115, 116, 117, 118, 119, 120, 361, 362, 363, 157, 158, 364, 365, 366, 367, 56, 368, 369, 370, 371, 372, 63, 64, 373, 374, 375, 376, 377, 378, 379, 380, 381, 58, 59, 382, 383, 384, 385, 60, 61, 386, 387, 388, 1011, 1012, 1013, 1014, 1015, 1016, 1017, 1059, 1060, 1061, 1062, 1063, 1064, 1065, 1066, 1067, 1068] (by decide +kernel) (by decide +kernel)) (goodIn_sub (fun _ h => List.mem_append_left _ (List.mem_append_left _ (List.mem_append_left _ (List.mem_append_left _ (List.mem_append_left _ (List.mem_append_left _ (List.mem_append_right _ h))))))) (by decide +kernel))) (goodIn_sub (fun _ h => List.mem_append_left _ (List.mem_append_left _ (List.mem_append_left _ (List.mem_append_left _ (List.mem_append_right _ h))))) (by decide +kernel))) (goodIn_sub (fun _ h => List.mem_append_left _ (List.mem_append_left _ (List.mem_append_right _ h))) (by decide +kernel))) (goodIn_sub (fun _ h => List.mem_append_left _ (List.mem_append_left _ (List.mem_append_left _ (List.mem_append_left _ (List.mem_append_left _ (List.mem_append_right _ h)))))) (by decide +kernel))) (goodIn_sub (fun _ h => List.mem_append_left _ (List.mem_append_left _ (List.mem_append_left _ (List.mem_append_right _ h)))) (by decide +kernel))
set_option maxRecDepth 20000 in
theorem gL_law_L_addStep : GoodIn wsL_law (va_wsS RL 170 yL_addStep wsL_addStep) := goodIn_app (goodIn_of _ (by decide +kernel)) ggL_law_L_addStep
set_option maxRecDepth 20000 in
theorem ggL_law_X6_addStep : GoodIn wsL_law wsX6_addStep := goodIn_ca (goodIn_r _ [392, 129, 207, 97, 90, 91, 92, 93, 95, 96, 393, 394, 395, 5, 396, 345, 134, 135, 136, 130, 131, 132, 133, 1018, 1019, 1020, 1021, 1022, 1023, 1024, 1025, 1026, 1027, 1028, 1029, 1030, 1031, 1032, 1033, 1034, 1035, 1036, 1037, 1038, 1039, 1040, 1041, 1042, 1043, 1044, 1045, 1046] (by decide +kernel) (by decide +kernel)) (goodIn_sub (fun _ h => List.mem_append_left _ (List.mem_append_left _ (List.mem_append_left _ (List.mem_append_left _ (List.mem_append_left _ (List.mem_append_left _ (List.mem_append_right _ h))))))) (by decide +kernel))
set_option maxRecDepth 20000 in
theorem gL_law_X6_addStep : GoodIn wsL_law (wsV RL 173 RX6 yX6_addStep wsX6_addStep) := goodIn_app (goodIn_of _ (by decide +kernel)) ggL_law_X6_addStep
set_option maxRecDepth 20000 in
theorem ggL_law_L_done : GoodIn wsL_law wsL_done := goodIn_ca (goodIn_ca (goodIn_r _ [399, 306, 400, 401, 402, 2, 403, 27, 353, 354, 355, 356, 224, 225, 357, 358, 359, 26, 360, 336, 404, 405, 406, 407, 57, 368, 1011, 1012, 1013, 1014, 1015, 1016, 1017, 1059, 1060, 1061, 1062, 1063, 1064, 1065, 1066, 1067, 1068] (by decide +kernel) (by decide +kernel)) (goodIn_sub (fun _ h => List.mem_append_left _ (List.mem_append_left _ (List.mem_append_left _ (List.mem_append_left _ (List.mem_append_left _ (List.mem_append_left _ (List.mem_append_right _ h))))))) (by decide +kernel))) (goodIn_sub (fun _ h => List.mem_append_left _ (List.mem_append_left _ (List.mem_append_right _ h))) (by decide +kernel))
set_option maxRecDepth 20000 in
theorem gL_law_L_done : GoodIn wsL_law (va_wsS RL 174 yL_done wsL_done) := goodIn_app (goodIn_of _ (by decide +kernel)) ggL_law_L_done
set_option maxRecDepth 20000 in
theorem ggL_law_X6_done : GoodIn wsL_law wsX6_done := goodIn_ca (goodIn_r _ [411, 98, 412, 413, 414, 5, 415, 129, 393, 394, 395, 396, 345, 134, 135, 136, 1018, 1019, 1020, 1021, 1022, 1023, 1024, 1025, 1026, 1027, 1028, 1029, 1030, 1031, 1032, 1033, 1034, 1035, 1036, 1037, 1038, 1039, 1040, 1041, 1042, 1043, 1044, 1045, 1046] (by decide +kernel) (by decide +kernel)) (goodIn_sub (fun _ h => List.mem_append_left _ (List.mem_append_left _ (List.mem_append_left _ (List.mem_append_left _ (List.mem_append_left _ (List.mem_append_left _ (List.mem_append_right _ h))))))) (by decide +kernel))
set_option maxRecDepth 20000 in
theorem gL_law_X6_done : GoodIn wsL_law (wsV RL 176 RX6 yX6_done wsX6_done) := goodIn_app (goodIn_of _ (by decide +kernel)) ggL_law_X6_done
set_option maxRecDepth 20000 in
theorem ggL_law_L_reason : GoodIn wsL_law wsL_reason := goodIn_ca (goodIn_ca (goodIn_r _ [418, 306, 419, 420, 421, 2, 422, 353, 354, 355, 356, 224, 225, 27, 357, 358, 359, 26, 360, 336, 423, 424, 425, 426, 35, 150, 31, 427, 428, 429, 430, 431, 405, 406, 407, 57, 368, 432, 365, 366, 367, 56, 373, 374, 433, 434, 435, 34, 436, 75, 76, 437, 438, 439, 440, 441, 442, 443, 444, 445, 60, 375, 376, 377, 446, 447, 448, 118, 119, 120, 449, 450, 451, 30, 452, 68, 453, 454, 455, 456, 70, 457, 458, 459, 460, 461, 462, 463, 464, 465, 58, 121, 122, 123, 124, 15, 466, 467, 468, 469, 59, 1011, 1012, 1013, 1014, 1015, 1016, 1017, 1059, 1060, 1061, 1062, 1063, 1064, 1065, 1066, 1067, 1068, 1073, 1074, 1075, 1076, 1069, 1070, 1071, 1072] (by decide +kernel) (by decide +kernel)) (goodIn_sub (fun _ h => List.mem_append_left _ (List.mem_append_left _ (List.mem_append_left _ (List.mem_append_left _ (List.mem_append_left _ (List.mem_append_left _ (List.mem_append_right _ h))))))) (by decide +kernel))) (goodIn_sub (fun _ h => List.mem_append_left _ (List.mem_append_left _ (List.mem_append_right _ h))) (by decide +kernel))
set_option maxRecDepth 20000 in
theorem gL_law_L_reason : GoodIn wsL_law (va_wsS RL 177 yL_reason wsL_reason) := goodIn_app (goodIn_of _ (by decide +kernel)) ggL_law_L_reason
set_option maxRecDepth 20000 in
theorem ggL_law_X6_reason : GoodIn wsL_law wsX6_reason := goodIn_ca (goodIn_r _ [473, 412, 413, 414, 5, 415, 129, 393, 394, 395, 396, 345, 134, 135, 136, 474, 475, 476, 477, 98, 97, 81, 90, 91, 92, 478, 479, 480, 481, 101, 102, 482, 483, 484, 485, 212, 486, 487, 488, 489, 490, 491, 83, 100, 99, 1018, 1019, 1020, 1021, 1022, 1023, 1024, 1025, 1026, 1027, 1028, 1029, 1030, 1031, 1032, 1033, 1034, 1035, 1036, 1037, 1038, 1039, 1040, 1041, 1042, 1043, 1044, 1045, 1046] (by decide +kernel) (by decide +kernel)) (goodIn_sub (fun _ h => List.mem_append_left _ (List.mem_append_left _ (List.mem_append_left _ (List.mem_append_left _ (List.mem_append_left _ (List.mem_append_left _ (List.mem_append_right _ h))))))) (by decide +kernel))
set_option maxRecDepth 20000 in
theorem gL_law_X6_reason : GoodIn wsL_law (wsV RL 179 RX6 yX6_reason wsX6_reason) := goodIn_app (goodIn_of _ (by decide +kernel)) ggL_law_X6_reason
set_option maxRecDepth 20000 in
theorem ggL_law_L_barredBy : GoodIn wsL_law wsL_barredBy := goodIn_ca (goodIn_ca (goodIn_r _ [494, 306, 495, 496, 497, 2, 498, 224, 225, 27, 31, 353, 354, 355, 356, 357, 358, 359, 26, 360, 336, 427, 428, 429, 430, 431, 405, 406, 407, 57, 368, 432, 365, 366, 367, 56, 373, 374, 442, 443, 444, 445, 60, 375, 376, 377, 446, 447, 448, 118, 119, 120, 449, 450, 451, 30, 452, 68, 453, 454, 455, 456, 70, 457, 458, 459, 460, 461, 1011, 1012, 1013, 1014, 1015, 1016, 1017, 1059, 1060, 1061, 1062, 1063, 1064, 1065, 1066, 1067, 1068, 1069, 1070, 1071, 1072] (by decide +kernel) (by decide +kernel)) (goodIn_sub (fun _ h => List.mem_append_left _ (List.mem_append_left _ (List.mem_append_left _ (List.mem_append_left _ (List.mem_append_left _ (List.mem_append_left _ (List.mem_append_right _ h))))))) (by decide +kernel))) (goodIn_sub (fun _ h => List.mem_append_left _ (List.mem_append_left _ (List.mem_append_right _ h))) (by decide +kernel))
set_option maxRecDepth 20000 in
theorem gL_law_L_barredBy : GoodIn wsL_law (va_wsS RL 180 yL_barredBy wsL_barredBy) := goodIn_app (goodIn_of _ (by decide +kernel)) ggL_law_L_barredBy
set_option maxRecDepth 20000 in
theorem ggL_law_X6_barredBy : GoodIn wsL_law wsX6_barredBy := goodIn_ca (goodIn_r _ [502, 98, 97, 92, 129, 412, 413, 414, 5, 415, 393, 394, 395, 396, 345, 134, 135, 136, 487, 488, 489, 490, 491, 83, 100, 99, 1018, 1019, 1020, 1021, 1022, 1023, 1024, 1025, 1026, 1027, 1028, 1029, 1030, 1031, 1032, 1033, 1034, 1035, 1036, 1037, 1038, 1039, 1040, 1041, 1042, 1043, 1044, 1045, 1046] (by decide +kernel) (by decide +kernel)) (goodIn_sub (fun _ h => List.mem_append_left _ (List.mem_append_left _ (List.mem_append_left _ (List.mem_append_left _ (List.mem_append_left _ (List.mem_append_left _ (List.mem_append_right _ h))))))) (by decide +kernel))
set_option maxRecDepth 20000 in
theorem gL_law_X6_barredBy : GoodIn wsL_law (wsV RL 182 RX6 yX6_barredBy wsX6_barredBy) := goodIn_app (goodIn_of _ (by decide +kernel)) ggL_law_X6_barredBy
set_option maxRecDepth 20000 in
theorem ggL_law_L_step : GoodIn wsL_law wsL_step := goodIn_ca (goodIn_ca (goodIn_ca (goodIn_r _ [505, 306, 506, 507, 508, 2, 509, 148, 149, 27, 150, 353, 354, 355, 356, 224, 225, 357, 358, 359, 26, 360, 336, 423, 424, 425, 426, 35, 31, 427, 428, 429, 430, 431, 405, 406, 407, 57, 368, 432, 365, 366, 367, 56, 373, 374, 433, 434, 435, 34, 436, 75, 76, 437, 438, 439, 440, 441, 442, 443, 444, 445, 60, 375, 376, 377, 446, 447, 448, 118, 119, 120, 449, 450, 451, 30, 452, 68, 453, 454, 455, 456, 70, 457, 458, 459, 460, 461, 462, 463, 464, 465, 58, 121, 122, 123, 124, 15, 466, 467, 468, 469, 59, 510, 511, 512, 513, 62, 63, 514, 515, 516, 517, 518, 61, 519, 520, 521, 522, 523, 524, 525, 526, 19, 527, 528, 529, 530, 64, 531, 532, 533, 534, 387, 388, 535, 536, 537, 538, 235, 236, 237, 18, 238, 43, 182, 239, 240, 241, 242, 184, 185, 186, 187, 177, 188, 189, 190, 191, 192, 46, 539, 540, 541, 542, 386, 1011, 1012, 1013, 1014, 1015, 1016, 1017, 1059, 1060, 1061, 1062, 1063, 1064, 1065, 1066, 1067, 1068, 1073, 1074, 1075, 1076, 1069, 1070, 1071, 1072, 1047, 1048, 1049, 1050, 1051, 1052, 1053, 1054, 1055] (by decide +kernel) (by decide +kernel)) (goodIn_sub (fun _ h => List.mem_append_left _ (List.mem_append_left _ (List.mem_append_left _ (List.mem_append_left _ (List.mem_append_left _ (List.mem_append_left _ (List.mem_append_right _ h))))))) (by decide +kernel))) (goodIn_sub (fun _ h => List.mem_append_left _ (List.mem_append_left _ (List.mem_append_left _ (List.mem_append_left _ (List.mem_append_right _ h))))) (by decide +kernel))) (goodIn_sub (fun _ h => List.mem_append_left _ (List.mem_append_left _ (List.mem_append_right _ h))) (by decide +kernel))
set_option maxRecDepth 20000 in
theorem gL_law_L_step : GoodIn wsL_law (va_wsS RL 183 yL_step wsL_step) := goodIn_app (goodIn_of _ (by decide +kernel)) ggL_law_L_step
set_option maxRecDepth 20000 in
theorem ggL_law_X6_step : GoodIn wsL_law wsX6_step := goodIn_ca (goodIn_r _ [546, 129, 98, 94, 81, 92, 93, 95, 212, 393, 394, 395, 5, 396, 345, 134, 135, 136, 474, 475, 476, 477, 97, 90, 91, 478, 479, 480, 481, 101, 102, 482, 483, 484, 485, 486, 487, 488, 489, 490, 491, 83, 100, 99, 547, 548, 549, 550, 96, 1018, 1019, 1020, 1021, 1022, 1023, 1024, 1025, 1026, 1027, 1028, 1029, 1030, 1031, 1032, 1033, 1034, 1035, 1036, 1037, 1038, 1039, 1040, 1041, 1042, 1043, 1044, 1045, 1046] (by decide +kernel) (by decide +kernel)) (goodIn_sub (fun _ h => List.mem_append_left _ (List.mem_append_left _ (List.mem_append_left _ (List.mem_append_left _ (List.mem_append_left _ (List.mem_append_left _ (List.mem_append_right _ h))))))) (by decide +kernel))
set_option maxRecDepth 20000 in
theorem gL_law_X6_step : GoodIn wsL_law (wsV RL 185 RX6 yX6_step wsX6_step) := goodIn_app (goodIn_of _ (by decide +kernel)) ggL_law_X6_step
set_option maxRecDepth 20000 in
theorem ggL_law_L_undo : GoodIn wsL_law wsL_undo := goodIn_ca (goodIn_ca (goodIn_ca (goodIn_ca (goodIn_r _ [553, 306, 554, 555, 556, 2, 557, 148, 149, 558, 559, 27, 31, 19, 150, 353, 354, 355, 356, 224, 225, 357, 358, 359, 26, 360, 336, 560, 561, 562, 563, 431, 405, 406, 407, 57, 368, 373, 374, 564, 565, 566, 567, 35, 433, 434, 435, 34, 436, 75, 76, 169, 170, 171, 172, 173, 174, 175, 18, 176, 177, 442, 443, 444, 445, 60, 375, 376, 377, 121, 122, 123, 124, 15, 118, 119, 120, 515, 516, 517, 518, 61, 446, 447, 448, 449, 450, 451, 30, 452, 68, 453, 454, 455, 456, 70, 457, 458, 459, 460, 461, 178, 179, 180, 181, 40, 41, 43, 182, 183, 184, 185, 186, 187, 188, 189, 190, 191, 192, 46, 568, 569, 570, 571, 62, 519, 520, 521, 522, 572, 573, 574, 575, 64, 576, 1011, 1012, 1013, 1014, 1015, 1016, 1017, 1059, 1060, 1061, 1062, 1063, 1064, 1065, 1066, 1067, 1068, 1073, 1074, 1075, 1076, 1047, 1048, 1049, 1050, 1051, 1052, 1053, 1054, 1055, 1069, 1070, 1071, 1072] (by decide +kernel) (by decide +kernel)) (goodIn_sub (fun _ h => List.mem_append_left _ (List.mem_append_left _ (List.mem_append_left _ (List.mem_append_left _ (List.mem_append_left _ (List.mem_append_left _ (List.mem_append_right _ h))))))) (by decide +kernel))) (goodIn_sub (fun _ h => List.mem_append_left _ (List.mem_append_left _ (List.mem_append_left _ (List.mem_append_left _ (List.mem_append_right _ h))))) (by decide +kernel))) (goodIn_sub (fun _ h => List.mem_append_left _ (List.mem_append_right _ h)) (by decide +kernel))) (goodIn_sub (fun _ h => List.mem_append_left _ (List.mem_append_left _ (List.mem_append_right _ h))) (by decide +kernel))
set_option maxRecDepth 20000 in
theorem gL_law_L_undo : GoodIn wsL_law (va_wsS RL 186 yL_undo wsL_undo) := goodIn_app (goodIn_of _ (by decide +kernel)) ggL_law_L_undo
set_option maxRecDepth 20000 in
theorem ggL_law_X6_undo : GoodIn wsL_law wsX6_undo := goodIn_ca (goodIn_r _ [580, 98, 202, 129, 81, 92, 93, 94, 96, 393, 394, 395, 5, 396, 345, 134, 135, 136, 478, 479, 480, 481, 101, 102, 487, 488, 489, 490, 491, 83, 100, 99, 208, 209, 210, 211, 82, 84, 212, 85, 86, 1018, 1019, 1020, 1021, 1022, 1023, 1024, 1025, 1026, 1027, 1028, 1029, 1030, 1031, 1032, 1033, 1034, 1035, 1036, 1037, 1038, 1039, 1040, 1041, 1042, 1043, 1044, 1045, 1046] (by decide +kernel) (by decide +kernel)) (goodIn_sub (fun _ h => List.mem_append_left _ (List.mem_append_left _ (List.mem_append_left _ (List.mem_append_left _ (List.mem_append_left _ (List.mem_append_left _ (List.mem_append_right _ h))))))) (by decide +kernel))
set_option maxRecDepth 20000 in
theorem gL_law_X6_undo : GoodIn wsL_law (wsV RL 188 RX6 yX6_undo wsX6_undo) := goodIn_app (goodIn_of _ (by decide +kernel)) ggL_law_X6_undo
set_option maxRecDepth 20000 in
theorem ggL_law_L_reset : GoodIn wsL_law wsL_reset := goodIn_ca (goodIn_ca (goodIn_ca (goodIn_r _ [583, 306, 584, 585, 586, 2, 587, 27, 353, 354, 355, 356, 224, 225, 357, 358, 359, 26, 360, 336, 564, 565, 566, 567, 148, 149, 35, 433, 434, 435, 34, 436, 75, 76, 588, 589, 590, 591, 57, 368, 592, 373, 374, 523, 524, 525, 526, 19, 527, 528, 529, 530, 64, 531, 532, 533, 534, 375, 376, 377, 387, 388, 432, 365, 366, 367, 56, 535, 536, 537, 538, 235, 236, 237, 18, 238, 43, 182, 239, 240, 241, 242, 184, 185, 186, 187, 177, 188, 189, 190, 191, 192, 46, 539, 540, 541, 542, 1011, 1012, 1013, 1014, 1015, 1016, 1017, 1059, 1060, 1061, 1062, 1063, 1064, 1065, 1066, 1067, 1068, 1073, 1074, 1075, 1076, 1047, 1048, 1049, 1050, 1051, 1052, 1053, 1054, 1055] (by decide +kernel) (by decide +kernel)) (goodIn_sub (fun _ h => List.mem_append_left _ (List.mem_append_left _ (List.mem_append_left _ (List.mem_append_left _ (List.mem_append_left _ (List.mem_append_left _ (List.mem_append_right _ h))))))) (by decide +kernel))) (goodIn_sub (fun _ h => List.mem_append_left _ (List.mem_append_left _ (List.mem_append_right _ h))) (by decide +kernel))) (goodIn_sub (fun _ h => List.mem_append_left _ (List.mem_append_left _ (List.mem_append_left _ (List.mem_append_left _ (List.mem_append_right _ h))))) (by decide +kernel))
set_option maxRecDepth 20000 in
theorem gL_law_L_reset : GoodIn wsL_law (va_wsS RL 189 yL_reset wsL_reset) := goodIn_app (goodIn_of _ (by decide +kernel)) ggL_law_L_reset
set_option maxRecDepth 20000 in
theorem ggL_law_X6_reset : GoodIn wsL_law wsX6_reset := goodIn_ca (goodIn_r _ [596, 129, 97, 98, 393, 394, 395, 5, 396, 345, 134, 135, 136, 478, 479, 480, 481, 101, 102, 547, 548, 549, 550, 96, 83, 1018, 1019, 1020, 1021, 1022, 1023, 1024, 1025, 1026, 1027, 1028, 1029, 1030, 1031, 1032, 1033, 1034, 1035, 1036, 1037, 1038, 1039, 1040, 1041, 1042, 1043, 1044, 1045, 1046] (by decide +kernel) (by decide +kernel)) (goodIn_sub (fun _ h => List.mem_append_left _ (List.mem_append_left _ (List.mem_append_left _ (List.mem_append_left _ (List.mem_append_left _ (List.mem_append_left _ (List.mem_append_right _ h))))))) (by decide +kernel))
set_option maxRecDepth 20000 in
theorem gL_law_X6_reset : GoodIn wsL_law (wsV RL 191 RX6 yX6_reset wsX6_reset) := goodIn_app (goodIn_of _ (by decide +kernel)) ggL_law_X6_reset
set_option maxRecDepth 20000 in
theorem ggL_law_L_drill : GoodIn wsL_law wsL_drill := goodIn_ca (goodIn_ca (goodIn_r _ [599, 306, 600, 601, 602, 2, 603, 224, 225, 27, 604, 605, 606, 26, 607, 63, 531, 532, 533, 534, 375, 376, 377, 387, 388, 432, 365, 366, 367, 56, 368, 358, 359, 360, 336, 1011, 1012, 1013, 1014, 1015, 1016, 1017, 1059, 1060, 1061, 1062, 1063, 1064, 1065, 1066, 1067, 1068] (by decide +kernel) (by decide +kernel)) (goodIn_sub (fun _ h => List.mem_append_left _ (List.mem_append_left _ (List.mem_append_left _ (List.mem_append_left _ (List.mem_append_left _ (List.mem_append_left _ (List.mem_append_right _ h))))))) (by decide +kernel))) (goodIn_sub (fun _ h => List.mem_append_left _ (List.mem_append_left _ (List.mem_append_right _ h))) (by decide +kernel))
set_option maxRecDepth 20000 in
theorem gL_law_L_drill : GoodIn wsL_law (va_wsS RL 192 yL_drill wsL_drill) := goodIn_app (goodIn_of _ (by decide +kernel)) ggL_law_L_drill
set_option maxRecDepth 20000 in
theorem ggL_law_X6_drill : GoodIn wsL_law wsX6_drill := goodIn_ca (goodIn_r _ [611, 345, 97, 95, 129, 1018, 1019, 1020, 1021, 1022, 1023, 1024, 1025, 1026, 1027, 1028, 1029, 1030, 1031, 1032, 1033, 1034, 1035, 1036, 1037, 1038, 1039, 1040, 1041, 1042, 1043, 1044, 1045, 1046] (by decide +kernel) (by decide +kernel)) (goodIn_sub (fun _ h => List.mem_append_left _ (List.mem_append_left _ (List.mem_append_left _ (List.mem_append_left _ (List.mem_append_left _ (List.mem_append_left _ (List.mem_append_right _ h))))))) (by decide +kernel))
set_option maxRecDepth 20000 in
theorem gL_law_X6_drill : GoodIn wsL_law (wsV RL 194 RX6 yX6_drill wsX6_drill) := goodIn_app (goodIn_of _ (by decide +kernel)) ggL_law_X6_drill
set_option maxRecDepth 20000 in
theorem ggL_law_L_openPermit : GoodIn wsL_law wsL_openPermit := goodIn_ca (goodIn_ca (goodIn_ca (goodIn_ca (goodIn_r _ [614, 285, 615, 616, 617, 2, 618, 157, 158, 148, 149, 558, 559, 31, 35, 150, 19, 564, 565, 566, 567, 433, 434, 435, 34, 436, 75, 76, 619, 620, 621, 30, 622, 461, 169, 170, 171, 172, 173, 174, 175, 18, 176, 177, 449, 450, 451, 452, 68, 453, 454, 455, 456, 70, 457, 458, 459, 460, 437, 438, 439, 440, 441, 178, 179, 180, 181, 40, 41, 43, 182, 183, 184, 185, 186, 187, 188, 189, 190, 191, 192, 46, 623, 624, 625, 626, 69, 1011, 1012, 1013, 1014, 1015, 1016, 1017, 1073, 1074, 1075, 1076, 1069, 1070, 1071, 1072, 1047, 1048, 1049, 1050, 1051, 1052, 1053, 1054, 1055] (by decide +kernel) (by decide +kernel)) (goodIn_sub (fun _ h => List.mem_append_left _ (List.mem_append_left _ (List.mem_append_left _ (List.mem_append_left _ (List.mem_append_left _ (List.mem_append_left _ (List.mem_append_right _ h))))))) (by decide +kernel))) (goodIn_sub (fun _ h => List.mem_append_left _ (List.mem_append_left _ (List.mem_append_left _ (List.mem_append_right _ h)))) (by decide +kernel))) (goodIn_sub (fun _ h => List.mem_append_left _ (List.mem_append_left _ (List.mem_append_left _ (List.mem_append_left _ (List.mem_append_right _ h))))) (by decide +kernel))) (goodIn_sub (fun _ h => List.mem_append_left _ (List.mem_append_right _ h)) (by decide +kernel))
set_option maxRecDepth 20000 in
theorem gL_law_L_openPermit : GoodIn wsL_law (va_wsS RL 195 yL_openPermit wsL_openPermit) := goodIn_app (goodIn_of _ (by decide +kernel)) ggL_law_L_openPermit
set_option maxRecDepth 20000 in
theorem ggL_law_X6_openPermit : GoodIn wsL_law wsX6_openPermit := goodIn_ca (goodIn_r _ [630, 631, 129, 491, 202, 99, 100, 134, 135, 5, 136, 478, 479, 480, 481, 101, 102, 487, 488, 489, 490, 83, 482, 483, 484, 485, 212, 486, 208, 209, 210, 211, 82, 84, 85, 86, 1018, 1019, 1020, 1021, 1022, 1023, 1024, 1025, 1026, 1027, 1028, 1029, 1030, 1031, 1032, 1033, 1034, 1035, 1036, 1037, 1038, 1039, 1040, 1041, 1042, 1043, 1044, 1045, 1046] (by decide +kernel) (by decide +kernel)) (goodIn_sub (fun _ h => List.mem_append_left _ (List.mem_append_left _ (List.mem_append_left _ (List.mem_append_left _ (List.mem_append_left _ (List.mem_append_left _ (List.mem_append_right _ h))))))) (by decide +kernel))
set_option maxRecDepth 20000 in
theorem gL_law_X6_openPermit : GoodIn wsL_law (wsV RL 197 RX6 yX6_openPermit wsX6_openPermit) := goodIn_app (goodIn_of _ (by decide +kernel)) ggL_law_X6_openPermit
set_option maxRecDepth 20000 in
theorem ggL_law_L_closePermit : GoodIn wsL_law wsL_closePermit := goodIn_ca (goodIn_ca (goodIn_ca (goodIn_r _ [634, 306, 635, 636, 637, 2, 638, 148, 149, 31, 19, 639, 640, 641, 642, 224, 225, 643, 458, 459, 30, 460, 461, 644, 454, 455, 456, 70, 457, 564, 565, 566, 567, 35, 433, 434, 435, 34, 436, 75, 76, 645, 646, 647, 648, 69, 649, 650, 651, 652, 235, 236, 237, 18, 238, 43, 182, 239, 240, 241, 242, 184, 185, 186, 187, 177, 188, 189, 190, 191, 192, 46, 1011, 1012, 1013, 1014, 1015, 1016, 1017, 1069, 1070, 1071, 1072, 1073, 1074, 1075, 1076, 1047, 1048, 1049, 1050, 1051, 1052, 1053, 1054, 1055] (by decide +kernel) (by decide +kernel)) (goodIn_sub (fun _ h => List.mem_append_left _ (List.mem_append_left _ (List.mem_append_left _ (List.mem_append_left _ (List.mem_append_left _ (List.mem_append_left _ (List.mem_append_right _ h))))))) (by decide +kernel))) (goodIn_sub (fun _ h => List.mem_append_left _ (List.mem_append_left _ (List.mem_append_left _ (List.mem_append_left _ (List.mem_append_right _ h))))) (by decide +kernel))) (goodIn_sub (fun _ h => List.mem_append_left _ (List.mem_append_left _ (List.mem_append_right _ h))) (by decide +kernel))
set_option maxRecDepth 20000 in
theorem gL_law_L_closePermit : GoodIn wsL_law (va_wsS RL 198 yL_closePermit wsL_closePermit) := goodIn_app (goodIn_of _ (by decide +kernel)) ggL_law_L_closePermit
set_option maxRecDepth 20000 in
theorem ggL_law_X6_closePermit : GoodIn wsL_law wsX6_closePermit := goodIn_ca (goodIn_r _ [656, 83, 100, 129, 657, 658, 659, 5, 660, 491, 134, 135, 136, 478, 479, 480, 481, 101, 102, 1018, 1019, 1020, 1021, 1022, 1023, 1024, 1025, 1026, 1027, 1028, 1029, 1030, 1031, 1032, 1033, 1034, 1035, 1036, 1037, 1038, 1039, 1040, 1041, 1042, 1043, 1044, 1045, 1046] (by decide +kernel) (by decide +kernel)) (goodIn_sub (fun _ h => List.mem_append_left _ (List.mem_append_left _ (List.mem_append_left _ (List.mem_append_left _ (List.mem_append_left _ (List.mem_append_left _ (List.mem_append_right _ h))))))) (by decide +kernel))
set_option maxRecDepth 20000 in
theorem gL_law_X6_closePermit : GoodIn wsL_law (wsV RL 200 RX6 yX6_closePermit wsX6_closePermit) := goodIn_app (goodIn_of _ (by decide +kernel)) ggL_law_X6_closePermit
set_option maxRecDepth 20000 in
theorem ggL_law_L_isPermitOpen : GoodIn wsL_law wsL_isPermitOpen := goodIn_ca (goodIn_ca (goodIn_r _ [663, 306, 664, 665, 666, 2, 667, 31, 639, 640, 641, 642, 224, 225, 643, 458, 459, 30, 460, 461, 644, 454, 455, 456, 70, 457, 1011, 1012, 1013, 1014, 1015, 1016, 1017, 1069, 1070, 1071, 1072] (by decide +kernel) (by decide +kernel)) (goodIn_sub (fun _ h => List.mem_append_left _ (List.mem_append_left _ (List.mem_append_left _ (List.mem_append_left _ (List.mem_append_left _ (List.mem_append_left _ (List.mem_append_right _ h))))))) (by decide +kernel))) (goodIn_sub (fun _ h => List.mem_append_left _ (List.mem_append_left _ (List.mem_append_right _ h))) (by decide +kernel))
set_option maxRecDepth 20000 in
theorem gL_law_L_isPermitOpen : GoodIn wsL_law (va_wsS RL 201 yL_isPermitOpen wsL_isPermitOpen) := goodIn_app (goodIn_of _ (by decide +kernel)) ggL_law_L_isPermitOpen
set_option maxRecDepth 20000 in
theorem ggL_law_X6_isPermitOpen : GoodIn wsL_law wsX6_isPermitOpen := goodIn_ca (goodIn_r _ [671, 129, 83, 100, 657, 658, 659, 5, 660, 491, 134, 135, 136, 1018, 1019, 1020, 1021, 1022, 1023, 1024, 1025, 1026, 1027, 1028, 1029, 1030, 1031, 1032, 1033, 1034, 1035, 1036, 1037, 1038, 1039, 1040, 1041, 1042, 1043, 1044, 1045, 1046] (by decide +kernel) (by decide +kernel)) (goodIn_sub (fun _ h => List.mem_append_left _ (List.mem_append_left _ (List.mem_append_left _ (List.mem_append_left _ (List.mem_append_left _ (List.mem_append_left _ (List.mem_append_right _ h))))))) (by decide +kernel))
set_option maxRecDepth 20000 in
theorem gL_law_X6_isPermitOpen : GoodIn wsL_law (wsV RL 203 RX6 yX6_isPermitOpen wsX6_isPermitOpen) := goodIn_app (goodIn_of _ (by decide +kernel)) ggL_law_X6_isPermitOpen
set_option maxRecDepth 20000 in
theorem ggL_law_L_note : GoodIn wsL_law wsL_note := goodIn_ca (goodIn_ca (goodIn_r _ [674, 327, 675, 676, 677, 2, 678, 19, 150, 169, 170, 171, 172, 148, 149, 173, 174, 175, 18, 176, 177, 178, 179, 180, 181, 40, 41, 43, 182, 183, 184, 185, 186, 187, 188, 189, 190, 191, 192, 46, 1011, 1012, 1013, 1014, 1015, 1016, 1017, 1047, 1048, 1049, 1050, 1051, 1052, 1053, 1054, 1055] (by decide +kernel) (by decide +kernel)) (goodIn_sub (fun _ h => List.mem_append_left _ (List.mem_append_left _ (List.mem_append_left _ (List.mem_append_left _ (List.mem_append_left _ (List.mem_append_left _ (List.mem_append_right _ h))))))) (by decide +kernel))) (goodIn_sub (fun _ h => List.mem_append_left _ (List.mem_append_left _ (List.mem_append_left _ (List.mem_append_left _ (List.mem_append_right _ h))))) (by decide +kernel))
set_option maxRecDepth 20000 in
theorem gL_law_L_note : GoodIn wsL_law (va_wsS RL 204 yL_note wsL_note) := goodIn_app (goodIn_of _ (by decide +kernel)) ggL_law_L_note
set_option maxRecDepth 20000 in
theorem ggL_law_X6_note : GoodIn wsL_law wsX6_note := goodIn_ca (goodIn_r _ [682, 202, 129, 208, 209, 210, 5, 211, 82, 83, 84, 212, 85, 86, 1018, 1019, 1020, 1021, 1022, 1023, 1024, 1025, 1026, 1027, 1028, 1029, 1030, 1031, 1032, 1033, 1034, 1035, 1036, 1037, 1038, 1039, 1040, 1041, 1042, 1043, 1044, 1045, 1046] (by decide +kernel) (by decide +kernel)) (goodIn_sub (fun _ h => List.mem_append_left _ (List.mem_append_left _ (List.mem_append_left _ (List.mem_append_left _ (List.mem_append_left _ (List.mem_append_left _ (List.mem_append_right _ h))))))) (by decide +kernel))
set_option maxRecDepth 20000 in
theorem gL_law_X6_note : GoodIn wsL_law (wsV RL 206 RX6 yX6_note wsX6_note) := goodIn_app (goodIn_of _ (by decide +kernel)) ggL_law_X6_note
set_option maxRecDepth 20000 in
theorem ggL_law_L_close : GoodIn wsL_law wsL_close := goodIn_ca (goodIn_ca (goodIn_ca (goodIn_ca (goodIn_r _ [685, 306, 686, 687, 688, 2, 689, 558, 559, 148, 149, 19, 690, 691, 692, 693, 224, 225, 694, 185, 186, 18, 187, 177, 695, 696, 697, 698, 40, 184, 699, 240, 241, 242, 43, 235, 236, 237, 238, 182, 239, 188, 189, 190, 191, 192, 46, 700, 701, 702, 703, 1011, 1012, 1013, 1014, 1015, 1016, 1017, 1047, 1048, 1049, 1050, 1051, 1052, 1053, 1054, 1055] (by decide +kernel) (by decide +kernel)) (goodIn_sub (fun _ h => List.mem_append_left _ (List.mem_append_left _ (List.mem_append_left _ (List.mem_append_left _ (List.mem_append_left _ (List.mem_append_left _ (List.mem_append_right _ h))))))) (by decide +kernel))) (goodIn_sub (fun _ h => List.mem_append_left _ (List.mem_append_right _ h)) (by decide +kernel))) (goodIn_sub (fun _ h => List.mem_append_left _ (List.mem_append_left _ (List.mem_append_left _ (List.mem_append_left _ (List.mem_append_right _ h))))) (by decide +kernel))) (goodIn_sub (fun _ h => List.mem_append_left _ (List.mem_append_left _ (List.mem_append_right _ h))) (by decide +kernel))
set_option maxRecDepth 20000 in
theorem gL_law_L_close : GoodIn wsL_law (va_wsS RL 207 yL_close wsL_close) := goodIn_app (goodIn_of _ (by decide +kernel)) ggL_law_L_close
set_option maxRecDepth 20000 in
theorem ggL_law_X6_close : GoodIn wsL_law wsX6_close := goodIn_ca (goodIn_r _ [707, 82, 83, 129, 708, 709, 710, 5, 711, 202, 134, 135, 136, 712, 713, 714, 715, 1018, 1019, 1020, 1021, 1022, 1023, 1024, 1025, 1026, 1027, 1028, 1029, 1030, 1031, 1032, 1033, 1034, 1035, 1036, 1037, 1038, 1039, 1040, 1041, 1042, 1043, 1044, 1045, 1046] (by decide +kernel) (by decide +kernel)) (goodIn_sub (fun _ h => List.mem_append_left _ (List.mem_append_left _ (List.mem_append_left _ (List.mem_append_left _ (List.mem_append_left _ (List.mem_append_left _ (List.mem_append_right _ h))))))) (by decide +kernel))
set_option maxRecDepth 20000 in
theorem gL_law_X6_close : GoodIn wsL_law (wsV RL 209 RX6 yX6_close wsX6_close) := goodIn_app (goodIn_of _ (by decide +kernel)) ggL_law_X6_close
set_option maxRecDepth 20000 in
theorem ggL_law_L_begin : GoodIn wsL_law wsL_begin := goodIn_ca (goodIn_ca (goodIn_ca (goodIn_r _ [718, 285, 719, 720, 721, 2, 722, 148, 149, 35, 150, 723, 724, 725, 157, 158, 726, 727, 728, 729, 730, 731, 34, 732, 75, 733, 734, 735, 736, 441, 1011, 1012, 1013, 1014, 1015, 1016, 1017, 1073, 1074, 1075, 1076] (by decide +kernel) (by decide +kernel)) (goodIn_sub (fun _ h => List.mem_append_left _ (List.mem_append_left _ (List.mem_append_left _ (List.mem_append_left _ (List.mem_append_left _ (List.mem_append_left _ (List.mem_append_right _ h))))))) (by decide +kernel))) (goodIn_sub (fun _ h => List.mem_append_left _ (List.mem_append_left _ (List.mem_append_left _ (List.mem_append_left _ (List.mem_append_right _ h))))) (by decide +kernel))) (goodIn_sub (fun _ h => List.mem_append_left _ (List.mem_append_left _ (List.mem_append_left _ (List.mem_append_right _ h)))) (by decide +kernel))
set_option maxRecDepth 20000 in
theorem gL_law_L_begin : GoodIn wsL_law (va_wsS RL 210 yL_begin wsL_begin) := goodIn_app (goodIn_of _ (by decide +kernel)) ggL_law_L_begin
set_option maxRecDepth 20000 in
theorem ggL_law_X6_begin : GoodIn wsL_law wsX6_begin := goodIn_r _ [740, 101, 129, 212, 486, 741, 742, 5, 743, 207, 134, 135, 136, 1018, 1019, 1020, 1021, 1022, 1023, 1024, 1025, 1026, 1027, 1028, 1029, 1030, 1031, 1032, 1033, 1034, 1035, 1036, 1037, 1038, 1039, 1040, 1041, 1042, 1043, 1044, 1045, 1046] (by decide +kernel) (by decide +kernel)
set_option maxRecDepth 20000 in
theorem gL_law_X6_begin : GoodIn wsL_law (wsV RL 212 RX6 yX6_begin wsX6_begin) := goodIn_app (goodIn_of _ (by decide +kernel)) ggL_law_X6_begin
set_option maxRecDepth 20000 in
theorem ggL_law_L_handOver : GoodIn wsL_law wsL_handOver := goodIn_ca (goodIn_ca (goodIn_ca (goodIn_ca (goodIn_r _ [746, 285, 747, 748, 749, 2, 750, 148, 149, 558, 559, 35, 150, 19, 723, 724, 725, 157, 158, 726, 727, 728, 564, 565, 566, 567, 433, 434, 435, 34, 436, 75, 76, 729, 730, 731, 732, 751, 752, 753, 754, 74, 755, 756, 757, 758, 759, 760, 761, 18, 762, 44, 700, 701, 702, 703, 182, 1011, 1012, 1013, 1014, 1015, 1016, 1017, 1073, 1074, 1075, 1076, 1047, 1048, 1049, 1050, 1051, 1052, 1053, 1054, 1055] (by decide +kernel) (by decide +kernel)) (goodIn_sub (fun _ h => List.mem_append_left _ (List.mem_append_left _ (List.mem_append_left _ (List.mem_append_left _ (List.mem_append_left _ (List.mem_append_left _ (List.mem_append_right _ h))))))) (by decide +kernel))) (goodIn_sub (fun _ h => List.mem_append_left _ (List.mem_append_left _ (List.mem_append_left _ (List.mem_append_left _ (List.mem_append_right _ h))))) (by decide +kernel))) (goodIn_sub (fun _ h => List.mem_append_left _ (List.mem_append_right _ h)) (by decide +kernel))) (goodIn_sub (fun _ h => List.mem_append_left _ (List.mem_append_left _ (List.mem_append_left _ (List.mem_append_right _ h)))) (by decide +kernel))
set_option maxRecDepth 20000 in
theorem gL_law_L_handOver : GoodIn wsL_law (va_wsS RL 213 yL_handOver wsL_handOver) := goodIn_app (goodIn_of _ (by decide +kernel)) ggL_law_L_handOver
set_option maxRecDepth 20000 in
theorem ggL_law_X6_handOver : GoodIn wsL_law wsX6_handOver := goodIn_ca (goodIn_r _ [766, 129, 101, 102, 202, 86, 741, 742, 5, 743, 207, 134, 135, 136, 478, 479, 480, 481, 767, 768, 769, 770, 103, 212, 712, 713, 714, 715, 83, 1018, 1019, 1020, 1021, 1022, 1023, 1024, 1025, 1026, 1027, 1028, 1029, 1030, 1031, 1032, 1033, 1034, 1035, 1036, 1037, 1038, 1039, 1040, 1041, 1042, 1043, 1044, 1045, 1046] (by decide +kernel) (by decide +kernel)) (goodIn_sub (fun _ h => List.mem_append_left _ (List.mem_append_left _ (List.mem_append_left _ (List.mem_append_left _ (List.mem_append_left _ (List.mem_append_left _ (List.mem_append_right _ h))))))) (by decide +kernel))
set_option maxRecDepth 20000 in
theorem gL_law_X6_handOver : GoodIn wsL_law (wsV RL 215 RX6 yX6_handOver wsX6_handOver) := goodIn_app (goodIn_of _ (by decide +kernel)) ggL_law_X6_handOver
set_option maxRecDepth 20000 in
theorem ggL_law_L_acknowledge : GoodIn wsL_law wsL_acknowledge := goodIn_ca (goodIn_ca (goodIn_ca (goodIn_r _ [773, 306, 774, 775, 776, 2, 777, 148, 149, 19, 690, 691, 692, 693, 224, 225, 694, 185, 186, 18, 187, 177, 778, 779, 780, 781, 35, 782, 783, 784, 34, 785, 76, 699, 240, 241, 242, 43, 184, 786, 787, 788, 789, 44, 790, 791, 792, 793, 700, 701, 702, 703, 182, 794, 795, 796, 797, 239, 1011, 1012, 1013, 1014, 1015, 1016, 1017, 1047, 1048, 1049, 1050, 1051, 1052, 1053, 1054, 1055, 1073, 1074, 1075, 1076] (by decide +kernel) (by decide +kernel)) (goodIn_sub (fun _ h => List.mem_append_left _ (List.mem_append_left _ (List.mem_append_left _ (List.mem_append_left _ (List.mem_append_left _ (List.mem_append_left _ (List.mem_append_right _ h))))))) (by decide +kernel))) (goodIn_sub (fun _ h => List.mem_append_left _ (List.mem_append_left _ (List.mem_append_left _ (List.mem_append_left _ (List.mem_append_right _ h))))) (by decide +kernel))) (goodIn_sub (fun _ h => List.mem_append_left _ (List.mem_append_left _ (List.mem_append_right _ h))) (by decide +kernel))
set_option maxRecDepth 20000 in
theorem gL_law_L_acknowledge : GoodIn wsL_law (va_wsS RL 216 yL_acknowledge wsL_acknowledge) := goodIn_app (goodIn_of _ (by decide +kernel)) ggL_law_L_acknowledge
set_option maxRecDepth 20000 in
theorem ggL_law_X6_acknowledge : GoodIn wsL_law wsX6_acknowledge := goodIn_ca (goodIn_r _ [801, 102, 83, 86, 129, 708, 709, 710, 5, 711, 202, 134, 135, 136, 802, 803, 804, 805, 1018, 1019, 1020, 1021, 1022, 1023, 1024, 1025, 1026, 1027, 1028, 1029, 1030, 1031, 1032, 1033, 1034, 1035, 1036, 1037, 1038, 1039, 1040, 1041, 1042, 1043, 1044, 1045, 1046] (by decide +kernel) (by decide +kernel)) (goodIn_sub (fun _ h => List.mem_append_left _ (List.mem_append_left _ (List.mem_append_left _ (List.mem_append_left _ (List.mem_append_left _ (List.mem_append_left _ (List.mem_append_right _ h))))))) (by decide +kernel))
set_option maxRecDepth 20000 in
theorem gL_law_X6_acknowledge : GoodIn wsL_law (wsV RL 218 RX6 yX6_acknowledge wsX6_acknowledge) := goodIn_app (goodIn_of _ (by decide +kernel)) ggL_law_X6_acknowledge
set_option maxRecDepth 20000 in
theorem ggL_law_L_take : GoodIn wsL_law wsL_take := goodIn_ca (goodIn_ca (goodIn_ca (goodIn_r _ [808, 327, 809, 810, 811, 2, 812, 558, 559, 19, 35, 150, 778, 779, 780, 781, 148, 149, 782, 783, 784, 34, 785, 76, 794, 795, 796, 18, 797, 44, 239, 240, 241, 242, 43, 184, 185, 186, 187, 177, 700, 701, 702, 703, 182, 813, 814, 815, 816, 75, 74, 727, 728, 817, 734, 735, 736, 441, 818, 819, 820, 821, 822, 823, 824, 825, 45, 1011, 1012, 1013, 1014, 1015, 1016, 1017, 1073, 1074, 1075, 1076, 1047, 1048, 1049, 1050, 1051, 1052, 1053, 1054, 1055] (by decide +kernel) (by decide +kernel)) (goodIn_sub (fun _ h => List.mem_append_left _ (List.mem_append_left _ (List.mem_append_left _ (List.mem_append_left _ (List.mem_append_left _ (List.mem_append_left _ (List.mem_append_right _ h))))))) (by decide +kernel))) (goodIn_sub (fun _ h => List.mem_append_left _ (List.mem_append_right _ h)) (by decide +kernel))) (goodIn_sub (fun _ h => List.mem_append_left _ (List.mem_append_left _ (List.mem_append_left _ (List.mem_append_left _ (List.mem_append_right _ h))))) (by decide +kernel))
set_option maxRecDepth 20000 in
theorem gL_law_L_take : GoodIn wsL_law (va_wsS RL 219 yL_take wsL_take) := goodIn_app (goodIn_of _ (by decide +kernel)) ggL_law_L_take
set_option maxRecDepth 20000 in
theorem ggL_law_X6_take : GoodIn wsL_law wsX6_take := goodIn_ca (goodIn_r _ [829, 102, 129, 202, 85, 83, 103, 101, 212, 486, 802, 803, 804, 5, 805, 86, 712, 713, 714, 715, 1018, 1019, 1020, 1021, 1022, 1023, 1024, 1025, 1026, 1027, 1028, 1029, 1030, 1031, 1032, 1033, 1034, 1035, 1036, 1037, 1038, 1039, 1040, 1041, 1042, 1043, 1044, 1045, 1046] (by decide +kernel) (by decide +kernel)) (goodIn_sub (fun _ h => List.mem_append_left _ (List.mem_append_left _ (List.mem_append_left _ (List.mem_append_left _ (List.mem_append_left _ (List.mem_append_left _ (List.mem_append_right _ h))))))) (by decide +kernel))
set_option maxRecDepth 20000 in
theorem gL_law_X6_take : GoodIn wsL_law (wsV RL 221 RX6 yX6_take wsX6_take) := goodIn_app (goodIn_of _ (by decide +kernel)) ggL_law_X6_take
set_option maxRecDepth 20000 in
theorem ggL_law_L_cancel : GoodIn wsL_law wsL_cancel := goodIn_ca (goodIn_ca (goodIn_r _ [832, 327, 833, 834, 835, 2, 836, 35, 19, 778, 779, 780, 781, 148, 149, 782, 783, 784, 34, 785, 76, 837, 819, 820, 821, 794, 795, 796, 18, 797, 44, 239, 240, 241, 242, 43, 184, 185, 186, 187, 177, 1011, 1012, 1013, 1014, 1015, 1016, 1017, 1073, 1074, 1075, 1076, 1047, 1048, 1049, 1050, 1051, 1052, 1053, 1054, 1055] (by decide +kernel) (by decide +kernel)) (goodIn_sub (fun _ h => List.mem_append_left _ (List.mem_append_left _ (List.mem_append_left _ (List.mem_append_left _ (List.mem_append_left _ (List.mem_append_left _ (List.mem_append_right _ h))))))) (by decide +kernel))) (goodIn_sub (fun _ h => List.mem_append_left _ (List.mem_append_left _ (List.mem_append_left _ (List.mem_append_left _ (List.mem_append_right _ h))))) (by decide +kernel))
set_option maxRecDepth 20000 in
theorem gL_law_L_cancel : GoodIn wsL_law (va_wsS RL 222 yL_cancel wsL_cancel) := goodIn_app (goodIn_of _ (by decide +kernel)) ggL_law_L_cancel
set_option maxRecDepth 20000 in
theorem ggL_law_X6_cancel : GoodIn wsL_law wsX6_cancel := goodIn_ca (goodIn_r _ [841, 102, 129, 712, 713, 714, 5, 715, 202, 83, 802, 803, 804, 805, 86, 1018, 1019, 1020, 1021, 1022, 1023, 1024, 1025, 1026, 1027, 1028, 1029, 1030, 1031, 1032, 1033, 1034, 1035, 1036, 1037, 1038, 1039, 1040, 1041, 1042, 1043, 1044, 1045, 1046] (by decide +kernel) (by decide +kernel)) (goodIn_sub (fun _ h => List.mem_append_left _ (List.mem_append_left _ (List.mem_append_left _ (List.mem_append_left _ (List.mem_append_left _ (List.mem_append_left _ (List.mem_append_right _ h))))))) (by decide +kernel))
set_option maxRecDepth 20000 in
theorem gL_law_X6_cancel : GoodIn wsL_law (wsV RL 224 RX6 yX6_cancel wsX6_cancel) := goodIn_app (goodIn_of _ (by decide +kernel)) ggL_law_X6_cancel
set_option maxRecDepth 20000 in
theorem ggL_law_L_pass : GoodIn wsL_law wsL_pass := goodIn_ca (goodIn_ca (goodIn_r _ [844, 285, 845, 846, 847, 2, 848, 157, 158, 23, 150, 849, 850, 851, 22, 852, 298, 255, 256, 257, 52, 230, 163, 164, 165, 50, 166, 167, 168, 1011, 1012, 1013, 1014, 1015, 1016, 1017, 1056, 1057, 1058] (by decide +kernel) (by decide +kernel)) (goodIn_sub (fun _ h => List.mem_append_left _ (List.mem_append_left _ (List.mem_append_left _ (List.mem_append_left _ (List.mem_append_left _ (List.mem_append_left _ (List.mem_append_right _ h))))))) (by decide +kernel))) (goodIn_sub (fun _ h => List.mem_append_left _ (List.mem_append_left _ (List.mem_append_left _ (List.mem_append_right _ h)))) (by decide +kernel))
set_option maxRecDepth 20000 in
theorem gL_law_L_pass : GoodIn wsL_law (va_wsS RL 225 yL_pass wsL_pass) := goodIn_app (goodIn_of _ (by decide +kernel)) ggL_law_L_pass
set_option maxRecDepth 20000 in
theorem ggL_law_X6_pass : GoodIn wsL_law wsX6_pass := goodIn_ca (goodIn_r _ [856, 857, 129, 212, 89, 134, 135, 5, 136, 267, 268, 269, 270, 87, 1018, 1019, 1020, 1021, 1022, 1023, 1024, 1025, 1026, 1027, 1028, 1029, 1030, 1031, 1032, 1033, 1034, 1035, 1036, 1037, 1038, 1039, 1040, 1041, 1042, 1043, 1044, 1045, 1046] (by decide +kernel) (by decide +kernel)) (goodIn_sub (fun _ h => List.mem_append_left _ (List.mem_append_left _ (List.mem_append_left _ (List.mem_append_left _ (List.mem_append_left _ (List.mem_append_left _ (List.mem_append_right _ h))))))) (by decide +kernel))
set_option maxRecDepth 20000 in
theorem gL_law_X6_pass : GoodIn wsL_law (wsV RL 227 RX6 yX6_pass wsX6_pass) := goodIn_app (goodIn_of _ (by decide +kernel)) ggL_law_X6_pass
set_option maxRecDepth 20000 in
theorem ggL_law_X5_hour : GoodIn wsL_law wsX5_hour := goodIn_r _ [861, 150, 1011, 1012, 1013, 1014, 1015, 1016, 1017] (by decide +kernel) (by decide +kernel)
set_option maxRecDepth 20000 in
theorem gL_law_X5_hour : GoodIn wsL_law (wsV RL 228 RX5 yX5_hour wsX5_hour) := goodIn_app (goodIn_of _ (by decide +kernel)) ggL_law_X5_hour
set_option maxRecDepth 20000 in
theorem ggL_law_X6_hour : GoodIn wsL_law wsX6_hour := goodIn_r _ [865, 129, 212, 1018, 1019, 1020, 1021, 1022, 1023, 1024, 1025, 1026, 1027, 1028, 1029, 1030, 1031, 1032, 1033, 1034, 1035, 1036, 1037, 1038, 1039, 1040, 1041, 1042, 1043, 1044, 1045, 1046] (by decide +kernel) (by decide +kernel)
set_option maxRecDepth 20000 in
theorem gL_law_X6_hour : GoodIn wsL_law (wsV RL 231 RX6 yX6_hour wsX6_hour) := goodIn_app (goodIn_of _ (by decide +kernel)) ggL_law_X6_hour
set_option maxRecDepth 20000 in
theorem ggL_law_L_onDuty : GoodIn wsL_law wsL_onDuty := goodIn_ca (goodIn_ca (goodIn_r _ [868, 306, 869, 870, 871, 2, 872, 224, 225, 35, 729, 730, 731, 34, 732, 75, 1011, 1012, 1013, 1014, 1015, 1016, 1017, 1073, 1074, 1075, 1076] (by decide +kernel) (by decide +kernel)) (goodIn_sub (fun _ h => List.mem_append_left _ (List.mem_append_left _ (List.mem_append_left _ (List.mem_append_left _ (List.mem_append_left _ (List.mem_append_left _ (List.mem_append_right _ h))))))) (by decide +kernel))) (goodIn_sub (fun _ h => List.mem_append_left _ (List.mem_append_left _ (List.mem_append_right _ h))) (by decide +kernel))
set_option maxRecDepth 20000 in
theorem gL_law_L_onDuty : GoodIn wsL_law (va_wsS RL 232 yL_onDuty wsL_onDuty) := goodIn_app (goodIn_of _ (by decide +kernel)) ggL_law_L_onDuty
set_option maxRecDepth 20000 in
theorem ggL_law_X6_onDuty : GoodIn wsL_law wsX6_onDuty := goodIn_r _ [876, 101, 129, 1018, 1019, 1020, 1021, 1022, 1023, 1024, 1025, 1026, 1027, 1028, 1029, 1030, 1031, 1032, 1033, 1034, 1035, 1036, 1037, 1038, 1039, 1040, 1041, 1042, 1043, 1044, 1045, 1046] (by decide +kernel) (by decide +kernel)
set_option maxRecDepth 20000 in
theorem gL_law_X6_onDuty : GoodIn wsL_law (wsV RL 234 RX6 yX6_onDuty wsX6_onDuty) := goodIn_app (goodIn_of _ (by decide +kernel)) ggL_law_X6_onDuty
set_option maxRecDepth 20000 in
theorem ggL_law_X5_isTired : GoodIn wsL_law wsX5_isTired := goodIn_r _ [880, 35, 150, 437, 438, 439, 34, 440, 75, 441, 1011, 1012, 1013, 1014, 1015, 1016, 1017, 1073, 1074, 1075, 1076] (by decide +kernel) (by decide +kernel)
set_option maxRecDepth 20000 in
theorem gL_law_X5_isTired : GoodIn wsL_law (wsV RL 235 RX5 yX5_isTired wsX5_isTired) := goodIn_app (goodIn_of _ (by decide +kernel)) ggL_law_X5_isTired
set_option maxRecDepth 20000 in
theorem ggL_law_X6_isTired : GoodIn wsL_law wsX6_isTired := goodIn_r _ [884, 129, 482, 483, 484, 5, 485, 101, 212, 486, 1018, 1019, 1020, 1021, 1022, 1023, 1024, 1025, 1026, 1027, 1028, 1029, 1030, 1031, 1032, 1033, 1034, 1035, 1036, 1037, 1038, 1039, 1040, 1041, 1042, 1043, 1044, 1045, 1046] (by decide +kernel) (by decide +kernel)
set_option maxRecDepth 20000 in
theorem gL_law_X6_isTired : GoodIn wsL_law (wsV RL 239 RX6 yX6_isTired wsX6_isTired) := goodIn_app (goodIn_of _ (by decide +kernel)) ggL_law_X6_isTired
set_option maxRecDepth 20000 in
theorem ggL_law_L_restLeft : GoodIn wsL_law wsL_restLeft := goodIn_ca (goodIn_ca (goodIn_r _ [887, 285, 888, 889, 890, 2, 891, 35, 150, 723, 724, 725, 157, 158, 726, 727, 728, 751, 752, 753, 34, 754, 74, 1011, 1012, 1013, 1014, 1015, 1016, 1017, 1073, 1074, 1075, 1076] (by decide +kernel) (by decide +kernel)) (goodIn_sub (fun _ h => List.mem_append_left _ (List.mem_append_left _ (List.mem_append_left _ (List.mem_append_left _ (List.mem_append_left _ (List.mem_append_left _ (List.mem_append_right _ h))))))) (by decide +kernel))) (goodIn_sub (fun _ h => List.mem_append_left _ (List.mem_append_left _ (List.mem_append_left _ (List.mem_append_right _ h)))) (by decide +kernel))
set_option maxRecDepth 20000 in
theorem gL_law_L_restLeft : GoodIn wsL_law (va_wsS RL 240 yL_restLeft wsL_restLeft) := goodIn_app (goodIn_of _ (by decide +kernel)) ggL_law_L_restLeft
set_option maxRecDepth 20000 in
theorem ggL_law_X6_restLeft : GoodIn wsL_law wsX6_restLeft := goodIn_ca (goodIn_r _ [895, 129, 741, 742, 5, 743, 207, 134, 135, 136, 767, 768, 769, 770, 103, 101, 212, 1018, 1019, 1020, 1021, 1022, 1023, 1024, 1025, 1026, 1027, 1028, 1029, 1030, 1031, 1032, 1033, 1034, 1035, 1036, 1037, 1038, 1039, 1040, 1041, 1042, 1043, 1044, 1045, 1046] (by decide +kernel) (by decide +kernel)) (goodIn_sub (fun _ h => List.mem_append_left _ (List.mem_append_left _ (List.mem_append_left _ (List.mem_append_left _ (List.mem_append_left _ (List.mem_append_left _ (List.mem_append_right _ h))))))) (by decide +kernel))
set_option maxRecDepth 20000 in
theorem gL_law_X6_restLeft : GoodIn wsL_law (wsV RL 242 RX6 yX6_restLeft wsX6_restLeft) := goodIn_app (goodIn_of _ (by decide +kernel)) ggL_law_X6_restLeft
set_option maxRecDepth 20000 in
theorem ggL_law_X5_openLines : GoodIn wsL_law wsX5_openLines := goodIn_r _ [899, 19, 700, 701, 702, 18, 703, 182, 1011, 1012, 1013, 1014, 1015, 1016, 1017, 1047, 1048, 1049, 1050, 1051, 1052, 1053, 1054, 1055] (by decide +kernel) (by decide +kernel)
set_option maxRecDepth 20000 in
theorem gL_law_X5_openLines : GoodIn wsL_law (wsV RL 243 RX5 yX5_openLines wsX5_openLines) := goodIn_app (goodIn_of _ (by decide +kernel)) ggL_law_X5_openLines
set_option maxRecDepth 20000 in
theorem ggL_law_X6_openLines : GoodIn wsL_law wsX6_openLines := goodIn_ca (goodIn_r _ [903, 129, 712, 713, 714, 5, 715, 202, 83, 1018, 1019, 1020, 1021, 1022, 1023, 1024, 1025, 1026, 1027, 1028, 1029, 1030, 1031, 1032, 1033, 1034, 1035, 1036, 1037, 1038, 1039, 1040, 1041, 1042, 1043, 1044, 1045, 1046] (by decide +kernel) (by decide +kernel)) (goodIn_sub (fun _ h => List.mem_append_left _ (List.mem_append_left _ (List.mem_append_left _ (List.mem_append_left _ (List.mem_append_left _ (List.mem_append_left _ (List.mem_append_right _ h))))))) (by decide +kernel))
set_option maxRecDepth 20000 in
theorem gL_law_X6_openLines : GoodIn wsL_law (wsV RL 246 RX6 yX6_openLines wsX6_openLines) := goodIn_app (goodIn_of _ (by decide +kernel)) ggL_law_X6_openLines
set_option maxRecDepth 20000 in
theorem ggL_law_X5_openByLog : GoodIn wsL_law wsX5_openByLog := goodIn_ca (goodIn_r _ [907, 19, 908, 909, 910, 18, 911, 192, 46, 1011, 1012, 1013, 1014, 1015, 1016, 1017, 1047, 1048, 1049, 1050, 1051, 1052, 1053, 1054, 1055] (by decide +kernel) (by decide +kernel)) (goodIn_sub (fun _ h => List.mem_append_left _ (List.mem_append_left _ (List.mem_append_left _ (List.mem_append_left _ (List.mem_append_left _ (List.mem_append_left _ (List.mem_append_right _ h))))))) (by decide +kernel))
set_option maxRecDepth 20000 in
theorem gL_law_X5_openByLog : GoodIn wsL_law (wsV RL 247 RX5 yX5_openByLog wsX5_openByLog) := goodIn_app (goodIn_of _ (by decide +kernel)) ggL_law_X5_openByLog
set_option maxRecDepth 20000 in
theorem ggL_law_X6_openByLog : GoodIn wsL_law wsX6_openByLog := goodIn_ca (goodIn_r _ [915, 916, 901, 902, 5, 903, 129, 712, 713, 714, 715, 202, 83, 1018, 1019, 1020, 1021, 1022, 1023, 1024, 1025, 1026, 1027, 1028, 1029, 1030, 1031, 1032, 1033, 1034, 1035, 1036, 1037, 1038, 1039, 1040, 1041, 1042, 1043, 1044, 1045, 1046] (by decide +kernel) (by decide +kernel)) (goodIn_sub (fun _ h => List.mem_append_left _ (List.mem_append_left _ (List.mem_append_left _ (List.mem_append_left _ (List.mem_append_left _ (List.mem_append_left _ (List.mem_append_right _ h))))))) (by decide +kernel))
set_option maxRecDepth 20000 in
theorem gL_law_X6_openByLog : GoodIn wsL_law (wsV RL 250 RX6 yX6_openByLog wsX6_openByLog) := goodIn_app (goodIn_of _ (by decide +kernel)) ggL_law_X6_openByLog
set_option maxRecDepth 20000 in
theorem ggL_law_L_openAt : GoodIn wsL_law wsL_openAt := goodIn_ca (goodIn_ca (goodIn_r _ [919, 108, 920, 921, 922, 2, 923, 116, 117, 19, 924, 925, 926, 18, 927, 239, 240, 241, 242, 43, 184, 185, 186, 187, 177, 1011, 1012, 1013, 1014, 1015, 1016, 1017, 1047, 1048, 1049, 1050, 1051, 1052, 1053, 1054, 1055] (by decide +kernel) (by decide +kernel)) (goodIn_sub (fun _ h => List.mem_append_left _ (List.mem_append_left _ (List.mem_append_left _ (List.mem_append_left _ (List.mem_append_left _ (List.mem_append_left _ (List.mem_append_right _ h))))))) (by decide +kernel))) (goodIn_sub (fun _ h => List.mem_append_left _ (List.mem_append_left _ (List.mem_append_left _ (List.mem_append_left _ (List.mem_append_left _ (List.mem_append_right _ h)))))) (by decide +kernel))
set_option maxRecDepth 20000 in
theorem gL_law_L_openAt : GoodIn wsL_law (va_wsS RL 251 yL_openAt wsL_openAt) := goodIn_app (goodIn_of _ (by decide +kernel)) ggL_law_L_openAt
set_option maxRecDepth 20000 in
theorem ggL_law_X6_openAt : GoodIn wsL_law wsX6_openAt := goodIn_ca (goodIn_r _ [931, 202, 83, 129, 1018, 1019, 1020, 1021, 1022, 1023, 1024, 1025, 1026, 1027, 1028, 1029, 1030, 1031, 1032, 1033, 1034, 1035, 1036, 1037, 1038, 1039, 1040, 1041, 1042, 1043, 1044, 1045, 1046] (by decide +kernel) (by decide +kernel)) (goodIn_sub (fun _ h => List.mem_append_left _ (List.mem_append_left _ (List.mem_append_left _ (List.mem_append_left _ (List.mem_append_left _ (List.mem_append_left _ (List.mem_append_right _ h))))))) (by decide +kernel))
set_option maxRecDepth 20000 in
theorem gL_law_X6_openAt : GoodIn wsL_law (wsV RL 253 RX6 yX6_openAt wsX6_openAt) := goodIn_app (goodIn_of _ (by decide +kernel)) ggL_law_X6_openAt
set_option maxRecDepth 20000 in
theorem ggL_law_L_kindOf : GoodIn wsL_law wsL_kindOf := goodIn_ca (goodIn_ca (goodIn_r _ [934, 306, 935, 936, 937, 2, 938, 19, 690, 691, 692, 693, 224, 225, 694, 185, 186, 18, 187, 177, 695, 696, 697, 698, 40, 184, 1011, 1012, 1013, 1014, 1015, 1016, 1017, 1047, 1048, 1049, 1050, 1051, 1052, 1053, 1054, 1055] (by decide +kernel) (by decide +kernel)) (goodIn_sub (fun _ h => List.mem_append_left _ (List.mem_append_left _ (List.mem_append_left _ (List.mem_append_left _ (List.mem_append_left _ (List.mem_append_left _ (List.mem_append_right _ h))))))) (by decide +kernel))) (goodIn_sub (fun _ h => List.mem_append_left _ (List.mem_append_left _ (List.mem_append_right _ h))) (by decide +kernel))
set_option maxRecDepth 20000 in
theorem gL_law_L_kindOf : GoodIn wsL_law (va_wsS RL 254 yL_kindOf wsL_kindOf) := goodIn_app (goodIn_of _ (by decide +kernel)) ggL_law_L_kindOf
set_option maxRecDepth 20000 in
theorem ggL_law_X6_kindOf : GoodIn wsL_law wsX6_kindOf := goodIn_ca (goodIn_r _ [942, 129, 82, 708, 709, 710, 5, 711, 202, 134, 135, 136, 1018, 1019, 1020, 1021, 1022, 1023, 1024, 1025, 1026, 1027, 1028, 1029, 1030, 1031, 1032, 1033, 1034, 1035, 1036, 1037, 1038, 1039, 1040, 1041, 1042, 1043, 1044, 1045, 1046] (by decide +kernel) (by decide +kernel)) (goodIn_sub (fun _ h => List.mem_append_left _ (List.mem_append_left _ (List.mem_append_left _ (List.mem_append_left _ (List.mem_append_left _ (List.mem_append_left _ (List.mem_append_right _ h))))))) (by decide +kernel))
set_option maxRecDepth 20000 in
theorem gL_law_X6_kindOf : GoodIn wsL_law (wsV RL 256 RX6 yX6_kindOf wsX6_kindOf) := goodIn_app (goodIn_of _ (by decide +kernel)) ggL_law_X6_kindOf
set_option maxRecDepth 20000 in
theorem ggL_law_L_passed : GoodIn wsL_law wsL_passed := goodIn_ca (goodIn_ca (goodIn_r _ [945, 306, 946, 947, 948, 2, 949, 19, 690, 691, 692, 693, 224, 225, 694, 185, 186, 18, 187, 177, 950, 951, 952, 953, 45, 184, 1011, 1012, 1013, 1014, 1015, 1016, 1017, 1047, 1048, 1049, 1050, 1051, 1052, 1053, 1054, 1055] (by decide +kernel) (by decide +kernel)) (goodIn_sub (fun _ h => List.mem_append_left _ (List.mem_append_left _ (List.mem_append_left _ (List.mem_append_left _ (List.mem_append_left _ (List.mem_append_left _ (List.mem_append_right _ h))))))) (by decide +kernel))) (goodIn_sub (fun _ h => List.mem_append_left _ (List.mem_append_left _ (List.mem_append_right _ h))) (by decide +kernel))
set_option maxRecDepth 20000 in
theorem gL_law_L_passed : GoodIn wsL_law (va_wsS RL 257 yL_passed wsL_passed) := goodIn_app (goodIn_of _ (by decide +kernel)) ggL_law_L_passed
set_option maxRecDepth 20000 in
theorem ggL_law_X6_passed : GoodIn wsL_law wsX6_passed := goodIn_ca (goodIn_r _ [957, 129, 85, 708, 709, 710, 5, 711, 202, 134, 135, 136, 1018, 1019, 1020, 1021, 1022, 1023, 1024, 1025, 1026, 1027, 1028, 1029, 1030, 1031, 1032, 1033, 1034, 1035, 1036, 1037, 1038, 1039, 1040, 1041, 1042, 1043, 1044, 1045, 1046] (by decide +kernel) (by decide +kernel)) (goodIn_sub (fun _ h => List.mem_append_left _ (List.mem_append_left _ (List.mem_append_left _ (List.mem_append_left _ (List.mem_append_left _ (List.mem_append_left _ (List.mem_append_right _ h))))))) (by decide +kernel))
set_option maxRecDepth 20000 in
theorem gL_law_X6_passed : GoodIn wsL_law (wsV RL 259 RX6 yX6_passed wsX6_passed) := goodIn_app (goodIn_of _ (by decide +kernel)) ggL_law_X6_passed
set_option maxRecDepth 20000 in
theorem ggL_law_L_closedShare : GoodIn wsL_law wsL_closedShare := goodIn_ca (goodIn_ca (goodIn_r _ [960, 961, 962, 963, 964, 2, 965, 966, 967, 19, 968, 969, 970, 18, 971, 177, 700, 701, 702, 703, 182, 1011, 1012, 1013, 1014, 1015, 1016, 1017, 1047, 1048, 1049, 1050, 1051, 1052, 1053, 1054, 1055] (by decide +kernel) (by decide +kernel)) (goodIn_sub (fun _ h => List.mem_append_left _ (List.mem_append_left _ (List.mem_append_left _ (List.mem_append_left _ (List.mem_append_left _ (List.mem_append_left _ (List.mem_append_right _ h))))))) (by decide +kernel))) (goodIn_sub (fun _ h => List.mem_append_right _ h) (by decide +kernel))
set_option maxRecDepth 20000 in
theorem gL_law_L_closedShare : GoodIn wsL_law (va_wsS RL 260 yL_closedShare wsL_closedShare) := goodIn_app (goodIn_of _ (by decide +kernel)) ggL_law_L_closedShare
set_option maxRecDepth 20000 in
theorem ggL_law_X6_closedShare : GoodIn wsL_law wsX6_closedShare := goodIn_ca (goodIn_r _ [975, 202, 129, 712, 713, 714, 5, 715, 83, 1018, 1019, 1020, 1021, 1022, 1023, 1024, 1025, 1026, 1027, 1028, 1029, 1030, 1031, 1032, 1033, 1034, 1035, 1036, 1037, 1038, 1039, 1040, 1041, 1042, 1043, 1044, 1045, 1046] (by decide +kernel) (by decide +kernel)) (goodIn_sub (fun _ h => List.mem_append_left _ (List.mem_append_left _ (List.mem_append_left _ (List.mem_append_left _ (List.mem_append_left _ (List.mem_append_left _ (List.mem_append_right _ h))))))) (by decide +kernel))
set_option maxRecDepth 20000 in
theorem gL_law_X6_closedShare : GoodIn wsL_law (wsV RL 263 RX6 yX6_closedShare wsX6_closedShare) := goodIn_app (goodIn_of _ (by decide +kernel)) ggL_law_X6_closedShare
set_option maxRecDepth 20000 in
theorem ggL_law_L_meanAge : GoodIn wsL_law wsL_meanAge := goodIn_ca (goodIn_ca (goodIn_r _ [978, 961, 979, 980, 981, 2, 982, 966, 967, 19, 150, 700, 701, 702, 18, 703, 182, 983, 984, 985, 986, 41, 239, 240, 241, 242, 43, 184, 185, 186, 187, 177, 1011, 1012, 1013, 1014, 1015, 1016, 1017, 1047, 1048, 1049, 1050, 1051, 1052, 1053, 1054, 1055] (by decide +kernel) (by decide +kernel)) (goodIn_sub (fun _ h => List.mem_append_left _ (List.mem_append_left _ (List.mem_append_left _ (List.mem_append_left _ (List.mem_append_left _ (List.mem_append_left _ (List.mem_append_right _ h))))))) (by decide +kernel))) (goodIn_sub (fun _ h => List.mem_append_right _ h) (by decide +kernel))
set_option maxRecDepth 20000 in
theorem gL_law_L_meanAge : GoodIn wsL_law (va_wsS RL 264 yL_meanAge wsL_meanAge) := goodIn_app (goodIn_of _ (by decide +kernel)) ggL_law_L_meanAge
set_option maxRecDepth 20000 in
theorem ggL_law_X6_meanAge : GoodIn wsL_law wsX6_meanAge := goodIn_ca (goodIn_r _ [990, 202, 83, 212, 84, 129, 712, 713, 714, 5, 715, 1018, 1019, 1020, 1021, 1022, 1023, 1024, 1025, 1026, 1027, 1028, 1029, 1030, 1031, 1032, 1033, 1034, 1035, 1036, 1037, 1038, 1039, 1040, 1041, 1042, 1043, 1044, 1045, 1046] (by decide +kernel) (by decide +kernel)) (goodIn_sub (fun _ h => List.mem_append_left _ (List.mem_append_left _ (List.mem_append_left _ (List.mem_append_left _ (List.mem_append_left _ (List.mem_append_left _ (List.mem_append_right _ h))))))) (by decide +kernel))
set_option maxRecDepth 20000 in
theorem gL_law_X6_meanAge : GoodIn wsL_law (wsV RL 266 RX6 yX6_meanAge wsX6_meanAge) := goodIn_app (goodIn_of _ (by decide +kernel)) ggL_law_X6_meanAge
set_option maxRecDepth 20000 in
theorem ggL_law_X5_isSound : GoodIn wsL_law wsX5_isSound := goodIn_ca (goodIn_r _ [994, 19, 31, 700, 701, 702, 18, 703, 182, 908, 909, 910, 911, 192, 46, 995, 996, 997, 30, 998, 68, 453, 454, 455, 456, 70, 457, 458, 459, 460, 461, 999, 1000, 1001, 2, 1002, 23, 162, 163, 164, 22, 165, 50, 166, 167, 168, 226, 227, 228, 229, 51, 230, 699, 240, 241, 242, 43, 184, 185, 186, 187, 177, 1003, 1004, 1005, 1006, 27, 527, 528, 529, 26, 530, 64, 531, 532, 533, 534, 375, 376, 377, 387, 388, 432, 365, 366, 367, 56, 368, 358, 359, 360, 336, 535, 536, 537, 538, 1011, 1012, 1013, 1014, 1015, 1016, 1017, 1047, 1048, 1049, 1050, 1051, 1052, 1053, 1054, 1055, 1069, 1070, 1071, 1072, 1056, 1057, 1058, 1059, 1060, 1061, 1062, 1063, 1064, 1065, 1066, 1067, 1068] (by decide +kernel) (by decide +kernel)) (goodIn_sub (fun _ h => List.mem_append_left _ (List.mem_append_left _ (List.mem_append_left _ (List.mem_append_left _ (List.mem_append_left _ (List.mem_append_left _ (List.mem_append_right _ h))))))) (by decide +kernel))
set_option maxRecDepth 20000 in
theorem gL_law_X5_isSound : GoodIn wsL_law (wsV RL 267 RX5 yX5_isSound wsX5_isSound) := goodIn_app (goodIn_of _ (by decide +kernel)) ggL_law_X5_isSound
set_option maxRecDepth 20000 in
theorem ggL_law_X6_isSound : GoodIn wsL_law wsX6_isSound := goodIn_r _ [1010, 129, 1018, 1019, 1020, 1021, 1022, 1023, 1024, 1025, 1026, 1027, 1028, 1029, 1030, 1031, 1032, 1033, 1034, 1035, 1036, 1037, 1038, 1039, 1040, 1041, 1042, 1043, 1044, 1045, 1046] (by decide +kernel) (by decide +kernel)
set_option maxRecDepth 20000 in
theorem gL_law_X6_isSound : GoodIn wsL_law (wsV RL 270 RX6 yX6_isSound wsX6_isSound) := goodIn_app (goodIn_of _ (by decide +kernel)) ggL_law_X6_isSound
theorem dL_law_0 : decode cL_law 0 = .ok (.new 8, 3) := by decide +kernel
theorem dL_law_3 : decode cL_law 3 = .ok (.dup, 1) := by decide +kernel
theorem dL_law_4 : decode cL_law 4 = .ok (.invokespecial 133, 3) := by decide +kernel
theorem dL_law_7 : decode cL_law 7 = .ok (.astore_n 1, 1) := by decide +kernel
theorem dL_law_8 : decode cL_law 8 = .ok (.new 134, 3) := by decide +kernel
theorem dL_law_11 : decode cL_law 11 = .ok (.dup, 1) := by decide +kernel
theorem dL_law_12 : decode cL_law 12 = .ok (.invokespecial 136, 3) := by decide +kernel
theorem dL_law_15 : decode cL_law 15 = .ok (.astore_n 2, 1) := by decide +kernel
theorem dL_law_16 : decode cL_law 16 = .ok (.iconst 1, 1) := by decide +kernel
theorem dL_law_17 : decode cL_law 17 = .ok (.newarray .long, 2) := by decide +kernel
theorem dL_law_19 : decode cL_law 19 = .ok (.astore_n 3, 1) := by decide +kernel
theorem dL_law_20 : decode cL_law 20 = .ok (.iconst 1, 1) := by decide +kernel
theorem dL_law_21 : decode cL_law 21 = .ok (.newarray .double, 2) := by decide +kernel
theorem dL_law_23 : decode cL_law 23 = .ok (.astore 4, 2) := by decide +kernel
theorem dL_law_25 : decode cL_law 25 = .ok (.iconst 0, 1) := by decide +kernel
theorem dL_law_26 : decode cL_law 26 = .ok (.istore 5, 2) := by decide +kernel
theorem dL_law_28 : decode cL_law 28 = .ok (.iload 5, 2) := by decide +kernel
theorem dL_law_30 : decode cL_law 30 = .ok (.aload_n 0, 1) := by decide +kernel
theorem dL_law_31 : decode cL_law 31 = .ok (.arraylength, 1) := by decide +kernel
theorem dL_law_32 : decode cL_law 32 = .ok (.bipush 6, 2) := by decide +kernel
theorem dL_law_34 : decode cL_law 34 = .ok (.isub, 1) := by decide +kernel
theorem dL_law_35 : decode cL_law 35 = .ok (.if_icmp .gt 2225, 3) := by decide +kernel
theorem dL_law_38 : decode cL_law 38 = .ok (.aload_n 0, 1) := by decide +kernel
theorem dL_law_39 : decode cL_law 39 = .ok (.iload 5, 2) := by decide +kernel
theorem dL_law_41 : decode cL_law 41 = .ok (.iaload, 1) := by decide +kernel
theorem dL_law_42 : decode cL_law 42 = .ok (.bipush 63, 2) := by decide +kernel
theorem dL_law_44 : decode cL_law 44 = .ok (.iand, 1) := by decide +kernel
theorem dL_law_45 : decode cL_law 45 = .ok (.tableswitch 2209 0 38 #[171, 227, 307, 375, 455, 530, 586, 630, 674, 778, 834, 890, 946, 1002, 1058, 1114, 1158, 1214, 1270, 1333, 1377, 1433, 1489, 1545, 1601, 1645, 1689, 1745, 1758, 1802, 1815, 1871, 1884, 1897, 1953, 2009, 2065, 2131, 2196], 171) := by decide +kernel
theorem dL_law_216 : decode cL_law 216 = .ok (.aload_n 1, 1) := by decide +kernel
theorem dL_law_217 : decode cL_law 217 = .ok (.aload_n 0, 1) := by decide +kernel
theorem dL_law_218 : decode cL_law 218 = .ok (.iload 5, 2) := by decide +kernel
theorem dL_law_220 : decode cL_law 220 = .ok (.iconst 1, 1) := by decide +kernel
theorem dL_law_221 : decode cL_law 221 = .ok (.iadd, 1) := by decide +kernel
theorem dL_law_222 : decode cL_law 222 = .ok (.iaload, 1) := by decide +kernel
theorem dL_law_223 : decode cL_law 223 = .ok (.aload_n 3, 1) := by decide +kernel
theorem dL_law_224 : decode cL_law 224 = .ok (.invokestatic 137, 3) := by decide +kernel
theorem dL_law_227 : decode cL_law 227 = .ok (.istore 6, 2) := by decide +kernel
theorem dL_law_229 : decode cL_law 229 = .ok (.aload_n 2, 1) := by decide +kernel
theorem dL_law_230 : decode cL_law 230 = .ok (.aload_n 0, 1) := by decide +kernel
theorem dL_law_231 : decode cL_law 231 = .ok (.iload 5, 2) := by decide +kernel
theorem dL_law_233 : decode cL_law 233 = .ok (.iconst 1, 1) := by decide +kernel
theorem dL_law_234 : decode cL_law 234 = .ok (.iadd, 1) := by decide +kernel
theorem dL_law_235 : decode cL_law 235 = .ok (.iaload, 1) := by decide +kernel
theorem dL_law_236 : decode cL_law 236 = .ok (.invokevirtual 142, 3) := by decide +kernel
theorem dL_law_239 : decode cL_law 239 = .ok (.istore 7, 2) := by decide +kernel
theorem dL_law_241 : decode cL_law 241 = .ok (.aload_n 2, 1) := by decide +kernel
theorem dL_law_242 : decode cL_law 242 = .ok (.invokevirtual 143, 3) := by decide +kernel
theorem dL_law_245 : decode cL_law 245 = .ok (.iload 6, 2) := by decide +kernel
theorem dL_law_247 : decode cL_law 247 = .ok (.if_icmp .eq 5, 3) := by decide +kernel
theorem dL_law_250 : decode cL_law 250 = .ok (.iconst 0, 1) := by decide +kernel
theorem dL_law_251 : decode cL_law 251 = .ok (.ireturn, 1) := by decide +kernel
theorem dL_law_252 : decode cL_law 252 = .ok (.iload 6, 2) := by decide +kernel
theorem dL_law_254 : decode cL_law 254 = .ok (.ifCond .ne 15, 3) := by decide +kernel
theorem dL_law_257 : decode cL_law 257 = .ok (.aload_n 3, 1) := by decide +kernel
theorem dL_law_258 : decode cL_law 258 = .ok (.iconst 0, 1) := by decide +kernel
theorem dL_law_259 : decode cL_law 259 = .ok (.laload, 1) := by decide +kernel
theorem dL_law_260 : decode cL_law 260 = .ok (.iload 7, 2) := by decide +kernel
theorem dL_law_262 : decode cL_law 262 = .ok (.i2l, 1) := by decide +kernel
theorem dL_law_263 : decode cL_law 263 = .ok (.lcmp, 1) := by decide +kernel
theorem dL_law_264 : decode cL_law 264 = .ok (.ifCond .eq 5, 3) := by decide +kernel
theorem dL_law_267 : decode cL_law 267 = .ok (.iconst 0, 1) := by decide +kernel
theorem dL_law_268 : decode cL_law 268 = .ok (.ireturn, 1) := by decide +kernel
theorem dL_law_269 : decode cL_law 269 = .ok (.goto 1985, 3) := by decide +kernel
theorem dL_law_272 : decode cL_law 272 = .ok (.aload_n 1, 1) := by decide +kernel
theorem dL_law_273 : decode cL_law 273 = .ok (.aload_n 0, 1) := by decide +kernel
theorem dL_law_274 : decode cL_law 274 = .ok (.iload 5, 2) := by decide +kernel
theorem dL_law_276 : decode cL_law 276 = .ok (.iconst 1, 1) := by decide +kernel
theorem dL_law_277 : decode cL_law 277 = .ok (.iadd, 1) := by decide +kernel
theorem dL_law_278 : decode cL_law 278 = .ok (.iaload, 1) := by decide +kernel
theorem dL_law_279 : decode cL_law 279 = .ok (.aload_n 0, 1) := by decide +kernel
theorem dL_law_280 : decode cL_law 280 = .ok (.iload 5, 2) := by decide +kernel
theorem dL_law_282 : decode cL_law 282 = .ok (.iconst 2, 1) := by decide +kernel
theorem dL_law_283 : decode cL_law 283 = .ok (.iadd, 1) := by decide +kernel
theorem dL_law_284 : decode cL_law 284 = .ok (.iaload, 1) := by decide +kernel
theorem dL_law_285 : decode cL_law 285 = .ok (.aload_n 0, 1) := by decide +kernel
theorem dL_law_286 : decode cL_law 286 = .ok (.iload 5, 2) := by decide +kernel
theorem dL_law_288 : decode cL_law 288 = .ok (.iconst 3, 1) := by decide +kernel
theorem dL_law_289 : decode cL_law 289 = .ok (.iadd, 1) := by decide +kernel
theorem dL_law_290 : decode cL_law 290 = .ok (.iaload, 1) := by decide +kernel
theorem dL_law_291 : decode cL_law 291 = .ok (.aload_n 3, 1) := by decide +kernel
theorem dL_law_292 : decode cL_law 292 = .ok (.invokestatic 146, 3) := by decide +kernel
theorem dL_law_295 : decode cL_law 295 = .ok (.istore 6, 2) := by decide +kernel
theorem dL_law_297 : decode cL_law 297 = .ok (.aload_n 2, 1) := by decide +kernel
theorem dL_law_298 : decode cL_law 298 = .ok (.aload_n 0, 1) := by decide +kernel
theorem dL_law_299 : decode cL_law 299 = .ok (.iload 5, 2) := by decide +kernel
theorem dL_law_301 : decode cL_law 301 = .ok (.iconst 1, 1) := by decide +kernel
theorem dL_law_302 : decode cL_law 302 = .ok (.iadd, 1) := by decide +kernel
theorem dL_law_303 : decode cL_law 303 = .ok (.iaload, 1) := by decide +kernel
theorem dL_law_304 : decode cL_law 304 = .ok (.aload_n 0, 1) := by decide +kernel
theorem dL_law_305 : decode cL_law 305 = .ok (.iload 5, 2) := by decide +kernel
theorem dL_law_307 : decode cL_law 307 = .ok (.iconst 2, 1) := by decide +kernel
theorem dL_law_308 : decode cL_law 308 = .ok (.iadd, 1) := by decide +kernel
theorem dL_law_309 : decode cL_law 309 = .ok (.iaload, 1) := by decide +kernel
theorem dL_law_310 : decode cL_law 310 = .ok (.aload_n 0, 1) := by decide +kernel
theorem dL_law_311 : decode cL_law 311 = .ok (.iload 5, 2) := by decide +kernel
theorem dL_law_313 : decode cL_law 313 = .ok (.iconst 3, 1) := by decide +kernel
theorem dL_law_314 : decode cL_law 314 = .ok (.iadd, 1) := by decide +kernel
theorem dL_law_315 : decode cL_law 315 = .ok (.iaload, 1) := by decide +kernel
theorem dL_law_316 : decode cL_law 316 = .ok (.invokevirtual 149, 3) := by decide +kernel
theorem dL_law_319 : decode cL_law 319 = .ok (.istore 7, 2) := by decide +kernel
theorem dL_law_321 : decode cL_law 321 = .ok (.aload_n 2, 1) := by decide +kernel
theorem dL_law_322 : decode cL_law 322 = .ok (.invokevirtual 143, 3) := by decide +kernel
theorem dL_law_325 : decode cL_law 325 = .ok (.iload 6, 2) := by decide +kernel
theorem dL_law_327 : decode cL_law 327 = .ok (.if_icmp .eq 5, 3) := by decide +kernel
theorem dL_law_330 : decode cL_law 330 = .ok (.iconst 0, 1) := by decide +kernel
theorem dL_law_331 : decode cL_law 331 = .ok (.ireturn, 1) := by decide +kernel
theorem dL_law_332 : decode cL_law 332 = .ok (.iload 6, 2) := by decide +kernel
theorem dL_law_334 : decode cL_law 334 = .ok (.ifCond .ne 15, 3) := by decide +kernel
theorem dL_law_337 : decode cL_law 337 = .ok (.aload_n 3, 1) := by decide +kernel
theorem dL_law_338 : decode cL_law 338 = .ok (.iconst 0, 1) := by decide +kernel
theorem dL_law_339 : decode cL_law 339 = .ok (.laload, 1) := by decide +kernel
theorem dL_law_340 : decode cL_law 340 = .ok (.iload 7, 2) := by decide +kernel
theorem dL_law_342 : decode cL_law 342 = .ok (.i2l, 1) := by decide +kernel
theorem dL_law_343 : decode cL_law 343 = .ok (.lcmp, 1) := by decide +kernel
theorem dL_law_344 : decode cL_law 344 = .ok (.ifCond .eq 5, 3) := by decide +kernel
theorem dL_law_347 : decode cL_law 347 = .ok (.iconst 0, 1) := by decide +kernel
theorem dL_law_348 : decode cL_law 348 = .ok (.ireturn, 1) := by decide +kernel
theorem dL_law_349 : decode cL_law 349 = .ok (.goto 1905, 3) := by decide +kernel
theorem dL_law_352 : decode cL_law 352 = .ok (.aload_n 1, 1) := by decide +kernel
theorem dL_law_353 : decode cL_law 353 = .ok (.aload_n 0, 1) := by decide +kernel
theorem dL_law_354 : decode cL_law 354 = .ok (.iload 5, 2) := by decide +kernel
theorem dL_law_356 : decode cL_law 356 = .ok (.iconst 1, 1) := by decide +kernel
theorem dL_law_357 : decode cL_law 357 = .ok (.iadd, 1) := by decide +kernel
theorem dL_law_358 : decode cL_law 358 = .ok (.iaload, 1) := by decide +kernel
theorem dL_law_359 : decode cL_law 359 = .ok (.aload_n 0, 1) := by decide +kernel
theorem dL_law_360 : decode cL_law 360 = .ok (.iload 5, 2) := by decide +kernel
theorem dL_law_362 : decode cL_law 362 = .ok (.iconst 2, 1) := by decide +kernel
theorem dL_law_363 : decode cL_law 363 = .ok (.iadd, 1) := by decide +kernel
theorem dL_law_364 : decode cL_law 364 = .ok (.iaload, 1) := by decide +kernel
theorem dL_law_365 : decode cL_law 365 = .ok (.aload_n 3, 1) := by decide +kernel
theorem dL_law_366 : decode cL_law 366 = .ok (.invokestatic 150, 3) := by decide +kernel
theorem dL_law_369 : decode cL_law 369 = .ok (.istore 6, 2) := by decide +kernel
theorem dL_law_371 : decode cL_law 371 = .ok (.aload_n 2, 1) := by decide +kernel
theorem dL_law_372 : decode cL_law 372 = .ok (.aload_n 0, 1) := by decide +kernel
theorem dL_law_373 : decode cL_law 373 = .ok (.iload 5, 2) := by decide +kernel
theorem dL_law_375 : decode cL_law 375 = .ok (.iconst 1, 1) := by decide +kernel
theorem dL_law_376 : decode cL_law 376 = .ok (.iadd, 1) := by decide +kernel
theorem dL_law_377 : decode cL_law 377 = .ok (.iaload, 1) := by decide +kernel
theorem dL_law_378 : decode cL_law 378 = .ok (.aload_n 0, 1) := by decide +kernel
theorem dL_law_379 : decode cL_law 379 = .ok (.iload 5, 2) := by decide +kernel
theorem dL_law_381 : decode cL_law 381 = .ok (.iconst 2, 1) := by decide +kernel
theorem dL_law_382 : decode cL_law 382 = .ok (.iadd, 1) := by decide +kernel
theorem dL_law_383 : decode cL_law 383 = .ok (.iaload, 1) := by decide +kernel
theorem dL_law_384 : decode cL_law 384 = .ok (.invokevirtual 153, 3) := by decide +kernel
theorem dL_law_387 : decode cL_law 387 = .ok (.istore 7, 2) := by decide +kernel
theorem dL_law_389 : decode cL_law 389 = .ok (.aload_n 2, 1) := by decide +kernel
theorem dL_law_390 : decode cL_law 390 = .ok (.invokevirtual 143, 3) := by decide +kernel
theorem dL_law_393 : decode cL_law 393 = .ok (.iload 6, 2) := by decide +kernel
theorem dL_law_395 : decode cL_law 395 = .ok (.if_icmp .eq 5, 3) := by decide +kernel
theorem dL_law_398 : decode cL_law 398 = .ok (.iconst 0, 1) := by decide +kernel
theorem dL_law_399 : decode cL_law 399 = .ok (.ireturn, 1) := by decide +kernel
theorem dL_law_400 : decode cL_law 400 = .ok (.iload 6, 2) := by decide +kernel
theorem dL_law_402 : decode cL_law 402 = .ok (.ifCond .ne 15, 3) := by decide +kernel
theorem dL_law_405 : decode cL_law 405 = .ok (.aload_n 3, 1) := by decide +kernel
theorem dL_law_406 : decode cL_law 406 = .ok (.iconst 0, 1) := by decide +kernel
theorem dL_law_407 : decode cL_law 407 = .ok (.laload, 1) := by decide +kernel
theorem dL_law_408 : decode cL_law 408 = .ok (.iload 7, 2) := by decide +kernel
theorem dL_law_410 : decode cL_law 410 = .ok (.i2l, 1) := by decide +kernel
theorem dL_law_411 : decode cL_law 411 = .ok (.lcmp, 1) := by decide +kernel
theorem dL_law_412 : decode cL_law 412 = .ok (.ifCond .eq 5, 3) := by decide +kernel
theorem dL_law_415 : decode cL_law 415 = .ok (.iconst 0, 1) := by decide +kernel
theorem dL_law_416 : decode cL_law 416 = .ok (.ireturn, 1) := by decide +kernel
theorem dL_law_417 : decode cL_law 417 = .ok (.goto 1837, 3) := by decide +kernel
theorem dL_law_420 : decode cL_law 420 = .ok (.aload_n 1, 1) := by decide +kernel
theorem dL_law_421 : decode cL_law 421 = .ok (.aload_n 0, 1) := by decide +kernel
theorem dL_law_422 : decode cL_law 422 = .ok (.iload 5, 2) := by decide +kernel
theorem dL_law_424 : decode cL_law 424 = .ok (.iconst 1, 1) := by decide +kernel
theorem dL_law_425 : decode cL_law 425 = .ok (.iadd, 1) := by decide +kernel
theorem dL_law_426 : decode cL_law 426 = .ok (.iaload, 1) := by decide +kernel
theorem dL_law_427 : decode cL_law 427 = .ok (.aload_n 0, 1) := by decide +kernel
theorem dL_law_428 : decode cL_law 428 = .ok (.iload 5, 2) := by decide +kernel
theorem dL_law_430 : decode cL_law 430 = .ok (.iconst 2, 1) := by decide +kernel
theorem dL_law_431 : decode cL_law 431 = .ok (.iadd, 1) := by decide +kernel
theorem dL_law_432 : decode cL_law 432 = .ok (.iaload, 1) := by decide +kernel
theorem dL_law_433 : decode cL_law 433 = .ok (.aload_n 0, 1) := by decide +kernel
theorem dL_law_434 : decode cL_law 434 = .ok (.iload 5, 2) := by decide +kernel
theorem dL_law_436 : decode cL_law 436 = .ok (.iconst 3, 1) := by decide +kernel
theorem dL_law_437 : decode cL_law 437 = .ok (.iadd, 1) := by decide +kernel
theorem dL_law_438 : decode cL_law 438 = .ok (.iaload, 1) := by decide +kernel
theorem dL_law_439 : decode cL_law 439 = .ok (.aload_n 3, 1) := by decide +kernel
theorem dL_law_440 : decode cL_law 440 = .ok (.invokestatic 154, 3) := by decide +kernel
theorem dL_law_443 : decode cL_law 443 = .ok (.istore 6, 2) := by decide +kernel
theorem dL_law_445 : decode cL_law 445 = .ok (.aload_n 2, 1) := by decide +kernel
theorem dL_law_446 : decode cL_law 446 = .ok (.aload_n 0, 1) := by decide +kernel
theorem dL_law_447 : decode cL_law 447 = .ok (.iload 5, 2) := by decide +kernel
theorem dL_law_449 : decode cL_law 449 = .ok (.iconst 1, 1) := by decide +kernel
theorem dL_law_450 : decode cL_law 450 = .ok (.iadd, 1) := by decide +kernel
theorem dL_law_451 : decode cL_law 451 = .ok (.iaload, 1) := by decide +kernel
theorem dL_law_452 : decode cL_law 452 = .ok (.aload_n 0, 1) := by decide +kernel
theorem dL_law_453 : decode cL_law 453 = .ok (.iload 5, 2) := by decide +kernel
theorem dL_law_455 : decode cL_law 455 = .ok (.iconst 2, 1) := by decide +kernel
theorem dL_law_456 : decode cL_law 456 = .ok (.iadd, 1) := by decide +kernel
theorem dL_law_457 : decode cL_law 457 = .ok (.iaload, 1) := by decide +kernel
theorem dL_law_458 : decode cL_law 458 = .ok (.aload_n 0, 1) := by decide +kernel
theorem dL_law_459 : decode cL_law 459 = .ok (.iload 5, 2) := by decide +kernel
theorem dL_law_461 : decode cL_law 461 = .ok (.iconst 3, 1) := by decide +kernel
theorem dL_law_462 : decode cL_law 462 = .ok (.iadd, 1) := by decide +kernel
theorem dL_law_463 : decode cL_law 463 = .ok (.iaload, 1) := by decide +kernel
theorem dL_law_464 : decode cL_law 464 = .ok (.invokevirtual 156, 3) := by decide +kernel
theorem dL_law_467 : decode cL_law 467 = .ok (.istore 7, 2) := by decide +kernel
theorem dL_law_469 : decode cL_law 469 = .ok (.aload_n 2, 1) := by decide +kernel
theorem dL_law_470 : decode cL_law 470 = .ok (.invokevirtual 143, 3) := by decide +kernel
theorem dL_law_473 : decode cL_law 473 = .ok (.iload 6, 2) := by decide +kernel
theorem dL_law_475 : decode cL_law 475 = .ok (.if_icmp .eq 5, 3) := by decide +kernel
theorem dL_law_478 : decode cL_law 478 = .ok (.iconst 0, 1) := by decide +kernel
theorem dL_law_479 : decode cL_law 479 = .ok (.ireturn, 1) := by decide +kernel
theorem dL_law_480 : decode cL_law 480 = .ok (.iload 6, 2) := by decide +kernel
theorem dL_law_482 : decode cL_law 482 = .ok (.ifCond .ne 15, 3) := by decide +kernel
theorem dL_law_485 : decode cL_law 485 = .ok (.aload_n 3, 1) := by decide +kernel
theorem dL_law_486 : decode cL_law 486 = .ok (.iconst 0, 1) := by decide +kernel
theorem dL_law_487 : decode cL_law 487 = .ok (.laload, 1) := by decide +kernel
theorem dL_law_488 : decode cL_law 488 = .ok (.iload 7, 2) := by decide +kernel
theorem dL_law_490 : decode cL_law 490 = .ok (.i2l, 1) := by decide +kernel
theorem dL_law_491 : decode cL_law 491 = .ok (.lcmp, 1) := by decide +kernel
theorem dL_law_492 : decode cL_law 492 = .ok (.ifCond .eq 5, 3) := by decide +kernel
theorem dL_law_495 : decode cL_law 495 = .ok (.iconst 0, 1) := by decide +kernel
theorem dL_law_496 : decode cL_law 496 = .ok (.ireturn, 1) := by decide +kernel
theorem dL_law_497 : decode cL_law 497 = .ok (.goto 1757, 3) := by decide +kernel
theorem dL_law_500 : decode cL_law 500 = .ok (.aload_n 1, 1) := by decide +kernel
theorem dL_law_501 : decode cL_law 501 = .ok (.aload_n 0, 1) := by decide +kernel
theorem dL_law_502 : decode cL_law 502 = .ok (.iload 5, 2) := by decide +kernel
theorem dL_law_504 : decode cL_law 504 = .ok (.iconst 1, 1) := by decide +kernel
theorem dL_law_505 : decode cL_law 505 = .ok (.iadd, 1) := by decide +kernel
theorem dL_law_506 : decode cL_law 506 = .ok (.iaload, 1) := by decide +kernel
theorem dL_law_507 : decode cL_law 507 = .ok (.aload_n 0, 1) := by decide +kernel
theorem dL_law_508 : decode cL_law 508 = .ok (.iload 5, 2) := by decide +kernel
theorem dL_law_510 : decode cL_law 510 = .ok (.iconst 2, 1) := by decide +kernel
theorem dL_law_511 : decode cL_law 511 = .ok (.iadd, 1) := by decide +kernel
theorem dL_law_512 : decode cL_law 512 = .ok (.iaload, 1) := by decide +kernel
theorem dL_law_513 : decode cL_law 513 = .ok (.aload_n 3, 1) := by decide +kernel
theorem dL_law_514 : decode cL_law 514 = .ok (.invokestatic 157, 3) := by decide +kernel
theorem dL_law_517 : decode cL_law 517 = .ok (.istore 6, 2) := by decide +kernel
theorem dL_law_519 : decode cL_law 519 = .ok (.aload_n 2, 1) := by decide +kernel
theorem dL_law_520 : decode cL_law 520 = .ok (.aload_n 0, 1) := by decide +kernel
theorem dL_law_521 : decode cL_law 521 = .ok (.iload 5, 2) := by decide +kernel
theorem dL_law_523 : decode cL_law 523 = .ok (.iconst 1, 1) := by decide +kernel
theorem dL_law_524 : decode cL_law 524 = .ok (.iadd, 1) := by decide +kernel
theorem dL_law_525 : decode cL_law 525 = .ok (.iaload, 1) := by decide +kernel
theorem dL_law_526 : decode cL_law 526 = .ok (.aload_n 0, 1) := by decide +kernel
theorem dL_law_527 : decode cL_law 527 = .ok (.iload 5, 2) := by decide +kernel
theorem dL_law_529 : decode cL_law 529 = .ok (.iconst 2, 1) := by decide +kernel
theorem dL_law_530 : decode cL_law 530 = .ok (.iadd, 1) := by decide +kernel
theorem dL_law_531 : decode cL_law 531 = .ok (.iaload, 1) := by decide +kernel
theorem dL_law_532 : decode cL_law 532 = .ok (.invokevirtual 159, 3) := by decide +kernel
theorem dL_law_535 : decode cL_law 535 = .ok (.istore 7, 2) := by decide +kernel
theorem dL_law_537 : decode cL_law 537 = .ok (.aload_n 2, 1) := by decide +kernel
theorem dL_law_538 : decode cL_law 538 = .ok (.invokevirtual 143, 3) := by decide +kernel
theorem dL_law_541 : decode cL_law 541 = .ok (.iload 6, 2) := by decide +kernel
theorem dL_law_543 : decode cL_law 543 = .ok (.if_icmp .eq 5, 3) := by decide +kernel
theorem dL_law_546 : decode cL_law 546 = .ok (.iconst 0, 1) := by decide +kernel
theorem dL_law_547 : decode cL_law 547 = .ok (.ireturn, 1) := by decide +kernel
theorem dL_law_548 : decode cL_law 548 = .ok (.iload 6, 2) := by decide +kernel
theorem dL_law_550 : decode cL_law 550 = .ok (.ifCond .ne 22, 3) := by decide +kernel
theorem dL_law_553 : decode cL_law 553 = .ok (.aload_n 3, 1) := by decide +kernel
theorem dL_law_554 : decode cL_law 554 = .ok (.iconst 0, 1) := by decide +kernel
theorem dL_law_555 : decode cL_law 555 = .ok (.laload, 1) := by decide +kernel
theorem dL_law_556 : decode cL_law 556 = .ok (.iload 7, 2) := by decide +kernel
theorem dL_law_558 : decode cL_law 558 = .ok (.ifCond .eq 7, 3) := by decide +kernel
theorem dL_law_561 : decode cL_law 561 = .ok (.lconst 1, 1) := by decide +kernel
theorem dL_law_562 : decode cL_law 562 = .ok (.goto 4, 3) := by decide +kernel
theorem dL_law_565 : decode cL_law 565 = .ok (.lconst 0, 1) := by decide +kernel
theorem dL_law_566 : decode cL_law 566 = .ok (.lcmp, 1) := by decide +kernel
theorem dL_law_567 : decode cL_law 567 = .ok (.ifCond .eq 5, 3) := by decide +kernel
theorem dL_law_570 : decode cL_law 570 = .ok (.iconst 0, 1) := by decide +kernel
theorem dL_law_571 : decode cL_law 571 = .ok (.ireturn, 1) := by decide +kernel
theorem dL_law_572 : decode cL_law 572 = .ok (.goto 1682, 3) := by decide +kernel
theorem dL_law_575 : decode cL_law 575 = .ok (.aload_n 1, 1) := by decide +kernel
theorem dL_law_576 : decode cL_law 576 = .ok (.aload_n 0, 1) := by decide +kernel
theorem dL_law_577 : decode cL_law 577 = .ok (.iload 5, 2) := by decide +kernel
theorem dL_law_579 : decode cL_law 579 = .ok (.iconst 1, 1) := by decide +kernel
theorem dL_law_580 : decode cL_law 580 = .ok (.iadd, 1) := by decide +kernel
theorem dL_law_581 : decode cL_law 581 = .ok (.iaload, 1) := by decide +kernel
theorem dL_law_582 : decode cL_law 582 = .ok (.aload_n 3, 1) := by decide +kernel
theorem dL_law_583 : decode cL_law 583 = .ok (.invokestatic 160, 3) := by decide +kernel
theorem dL_law_586 : decode cL_law 586 = .ok (.istore 6, 2) := by decide +kernel
theorem dL_law_588 : decode cL_law 588 = .ok (.aload_n 2, 1) := by decide +kernel
theorem dL_law_589 : decode cL_law 589 = .ok (.aload_n 0, 1) := by decide +kernel
theorem dL_law_590 : decode cL_law 590 = .ok (.iload 5, 2) := by decide +kernel
theorem dL_law_592 : decode cL_law 592 = .ok (.iconst 1, 1) := by decide +kernel
theorem dL_law_593 : decode cL_law 593 = .ok (.iadd, 1) := by decide +kernel
theorem dL_law_594 : decode cL_law 594 = .ok (.iaload, 1) := by decide +kernel
theorem dL_law_595 : decode cL_law 595 = .ok (.invokevirtual 162, 3) := by decide +kernel
theorem dL_law_598 : decode cL_law 598 = .ok (.istore 7, 2) := by decide +kernel
theorem dL_law_600 : decode cL_law 600 = .ok (.aload_n 2, 1) := by decide +kernel
theorem dL_law_601 : decode cL_law 601 = .ok (.invokevirtual 143, 3) := by decide +kernel
theorem dL_law_604 : decode cL_law 604 = .ok (.iload 6, 2) := by decide +kernel
theorem dL_law_606 : decode cL_law 606 = .ok (.if_icmp .eq 5, 3) := by decide +kernel
theorem dL_law_609 : decode cL_law 609 = .ok (.iconst 0, 1) := by decide +kernel
theorem dL_law_610 : decode cL_law 610 = .ok (.ireturn, 1) := by decide +kernel
theorem dL_law_611 : decode cL_law 611 = .ok (.iload 6, 2) := by decide +kernel
theorem dL_law_613 : decode cL_law 613 = .ok (.ifCond .ne 15, 3) := by decide +kernel
theorem dL_law_616 : decode cL_law 616 = .ok (.aload_n 3, 1) := by decide +kernel
theorem dL_law_617 : decode cL_law 617 = .ok (.iconst 0, 1) := by decide +kernel
theorem dL_law_618 : decode cL_law 618 = .ok (.laload, 1) := by decide +kernel
theorem dL_law_619 : decode cL_law 619 = .ok (.iload 7, 2) := by decide +kernel
theorem dL_law_621 : decode cL_law 621 = .ok (.i2l, 1) := by decide +kernel
theorem dL_law_622 : decode cL_law 622 = .ok (.lcmp, 1) := by decide +kernel
theorem dL_law_623 : decode cL_law 623 = .ok (.ifCond .eq 5, 3) := by decide +kernel
theorem dL_law_626 : decode cL_law 626 = .ok (.iconst 0, 1) := by decide +kernel
theorem dL_law_627 : decode cL_law 627 = .ok (.ireturn, 1) := by decide +kernel
theorem dL_law_628 : decode cL_law 628 = .ok (.goto 1626, 3) := by decide +kernel
theorem dL_law_631 : decode cL_law 631 = .ok (.aload_n 1, 1) := by decide +kernel
theorem dL_law_632 : decode cL_law 632 = .ok (.aload_n 3, 1) := by decide +kernel
theorem dL_law_633 : decode cL_law 633 = .ok (.invokestatic 163, 3) := by decide +kernel
theorem dL_law_636 : decode cL_law 636 = .ok (.istore 6, 2) := by decide +kernel
theorem dL_law_638 : decode cL_law 638 = .ok (.aload_n 2, 1) := by decide +kernel
theorem dL_law_639 : decode cL_law 639 = .ok (.invokevirtual 166, 3) := by decide +kernel
theorem dL_law_642 : decode cL_law 642 = .ok (.istore 7, 2) := by decide +kernel
theorem dL_law_644 : decode cL_law 644 = .ok (.aload_n 2, 1) := by decide +kernel
theorem dL_law_645 : decode cL_law 645 = .ok (.invokevirtual 143, 3) := by decide +kernel
theorem dL_law_648 : decode cL_law 648 = .ok (.iload 6, 2) := by decide +kernel
theorem dL_law_650 : decode cL_law 650 = .ok (.if_icmp .eq 5, 3) := by decide +kernel
theorem dL_law_653 : decode cL_law 653 = .ok (.iconst 0, 1) := by decide +kernel
theorem dL_law_654 : decode cL_law 654 = .ok (.ireturn, 1) := by decide +kernel
theorem dL_law_655 : decode cL_law 655 = .ok (.iload 6, 2) := by decide +kernel
theorem dL_law_657 : decode cL_law 657 = .ok (.ifCond .ne 15, 3) := by decide +kernel
theorem dL_law_660 : decode cL_law 660 = .ok (.aload_n 3, 1) := by decide +kernel
theorem dL_law_661 : decode cL_law 661 = .ok (.iconst 0, 1) := by decide +kernel
theorem dL_law_662 : decode cL_law 662 = .ok (.laload, 1) := by decide +kernel
theorem dL_law_663 : decode cL_law 663 = .ok (.iload 7, 2) := by decide +kernel
theorem dL_law_665 : decode cL_law 665 = .ok (.i2l, 1) := by decide +kernel
theorem dL_law_666 : decode cL_law 666 = .ok (.lcmp, 1) := by decide +kernel
theorem dL_law_667 : decode cL_law 667 = .ok (.ifCond .eq 5, 3) := by decide +kernel
theorem dL_law_670 : decode cL_law 670 = .ok (.iconst 0, 1) := by decide +kernel
theorem dL_law_671 : decode cL_law 671 = .ok (.ireturn, 1) := by decide +kernel
theorem dL_law_672 : decode cL_law 672 = .ok (.goto 1582, 3) := by decide +kernel
theorem dL_law_675 : decode cL_law 675 = .ok (.aload_n 1, 1) := by decide +kernel
theorem dL_law_676 : decode cL_law 676 = .ok (.aload_n 3, 1) := by decide +kernel
theorem dL_law_677 : decode cL_law 677 = .ok (.invokestatic 167, 3) := by decide +kernel
theorem dL_law_680 : decode cL_law 680 = .ok (.istore 6, 2) := by decide +kernel
theorem dL_law_682 : decode cL_law 682 = .ok (.aload_n 2, 1) := by decide +kernel
theorem dL_law_683 : decode cL_law 683 = .ok (.invokevirtual 169, 3) := by decide +kernel
theorem dL_law_686 : decode cL_law 686 = .ok (.istore 7, 2) := by decide +kernel
theorem dL_law_688 : decode cL_law 688 = .ok (.aload_n 2, 1) := by decide +kernel
theorem dL_law_689 : decode cL_law 689 = .ok (.invokevirtual 143, 3) := by decide +kernel
theorem dL_law_692 : decode cL_law 692 = .ok (.iload 6, 2) := by decide +kernel
theorem dL_law_694 : decode cL_law 694 = .ok (.if_icmp .eq 5, 3) := by decide +kernel
theorem dL_law_697 : decode cL_law 697 = .ok (.iconst 0, 1) := by decide +kernel
theorem dL_law_698 : decode cL_law 698 = .ok (.ireturn, 1) := by decide +kernel
theorem dL_law_699 : decode cL_law 699 = .ok (.iload 6, 2) := by decide +kernel
theorem dL_law_701 : decode cL_law 701 = .ok (.ifCond .ne 15, 3) := by decide +kernel
theorem dL_law_704 : decode cL_law 704 = .ok (.aload_n 3, 1) := by decide +kernel
theorem dL_law_705 : decode cL_law 705 = .ok (.iconst 0, 1) := by decide +kernel
theorem dL_law_706 : decode cL_law 706 = .ok (.laload, 1) := by decide +kernel
theorem dL_law_707 : decode cL_law 707 = .ok (.iload 7, 2) := by decide +kernel
theorem dL_law_709 : decode cL_law 709 = .ok (.i2l, 1) := by decide +kernel
theorem dL_law_710 : decode cL_law 710 = .ok (.lcmp, 1) := by decide +kernel
theorem dL_law_711 : decode cL_law 711 = .ok (.ifCond .eq 5, 3) := by decide +kernel
theorem dL_law_714 : decode cL_law 714 = .ok (.iconst 0, 1) := by decide +kernel
theorem dL_law_715 : decode cL_law 715 = .ok (.ireturn, 1) := by decide +kernel
theorem dL_law_716 : decode cL_law 716 = .ok (.goto 1538, 3) := by decide +kernel
theorem dL_law_719 : decode cL_law 719 = .ok (.aload_n 1, 1) := by decide +kernel
theorem dL_law_720 : decode cL_law 720 = .ok (.aload_n 0, 1) := by decide +kernel
theorem dL_law_721 : decode cL_law 721 = .ok (.iload 5, 2) := by decide +kernel
theorem dL_law_723 : decode cL_law 723 = .ok (.iconst 1, 1) := by decide +kernel
theorem dL_law_724 : decode cL_law 724 = .ok (.iadd, 1) := by decide +kernel
theorem dL_law_725 : decode cL_law 725 = .ok (.iaload, 1) := by decide +kernel
theorem dL_law_726 : decode cL_law 726 = .ok (.aload_n 0, 1) := by decide +kernel
theorem dL_law_727 : decode cL_law 727 = .ok (.iload 5, 2) := by decide +kernel
theorem dL_law_729 : decode cL_law 729 = .ok (.iconst 2, 1) := by decide +kernel
theorem dL_law_730 : decode cL_law 730 = .ok (.iadd, 1) := by decide +kernel
theorem dL_law_731 : decode cL_law 731 = .ok (.iaload, 1) := by decide +kernel
theorem dL_law_732 : decode cL_law 732 = .ok (.aload_n 0, 1) := by decide +kernel
theorem dL_law_733 : decode cL_law 733 = .ok (.iload 5, 2) := by decide +kernel
theorem dL_law_735 : decode cL_law 735 = .ok (.iconst 3, 1) := by decide +kernel
theorem dL_law_736 : decode cL_law 736 = .ok (.iadd, 1) := by decide +kernel
theorem dL_law_737 : decode cL_law 737 = .ok (.iaload, 1) := by decide +kernel
theorem dL_law_738 : decode cL_law 738 = .ok (.aload_n 0, 1) := by decide +kernel
theorem dL_law_739 : decode cL_law 739 = .ok (.iload 5, 2) := by decide +kernel
theorem dL_law_741 : decode cL_law 741 = .ok (.iconst 4, 1) := by decide +kernel
theorem dL_law_742 : decode cL_law 742 = .ok (.iadd, 1) := by decide +kernel
theorem dL_law_743 : decode cL_law 743 = .ok (.iaload, 1) := by decide +kernel
theorem dL_law_744 : decode cL_law 744 = .ok (.aload_n 0, 1) := by decide +kernel
theorem dL_law_745 : decode cL_law 745 = .ok (.iload 5, 2) := by decide +kernel
theorem dL_law_747 : decode cL_law 747 = .ok (.iconst 5, 1) := by decide +kernel
theorem dL_law_748 : decode cL_law 748 = .ok (.iadd, 1) := by decide +kernel
theorem dL_law_749 : decode cL_law 749 = .ok (.iaload, 1) := by decide +kernel
theorem dL_law_750 : decode cL_law 750 = .ok (.aload_n 3, 1) := by decide +kernel
theorem dL_law_751 : decode cL_law 751 = .ok (.invokestatic 170, 3) := by decide +kernel
theorem dL_law_754 : decode cL_law 754 = .ok (.istore 6, 2) := by decide +kernel
theorem dL_law_756 : decode cL_law 756 = .ok (.aload_n 2, 1) := by decide +kernel
theorem dL_law_757 : decode cL_law 757 = .ok (.aload_n 0, 1) := by decide +kernel
theorem dL_law_758 : decode cL_law 758 = .ok (.iload 5, 2) := by decide +kernel
theorem dL_law_760 : decode cL_law 760 = .ok (.iconst 1, 1) := by decide +kernel
theorem dL_law_761 : decode cL_law 761 = .ok (.iadd, 1) := by decide +kernel
theorem dL_law_762 : decode cL_law 762 = .ok (.iaload, 1) := by decide +kernel
theorem dL_law_763 : decode cL_law 763 = .ok (.aload_n 0, 1) := by decide +kernel
theorem dL_law_764 : decode cL_law 764 = .ok (.iload 5, 2) := by decide +kernel
theorem dL_law_766 : decode cL_law 766 = .ok (.iconst 2, 1) := by decide +kernel
theorem dL_law_767 : decode cL_law 767 = .ok (.iadd, 1) := by decide +kernel
theorem dL_law_768 : decode cL_law 768 = .ok (.iaload, 1) := by decide +kernel
theorem dL_law_769 : decode cL_law 769 = .ok (.aload_n 0, 1) := by decide +kernel
theorem dL_law_770 : decode cL_law 770 = .ok (.iload 5, 2) := by decide +kernel
theorem dL_law_772 : decode cL_law 772 = .ok (.iconst 3, 1) := by decide +kernel
theorem dL_law_773 : decode cL_law 773 = .ok (.iadd, 1) := by decide +kernel
theorem dL_law_774 : decode cL_law 774 = .ok (.iaload, 1) := by decide +kernel
theorem dL_law_775 : decode cL_law 775 = .ok (.aload_n 0, 1) := by decide +kernel
theorem dL_law_776 : decode cL_law 776 = .ok (.iload 5, 2) := by decide +kernel
theorem dL_law_778 : decode cL_law 778 = .ok (.iconst 4, 1) := by decide +kernel
theorem dL_law_779 : decode cL_law 779 = .ok (.iadd, 1) := by decide +kernel
theorem dL_law_780 : decode cL_law 780 = .ok (.iaload, 1) := by decide +kernel
theorem dL_law_781 : decode cL_law 781 = .ok (.aload_n 0, 1) := by decide +kernel
theorem dL_law_782 : decode cL_law 782 = .ok (.iload 5, 2) := by decide +kernel
theorem dL_law_784 : decode cL_law 784 = .ok (.iconst 5, 1) := by decide +kernel
theorem dL_law_785 : decode cL_law 785 = .ok (.iadd, 1) := by decide +kernel
theorem dL_law_786 : decode cL_law 786 = .ok (.iaload, 1) := by decide +kernel
theorem dL_law_787 : decode cL_law 787 = .ok (.invokevirtual 173, 3) := by decide +kernel
theorem dL_law_790 : decode cL_law 790 = .ok (.istore 7, 2) := by decide +kernel
theorem dL_law_792 : decode cL_law 792 = .ok (.aload_n 2, 1) := by decide +kernel
theorem dL_law_793 : decode cL_law 793 = .ok (.invokevirtual 143, 3) := by decide +kernel
theorem dL_law_796 : decode cL_law 796 = .ok (.iload 6, 2) := by decide +kernel
theorem dL_law_798 : decode cL_law 798 = .ok (.if_icmp .eq 5, 3) := by decide +kernel
theorem dL_law_801 : decode cL_law 801 = .ok (.iconst 0, 1) := by decide +kernel
theorem dL_law_802 : decode cL_law 802 = .ok (.ireturn, 1) := by decide +kernel
theorem dL_law_803 : decode cL_law 803 = .ok (.iload 6, 2) := by decide +kernel
theorem dL_law_805 : decode cL_law 805 = .ok (.ifCond .ne 15, 3) := by decide +kernel
theorem dL_law_808 : decode cL_law 808 = .ok (.aload_n 3, 1) := by decide +kernel
theorem dL_law_809 : decode cL_law 809 = .ok (.iconst 0, 1) := by decide +kernel
theorem dL_law_810 : decode cL_law 810 = .ok (.laload, 1) := by decide +kernel
theorem dL_law_811 : decode cL_law 811 = .ok (.iload 7, 2) := by decide +kernel
theorem dL_law_813 : decode cL_law 813 = .ok (.i2l, 1) := by decide +kernel
theorem dL_law_814 : decode cL_law 814 = .ok (.lcmp, 1) := by decide +kernel
theorem dL_law_815 : decode cL_law 815 = .ok (.ifCond .eq 5, 3) := by decide +kernel
theorem dL_law_818 : decode cL_law 818 = .ok (.iconst 0, 1) := by decide +kernel
theorem dL_law_819 : decode cL_law 819 = .ok (.ireturn, 1) := by decide +kernel
theorem dL_law_820 : decode cL_law 820 = .ok (.goto 1434, 3) := by decide +kernel
theorem dL_law_823 : decode cL_law 823 = .ok (.aload_n 1, 1) := by decide +kernel
theorem dL_law_824 : decode cL_law 824 = .ok (.aload_n 0, 1) := by decide +kernel
theorem dL_law_825 : decode cL_law 825 = .ok (.iload 5, 2) := by decide +kernel
theorem dL_law_827 : decode cL_law 827 = .ok (.iconst 1, 1) := by decide +kernel
theorem dL_law_828 : decode cL_law 828 = .ok (.iadd, 1) := by decide +kernel
theorem dL_law_829 : decode cL_law 829 = .ok (.iaload, 1) := by decide +kernel
theorem dL_law_830 : decode cL_law 830 = .ok (.aload_n 3, 1) := by decide +kernel
theorem dL_law_831 : decode cL_law 831 = .ok (.invokestatic 174, 3) := by decide +kernel
theorem dL_law_834 : decode cL_law 834 = .ok (.istore 6, 2) := by decide +kernel
theorem dL_law_836 : decode cL_law 836 = .ok (.aload_n 2, 1) := by decide +kernel
theorem dL_law_837 : decode cL_law 837 = .ok (.aload_n 0, 1) := by decide +kernel
theorem dL_law_838 : decode cL_law 838 = .ok (.iload 5, 2) := by decide +kernel
theorem dL_law_840 : decode cL_law 840 = .ok (.iconst 1, 1) := by decide +kernel
theorem dL_law_841 : decode cL_law 841 = .ok (.iadd, 1) := by decide +kernel
theorem dL_law_842 : decode cL_law 842 = .ok (.iaload, 1) := by decide +kernel
theorem dL_law_843 : decode cL_law 843 = .ok (.invokevirtual 176, 3) := by decide +kernel
theorem dL_law_846 : decode cL_law 846 = .ok (.istore 7, 2) := by decide +kernel
theorem dL_law_848 : decode cL_law 848 = .ok (.aload_n 2, 1) := by decide +kernel
theorem dL_law_849 : decode cL_law 849 = .ok (.invokevirtual 143, 3) := by decide +kernel
theorem dL_law_852 : decode cL_law 852 = .ok (.iload 6, 2) := by decide +kernel
theorem dL_law_854 : decode cL_law 854 = .ok (.if_icmp .eq 5, 3) := by decide +kernel
theorem dL_law_857 : decode cL_law 857 = .ok (.iconst 0, 1) := by decide +kernel
theorem dL_law_858 : decode cL_law 858 = .ok (.ireturn, 1) := by decide +kernel
theorem dL_law_859 : decode cL_law 859 = .ok (.iload 6, 2) := by decide +kernel
theorem dL_law_861 : decode cL_law 861 = .ok (.ifCond .ne 15, 3) := by decide +kernel
theorem dL_law_864 : decode cL_law 864 = .ok (.aload_n 3, 1) := by decide +kernel
theorem dL_law_865 : decode cL_law 865 = .ok (.iconst 0, 1) := by decide +kernel
theorem dL_law_866 : decode cL_law 866 = .ok (.laload, 1) := by decide +kernel
theorem dL_law_867 : decode cL_law 867 = .ok (.iload 7, 2) := by decide +kernel
theorem dL_law_869 : decode cL_law 869 = .ok (.i2l, 1) := by decide +kernel
theorem dL_law_870 : decode cL_law 870 = .ok (.lcmp, 1) := by decide +kernel
theorem dL_law_871 : decode cL_law 871 = .ok (.ifCond .eq 5, 3) := by decide +kernel
theorem dL_law_874 : decode cL_law 874 = .ok (.iconst 0, 1) := by decide +kernel
theorem dL_law_875 : decode cL_law 875 = .ok (.ireturn, 1) := by decide +kernel
theorem dL_law_876 : decode cL_law 876 = .ok (.goto 1378, 3) := by decide +kernel
theorem dL_law_879 : decode cL_law 879 = .ok (.aload_n 1, 1) := by decide +kernel
theorem dL_law_880 : decode cL_law 880 = .ok (.aload_n 0, 1) := by decide +kernel
theorem dL_law_881 : decode cL_law 881 = .ok (.iload 5, 2) := by decide +kernel
theorem dL_law_883 : decode cL_law 883 = .ok (.iconst 1, 1) := by decide +kernel
theorem dL_law_884 : decode cL_law 884 = .ok (.iadd, 1) := by decide +kernel
theorem dL_law_885 : decode cL_law 885 = .ok (.iaload, 1) := by decide +kernel
theorem dL_law_886 : decode cL_law 886 = .ok (.aload_n 3, 1) := by decide +kernel
theorem dL_law_887 : decode cL_law 887 = .ok (.invokestatic 177, 3) := by decide +kernel
theorem dL_law_890 : decode cL_law 890 = .ok (.istore 6, 2) := by decide +kernel
theorem dL_law_892 : decode cL_law 892 = .ok (.aload_n 2, 1) := by decide +kernel
theorem dL_law_893 : decode cL_law 893 = .ok (.aload_n 0, 1) := by decide +kernel
theorem dL_law_894 : decode cL_law 894 = .ok (.iload 5, 2) := by decide +kernel
theorem dL_law_896 : decode cL_law 896 = .ok (.iconst 1, 1) := by decide +kernel
theorem dL_law_897 : decode cL_law 897 = .ok (.iadd, 1) := by decide +kernel
theorem dL_law_898 : decode cL_law 898 = .ok (.iaload, 1) := by decide +kernel
theorem dL_law_899 : decode cL_law 899 = .ok (.invokevirtual 179, 3) := by decide +kernel
theorem dL_law_902 : decode cL_law 902 = .ok (.istore 7, 2) := by decide +kernel
theorem dL_law_904 : decode cL_law 904 = .ok (.aload_n 2, 1) := by decide +kernel
theorem dL_law_905 : decode cL_law 905 = .ok (.invokevirtual 143, 3) := by decide +kernel
theorem dL_law_908 : decode cL_law 908 = .ok (.iload 6, 2) := by decide +kernel
theorem dL_law_910 : decode cL_law 910 = .ok (.if_icmp .eq 5, 3) := by decide +kernel
theorem dL_law_913 : decode cL_law 913 = .ok (.iconst 0, 1) := by decide +kernel
theorem dL_law_914 : decode cL_law 914 = .ok (.ireturn, 1) := by decide +kernel
theorem dL_law_915 : decode cL_law 915 = .ok (.iload 6, 2) := by decide +kernel
theorem dL_law_917 : decode cL_law 917 = .ok (.ifCond .ne 15, 3) := by decide +kernel
theorem dL_law_920 : decode cL_law 920 = .ok (.aload_n 3, 1) := by decide +kernel
theorem dL_law_921 : decode cL_law 921 = .ok (.iconst 0, 1) := by decide +kernel
theorem dL_law_922 : decode cL_law 922 = .ok (.laload, 1) := by decide +kernel
theorem dL_law_923 : decode cL_law 923 = .ok (.iload 7, 2) := by decide +kernel
theorem dL_law_925 : decode cL_law 925 = .ok (.i2l, 1) := by decide +kernel
theorem dL_law_926 : decode cL_law 926 = .ok (.lcmp, 1) := by decide +kernel
theorem dL_law_927 : decode cL_law 927 = .ok (.ifCond .eq 5, 3) := by decide +kernel
theorem dL_law_930 : decode cL_law 930 = .ok (.iconst 0, 1) := by decide +kernel
theorem dL_law_931 : decode cL_law 931 = .ok (.ireturn, 1) := by decide +kernel
theorem dL_law_932 : decode cL_law 932 = .ok (.goto 1322, 3) := by decide +kernel
theorem dL_law_935 : decode cL_law 935 = .ok (.aload_n 1, 1) := by decide +kernel
theorem dL_law_936 : decode cL_law 936 = .ok (.aload_n 0, 1) := by decide +kernel
theorem dL_law_937 : decode cL_law 937 = .ok (.iload 5, 2) := by decide +kernel
theorem dL_law_939 : decode cL_law 939 = .ok (.iconst 1, 1) := by decide +kernel
theorem dL_law_940 : decode cL_law 940 = .ok (.iadd, 1) := by decide +kernel
theorem dL_law_941 : decode cL_law 941 = .ok (.iaload, 1) := by decide +kernel
theorem dL_law_942 : decode cL_law 942 = .ok (.aload_n 3, 1) := by decide +kernel
theorem dL_law_943 : decode cL_law 943 = .ok (.invokestatic 180, 3) := by decide +kernel
theorem dL_law_946 : decode cL_law 946 = .ok (.istore 6, 2) := by decide +kernel
theorem dL_law_948 : decode cL_law 948 = .ok (.aload_n 2, 1) := by decide +kernel
theorem dL_law_949 : decode cL_law 949 = .ok (.aload_n 0, 1) := by decide +kernel
theorem dL_law_950 : decode cL_law 950 = .ok (.iload 5, 2) := by decide +kernel
theorem dL_law_952 : decode cL_law 952 = .ok (.iconst 1, 1) := by decide +kernel
theorem dL_law_953 : decode cL_law 953 = .ok (.iadd, 1) := by decide +kernel
theorem dL_law_954 : decode cL_law 954 = .ok (.iaload, 1) := by decide +kernel
theorem dL_law_955 : decode cL_law 955 = .ok (.invokevirtual 182, 3) := by decide +kernel
theorem dL_law_958 : decode cL_law 958 = .ok (.istore 7, 2) := by decide +kernel
theorem dL_law_960 : decode cL_law 960 = .ok (.aload_n 2, 1) := by decide +kernel
theorem dL_law_961 : decode cL_law 961 = .ok (.invokevirtual 143, 3) := by decide +kernel
theorem dL_law_964 : decode cL_law 964 = .ok (.iload 6, 2) := by decide +kernel
theorem dL_law_966 : decode cL_law 966 = .ok (.if_icmp .eq 5, 3) := by decide +kernel
theorem dL_law_969 : decode cL_law 969 = .ok (.iconst 0, 1) := by decide +kernel
theorem dL_law_970 : decode cL_law 970 = .ok (.ireturn, 1) := by decide +kernel
theorem dL_law_971 : decode cL_law 971 = .ok (.iload 6, 2) := by decide +kernel
theorem dL_law_973 : decode cL_law 973 = .ok (.ifCond .ne 15, 3) := by decide +kernel
theorem dL_law_976 : decode cL_law 976 = .ok (.aload_n 3, 1) := by decide +kernel
theorem dL_law_977 : decode cL_law 977 = .ok (.iconst 0, 1) := by decide +kernel
theorem dL_law_978 : decode cL_law 978 = .ok (.laload, 1) := by decide +kernel
theorem dL_law_979 : decode cL_law 979 = .ok (.iload 7, 2) := by decide +kernel
theorem dL_law_981 : decode cL_law 981 = .ok (.i2l, 1) := by decide +kernel
theorem dL_law_982 : decode cL_law 982 = .ok (.lcmp, 1) := by decide +kernel
theorem dL_law_983 : decode cL_law 983 = .ok (.ifCond .eq 5, 3) := by decide +kernel
theorem dL_law_986 : decode cL_law 986 = .ok (.iconst 0, 1) := by decide +kernel
theorem dL_law_987 : decode cL_law 987 = .ok (.ireturn, 1) := by decide +kernel
theorem dL_law_988 : decode cL_law 988 = .ok (.goto 1266, 3) := by decide +kernel
theorem dL_law_991 : decode cL_law 991 = .ok (.aload_n 1, 1) := by decide +kernel
theorem dL_law_992 : decode cL_law 992 = .ok (.aload_n 0, 1) := by decide +kernel
theorem dL_law_993 : decode cL_law 993 = .ok (.iload 5, 2) := by decide +kernel
theorem dL_law_995 : decode cL_law 995 = .ok (.iconst 1, 1) := by decide +kernel
theorem dL_law_996 : decode cL_law 996 = .ok (.iadd, 1) := by decide +kernel
theorem dL_law_997 : decode cL_law 997 = .ok (.iaload, 1) := by decide +kernel
theorem dL_law_998 : decode cL_law 998 = .ok (.aload_n 3, 1) := by decide +kernel
theorem dL_law_999 : decode cL_law 999 = .ok (.invokestatic 183, 3) := by decide +kernel
theorem dL_law_1002 : decode cL_law 1002 = .ok (.istore 6, 2) := by decide +kernel
theorem dL_law_1004 : decode cL_law 1004 = .ok (.aload_n 2, 1) := by decide +kernel
theorem dL_law_1005 : decode cL_law 1005 = .ok (.aload_n 0, 1) := by decide +kernel
theorem dL_law_1006 : decode cL_law 1006 = .ok (.iload 5, 2) := by decide +kernel
theorem dL_law_1008 : decode cL_law 1008 = .ok (.iconst 1, 1) := by decide +kernel
theorem dL_law_1009 : decode cL_law 1009 = .ok (.iadd, 1) := by decide +kernel
theorem dL_law_1010 : decode cL_law 1010 = .ok (.iaload, 1) := by decide +kernel
theorem dL_law_1011 : decode cL_law 1011 = .ok (.invokevirtual 185, 3) := by decide +kernel
theorem dL_law_1014 : decode cL_law 1014 = .ok (.istore 7, 2) := by decide +kernel
theorem dL_law_1016 : decode cL_law 1016 = .ok (.aload_n 2, 1) := by decide +kernel
theorem dL_law_1017 : decode cL_law 1017 = .ok (.invokevirtual 143, 3) := by decide +kernel
theorem dL_law_1020 : decode cL_law 1020 = .ok (.iload 6, 2) := by decide +kernel
theorem dL_law_1022 : decode cL_law 1022 = .ok (.if_icmp .eq 5, 3) := by decide +kernel
theorem dL_law_1025 : decode cL_law 1025 = .ok (.iconst 0, 1) := by decide +kernel
theorem dL_law_1026 : decode cL_law 1026 = .ok (.ireturn, 1) := by decide +kernel
theorem dL_law_1027 : decode cL_law 1027 = .ok (.iload 6, 2) := by decide +kernel
theorem dL_law_1029 : decode cL_law 1029 = .ok (.ifCond .ne 15, 3) := by decide +kernel
theorem dL_law_1032 : decode cL_law 1032 = .ok (.aload_n 3, 1) := by decide +kernel
theorem dL_law_1033 : decode cL_law 1033 = .ok (.iconst 0, 1) := by decide +kernel
theorem dL_law_1034 : decode cL_law 1034 = .ok (.laload, 1) := by decide +kernel
theorem dL_law_1035 : decode cL_law 1035 = .ok (.iload 7, 2) := by decide +kernel
theorem dL_law_1037 : decode cL_law 1037 = .ok (.i2l, 1) := by decide +kernel
theorem dL_law_1038 : decode cL_law 1038 = .ok (.lcmp, 1) := by decide +kernel
theorem dL_law_1039 : decode cL_law 1039 = .ok (.ifCond .eq 5, 3) := by decide +kernel
theorem dL_law_1042 : decode cL_law 1042 = .ok (.iconst 0, 1) := by decide +kernel
theorem dL_law_1043 : decode cL_law 1043 = .ok (.ireturn, 1) := by decide +kernel
theorem dL_law_1044 : decode cL_law 1044 = .ok (.goto 1210, 3) := by decide +kernel
theorem dL_law_1047 : decode cL_law 1047 = .ok (.aload_n 1, 1) := by decide +kernel
theorem dL_law_1048 : decode cL_law 1048 = .ok (.aload_n 0, 1) := by decide +kernel
theorem dL_law_1049 : decode cL_law 1049 = .ok (.iload 5, 2) := by decide +kernel
theorem dL_law_1051 : decode cL_law 1051 = .ok (.iconst 1, 1) := by decide +kernel
theorem dL_law_1052 : decode cL_law 1052 = .ok (.iadd, 1) := by decide +kernel
theorem dL_law_1053 : decode cL_law 1053 = .ok (.iaload, 1) := by decide +kernel
theorem dL_law_1054 : decode cL_law 1054 = .ok (.aload_n 3, 1) := by decide +kernel
theorem dL_law_1055 : decode cL_law 1055 = .ok (.invokestatic 186, 3) := by decide +kernel
theorem dL_law_1058 : decode cL_law 1058 = .ok (.istore 6, 2) := by decide +kernel
theorem dL_law_1060 : decode cL_law 1060 = .ok (.aload_n 2, 1) := by decide +kernel
theorem dL_law_1061 : decode cL_law 1061 = .ok (.aload_n 0, 1) := by decide +kernel
theorem dL_law_1062 : decode cL_law 1062 = .ok (.iload 5, 2) := by decide +kernel
theorem dL_law_1064 : decode cL_law 1064 = .ok (.iconst 1, 1) := by decide +kernel
theorem dL_law_1065 : decode cL_law 1065 = .ok (.iadd, 1) := by decide +kernel
theorem dL_law_1066 : decode cL_law 1066 = .ok (.iaload, 1) := by decide +kernel
theorem dL_law_1067 : decode cL_law 1067 = .ok (.invokevirtual 188, 3) := by decide +kernel
theorem dL_law_1070 : decode cL_law 1070 = .ok (.istore 7, 2) := by decide +kernel
theorem dL_law_1072 : decode cL_law 1072 = .ok (.aload_n 2, 1) := by decide +kernel
theorem dL_law_1073 : decode cL_law 1073 = .ok (.invokevirtual 143, 3) := by decide +kernel
theorem dL_law_1076 : decode cL_law 1076 = .ok (.iload 6, 2) := by decide +kernel
theorem dL_law_1078 : decode cL_law 1078 = .ok (.if_icmp .eq 5, 3) := by decide +kernel
theorem dL_law_1081 : decode cL_law 1081 = .ok (.iconst 0, 1) := by decide +kernel
theorem dL_law_1082 : decode cL_law 1082 = .ok (.ireturn, 1) := by decide +kernel
theorem dL_law_1083 : decode cL_law 1083 = .ok (.iload 6, 2) := by decide +kernel
theorem dL_law_1085 : decode cL_law 1085 = .ok (.ifCond .ne 15, 3) := by decide +kernel
theorem dL_law_1088 : decode cL_law 1088 = .ok (.aload_n 3, 1) := by decide +kernel
theorem dL_law_1089 : decode cL_law 1089 = .ok (.iconst 0, 1) := by decide +kernel
theorem dL_law_1090 : decode cL_law 1090 = .ok (.laload, 1) := by decide +kernel
theorem dL_law_1091 : decode cL_law 1091 = .ok (.iload 7, 2) := by decide +kernel
theorem dL_law_1093 : decode cL_law 1093 = .ok (.i2l, 1) := by decide +kernel
theorem dL_law_1094 : decode cL_law 1094 = .ok (.lcmp, 1) := by decide +kernel
theorem dL_law_1095 : decode cL_law 1095 = .ok (.ifCond .eq 5, 3) := by decide +kernel
theorem dL_law_1098 : decode cL_law 1098 = .ok (.iconst 0, 1) := by decide +kernel
theorem dL_law_1099 : decode cL_law 1099 = .ok (.ireturn, 1) := by decide +kernel
theorem dL_law_1100 : decode cL_law 1100 = .ok (.goto 1154, 3) := by decide +kernel
theorem dL_law_1103 : decode cL_law 1103 = .ok (.aload_n 1, 1) := by decide +kernel
theorem dL_law_1104 : decode cL_law 1104 = .ok (.aload_n 0, 1) := by decide +kernel
theorem dL_law_1105 : decode cL_law 1105 = .ok (.iload 5, 2) := by decide +kernel
theorem dL_law_1107 : decode cL_law 1107 = .ok (.iconst 1, 1) := by decide +kernel
theorem dL_law_1108 : decode cL_law 1108 = .ok (.iadd, 1) := by decide +kernel
theorem dL_law_1109 : decode cL_law 1109 = .ok (.iaload, 1) := by decide +kernel
theorem dL_law_1110 : decode cL_law 1110 = .ok (.aload_n 3, 1) := by decide +kernel
theorem dL_law_1111 : decode cL_law 1111 = .ok (.invokestatic 189, 3) := by decide +kernel
theorem dL_law_1114 : decode cL_law 1114 = .ok (.istore 6, 2) := by decide +kernel
theorem dL_law_1116 : decode cL_law 1116 = .ok (.aload_n 2, 1) := by decide +kernel
theorem dL_law_1117 : decode cL_law 1117 = .ok (.aload_n 0, 1) := by decide +kernel
theorem dL_law_1118 : decode cL_law 1118 = .ok (.iload 5, 2) := by decide +kernel
theorem dL_law_1120 : decode cL_law 1120 = .ok (.iconst 1, 1) := by decide +kernel
theorem dL_law_1121 : decode cL_law 1121 = .ok (.iadd, 1) := by decide +kernel
theorem dL_law_1122 : decode cL_law 1122 = .ok (.iaload, 1) := by decide +kernel
theorem dL_law_1123 : decode cL_law 1123 = .ok (.invokevirtual 191, 3) := by decide +kernel
theorem dL_law_1126 : decode cL_law 1126 = .ok (.istore 7, 2) := by decide +kernel
theorem dL_law_1128 : decode cL_law 1128 = .ok (.aload_n 2, 1) := by decide +kernel
theorem dL_law_1129 : decode cL_law 1129 = .ok (.invokevirtual 143, 3) := by decide +kernel
theorem dL_law_1132 : decode cL_law 1132 = .ok (.iload 6, 2) := by decide +kernel
theorem dL_law_1134 : decode cL_law 1134 = .ok (.if_icmp .eq 5, 3) := by decide +kernel
theorem dL_law_1137 : decode cL_law 1137 = .ok (.iconst 0, 1) := by decide +kernel
theorem dL_law_1138 : decode cL_law 1138 = .ok (.ireturn, 1) := by decide +kernel
theorem dL_law_1139 : decode cL_law 1139 = .ok (.iload 6, 2) := by decide +kernel
theorem dL_law_1141 : decode cL_law 1141 = .ok (.ifCond .ne 15, 3) := by decide +kernel
theorem dL_law_1144 : decode cL_law 1144 = .ok (.aload_n 3, 1) := by decide +kernel
theorem dL_law_1145 : decode cL_law 1145 = .ok (.iconst 0, 1) := by decide +kernel
theorem dL_law_1146 : decode cL_law 1146 = .ok (.laload, 1) := by decide +kernel
theorem dL_law_1147 : decode cL_law 1147 = .ok (.iload 7, 2) := by decide +kernel
theorem dL_law_1149 : decode cL_law 1149 = .ok (.i2l, 1) := by decide +kernel
theorem dL_law_1150 : decode cL_law 1150 = .ok (.lcmp, 1) := by decide +kernel
theorem dL_law_1151 : decode cL_law 1151 = .ok (.ifCond .eq 5, 3) := by decide +kernel
theorem dL_law_1154 : decode cL_law 1154 = .ok (.iconst 0, 1) := by decide +kernel
theorem dL_law_1155 : decode cL_law 1155 = .ok (.ireturn, 1) := by decide +kernel
theorem dL_law_1156 : decode cL_law 1156 = .ok (.goto 1098, 3) := by decide +kernel
theorem dL_law_1159 : decode cL_law 1159 = .ok (.aload_n 1, 1) := by decide +kernel
theorem dL_law_1160 : decode cL_law 1160 = .ok (.aload_n 3, 1) := by decide +kernel
theorem dL_law_1161 : decode cL_law 1161 = .ok (.invokestatic 192, 3) := by decide +kernel
theorem dL_law_1164 : decode cL_law 1164 = .ok (.istore 6, 2) := by decide +kernel
theorem dL_law_1166 : decode cL_law 1166 = .ok (.aload_n 2, 1) := by decide +kernel
theorem dL_law_1167 : decode cL_law 1167 = .ok (.invokevirtual 194, 3) := by decide +kernel
theorem dL_law_1170 : decode cL_law 1170 = .ok (.istore 7, 2) := by decide +kernel
theorem dL_law_1172 : decode cL_law 1172 = .ok (.aload_n 2, 1) := by decide +kernel
theorem dL_law_1173 : decode cL_law 1173 = .ok (.invokevirtual 143, 3) := by decide +kernel
theorem dL_law_1176 : decode cL_law 1176 = .ok (.iload 6, 2) := by decide +kernel
theorem dL_law_1178 : decode cL_law 1178 = .ok (.if_icmp .eq 5, 3) := by decide +kernel
theorem dL_law_1181 : decode cL_law 1181 = .ok (.iconst 0, 1) := by decide +kernel
theorem dL_law_1182 : decode cL_law 1182 = .ok (.ireturn, 1) := by decide +kernel
theorem dL_law_1183 : decode cL_law 1183 = .ok (.iload 6, 2) := by decide +kernel
theorem dL_law_1185 : decode cL_law 1185 = .ok (.ifCond .ne 15, 3) := by decide +kernel
theorem dL_law_1188 : decode cL_law 1188 = .ok (.aload_n 3, 1) := by decide +kernel
theorem dL_law_1189 : decode cL_law 1189 = .ok (.iconst 0, 1) := by decide +kernel
theorem dL_law_1190 : decode cL_law 1190 = .ok (.laload, 1) := by decide +kernel
theorem dL_law_1191 : decode cL_law 1191 = .ok (.iload 7, 2) := by decide +kernel
theorem dL_law_1193 : decode cL_law 1193 = .ok (.i2l, 1) := by decide +kernel
theorem dL_law_1194 : decode cL_law 1194 = .ok (.lcmp, 1) := by decide +kernel
theorem dL_law_1195 : decode cL_law 1195 = .ok (.ifCond .eq 5, 3) := by decide +kernel
theorem dL_law_1198 : decode cL_law 1198 = .ok (.iconst 0, 1) := by decide +kernel
theorem dL_law_1199 : decode cL_law 1199 = .ok (.ireturn, 1) := by decide +kernel
theorem dL_law_1200 : decode cL_law 1200 = .ok (.goto 1054, 3) := by decide +kernel
theorem dL_law_1203 : decode cL_law 1203 = .ok (.aload_n 1, 1) := by decide +kernel
theorem dL_law_1204 : decode cL_law 1204 = .ok (.aload_n 0, 1) := by decide +kernel
theorem dL_law_1205 : decode cL_law 1205 = .ok (.iload 5, 2) := by decide +kernel
theorem dL_law_1207 : decode cL_law 1207 = .ok (.iconst 1, 1) := by decide +kernel
theorem dL_law_1208 : decode cL_law 1208 = .ok (.iadd, 1) := by decide +kernel
theorem dL_law_1209 : decode cL_law 1209 = .ok (.iaload, 1) := by decide +kernel
theorem dL_law_1210 : decode cL_law 1210 = .ok (.aload_n 3, 1) := by decide +kernel
theorem dL_law_1211 : decode cL_law 1211 = .ok (.invokestatic 195, 3) := by decide +kernel
theorem dL_law_1214 : decode cL_law 1214 = .ok (.istore 6, 2) := by decide +kernel
theorem dL_law_1216 : decode cL_law 1216 = .ok (.aload_n 2, 1) := by decide +kernel
theorem dL_law_1217 : decode cL_law 1217 = .ok (.aload_n 0, 1) := by decide +kernel
theorem dL_law_1218 : decode cL_law 1218 = .ok (.iload 5, 2) := by decide +kernel
theorem dL_law_1220 : decode cL_law 1220 = .ok (.iconst 1, 1) := by decide +kernel
theorem dL_law_1221 : decode cL_law 1221 = .ok (.iadd, 1) := by decide +kernel
theorem dL_law_1222 : decode cL_law 1222 = .ok (.iaload, 1) := by decide +kernel
theorem dL_law_1223 : decode cL_law 1223 = .ok (.invokevirtual 197, 3) := by decide +kernel
theorem dL_law_1226 : decode cL_law 1226 = .ok (.istore 7, 2) := by decide +kernel
theorem dL_law_1228 : decode cL_law 1228 = .ok (.aload_n 2, 1) := by decide +kernel
theorem dL_law_1229 : decode cL_law 1229 = .ok (.invokevirtual 143, 3) := by decide +kernel
theorem dL_law_1232 : decode cL_law 1232 = .ok (.iload 6, 2) := by decide +kernel
theorem dL_law_1234 : decode cL_law 1234 = .ok (.if_icmp .eq 5, 3) := by decide +kernel
theorem dL_law_1237 : decode cL_law 1237 = .ok (.iconst 0, 1) := by decide +kernel
theorem dL_law_1238 : decode cL_law 1238 = .ok (.ireturn, 1) := by decide +kernel
theorem dL_law_1239 : decode cL_law 1239 = .ok (.iload 6, 2) := by decide +kernel
theorem dL_law_1241 : decode cL_law 1241 = .ok (.ifCond .ne 15, 3) := by decide +kernel
theorem dL_law_1244 : decode cL_law 1244 = .ok (.aload_n 3, 1) := by decide +kernel
theorem dL_law_1245 : decode cL_law 1245 = .ok (.iconst 0, 1) := by decide +kernel
theorem dL_law_1246 : decode cL_law 1246 = .ok (.laload, 1) := by decide +kernel
theorem dL_law_1247 : decode cL_law 1247 = .ok (.iload 7, 2) := by decide +kernel
theorem dL_law_1249 : decode cL_law 1249 = .ok (.i2l, 1) := by decide +kernel
theorem dL_law_1250 : decode cL_law 1250 = .ok (.lcmp, 1) := by decide +kernel
theorem dL_law_1251 : decode cL_law 1251 = .ok (.ifCond .eq 5, 3) := by decide +kernel
theorem dL_law_1254 : decode cL_law 1254 = .ok (.iconst 0, 1) := by decide +kernel
theorem dL_law_1255 : decode cL_law 1255 = .ok (.ireturn, 1) := by decide +kernel
theorem dL_law_1256 : decode cL_law 1256 = .ok (.goto 998, 3) := by decide +kernel
theorem dL_law_1259 : decode cL_law 1259 = .ok (.aload_n 1, 1) := by decide +kernel
theorem dL_law_1260 : decode cL_law 1260 = .ok (.aload_n 0, 1) := by decide +kernel
theorem dL_law_1261 : decode cL_law 1261 = .ok (.iload 5, 2) := by decide +kernel
theorem dL_law_1263 : decode cL_law 1263 = .ok (.iconst 1, 1) := by decide +kernel
theorem dL_law_1264 : decode cL_law 1264 = .ok (.iadd, 1) := by decide +kernel
theorem dL_law_1265 : decode cL_law 1265 = .ok (.iaload, 1) := by decide +kernel
theorem dL_law_1266 : decode cL_law 1266 = .ok (.aload_n 3, 1) := by decide +kernel
theorem dL_law_1267 : decode cL_law 1267 = .ok (.invokestatic 198, 3) := by decide +kernel
theorem dL_law_1270 : decode cL_law 1270 = .ok (.istore 6, 2) := by decide +kernel
theorem dL_law_1272 : decode cL_law 1272 = .ok (.aload_n 2, 1) := by decide +kernel
theorem dL_law_1273 : decode cL_law 1273 = .ok (.aload_n 0, 1) := by decide +kernel
theorem dL_law_1274 : decode cL_law 1274 = .ok (.iload 5, 2) := by decide +kernel
theorem dL_law_1276 : decode cL_law 1276 = .ok (.iconst 1, 1) := by decide +kernel
theorem dL_law_1277 : decode cL_law 1277 = .ok (.iadd, 1) := by decide +kernel
theorem dL_law_1278 : decode cL_law 1278 = .ok (.iaload, 1) := by decide +kernel
theorem dL_law_1279 : decode cL_law 1279 = .ok (.invokevirtual 200, 3) := by decide +kernel
theorem dL_law_1282 : decode cL_law 1282 = .ok (.istore 7, 2) := by decide +kernel
theorem dL_law_1284 : decode cL_law 1284 = .ok (.aload_n 2, 1) := by decide +kernel
theorem dL_law_1285 : decode cL_law 1285 = .ok (.invokevirtual 143, 3) := by decide +kernel
theorem dL_law_1288 : decode cL_law 1288 = .ok (.iload 6, 2) := by decide +kernel
theorem dL_law_1290 : decode cL_law 1290 = .ok (.if_icmp .eq 5, 3) := by decide +kernel
theorem dL_law_1293 : decode cL_law 1293 = .ok (.iconst 0, 1) := by decide +kernel
theorem dL_law_1294 : decode cL_law 1294 = .ok (.ireturn, 1) := by decide +kernel
theorem dL_law_1295 : decode cL_law 1295 = .ok (.iload 6, 2) := by decide +kernel
theorem dL_law_1297 : decode cL_law 1297 = .ok (.ifCond .ne 15, 3) := by decide +kernel
theorem dL_law_1300 : decode cL_law 1300 = .ok (.aload_n 3, 1) := by decide +kernel
theorem dL_law_1301 : decode cL_law 1301 = .ok (.iconst 0, 1) := by decide +kernel
theorem dL_law_1302 : decode cL_law 1302 = .ok (.laload, 1) := by decide +kernel
theorem dL_law_1303 : decode cL_law 1303 = .ok (.iload 7, 2) := by decide +kernel
theorem dL_law_1305 : decode cL_law 1305 = .ok (.i2l, 1) := by decide +kernel
theorem dL_law_1306 : decode cL_law 1306 = .ok (.lcmp, 1) := by decide +kernel
theorem dL_law_1307 : decode cL_law 1307 = .ok (.ifCond .eq 5, 3) := by decide +kernel
theorem dL_law_1310 : decode cL_law 1310 = .ok (.iconst 0, 1) := by decide +kernel
theorem dL_law_1311 : decode cL_law 1311 = .ok (.ireturn, 1) := by decide +kernel
theorem dL_law_1312 : decode cL_law 1312 = .ok (.goto 942, 3) := by decide +kernel
theorem dL_law_1315 : decode cL_law 1315 = .ok (.aload_n 1, 1) := by decide +kernel
theorem dL_law_1316 : decode cL_law 1316 = .ok (.aload_n 0, 1) := by decide +kernel
theorem dL_law_1317 : decode cL_law 1317 = .ok (.iload 5, 2) := by decide +kernel
theorem dL_law_1319 : decode cL_law 1319 = .ok (.iconst 1, 1) := by decide +kernel
theorem dL_law_1320 : decode cL_law 1320 = .ok (.iadd, 1) := by decide +kernel
theorem dL_law_1321 : decode cL_law 1321 = .ok (.iaload, 1) := by decide +kernel
theorem dL_law_1322 : decode cL_law 1322 = .ok (.aload_n 3, 1) := by decide +kernel
theorem dL_law_1323 : decode cL_law 1323 = .ok (.invokestatic 201, 3) := by decide +kernel
theorem dL_law_1326 : decode cL_law 1326 = .ok (.istore 6, 2) := by decide +kernel
theorem dL_law_1328 : decode cL_law 1328 = .ok (.aload_n 2, 1) := by decide +kernel
theorem dL_law_1329 : decode cL_law 1329 = .ok (.aload_n 0, 1) := by decide +kernel
theorem dL_law_1330 : decode cL_law 1330 = .ok (.iload 5, 2) := by decide +kernel
theorem dL_law_1332 : decode cL_law 1332 = .ok (.iconst 1, 1) := by decide +kernel
theorem dL_law_1333 : decode cL_law 1333 = .ok (.iadd, 1) := by decide +kernel
theorem dL_law_1334 : decode cL_law 1334 = .ok (.iaload, 1) := by decide +kernel
theorem dL_law_1335 : decode cL_law 1335 = .ok (.invokevirtual 203, 3) := by decide +kernel
theorem dL_law_1338 : decode cL_law 1338 = .ok (.istore 7, 2) := by decide +kernel
theorem dL_law_1340 : decode cL_law 1340 = .ok (.aload_n 2, 1) := by decide +kernel
theorem dL_law_1341 : decode cL_law 1341 = .ok (.invokevirtual 143, 3) := by decide +kernel
theorem dL_law_1344 : decode cL_law 1344 = .ok (.iload 6, 2) := by decide +kernel
theorem dL_law_1346 : decode cL_law 1346 = .ok (.if_icmp .eq 5, 3) := by decide +kernel
theorem dL_law_1349 : decode cL_law 1349 = .ok (.iconst 0, 1) := by decide +kernel
theorem dL_law_1350 : decode cL_law 1350 = .ok (.ireturn, 1) := by decide +kernel
theorem dL_law_1351 : decode cL_law 1351 = .ok (.iload 6, 2) := by decide +kernel
theorem dL_law_1353 : decode cL_law 1353 = .ok (.ifCond .ne 22, 3) := by decide +kernel
theorem dL_law_1356 : decode cL_law 1356 = .ok (.aload_n 3, 1) := by decide +kernel
theorem dL_law_1357 : decode cL_law 1357 = .ok (.iconst 0, 1) := by decide +kernel
theorem dL_law_1358 : decode cL_law 1358 = .ok (.laload, 1) := by decide +kernel
theorem dL_law_1359 : decode cL_law 1359 = .ok (.iload 7, 2) := by decide +kernel
theorem dL_law_1361 : decode cL_law 1361 = .ok (.ifCond .eq 7, 3) := by decide +kernel
theorem dL_law_1364 : decode cL_law 1364 = .ok (.lconst 1, 1) := by decide +kernel
theorem dL_law_1365 : decode cL_law 1365 = .ok (.goto 4, 3) := by decide +kernel
theorem dL_law_1368 : decode cL_law 1368 = .ok (.lconst 0, 1) := by decide +kernel
theorem dL_law_1369 : decode cL_law 1369 = .ok (.lcmp, 1) := by decide +kernel
theorem dL_law_1370 : decode cL_law 1370 = .ok (.ifCond .eq 5, 3) := by decide +kernel
theorem dL_law_1373 : decode cL_law 1373 = .ok (.iconst 0, 1) := by decide +kernel
theorem dL_law_1374 : decode cL_law 1374 = .ok (.ireturn, 1) := by decide +kernel
theorem dL_law_1375 : decode cL_law 1375 = .ok (.goto 879, 3) := by decide +kernel
theorem dL_law_1378 : decode cL_law 1378 = .ok (.aload_n 1, 1) := by decide +kernel
theorem dL_law_1379 : decode cL_law 1379 = .ok (.aload_n 3, 1) := by decide +kernel
theorem dL_law_1380 : decode cL_law 1380 = .ok (.invokestatic 204, 3) := by decide +kernel
theorem dL_law_1383 : decode cL_law 1383 = .ok (.istore 6, 2) := by decide +kernel
theorem dL_law_1385 : decode cL_law 1385 = .ok (.aload_n 2, 1) := by decide +kernel
theorem dL_law_1386 : decode cL_law 1386 = .ok (.invokevirtual 206, 3) := by decide +kernel
theorem dL_law_1389 : decode cL_law 1389 = .ok (.istore 7, 2) := by decide +kernel
theorem dL_law_1391 : decode cL_law 1391 = .ok (.aload_n 2, 1) := by decide +kernel
theorem dL_law_1392 : decode cL_law 1392 = .ok (.invokevirtual 143, 3) := by decide +kernel
theorem dL_law_1395 : decode cL_law 1395 = .ok (.iload 6, 2) := by decide +kernel
theorem dL_law_1397 : decode cL_law 1397 = .ok (.if_icmp .eq 5, 3) := by decide +kernel
theorem dL_law_1400 : decode cL_law 1400 = .ok (.iconst 0, 1) := by decide +kernel
theorem dL_law_1401 : decode cL_law 1401 = .ok (.ireturn, 1) := by decide +kernel
theorem dL_law_1402 : decode cL_law 1402 = .ok (.iload 6, 2) := by decide +kernel
theorem dL_law_1404 : decode cL_law 1404 = .ok (.ifCond .ne 15, 3) := by decide +kernel
theorem dL_law_1407 : decode cL_law 1407 = .ok (.aload_n 3, 1) := by decide +kernel
theorem dL_law_1408 : decode cL_law 1408 = .ok (.iconst 0, 1) := by decide +kernel
theorem dL_law_1409 : decode cL_law 1409 = .ok (.laload, 1) := by decide +kernel
theorem dL_law_1410 : decode cL_law 1410 = .ok (.iload 7, 2) := by decide +kernel
theorem dL_law_1412 : decode cL_law 1412 = .ok (.i2l, 1) := by decide +kernel
theorem dL_law_1413 : decode cL_law 1413 = .ok (.lcmp, 1) := by decide +kernel
theorem dL_law_1414 : decode cL_law 1414 = .ok (.ifCond .eq 5, 3) := by decide +kernel
theorem dL_law_1417 : decode cL_law 1417 = .ok (.iconst 0, 1) := by decide +kernel
theorem dL_law_1418 : decode cL_law 1418 = .ok (.ireturn, 1) := by decide +kernel
theorem dL_law_1419 : decode cL_law 1419 = .ok (.goto 835, 3) := by decide +kernel
theorem dL_law_1422 : decode cL_law 1422 = .ok (.aload_n 1, 1) := by decide +kernel
theorem dL_law_1423 : decode cL_law 1423 = .ok (.aload_n 0, 1) := by decide +kernel
theorem dL_law_1424 : decode cL_law 1424 = .ok (.iload 5, 2) := by decide +kernel
theorem dL_law_1426 : decode cL_law 1426 = .ok (.iconst 1, 1) := by decide +kernel
theorem dL_law_1427 : decode cL_law 1427 = .ok (.iadd, 1) := by decide +kernel
theorem dL_law_1428 : decode cL_law 1428 = .ok (.iaload, 1) := by decide +kernel
theorem dL_law_1429 : decode cL_law 1429 = .ok (.aload_n 3, 1) := by decide +kernel
theorem dL_law_1430 : decode cL_law 1430 = .ok (.invokestatic 207, 3) := by decide +kernel
theorem dL_law_1433 : decode cL_law 1433 = .ok (.istore 6, 2) := by decide +kernel
theorem dL_law_1435 : decode cL_law 1435 = .ok (.aload_n 2, 1) := by decide +kernel
theorem dL_law_1436 : decode cL_law 1436 = .ok (.aload_n 0, 1) := by decide +kernel
theorem dL_law_1437 : decode cL_law 1437 = .ok (.iload 5, 2) := by decide +kernel
theorem dL_law_1439 : decode cL_law 1439 = .ok (.iconst 1, 1) := by decide +kernel
theorem dL_law_1440 : decode cL_law 1440 = .ok (.iadd, 1) := by decide +kernel
theorem dL_law_1441 : decode cL_law 1441 = .ok (.iaload, 1) := by decide +kernel
theorem dL_law_1442 : decode cL_law 1442 = .ok (.invokevirtual 209, 3) := by decide +kernel
theorem dL_law_1445 : decode cL_law 1445 = .ok (.istore 7, 2) := by decide +kernel
theorem dL_law_1447 : decode cL_law 1447 = .ok (.aload_n 2, 1) := by decide +kernel
theorem dL_law_1448 : decode cL_law 1448 = .ok (.invokevirtual 143, 3) := by decide +kernel
theorem dL_law_1451 : decode cL_law 1451 = .ok (.iload 6, 2) := by decide +kernel
theorem dL_law_1453 : decode cL_law 1453 = .ok (.if_icmp .eq 5, 3) := by decide +kernel
theorem dL_law_1456 : decode cL_law 1456 = .ok (.iconst 0, 1) := by decide +kernel
theorem dL_law_1457 : decode cL_law 1457 = .ok (.ireturn, 1) := by decide +kernel
theorem dL_law_1458 : decode cL_law 1458 = .ok (.iload 6, 2) := by decide +kernel
theorem dL_law_1460 : decode cL_law 1460 = .ok (.ifCond .ne 15, 3) := by decide +kernel
theorem dL_law_1463 : decode cL_law 1463 = .ok (.aload_n 3, 1) := by decide +kernel
theorem dL_law_1464 : decode cL_law 1464 = .ok (.iconst 0, 1) := by decide +kernel
theorem dL_law_1465 : decode cL_law 1465 = .ok (.laload, 1) := by decide +kernel
theorem dL_law_1466 : decode cL_law 1466 = .ok (.iload 7, 2) := by decide +kernel
theorem dL_law_1468 : decode cL_law 1468 = .ok (.i2l, 1) := by decide +kernel
theorem dL_law_1469 : decode cL_law 1469 = .ok (.lcmp, 1) := by decide +kernel
theorem dL_law_1470 : decode cL_law 1470 = .ok (.ifCond .eq 5, 3) := by decide +kernel
theorem dL_law_1473 : decode cL_law 1473 = .ok (.iconst 0, 1) := by decide +kernel
theorem dL_law_1474 : decode cL_law 1474 = .ok (.ireturn, 1) := by decide +kernel
theorem dL_law_1475 : decode cL_law 1475 = .ok (.goto 779, 3) := by decide +kernel
theorem dL_law_1478 : decode cL_law 1478 = .ok (.aload_n 1, 1) := by decide +kernel
theorem dL_law_1479 : decode cL_law 1479 = .ok (.aload_n 0, 1) := by decide +kernel
theorem dL_law_1480 : decode cL_law 1480 = .ok (.iload 5, 2) := by decide +kernel
theorem dL_law_1482 : decode cL_law 1482 = .ok (.iconst 1, 1) := by decide +kernel
theorem dL_law_1483 : decode cL_law 1483 = .ok (.iadd, 1) := by decide +kernel
theorem dL_law_1484 : decode cL_law 1484 = .ok (.iaload, 1) := by decide +kernel
theorem dL_law_1485 : decode cL_law 1485 = .ok (.aload_n 3, 1) := by decide +kernel
theorem dL_law_1486 : decode cL_law 1486 = .ok (.invokestatic 210, 3) := by decide +kernel
theorem dL_law_1489 : decode cL_law 1489 = .ok (.istore 6, 2) := by decide +kernel
theorem dL_law_1491 : decode cL_law 1491 = .ok (.aload_n 2, 1) := by decide +kernel
theorem dL_law_1492 : decode cL_law 1492 = .ok (.aload_n 0, 1) := by decide +kernel
theorem dL_law_1493 : decode cL_law 1493 = .ok (.iload 5, 2) := by decide +kernel
theorem dL_law_1495 : decode cL_law 1495 = .ok (.iconst 1, 1) := by decide +kernel
theorem dL_law_1496 : decode cL_law 1496 = .ok (.iadd, 1) := by decide +kernel
theorem dL_law_1497 : decode cL_law 1497 = .ok (.iaload, 1) := by decide +kernel
theorem dL_law_1498 : decode cL_law 1498 = .ok (.invokevirtual 212, 3) := by decide +kernel
theorem dL_law_1501 : decode cL_law 1501 = .ok (.istore 7, 2) := by decide +kernel
theorem dL_law_1503 : decode cL_law 1503 = .ok (.aload_n 2, 1) := by decide +kernel
theorem dL_law_1504 : decode cL_law 1504 = .ok (.invokevirtual 143, 3) := by decide +kernel
theorem dL_law_1507 : decode cL_law 1507 = .ok (.iload 6, 2) := by decide +kernel
theorem dL_law_1509 : decode cL_law 1509 = .ok (.if_icmp .eq 5, 3) := by decide +kernel
theorem dL_law_1512 : decode cL_law 1512 = .ok (.iconst 0, 1) := by decide +kernel
theorem dL_law_1513 : decode cL_law 1513 = .ok (.ireturn, 1) := by decide +kernel
theorem dL_law_1514 : decode cL_law 1514 = .ok (.iload 6, 2) := by decide +kernel
theorem dL_law_1516 : decode cL_law 1516 = .ok (.ifCond .ne 15, 3) := by decide +kernel
theorem dL_law_1519 : decode cL_law 1519 = .ok (.aload_n 3, 1) := by decide +kernel
theorem dL_law_1520 : decode cL_law 1520 = .ok (.iconst 0, 1) := by decide +kernel
theorem dL_law_1521 : decode cL_law 1521 = .ok (.laload, 1) := by decide +kernel
theorem dL_law_1522 : decode cL_law 1522 = .ok (.iload 7, 2) := by decide +kernel
theorem dL_law_1524 : decode cL_law 1524 = .ok (.i2l, 1) := by decide +kernel
theorem dL_law_1525 : decode cL_law 1525 = .ok (.lcmp, 1) := by decide +kernel
theorem dL_law_1526 : decode cL_law 1526 = .ok (.ifCond .eq 5, 3) := by decide +kernel
theorem dL_law_1529 : decode cL_law 1529 = .ok (.iconst 0, 1) := by decide +kernel
theorem dL_law_1530 : decode cL_law 1530 = .ok (.ireturn, 1) := by decide +kernel
theorem dL_law_1531 : decode cL_law 1531 = .ok (.goto 723, 3) := by decide +kernel
theorem dL_law_1534 : decode cL_law 1534 = .ok (.aload_n 1, 1) := by decide +kernel
theorem dL_law_1535 : decode cL_law 1535 = .ok (.aload_n 0, 1) := by decide +kernel
theorem dL_law_1536 : decode cL_law 1536 = .ok (.iload 5, 2) := by decide +kernel
theorem dL_law_1538 : decode cL_law 1538 = .ok (.iconst 1, 1) := by decide +kernel
theorem dL_law_1539 : decode cL_law 1539 = .ok (.iadd, 1) := by decide +kernel
theorem dL_law_1540 : decode cL_law 1540 = .ok (.iaload, 1) := by decide +kernel
theorem dL_law_1541 : decode cL_law 1541 = .ok (.aload_n 3, 1) := by decide +kernel
theorem dL_law_1542 : decode cL_law 1542 = .ok (.invokestatic 213, 3) := by decide +kernel
theorem dL_law_1545 : decode cL_law 1545 = .ok (.istore 6, 2) := by decide +kernel
theorem dL_law_1547 : decode cL_law 1547 = .ok (.aload_n 2, 1) := by decide +kernel
theorem dL_law_1548 : decode cL_law 1548 = .ok (.aload_n 0, 1) := by decide +kernel
theorem dL_law_1549 : decode cL_law 1549 = .ok (.iload 5, 2) := by decide +kernel
theorem dL_law_1551 : decode cL_law 1551 = .ok (.iconst 1, 1) := by decide +kernel
theorem dL_law_1552 : decode cL_law 1552 = .ok (.iadd, 1) := by decide +kernel
theorem dL_law_1553 : decode cL_law 1553 = .ok (.iaload, 1) := by decide +kernel
theorem dL_law_1554 : decode cL_law 1554 = .ok (.invokevirtual 215, 3) := by decide +kernel
theorem dL_law_1557 : decode cL_law 1557 = .ok (.istore 7, 2) := by decide +kernel
theorem dL_law_1559 : decode cL_law 1559 = .ok (.aload_n 2, 1) := by decide +kernel
theorem dL_law_1560 : decode cL_law 1560 = .ok (.invokevirtual 143, 3) := by decide +kernel
theorem dL_law_1563 : decode cL_law 1563 = .ok (.iload 6, 2) := by decide +kernel
theorem dL_law_1565 : decode cL_law 1565 = .ok (.if_icmp .eq 5, 3) := by decide +kernel
theorem dL_law_1568 : decode cL_law 1568 = .ok (.iconst 0, 1) := by decide +kernel
theorem dL_law_1569 : decode cL_law 1569 = .ok (.ireturn, 1) := by decide +kernel
theorem dL_law_1570 : decode cL_law 1570 = .ok (.iload 6, 2) := by decide +kernel
theorem dL_law_1572 : decode cL_law 1572 = .ok (.ifCond .ne 15, 3) := by decide +kernel
theorem dL_law_1575 : decode cL_law 1575 = .ok (.aload_n 3, 1) := by decide +kernel
theorem dL_law_1576 : decode cL_law 1576 = .ok (.iconst 0, 1) := by decide +kernel
theorem dL_law_1577 : decode cL_law 1577 = .ok (.laload, 1) := by decide +kernel
theorem dL_law_1578 : decode cL_law 1578 = .ok (.iload 7, 2) := by decide +kernel
theorem dL_law_1580 : decode cL_law 1580 = .ok (.i2l, 1) := by decide +kernel
theorem dL_law_1581 : decode cL_law 1581 = .ok (.lcmp, 1) := by decide +kernel
theorem dL_law_1582 : decode cL_law 1582 = .ok (.ifCond .eq 5, 3) := by decide +kernel
theorem dL_law_1585 : decode cL_law 1585 = .ok (.iconst 0, 1) := by decide +kernel
theorem dL_law_1586 : decode cL_law 1586 = .ok (.ireturn, 1) := by decide +kernel
theorem dL_law_1587 : decode cL_law 1587 = .ok (.goto 667, 3) := by decide +kernel
theorem dL_law_1590 : decode cL_law 1590 = .ok (.aload_n 1, 1) := by decide +kernel
theorem dL_law_1591 : decode cL_law 1591 = .ok (.aload_n 0, 1) := by decide +kernel
theorem dL_law_1592 : decode cL_law 1592 = .ok (.iload 5, 2) := by decide +kernel
theorem dL_law_1594 : decode cL_law 1594 = .ok (.iconst 1, 1) := by decide +kernel
theorem dL_law_1595 : decode cL_law 1595 = .ok (.iadd, 1) := by decide +kernel
theorem dL_law_1596 : decode cL_law 1596 = .ok (.iaload, 1) := by decide +kernel
theorem dL_law_1597 : decode cL_law 1597 = .ok (.aload_n 3, 1) := by decide +kernel
theorem dL_law_1598 : decode cL_law 1598 = .ok (.invokestatic 216, 3) := by decide +kernel
theorem dL_law_1601 : decode cL_law 1601 = .ok (.istore 6, 2) := by decide +kernel
theorem dL_law_1603 : decode cL_law 1603 = .ok (.aload_n 2, 1) := by decide +kernel
theorem dL_law_1604 : decode cL_law 1604 = .ok (.aload_n 0, 1) := by decide +kernel
theorem dL_law_1605 : decode cL_law 1605 = .ok (.iload 5, 2) := by decide +kernel
theorem dL_law_1607 : decode cL_law 1607 = .ok (.iconst 1, 1) := by decide +kernel
theorem dL_law_1608 : decode cL_law 1608 = .ok (.iadd, 1) := by decide +kernel
theorem dL_law_1609 : decode cL_law 1609 = .ok (.iaload, 1) := by decide +kernel
theorem dL_law_1610 : decode cL_law 1610 = .ok (.invokevirtual 218, 3) := by decide +kernel
theorem dL_law_1613 : decode cL_law 1613 = .ok (.istore 7, 2) := by decide +kernel
theorem dL_law_1615 : decode cL_law 1615 = .ok (.aload_n 2, 1) := by decide +kernel
theorem dL_law_1616 : decode cL_law 1616 = .ok (.invokevirtual 143, 3) := by decide +kernel
theorem dL_law_1619 : decode cL_law 1619 = .ok (.iload 6, 2) := by decide +kernel
theorem dL_law_1621 : decode cL_law 1621 = .ok (.if_icmp .eq 5, 3) := by decide +kernel
theorem dL_law_1624 : decode cL_law 1624 = .ok (.iconst 0, 1) := by decide +kernel
theorem dL_law_1625 : decode cL_law 1625 = .ok (.ireturn, 1) := by decide +kernel
theorem dL_law_1626 : decode cL_law 1626 = .ok (.iload 6, 2) := by decide +kernel
theorem dL_law_1628 : decode cL_law 1628 = .ok (.ifCond .ne 15, 3) := by decide +kernel
theorem dL_law_1631 : decode cL_law 1631 = .ok (.aload_n 3, 1) := by decide +kernel
theorem dL_law_1632 : decode cL_law 1632 = .ok (.iconst 0, 1) := by decide +kernel
theorem dL_law_1633 : decode cL_law 1633 = .ok (.laload, 1) := by decide +kernel
theorem dL_law_1634 : decode cL_law 1634 = .ok (.iload 7, 2) := by decide +kernel
theorem dL_law_1636 : decode cL_law 1636 = .ok (.i2l, 1) := by decide +kernel
theorem dL_law_1637 : decode cL_law 1637 = .ok (.lcmp, 1) := by decide +kernel
theorem dL_law_1638 : decode cL_law 1638 = .ok (.ifCond .eq 5, 3) := by decide +kernel
theorem dL_law_1641 : decode cL_law 1641 = .ok (.iconst 0, 1) := by decide +kernel
theorem dL_law_1642 : decode cL_law 1642 = .ok (.ireturn, 1) := by decide +kernel
theorem dL_law_1643 : decode cL_law 1643 = .ok (.goto 611, 3) := by decide +kernel
theorem dL_law_1646 : decode cL_law 1646 = .ok (.aload_n 1, 1) := by decide +kernel
theorem dL_law_1647 : decode cL_law 1647 = .ok (.aload_n 3, 1) := by decide +kernel
theorem dL_law_1648 : decode cL_law 1648 = .ok (.invokestatic 219, 3) := by decide +kernel
theorem dL_law_1651 : decode cL_law 1651 = .ok (.istore 6, 2) := by decide +kernel
theorem dL_law_1653 : decode cL_law 1653 = .ok (.aload_n 2, 1) := by decide +kernel
theorem dL_law_1654 : decode cL_law 1654 = .ok (.invokevirtual 221, 3) := by decide +kernel
theorem dL_law_1657 : decode cL_law 1657 = .ok (.istore 7, 2) := by decide +kernel
theorem dL_law_1659 : decode cL_law 1659 = .ok (.aload_n 2, 1) := by decide +kernel
theorem dL_law_1660 : decode cL_law 1660 = .ok (.invokevirtual 143, 3) := by decide +kernel
theorem dL_law_1663 : decode cL_law 1663 = .ok (.iload 6, 2) := by decide +kernel
theorem dL_law_1665 : decode cL_law 1665 = .ok (.if_icmp .eq 5, 3) := by decide +kernel
theorem dL_law_1668 : decode cL_law 1668 = .ok (.iconst 0, 1) := by decide +kernel
theorem dL_law_1669 : decode cL_law 1669 = .ok (.ireturn, 1) := by decide +kernel
theorem dL_law_1670 : decode cL_law 1670 = .ok (.iload 6, 2) := by decide +kernel
theorem dL_law_1672 : decode cL_law 1672 = .ok (.ifCond .ne 15, 3) := by decide +kernel
theorem dL_law_1675 : decode cL_law 1675 = .ok (.aload_n 3, 1) := by decide +kernel
theorem dL_law_1676 : decode cL_law 1676 = .ok (.iconst 0, 1) := by decide +kernel
theorem dL_law_1677 : decode cL_law 1677 = .ok (.laload, 1) := by decide +kernel
theorem dL_law_1678 : decode cL_law 1678 = .ok (.iload 7, 2) := by decide +kernel
theorem dL_law_1680 : decode cL_law 1680 = .ok (.i2l, 1) := by decide +kernel
theorem dL_law_1681 : decode cL_law 1681 = .ok (.lcmp, 1) := by decide +kernel
theorem dL_law_1682 : decode cL_law 1682 = .ok (.ifCond .eq 5, 3) := by decide +kernel
theorem dL_law_1685 : decode cL_law 1685 = .ok (.iconst 0, 1) := by decide +kernel
theorem dL_law_1686 : decode cL_law 1686 = .ok (.ireturn, 1) := by decide +kernel
theorem dL_law_1687 : decode cL_law 1687 = .ok (.goto 567, 3) := by decide +kernel
theorem dL_law_1690 : decode cL_law 1690 = .ok (.aload_n 1, 1) := by decide +kernel
theorem dL_law_1691 : decode cL_law 1691 = .ok (.aload_n 3, 1) := by decide +kernel
theorem dL_law_1692 : decode cL_law 1692 = .ok (.invokestatic 222, 3) := by decide +kernel
theorem dL_law_1695 : decode cL_law 1695 = .ok (.istore 6, 2) := by decide +kernel
theorem dL_law_1697 : decode cL_law 1697 = .ok (.aload_n 2, 1) := by decide +kernel
theorem dL_law_1698 : decode cL_law 1698 = .ok (.invokevirtual 224, 3) := by decide +kernel
theorem dL_law_1701 : decode cL_law 1701 = .ok (.istore 7, 2) := by decide +kernel
theorem dL_law_1703 : decode cL_law 1703 = .ok (.aload_n 2, 1) := by decide +kernel
theorem dL_law_1704 : decode cL_law 1704 = .ok (.invokevirtual 143, 3) := by decide +kernel
theorem dL_law_1707 : decode cL_law 1707 = .ok (.iload 6, 2) := by decide +kernel
theorem dL_law_1709 : decode cL_law 1709 = .ok (.if_icmp .eq 5, 3) := by decide +kernel
theorem dL_law_1712 : decode cL_law 1712 = .ok (.iconst 0, 1) := by decide +kernel
theorem dL_law_1713 : decode cL_law 1713 = .ok (.ireturn, 1) := by decide +kernel
theorem dL_law_1714 : decode cL_law 1714 = .ok (.iload 6, 2) := by decide +kernel
theorem dL_law_1716 : decode cL_law 1716 = .ok (.ifCond .ne 15, 3) := by decide +kernel
theorem dL_law_1719 : decode cL_law 1719 = .ok (.aload_n 3, 1) := by decide +kernel
theorem dL_law_1720 : decode cL_law 1720 = .ok (.iconst 0, 1) := by decide +kernel
theorem dL_law_1721 : decode cL_law 1721 = .ok (.laload, 1) := by decide +kernel
theorem dL_law_1722 : decode cL_law 1722 = .ok (.iload 7, 2) := by decide +kernel
theorem dL_law_1724 : decode cL_law 1724 = .ok (.i2l, 1) := by decide +kernel
theorem dL_law_1725 : decode cL_law 1725 = .ok (.lcmp, 1) := by decide +kernel
theorem dL_law_1726 : decode cL_law 1726 = .ok (.ifCond .eq 5, 3) := by decide +kernel
theorem dL_law_1729 : decode cL_law 1729 = .ok (.iconst 0, 1) := by decide +kernel
theorem dL_law_1730 : decode cL_law 1730 = .ok (.ireturn, 1) := by decide +kernel
theorem dL_law_1731 : decode cL_law 1731 = .ok (.goto 523, 3) := by decide +kernel
theorem dL_law_1734 : decode cL_law 1734 = .ok (.aload_n 1, 1) := by decide +kernel
theorem dL_law_1735 : decode cL_law 1735 = .ok (.aload_n 0, 1) := by decide +kernel
theorem dL_law_1736 : decode cL_law 1736 = .ok (.iload 5, 2) := by decide +kernel
theorem dL_law_1738 : decode cL_law 1738 = .ok (.iconst 1, 1) := by decide +kernel
theorem dL_law_1739 : decode cL_law 1739 = .ok (.iadd, 1) := by decide +kernel
theorem dL_law_1740 : decode cL_law 1740 = .ok (.iaload, 1) := by decide +kernel
theorem dL_law_1741 : decode cL_law 1741 = .ok (.aload_n 3, 1) := by decide +kernel
theorem dL_law_1742 : decode cL_law 1742 = .ok (.invokestatic 225, 3) := by decide +kernel
theorem dL_law_1745 : decode cL_law 1745 = .ok (.istore 6, 2) := by decide +kernel
theorem dL_law_1747 : decode cL_law 1747 = .ok (.aload_n 2, 1) := by decide +kernel
theorem dL_law_1748 : decode cL_law 1748 = .ok (.aload_n 0, 1) := by decide +kernel
theorem dL_law_1749 : decode cL_law 1749 = .ok (.iload 5, 2) := by decide +kernel
theorem dL_law_1751 : decode cL_law 1751 = .ok (.iconst 1, 1) := by decide +kernel
theorem dL_law_1752 : decode cL_law 1752 = .ok (.iadd, 1) := by decide +kernel
theorem dL_law_1753 : decode cL_law 1753 = .ok (.iaload, 1) := by decide +kernel
theorem dL_law_1754 : decode cL_law 1754 = .ok (.invokevirtual 227, 3) := by decide +kernel
theorem dL_law_1757 : decode cL_law 1757 = .ok (.istore 7, 2) := by decide +kernel
theorem dL_law_1759 : decode cL_law 1759 = .ok (.aload_n 2, 1) := by decide +kernel
theorem dL_law_1760 : decode cL_law 1760 = .ok (.invokevirtual 143, 3) := by decide +kernel
theorem dL_law_1763 : decode cL_law 1763 = .ok (.iload 6, 2) := by decide +kernel
theorem dL_law_1765 : decode cL_law 1765 = .ok (.if_icmp .eq 5, 3) := by decide +kernel
theorem dL_law_1768 : decode cL_law 1768 = .ok (.iconst 0, 1) := by decide +kernel
theorem dL_law_1769 : decode cL_law 1769 = .ok (.ireturn, 1) := by decide +kernel
theorem dL_law_1770 : decode cL_law 1770 = .ok (.iload 6, 2) := by decide +kernel
theorem dL_law_1772 : decode cL_law 1772 = .ok (.ifCond .ne 15, 3) := by decide +kernel
theorem dL_law_1775 : decode cL_law 1775 = .ok (.aload_n 3, 1) := by decide +kernel
theorem dL_law_1776 : decode cL_law 1776 = .ok (.iconst 0, 1) := by decide +kernel
theorem dL_law_1777 : decode cL_law 1777 = .ok (.laload, 1) := by decide +kernel
theorem dL_law_1778 : decode cL_law 1778 = .ok (.iload 7, 2) := by decide +kernel
theorem dL_law_1780 : decode cL_law 1780 = .ok (.i2l, 1) := by decide +kernel
theorem dL_law_1781 : decode cL_law 1781 = .ok (.lcmp, 1) := by decide +kernel
theorem dL_law_1782 : decode cL_law 1782 = .ok (.ifCond .eq 5, 3) := by decide +kernel
theorem dL_law_1785 : decode cL_law 1785 = .ok (.iconst 0, 1) := by decide +kernel
theorem dL_law_1786 : decode cL_law 1786 = .ok (.ireturn, 1) := by decide +kernel
theorem dL_law_1787 : decode cL_law 1787 = .ok (.goto 467, 3) := by decide +kernel
theorem dL_law_1790 : decode cL_law 1790 = .ok (.aload_n 1, 1) := by decide +kernel
theorem dL_law_1791 : decode cL_law 1791 = .ok (.invokevirtual 228, 3) := by decide +kernel
theorem dL_law_1794 : decode cL_law 1794 = .ok (.aload_n 2, 1) := by decide +kernel
theorem dL_law_1795 : decode cL_law 1795 = .ok (.invokevirtual 231, 3) := by decide +kernel
theorem dL_law_1798 : decode cL_law 1798 = .ok (.if_icmp .eq 456, 3) := by decide +kernel
theorem dL_law_1801 : decode cL_law 1801 = .ok (.iconst 0, 1) := by decide +kernel
theorem dL_law_1802 : decode cL_law 1802 = .ok (.ireturn, 1) := by decide +kernel
theorem dL_law_1803 : decode cL_law 1803 = .ok (.aload_n 1, 1) := by decide +kernel
theorem dL_law_1804 : decode cL_law 1804 = .ok (.aload_n 3, 1) := by decide +kernel
theorem dL_law_1805 : decode cL_law 1805 = .ok (.invokestatic 232, 3) := by decide +kernel
theorem dL_law_1808 : decode cL_law 1808 = .ok (.istore 6, 2) := by decide +kernel
theorem dL_law_1810 : decode cL_law 1810 = .ok (.aload_n 2, 1) := by decide +kernel
theorem dL_law_1811 : decode cL_law 1811 = .ok (.invokevirtual 234, 3) := by decide +kernel
theorem dL_law_1814 : decode cL_law 1814 = .ok (.istore 7, 2) := by decide +kernel
theorem dL_law_1816 : decode cL_law 1816 = .ok (.aload_n 2, 1) := by decide +kernel
theorem dL_law_1817 : decode cL_law 1817 = .ok (.invokevirtual 143, 3) := by decide +kernel
theorem dL_law_1820 : decode cL_law 1820 = .ok (.iload 6, 2) := by decide +kernel
theorem dL_law_1822 : decode cL_law 1822 = .ok (.if_icmp .eq 5, 3) := by decide +kernel
theorem dL_law_1825 : decode cL_law 1825 = .ok (.iconst 0, 1) := by decide +kernel
theorem dL_law_1826 : decode cL_law 1826 = .ok (.ireturn, 1) := by decide +kernel
theorem dL_law_1827 : decode cL_law 1827 = .ok (.iload 6, 2) := by decide +kernel
theorem dL_law_1829 : decode cL_law 1829 = .ok (.ifCond .ne 15, 3) := by decide +kernel
theorem dL_law_1832 : decode cL_law 1832 = .ok (.aload_n 3, 1) := by decide +kernel
theorem dL_law_1833 : decode cL_law 1833 = .ok (.iconst 0, 1) := by decide +kernel
theorem dL_law_1834 : decode cL_law 1834 = .ok (.laload, 1) := by decide +kernel
theorem dL_law_1835 : decode cL_law 1835 = .ok (.iload 7, 2) := by decide +kernel
theorem dL_law_1837 : decode cL_law 1837 = .ok (.i2l, 1) := by decide +kernel
theorem dL_law_1838 : decode cL_law 1838 = .ok (.lcmp, 1) := by decide +kernel
theorem dL_law_1839 : decode cL_law 1839 = .ok (.ifCond .eq 5, 3) := by decide +kernel
theorem dL_law_1842 : decode cL_law 1842 = .ok (.iconst 0, 1) := by decide +kernel
theorem dL_law_1843 : decode cL_law 1843 = .ok (.ireturn, 1) := by decide +kernel
theorem dL_law_1844 : decode cL_law 1844 = .ok (.goto 410, 3) := by decide +kernel
theorem dL_law_1847 : decode cL_law 1847 = .ok (.aload_n 1, 1) := by decide +kernel
theorem dL_law_1848 : decode cL_law 1848 = .ok (.invokevirtual 235, 3) := by decide +kernel
theorem dL_law_1851 : decode cL_law 1851 = .ok (.aload_n 2, 1) := by decide +kernel
theorem dL_law_1852 : decode cL_law 1852 = .ok (.invokevirtual 239, 3) := by decide +kernel
theorem dL_law_1855 : decode cL_law 1855 = .ok (.if_icmp .eq 399, 3) := by decide +kernel
theorem dL_law_1858 : decode cL_law 1858 = .ok (.iconst 0, 1) := by decide +kernel
theorem dL_law_1859 : decode cL_law 1859 = .ok (.ireturn, 1) := by decide +kernel
theorem dL_law_1860 : decode cL_law 1860 = .ok (.aload_n 1, 1) := by decide +kernel
theorem dL_law_1861 : decode cL_law 1861 = .ok (.aload_n 0, 1) := by decide +kernel
theorem dL_law_1862 : decode cL_law 1862 = .ok (.iload 5, 2) := by decide +kernel
theorem dL_law_1864 : decode cL_law 1864 = .ok (.iconst 1, 1) := by decide +kernel
theorem dL_law_1865 : decode cL_law 1865 = .ok (.iadd, 1) := by decide +kernel
theorem dL_law_1866 : decode cL_law 1866 = .ok (.iaload, 1) := by decide +kernel
theorem dL_law_1867 : decode cL_law 1867 = .ok (.aload_n 3, 1) := by decide +kernel
theorem dL_law_1868 : decode cL_law 1868 = .ok (.invokestatic 240, 3) := by decide +kernel
theorem dL_law_1871 : decode cL_law 1871 = .ok (.istore 6, 2) := by decide +kernel
theorem dL_law_1873 : decode cL_law 1873 = .ok (.aload_n 2, 1) := by decide +kernel
theorem dL_law_1874 : decode cL_law 1874 = .ok (.aload_n 0, 1) := by decide +kernel
theorem dL_law_1875 : decode cL_law 1875 = .ok (.iload 5, 2) := by decide +kernel
theorem dL_law_1877 : decode cL_law 1877 = .ok (.iconst 1, 1) := by decide +kernel
theorem dL_law_1878 : decode cL_law 1878 = .ok (.iadd, 1) := by decide +kernel
theorem dL_law_1879 : decode cL_law 1879 = .ok (.iaload, 1) := by decide +kernel
theorem dL_law_1880 : decode cL_law 1880 = .ok (.invokevirtual 242, 3) := by decide +kernel
theorem dL_law_1883 : decode cL_law 1883 = .ok (.istore 7, 2) := by decide +kernel
theorem dL_law_1885 : decode cL_law 1885 = .ok (.aload_n 2, 1) := by decide +kernel
theorem dL_law_1886 : decode cL_law 1886 = .ok (.invokevirtual 143, 3) := by decide +kernel
theorem dL_law_1889 : decode cL_law 1889 = .ok (.iload 6, 2) := by decide +kernel
theorem dL_law_1891 : decode cL_law 1891 = .ok (.if_icmp .eq 5, 3) := by decide +kernel
theorem dL_law_1894 : decode cL_law 1894 = .ok (.iconst 0, 1) := by decide +kernel
theorem dL_law_1895 : decode cL_law 1895 = .ok (.ireturn, 1) := by decide +kernel
theorem dL_law_1896 : decode cL_law 1896 = .ok (.iload 6, 2) := by decide +kernel
theorem dL_law_1898 : decode cL_law 1898 = .ok (.ifCond .ne 15, 3) := by decide +kernel
theorem dL_law_1901 : decode cL_law 1901 = .ok (.aload_n 3, 1) := by decide +kernel
theorem dL_law_1902 : decode cL_law 1902 = .ok (.iconst 0, 1) := by decide +kernel
theorem dL_law_1903 : decode cL_law 1903 = .ok (.laload, 1) := by decide +kernel
theorem dL_law_1904 : decode cL_law 1904 = .ok (.iload 7, 2) := by decide +kernel
theorem dL_law_1906 : decode cL_law 1906 = .ok (.i2l, 1) := by decide +kernel
theorem dL_law_1907 : decode cL_law 1907 = .ok (.lcmp, 1) := by decide +kernel
theorem dL_law_1908 : decode cL_law 1908 = .ok (.ifCond .eq 5, 3) := by decide +kernel
theorem dL_law_1911 : decode cL_law 1911 = .ok (.iconst 0, 1) := by decide +kernel
theorem dL_law_1912 : decode cL_law 1912 = .ok (.ireturn, 1) := by decide +kernel
theorem dL_law_1913 : decode cL_law 1913 = .ok (.goto 341, 3) := by decide +kernel
theorem dL_law_1916 : decode cL_law 1916 = .ok (.aload_n 1, 1) := by decide +kernel
theorem dL_law_1917 : decode cL_law 1917 = .ok (.invokevirtual 243, 3) := by decide +kernel
theorem dL_law_1920 : decode cL_law 1920 = .ok (.aload_n 2, 1) := by decide +kernel
theorem dL_law_1921 : decode cL_law 1921 = .ok (.invokevirtual 246, 3) := by decide +kernel
theorem dL_law_1924 : decode cL_law 1924 = .ok (.if_icmp .eq 330, 3) := by decide +kernel
theorem dL_law_1927 : decode cL_law 1927 = .ok (.iconst 0, 1) := by decide +kernel
theorem dL_law_1928 : decode cL_law 1928 = .ok (.ireturn, 1) := by decide +kernel
theorem dL_law_1929 : decode cL_law 1929 = .ok (.aload_n 1, 1) := by decide +kernel
theorem dL_law_1930 : decode cL_law 1930 = .ok (.invokevirtual 247, 3) := by decide +kernel
theorem dL_law_1933 : decode cL_law 1933 = .ok (.aload_n 2, 1) := by decide +kernel
theorem dL_law_1934 : decode cL_law 1934 = .ok (.invokevirtual 250, 3) := by decide +kernel
theorem dL_law_1937 : decode cL_law 1937 = .ok (.if_icmp .eq 317, 3) := by decide +kernel
theorem dL_law_1940 : decode cL_law 1940 = .ok (.iconst 0, 1) := by decide +kernel
theorem dL_law_1941 : decode cL_law 1941 = .ok (.ireturn, 1) := by decide +kernel
theorem dL_law_1942 : decode cL_law 1942 = .ok (.aload_n 1, 1) := by decide +kernel
theorem dL_law_1943 : decode cL_law 1943 = .ok (.aload_n 0, 1) := by decide +kernel
theorem dL_law_1944 : decode cL_law 1944 = .ok (.iload 5, 2) := by decide +kernel
theorem dL_law_1946 : decode cL_law 1946 = .ok (.iconst 1, 1) := by decide +kernel
theorem dL_law_1947 : decode cL_law 1947 = .ok (.iadd, 1) := by decide +kernel
theorem dL_law_1948 : decode cL_law 1948 = .ok (.iaload, 1) := by decide +kernel
theorem dL_law_1949 : decode cL_law 1949 = .ok (.aload_n 3, 1) := by decide +kernel
theorem dL_law_1950 : decode cL_law 1950 = .ok (.invokestatic 251, 3) := by decide +kernel
theorem dL_law_1953 : decode cL_law 1953 = .ok (.istore 6, 2) := by decide +kernel
theorem dL_law_1955 : decode cL_law 1955 = .ok (.aload_n 2, 1) := by decide +kernel
theorem dL_law_1956 : decode cL_law 1956 = .ok (.aload_n 0, 1) := by decide +kernel
theorem dL_law_1957 : decode cL_law 1957 = .ok (.iload 5, 2) := by decide +kernel
theorem dL_law_1959 : decode cL_law 1959 = .ok (.iconst 1, 1) := by decide +kernel
theorem dL_law_1960 : decode cL_law 1960 = .ok (.iadd, 1) := by decide +kernel
theorem dL_law_1961 : decode cL_law 1961 = .ok (.iaload, 1) := by decide +kernel
theorem dL_law_1962 : decode cL_law 1962 = .ok (.invokevirtual 253, 3) := by decide +kernel
theorem dL_law_1965 : decode cL_law 1965 = .ok (.istore 7, 2) := by decide +kernel
theorem dL_law_1967 : decode cL_law 1967 = .ok (.aload_n 2, 1) := by decide +kernel
theorem dL_law_1968 : decode cL_law 1968 = .ok (.invokevirtual 143, 3) := by decide +kernel
theorem dL_law_1971 : decode cL_law 1971 = .ok (.iload 6, 2) := by decide +kernel
theorem dL_law_1973 : decode cL_law 1973 = .ok (.if_icmp .eq 5, 3) := by decide +kernel
theorem dL_law_1976 : decode cL_law 1976 = .ok (.iconst 0, 1) := by decide +kernel
theorem dL_law_1977 : decode cL_law 1977 = .ok (.ireturn, 1) := by decide +kernel
theorem dL_law_1978 : decode cL_law 1978 = .ok (.iload 6, 2) := by decide +kernel
theorem dL_law_1980 : decode cL_law 1980 = .ok (.ifCond .ne 15, 3) := by decide +kernel
theorem dL_law_1983 : decode cL_law 1983 = .ok (.aload_n 3, 1) := by decide +kernel
theorem dL_law_1984 : decode cL_law 1984 = .ok (.iconst 0, 1) := by decide +kernel
theorem dL_law_1985 : decode cL_law 1985 = .ok (.laload, 1) := by decide +kernel
theorem dL_law_1986 : decode cL_law 1986 = .ok (.iload 7, 2) := by decide +kernel
theorem dL_law_1988 : decode cL_law 1988 = .ok (.i2l, 1) := by decide +kernel
theorem dL_law_1989 : decode cL_law 1989 = .ok (.lcmp, 1) := by decide +kernel
theorem dL_law_1990 : decode cL_law 1990 = .ok (.ifCond .eq 5, 3) := by decide +kernel
theorem dL_law_1993 : decode cL_law 1993 = .ok (.iconst 0, 1) := by decide +kernel
theorem dL_law_1994 : decode cL_law 1994 = .ok (.ireturn, 1) := by decide +kernel
theorem dL_law_1995 : decode cL_law 1995 = .ok (.goto 259, 3) := by decide +kernel
theorem dL_law_1998 : decode cL_law 1998 = .ok (.aload_n 1, 1) := by decide +kernel
theorem dL_law_1999 : decode cL_law 1999 = .ok (.aload_n 0, 1) := by decide +kernel
theorem dL_law_2000 : decode cL_law 2000 = .ok (.iload 5, 2) := by decide +kernel
theorem dL_law_2002 : decode cL_law 2002 = .ok (.iconst 1, 1) := by decide +kernel
theorem dL_law_2003 : decode cL_law 2003 = .ok (.iadd, 1) := by decide +kernel
theorem dL_law_2004 : decode cL_law 2004 = .ok (.iaload, 1) := by decide +kernel
theorem dL_law_2005 : decode cL_law 2005 = .ok (.aload_n 3, 1) := by decide +kernel
theorem dL_law_2006 : decode cL_law 2006 = .ok (.invokestatic 254, 3) := by decide +kernel
theorem dL_law_2009 : decode cL_law 2009 = .ok (.istore 6, 2) := by decide +kernel
theorem dL_law_2011 : decode cL_law 2011 = .ok (.aload_n 2, 1) := by decide +kernel
theorem dL_law_2012 : decode cL_law 2012 = .ok (.aload_n 0, 1) := by decide +kernel
theorem dL_law_2013 : decode cL_law 2013 = .ok (.iload 5, 2) := by decide +kernel
theorem dL_law_2015 : decode cL_law 2015 = .ok (.iconst 1, 1) := by decide +kernel
theorem dL_law_2016 : decode cL_law 2016 = .ok (.iadd, 1) := by decide +kernel
theorem dL_law_2017 : decode cL_law 2017 = .ok (.iaload, 1) := by decide +kernel
theorem dL_law_2018 : decode cL_law 2018 = .ok (.invokevirtual 256, 3) := by decide +kernel
theorem dL_law_2021 : decode cL_law 2021 = .ok (.istore 7, 2) := by decide +kernel
theorem dL_law_2023 : decode cL_law 2023 = .ok (.aload_n 2, 1) := by decide +kernel
theorem dL_law_2024 : decode cL_law 2024 = .ok (.invokevirtual 143, 3) := by decide +kernel
theorem dL_law_2027 : decode cL_law 2027 = .ok (.iload 6, 2) := by decide +kernel
theorem dL_law_2029 : decode cL_law 2029 = .ok (.if_icmp .eq 5, 3) := by decide +kernel
theorem dL_law_2032 : decode cL_law 2032 = .ok (.iconst 0, 1) := by decide +kernel
theorem dL_law_2033 : decode cL_law 2033 = .ok (.ireturn, 1) := by decide +kernel
theorem dL_law_2034 : decode cL_law 2034 = .ok (.iload 6, 2) := by decide +kernel
theorem dL_law_2036 : decode cL_law 2036 = .ok (.ifCond .ne 15, 3) := by decide +kernel
theorem dL_law_2039 : decode cL_law 2039 = .ok (.aload_n 3, 1) := by decide +kernel
theorem dL_law_2040 : decode cL_law 2040 = .ok (.iconst 0, 1) := by decide +kernel
theorem dL_law_2041 : decode cL_law 2041 = .ok (.laload, 1) := by decide +kernel
theorem dL_law_2042 : decode cL_law 2042 = .ok (.iload 7, 2) := by decide +kernel
theorem dL_law_2044 : decode cL_law 2044 = .ok (.i2l, 1) := by decide +kernel
theorem dL_law_2045 : decode cL_law 2045 = .ok (.lcmp, 1) := by decide +kernel
theorem dL_law_2046 : decode cL_law 2046 = .ok (.ifCond .eq 5, 3) := by decide +kernel
theorem dL_law_2049 : decode cL_law 2049 = .ok (.iconst 0, 1) := by decide +kernel
theorem dL_law_2050 : decode cL_law 2050 = .ok (.ireturn, 1) := by decide +kernel
theorem dL_law_2051 : decode cL_law 2051 = .ok (.goto 203, 3) := by decide +kernel
theorem dL_law_2054 : decode cL_law 2054 = .ok (.aload_n 1, 1) := by decide +kernel
theorem dL_law_2055 : decode cL_law 2055 = .ok (.aload_n 0, 1) := by decide +kernel
theorem dL_law_2056 : decode cL_law 2056 = .ok (.iload 5, 2) := by decide +kernel
theorem dL_law_2058 : decode cL_law 2058 = .ok (.iconst 1, 1) := by decide +kernel
theorem dL_law_2059 : decode cL_law 2059 = .ok (.iadd, 1) := by decide +kernel
theorem dL_law_2060 : decode cL_law 2060 = .ok (.iaload, 1) := by decide +kernel
theorem dL_law_2061 : decode cL_law 2061 = .ok (.aload_n 3, 1) := by decide +kernel
theorem dL_law_2062 : decode cL_law 2062 = .ok (.invokestatic 257, 3) := by decide +kernel
theorem dL_law_2065 : decode cL_law 2065 = .ok (.istore 6, 2) := by decide +kernel
theorem dL_law_2067 : decode cL_law 2067 = .ok (.aload_n 2, 1) := by decide +kernel
theorem dL_law_2068 : decode cL_law 2068 = .ok (.aload_n 0, 1) := by decide +kernel
theorem dL_law_2069 : decode cL_law 2069 = .ok (.iload 5, 2) := by decide +kernel
theorem dL_law_2071 : decode cL_law 2071 = .ok (.iconst 1, 1) := by decide +kernel
theorem dL_law_2072 : decode cL_law 2072 = .ok (.iadd, 1) := by decide +kernel
theorem dL_law_2073 : decode cL_law 2073 = .ok (.iaload, 1) := by decide +kernel
theorem dL_law_2074 : decode cL_law 2074 = .ok (.invokevirtual 259, 3) := by decide +kernel
theorem dL_law_2077 : decode cL_law 2077 = .ok (.istore 7, 2) := by decide +kernel
theorem dL_law_2079 : decode cL_law 2079 = .ok (.aload_n 2, 1) := by decide +kernel
theorem dL_law_2080 : decode cL_law 2080 = .ok (.invokevirtual 143, 3) := by decide +kernel
theorem dL_law_2083 : decode cL_law 2083 = .ok (.iload 6, 2) := by decide +kernel
theorem dL_law_2085 : decode cL_law 2085 = .ok (.if_icmp .eq 5, 3) := by decide +kernel
theorem dL_law_2088 : decode cL_law 2088 = .ok (.iconst 0, 1) := by decide +kernel
theorem dL_law_2089 : decode cL_law 2089 = .ok (.ireturn, 1) := by decide +kernel
theorem dL_law_2090 : decode cL_law 2090 = .ok (.iload 6, 2) := by decide +kernel
theorem dL_law_2092 : decode cL_law 2092 = .ok (.ifCond .ne 15, 3) := by decide +kernel
theorem dL_law_2095 : decode cL_law 2095 = .ok (.aload_n 3, 1) := by decide +kernel
theorem dL_law_2096 : decode cL_law 2096 = .ok (.iconst 0, 1) := by decide +kernel
theorem dL_law_2097 : decode cL_law 2097 = .ok (.laload, 1) := by decide +kernel
theorem dL_law_2098 : decode cL_law 2098 = .ok (.iload 7, 2) := by decide +kernel
theorem dL_law_2100 : decode cL_law 2100 = .ok (.i2l, 1) := by decide +kernel
theorem dL_law_2101 : decode cL_law 2101 = .ok (.lcmp, 1) := by decide +kernel
theorem dL_law_2102 : decode cL_law 2102 = .ok (.ifCond .eq 5, 3) := by decide +kernel
theorem dL_law_2105 : decode cL_law 2105 = .ok (.iconst 0, 1) := by decide +kernel
theorem dL_law_2106 : decode cL_law 2106 = .ok (.ireturn, 1) := by decide +kernel
theorem dL_law_2107 : decode cL_law 2107 = .ok (.goto 147, 3) := by decide +kernel
theorem dL_law_2110 : decode cL_law 2110 = .ok (.aload_n 1, 1) := by decide +kernel
theorem dL_law_2111 : decode cL_law 2111 = .ok (.aload 4, 2) := by decide +kernel
theorem dL_law_2113 : decode cL_law 2113 = .ok (.invokestatic 260, 3) := by decide +kernel
theorem dL_law_2116 : decode cL_law 2116 = .ok (.istore 6, 2) := by decide +kernel
theorem dL_law_2118 : decode cL_law 2118 = .ok (.aload_n 2, 1) := by decide +kernel
theorem dL_law_2119 : decode cL_law 2119 = .ok (.invokevirtual 263, 3) := by decide +kernel
theorem dL_law_2122 : decode cL_law 2122 = .ok (.fstore 7, 2) := by decide +kernel
theorem dL_law_2124 : decode cL_law 2124 = .ok (.aload_n 2, 1) := by decide +kernel
theorem dL_law_2125 : decode cL_law 2125 = .ok (.invokevirtual 143, 3) := by decide +kernel
theorem dL_law_2128 : decode cL_law 2128 = .ok (.iload 6, 2) := by decide +kernel
theorem dL_law_2130 : decode cL_law 2130 = .ok (.if_icmp .eq 5, 3) := by decide +kernel
theorem dL_law_2133 : decode cL_law 2133 = .ok (.iconst 0, 1) := by decide +kernel
theorem dL_law_2134 : decode cL_law 2134 = .ok (.ireturn, 1) := by decide +kernel
theorem dL_law_2135 : decode cL_law 2135 = .ok (.iload 6, 2) := by decide +kernel
theorem dL_law_2137 : decode cL_law 2137 = .ok (.ifCond .ne 36, 3) := by decide +kernel
theorem dL_law_2140 : decode cL_law 2140 = .ok (.aload 4, 2) := by decide +kernel
theorem dL_law_2142 : decode cL_law 2142 = .ok (.iconst 0, 1) := by decide +kernel
theorem dL_law_2143 : decode cL_law 2143 = .ok (.daload, 1) := by decide +kernel
theorem dL_law_2144 : decode cL_law 2144 = .ok (.fload 7, 2) := by decide +kernel
theorem dL_law_2146 : decode cL_law 2146 = .ok (.f2d, 1) := by decide +kernel
theorem dL_law_2147 : decode cL_law 2147 = .ok (.dcmp .l, 1) := by decide +kernel
theorem dL_law_2148 : decode cL_law 2148 = .ok (.ifCond .eq 25, 3) := by decide +kernel
theorem dL_law_2151 : decode cL_law 2151 = .ok (.aload 4, 2) := by decide +kernel
theorem dL_law_2153 : decode cL_law 2153 = .ok (.iconst 0, 1) := by decide +kernel
theorem dL_law_2154 : decode cL_law 2154 = .ok (.daload, 1) := by decide +kernel
theorem dL_law_2155 : decode cL_law 2155 = .ok (.aload 4, 2) := by decide +kernel
theorem dL_law_2157 : decode cL_law 2157 = .ok (.iconst 0, 1) := by decide +kernel
theorem dL_law_2158 : decode cL_law 2158 = .ok (.daload, 1) := by decide +kernel
theorem dL_law_2159 : decode cL_law 2159 = .ok (.dcmp .l, 1) := by decide +kernel
theorem dL_law_2160 : decode cL_law 2160 = .ok (.ifCond .eq 11, 3) := by decide +kernel
theorem dL_law_2163 : decode cL_law 2163 = .ok (.fload 7, 2) := by decide +kernel
theorem dL_law_2165 : decode cL_law 2165 = .ok (.fload 7, 2) := by decide +kernel
theorem dL_law_2167 : decode cL_law 2167 = .ok (.fcmp .l, 1) := by decide +kernel
theorem dL_law_2168 : decode cL_law 2168 = .ok (.ifCond .ne 5, 3) := by decide +kernel
theorem dL_law_2171 : decode cL_law 2171 = .ok (.iconst 0, 1) := by decide +kernel
theorem dL_law_2172 : decode cL_law 2172 = .ok (.ireturn, 1) := by decide +kernel
theorem dL_law_2173 : decode cL_law 2173 = .ok (.goto 81, 3) := by decide +kernel
theorem dL_law_2176 : decode cL_law 2176 = .ok (.aload_n 1, 1) := by decide +kernel
theorem dL_law_2177 : decode cL_law 2177 = .ok (.aload 4, 2) := by decide +kernel
theorem dL_law_2179 : decode cL_law 2179 = .ok (.invokestatic 264, 3) := by decide +kernel
theorem dL_law_2182 : decode cL_law 2182 = .ok (.istore 6, 2) := by decide +kernel
theorem dL_law_2184 : decode cL_law 2184 = .ok (.aload_n 2, 1) := by decide +kernel
theorem dL_law_2185 : decode cL_law 2185 = .ok (.invokevirtual 266, 3) := by decide +kernel
theorem dL_law_2188 : decode cL_law 2188 = .ok (.dstore 7, 2) := by decide +kernel
theorem dL_law_2190 : decode cL_law 2190 = .ok (.aload_n 2, 1) := by decide +kernel
theorem dL_law_2191 : decode cL_law 2191 = .ok (.invokevirtual 143, 3) := by decide +kernel
theorem dL_law_2194 : decode cL_law 2194 = .ok (.iload 6, 2) := by decide +kernel
theorem dL_law_2196 : decode cL_law 2196 = .ok (.if_icmp .eq 5, 3) := by decide +kernel
theorem dL_law_2199 : decode cL_law 2199 = .ok (.iconst 0, 1) := by decide +kernel
theorem dL_law_2200 : decode cL_law 2200 = .ok (.ireturn, 1) := by decide +kernel
theorem dL_law_2201 : decode cL_law 2201 = .ok (.iload 6, 2) := by decide +kernel
theorem dL_law_2203 : decode cL_law 2203 = .ok (.ifCond .ne 35, 3) := by decide +kernel
theorem dL_law_2206 : decode cL_law 2206 = .ok (.aload 4, 2) := by decide +kernel
theorem dL_law_2208 : decode cL_law 2208 = .ok (.iconst 0, 1) := by decide +kernel
theorem dL_law_2209 : decode cL_law 2209 = .ok (.daload, 1) := by decide +kernel
theorem dL_law_2210 : decode cL_law 2210 = .ok (.dload 7, 2) := by decide +kernel
theorem dL_law_2212 : decode cL_law 2212 = .ok (.dcmp .l, 1) := by decide +kernel
theorem dL_law_2213 : decode cL_law 2213 = .ok (.ifCond .eq 25, 3) := by decide +kernel
theorem dL_law_2216 : decode cL_law 2216 = .ok (.aload 4, 2) := by decide +kernel
theorem dL_law_2218 : decode cL_law 2218 = .ok (.iconst 0, 1) := by decide +kernel
theorem dL_law_2219 : decode cL_law 2219 = .ok (.daload, 1) := by decide +kernel
theorem dL_law_2220 : decode cL_law 2220 = .ok (.aload 4, 2) := by decide +kernel
theorem dL_law_2222 : decode cL_law 2222 = .ok (.iconst 0, 1) := by decide +kernel
theorem dL_law_2223 : decode cL_law 2223 = .ok (.daload, 1) := by decide +kernel
theorem dL_law_2224 : decode cL_law 2224 = .ok (.dcmp .l, 1) := by decide +kernel
theorem dL_law_2225 : decode cL_law 2225 = .ok (.ifCond .eq 11, 3) := by decide +kernel
theorem dL_law_2228 : decode cL_law 2228 = .ok (.dload 7, 2) := by decide +kernel
theorem dL_law_2230 : decode cL_law 2230 = .ok (.dload 7, 2) := by decide +kernel
theorem dL_law_2232 : decode cL_law 2232 = .ok (.dcmp .l, 1) := by decide +kernel
theorem dL_law_2233 : decode cL_law 2233 = .ok (.ifCond .ne 5, 3) := by decide +kernel
theorem dL_law_2236 : decode cL_law 2236 = .ok (.iconst 0, 1) := by decide +kernel
theorem dL_law_2237 : decode cL_law 2237 = .ok (.ireturn, 1) := by decide +kernel
theorem dL_law_2238 : decode cL_law 2238 = .ok (.goto 16, 3) := by decide +kernel
theorem dL_law_2241 : decode cL_law 2241 = .ok (.aload_n 1, 1) := by decide +kernel
theorem dL_law_2242 : decode cL_law 2242 = .ok (.invokevirtual 267, 3) := by decide +kernel
theorem dL_law_2245 : decode cL_law 2245 = .ok (.aload_n 2, 1) := by decide +kernel
theorem dL_law_2246 : decode cL_law 2246 = .ok (.invokevirtual 270, 3) := by decide +kernel
theorem dL_law_2249 : decode cL_law 2249 = .ok (.if_icmp .eq 5, 3) := by decide +kernel
theorem dL_law_2252 : decode cL_law 2252 = .ok (.iconst 0, 1) := by decide +kernel
theorem dL_law_2253 : decode cL_law 2253 = .ok (.ireturn, 1) := by decide +kernel
theorem dL_law_2254 : decode cL_law 2254 = .ok (.iinc 5 6, 3) := by decide +kernel
theorem dL_law_2257 : decode cL_law 2257 = .ok (.goto (-2229), 3) := by decide +kernel
theorem dL_law_2260 : decode cL_law 2260 = .ok (.iconst 1, 1) := by decide +kernel
theorem dL_law_2261 : decode cL_law 2261 = .ok (.ireturn, 1) := by decide +kernel
abbrev vwCl : List vw_C := [(RJ0, TJ0, 2), (RJx00060, TJx00060, 6), (RX0, TX0, 3), (RX1, TX1, 4), (RX2, TX2, 9), (RX3, TX3, 4), (RX4, TX4, 10), (RX5, TX5, 7), (RX6, TX6, 29)]
