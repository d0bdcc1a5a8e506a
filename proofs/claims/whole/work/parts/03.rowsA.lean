theorem dX0_init_0 : decode cX0_init 0 = .ok (.aload_n 0, 1) := by decide +kernel
theorem dX0_init_1 : decode cX0_init 1 = .ok (.invokespecial 3, 3) := by decide +kernel
theorem dX0_init_4 : decode cX0_init 4 = .ok (.aload_n 0, 1) := by decide +kernel
theorem dX0_init_5 : decode cX0_init 5 = .ok (.bipush 32, 2) := by decide +kernel
theorem dX0_init_7 : decode cX0_init 7 = .ok (.newarray .int, 2) := by decide +kernel
theorem dX0_init_9 : decode cX0_init 9 = .ok (.putfield 9, 3) := by decide +kernel
theorem dX0_init_12 : decode cX0_init 12 = .ok (.aload_n 0, 1) := by decide +kernel
theorem dX0_init_13 : decode cX0_init 13 = .ok (.bipush 32, 2) := by decide +kernel
theorem dX0_init_15 : decode cX0_init 15 = .ok (.newarray .int, 2) := by decide +kernel
theorem dX0_init_17 : decode cX0_init 17 = .ok (.putfield 15, 3) := by decide +kernel
theorem dX0_init_20 : decode cX0_init 20 = .ok (.aload_n 0, 1) := by decide +kernel
theorem dX0_init_21 : decode cX0_init 21 = .ok (.bipush 32, 2) := by decide +kernel
theorem dX0_init_23 : decode cX0_init 23 = .ok (.newarray .int, 2) := by decide +kernel
theorem dX0_init_25 : decode cX0_init 25 = .ok (.putfield 18, 3) := by decide +kernel
theorem dX0_init_28 : decode cX0_init 28 = .ok (.return_, 1) := by decide +kernel
set_option maxRecDepth 20000 in
theorem ggX0_isActive_X0_isAlarm : GoodIn wsX0_isActive wsX0_isAlarm := goodIn_r _ [5] (by decide +kernel) (by decide +kernel)
set_option maxRecDepth 20000 in
theorem gX0_isActive_X0_isAlarm : GoodIn wsX0_isActive (va_wsS RX0 21 yX0_isAlarm wsX0_isAlarm) := goodIn_app (goodIn_of _ (by decide +kernel)) ggX0_isActive_X0_isAlarm
theorem dX0_isActive_0 : decode cX0_isActive 0 = .ok (.iload_n 1, 1) := by decide +kernel
theorem dX0_isActive_1 : decode cX0_isActive 1 = .ok (.invokestatic 21, 3) := by decide +kernel
theorem dX0_isActive_4 : decode cX0_isActive 4 = .ok (.ifCond .eq 16, 3) := by decide +kernel
theorem dX0_isActive_7 : decode cX0_isActive 7 = .ok (.aload_n 0, 1) := by decide +kernel
theorem dX0_isActive_8 : decode cX0_isActive 8 = .ok (.getfield 9, 3) := by decide +kernel
theorem dX0_isActive_11 : decode cX0_isActive 11 = .ok (.iload_n 1, 1) := by decide +kernel
theorem dX0_isActive_12 : decode cX0_isActive 12 = .ok (.iaload, 1) := by decide +kernel
theorem dX0_isActive_13 : decode cX0_isActive 13 = .ok (.ifCond .le 7, 3) := by decide +kernel
theorem dX0_isActive_16 : decode cX0_isActive 16 = .ok (.iconst 1, 1) := by decide +kernel
theorem dX0_isActive_17 : decode cX0_isActive 17 = .ok (.goto 4, 3) := by decide +kernel
theorem dX0_isActive_20 : decode cX0_isActive 20 = .ok (.iconst 0, 1) := by decide +kernel
theorem dX0_isActive_21 : decode cX0_isActive 21 = .ok (.ireturn, 1) := by decide +kernel
set_option maxRecDepth 20000 in
theorem ggX0_lineOf_X0_isActive : GoodIn wsX0_lineOf wsX0_isActive := goodIn_ca (goodIn_r _ [6, 7, 8, 9, 5, 10, 11, 12, 13] (by decide +kernel) (by decide +kernel)) (goodIn_sub (fun _ h => List.mem_cons_of_mem _ (List.mem_append_right _ h)) (by decide +kernel))
set_option maxRecDepth 20000 in
theorem gX0_lineOf_X0_isActive : GoodIn wsX0_lineOf (wsV RX0 25 RX0 yX0_isActive wsX0_isActive) := goodIn_app (goodIn_of _ (by decide +kernel)) ggX0_lineOf_X0_isActive
theorem dX0_lineOf_0 : decode cX0_lineOf 0 = .ok (.aload_n 0, 1) := by decide +kernel
theorem dX0_lineOf_1 : decode cX0_lineOf 1 = .ok (.iload_n 1, 1) := by decide +kernel
theorem dX0_lineOf_2 : decode cX0_lineOf 2 = .ok (.invokevirtual 25, 3) := by decide +kernel
theorem dX0_lineOf_5 : decode cX0_lineOf 5 = .ok (.ifCond .eq 12, 3) := by decide +kernel
theorem dX0_lineOf_8 : decode cX0_lineOf 8 = .ok (.aload_n 0, 1) := by decide +kernel
theorem dX0_lineOf_9 : decode cX0_lineOf 9 = .ok (.getfield 15, 3) := by decide +kernel
theorem dX0_lineOf_12 : decode cX0_lineOf 12 = .ok (.iload_n 1, 1) := by decide +kernel
theorem dX0_lineOf_13 : decode cX0_lineOf 13 = .ok (.iaload, 1) := by decide +kernel
theorem dX0_lineOf_14 : decode cX0_lineOf 14 = .ok (.goto 4, 3) := by decide +kernel
theorem dX0_lineOf_17 : decode cX0_lineOf 17 = .ok (.iconst (-1), 1) := by decide +kernel
theorem dX0_lineOf_18 : decode cX0_lineOf 18 = .ok (.ireturn, 1) := by decide +kernel
set_option maxRecDepth 20000 in
theorem ggX0_activate_X0_isAlarm : GoodIn wsX0_activate wsX0_isAlarm := goodIn_r _ [7] (by decide +kernel) (by decide +kernel)
set_option maxRecDepth 20000 in
theorem gX0_activate_X0_isAlarm : GoodIn wsX0_activate (va_wsS RX0 21 yX0_isAlarm wsX0_isAlarm) := goodIn_app (goodIn_of _ (by decide +kernel)) ggX0_activate_X0_isAlarm
theorem dX0_activate_0 : decode cX0_activate 0 = .ok (.iload_n 1, 1) := by decide +kernel
theorem dX0_activate_1 : decode cX0_activate 1 = .ok (.invokestatic 21, 3) := by decide +kernel
theorem dX0_activate_4 : decode cX0_activate 4 = .ok (.ifCond .eq 24, 3) := by decide +kernel
theorem dX0_activate_7 : decode cX0_activate 7 = .ok (.aload_n 0, 1) := by decide +kernel
theorem dX0_activate_8 : decode cX0_activate 8 = .ok (.getfield 9, 3) := by decide +kernel
theorem dX0_activate_11 : decode cX0_activate 11 = .ok (.iload_n 1, 1) := by decide +kernel
theorem dX0_activate_12 : decode cX0_activate 12 = .ok (.iload_n 2, 1) := by decide +kernel
theorem dX0_activate_13 : decode cX0_activate 13 = .ok (.iastore, 1) := by decide +kernel
theorem dX0_activate_14 : decode cX0_activate 14 = .ok (.aload_n 0, 1) := by decide +kernel
theorem dX0_activate_15 : decode cX0_activate 15 = .ok (.getfield 15, 3) := by decide +kernel
theorem dX0_activate_18 : decode cX0_activate 18 = .ok (.iload_n 1, 1) := by decide +kernel
theorem dX0_activate_19 : decode cX0_activate 19 = .ok (.iload_n 3, 1) := by decide +kernel
theorem dX0_activate_20 : decode cX0_activate 20 = .ok (.iastore, 1) := by decide +kernel
theorem dX0_activate_21 : decode cX0_activate 21 = .ok (.aload_n 0, 1) := by decide +kernel
theorem dX0_activate_22 : decode cX0_activate 22 = .ok (.getfield 18, 3) := by decide +kernel
theorem dX0_activate_25 : decode cX0_activate 25 = .ok (.iload_n 1, 1) := by decide +kernel
theorem dX0_activate_26 : decode cX0_activate 26 = .ok (.iconst 0, 1) := by decide +kernel
theorem dX0_activate_27 : decode cX0_activate 27 = .ok (.iastore, 1) := by decide +kernel
theorem dX0_activate_28 : decode cX0_activate 28 = .ok (.return_, 1) := by decide +kernel
set_option maxRecDepth 20000 in
theorem ggX0_deactivate_X0_isAlarm : GoodIn wsX0_deactivate wsX0_isAlarm := goodIn_r _ [5] (by decide +kernel) (by decide +kernel)
set_option maxRecDepth 20000 in
theorem gX0_deactivate_X0_isAlarm : GoodIn wsX0_deactivate (va_wsS RX0 21 yX0_isAlarm wsX0_isAlarm) := goodIn_app (goodIn_of _ (by decide +kernel)) ggX0_deactivate_X0_isAlarm
theorem dX0_deactivate_0 : decode cX0_deactivate 0 = .ok (.iload_n 1, 1) := by decide +kernel
theorem dX0_deactivate_1 : decode cX0_deactivate 1 = .ok (.invokestatic 21, 3) := by decide +kernel
theorem dX0_deactivate_4 : decode cX0_deactivate 4 = .ok (.ifCond .eq 10, 3) := by decide +kernel
theorem dX0_deactivate_7 : decode cX0_deactivate 7 = .ok (.aload_n 0, 1) := by decide +kernel
theorem dX0_deactivate_8 : decode cX0_deactivate 8 = .ok (.getfield 9, 3) := by decide +kernel
theorem dX0_deactivate_11 : decode cX0_deactivate 11 = .ok (.iload_n 1, 1) := by decide +kernel
theorem dX0_deactivate_12 : decode cX0_deactivate 12 = .ok (.iconst 0, 1) := by decide +kernel
theorem dX0_deactivate_13 : decode cX0_deactivate 13 = .ok (.iastore, 1) := by decide +kernel
theorem dX0_deactivate_14 : decode cX0_deactivate 14 = .ok (.return_, 1) := by decide +kernel
set_option maxRecDepth 20000 in
theorem ggX0_isOnShelf_X0_isActive : GoodIn wsX0_isOnShelf wsX0_isActive := goodIn_ca (goodIn_r _ [6, 7, 8, 9, 5, 10, 11, 12, 13] (by decide +kernel) (by decide +kernel)) (goodIn_sub (fun _ h => List.mem_cons_of_mem _ (List.mem_append_right _ h)) (by decide +kernel))
set_option maxRecDepth 20000 in
theorem gX0_isOnShelf_X0_isActive : GoodIn wsX0_isOnShelf (wsV RX0 25 RX0 yX0_isActive wsX0_isActive) := goodIn_app (goodIn_of _ (by decide +kernel)) ggX0_isOnShelf_X0_isActive
theorem dX0_isOnShelf_0 : decode cX0_isOnShelf 0 = .ok (.aload_n 0, 1) := by decide +kernel
theorem dX0_isOnShelf_1 : decode cX0_isOnShelf 1 = .ok (.iload_n 1, 1) := by decide +kernel
theorem dX0_isOnShelf_2 : decode cX0_isOnShelf 2 = .ok (.invokevirtual 25, 3) := by decide +kernel
theorem dX0_isOnShelf_5 : decode cX0_isOnShelf 5 = .ok (.ifCond .eq 17, 3) := by decide +kernel
theorem dX0_isOnShelf_8 : decode cX0_isOnShelf 8 = .ok (.iload_n 2, 1) := by decide +kernel
theorem dX0_isOnShelf_9 : decode cX0_isOnShelf 9 = .ok (.aload_n 0, 1) := by decide +kernel
theorem dX0_isOnShelf_10 : decode cX0_isOnShelf 10 = .ok (.getfield 18, 3) := by decide +kernel
theorem dX0_isOnShelf_13 : decode cX0_isOnShelf 13 = .ok (.iload_n 1, 1) := by decide +kernel
theorem dX0_isOnShelf_14 : decode cX0_isOnShelf 14 = .ok (.iaload, 1) := by decide +kernel
theorem dX0_isOnShelf_15 : decode cX0_isOnShelf 15 = .ok (.if_icmp .ge 7, 3) := by decide +kernel
theorem dX0_isOnShelf_18 : decode cX0_isOnShelf 18 = .ok (.iconst 1, 1) := by decide +kernel
theorem dX0_isOnShelf_19 : decode cX0_isOnShelf 19 = .ok (.goto 4, 3) := by decide +kernel
theorem dX0_isOnShelf_22 : decode cX0_isOnShelf 22 = .ok (.iconst 0, 1) := by decide +kernel
theorem dX0_isOnShelf_23 : decode cX0_isOnShelf 23 = .ok (.ireturn, 1) := by decide +kernel
set_option maxRecDepth 20000 in
theorem ggX0_putOnShelf_X0_isAlarm : GoodIn wsX0_putOnShelf wsX0_isAlarm := goodIn_r _ [5] (by decide +kernel) (by decide +kernel)
set_option maxRecDepth 20000 in
theorem gX0_putOnShelf_X0_isAlarm : GoodIn wsX0_putOnShelf (va_wsS RX0 21 yX0_isAlarm wsX0_isAlarm) := goodIn_app (goodIn_of _ (by decide +kernel)) ggX0_putOnShelf_X0_isAlarm
theorem dX0_putOnShelf_0 : decode cX0_putOnShelf 0 = .ok (.iload_n 1, 1) := by decide +kernel
theorem dX0_putOnShelf_1 : decode cX0_putOnShelf 1 = .ok (.invokestatic 21, 3) := by decide +kernel
theorem dX0_putOnShelf_4 : decode cX0_putOnShelf 4 = .ok (.ifCond .eq 10, 3) := by decide +kernel
theorem dX0_putOnShelf_7 : decode cX0_putOnShelf 7 = .ok (.aload_n 0, 1) := by decide +kernel
theorem dX0_putOnShelf_8 : decode cX0_putOnShelf 8 = .ok (.getfield 18, 3) := by decide +kernel
theorem dX0_putOnShelf_11 : decode cX0_putOnShelf 11 = .ok (.iload_n 1, 1) := by decide +kernel
theorem dX0_putOnShelf_12 : decode cX0_putOnShelf 12 = .ok (.iload_n 2, 1) := by decide +kernel
theorem dX0_putOnShelf_13 : decode cX0_putOnShelf 13 = .ok (.iastore, 1) := by decide +kernel
theorem dX0_putOnShelf_14 : decode cX0_putOnShelf 14 = .ok (.return_, 1) := by decide +kernel
set_option maxRecDepth 20000 in
theorem ggX0_countOnShelf_X0_isOnShelf : GoodIn wsX0_countOnShelf wsX0_isOnShelf := goodIn_ca (goodIn_r _ [5, 6, 7, 8, 9, 4, 10, 11, 12, 13, 14, 15, 16, 17] (by decide +kernel) (by decide +kernel)) (goodIn_sub (fun _ h => List.mem_cons_of_mem _ (List.mem_append_right _ h)) (by decide +kernel))
set_option maxRecDepth 20000 in
theorem gX0_countOnShelf_X0_isOnShelf : GoodIn wsX0_countOnShelf (wsV RX0 28 RX0 yX0_isOnShelf wsX0_isOnShelf) := goodIn_app (goodIn_of _ (by decide +kernel)) ggX0_countOnShelf_X0_isOnShelf
theorem dX0_countOnShelf_0 : decode cX0_countOnShelf 0 = .ok (.iconst 0, 1) := by decide +kernel
theorem dX0_countOnShelf_1 : decode cX0_countOnShelf 1 = .ok (.istore_n 2, 1) := by decide +kernel
theorem dX0_countOnShelf_2 : decode cX0_countOnShelf 2 = .ok (.iconst 0, 1) := by decide +kernel
theorem dX0_countOnShelf_3 : decode cX0_countOnShelf 3 = .ok (.istore_n 3, 1) := by decide +kernel
theorem dX0_countOnShelf_4 : decode cX0_countOnShelf 4 = .ok (.iload_n 3, 1) := by decide +kernel
theorem dX0_countOnShelf_5 : decode cX0_countOnShelf 5 = .ok (.bipush 32, 2) := by decide +kernel
theorem dX0_countOnShelf_7 : decode cX0_countOnShelf 7 = .ok (.if_icmp .ge 21, 3) := by decide +kernel
theorem dX0_countOnShelf_10 : decode cX0_countOnShelf 10 = .ok (.aload_n 0, 1) := by decide +kernel
theorem dX0_countOnShelf_11 : decode cX0_countOnShelf 11 = .ok (.iload_n 3, 1) := by decide +kernel
theorem dX0_countOnShelf_12 : decode cX0_countOnShelf 12 = .ok (.iload_n 1, 1) := by decide +kernel
theorem dX0_countOnShelf_13 : decode cX0_countOnShelf 13 = .ok (.invokevirtual 28, 3) := by decide +kernel
theorem dX0_countOnShelf_16 : decode cX0_countOnShelf 16 = .ok (.ifCond .eq 6, 3) := by decide +kernel
theorem dX0_countOnShelf_19 : decode cX0_countOnShelf 19 = .ok (.iinc 2 1, 3) := by decide +kernel
theorem dX0_countOnShelf_22 : decode cX0_countOnShelf 22 = .ok (.iinc 3 1, 3) := by decide +kernel
theorem dX0_countOnShelf_25 : decode cX0_countOnShelf 25 = .ok (.goto (-21), 3) := by decide +kernel
theorem dX0_countOnShelf_28 : decode cX0_countOnShelf 28 = .ok (.iload_n 2, 1) := by decide +kernel
theorem dX0_countOnShelf_29 : decode cX0_countOnShelf 29 = .ok (.ireturn, 1) := by decide +kernel
set_option maxRecDepth 20000 in
theorem ggX0_countSounding_X0_isSounding : GoodIn wsX0_countSounding wsX0_isSounding := goodIn_ca (goodIn_r _ [6, 7, 8, 9, 5, 10, 1, 11, 12, 13, 14, 15, 16, 17, 18, 19, 20, 21] (by decide +kernel) (by decide +kernel)) (goodIn_sub (fun _ h => List.mem_cons_of_mem _ (List.mem_append_right _ h)) (by decide +kernel))
set_option maxRecDepth 20000 in
theorem gX0_countSounding_X0_isSounding : GoodIn wsX0_countSounding (wsV RX0 32 RX0 yX0_isSounding wsX0_isSounding) := goodIn_app (goodIn_of _ (by decide +kernel)) ggX0_countSounding_X0_isSounding
theorem dX0_countSounding_0 : decode cX0_countSounding 0 = .ok (.iconst 0, 1) := by decide +kernel
theorem dX0_countSounding_1 : decode cX0_countSounding 1 = .ok (.istore_n 3, 1) := by decide +kernel
theorem dX0_countSounding_2 : decode cX0_countSounding 2 = .ok (.iconst 0, 1) := by decide +kernel
theorem dX0_countSounding_3 : decode cX0_countSounding 3 = .ok (.istore 4, 2) := by decide +kernel
theorem dX0_countSounding_5 : decode cX0_countSounding 5 = .ok (.iload 4, 2) := by decide +kernel
theorem dX0_countSounding_7 : decode cX0_countSounding 7 = .ok (.bipush 32, 2) := by decide +kernel
theorem dX0_countSounding_9 : decode cX0_countSounding 9 = .ok (.if_icmp .ge 33, 3) := by decide +kernel
theorem dX0_countSounding_12 : decode cX0_countSounding 12 = .ok (.aload_n 0, 1) := by decide +kernel
theorem dX0_countSounding_13 : decode cX0_countSounding 13 = .ok (.iload 4, 2) := by decide +kernel
theorem dX0_countSounding_15 : decode cX0_countSounding 15 = .ok (.iload_n 2, 1) := by decide +kernel
theorem dX0_countSounding_16 : decode cX0_countSounding 16 = .ok (.invokevirtual 32, 3) := by decide +kernel
theorem dX0_countSounding_19 : decode cX0_countSounding 19 = .ok (.ifCond .eq 17, 3) := by decide +kernel
theorem dX0_countSounding_22 : decode cX0_countSounding 22 = .ok (.aload_n 0, 1) := by decide +kernel
theorem dX0_countSounding_23 : decode cX0_countSounding 23 = .ok (.getfield 9, 3) := by decide +kernel
theorem dX0_countSounding_26 : decode cX0_countSounding 26 = .ok (.iload 4, 2) := by decide +kernel
theorem dX0_countSounding_28 : decode cX0_countSounding 28 = .ok (.iaload, 1) := by decide +kernel
theorem dX0_countSounding_29 : decode cX0_countSounding 29 = .ok (.iload_n 1, 1) := by decide +kernel
theorem dX0_countSounding_30 : decode cX0_countSounding 30 = .ok (.if_icmp .lt 6, 3) := by decide +kernel
theorem dX0_countSounding_33 : decode cX0_countSounding 33 = .ok (.iinc 3 1, 3) := by decide +kernel
theorem dX0_countSounding_36 : decode cX0_countSounding 36 = .ok (.iinc 4 1, 3) := by decide +kernel
theorem dX0_countSounding_39 : decode cX0_countSounding 39 = .ok (.goto (-34), 3) := by decide +kernel
theorem dX0_countSounding_42 : decode cX0_countSounding 42 = .ok (.iload_n 3, 1) := by decide +kernel
theorem dX0_countSounding_43 : decode cX0_countSounding 43 = .ok (.ireturn, 1) := by decide +kernel
set_option maxRecDepth 20000 in
theorem ggX0_topLine_X0_isSounding : GoodIn wsX0_topLine wsX0_isSounding := goodIn_ca (goodIn_r _ [5, 6, 7, 8, 4, 9, 10, 11, 12, 13, 14, 15, 16, 17, 18, 28, 29, 30] (by decide +kernel) (by decide +kernel)) (goodIn_sub (fun _ h => List.mem_cons_of_mem _ (List.mem_append_right _ h)) (by decide +kernel))
set_option maxRecDepth 20000 in
theorem gX0_topLine_X0_isSounding : GoodIn wsX0_topLine (wsV RX0 32 RX0 yX0_isSounding wsX0_isSounding) := goodIn_app (goodIn_of _ (by decide +kernel)) ggX0_topLine_X0_isSounding
set_option maxRecDepth 20000 in
theorem ggX0_topLine_X0_isAhead : GoodIn wsX0_topLine wsX0_isAhead := goodIn_ca (goodIn_r _ [22, 10, 23, 11, 12, 4, 13, 28, 29, 30] (by decide +kernel) (by decide +kernel)) (goodIn_sub (fun _ h => List.mem_cons_of_mem _ (List.mem_append_right _ h)) (by decide +kernel))
set_option maxRecDepth 20000 in
theorem gX0_topLine_X0_isAhead : GoodIn wsX0_topLine (wsV RX0 35 RX0 yX0_isAhead wsX0_isAhead) := goodIn_app (goodIn_of _ (by decide +kernel)) ggX0_topLine_X0_isAhead
set_option maxRecDepth 20000 in
theorem ggX0_topLine_X0_lineOf : GoodIn wsX0_topLine wsX0_lineOf := goodIn_ca (goodIn_r _ [27, 23, 6, 7, 8, 4, 9, 10, 11, 12, 13, 28, 29, 30] (by decide +kernel) (by decide +kernel)) (goodIn_sub (fun _ h => List.mem_cons_of_mem _ (List.mem_append_right _ h)) (by decide +kernel))
set_option maxRecDepth 20000 in
theorem gX0_topLine_X0_lineOf : GoodIn wsX0_topLine (wsV RX0 38 RX0 yX0_lineOf wsX0_lineOf) := goodIn_app (goodIn_of _ (by decide +kernel)) ggX0_topLine_X0_lineOf
theorem dX0_topLine_0 : decode cX0_topLine 0 = .ok (.iconst (-1), 1) := by decide +kernel
theorem dX0_topLine_1 : decode cX0_topLine 1 = .ok (.istore_n 2, 1) := by decide +kernel
theorem dX0_topLine_2 : decode cX0_topLine 2 = .ok (.iconst 0, 1) := by decide +kernel
theorem dX0_topLine_3 : decode cX0_topLine 3 = .ok (.istore_n 3, 1) := by decide +kernel
theorem dX0_topLine_4 : decode cX0_topLine 4 = .ok (.iload_n 3, 1) := by decide +kernel
theorem dX0_topLine_5 : decode cX0_topLine 5 = .ok (.bipush 32, 2) := by decide +kernel
theorem dX0_topLine_7 : decode cX0_topLine 7 = .ok (.if_icmp .ge 29, 3) := by decide +kernel
theorem dX0_topLine_10 : decode cX0_topLine 10 = .ok (.aload_n 0, 1) := by decide +kernel
theorem dX0_topLine_11 : decode cX0_topLine 11 = .ok (.iload_n 3, 1) := by decide +kernel
theorem dX0_topLine_12 : decode cX0_topLine 12 = .ok (.iload_n 1, 1) := by decide +kernel
theorem dX0_topLine_13 : decode cX0_topLine 13 = .ok (.invokevirtual 32, 3) := by decide +kernel
theorem dX0_topLine_16 : decode cX0_topLine 16 = .ok (.ifCond .eq 14, 3) := by decide +kernel
theorem dX0_topLine_19 : decode cX0_topLine 19 = .ok (.aload_n 0, 1) := by decide +kernel
theorem dX0_topLine_20 : decode cX0_topLine 20 = .ok (.iload_n 3, 1) := by decide +kernel
theorem dX0_topLine_21 : decode cX0_topLine 21 = .ok (.iload_n 2, 1) := by decide +kernel
theorem dX0_topLine_22 : decode cX0_topLine 22 = .ok (.invokevirtual 35, 3) := by decide +kernel
theorem dX0_topLine_25 : decode cX0_topLine 25 = .ok (.ifCond .eq 5, 3) := by decide +kernel
theorem dX0_topLine_28 : decode cX0_topLine 28 = .ok (.iload_n 3, 1) := by decide +kernel
theorem dX0_topLine_29 : decode cX0_topLine 29 = .ok (.istore_n 2, 1) := by decide +kernel
theorem dX0_topLine_30 : decode cX0_topLine 30 = .ok (.iinc 3 1, 3) := by decide +kernel
theorem dX0_topLine_33 : decode cX0_topLine 33 = .ok (.goto (-29), 3) := by decide +kernel
theorem dX0_topLine_36 : decode cX0_topLine 36 = .ok (.aload_n 0, 1) := by decide +kernel
theorem dX0_topLine_37 : decode cX0_topLine 37 = .ok (.iload_n 2, 1) := by decide +kernel
theorem dX0_topLine_38 : decode cX0_topLine 38 = .ok (.invokevirtual 38, 3) := by decide +kernel
theorem dX0_topLine_41 : decode cX0_topLine 41 = .ok (.ireturn, 1) := by decide +kernel
set_option maxRecDepth 20000 in
theorem ggX0_isSounding_X0_isActive : GoodIn wsX0_isSounding wsX0_isActive := goodIn_ca (goodIn_r _ [5, 6, 7, 8, 4, 9, 15, 16, 17] (by decide +kernel) (by decide +kernel)) (goodIn_sub (fun _ h => List.mem_cons_of_mem _ (List.mem_append_right _ h)) (by decide +kernel))
set_option maxRecDepth 20000 in
theorem gX0_isSounding_X0_isActive : GoodIn wsX0_isSounding (wsV RX0 25 RX0 yX0_isActive wsX0_isActive) := goodIn_app (goodIn_of _ (by decide +kernel)) ggX0_isSounding_X0_isActive
set_option maxRecDepth 20000 in
theorem ggX0_isSounding_X0_isOnShelf : GoodIn wsX0_isSounding wsX0_isOnShelf := goodIn_ca (goodIn_r _ [13, 14, 1, 2, 3, 4, 5, 6, 7, 8, 9, 15, 16, 17] (by decide +kernel) (by decide +kernel)) (goodIn_sub (fun _ h => List.mem_cons_of_mem _ (List.mem_append_right _ h)) (by decide +kernel))
set_option maxRecDepth 20000 in
theorem gX0_isSounding_X0_isOnShelf : GoodIn wsX0_isSounding (wsV RX0 28 RX0 yX0_isOnShelf wsX0_isOnShelf) := goodIn_app (goodIn_of _ (by decide +kernel)) ggX0_isSounding_X0_isOnShelf
theorem dX0_isSounding_0 : decode cX0_isSounding 0 = .ok (.aload_n 0, 1) := by decide +kernel
theorem dX0_isSounding_1 : decode cX0_isSounding 1 = .ok (.iload_n 1, 1) := by decide +kernel
theorem dX0_isSounding_2 : decode cX0_isSounding 2 = .ok (.invokevirtual 25, 3) := by decide +kernel
theorem dX0_isSounding_5 : decode cX0_isSounding 5 = .ok (.ifCond .eq 16, 3) := by decide +kernel
theorem dX0_isSounding_8 : decode cX0_isSounding 8 = .ok (.aload_n 0, 1) := by decide +kernel
theorem dX0_isSounding_9 : decode cX0_isSounding 9 = .ok (.iload_n 1, 1) := by decide +kernel
theorem dX0_isSounding_10 : decode cX0_isSounding 10 = .ok (.iload_n 2, 1) := by decide +kernel
theorem dX0_isSounding_11 : decode cX0_isSounding 11 = .ok (.invokevirtual 28, 3) := by decide +kernel
theorem dX0_isSounding_14 : decode cX0_isSounding 14 = .ok (.ifCond .ne 7, 3) := by decide +kernel
theorem dX0_isSounding_17 : decode cX0_isSounding 17 = .ok (.iconst 1, 1) := by decide +kernel
theorem dX0_isSounding_18 : decode cX0_isSounding 18 = .ok (.goto 4, 3) := by decide +kernel
theorem dX0_isSounding_21 : decode cX0_isSounding 21 = .ok (.iconst 0, 1) := by decide +kernel
theorem dX0_isSounding_22 : decode cX0_isSounding 22 = .ok (.ireturn, 1) := by decide +kernel
set_option maxRecDepth 20000 in
theorem ggX0_isAhead_X0_isAlarm : GoodIn wsX0_isAhead wsX0_isAlarm := goodIn_r _ [6] (by decide +kernel) (by decide +kernel)
set_option maxRecDepth 20000 in
theorem gX0_isAhead_X0_isAlarm : GoodIn wsX0_isAhead (va_wsS RX0 21 yX0_isAlarm wsX0_isAlarm) := goodIn_app (goodIn_of _ (by decide +kernel)) ggX0_isAhead_X0_isAlarm
theorem dX0_isAhead_0 : decode cX0_isAhead 0 = .ok (.iload_n 2, 1) := by decide +kernel
theorem dX0_isAhead_1 : decode cX0_isAhead 1 = .ok (.invokestatic 21, 3) := by decide +kernel
theorem dX0_isAhead_4 : decode cX0_isAhead 4 = .ok (.ifCond .eq 10, 3) := by decide +kernel
theorem dX0_isAhead_7 : decode cX0_isAhead 7 = .ok (.iload_n 1, 1) := by decide +kernel
theorem dX0_isAhead_8 : decode cX0_isAhead 8 = .ok (.invokestatic 21, 3) := by decide +kernel
theorem dX0_isAhead_11 : decode cX0_isAhead 11 = .ok (.ifCond .ne 5, 3) := by decide +kernel
theorem dX0_isAhead_14 : decode cX0_isAhead 14 = .ok (.iconst 1, 1) := by decide +kernel
theorem dX0_isAhead_15 : decode cX0_isAhead 15 = .ok (.ireturn, 1) := by decide +kernel
theorem dX0_isAhead_16 : decode cX0_isAhead 16 = .ok (.aload_n 0, 1) := by decide +kernel
theorem dX0_isAhead_17 : decode cX0_isAhead 17 = .ok (.getfield 9, 3) := by decide +kernel
theorem dX0_isAhead_20 : decode cX0_isAhead 20 = .ok (.iload_n 1, 1) := by decide +kernel
theorem dX0_isAhead_21 : decode cX0_isAhead 21 = .ok (.iaload, 1) := by decide +kernel
theorem dX0_isAhead_22 : decode cX0_isAhead 22 = .ok (.aload_n 0, 1) := by decide +kernel
theorem dX0_isAhead_23 : decode cX0_isAhead 23 = .ok (.getfield 9, 3) := by decide +kernel
theorem dX0_isAhead_26 : decode cX0_isAhead 26 = .ok (.iload_n 2, 1) := by decide +kernel
theorem dX0_isAhead_27 : decode cX0_isAhead 27 = .ok (.iaload, 1) := by decide +kernel
theorem dX0_isAhead_28 : decode cX0_isAhead 28 = .ok (.if_icmp .eq 24, 3) := by decide +kernel
theorem dX0_isAhead_31 : decode cX0_isAhead 31 = .ok (.aload_n 0, 1) := by decide +kernel
theorem dX0_isAhead_32 : decode cX0_isAhead 32 = .ok (.getfield 9, 3) := by decide +kernel
theorem dX0_isAhead_35 : decode cX0_isAhead 35 = .ok (.iload_n 1, 1) := by decide +kernel
theorem dX0_isAhead_36 : decode cX0_isAhead 36 = .ok (.iaload, 1) := by decide +kernel
theorem dX0_isAhead_37 : decode cX0_isAhead 37 = .ok (.aload_n 0, 1) := by decide +kernel
theorem dX0_isAhead_38 : decode cX0_isAhead 38 = .ok (.getfield 9, 3) := by decide +kernel
theorem dX0_isAhead_41 : decode cX0_isAhead 41 = .ok (.iload_n 2, 1) := by decide +kernel
theorem dX0_isAhead_42 : decode cX0_isAhead 42 = .ok (.iaload, 1) := by decide +kernel
theorem dX0_isAhead_43 : decode cX0_isAhead 43 = .ok (.if_icmp .le 7, 3) := by decide +kernel
theorem dX0_isAhead_46 : decode cX0_isAhead 46 = .ok (.iconst 1, 1) := by decide +kernel
theorem dX0_isAhead_47 : decode cX0_isAhead 47 = .ok (.goto 4, 3) := by decide +kernel
theorem dX0_isAhead_50 : decode cX0_isAhead 50 = .ok (.iconst 0, 1) := by decide +kernel
theorem dX0_isAhead_51 : decode cX0_isAhead 51 = .ok (.ireturn, 1) := by decide +kernel
theorem dX0_isAhead_52 : decode cX0_isAhead 52 = .ok (.aload_n 0, 1) := by decide +kernel
theorem dX0_isAhead_53 : decode cX0_isAhead 53 = .ok (.getfield 15, 3) := by decide +kernel
theorem dX0_isAhead_56 : decode cX0_isAhead 56 = .ok (.iload_n 1, 1) := by decide +kernel
theorem dX0_isAhead_57 : decode cX0_isAhead 57 = .ok (.iaload, 1) := by decide +kernel
theorem dX0_isAhead_58 : decode cX0_isAhead 58 = .ok (.aload_n 0, 1) := by decide +kernel
theorem dX0_isAhead_59 : decode cX0_isAhead 59 = .ok (.getfield 15, 3) := by decide +kernel
theorem dX0_isAhead_62 : decode cX0_isAhead 62 = .ok (.iload_n 2, 1) := by decide +kernel
theorem dX0_isAhead_63 : decode cX0_isAhead 63 = .ok (.iaload, 1) := by decide +kernel
theorem dX0_isAhead_64 : decode cX0_isAhead 64 = .ok (.if_icmp .ge 7, 3) := by decide +kernel
theorem dX0_isAhead_67 : decode cX0_isAhead 67 = .ok (.iconst 1, 1) := by decide +kernel
theorem dX0_isAhead_68 : decode cX0_isAhead 68 = .ok (.goto 4, 3) := by decide +kernel
theorem dX0_isAhead_71 : decode cX0_isAhead 71 = .ok (.iconst 0, 1) := by decide +kernel
theorem dX0_isAhead_72 : decode cX0_isAhead 72 = .ok (.ireturn, 1) := by decide +kernel
theorem dX0_isAlarm_0 : decode cX0_isAlarm 0 = .ok (.iload_n 0, 1) := by decide +kernel
theorem dX0_isAlarm_1 : decode cX0_isAlarm 1 = .ok (.ifCond .lt 13, 3) := by decide +kernel
theorem dX0_isAlarm_4 : decode cX0_isAlarm 4 = .ok (.iload_n 0, 1) := by decide +kernel
theorem dX0_isAlarm_5 : decode cX0_isAlarm 5 = .ok (.bipush 32, 2) := by decide +kernel
theorem dX0_isAlarm_7 : decode cX0_isAlarm 7 = .ok (.if_icmp .ge 7, 3) := by decide +kernel
theorem dX0_isAlarm_10 : decode cX0_isAlarm 10 = .ok (.iconst 1, 1) := by decide +kernel
theorem dX0_isAlarm_11 : decode cX0_isAlarm 11 = .ok (.goto 4, 3) := by decide +kernel
theorem dX0_isAlarm_14 : decode cX0_isAlarm 14 = .ok (.iconst 0, 1) := by decide +kernel
theorem dX0_isAlarm_15 : decode cX0_isAlarm 15 = .ok (.ireturn, 1) := by decide +kernel
theorem dX1_init_0 : decode cX1_init 0 = .ok (.aload_n 0, 1) := by decide +kernel
theorem dX1_init_1 : decode cX1_init 1 = .ok (.invokespecial 3, 3) := by decide +kernel
theorem dX1_init_4 : decode cX1_init 4 = .ok (.aload_n 0, 1) := by decide +kernel
theorem dX1_init_5 : decode cX1_init 5 = .ok (.iconst 4, 1) := by decide +kernel
theorem dX1_init_6 : decode cX1_init 6 = .ok (.newarray .int, 2) := by decide +kernel
theorem dX1_init_8 : decode cX1_init 8 = .ok (.putfield 9, 3) := by decide +kernel
theorem dX1_init_11 : decode cX1_init 11 = .ok (.aload_n 0, 1) := by decide +kernel
theorem dX1_init_12 : decode cX1_init 12 = .ok (.iconst (-1), 1) := by decide +kernel
theorem dX1_init_13 : decode cX1_init 13 = .ok (.putfield 15, 3) := by decide +kernel
theorem dX1_init_16 : decode cX1_init 16 = .ok (.aload_n 0, 1) := by decide +kernel
theorem dX1_init_17 : decode cX1_init 17 = .ok (.iconst (-1), 1) := by decide +kernel
theorem dX1_init_18 : decode cX1_init 18 = .ok (.putfield 19, 3) := by decide +kernel
theorem dX1_init_21 : decode cX1_init 21 = .ok (.return_, 1) := by decide +kernel
theorem dX1_crewOnDuty_0 : decode cX1_crewOnDuty 0 = .ok (.aload_n 0, 1) := by decide +kernel
theorem dX1_crewOnDuty_1 : decode cX1_crewOnDuty 1 = .ok (.getfield 15, 3) := by decide +kernel
theorem dX1_crewOnDuty_4 : decode cX1_crewOnDuty 4 = .ok (.ireturn, 1) := by decide +kernel
theorem dX1_isHandingOver_0 : decode cX1_isHandingOver 0 = .ok (.aload_n 0, 1) := by decide +kernel
theorem dX1_isHandingOver_1 : decode cX1_isHandingOver 1 = .ok (.getfield 19, 3) := by decide +kernel
theorem dX1_isHandingOver_4 : decode cX1_isHandingOver 4 = .ok (.iconst (-1), 1) := by decide +kernel
theorem dX1_isHandingOver_5 : decode cX1_isHandingOver 5 = .ok (.if_icmp .eq 7, 3) := by decide +kernel
theorem dX1_isHandingOver_8 : decode cX1_isHandingOver 8 = .ok (.iconst 1, 1) := by decide +kernel
theorem dX1_isHandingOver_9 : decode cX1_isHandingOver 9 = .ok (.goto 4, 3) := by decide +kernel
theorem dX1_isHandingOver_12 : decode cX1_isHandingOver 12 = .ok (.iconst 0, 1) := by decide +kernel
theorem dX1_isHandingOver_13 : decode cX1_isHandingOver 13 = .ok (.ireturn, 1) := by decide +kernel
theorem dX1_isAtWork_0 : decode cX1_isAtWork 0 = .ok (.aload_n 0, 1) := by decide +kernel
theorem dX1_isAtWork_1 : decode cX1_isAtWork 1 = .ok (.getfield 15, 3) := by decide +kernel
theorem dX1_isAtWork_4 : decode cX1_isAtWork 4 = .ok (.iconst (-1), 1) := by decide +kernel
theorem dX1_isAtWork_5 : decode cX1_isAtWork 5 = .ok (.if_icmp .eq 15, 3) := by decide +kernel
theorem dX1_isAtWork_8 : decode cX1_isAtWork 8 = .ok (.aload_n 0, 1) := by decide +kernel
theorem dX1_isAtWork_9 : decode cX1_isAtWork 9 = .ok (.getfield 19, 3) := by decide +kernel
theorem dX1_isAtWork_12 : decode cX1_isAtWork 12 = .ok (.iconst (-1), 1) := by decide +kernel
theorem dX1_isAtWork_13 : decode cX1_isAtWork 13 = .ok (.if_icmp .ne 7, 3) := by decide +kernel
theorem dX1_isAtWork_16 : decode cX1_isAtWork 16 = .ok (.iconst 1, 1) := by decide +kernel
theorem dX1_isAtWork_17 : decode cX1_isAtWork 17 = .ok (.goto 4, 3) := by decide +kernel
theorem dX1_isAtWork_20 : decode cX1_isAtWork 20 = .ok (.iconst 0, 1) := by decide +kernel
theorem dX1_isAtWork_21 : decode cX1_isAtWork 21 = .ok (.ireturn, 1) := by decide +kernel
theorem dX1_isWeary_0 : decode cX1_isWeary 0 = .ok (.aload_n 0, 1) := by decide +kernel
theorem dX1_isWeary_1 : decode cX1_isWeary 1 = .ok (.getfield 15, 3) := by decide +kernel
theorem dX1_isWeary_4 : decode cX1_isWeary 4 = .ok (.iconst (-1), 1) := by decide +kernel
theorem dX1_isWeary_5 : decode cX1_isWeary 5 = .ok (.if_icmp .eq 18, 3) := by decide +kernel
theorem dX1_isWeary_8 : decode cX1_isWeary 8 = .ok (.iload_n 1, 1) := by decide +kernel
theorem dX1_isWeary_9 : decode cX1_isWeary 9 = .ok (.aload_n 0, 1) := by decide +kernel
theorem dX1_isWeary_10 : decode cX1_isWeary 10 = .ok (.getfield 22, 3) := by decide +kernel
theorem dX1_isWeary_13 : decode cX1_isWeary 13 = .ok (.isub, 1) := by decide +kernel
theorem dX1_isWeary_14 : decode cX1_isWeary 14 = .ok (.bipush 12, 2) := by decide +kernel
theorem dX1_isWeary_16 : decode cX1_isWeary 16 = .ok (.if_icmp .lt 7, 3) := by decide +kernel
theorem dX1_isWeary_19 : decode cX1_isWeary 19 = .ok (.iconst 1, 1) := by decide +kernel
theorem dX1_isWeary_20 : decode cX1_isWeary 20 = .ok (.goto 4, 3) := by decide +kernel
theorem dX1_isWeary_23 : decode cX1_isWeary 23 = .ok (.iconst 0, 1) := by decide +kernel
theorem dX1_isWeary_24 : decode cX1_isWeary 24 = .ok (.ireturn, 1) := by decide +kernel
set_option maxRecDepth 20000 in
theorem ggX1_restOf_X5_isCrew : GoodIn wsX1_restOf wsX5_isCrew := goodIn_r _ [4] (by decide +kernel) (by decide +kernel)
set_option maxRecDepth 20000 in
theorem gX1_restOf_X5_isCrew_n25 : GoodIn wsX1_restOf (wsX5_isCrew) := ggX1_restOf_X5_isCrew
theorem dX1_restOf_0 : decode cX1_restOf 0 = .ok (.iload_n 1, 1) := by decide +kernel
theorem dX1_restOf_1 : decode cX1_restOf 1 = .ok (.invokestatic 25, 3) := by decide +kernel
theorem dX1_restOf_4 : decode cX1_restOf 4 = .ok (.ifCond .eq 24, 3) := by decide +kernel
theorem dX1_restOf_7 : decode cX1_restOf 7 = .ok (.aload_n 0, 1) := by decide +kernel
theorem dX1_restOf_8 : decode cX1_restOf 8 = .ok (.getfield 9, 3) := by decide +kernel
theorem dX1_restOf_11 : decode cX1_restOf 11 = .ok (.iload_n 1, 1) := by decide +kernel
theorem dX1_restOf_12 : decode cX1_restOf 12 = .ok (.iaload, 1) := by decide +kernel
theorem dX1_restOf_13 : decode cX1_restOf 13 = .ok (.iload_n 2, 1) := by decide +kernel
theorem dX1_restOf_14 : decode cX1_restOf 14 = .ok (.if_icmp .le 14, 3) := by decide +kernel
theorem dX1_restOf_17 : decode cX1_restOf 17 = .ok (.aload_n 0, 1) := by decide +kernel
theorem dX1_restOf_18 : decode cX1_restOf 18 = .ok (.getfield 9, 3) := by decide +kernel
theorem dX1_restOf_21 : decode cX1_restOf 21 = .ok (.iload_n 1, 1) := by decide +kernel
theorem dX1_restOf_22 : decode cX1_restOf 22 = .ok (.iaload, 1) := by decide +kernel
theorem dX1_restOf_23 : decode cX1_restOf 23 = .ok (.iload_n 2, 1) := by decide +kernel
theorem dX1_restOf_24 : decode cX1_restOf 24 = .ok (.isub, 1) := by decide +kernel
theorem dX1_restOf_25 : decode cX1_restOf 25 = .ok (.goto 4, 3) := by decide +kernel
theorem dX1_restOf_28 : decode cX1_restOf 28 = .ok (.iconst 0, 1) := by decide +kernel
theorem dX1_restOf_29 : decode cX1_restOf 29 = .ok (.ireturn, 1) := by decide +kernel
theorem dX1_startShift_0 : decode cX1_startShift 0 = .ok (.aload_n 0, 1) := by decide +kernel
theorem dX1_startShift_1 : decode cX1_startShift 1 = .ok (.iload_n 1, 1) := by decide +kernel
theorem dX1_startShift_2 : decode cX1_startShift 2 = .ok (.putfield 15, 3) := by decide +kernel
theorem dX1_startShift_5 : decode cX1_startShift 5 = .ok (.aload_n 0, 1) := by decide +kernel
theorem dX1_startShift_6 : decode cX1_startShift 6 = .ok (.iload_n 2, 1) := by decide +kernel
theorem dX1_startShift_7 : decode cX1_startShift 7 = .ok (.putfield 22, 3) := by decide +kernel
theorem dX1_startShift_10 : decode cX1_startShift 10 = .ok (.return_, 1) := by decide +kernel
theorem dX1_startHandOver_0 : decode cX1_startHandOver 0 = .ok (.aload_n 0, 1) := by decide +kernel
theorem dX1_startHandOver_1 : decode cX1_startHandOver 1 = .ok (.iload_n 1, 1) := by decide +kernel
theorem dX1_startHandOver_2 : decode cX1_startHandOver 2 = .ok (.putfield 19, 3) := by decide +kernel
theorem dX1_startHandOver_5 : decode cX1_startHandOver 5 = .ok (.return_, 1) := by decide +kernel
theorem dX1_stopHandOver_0 : decode cX1_stopHandOver 0 = .ok (.aload_n 0, 1) := by decide +kernel
theorem dX1_stopHandOver_1 : decode cX1_stopHandOver 1 = .ok (.iconst (-1), 1) := by decide +kernel
theorem dX1_stopHandOver_2 : decode cX1_stopHandOver 2 = .ok (.putfield 19, 3) := by decide +kernel
theorem dX1_stopHandOver_5 : decode cX1_stopHandOver 5 = .ok (.return_, 1) := by decide +kernel
set_option maxRecDepth 20000 in
theorem ggX1_changeShift_X5_isCrew : GoodIn wsX1_changeShift wsX5_isCrew := goodIn_r _ [6] (by decide +kernel) (by decide +kernel)
set_option maxRecDepth 20000 in
theorem gX1_changeShift_X5_isCrew_n25 : GoodIn wsX1_changeShift (wsX5_isCrew) := ggX1_changeShift_X5_isCrew
set_option maxRecDepth 20000 in
theorem ggX1_changeShift_X1_startShift : GoodIn wsX1_changeShift wsX1_startShift := goodIn_r _ [11, 1, 12, 17, 18, 19, 20] (by decide +kernel) (by decide +kernel)
set_option maxRecDepth 20000 in
theorem gX1_changeShift_X1_startShift : GoodIn wsX1_changeShift (wsV RX1 29 RX1 yX1_startShift wsX1_startShift) := goodIn_app (goodIn_of _ (by decide +kernel)) ggX1_changeShift_X1_startShift
set_option maxRecDepth 20000 in
theorem ggX1_changeShift_X1_stopHandOver : GoodIn wsX1_changeShift wsX1_stopHandOver := goodIn_r _ [16, 3, 17, 18, 19, 20] (by decide +kernel) (by decide +kernel)
set_option maxRecDepth 20000 in
theorem gX1_changeShift_X1_stopHandOver : GoodIn wsX1_changeShift (wsV RX1 33 RX1 yX1_stopHandOver wsX1_stopHandOver) := goodIn_app (goodIn_of _ (by decide +kernel)) ggX1_changeShift_X1_stopHandOver
theorem dX1_changeShift_0 : decode cX1_changeShift 0 = .ok (.aload_n 0, 1) := by decide +kernel
theorem dX1_changeShift_1 : decode cX1_changeShift 1 = .ok (.getfield 15, 3) := by decide +kernel
theorem dX1_changeShift_4 : decode cX1_changeShift 4 = .ok (.invokestatic 25, 3) := by decide +kernel
theorem dX1_changeShift_7 : decode cX1_changeShift 7 = .ok (.ifCond .eq 16, 3) := by decide +kernel
theorem dX1_changeShift_10 : decode cX1_changeShift 10 = .ok (.aload_n 0, 1) := by decide +kernel
theorem dX1_changeShift_11 : decode cX1_changeShift 11 = .ok (.getfield 9, 3) := by decide +kernel
theorem dX1_changeShift_14 : decode cX1_changeShift 14 = .ok (.aload_n 0, 1) := by decide +kernel
theorem dX1_changeShift_15 : decode cX1_changeShift 15 = .ok (.getfield 15, 3) := by decide +kernel
theorem dX1_changeShift_18 : decode cX1_changeShift 18 = .ok (.iload_n 1, 1) := by decide +kernel
theorem dX1_changeShift_19 : decode cX1_changeShift 19 = .ok (.bipush 11, 2) := by decide +kernel
theorem dX1_changeShift_21 : decode cX1_changeShift 21 = .ok (.iadd, 1) := by decide +kernel
theorem dX1_changeShift_22 : decode cX1_changeShift 22 = .ok (.iastore, 1) := by decide +kernel
theorem dX1_changeShift_23 : decode cX1_changeShift 23 = .ok (.aload_n 0, 1) := by decide +kernel
theorem dX1_changeShift_24 : decode cX1_changeShift 24 = .ok (.aload_n 0, 1) := by decide +kernel
theorem dX1_changeShift_25 : decode cX1_changeShift 25 = .ok (.getfield 19, 3) := by decide +kernel
theorem dX1_changeShift_28 : decode cX1_changeShift 28 = .ok (.iload_n 1, 1) := by decide +kernel
theorem dX1_changeShift_29 : decode cX1_changeShift 29 = .ok (.invokevirtual 29, 3) := by decide +kernel
theorem dX1_changeShift_32 : decode cX1_changeShift 32 = .ok (.aload_n 0, 1) := by decide +kernel
theorem dX1_changeShift_33 : decode cX1_changeShift 33 = .ok (.invokevirtual 33, 3) := by decide +kernel
theorem dX1_changeShift_36 : decode cX1_changeShift 36 = .ok (.return_, 1) := by decide +kernel
theorem dX2_init_0 : decode cX2_init 0 = .ok (.aload_n 0, 1) := by decide +kernel
theorem dX2_init_1 : decode cX2_init 1 = .ok (.invokespecial 3, 3) := by decide +kernel
theorem dX2_init_4 : decode cX2_init 4 = .ok (.aload_n 0, 1) := by decide +kernel
theorem dX2_init_5 : decode cX2_init 5 = .ok (.bipush 60, 2) := by decide +kernel
theorem dX2_init_7 : decode cX2_init 7 = .ok (.newarray .char, 2) := by decide +kernel
theorem dX2_init_9 : decode cX2_init 9 = .ok (.putfield 9, 3) := by decide +kernel
theorem dX2_init_12 : decode cX2_init 12 = .ok (.aload_n 0, 1) := by decide +kernel
theorem dX2_init_13 : decode cX2_init 13 = .ok (.bipush 60, 2) := by decide +kernel
theorem dX2_init_15 : decode cX2_init 15 = .ok (.newarray .int, 2) := by decide +kernel
theorem dX2_init_17 : decode cX2_init 17 = .ok (.putfield 15, 3) := by decide +kernel
theorem dX2_init_20 : decode cX2_init 20 = .ok (.aload_n 0, 1) := by decide +kernel
theorem dX2_init_21 : decode cX2_init 21 = .ok (.bipush 60, 2) := by decide +kernel
theorem dX2_init_23 : decode cX2_init 23 = .ok (.newarray .boolean, 2) := by decide +kernel
theorem dX2_init_25 : decode cX2_init 25 = .ok (.putfield 19, 3) := by decide +kernel
theorem dX2_init_28 : decode cX2_init 28 = .ok (.aload_n 0, 1) := by decide +kernel
theorem dX2_init_29 : decode cX2_init 29 = .ok (.bipush 60, 2) := by decide +kernel
theorem dX2_init_31 : decode cX2_init 31 = .ok (.newarray .boolean, 2) := by decide +kernel
theorem dX2_init_33 : decode cX2_init 33 = .ok (.putfield 23, 3) := by decide +kernel
theorem dX2_init_36 : decode cX2_init 36 = .ok (.aload_n 0, 1) := by decide +kernel
theorem dX2_init_37 : decode cX2_init 37 = .ok (.bipush 60, 2) := by decide +kernel
theorem dX2_init_39 : decode cX2_init 39 = .ok (.newarray .int, 2) := by decide +kernel
theorem dX2_init_41 : decode cX2_init 41 = .ok (.putfield 26, 3) := by decide +kernel
theorem dX2_init_44 : decode cX2_init 44 = .ok (.aload_n 0, 1) := by decide +kernel
theorem dX2_init_45 : decode cX2_init 45 = .ok (.bipush 120, 2) := by decide +kernel
theorem dX2_init_47 : decode cX2_init 47 = .ok (.newarray .int, 2) := by decide +kernel
theorem dX2_init_49 : decode cX2_init 49 = .ok (.putfield 29, 3) := by decide +kernel
theorem dX2_init_52 : decode cX2_init 52 = .ok (.return_, 1) := by decide +kernel
theorem dX2_isFull_0 : decode cX2_isFull 0 = .ok (.aload_n 0, 1) := by decide +kernel
theorem dX2_isFull_1 : decode cX2_isFull 1 = .ok (.getfield 32, 3) := by decide +kernel
theorem dX2_isFull_4 : decode cX2_isFull 4 = .ok (.bipush 60, 2) := by decide +kernel
theorem dX2_isFull_6 : decode cX2_isFull 6 = .ok (.if_icmp .lt 7, 3) := by decide +kernel
theorem dX2_isFull_9 : decode cX2_isFull 9 = .ok (.iconst 1, 1) := by decide +kernel
theorem dX2_isFull_10 : decode cX2_isFull 10 = .ok (.goto 4, 3) := by decide +kernel
theorem dX2_isFull_13 : decode cX2_isFull 13 = .ok (.iconst 0, 1) := by decide +kernel
theorem dX2_isFull_14 : decode cX2_isFull 14 = .ok (.ireturn, 1) := by decide +kernel
theorem dX2_hasLine_0 : decode cX2_hasLine 0 = .ok (.iload_n 1, 1) := by decide +kernel
theorem dX2_hasLine_1 : decode cX2_hasLine 1 = .ok (.ifCond .lt 21, 3) := by decide +kernel
theorem dX2_hasLine_4 : decode cX2_hasLine 4 = .ok (.iload_n 1, 1) := by decide +kernel
theorem dX2_hasLine_5 : decode cX2_hasLine 5 = .ok (.aload_n 0, 1) := by decide +kernel
theorem dX2_hasLine_6 : decode cX2_hasLine 6 = .ok (.getfield 32, 3) := by decide +kernel
theorem dX2_hasLine_9 : decode cX2_hasLine 9 = .ok (.if_icmp .ge 13, 3) := by decide +kernel
theorem dX2_hasLine_12 : decode cX2_hasLine 12 = .ok (.iload_n 1, 1) := by decide +kernel
theorem dX2_hasLine_13 : decode cX2_hasLine 13 = .ok (.bipush 60, 2) := by decide +kernel
theorem dX2_hasLine_15 : decode cX2_hasLine 15 = .ok (.if_icmp .ge 7, 3) := by decide +kernel
theorem dX2_hasLine_18 : decode cX2_hasLine 18 = .ok (.iconst 1, 1) := by decide +kernel
theorem dX2_hasLine_19 : decode cX2_hasLine 19 = .ok (.goto 4, 3) := by decide +kernel
theorem dX2_hasLine_22 : decode cX2_hasLine 22 = .ok (.iconst 0, 1) := by decide +kernel
theorem dX2_hasLine_23 : decode cX2_hasLine 23 = .ok (.ireturn, 1) := by decide +kernel
theorem dX2_lineCount_0 : decode cX2_lineCount 0 = .ok (.aload_n 0, 1) := by decide +kernel
theorem dX2_lineCount_1 : decode cX2_lineCount 1 = .ok (.getfield 32, 3) := by decide +kernel
theorem dX2_lineCount_4 : decode cX2_lineCount 4 = .ok (.ireturn, 1) := by decide +kernel
theorem dX2_openCount_0 : decode cX2_openCount 0 = .ok (.aload_n 0, 1) := by decide +kernel
theorem dX2_openCount_1 : decode cX2_openCount 1 = .ok (.getfield 36, 3) := by decide +kernel
theorem dX2_openCount_4 : decode cX2_openCount 4 = .ok (.ireturn, 1) := by decide +kernel
set_option maxRecDepth 20000 in
theorem ggX2_openLine_X2_isFull : GoodIn wsX2_openLine wsX2_isFull := goodIn_r _ [10, 1, 21, 22, 23, 24, 25, 26, 27, 28, 29] (by decide +kernel) (by decide +kernel)
set_option maxRecDepth 20000 in
theorem gX2_openLine_X2_isFull : GoodIn wsX2_openLine (wsV RX2 39 RX2 yX2_isFull wsX2_isFull) := goodIn_app (goodIn_of _ (by decide +kernel)) ggX2_openLine_X2_isFull
set_option maxRecDepth 20000 in
theorem ggX2_openLine_X2_hasLine : GoodIn wsX2_openLine wsX2_hasLine := goodIn_r _ [14, 1, 21, 22, 23, 24, 25, 26, 27, 28, 29] (by decide +kernel) (by decide +kernel)
set_option maxRecDepth 20000 in
theorem gX2_openLine_X2_hasLine : GoodIn wsX2_openLine (wsV RX2 43 RX2 yX2_hasLine wsX2_hasLine) := goodIn_app (goodIn_of _ (by decide +kernel)) ggX2_openLine_X2_hasLine
set_option maxRecDepth 20000 in
theorem ggX2_openLine_X2_writeEntry : GoodIn wsX2_openLine wsX2_writeEntry := goodIn_ca (goodIn_r _ [18, 19, 20, 21, 22, 23, 24, 25, 26, 27, 28, 29] (by decide +kernel) (by decide +kernel)) (goodIn_sub (fun _ h => List.mem_cons_of_mem _ (List.mem_append_right _ h)) (by decide +kernel))
set_option maxRecDepth 20000 in
theorem gX2_openLine_X2_writeEntry : GoodIn wsX2_openLine (wsV RX2 47 RX2 yX2_writeEntry wsX2_writeEntry) := goodIn_app (goodIn_of _ (by decide +kernel)) ggX2_openLine_X2_writeEntry
theorem dX2_openLine_0 : decode cX2_openLine 0 = .ok (.aload_n 0, 1) := by decide +kernel
theorem dX2_openLine_1 : decode cX2_openLine 1 = .ok (.invokevirtual 39, 3) := by decide +kernel
theorem dX2_openLine_4 : decode cX2_openLine 4 = .ok (.ifCond .eq 5, 3) := by decide +kernel
theorem dX2_openLine_7 : decode cX2_openLine 7 = .ok (.iconst (-1), 1) := by decide +kernel
theorem dX2_openLine_8 : decode cX2_openLine 8 = .ok (.ireturn, 1) := by decide +kernel
theorem dX2_openLine_9 : decode cX2_openLine 9 = .ok (.aload_n 0, 1) := by decide +kernel
theorem dX2_openLine_10 : decode cX2_openLine 10 = .ok (.getfield 32, 3) := by decide +kernel
theorem dX2_openLine_13 : decode cX2_openLine 13 = .ok (.istore_n 3, 1) := by decide +kernel
theorem dX2_openLine_14 : decode cX2_openLine 14 = .ok (.aload_n 0, 1) := by decide +kernel
theorem dX2_openLine_15 : decode cX2_openLine 15 = .ok (.dup, 1) := by decide +kernel
theorem dX2_openLine_16 : decode cX2_openLine 16 = .ok (.getfield 32, 3) := by decide +kernel
theorem dX2_openLine_19 : decode cX2_openLine 19 = .ok (.iconst 1, 1) := by decide +kernel
theorem dX2_openLine_20 : decode cX2_openLine 20 = .ok (.iadd, 1) := by decide +kernel
theorem dX2_openLine_21 : decode cX2_openLine 21 = .ok (.putfield 32, 3) := by decide +kernel
theorem dX2_openLine_24 : decode cX2_openLine 24 = .ok (.aload_n 0, 1) := by decide +kernel
theorem dX2_openLine_25 : decode cX2_openLine 25 = .ok (.iload_n 3, 1) := by decide +kernel
theorem dX2_openLine_26 : decode cX2_openLine 26 = .ok (.invokevirtual 43, 3) := by decide +kernel
theorem dX2_openLine_29 : decode cX2_openLine 29 = .ok (.ifCond .eq 39, 3) := by decide +kernel
theorem dX2_openLine_32 : decode cX2_openLine 32 = .ok (.aload_n 0, 1) := by decide +kernel
theorem dX2_openLine_33 : decode cX2_openLine 33 = .ok (.getfield 9, 3) := by decide +kernel
theorem dX2_openLine_36 : decode cX2_openLine 36 = .ok (.iload_n 3, 1) := by decide +kernel
theorem dX2_openLine_37 : decode cX2_openLine 37 = .ok (.iload_n 1, 1) := by decide +kernel
theorem dX2_openLine_38 : decode cX2_openLine 38 = .ok (.castore, 1) := by decide +kernel
theorem dX2_openLine_39 : decode cX2_openLine 39 = .ok (.aload_n 0, 1) := by decide +kernel
theorem dX2_openLine_40 : decode cX2_openLine 40 = .ok (.getfield 15, 3) := by decide +kernel
theorem dX2_openLine_43 : decode cX2_openLine 43 = .ok (.iload_n 3, 1) := by decide +kernel
theorem dX2_openLine_44 : decode cX2_openLine 44 = .ok (.iload_n 2, 1) := by decide +kernel
theorem dX2_openLine_45 : decode cX2_openLine 45 = .ok (.iastore, 1) := by decide +kernel
theorem dX2_openLine_46 : decode cX2_openLine 46 = .ok (.aload_n 0, 1) := by decide +kernel
theorem dX2_openLine_47 : decode cX2_openLine 47 = .ok (.getfield 19, 3) := by decide +kernel
theorem dX2_openLine_50 : decode cX2_openLine 50 = .ok (.iload_n 3, 1) := by decide +kernel
theorem dX2_openLine_51 : decode cX2_openLine 51 = .ok (.iconst 1, 1) := by decide +kernel
theorem dX2_openLine_52 : decode cX2_openLine 52 = .ok (.bastore, 1) := by decide +kernel
theorem dX2_openLine_53 : decode cX2_openLine 53 = .ok (.aload_n 0, 1) := by decide +kernel
theorem dX2_openLine_54 : decode cX2_openLine 54 = .ok (.dup, 1) := by decide +kernel
theorem dX2_openLine_55 : decode cX2_openLine 55 = .ok (.getfield 36, 3) := by decide +kernel
theorem dX2_openLine_58 : decode cX2_openLine 58 = .ok (.iconst 1, 1) := by decide +kernel
theorem dX2_openLine_59 : decode cX2_openLine 59 = .ok (.iadd, 1) := by decide +kernel
theorem dX2_openLine_60 : decode cX2_openLine 60 = .ok (.putfield 36, 3) := by decide +kernel
theorem dX2_openLine_63 : decode cX2_openLine 63 = .ok (.aload_n 0, 1) := by decide +kernel
theorem dX2_openLine_64 : decode cX2_openLine 64 = .ok (.iload_n 3, 1) := by decide +kernel
theorem dX2_openLine_65 : decode cX2_openLine 65 = .ok (.invokevirtual 47, 3) := by decide +kernel
theorem dX2_openLine_68 : decode cX2_openLine 68 = .ok (.iload_n 3, 1) := by decide +kernel
theorem dX2_openLine_69 : decode cX2_openLine 69 = .ok (.ireturn, 1) := by decide +kernel
set_option maxRecDepth 20000 in
theorem ggX2_closeLine_X2_isOpen : GoodIn wsX2_closeLine wsX2_isOpen := goodIn_ca (goodIn_r _ [7, 1, 8, 9, 10, 6, 11, 12, 19, 20, 21, 22, 23, 24, 25, 26, 27] (by decide +kernel) (by decide +kernel)) (goodIn_sub (fun _ h => List.mem_cons_of_mem _ (List.mem_append_right _ h)) (by decide +kernel))
set_option maxRecDepth 20000 in
theorem gX2_closeLine_X2_isOpen : GoodIn wsX2_closeLine (wsV RX2 51 RX2 yX2_isOpen wsX2_isOpen) := goodIn_app (goodIn_of _ (by decide +kernel)) ggX2_closeLine_X2_isOpen
set_option maxRecDepth 20000 in
theorem ggX2_closeLine_X2_writeEntry : GoodIn wsX2_closeLine wsX2_writeEntry := goodIn_ca (goodIn_r _ [16, 17, 18, 19, 20, 21, 22, 23, 24, 25, 26, 27] (by decide +kernel) (by decide +kernel)) (goodIn_sub (fun _ h => List.mem_cons_of_mem _ (List.mem_append_right _ h)) (by decide +kernel))
set_option maxRecDepth 20000 in
theorem gX2_closeLine_X2_writeEntry : GoodIn wsX2_closeLine (wsV RX2 47 RX2 yX2_writeEntry wsX2_writeEntry) := goodIn_app (goodIn_of _ (by decide +kernel)) ggX2_closeLine_X2_writeEntry
theorem dX2_closeLine_0 : decode cX2_closeLine 0 = .ok (.aload_n 0, 1) := by decide +kernel
theorem dX2_closeLine_1 : decode cX2_closeLine 1 = .ok (.iload_n 1, 1) := by decide +kernel
theorem dX2_closeLine_2 : decode cX2_closeLine 2 = .ok (.invokevirtual 51, 3) := by decide +kernel
theorem dX2_closeLine_5 : decode cX2_closeLine 5 = .ok (.ifCond .eq 27, 3) := by decide +kernel
theorem dX2_closeLine_8 : decode cX2_closeLine 8 = .ok (.aload_n 0, 1) := by decide +kernel
theorem dX2_closeLine_9 : decode cX2_closeLine 9 = .ok (.getfield 19, 3) := by decide +kernel
theorem dX2_closeLine_12 : decode cX2_closeLine 12 = .ok (.iload_n 1, 1) := by decide +kernel
theorem dX2_closeLine_13 : decode cX2_closeLine 13 = .ok (.iconst 0, 1) := by decide +kernel
theorem dX2_closeLine_14 : decode cX2_closeLine 14 = .ok (.bastore, 1) := by decide +kernel
theorem dX2_closeLine_15 : decode cX2_closeLine 15 = .ok (.aload_n 0, 1) := by decide +kernel
theorem dX2_closeLine_16 : decode cX2_closeLine 16 = .ok (.dup, 1) := by decide +kernel
theorem dX2_closeLine_17 : decode cX2_closeLine 17 = .ok (.getfield 36, 3) := by decide +kernel
theorem dX2_closeLine_20 : decode cX2_closeLine 20 = .ok (.iconst 1, 1) := by decide +kernel
theorem dX2_closeLine_21 : decode cX2_closeLine 21 = .ok (.isub, 1) := by decide +kernel
theorem dX2_closeLine_22 : decode cX2_closeLine 22 = .ok (.putfield 36, 3) := by decide +kernel
theorem dX2_closeLine_25 : decode cX2_closeLine 25 = .ok (.aload_n 0, 1) := by decide +kernel
theorem dX2_closeLine_26 : decode cX2_closeLine 26 = .ok (.iload_n 1, 1) := by decide +kernel
theorem dX2_closeLine_27 : decode cX2_closeLine 27 = .ok (.iconst (-1), 1) := by decide +kernel
theorem dX2_closeLine_28 : decode cX2_closeLine 28 = .ok (.ixor, 1) := by decide +kernel
theorem dX2_closeLine_29 : decode cX2_closeLine 29 = .ok (.invokevirtual 47, 3) := by decide +kernel
theorem dX2_closeLine_32 : decode cX2_closeLine 32 = .ok (.return_, 1) := by decide +kernel
theorem dX2_writeEntry_0 : decode cX2_writeEntry 0 = .ok (.aload_n 0, 1) := by decide +kernel
theorem dX2_writeEntry_1 : decode cX2_writeEntry 1 = .ok (.getfield 54, 3) := by decide +kernel
theorem dX2_writeEntry_4 : decode cX2_writeEntry 4 = .ok (.ifCond .lt 32, 3) := by decide +kernel
theorem dX2_writeEntry_7 : decode cX2_writeEntry 7 = .ok (.aload_n 0, 1) := by decide +kernel
theorem dX2_writeEntry_8 : decode cX2_writeEntry 8 = .ok (.getfield 54, 3) := by decide +kernel
theorem dX2_writeEntry_11 : decode cX2_writeEntry 11 = .ok (.bipush 120, 2) := by decide +kernel
theorem dX2_writeEntry_13 : decode cX2_writeEntry 13 = .ok (.if_icmp .ge 23, 3) := by decide +kernel
theorem dX2_writeEntry_16 : decode cX2_writeEntry 16 = .ok (.aload_n 0, 1) := by decide +kernel
theorem dX2_writeEntry_17 : decode cX2_writeEntry 17 = .ok (.getfield 29, 3) := by decide +kernel
theorem dX2_writeEntry_20 : decode cX2_writeEntry 20 = .ok (.aload_n 0, 1) := by decide +kernel
theorem dX2_writeEntry_21 : decode cX2_writeEntry 21 = .ok (.getfield 54, 3) := by decide +kernel
theorem dX2_writeEntry_24 : decode cX2_writeEntry 24 = .ok (.iload_n 1, 1) := by decide +kernel
theorem dX2_writeEntry_25 : decode cX2_writeEntry 25 = .ok (.iastore, 1) := by decide +kernel
theorem dX2_writeEntry_26 : decode cX2_writeEntry 26 = .ok (.aload_n 0, 1) := by decide +kernel
theorem dX2_writeEntry_27 : decode cX2_writeEntry 27 = .ok (.dup, 1) := by decide +kernel
theorem dX2_writeEntry_28 : decode cX2_writeEntry 28 = .ok (.getfield 54, 3) := by decide +kernel
theorem dX2_writeEntry_31 : decode cX2_writeEntry 31 = .ok (.iconst 1, 1) := by decide +kernel
theorem dX2_writeEntry_32 : decode cX2_writeEntry 32 = .ok (.iadd, 1) := by decide +kernel
theorem dX2_writeEntry_33 : decode cX2_writeEntry 33 = .ok (.putfield 54, 3) := by decide +kernel
theorem dX2_writeEntry_36 : decode cX2_writeEntry 36 = .ok (.return_, 1) := by decide +kernel
theorem dX2_openCountByEntries_0 : decode cX2_openCountByEntries 0 = .ok (.iconst 0, 1) := by decide +kernel
theorem dX2_openCountByEntries_1 : decode cX2_openCountByEntries 1 = .ok (.istore_n 1, 1) := by decide +kernel
theorem dX2_openCountByEntries_2 : decode cX2_openCountByEntries 2 = .ok (.iconst 0, 1) := by decide +kernel
theorem dX2_openCountByEntries_3 : decode cX2_openCountByEntries 3 = .ok (.istore_n 2, 1) := by decide +kernel
theorem dX2_openCountByEntries_4 : decode cX2_openCountByEntries 4 = .ok (.iload_n 2, 1) := by decide +kernel
theorem dX2_openCountByEntries_5 : decode cX2_openCountByEntries 5 = .ok (.bipush 120, 2) := by decide +kernel
theorem dX2_openCountByEntries_7 : decode cX2_openCountByEntries 7 = .ok (.if_icmp .ge 34, 3) := by decide +kernel
theorem dX2_openCountByEntries_10 : decode cX2_openCountByEntries 10 = .ok (.iload_n 2, 1) := by decide +kernel
theorem dX2_openCountByEntries_11 : decode cX2_openCountByEntries 11 = .ok (.aload_n 0, 1) := by decide +kernel
theorem dX2_openCountByEntries_12 : decode cX2_openCountByEntries 12 = .ok (.getfield 54, 3) := by decide +kernel
theorem dX2_openCountByEntries_15 : decode cX2_openCountByEntries 15 = .ok (.if_icmp .ge 26, 3) := by decide +kernel
theorem dX2_openCountByEntries_18 : decode cX2_openCountByEntries 18 = .ok (.iload_n 1, 1) := by decide +kernel
theorem dX2_openCountByEntries_19 : decode cX2_openCountByEntries 19 = .ok (.aload_n 0, 1) := by decide +kernel
theorem dX2_openCountByEntries_20 : decode cX2_openCountByEntries 20 = .ok (.getfield 29, 3) := by decide +kernel
theorem dX2_openCountByEntries_23 : decode cX2_openCountByEntries 23 = .ok (.iload_n 2, 1) := by decide +kernel
theorem dX2_openCountByEntries_24 : decode cX2_openCountByEntries 24 = .ok (.iaload, 1) := by decide +kernel
theorem dX2_openCountByEntries_25 : decode cX2_openCountByEntries 25 = .ok (.ifCond .lt 7, 3) := by decide +kernel
theorem dX2_openCountByEntries_28 : decode cX2_openCountByEntries 28 = .ok (.iconst 1, 1) := by decide +kernel
theorem dX2_openCountByEntries_29 : decode cX2_openCountByEntries 29 = .ok (.goto 4, 3) := by decide +kernel
theorem dX2_openCountByEntries_32 : decode cX2_openCountByEntries 32 = .ok (.iconst (-1), 1) := by decide +kernel
theorem dX2_openCountByEntries_33 : decode cX2_openCountByEntries 33 = .ok (.iadd, 1) := by decide +kernel
theorem dX2_openCountByEntries_34 : decode cX2_openCountByEntries 34 = .ok (.istore_n 1, 1) := by decide +kernel
theorem dX2_openCountByEntries_35 : decode cX2_openCountByEntries 35 = .ok (.iinc 2 1, 3) := by decide +kernel
theorem dX2_openCountByEntries_38 : decode cX2_openCountByEntries 38 = .ok (.goto (-34), 3) := by decide +kernel
theorem dX2_openCountByEntries_41 : decode cX2_openCountByEntries 41 = .ok (.iload_n 1, 1) := by decide +kernel
theorem dX2_openCountByEntries_42 : decode cX2_openCountByEntries 42 = .ok (.ireturn, 1) := by decide +kernel
set_option maxRecDepth 20000 in
theorem ggX2_isOpen_X2_hasLine : GoodIn wsX2_isOpen wsX2_hasLine := goodIn_r _ [6, 7, 8, 9, 10, 11, 12, 13, 14, 15, 16] (by decide +kernel) (by decide +kernel)
set_option maxRecDepth 20000 in
theorem gX2_isOpen_X2_hasLine : GoodIn wsX2_isOpen (wsV RX2 43 RX2 yX2_hasLine wsX2_hasLine) := goodIn_app (goodIn_of _ (by decide +kernel)) ggX2_isOpen_X2_hasLine
theorem dX2_isOpen_0 : decode cX2_isOpen 0 = .ok (.aload_n 0, 1) := by decide +kernel
theorem dX2_isOpen_1 : decode cX2_isOpen 1 = .ok (.iload_n 1, 1) := by decide +kernel
theorem dX2_isOpen_2 : decode cX2_isOpen 2 = .ok (.invokevirtual 43, 3) := by decide +kernel
theorem dX2_isOpen_5 : decode cX2_isOpen 5 = .ok (.ifCond .eq 16, 3) := by decide +kernel
theorem dX2_isOpen_8 : decode cX2_isOpen 8 = .ok (.aload_n 0, 1) := by decide +kernel
theorem dX2_isOpen_9 : decode cX2_isOpen 9 = .ok (.getfield 19, 3) := by decide +kernel
theorem dX2_isOpen_12 : decode cX2_isOpen 12 = .ok (.iload_n 1, 1) := by decide +kernel
theorem dX2_isOpen_13 : decode cX2_isOpen 13 = .ok (.baload, 1) := by decide +kernel
theorem dX2_isOpen_14 : decode cX2_isOpen 14 = .ok (.ifCond .eq 7, 3) := by decide +kernel
theorem dX2_isOpen_17 : decode cX2_isOpen 17 = .ok (.iconst 1, 1) := by decide +kernel
theorem dX2_isOpen_18 : decode cX2_isOpen 18 = .ok (.goto 4, 3) := by decide +kernel
theorem dX2_isOpen_21 : decode cX2_isOpen 21 = .ok (.iconst 0, 1) := by decide +kernel
theorem dX2_isOpen_22 : decode cX2_isOpen 22 = .ok (.ireturn, 1) := by decide +kernel
set_option maxRecDepth 20000 in
theorem ggX2_kindAt_X2_hasLine : GoodIn wsX2_kindAt wsX2_hasLine := goodIn_r _ [6, 7, 8, 9, 10, 11, 12, 13, 14, 15, 16] (by decide +kernel) (by decide +kernel)
set_option maxRecDepth 20000 in
theorem gX2_kindAt_X2_hasLine : GoodIn wsX2_kindAt (wsV RX2 43 RX2 yX2_hasLine wsX2_hasLine) := goodIn_app (goodIn_of _ (by decide +kernel)) ggX2_kindAt_X2_hasLine
theorem dX2_kindAt_0 : decode cX2_kindAt 0 = .ok (.aload_n 0, 1) := by decide +kernel
theorem dX2_kindAt_1 : decode cX2_kindAt 1 = .ok (.iload_n 1, 1) := by decide +kernel
theorem dX2_kindAt_2 : decode cX2_kindAt 2 = .ok (.invokevirtual 43, 3) := by decide +kernel
theorem dX2_kindAt_5 : decode cX2_kindAt 5 = .ok (.ifCond .eq 12, 3) := by decide +kernel
theorem dX2_kindAt_8 : decode cX2_kindAt 8 = .ok (.aload_n 0, 1) := by decide +kernel
theorem dX2_kindAt_9 : decode cX2_kindAt 9 = .ok (.getfield 9, 3) := by decide +kernel
theorem dX2_kindAt_12 : decode cX2_kindAt 12 = .ok (.iload_n 1, 1) := by decide +kernel
theorem dX2_kindAt_13 : decode cX2_kindAt 13 = .ok (.caload, 1) := by decide +kernel
theorem dX2_kindAt_14 : decode cX2_kindAt 14 = .ok (.goto 5, 3) := by decide +kernel
theorem dX2_kindAt_17 : decode cX2_kindAt 17 = .ok (.bipush 32, 2) := by decide +kernel
theorem dX2_kindAt_19 : decode cX2_kindAt 19 = .ok (.ireturn, 1) := by decide +kernel
set_option maxRecDepth 20000 in
theorem ggX2_handOversOf_X2_hasLine : GoodIn wsX2_handOversOf wsX2_hasLine := goodIn_r _ [6, 7, 8, 9, 10, 11, 12, 13, 14, 15, 16] (by decide +kernel) (by decide +kernel)
set_option maxRecDepth 20000 in
theorem gX2_handOversOf_X2_hasLine : GoodIn wsX2_handOversOf (wsV RX2 43 RX2 yX2_hasLine wsX2_hasLine) := goodIn_app (goodIn_of _ (by decide +kernel)) ggX2_handOversOf_X2_hasLine
theorem dX2_handOversOf_0 : decode cX2_handOversOf 0 = .ok (.aload_n 0, 1) := by decide +kernel
theorem dX2_handOversOf_1 : decode cX2_handOversOf 1 = .ok (.iload_n 1, 1) := by decide +kernel
theorem dX2_handOversOf_2 : decode cX2_handOversOf 2 = .ok (.invokevirtual 43, 3) := by decide +kernel
theorem dX2_handOversOf_5 : decode cX2_handOversOf 5 = .ok (.ifCond .eq 12, 3) := by decide +kernel
theorem dX2_handOversOf_8 : decode cX2_handOversOf 8 = .ok (.aload_n 0, 1) := by decide +kernel
theorem dX2_handOversOf_9 : decode cX2_handOversOf 9 = .ok (.getfield 26, 3) := by decide +kernel
theorem dX2_handOversOf_12 : decode cX2_handOversOf 12 = .ok (.iload_n 1, 1) := by decide +kernel
theorem dX2_handOversOf_13 : decode cX2_handOversOf 13 = .ok (.iaload, 1) := by decide +kernel
theorem dX2_handOversOf_14 : decode cX2_handOversOf 14 = .ok (.goto 4, 3) := by decide +kernel
theorem dX2_handOversOf_17 : decode cX2_handOversOf 17 = .ok (.iconst 0, 1) := by decide +kernel
theorem dX2_handOversOf_18 : decode cX2_handOversOf 18 = .ok (.ireturn, 1) := by decide +kernel
set_option maxRecDepth 20000 in
theorem ggX2_isAcknowledged_X2_hasLine : GoodIn wsX2_isAcknowledged wsX2_hasLine := goodIn_r _ [6, 7, 8, 9, 10, 11, 12, 13, 14, 15, 16] (by decide +kernel) (by decide +kernel)
set_option maxRecDepth 20000 in
theorem gX2_isAcknowledged_X2_hasLine : GoodIn wsX2_isAcknowledged (wsV RX2 43 RX2 yX2_hasLine wsX2_hasLine) := goodIn_app (goodIn_of _ (by decide +kernel)) ggX2_isAcknowledged_X2_hasLine
theorem dX2_isAcknowledged_0 : decode cX2_isAcknowledged 0 = .ok (.aload_n 0, 1) := by decide +kernel
theorem dX2_isAcknowledged_1 : decode cX2_isAcknowledged 1 = .ok (.iload_n 1, 1) := by decide +kernel
theorem dX2_isAcknowledged_2 : decode cX2_isAcknowledged 2 = .ok (.invokevirtual 43, 3) := by decide +kernel
theorem dX2_isAcknowledged_5 : decode cX2_isAcknowledged 5 = .ok (.ifCond .eq 16, 3) := by decide +kernel
theorem dX2_isAcknowledged_8 : decode cX2_isAcknowledged 8 = .ok (.aload_n 0, 1) := by decide +kernel
theorem dX2_isAcknowledged_9 : decode cX2_isAcknowledged 9 = .ok (.getfield 23, 3) := by decide +kernel
theorem dX2_isAcknowledged_12 : decode cX2_isAcknowledged 12 = .ok (.iload_n 1, 1) := by decide +kernel
theorem dX2_isAcknowledged_13 : decode cX2_isAcknowledged 13 = .ok (.baload, 1) := by decide +kernel
theorem dX2_isAcknowledged_14 : decode cX2_isAcknowledged 14 = .ok (.ifCond .eq 7, 3) := by decide +kernel
theorem dX2_isAcknowledged_17 : decode cX2_isAcknowledged 17 = .ok (.iconst 1, 1) := by decide +kernel
theorem dX2_isAcknowledged_18 : decode cX2_isAcknowledged 18 = .ok (.goto 4, 3) := by decide +kernel
theorem dX2_isAcknowledged_21 : decode cX2_isAcknowledged 21 = .ok (.iconst 0, 1) := by decide +kernel
theorem dX2_isAcknowledged_22 : decode cX2_isAcknowledged 22 = .ok (.ireturn, 1) := by decide +kernel
set_option maxRecDepth 20000 in
theorem ggX2_markAcknowledged_X2_hasLine : GoodIn wsX2_markAcknowledged wsX2_hasLine := goodIn_r _ [6, 7, 8, 9, 10, 11, 12, 13, 14, 15, 16] (by decide +kernel) (by decide +kernel)
set_option maxRecDepth 20000 in
theorem gX2_markAcknowledged_X2_hasLine : GoodIn wsX2_markAcknowledged (wsV RX2 43 RX2 yX2_hasLine wsX2_hasLine) := goodIn_app (goodIn_of _ (by decide +kernel)) ggX2_markAcknowledged_X2_hasLine
theorem dX2_markAcknowledged_0 : decode cX2_markAcknowledged 0 = .ok (.aload_n 0, 1) := by decide +kernel
theorem dX2_markAcknowledged_1 : decode cX2_markAcknowledged 1 = .ok (.iload_n 1, 1) := by decide +kernel
theorem dX2_markAcknowledged_2 : decode cX2_markAcknowledged 2 = .ok (.invokevirtual 43, 3) := by decide +kernel
theorem dX2_markAcknowledged_5 : decode cX2_markAcknowledged 5 = .ok (.ifCond .eq 10, 3) := by decide +kernel
theorem dX2_markAcknowledged_8 : decode cX2_markAcknowledged 8 = .ok (.aload_n 0, 1) := by decide +kernel
theorem dX2_markAcknowledged_9 : decode cX2_markAcknowledged 9 = .ok (.getfield 23, 3) := by decide +kernel
theorem dX2_markAcknowledged_12 : decode cX2_markAcknowledged 12 = .ok (.iload_n 1, 1) := by decide +kernel
theorem dX2_markAcknowledged_13 : decode cX2_markAcknowledged 13 = .ok (.iconst 1, 1) := by decide +kernel
theorem dX2_markAcknowledged_14 : decode cX2_markAcknowledged 14 = .ok (.bastore, 1) := by decide +kernel
theorem dX2_markAcknowledged_15 : decode cX2_markAcknowledged 15 = .ok (.return_, 1) := by decide +kernel
theorem dX2_forgetAcknowledged_0 : decode cX2_forgetAcknowledged 0 = .ok (.iconst 0, 1) := by decide +kernel
theorem dX2_forgetAcknowledged_1 : decode cX2_forgetAcknowledged 1 = .ok (.istore_n 1, 1) := by decide +kernel
theorem dX2_forgetAcknowledged_2 : decode cX2_forgetAcknowledged 2 = .ok (.iload_n 1, 1) := by decide +kernel
theorem dX2_forgetAcknowledged_3 : decode cX2_forgetAcknowledged 3 = .ok (.bipush 60, 2) := by decide +kernel
theorem dX2_forgetAcknowledged_5 : decode cX2_forgetAcknowledged 5 = .ok (.if_icmp .ge 16, 3) := by decide +kernel
theorem dX2_forgetAcknowledged_8 : decode cX2_forgetAcknowledged 8 = .ok (.aload_n 0, 1) := by decide +kernel
theorem dX2_forgetAcknowledged_9 : decode cX2_forgetAcknowledged 9 = .ok (.getfield 23, 3) := by decide +kernel
theorem dX2_forgetAcknowledged_12 : decode cX2_forgetAcknowledged 12 = .ok (.iload_n 1, 1) := by decide +kernel
theorem dX2_forgetAcknowledged_13 : decode cX2_forgetAcknowledged 13 = .ok (.iconst 0, 1) := by decide +kernel
theorem dX2_forgetAcknowledged_14 : decode cX2_forgetAcknowledged 14 = .ok (.bastore, 1) := by decide +kernel
theorem dX2_forgetAcknowledged_15 : decode cX2_forgetAcknowledged 15 = .ok (.iinc 1 1, 3) := by decide +kernel
theorem dX2_forgetAcknowledged_18 : decode cX2_forgetAcknowledged 18 = .ok (.goto (-16), 3) := by decide +kernel
theorem dX2_forgetAcknowledged_21 : decode cX2_forgetAcknowledged 21 = .ok (.return_, 1) := by decide +kernel
set_option maxRecDepth 20000 in
theorem ggX2_acknowledgedCount_X2_isOpen : GoodIn wsX2_acknowledgedCount wsX2_isOpen := goodIn_ca (goodIn_r _ [6, 7, 8, 9, 10, 5, 11, 12, 13, 14, 15, 16, 17, 18, 19, 20, 21] (by decide +kernel) (by decide +kernel)) (goodIn_sub (fun _ h => List.mem_cons_of_mem _ (List.mem_append_right _ h)) (by decide +kernel))
set_option maxRecDepth 20000 in
theorem gX2_acknowledgedCount_X2_isOpen : GoodIn wsX2_acknowledgedCount (wsV RX2 51 RX2 yX2_isOpen wsX2_isOpen) := goodIn_app (goodIn_of _ (by decide +kernel)) ggX2_acknowledgedCount_X2_isOpen
theorem dX2_acknowledgedCount_0 : decode cX2_acknowledgedCount 0 = .ok (.iconst 0, 1) := by decide +kernel
theorem dX2_acknowledgedCount_1 : decode cX2_acknowledgedCount 1 = .ok (.istore_n 1, 1) := by decide +kernel
theorem dX2_acknowledgedCount_2 : decode cX2_acknowledgedCount 2 = .ok (.iconst 0, 1) := by decide +kernel
theorem dX2_acknowledgedCount_3 : decode cX2_acknowledgedCount 3 = .ok (.istore_n 2, 1) := by decide +kernel
theorem dX2_acknowledgedCount_4 : decode cX2_acknowledgedCount 4 = .ok (.iload_n 2, 1) := by decide +kernel
theorem dX2_acknowledgedCount_5 : decode cX2_acknowledgedCount 5 = .ok (.bipush 60, 2) := by decide +kernel
theorem dX2_acknowledgedCount_7 : decode cX2_acknowledgedCount 7 = .ok (.if_icmp .ge 29, 3) := by decide +kernel
theorem dX2_acknowledgedCount_10 : decode cX2_acknowledgedCount 10 = .ok (.aload_n 0, 1) := by decide +kernel
theorem dX2_acknowledgedCount_11 : decode cX2_acknowledgedCount 11 = .ok (.iload_n 2, 1) := by decide +kernel
theorem dX2_acknowledgedCount_12 : decode cX2_acknowledgedCount 12 = .ok (.invokevirtual 51, 3) := by decide +kernel
theorem dX2_acknowledgedCount_15 : decode cX2_acknowledgedCount 15 = .ok (.ifCond .eq 15, 3) := by decide +kernel
theorem dX2_acknowledgedCount_18 : decode cX2_acknowledgedCount 18 = .ok (.aload_n 0, 1) := by decide +kernel
theorem dX2_acknowledgedCount_19 : decode cX2_acknowledgedCount 19 = .ok (.getfield 23, 3) := by decide +kernel
theorem dX2_acknowledgedCount_22 : decode cX2_acknowledgedCount 22 = .ok (.iload_n 2, 1) := by decide +kernel
theorem dX2_acknowledgedCount_23 : decode cX2_acknowledgedCount 23 = .ok (.baload, 1) := by decide +kernel
theorem dX2_acknowledgedCount_24 : decode cX2_acknowledgedCount 24 = .ok (.ifCond .eq 6, 3) := by decide +kernel
theorem dX2_acknowledgedCount_27 : decode cX2_acknowledgedCount 27 = .ok (.iinc 1 1, 3) := by decide +kernel
theorem dX2_acknowledgedCount_30 : decode cX2_acknowledgedCount 30 = .ok (.iinc 2 1, 3) := by decide +kernel
theorem dX2_acknowledgedCount_33 : decode cX2_acknowledgedCount 33 = .ok (.goto (-29), 3) := by decide +kernel
theorem dX2_acknowledgedCount_36 : decode cX2_acknowledgedCount 36 = .ok (.iload_n 1, 1) := by decide +kernel
theorem dX2_acknowledgedCount_37 : decode cX2_acknowledgedCount 37 = .ok (.ireturn, 1) := by decide +kernel
set_option maxRecDepth 20000 in
theorem ggX2_countHandOver_X2_isOpen : GoodIn wsX2_countHandOver wsX2_isOpen := goodIn_ca (goodIn_r _ [6, 7, 8, 9, 10, 5, 11, 12, 13, 14, 15, 16, 17, 18, 19, 20, 21] (by decide +kernel) (by decide +kernel)) (goodIn_sub (fun _ h => List.mem_cons_of_mem _ (List.mem_append_right _ h)) (by decide +kernel))
set_option maxRecDepth 20000 in
theorem gX2_countHandOver_X2_isOpen : GoodIn wsX2_countHandOver (wsV RX2 51 RX2 yX2_isOpen wsX2_isOpen) := goodIn_app (goodIn_of _ (by decide +kernel)) ggX2_countHandOver_X2_isOpen
theorem dX2_countHandOver_0 : decode cX2_countHandOver 0 = .ok (.iconst 0, 1) := by decide +kernel
theorem dX2_countHandOver_1 : decode cX2_countHandOver 1 = .ok (.istore_n 1, 1) := by decide +kernel
theorem dX2_countHandOver_2 : decode cX2_countHandOver 2 = .ok (.iload_n 1, 1) := by decide +kernel
theorem dX2_countHandOver_3 : decode cX2_countHandOver 3 = .ok (.bipush 60, 2) := by decide +kernel
theorem dX2_countHandOver_5 : decode cX2_countHandOver 5 = .ok (.if_icmp .ge 27, 3) := by decide +kernel
theorem dX2_countHandOver_8 : decode cX2_countHandOver 8 = .ok (.aload_n 0, 1) := by decide +kernel
theorem dX2_countHandOver_9 : decode cX2_countHandOver 9 = .ok (.iload_n 1, 1) := by decide +kernel
theorem dX2_countHandOver_10 : decode cX2_countHandOver 10 = .ok (.invokevirtual 51, 3) := by decide +kernel
theorem dX2_countHandOver_13 : decode cX2_countHandOver 13 = .ok (.ifCond .eq 13, 3) := by decide +kernel
theorem dX2_countHandOver_16 : decode cX2_countHandOver 16 = .ok (.aload_n 0, 1) := by decide +kernel
theorem dX2_countHandOver_17 : decode cX2_countHandOver 17 = .ok (.getfield 26, 3) := by decide +kernel
theorem dX2_countHandOver_20 : decode cX2_countHandOver 20 = .ok (.iload_n 1, 1) := by decide +kernel
theorem dX2_countHandOver_21 : decode cX2_countHandOver 21 = .ok (.dup2, 1) := by decide +kernel
theorem dX2_countHandOver_22 : decode cX2_countHandOver 22 = .ok (.iaload, 1) := by decide +kernel
theorem dX2_countHandOver_23 : decode cX2_countHandOver 23 = .ok (.iconst 1, 1) := by decide +kernel
theorem dX2_countHandOver_24 : decode cX2_countHandOver 24 = .ok (.iadd, 1) := by decide +kernel
theorem dX2_countHandOver_25 : decode cX2_countHandOver 25 = .ok (.iastore, 1) := by decide +kernel
theorem dX2_countHandOver_26 : decode cX2_countHandOver 26 = .ok (.iinc 1 1, 3) := by decide +kernel
theorem dX2_countHandOver_29 : decode cX2_countHandOver 29 = .ok (.goto (-27), 3) := by decide +kernel
theorem dX2_countHandOver_32 : decode cX2_countHandOver 32 = .ok (.return_, 1) := by decide +kernel
set_option maxRecDepth 20000 in
theorem ggX2_openLineAt_X2_isOpen : GoodIn wsX2_openLineAt wsX2_isOpen := goodIn_ca (goodIn_r _ [5, 6, 7, 8, 9, 4, 10, 11, 12, 13, 14, 15, 16, 17, 18, 19, 20] (by decide +kernel) (by decide +kernel)) (goodIn_sub (fun _ h => List.mem_cons_of_mem _ (List.mem_append_right _ h)) (by decide +kernel))
set_option maxRecDepth 20000 in
theorem gX2_openLineAt_X2_isOpen : GoodIn wsX2_openLineAt (wsV RX2 51 RX2 yX2_isOpen wsX2_isOpen) := goodIn_app (goodIn_of _ (by decide +kernel)) ggX2_openLineAt_X2_isOpen
theorem dX2_openLineAt_0 : decode cX2_openLineAt 0 = .ok (.iconst 0, 1) := by decide +kernel
theorem dX2_openLineAt_1 : decode cX2_openLineAt 1 = .ok (.istore_n 2, 1) := by decide +kernel
theorem dX2_openLineAt_2 : decode cX2_openLineAt 2 = .ok (.iconst 0, 1) := by decide +kernel
theorem dX2_openLineAt_3 : decode cX2_openLineAt 3 = .ok (.istore_n 3, 1) := by decide +kernel
theorem dX2_openLineAt_4 : decode cX2_openLineAt 4 = .ok (.iload_n 3, 1) := by decide +kernel
theorem dX2_openLineAt_5 : decode cX2_openLineAt 5 = .ok (.bipush 60, 2) := by decide +kernel
theorem dX2_openLineAt_7 : decode cX2_openLineAt 7 = .ok (.if_icmp .ge 27, 3) := by decide +kernel
theorem dX2_openLineAt_10 : decode cX2_openLineAt 10 = .ok (.aload_n 0, 1) := by decide +kernel
theorem dX2_openLineAt_11 : decode cX2_openLineAt 11 = .ok (.iload_n 3, 1) := by decide +kernel
theorem dX2_openLineAt_12 : decode cX2_openLineAt 12 = .ok (.invokevirtual 51, 3) := by decide +kernel
theorem dX2_openLineAt_15 : decode cX2_openLineAt 15 = .ok (.ifCond .eq 13, 3) := by decide +kernel
theorem dX2_openLineAt_18 : decode cX2_openLineAt 18 = .ok (.iload_n 2, 1) := by decide +kernel
theorem dX2_openLineAt_19 : decode cX2_openLineAt 19 = .ok (.iload_n 1, 1) := by decide +kernel
theorem dX2_openLineAt_20 : decode cX2_openLineAt 20 = .ok (.if_icmp .ne 5, 3) := by decide +kernel
theorem dX2_openLineAt_23 : decode cX2_openLineAt 23 = .ok (.iload_n 3, 1) := by decide +kernel
theorem dX2_openLineAt_24 : decode cX2_openLineAt 24 = .ok (.ireturn, 1) := by decide +kernel
theorem dX2_openLineAt_25 : decode cX2_openLineAt 25 = .ok (.iinc 2 1, 3) := by decide +kernel
theorem dX2_openLineAt_28 : decode cX2_openLineAt 28 = .ok (.iinc 3 1, 3) := by decide +kernel
theorem dX2_openLineAt_31 : decode cX2_openLineAt 31 = .ok (.goto (-27), 3) := by decide +kernel
theorem dX2_openLineAt_34 : decode cX2_openLineAt 34 = .ok (.iconst (-1), 1) := by decide +kernel
theorem dX2_openLineAt_35 : decode cX2_openLineAt 35 = .ok (.ireturn, 1) := by decide +kernel
set_option maxRecDepth 20000 in
theorem ggX2_sumOfAges_X2_isOpen : GoodIn wsX2_sumOfAges wsX2_isOpen := goodIn_ca (goodIn_r _ [6, 7, 8, 9, 10, 5, 11, 12, 13, 14, 15, 16, 17, 18, 19, 20, 21] (by decide +kernel) (by decide +kernel)) (goodIn_sub (fun _ h => List.mem_cons_of_mem _ (List.mem_append_right _ h)) (by decide +kernel))
set_option maxRecDepth 20000 in
theorem gX2_sumOfAges_X2_isOpen : GoodIn wsX2_sumOfAges (wsV RX2 51 RX2 yX2_isOpen wsX2_isOpen) := goodIn_app (goodIn_of _ (by decide +kernel)) ggX2_sumOfAges_X2_isOpen
theorem dX2_sumOfAges_0 : decode cX2_sumOfAges 0 = .ok (.iconst 0, 1) := by decide +kernel
theorem dX2_sumOfAges_1 : decode cX2_sumOfAges 1 = .ok (.istore_n 2, 1) := by decide +kernel
theorem dX2_sumOfAges_2 : decode cX2_sumOfAges 2 = .ok (.iconst 0, 1) := by decide +kernel
theorem dX2_sumOfAges_3 : decode cX2_sumOfAges 3 = .ok (.istore_n 3, 1) := by decide +kernel
theorem dX2_sumOfAges_4 : decode cX2_sumOfAges 4 = .ok (.iload_n 3, 1) := by decide +kernel
theorem dX2_sumOfAges_5 : decode cX2_sumOfAges 5 = .ok (.bipush 60, 2) := by decide +kernel
theorem dX2_sumOfAges_7 : decode cX2_sumOfAges 7 = .ok (.if_icmp .ge 28, 3) := by decide +kernel
theorem dX2_sumOfAges_10 : decode cX2_sumOfAges 10 = .ok (.aload_n 0, 1) := by decide +kernel
theorem dX2_sumOfAges_11 : decode cX2_sumOfAges 11 = .ok (.iload_n 3, 1) := by decide +kernel
theorem dX2_sumOfAges_12 : decode cX2_sumOfAges 12 = .ok (.invokevirtual 51, 3) := by decide +kernel
theorem dX2_sumOfAges_15 : decode cX2_sumOfAges 15 = .ok (.ifCond .eq 14, 3) := by decide +kernel
theorem dX2_sumOfAges_18 : decode cX2_sumOfAges 18 = .ok (.iload_n 2, 1) := by decide +kernel
theorem dX2_sumOfAges_19 : decode cX2_sumOfAges 19 = .ok (.iload_n 1, 1) := by decide +kernel
theorem dX2_sumOfAges_20 : decode cX2_sumOfAges 20 = .ok (.aload_n 0, 1) := by decide +kernel
theorem dX2_sumOfAges_21 : decode cX2_sumOfAges 21 = .ok (.getfield 15, 3) := by decide +kernel
theorem dX2_sumOfAges_24 : decode cX2_sumOfAges 24 = .ok (.iload_n 3, 1) := by decide +kernel
theorem dX2_sumOfAges_25 : decode cX2_sumOfAges 25 = .ok (.iaload, 1) := by decide +kernel
theorem dX2_sumOfAges_26 : decode cX2_sumOfAges 26 = .ok (.isub, 1) := by decide +kernel
theorem dX2_sumOfAges_27 : decode cX2_sumOfAges 27 = .ok (.iadd, 1) := by decide +kernel
theorem dX2_sumOfAges_28 : decode cX2_sumOfAges 28 = .ok (.istore_n 2, 1) := by decide +kernel
theorem dX2_sumOfAges_29 : decode cX2_sumOfAges 29 = .ok (.iinc 3 1, 3) := by decide +kernel
theorem dX2_sumOfAges_32 : decode cX2_sumOfAges 32 = .ok (.goto (-28), 3) := by decide +kernel
theorem dX2_sumOfAges_35 : decode cX2_sumOfAges 35 = .ok (.iload_n 2, 1) := by decide +kernel
theorem dX2_sumOfAges_36 : decode cX2_sumOfAges 36 = .ok (.ireturn, 1) := by decide +kernel
theorem dX3_init_0 : decode cX3_init 0 = .ok (.aload_n 0, 1) := by decide +kernel
theorem dX3_init_1 : decode cX3_init 1 = .ok (.invokespecial 3, 3) := by decide +kernel
theorem dX3_init_4 : decode cX3_init 4 = .ok (.aload_n 0, 1) := by decide +kernel
theorem dX3_init_5 : decode cX3_init 5 = .ok (.bipush 8, 2) := by decide +kernel
theorem dX3_init_7 : decode cX3_init 7 = .ok (.newarray .int, 2) := by decide +kernel
theorem dX3_init_9 : decode cX3_init 9 = .ok (.putfield 9, 3) := by decide +kernel
theorem dX3_init_12 : decode cX3_init 12 = .ok (.aload_n 0, 1) := by decide +kernel
theorem dX3_init_13 : decode cX3_init 13 = .ok (.bipush 8, 2) := by decide +kernel
theorem dX3_init_15 : decode cX3_init 15 = .ok (.newarray .int, 2) := by decide +kernel
theorem dX3_init_17 : decode cX3_init 17 = .ok (.putfield 15, 3) := by decide +kernel
theorem dX3_init_20 : decode cX3_init 20 = .ok (.aload_n 0, 1) := by decide +kernel
theorem dX3_init_21 : decode cX3_init 21 = .ok (.bipush 8, 2) := by decide +kernel
theorem dX3_init_23 : decode cX3_init 23 = .ok (.newarray .boolean, 2) := by decide +kernel
theorem dX3_init_25 : decode cX3_init 25 = .ok (.putfield 18, 3) := by decide +kernel
theorem dX3_init_28 : decode cX3_init 28 = .ok (.return_, 1) := by decide +kernel
theorem dX3_isFull_0 : decode cX3_isFull 0 = .ok (.aload_n 0, 1) := by decide +kernel
theorem dX3_isFull_1 : decode cX3_isFull 1 = .ok (.getfield 22, 3) := by decide +kernel
theorem dX3_isFull_4 : decode cX3_isFull 4 = .ok (.bipush 8, 2) := by decide +kernel
theorem dX3_isFull_6 : decode cX3_isFull 6 = .ok (.if_icmp .lt 7, 3) := by decide +kernel
theorem dX3_isFull_9 : decode cX3_isFull 9 = .ok (.iconst 1, 1) := by decide +kernel
theorem dX3_isFull_10 : decode cX3_isFull 10 = .ok (.goto 4, 3) := by decide +kernel
theorem dX3_isFull_13 : decode cX3_isFull 13 = .ok (.iconst 0, 1) := by decide +kernel
theorem dX3_isFull_14 : decode cX3_isFull 14 = .ok (.ireturn, 1) := by decide +kernel
theorem dX3_hasPermit_0 : decode cX3_hasPermit 0 = .ok (.iload_n 1, 1) := by decide +kernel
theorem dX3_hasPermit_1 : decode cX3_hasPermit 1 = .ok (.ifCond .lt 21, 3) := by decide +kernel
theorem dX3_hasPermit_4 : decode cX3_hasPermit 4 = .ok (.iload_n 1, 1) := by decide +kernel
theorem dX3_hasPermit_5 : decode cX3_hasPermit 5 = .ok (.aload_n 0, 1) := by decide +kernel
theorem dX3_hasPermit_6 : decode cX3_hasPermit 6 = .ok (.getfield 22, 3) := by decide +kernel
theorem dX3_hasPermit_9 : decode cX3_hasPermit 9 = .ok (.if_icmp .ge 13, 3) := by decide +kernel
theorem dX3_hasPermit_12 : decode cX3_hasPermit 12 = .ok (.iload_n 1, 1) := by decide +kernel
theorem dX3_hasPermit_13 : decode cX3_hasPermit 13 = .ok (.bipush 8, 2) := by decide +kernel
theorem dX3_hasPermit_15 : decode cX3_hasPermit 15 = .ok (.if_icmp .ge 7, 3) := by decide +kernel
theorem dX3_hasPermit_18 : decode cX3_hasPermit 18 = .ok (.iconst 1, 1) := by decide +kernel
theorem dX3_hasPermit_19 : decode cX3_hasPermit 19 = .ok (.goto 4, 3) := by decide +kernel
theorem dX3_hasPermit_22 : decode cX3_hasPermit 22 = .ok (.iconst 0, 1) := by decide +kernel
theorem dX3_hasPermit_23 : decode cX3_hasPermit 23 = .ok (.ireturn, 1) := by decide +kernel
set_option maxRecDepth 20000 in
theorem ggX3_append_X3_hasPermit : GoodIn wsX3_append wsX3_hasPermit := goodIn_r _ [9, 1, 10, 11, 12, 13] (by decide +kernel) (by decide +kernel)
set_option maxRecDepth 20000 in
theorem gX3_append_X3_hasPermit : GoodIn wsX3_append (wsV RX3 26 RX3 yX3_hasPermit wsX3_hasPermit) := goodIn_app (goodIn_of _ (by decide +kernel)) ggX3_append_X3_hasPermit
theorem dX3_append_0 : decode cX3_append 0 = .ok (.aload_n 0, 1) := by decide +kernel
theorem dX3_append_1 : decode cX3_append 1 = .ok (.getfield 22, 3) := by decide +kernel
theorem dX3_append_4 : decode cX3_append 4 = .ok (.istore_n 3, 1) := by decide +kernel
theorem dX3_append_5 : decode cX3_append 5 = .ok (.aload_n 0, 1) := by decide +kernel
theorem dX3_append_6 : decode cX3_append 6 = .ok (.dup, 1) := by decide +kernel
theorem dX3_append_7 : decode cX3_append 7 = .ok (.getfield 22, 3) := by decide +kernel
theorem dX3_append_10 : decode cX3_append 10 = .ok (.iconst 1, 1) := by decide +kernel
theorem dX3_append_11 : decode cX3_append 11 = .ok (.iadd, 1) := by decide +kernel
theorem dX3_append_12 : decode cX3_append 12 = .ok (.putfield 22, 3) := by decide +kernel
theorem dX3_append_15 : decode cX3_append 15 = .ok (.aload_n 0, 1) := by decide +kernel
theorem dX3_append_16 : decode cX3_append 16 = .ok (.iload_n 3, 1) := by decide +kernel
theorem dX3_append_17 : decode cX3_append 17 = .ok (.invokevirtual 26, 3) := by decide +kernel
theorem dX3_append_20 : decode cX3_append 20 = .ok (.ifCond .eq 24, 3) := by decide +kernel
theorem dX3_append_23 : decode cX3_append 23 = .ok (.aload_n 0, 1) := by decide +kernel
theorem dX3_append_24 : decode cX3_append 24 = .ok (.getfield 9, 3) := by decide +kernel
theorem dX3_append_27 : decode cX3_append 27 = .ok (.iload_n 3, 1) := by decide +kernel
theorem dX3_append_28 : decode cX3_append 28 = .ok (.iload_n 1, 1) := by decide +kernel
theorem dX3_append_29 : decode cX3_append 29 = .ok (.iastore, 1) := by decide +kernel
theorem dX3_append_30 : decode cX3_append 30 = .ok (.aload_n 0, 1) := by decide +kernel
theorem dX3_append_31 : decode cX3_append 31 = .ok (.getfield 15, 3) := by decide +kernel
theorem dX3_append_34 : decode cX3_append 34 = .ok (.iload_n 3, 1) := by decide +kernel
theorem dX3_append_35 : decode cX3_append 35 = .ok (.iload_n 2, 1) := by decide +kernel
theorem dX3_append_36 : decode cX3_append 36 = .ok (.iastore, 1) := by decide +kernel
theorem dX3_append_37 : decode cX3_append 37 = .ok (.aload_n 0, 1) := by decide +kernel
theorem dX3_append_38 : decode cX3_append 38 = .ok (.getfield 18, 3) := by decide +kernel
theorem dX3_append_41 : decode cX3_append 41 = .ok (.iload_n 3, 1) := by decide +kernel
theorem dX3_append_42 : decode cX3_append 42 = .ok (.iconst 1, 1) := by decide +kernel
theorem dX3_append_43 : decode cX3_append 43 = .ok (.bastore, 1) := by decide +kernel
theorem dX3_append_44 : decode cX3_append 44 = .ok (.iload_n 3, 1) := by decide +kernel
theorem dX3_append_45 : decode cX3_append 45 = .ok (.ireturn, 1) := by decide +kernel
set_option maxRecDepth 20000 in
theorem ggX3_isOpen_X3_hasPermit : GoodIn wsX3_isOpen wsX3_hasPermit := goodIn_r _ [6, 7, 8, 9, 10, 11] (by decide +kernel) (by decide +kernel)
set_option maxRecDepth 20000 in
theorem gX3_isOpen_X3_hasPermit : GoodIn wsX3_isOpen (wsV RX3 26 RX3 yX3_hasPermit wsX3_hasPermit) := goodIn_app (goodIn_of _ (by decide +kernel)) ggX3_isOpen_X3_hasPermit
theorem dX3_isOpen_0 : decode cX3_isOpen 0 = .ok (.aload_n 0, 1) := by decide +kernel
theorem dX3_isOpen_1 : decode cX3_isOpen 1 = .ok (.iload_n 1, 1) := by decide +kernel
theorem dX3_isOpen_2 : decode cX3_isOpen 2 = .ok (.invokevirtual 26, 3) := by decide +kernel
theorem dX3_isOpen_5 : decode cX3_isOpen 5 = .ok (.ifCond .eq 16, 3) := by decide +kernel
theorem dX3_isOpen_8 : decode cX3_isOpen 8 = .ok (.aload_n 0, 1) := by decide +kernel
theorem dX3_isOpen_9 : decode cX3_isOpen 9 = .ok (.getfield 18, 3) := by decide +kernel
theorem dX3_isOpen_12 : decode cX3_isOpen 12 = .ok (.iload_n 1, 1) := by decide +kernel
theorem dX3_isOpen_13 : decode cX3_isOpen 13 = .ok (.baload, 1) := by decide +kernel
theorem dX3_isOpen_14 : decode cX3_isOpen 14 = .ok (.ifCond .eq 7, 3) := by decide +kernel
theorem dX3_isOpen_17 : decode cX3_isOpen 17 = .ok (.iconst 1, 1) := by decide +kernel
theorem dX3_isOpen_18 : decode cX3_isOpen 18 = .ok (.goto 4, 3) := by decide +kernel
theorem dX3_isOpen_21 : decode cX3_isOpen 21 = .ok (.iconst 0, 1) := by decide +kernel
theorem dX3_isOpen_22 : decode cX3_isOpen 22 = .ok (.ireturn, 1) := by decide +kernel
set_option maxRecDepth 20000 in
theorem ggX3_lineOf_X3_hasPermit : GoodIn wsX3_lineOf wsX3_hasPermit := goodIn_r _ [6, 7, 8, 9, 10, 11] (by decide +kernel) (by decide +kernel)
set_option maxRecDepth 20000 in
theorem gX3_lineOf_X3_hasPermit : GoodIn wsX3_lineOf (wsV RX3 26 RX3 yX3_hasPermit wsX3_hasPermit) := goodIn_app (goodIn_of _ (by decide +kernel)) ggX3_lineOf_X3_hasPermit
theorem dX3_lineOf_0 : decode cX3_lineOf 0 = .ok (.aload_n 0, 1) := by decide +kernel
theorem dX3_lineOf_1 : decode cX3_lineOf 1 = .ok (.iload_n 1, 1) := by decide +kernel
theorem dX3_lineOf_2 : decode cX3_lineOf 2 = .ok (.invokevirtual 26, 3) := by decide +kernel
theorem dX3_lineOf_5 : decode cX3_lineOf 5 = .ok (.ifCond .eq 12, 3) := by decide +kernel
theorem dX3_lineOf_8 : decode cX3_lineOf 8 = .ok (.aload_n 0, 1) := by decide +kernel
theorem dX3_lineOf_9 : decode cX3_lineOf 9 = .ok (.getfield 15, 3) := by decide +kernel
theorem dX3_lineOf_12 : decode cX3_lineOf 12 = .ok (.iload_n 1, 1) := by decide +kernel
theorem dX3_lineOf_13 : decode cX3_lineOf 13 = .ok (.iaload, 1) := by decide +kernel
theorem dX3_lineOf_14 : decode cX3_lineOf 14 = .ok (.goto 4, 3) := by decide +kernel
theorem dX3_lineOf_17 : decode cX3_lineOf 17 = .ok (.iconst (-1), 1) := by decide +kernel
theorem dX3_lineOf_18 : decode cX3_lineOf 18 = .ok (.ireturn, 1) := by decide +kernel
set_option maxRecDepth 20000 in
theorem ggX3_shut_X3_hasPermit : GoodIn wsX3_shut wsX3_hasPermit := goodIn_r _ [6, 7, 8, 9, 10, 11] (by decide +kernel) (by decide +kernel)
set_option maxRecDepth 20000 in
theorem gX3_shut_X3_hasPermit : GoodIn wsX3_shut (wsV RX3 26 RX3 yX3_hasPermit wsX3_hasPermit) := goodIn_app (goodIn_of _ (by decide +kernel)) ggX3_shut_X3_hasPermit
theorem dX3_shut_0 : decode cX3_shut 0 = .ok (.aload_n 0, 1) := by decide +kernel
theorem dX3_shut_1 : decode cX3_shut 1 = .ok (.iload_n 1, 1) := by decide +kernel
theorem dX3_shut_2 : decode cX3_shut 2 = .ok (.invokevirtual 26, 3) := by decide +kernel
theorem dX3_shut_5 : decode cX3_shut 5 = .ok (.ifCond .eq 10, 3) := by decide +kernel
theorem dX3_shut_8 : decode cX3_shut 8 = .ok (.aload_n 0, 1) := by decide +kernel
theorem dX3_shut_9 : decode cX3_shut 9 = .ok (.getfield 18, 3) := by decide +kernel
theorem dX3_shut_12 : decode cX3_shut 12 = .ok (.iload_n 1, 1) := by decide +kernel
theorem dX3_shut_13 : decode cX3_shut 13 = .ok (.iconst 0, 1) := by decide +kernel
theorem dX3_shut_14 : decode cX3_shut 14 = .ok (.bastore, 1) := by decide +kernel
theorem dX3_shut_15 : decode cX3_shut 15 = .ok (.return_, 1) := by decide +kernel
set_option maxRecDepth 20000 in
theorem ggX3_firstOpenWith_X3_isOpen : GoodIn wsX3_firstOpenWith wsX3_isOpen := goodIn_ca (goodIn_r _ [6, 7, 8, 9, 10, 5, 11, 12, 13, 14, 15, 16] (by decide +kernel) (by decide +kernel)) (goodIn_sub (fun _ h => List.mem_cons_of_mem _ (List.mem_append_right _ h)) (by decide +kernel))
set_option maxRecDepth 20000 in
theorem gX3_firstOpenWith_X3_isOpen : GoodIn wsX3_firstOpenWith (wsV RX3 30 RX3 yX3_isOpen wsX3_isOpen) := goodIn_app (goodIn_of _ (by decide +kernel)) ggX3_firstOpenWith_X3_isOpen
theorem dX3_firstOpenWith_0 : decode cX3_firstOpenWith 0 = .ok (.iconst 0, 1) := by decide +kernel
theorem dX3_firstOpenWith_1 : decode cX3_firstOpenWith 1 = .ok (.istore_n 2, 1) := by decide +kernel
theorem dX3_firstOpenWith_2 : decode cX3_firstOpenWith 2 = .ok (.iload_n 2, 1) := by decide +kernel
theorem dX3_firstOpenWith_3 : decode cX3_firstOpenWith 3 = .ok (.bipush 8, 2) := by decide +kernel
theorem dX3_firstOpenWith_5 : decode cX3_firstOpenWith 5 = .ok (.if_icmp .ge 30, 3) := by decide +kernel
theorem dX3_firstOpenWith_8 : decode cX3_firstOpenWith 8 = .ok (.aload_n 0, 1) := by decide +kernel
theorem dX3_firstOpenWith_9 : decode cX3_firstOpenWith 9 = .ok (.iload_n 2, 1) := by decide +kernel
theorem dX3_firstOpenWith_10 : decode cX3_firstOpenWith 10 = .ok (.invokevirtual 30, 3) := by decide +kernel
theorem dX3_firstOpenWith_13 : decode cX3_firstOpenWith 13 = .ok (.ifCond .eq 16, 3) := by decide +kernel
theorem dX3_firstOpenWith_16 : decode cX3_firstOpenWith 16 = .ok (.aload_n 0, 1) := by decide +kernel
theorem dX3_firstOpenWith_17 : decode cX3_firstOpenWith 17 = .ok (.getfield 9, 3) := by decide +kernel
theorem dX3_firstOpenWith_20 : decode cX3_firstOpenWith 20 = .ok (.iload_n 2, 1) := by decide +kernel
theorem dX3_firstOpenWith_21 : decode cX3_firstOpenWith 21 = .ok (.iaload, 1) := by decide +kernel
theorem dX3_firstOpenWith_22 : decode cX3_firstOpenWith 22 = .ok (.iload_n 1, 1) := by decide +kernel
theorem dX3_firstOpenWith_23 : decode cX3_firstOpenWith 23 = .ok (.iand, 1) := by decide +kernel
theorem dX3_firstOpenWith_24 : decode cX3_firstOpenWith 24 = .ok (.ifCond .eq 5, 3) := by decide +kernel
theorem dX3_firstOpenWith_27 : decode cX3_firstOpenWith 27 = .ok (.iload_n 2, 1) := by decide +kernel
theorem dX3_firstOpenWith_28 : decode cX3_firstOpenWith 28 = .ok (.ireturn, 1) := by decide +kernel
theorem dX3_firstOpenWith_29 : decode cX3_firstOpenWith 29 = .ok (.iinc 2 1, 3) := by decide +kernel
theorem dX3_firstOpenWith_32 : decode cX3_firstOpenWith 32 = .ok (.goto (-30), 3) := by decide +kernel
theorem dX3_firstOpenWith_35 : decode cX3_firstOpenWith 35 = .ok (.iconst (-1), 1) := by decide +kernel
theorem dX3_firstOpenWith_36 : decode cX3_firstOpenWith 36 = .ok (.ireturn, 1) := by decide +kernel
set_option maxRecDepth 20000 in
theorem ggX3_areOpenApart_X3_isOpen : GoodIn wsX3_areOpenApart wsX3_isOpen := goodIn_ca (goodIn_r _ [6, 7, 8, 9, 10, 5, 11, 12, 13, 14, 15, 16] (by decide +kernel) (by decide +kernel)) (goodIn_sub (fun _ h => List.mem_cons_of_mem _ (List.mem_append_right _ h)) (by decide +kernel))
set_option maxRecDepth 20000 in
theorem gX3_areOpenApart_X3_isOpen : GoodIn wsX3_areOpenApart (wsV RX3 30 RX3 yX3_isOpen wsX3_isOpen) := goodIn_app (goodIn_of _ (by decide +kernel)) ggX3_areOpenApart_X3_isOpen
theorem dX3_areOpenApart_0 : decode cX3_areOpenApart 0 = .ok (.iconst 0, 1) := by decide +kernel
theorem dX3_areOpenApart_1 : decode cX3_areOpenApart 1 = .ok (.istore_n 1, 1) := by decide +kernel
theorem dX3_areOpenApart_2 : decode cX3_areOpenApart 2 = .ok (.iconst 0, 1) := by decide +kernel
theorem dX3_areOpenApart_3 : decode cX3_areOpenApart 3 = .ok (.istore_n 2, 1) := by decide +kernel
theorem dX3_areOpenApart_4 : decode cX3_areOpenApart 4 = .ok (.iload_n 2, 1) := by decide +kernel
theorem dX3_areOpenApart_5 : decode cX3_areOpenApart 5 = .ok (.bipush 8, 2) := by decide +kernel
theorem dX3_areOpenApart_7 : decode cX3_areOpenApart 7 = .ok (.if_icmp .ge 39, 3) := by decide +kernel
theorem dX3_areOpenApart_10 : decode cX3_areOpenApart 10 = .ok (.aload_n 0, 1) := by decide +kernel
theorem dX3_areOpenApart_11 : decode cX3_areOpenApart 11 = .ok (.iload_n 2, 1) := by decide +kernel
theorem dX3_areOpenApart_12 : decode cX3_areOpenApart 12 = .ok (.invokevirtual 30, 3) := by decide +kernel
theorem dX3_areOpenApart_15 : decode cX3_areOpenApart 15 = .ok (.ifCond .eq 25, 3) := by decide +kernel
theorem dX3_areOpenApart_18 : decode cX3_areOpenApart 18 = .ok (.aload_n 0, 1) := by decide +kernel
theorem dX3_areOpenApart_19 : decode cX3_areOpenApart 19 = .ok (.getfield 9, 3) := by decide +kernel
theorem dX3_areOpenApart_22 : decode cX3_areOpenApart 22 = .ok (.iload_n 2, 1) := by decide +kernel
theorem dX3_areOpenApart_23 : decode cX3_areOpenApart 23 = .ok (.iaload, 1) := by decide +kernel
theorem dX3_areOpenApart_24 : decode cX3_areOpenApart 24 = .ok (.iload_n 1, 1) := by decide +kernel
theorem dX3_areOpenApart_25 : decode cX3_areOpenApart 25 = .ok (.iand, 1) := by decide +kernel
theorem dX3_areOpenApart_26 : decode cX3_areOpenApart 26 = .ok (.ifCond .eq 5, 3) := by decide +kernel
theorem dX3_areOpenApart_29 : decode cX3_areOpenApart 29 = .ok (.iconst 0, 1) := by decide +kernel
theorem dX3_areOpenApart_30 : decode cX3_areOpenApart 30 = .ok (.ireturn, 1) := by decide +kernel
theorem dX3_areOpenApart_31 : decode cX3_areOpenApart 31 = .ok (.iload_n 1, 1) := by decide +kernel
theorem dX3_areOpenApart_32 : decode cX3_areOpenApart 32 = .ok (.aload_n 0, 1) := by decide +kernel
theorem dX3_areOpenApart_33 : decode cX3_areOpenApart 33 = .ok (.getfield 9, 3) := by decide +kernel
theorem dX3_areOpenApart_36 : decode cX3_areOpenApart 36 = .ok (.iload_n 2, 1) := by decide +kernel
theorem dX3_areOpenApart_37 : decode cX3_areOpenApart 37 = .ok (.iaload, 1) := by decide +kernel
theorem dX3_areOpenApart_38 : decode cX3_areOpenApart 38 = .ok (.ior, 1) := by decide +kernel
theorem dX3_areOpenApart_39 : decode cX3_areOpenApart 39 = .ok (.istore_n 1, 1) := by decide +kernel
theorem dX3_areOpenApart_40 : decode cX3_areOpenApart 40 = .ok (.iinc 2 1, 3) := by decide +kernel
theorem dX3_areOpenApart_43 : decode cX3_areOpenApart 43 = .ok (.goto (-39), 3) := by decide +kernel
theorem dX3_areOpenApart_46 : decode cX3_areOpenApart 46 = .ok (.iconst 1, 1) := by decide +kernel
theorem dX3_areOpenApart_47 : decode cX3_areOpenApart 47 = .ok (.ireturn, 1) := by decide +kernel
theorem dX4_init_0 : decode cX4_init 0 = .ok (.aload_n 0, 1) := by decide +kernel
theorem dX4_init_1 : decode cX4_init 1 = .ok (.invokespecial 3, 3) := by decide +kernel
theorem dX4_init_4 : decode cX4_init 4 = .ok (.aload_n 0, 1) := by decide +kernel
theorem dX4_init_5 : decode cX4_init 5 = .ok (.bipush 6, 2) := by decide +kernel
theorem dX4_init_7 : decode cX4_init 7 = .ok (.newarray .int, 2) := by decide +kernel
theorem dX4_init_9 : decode cX4_init 9 = .ok (.putfield 9, 3) := by decide +kernel
theorem dX4_init_12 : decode cX4_init 12 = .ok (.aload_n 0, 1) := by decide +kernel
theorem dX4_init_13 : decode cX4_init 13 = .ok (.bipush 6, 2) := by decide +kernel
theorem dX4_init_15 : decode cX4_init 15 = .ok (.newarray .int, 2) := by decide +kernel
theorem dX4_init_17 : decode cX4_init 17 = .ok (.putfield 15, 3) := by decide +kernel
theorem dX4_init_20 : decode cX4_init 20 = .ok (.aload_n 0, 1) := by decide +kernel
theorem dX4_init_21 : decode cX4_init 21 = .ok (.bipush 48, 2) := by decide +kernel
theorem dX4_init_23 : decode cX4_init 23 = .ok (.newarray .int, 2) := by decide +kernel
theorem dX4_init_25 : decode cX4_init 25 = .ok (.putfield 18, 3) := by decide +kernel
theorem dX4_init_28 : decode cX4_init 28 = .ok (.aload_n 0, 1) := by decide +kernel
theorem dX4_init_29 : decode cX4_init 29 = .ok (.bipush 48, 2) := by decide +kernel
theorem dX4_init_31 : decode cX4_init 31 = .ok (.newarray .int, 2) := by decide +kernel
theorem dX4_init_33 : decode cX4_init 33 = .ok (.putfield 21, 3) := by decide +kernel
theorem dX4_init_36 : decode cX4_init 36 = .ok (.aload_n 0, 1) := by decide +kernel
theorem dX4_init_37 : decode cX4_init 37 = .ok (.bipush 48, 2) := by decide +kernel
theorem dX4_init_39 : decode cX4_init 39 = .ok (.newarray .int, 2) := by decide +kernel
theorem dX4_init_41 : decode cX4_init 41 = .ok (.putfield 24, 3) := by decide +kernel
theorem dX4_init_44 : decode cX4_init 44 = .ok (.aload_n 0, 1) := by decide +kernel
theorem dX4_init_45 : decode cX4_init 45 = .ok (.bipush 48, 2) := by decide +kernel
theorem dX4_init_47 : decode cX4_init 47 = .ok (.newarray .int, 2) := by decide +kernel
theorem dX4_init_49 : decode cX4_init 49 = .ok (.putfield 27, 3) := by decide +kernel
theorem dX4_init_52 : decode cX4_init 52 = .ok (.aload_n 0, 1) := by decide +kernel
theorem dX4_init_53 : decode cX4_init 53 = .ok (.bipush 48, 2) := by decide +kernel
theorem dX4_init_55 : decode cX4_init 55 = .ok (.newarray .int, 2) := by decide +kernel
theorem dX4_init_57 : decode cX4_init 57 = .ok (.putfield 30, 3) := by decide +kernel
theorem dX4_init_60 : decode cX4_init 60 = .ok (.aload_n 0, 1) := by decide +kernel
theorem dX4_init_61 : decode cX4_init 61 = .ok (.bipush 48, 2) := by decide +kernel
theorem dX4_init_63 : decode cX4_init 63 = .ok (.newarray .int, 2) := by decide +kernel
theorem dX4_init_65 : decode cX4_init 65 = .ok (.putfield 33, 3) := by decide +kernel
theorem dX4_init_68 : decode cX4_init 68 = .ok (.aload_n 0, 1) := by decide +kernel
theorem dX4_init_69 : decode cX4_init 69 = .ok (.bipush 48, 2) := by decide +kernel
theorem dX4_init_71 : decode cX4_init 71 = .ok (.newarray .int, 2) := by decide +kernel
theorem dX4_init_73 : decode cX4_init 73 = .ok (.putfield 36, 3) := by decide +kernel
theorem dX4_init_76 : decode cX4_init 76 = .ok (.return_, 1) := by decide +kernel
theorem dX4_isFull_0 : decode cX4_isFull 0 = .ok (.aload_n 0, 1) := by decide +kernel
theorem dX4_isFull_1 : decode cX4_isFull 1 = .ok (.getfield 39, 3) := by decide +kernel
theorem dX4_isFull_4 : decode cX4_isFull 4 = .ok (.bipush 6, 2) := by decide +kernel
theorem dX4_isFull_6 : decode cX4_isFull 6 = .ok (.if_icmp .lt 7, 3) := by decide +kernel
theorem dX4_isFull_9 : decode cX4_isFull 9 = .ok (.iconst 1, 1) := by decide +kernel
theorem dX4_isFull_10 : decode cX4_isFull 10 = .ok (.goto 4, 3) := by decide +kernel
theorem dX4_isFull_13 : decode cX4_isFull 13 = .ok (.iconst 0, 1) := by decide +kernel
theorem dX4_isFull_14 : decode cX4_isFull 14 = .ok (.ireturn, 1) := by decide +kernel
theorem dX4_hasProcedure_0 : decode cX4_hasProcedure 0 = .ok (.iload_n 1, 1) := by decide +kernel
theorem dX4_hasProcedure_1 : decode cX4_hasProcedure 1 = .ok (.ifCond .lt 21, 3) := by decide +kernel
theorem dX4_hasProcedure_4 : decode cX4_hasProcedure 4 = .ok (.iload_n 1, 1) := by decide +kernel
theorem dX4_hasProcedure_5 : decode cX4_hasProcedure 5 = .ok (.aload_n 0, 1) := by decide +kernel
theorem dX4_hasProcedure_6 : decode cX4_hasProcedure 6 = .ok (.getfield 39, 3) := by decide +kernel
theorem dX4_hasProcedure_9 : decode cX4_hasProcedure 9 = .ok (.if_icmp .ge 13, 3) := by decide +kernel
theorem dX4_hasProcedure_12 : decode cX4_hasProcedure 12 = .ok (.iload_n 1, 1) := by decide +kernel
theorem dX4_hasProcedure_13 : decode cX4_hasProcedure 13 = .ok (.bipush 6, 2) := by decide +kernel
theorem dX4_hasProcedure_15 : decode cX4_hasProcedure 15 = .ok (.if_icmp .ge 7, 3) := by decide +kernel
theorem dX4_hasProcedure_18 : decode cX4_hasProcedure 18 = .ok (.iconst 1, 1) := by decide +kernel
theorem dX4_hasProcedure_19 : decode cX4_hasProcedure 19 = .ok (.goto 4, 3) := by decide +kernel
theorem dX4_hasProcedure_22 : decode cX4_hasProcedure 22 = .ok (.iconst 0, 1) := by decide +kernel
theorem dX4_hasProcedure_23 : decode cX4_hasProcedure 23 = .ok (.ireturn, 1) := by decide +kernel
theorem dX4_append_0 : decode cX4_append 0 = .ok (.aload_n 0, 1) := by decide +kernel
theorem dX4_append_1 : decode cX4_append 1 = .ok (.getfield 39, 3) := by decide +kernel
theorem dX4_append_4 : decode cX4_append 4 = .ok (.istore_n 1, 1) := by decide +kernel
theorem dX4_append_5 : decode cX4_append 5 = .ok (.aload_n 0, 1) := by decide +kernel
theorem dX4_append_6 : decode cX4_append 6 = .ok (.dup, 1) := by decide +kernel
theorem dX4_append_7 : decode cX4_append 7 = .ok (.getfield 39, 3) := by decide +kernel
theorem dX4_append_10 : decode cX4_append 10 = .ok (.iconst 1, 1) := by decide +kernel
theorem dX4_append_11 : decode cX4_append 11 = .ok (.iadd, 1) := by decide +kernel
theorem dX4_append_12 : decode cX4_append 12 = .ok (.putfield 39, 3) := by decide +kernel
theorem dX4_append_15 : decode cX4_append 15 = .ok (.iload_n 1, 1) := by decide +kernel
theorem dX4_append_16 : decode cX4_append 16 = .ok (.ireturn, 1) := by decide +kernel
set_option maxRecDepth 20000 in
theorem ggX4_appendStep_X4_hasProcedure : GoodIn wsX4_appendStep wsX4_hasProcedure := goodIn_r _ [8, 9, 16, 17, 18, 19, 20, 21, 22, 23, 24, 25] (by decide +kernel) (by decide +kernel)
set_option maxRecDepth 20000 in
theorem gX4_appendStep_X4_hasProcedure : GoodIn wsX4_appendStep (wsV RX4 43 RX4 yX4_hasProcedure wsX4_hasProcedure) := goodIn_app (goodIn_of _ (by decide +kernel)) ggX4_appendStep_X4_hasProcedure
set_option maxRecDepth 20000 in
theorem ggX4_appendStep_X5_stepPlace : GoodIn wsX4_appendStep wsX5_stepPlace := goodIn_r _ [12] (by decide +kernel) (by decide +kernel)
set_option maxRecDepth 20000 in
theorem gX4_appendStep_X5_stepPlace_n47 : GoodIn wsX4_appendStep (wsX5_stepPlace) := ggX4_appendStep_X5_stepPlace
set_option maxRecDepth 20000 in
theorem ggX4_appendStep_X4_isPlace : GoodIn wsX4_appendStep wsX4_isPlace := goodIn_r _ [15] (by decide +kernel) (by decide +kernel)
set_option maxRecDepth 20000 in
theorem gX4_appendStep_X4_isPlace : GoodIn wsX4_appendStep (va_wsS RX4 51 yX4_isPlace wsX4_isPlace) := goodIn_app (goodIn_of _ (by decide +kernel)) ggX4_appendStep_X4_isPlace
theorem dX4_appendStep_0 : decode cX4_appendStep 0 = .ok (.aload_n 0, 1) := by decide +kernel
theorem dX4_appendStep_1 : decode cX4_appendStep 1 = .ok (.iload_n 1, 1) := by decide +kernel
theorem dX4_appendStep_2 : decode cX4_appendStep 2 = .ok (.invokevirtual 43, 3) := by decide +kernel
theorem dX4_appendStep_5 : decode cX4_appendStep 5 = .ok (.ifCond .eq 14, 3) := by decide +kernel
theorem dX4_appendStep_8 : decode cX4_appendStep 8 = .ok (.aload_n 0, 1) := by decide +kernel
theorem dX4_appendStep_9 : decode cX4_appendStep 9 = .ok (.getfield 9, 3) := by decide +kernel
theorem dX4_appendStep_12 : decode cX4_appendStep 12 = .ok (.iload_n 1, 1) := by decide +kernel
theorem dX4_appendStep_13 : decode cX4_appendStep 13 = .ok (.iaload, 1) := by decide +kernel
theorem dX4_appendStep_14 : decode cX4_appendStep 14 = .ok (.bipush 8, 2) := by decide +kernel
theorem dX4_appendStep_16 : decode cX4_appendStep 16 = .ok (.if_icmp .lt 5, 3) := by decide +kernel
theorem dX4_appendStep_19 : decode cX4_appendStep 19 = .ok (.iconst (-1), 1) := by decide +kernel
theorem dX4_appendStep_20 : decode cX4_appendStep 20 = .ok (.ireturn, 1) := by decide +kernel
theorem dX4_appendStep_21 : decode cX4_appendStep 21 = .ok (.iload_n 1, 1) := by decide +kernel
theorem dX4_appendStep_22 : decode cX4_appendStep 22 = .ok (.aload_n 0, 1) := by decide +kernel
theorem dX4_appendStep_23 : decode cX4_appendStep 23 = .ok (.getfield 9, 3) := by decide +kernel
theorem dX4_appendStep_26 : decode cX4_appendStep 26 = .ok (.iload_n 1, 1) := by decide +kernel
theorem dX4_appendStep_27 : decode cX4_appendStep 27 = .ok (.iaload, 1) := by decide +kernel
theorem dX4_appendStep_28 : decode cX4_appendStep 28 = .ok (.invokestatic 47, 3) := by decide +kernel
theorem dX4_appendStep_31 : decode cX4_appendStep 31 = .ok (.istore_n 2, 1) := by decide +kernel
theorem dX4_appendStep_32 : decode cX4_appendStep 32 = .ok (.aload_n 0, 1) := by decide +kernel
theorem dX4_appendStep_33 : decode cX4_appendStep 33 = .ok (.getfield 9, 3) := by decide +kernel
theorem dX4_appendStep_36 : decode cX4_appendStep 36 = .ok (.iload_n 1, 1) := by decide +kernel
theorem dX4_appendStep_37 : decode cX4_appendStep 37 = .ok (.dup2, 1) := by decide +kernel
theorem dX4_appendStep_38 : decode cX4_appendStep 38 = .ok (.iaload, 1) := by decide +kernel
theorem dX4_appendStep_39 : decode cX4_appendStep 39 = .ok (.iconst 1, 1) := by decide +kernel
theorem dX4_appendStep_40 : decode cX4_appendStep 40 = .ok (.iadd, 1) := by decide +kernel
theorem dX4_appendStep_41 : decode cX4_appendStep 41 = .ok (.iastore, 1) := by decide +kernel
theorem dX4_appendStep_42 : decode cX4_appendStep 42 = .ok (.iload_n 2, 1) := by decide +kernel
theorem dX4_appendStep_43 : decode cX4_appendStep 43 = .ok (.invokestatic 51, 3) := by decide +kernel
theorem dX4_appendStep_46 : decode cX4_appendStep 46 = .ok (.ifCond .eq 17, 3) := by decide +kernel
theorem dX4_appendStep_49 : decode cX4_appendStep 49 = .ok (.aload_n 0, 1) := by decide +kernel
theorem dX4_appendStep_50 : decode cX4_appendStep 50 = .ok (.getfield 33, 3) := by decide +kernel
theorem dX4_appendStep_53 : decode cX4_appendStep 53 = .ok (.iload_n 2, 1) := by decide +kernel
theorem dX4_appendStep_54 : decode cX4_appendStep 54 = .ok (.iconst (-1), 1) := by decide +kernel
theorem dX4_appendStep_55 : decode cX4_appendStep 55 = .ok (.iastore, 1) := by decide +kernel
theorem dX4_appendStep_56 : decode cX4_appendStep 56 = .ok (.aload_n 0, 1) := by decide +kernel
theorem dX4_appendStep_57 : decode cX4_appendStep 57 = .ok (.getfield 36, 3) := by decide +kernel
theorem dX4_appendStep_60 : decode cX4_appendStep 60 = .ok (.iload_n 2, 1) := by decide +kernel
theorem dX4_appendStep_61 : decode cX4_appendStep 61 = .ok (.iconst (-1), 1) := by decide +kernel
theorem dX4_appendStep_62 : decode cX4_appendStep 62 = .ok (.iastore, 1) := by decide +kernel
theorem dX4_appendStep_63 : decode cX4_appendStep 63 = .ok (.iload_n 2, 1) := by decide +kernel
theorem dX4_appendStep_64 : decode cX4_appendStep 64 = .ok (.ireturn, 1) := by decide +kernel
set_option maxRecDepth 20000 in
theorem ggX4_setNeed_X4_isPlace : GoodIn wsX4_setNeed wsX4_isPlace := goodIn_r _ [6] (by decide +kernel) (by decide +kernel)
set_option maxRecDepth 20000 in
theorem gX4_setNeed_X4_isPlace : GoodIn wsX4_setNeed (va_wsS RX4 51 yX4_isPlace wsX4_isPlace) := goodIn_app (goodIn_of _ (by decide +kernel)) ggX4_setNeed_X4_isPlace
theorem dX4_setNeed_0 : decode cX4_setNeed 0 = .ok (.iload_n 1, 1) := by decide +kernel
theorem dX4_setNeed_1 : decode cX4_setNeed 1 = .ok (.invokestatic 51, 3) := by decide +kernel
theorem dX4_setNeed_4 : decode cX4_setNeed 4 = .ok (.ifCond .eq 17, 3) := by decide +kernel
theorem dX4_setNeed_7 : decode cX4_setNeed 7 = .ok (.aload_n 0, 1) := by decide +kernel
theorem dX4_setNeed_8 : decode cX4_setNeed 8 = .ok (.getfield 18, 3) := by decide +kernel
theorem dX4_setNeed_11 : decode cX4_setNeed 11 = .ok (.iload_n 1, 1) := by decide +kernel
theorem dX4_setNeed_12 : decode cX4_setNeed 12 = .ok (.iload_n 2, 1) := by decide +kernel
theorem dX4_setNeed_13 : decode cX4_setNeed 13 = .ok (.iastore, 1) := by decide +kernel
theorem dX4_setNeed_14 : decode cX4_setNeed 14 = .ok (.aload_n 0, 1) := by decide +kernel
theorem dX4_setNeed_15 : decode cX4_setNeed 15 = .ok (.getfield 21, 3) := by decide +kernel
theorem dX4_setNeed_18 : decode cX4_setNeed 18 = .ok (.iload_n 1, 1) := by decide +kernel
theorem dX4_setNeed_19 : decode cX4_setNeed 19 = .ok (.iload_n 3, 1) := by decide +kernel
theorem dX4_setNeed_20 : decode cX4_setNeed 20 = .ok (.iastore, 1) := by decide +kernel
theorem dX4_setNeed_21 : decode cX4_setNeed 21 = .ok (.return_, 1) := by decide +kernel
set_option maxRecDepth 20000 in
theorem ggX4_setEffect_X4_isPlace : GoodIn wsX4_setEffect wsX4_isPlace := goodIn_r _ [6] (by decide +kernel) (by decide +kernel)
set_option maxRecDepth 20000 in
theorem gX4_setEffect_X4_isPlace : GoodIn wsX4_setEffect (va_wsS RX4 51 yX4_isPlace wsX4_isPlace) := goodIn_app (goodIn_of _ (by decide +kernel)) ggX4_setEffect_X4_isPlace
theorem dX4_setEffect_0 : decode cX4_setEffect 0 = .ok (.iload_n 1, 1) := by decide +kernel
theorem dX4_setEffect_1 : decode cX4_setEffect 1 = .ok (.invokestatic 51, 3) := by decide +kernel
theorem dX4_setEffect_4 : decode cX4_setEffect 4 = .ok (.ifCond .eq 17, 3) := by decide +kernel
theorem dX4_setEffect_7 : decode cX4_setEffect 7 = .ok (.aload_n 0, 1) := by decide +kernel
theorem dX4_setEffect_8 : decode cX4_setEffect 8 = .ok (.getfield 24, 3) := by decide +kernel
theorem dX4_setEffect_11 : decode cX4_setEffect 11 = .ok (.iload_n 1, 1) := by decide +kernel
theorem dX4_setEffect_12 : decode cX4_setEffect 12 = .ok (.iload_n 2, 1) := by decide +kernel
theorem dX4_setEffect_13 : decode cX4_setEffect 13 = .ok (.iastore, 1) := by decide +kernel
theorem dX4_setEffect_14 : decode cX4_setEffect 14 = .ok (.aload_n 0, 1) := by decide +kernel
theorem dX4_setEffect_15 : decode cX4_setEffect 15 = .ok (.getfield 27, 3) := by decide +kernel
theorem dX4_setEffect_18 : decode cX4_setEffect 18 = .ok (.iload_n 1, 1) := by decide +kernel
theorem dX4_setEffect_19 : decode cX4_setEffect 19 = .ok (.iload_n 3, 1) := by decide +kernel
theorem dX4_setEffect_20 : decode cX4_setEffect 20 = .ok (.iastore, 1) := by decide +kernel
theorem dX4_setEffect_21 : decode cX4_setEffect 21 = .ok (.return_, 1) := by decide +kernel
set_option maxRecDepth 20000 in
theorem ggX4_stepCount_X4_hasProcedure : GoodIn wsX4_stepCount wsX4_hasProcedure := goodIn_r _ [6, 7, 8, 9, 10, 11, 12, 13, 14, 15, 16, 17] (by decide +kernel) (by decide +kernel)
set_option maxRecDepth 20000 in
theorem gX4_stepCount_X4_hasProcedure : GoodIn wsX4_stepCount (wsV RX4 43 RX4 yX4_hasProcedure wsX4_hasProcedure) := goodIn_app (goodIn_of _ (by decide +kernel)) ggX4_stepCount_X4_hasProcedure
theorem dX4_stepCount_0 : decode cX4_stepCount 0 = .ok (.aload_n 0, 1) := by decide +kernel
theorem dX4_stepCount_1 : decode cX4_stepCount 1 = .ok (.iload_n 1, 1) := by decide +kernel
theorem dX4_stepCount_2 : decode cX4_stepCount 2 = .ok (.invokevirtual 43, 3) := by decide +kernel
theorem dX4_stepCount_5 : decode cX4_stepCount 5 = .ok (.ifCond .eq 12, 3) := by decide +kernel
theorem dX4_stepCount_8 : decode cX4_stepCount 8 = .ok (.aload_n 0, 1) := by decide +kernel
theorem dX4_stepCount_9 : decode cX4_stepCount 9 = .ok (.getfield 9, 3) := by decide +kernel
theorem dX4_stepCount_12 : decode cX4_stepCount 12 = .ok (.iload_n 1, 1) := by decide +kernel
theorem dX4_stepCount_13 : decode cX4_stepCount 13 = .ok (.iaload, 1) := by decide +kernel
theorem dX4_stepCount_14 : decode cX4_stepCount 14 = .ok (.goto 4, 3) := by decide +kernel
theorem dX4_stepCount_17 : decode cX4_stepCount 17 = .ok (.iconst 0, 1) := by decide +kernel
theorem dX4_stepCount_18 : decode cX4_stepCount 18 = .ok (.ireturn, 1) := by decide +kernel
set_option maxRecDepth 20000 in
theorem ggX4_doneCount_X4_hasProcedure : GoodIn wsX4_doneCount wsX4_hasProcedure := goodIn_r _ [6, 7, 8, 9, 10, 11, 12, 13, 14, 15, 16, 17] (by decide +kernel) (by decide +kernel)
set_option maxRecDepth 20000 in
theorem gX4_doneCount_X4_hasProcedure : GoodIn wsX4_doneCount (wsV RX4 43 RX4 yX4_hasProcedure wsX4_hasProcedure) := goodIn_app (goodIn_of _ (by decide +kernel)) ggX4_doneCount_X4_hasProcedure
theorem dX4_doneCount_0 : decode cX4_doneCount 0 = .ok (.aload_n 0, 1) := by decide +kernel
theorem dX4_doneCount_1 : decode cX4_doneCount 1 = .ok (.iload_n 1, 1) := by decide +kernel
theorem dX4_doneCount_2 : decode cX4_doneCount 2 = .ok (.invokevirtual 43, 3) := by decide +kernel
theorem dX4_doneCount_5 : decode cX4_doneCount 5 = .ok (.ifCond .eq 12, 3) := by decide +kernel
theorem dX4_doneCount_8 : decode cX4_doneCount 8 = .ok (.aload_n 0, 1) := by decide +kernel
theorem dX4_doneCount_9 : decode cX4_doneCount 9 = .ok (.getfield 15, 3) := by decide +kernel
theorem dX4_doneCount_12 : decode cX4_doneCount 12 = .ok (.iload_n 1, 1) := by decide +kernel
theorem dX4_doneCount_13 : decode cX4_doneCount 13 = .ok (.iaload, 1) := by decide +kernel
theorem dX4_doneCount_14 : decode cX4_doneCount 14 = .ok (.goto 4, 3) := by decide +kernel
theorem dX4_doneCount_17 : decode cX4_doneCount 17 = .ok (.iconst 0, 1) := by decide +kernel
theorem dX4_doneCount_18 : decode cX4_doneCount 18 = .ok (.ireturn, 1) := by decide +kernel
set_option maxRecDepth 20000 in
theorem ggX4_nextPlace_X4_doneCount : GoodIn wsX4_nextPlace wsX4_doneCount := goodIn_ca (goodIn_r _ [5, 6, 7, 8, 9, 4, 10, 11, 20, 21, 22, 23, 24, 25, 26, 27, 28, 29] (by decide +kernel) (by decide +kernel)) (goodIn_sub (fun _ h => List.mem_cons_of_mem _ (List.mem_append_right _ h)) (by decide +kernel))
set_option maxRecDepth 20000 in
theorem gX4_nextPlace_X4_doneCount : GoodIn wsX4_nextPlace (wsV RX4 54 RX4 yX4_doneCount wsX4_doneCount) := goodIn_app (goodIn_of _ (by decide +kernel)) ggX4_nextPlace_X4_doneCount
set_option maxRecDepth 20000 in
theorem ggX4_nextPlace_X4_stepCount : GoodIn wsX4_nextPlace wsX4_stepCount := goodIn_ca (goodIn_r _ [15, 16, 7, 8, 9, 4, 10, 11, 20, 21, 22, 23, 24, 25, 26, 27, 28, 29] (by decide +kernel) (by decide +kernel)) (goodIn_sub (fun _ h => List.mem_cons_of_mem _ (List.mem_append_right _ h)) (by decide +kernel))
set_option maxRecDepth 20000 in
theorem gX4_nextPlace_X4_stepCount : GoodIn wsX4_nextPlace (wsV RX4 58 RX4 yX4_stepCount wsX4_stepCount) := goodIn_app (goodIn_of _ (by decide +kernel)) ggX4_nextPlace_X4_stepCount
set_option maxRecDepth 20000 in
theorem ggX4_nextPlace_X5_stepPlace : GoodIn wsX4_nextPlace wsX5_stepPlace := goodIn_r _ [19] (by decide +kernel) (by decide +kernel)
set_option maxRecDepth 20000 in
theorem gX4_nextPlace_X5_stepPlace_n47 : GoodIn wsX4_nextPlace (wsX5_stepPlace) := ggX4_nextPlace_X5_stepPlace
theorem dX4_nextPlace_0 : decode cX4_nextPlace 0 = .ok (.aload_n 0, 1) := by decide +kernel
theorem dX4_nextPlace_1 : decode cX4_nextPlace 1 = .ok (.iload_n 1, 1) := by decide +kernel
theorem dX4_nextPlace_2 : decode cX4_nextPlace 2 = .ok (.invokevirtual 54, 3) := by decide +kernel
theorem dX4_nextPlace_5 : decode cX4_nextPlace 5 = .ok (.istore_n 2, 1) := by decide +kernel
theorem dX4_nextPlace_6 : decode cX4_nextPlace 6 = .ok (.iload_n 2, 1) := by decide +kernel
theorem dX4_nextPlace_7 : decode cX4_nextPlace 7 = .ok (.aload_n 0, 1) := by decide +kernel
theorem dX4_nextPlace_8 : decode cX4_nextPlace 8 = .ok (.iload_n 1, 1) := by decide +kernel
theorem dX4_nextPlace_9 : decode cX4_nextPlace 9 = .ok (.invokevirtual 58, 3) := by decide +kernel
theorem dX4_nextPlace_12 : decode cX4_nextPlace 12 = .ok (.if_icmp .ge 11, 3) := by decide +kernel
theorem dX4_nextPlace_15 : decode cX4_nextPlace 15 = .ok (.iload_n 1, 1) := by decide +kernel
theorem dX4_nextPlace_16 : decode cX4_nextPlace 16 = .ok (.iload_n 2, 1) := by decide +kernel
theorem dX4_nextPlace_17 : decode cX4_nextPlace 17 = .ok (.invokestatic 47, 3) := by decide +kernel
theorem dX4_nextPlace_20 : decode cX4_nextPlace 20 = .ok (.goto 4, 3) := by decide +kernel
theorem dX4_nextPlace_23 : decode cX4_nextPlace 23 = .ok (.iconst (-1), 1) := by decide +kernel
theorem dX4_nextPlace_24 : decode cX4_nextPlace 24 = .ok (.ireturn, 1) := by decide +kernel
set_option maxRecDepth 20000 in
theorem ggX4_lastDonePlace_X4_doneCount : GoodIn wsX4_lastDonePlace wsX4_doneCount := goodIn_ca (goodIn_r _ [5, 6, 7, 8, 9, 4, 10, 11, 15, 16, 17, 18, 19, 20, 21, 22, 23, 24] (by decide +kernel) (by decide +kernel)) (goodIn_sub (fun _ h => List.mem_cons_of_mem _ (List.mem_append_right _ h)) (by decide +kernel))
set_option maxRecDepth 20000 in
theorem gX4_lastDonePlace_X4_doneCount : GoodIn wsX4_lastDonePlace (wsV RX4 54 RX4 yX4_doneCount wsX4_doneCount) := goodIn_app (goodIn_of _ (by decide +kernel)) ggX4_lastDonePlace_X4_doneCount
set_option maxRecDepth 20000 in
theorem ggX4_lastDonePlace_X5_stepPlace : GoodIn wsX4_lastDonePlace wsX5_stepPlace := goodIn_r _ [14] (by decide +kernel) (by decide +kernel)
set_option maxRecDepth 20000 in
theorem gX4_lastDonePlace_X5_stepPlace_n47 : GoodIn wsX4_lastDonePlace (wsX5_stepPlace) := ggX4_lastDonePlace_X5_stepPlace
theorem dX4_lastDonePlace_0 : decode cX4_lastDonePlace 0 = .ok (.aload_n 0, 1) := by decide +kernel
theorem dX4_lastDonePlace_1 : decode cX4_lastDonePlace 1 = .ok (.iload_n 1, 1) := by decide +kernel
theorem dX4_lastDonePlace_2 : decode cX4_lastDonePlace 2 = .ok (.invokevirtual 54, 3) := by decide +kernel
theorem dX4_lastDonePlace_5 : decode cX4_lastDonePlace 5 = .ok (.istore_n 2, 1) := by decide +kernel
theorem dX4_lastDonePlace_6 : decode cX4_lastDonePlace 6 = .ok (.iload_n 2, 1) := by decide +kernel
theorem dX4_lastDonePlace_7 : decode cX4_lastDonePlace 7 = .ok (.ifCond .le 13, 3) := by decide +kernel
theorem dX4_lastDonePlace_10 : decode cX4_lastDonePlace 10 = .ok (.iload_n 1, 1) := by decide +kernel
theorem dX4_lastDonePlace_11 : decode cX4_lastDonePlace 11 = .ok (.iload_n 2, 1) := by decide +kernel
theorem dX4_lastDonePlace_12 : decode cX4_lastDonePlace 12 = .ok (.iconst 1, 1) := by decide +kernel
theorem dX4_lastDonePlace_13 : decode cX4_lastDonePlace 13 = .ok (.isub, 1) := by decide +kernel
theorem dX4_lastDonePlace_14 : decode cX4_lastDonePlace 14 = .ok (.invokestatic 47, 3) := by decide +kernel
theorem dX4_lastDonePlace_17 : decode cX4_lastDonePlace 17 = .ok (.goto 4, 3) := by decide +kernel
theorem dX4_lastDonePlace_20 : decode cX4_lastDonePlace 20 = .ok (.iconst (-1), 1) := by decide +kernel
theorem dX4_lastDonePlace_21 : decode cX4_lastDonePlace 21 = .ok (.ireturn, 1) := by decide +kernel
set_option maxRecDepth 20000 in
theorem ggX4_markTaken_X4_nextPlace : GoodIn wsX4_markTaken wsX4_nextPlace := goodIn_ca (goodIn_r _ [8, 9, 10, 11, 7, 12, 1, 13, 14, 15, 16, 17, 18, 19, 20, 21, 22, 23, 24, 25, 29, 30, 31, 32, 33, 34, 35, 36, 37, 38] (by decide +kernel) (by decide +kernel)) (goodIn_sub (fun _ h => List.mem_cons_of_mem _ (List.mem_append_right _ h)) (by decide +kernel))
set_option maxRecDepth 20000 in
theorem gX4_markTaken_X4_nextPlace : GoodIn wsX4_markTaken (wsV RX4 61 RX4 yX4_nextPlace wsX4_nextPlace) := goodIn_app (goodIn_of _ (by decide +kernel)) ggX4_markTaken_X4_nextPlace
set_option maxRecDepth 20000 in
theorem ggX4_markTaken_X4_hasProcedure : GoodIn wsX4_markTaken wsX4_hasProcedure := goodIn_r _ [16, 17, 29, 30, 31, 32, 33, 34, 35, 36, 37, 38] (by decide +kernel) (by decide +kernel)
set_option maxRecDepth 20000 in
theorem gX4_markTaken_X4_hasProcedure : GoodIn wsX4_markTaken (wsV RX4 43 RX4 yX4_hasProcedure wsX4_hasProcedure) := goodIn_app (goodIn_of _ (by decide +kernel)) ggX4_markTaken_X4_hasProcedure
set_option maxRecDepth 20000 in
theorem ggX4_markTaken_X4_isPlace : GoodIn wsX4_markTaken wsX4_isPlace := goodIn_r _ [28] (by decide +kernel) (by decide +kernel)
set_option maxRecDepth 20000 in
theorem gX4_markTaken_X4_isPlace : GoodIn wsX4_markTaken (va_wsS RX4 51 yX4_isPlace wsX4_isPlace) := goodIn_app (goodIn_of _ (by decide +kernel)) ggX4_markTaken_X4_isPlace
theorem dX4_markTaken_0 : decode cX4_markTaken 0 = .ok (.aload_n 0, 1) := by decide +kernel
theorem dX4_markTaken_1 : decode cX4_markTaken 1 = .ok (.iload_n 1, 1) := by decide +kernel
theorem dX4_markTaken_2 : decode cX4_markTaken 2 = .ok (.invokevirtual 61, 3) := by decide +kernel
theorem dX4_markTaken_5 : decode cX4_markTaken 5 = .ok (.istore 4, 2) := by decide +kernel
theorem dX4_markTaken_7 : decode cX4_markTaken 7 = .ok (.aload_n 0, 1) := by decide +kernel
theorem dX4_markTaken_8 : decode cX4_markTaken 8 = .ok (.iload_n 1, 1) := by decide +kernel
theorem dX4_markTaken_9 : decode cX4_markTaken 9 = .ok (.invokevirtual 43, 3) := by decide +kernel
theorem dX4_markTaken_12 : decode cX4_markTaken 12 = .ok (.ifCond .eq 37, 3) := by decide +kernel
theorem dX4_markTaken_15 : decode cX4_markTaken 15 = .ok (.iload 4, 2) := by decide +kernel
theorem dX4_markTaken_17 : decode cX4_markTaken 17 = .ok (.invokestatic 51, 3) := by decide +kernel
theorem dX4_markTaken_20 : decode cX4_markTaken 20 = .ok (.ifCond .eq 29, 3) := by decide +kernel
theorem dX4_markTaken_23 : decode cX4_markTaken 23 = .ok (.aload_n 0, 1) := by decide +kernel
theorem dX4_markTaken_24 : decode cX4_markTaken 24 = .ok (.getfield 15, 3) := by decide +kernel
theorem dX4_markTaken_27 : decode cX4_markTaken 27 = .ok (.iload_n 1, 1) := by decide +kernel
theorem dX4_markTaken_28 : decode cX4_markTaken 28 = .ok (.dup2, 1) := by decide +kernel
theorem dX4_markTaken_29 : decode cX4_markTaken 29 = .ok (.iaload, 1) := by decide +kernel
theorem dX4_markTaken_30 : decode cX4_markTaken 30 = .ok (.iconst 1, 1) := by decide +kernel
theorem dX4_markTaken_31 : decode cX4_markTaken 31 = .ok (.iadd, 1) := by decide +kernel
theorem dX4_markTaken_32 : decode cX4_markTaken 32 = .ok (.iastore, 1) := by decide +kernel
theorem dX4_markTaken_33 : decode cX4_markTaken 33 = .ok (.aload_n 0, 1) := by decide +kernel
theorem dX4_markTaken_34 : decode cX4_markTaken 34 = .ok (.getfield 30, 3) := by decide +kernel
theorem dX4_markTaken_37 : decode cX4_markTaken 37 = .ok (.iload 4, 2) := by decide +kernel
theorem dX4_markTaken_39 : decode cX4_markTaken 39 = .ok (.iload_n 2, 1) := by decide +kernel
theorem dX4_markTaken_40 : decode cX4_markTaken 40 = .ok (.iastore, 1) := by decide +kernel
theorem dX4_markTaken_41 : decode cX4_markTaken 41 = .ok (.aload_n 0, 1) := by decide +kernel
theorem dX4_markTaken_42 : decode cX4_markTaken 42 = .ok (.getfield 33, 3) := by decide +kernel
theorem dX4_markTaken_45 : decode cX4_markTaken 45 = .ok (.iload 4, 2) := by decide +kernel
theorem dX4_markTaken_47 : decode cX4_markTaken 47 = .ok (.iload_n 3, 1) := by decide +kernel
theorem dX4_markTaken_48 : decode cX4_markTaken 48 = .ok (.iastore, 1) := by decide +kernel
theorem dX4_markTaken_49 : decode cX4_markTaken 49 = .ok (.return_, 1) := by decide +kernel
set_option maxRecDepth 20000 in
theorem ggX4_markUndone_X4_lastDonePlace : GoodIn wsX4_markUndone wsX4_lastDonePlace := goodIn_ca (goodIn_r _ [7, 8, 9, 10, 6, 11, 1, 12, 13, 14, 15, 16, 17, 18, 19, 23, 24, 25, 26, 27, 28, 29, 30, 31, 32] (by decide +kernel) (by decide +kernel)) (goodIn_sub (fun _ h => List.mem_cons_of_mem _ (List.mem_append_right _ h)) (by decide +kernel))
set_option maxRecDepth 20000 in
theorem gX4_markUndone_X4_lastDonePlace : GoodIn wsX4_markUndone (wsV RX4 64 RX4 yX4_lastDonePlace wsX4_lastDonePlace) := goodIn_app (goodIn_of _ (by decide +kernel)) ggX4_markUndone_X4_lastDonePlace
set_option maxRecDepth 20000 in
theorem ggX4_markUndone_X4_hasProcedure : GoodIn wsX4_markUndone wsX4_hasProcedure := goodIn_r _ [15, 16, 23, 24, 25, 26, 27, 28, 29, 30, 31, 32] (by decide +kernel) (by decide +kernel)
set_option maxRecDepth 20000 in
theorem gX4_markUndone_X4_hasProcedure : GoodIn wsX4_markUndone (wsV RX4 43 RX4 yX4_hasProcedure wsX4_hasProcedure) := goodIn_app (goodIn_of _ (by decide +kernel)) ggX4_markUndone_X4_hasProcedure
set_option maxRecDepth 20000 in
theorem ggX4_markUndone_X4_isPlace : GoodIn wsX4_markUndone wsX4_isPlace := goodIn_r _ [22] (by decide +kernel) (by decide +kernel)
set_option maxRecDepth 20000 in
theorem gX4_markUndone_X4_isPlace : GoodIn wsX4_markUndone (va_wsS RX4 51 yX4_isPlace wsX4_isPlace) := goodIn_app (goodIn_of _ (by decide +kernel)) ggX4_markUndone_X4_isPlace
theorem dX4_markUndone_0 : decode cX4_markUndone 0 = .ok (.aload_n 0, 1) := by decide +kernel
theorem dX4_markUndone_1 : decode cX4_markUndone 1 = .ok (.iload_n 1, 1) := by decide +kernel
theorem dX4_markUndone_2 : decode cX4_markUndone 2 = .ok (.invokevirtual 64, 3) := by decide +kernel
theorem dX4_markUndone_5 : decode cX4_markUndone 5 = .ok (.istore_n 3, 1) := by decide +kernel
theorem dX4_markUndone_6 : decode cX4_markUndone 6 = .ok (.aload_n 0, 1) := by decide +kernel
theorem dX4_markUndone_7 : decode cX4_markUndone 7 = .ok (.iload_n 1, 1) := by decide +kernel
theorem dX4_markUndone_8 : decode cX4_markUndone 8 = .ok (.invokevirtual 43, 3) := by decide +kernel
theorem dX4_markUndone_11 : decode cX4_markUndone 11 = .ok (.ifCond .eq 27, 3) := by decide +kernel
theorem dX4_markUndone_14 : decode cX4_markUndone 14 = .ok (.iload_n 3, 1) := by decide +kernel
theorem dX4_markUndone_15 : decode cX4_markUndone 15 = .ok (.invokestatic 51, 3) := by decide +kernel
theorem dX4_markUndone_18 : decode cX4_markUndone 18 = .ok (.ifCond .eq 20, 3) := by decide +kernel
theorem dX4_markUndone_21 : decode cX4_markUndone 21 = .ok (.aload_n 0, 1) := by decide +kernel
theorem dX4_markUndone_22 : decode cX4_markUndone 22 = .ok (.getfield 15, 3) := by decide +kernel
theorem dX4_markUndone_25 : decode cX4_markUndone 25 = .ok (.iload_n 1, 1) := by decide +kernel
theorem dX4_markUndone_26 : decode cX4_markUndone 26 = .ok (.dup2, 1) := by decide +kernel
theorem dX4_markUndone_27 : decode cX4_markUndone 27 = .ok (.iaload, 1) := by decide +kernel
theorem dX4_markUndone_28 : decode cX4_markUndone 28 = .ok (.iconst 1, 1) := by decide +kernel
theorem dX4_markUndone_29 : decode cX4_markUndone 29 = .ok (.isub, 1) := by decide +kernel
theorem dX4_markUndone_30 : decode cX4_markUndone 30 = .ok (.iastore, 1) := by decide +kernel
theorem dX4_markUndone_31 : decode cX4_markUndone 31 = .ok (.aload_n 0, 1) := by decide +kernel
theorem dX4_markUndone_32 : decode cX4_markUndone 32 = .ok (.getfield 36, 3) := by decide +kernel
theorem dX4_markUndone_35 : decode cX4_markUndone 35 = .ok (.iload_n 3, 1) := by decide +kernel
theorem dX4_markUndone_36 : decode cX4_markUndone 36 = .ok (.iload_n 2, 1) := by decide +kernel
theorem dX4_markUndone_37 : decode cX4_markUndone 37 = .ok (.iastore, 1) := by decide +kernel
theorem dX4_markUndone_38 : decode cX4_markUndone 38 = .ok (.return_, 1) := by decide +kernel
set_option maxRecDepth 20000 in
theorem ggX4_markNoneDone_X4_hasProcedure : GoodIn wsX4_markNoneDone wsX4_hasProcedure := goodIn_r _ [6, 7, 8, 9, 10, 11, 12, 13, 14, 15, 16, 17] (by decide +kernel) (by decide +kernel)
set_option maxRecDepth 20000 in
theorem gX4_markNoneDone_X4_hasProcedure : GoodIn wsX4_markNoneDone (wsV RX4 43 RX4 yX4_hasProcedure wsX4_hasProcedure) := goodIn_app (goodIn_of _ (by decide +kernel)) ggX4_markNoneDone_X4_hasProcedure
theorem dX4_markNoneDone_0 : decode cX4_markNoneDone 0 = .ok (.aload_n 0, 1) := by decide +kernel
theorem dX4_markNoneDone_1 : decode cX4_markNoneDone 1 = .ok (.iload_n 1, 1) := by decide +kernel
theorem dX4_markNoneDone_2 : decode cX4_markNoneDone 2 = .ok (.invokevirtual 43, 3) := by decide +kernel
theorem dX4_markNoneDone_5 : decode cX4_markNoneDone 5 = .ok (.ifCond .eq 10, 3) := by decide +kernel
theorem dX4_markNoneDone_8 : decode cX4_markNoneDone 8 = .ok (.aload_n 0, 1) := by decide +kernel
theorem dX4_markNoneDone_9 : decode cX4_markNoneDone 9 = .ok (.getfield 15, 3) := by decide +kernel
theorem dX4_markNoneDone_12 : decode cX4_markNoneDone 12 = .ok (.iload_n 1, 1) := by decide +kernel
theorem dX4_markNoneDone_13 : decode cX4_markNoneDone 13 = .ok (.iconst 0, 1) := by decide +kernel
theorem dX4_markNoneDone_14 : decode cX4_markNoneDone 14 = .ok (.iastore, 1) := by decide +kernel
theorem dX4_markNoneDone_15 : decode cX4_markNoneDone 15 = .ok (.return_, 1) := by decide +kernel
set_option maxRecDepth 20000 in
theorem ggX4_markNotUndone_X4_isPlace : GoodIn wsX4_markNotUndone wsX4_isPlace := goodIn_r _ [5] (by decide +kernel) (by decide +kernel)
set_option maxRecDepth 20000 in
theorem gX4_markNotUndone_X4_isPlace : GoodIn wsX4_markNotUndone (va_wsS RX4 51 yX4_isPlace wsX4_isPlace) := goodIn_app (goodIn_of _ (by decide +kernel)) ggX4_markNotUndone_X4_isPlace
theorem dX4_markNotUndone_0 : decode cX4_markNotUndone 0 = .ok (.iload_n 1, 1) := by decide +kernel
theorem dX4_markNotUndone_1 : decode cX4_markNotUndone 1 = .ok (.invokestatic 51, 3) := by decide +kernel
theorem dX4_markNotUndone_4 : decode cX4_markNotUndone 4 = .ok (.ifCond .eq 10, 3) := by decide +kernel
theorem dX4_markNotUndone_7 : decode cX4_markNotUndone 7 = .ok (.aload_n 0, 1) := by decide +kernel
theorem dX4_markNotUndone_8 : decode cX4_markNotUndone 8 = .ok (.getfield 36, 3) := by decide +kernel
theorem dX4_markNotUndone_11 : decode cX4_markNotUndone 11 = .ok (.iload_n 1, 1) := by decide +kernel
theorem dX4_markNotUndone_12 : decode cX4_markNotUndone 12 = .ok (.iconst (-1), 1) := by decide +kernel
theorem dX4_markNotUndone_13 : decode cX4_markNotUndone 13 = .ok (.iastore, 1) := by decide +kernel
theorem dX4_markNotUndone_14 : decode cX4_markNotUndone 14 = .ok (.return_, 1) := by decide +kernel
set_option maxRecDepth 20000 in
theorem ggX4_isUndone_X4_isStep : GoodIn wsX4_isUndone wsX4_isStep := goodIn_ca (goodIn_r _ [6, 7, 8, 5, 9, 10, 11, 12, 13, 14, 15, 16, 17, 18, 19, 20, 21, 22, 23, 24, 25, 26, 27, 28, 29, 30, 31, 32] (by decide +kernel) (by decide +kernel)) (goodIn_sub (fun _ h => List.mem_cons_of_mem _ (List.mem_append_right _ h)) (by decide +kernel))
set_option maxRecDepth 20000 in
theorem gX4_isUndone_X4_isStep : GoodIn wsX4_isUndone (wsV RX4 67 RX4 yX4_isStep wsX4_isStep) := goodIn_app (goodIn_of _ (by decide +kernel)) ggX4_isUndone_X4_isStep
theorem dX4_isUndone_0 : decode cX4_isUndone 0 = .ok (.aload_n 0, 1) := by decide +kernel
theorem dX4_isUndone_1 : decode cX4_isUndone 1 = .ok (.iload_n 1, 1) := by decide +kernel
theorem dX4_isUndone_2 : decode cX4_isUndone 2 = .ok (.invokevirtual 67, 3) := by decide +kernel
theorem dX4_isUndone_5 : decode cX4_isUndone 5 = .ok (.ifCond .eq 17, 3) := by decide +kernel
theorem dX4_isUndone_8 : decode cX4_isUndone 8 = .ok (.aload_n 0, 1) := by decide +kernel
theorem dX4_isUndone_9 : decode cX4_isUndone 9 = .ok (.getfield 36, 3) := by decide +kernel
theorem dX4_isUndone_12 : decode cX4_isUndone 12 = .ok (.iload_n 1, 1) := by decide +kernel
theorem dX4_isUndone_13 : decode cX4_isUndone 13 = .ok (.iaload, 1) := by decide +kernel
theorem dX4_isUndone_14 : decode cX4_isUndone 14 = .ok (.iconst (-1), 1) := by decide +kernel
theorem dX4_isUndone_15 : decode cX4_isUndone 15 = .ok (.if_icmp .eq 7, 3) := by decide +kernel
theorem dX4_isUndone_18 : decode cX4_isUndone 18 = .ok (.iconst 1, 1) := by decide +kernel
theorem dX4_isUndone_19 : decode cX4_isUndone 19 = .ok (.goto 4, 3) := by decide +kernel
theorem dX4_isUndone_22 : decode cX4_isUndone 22 = .ok (.iconst 0, 1) := by decide +kernel
theorem dX4_isUndone_23 : decode cX4_isUndone 23 = .ok (.ireturn, 1) := by decide +kernel
set_option maxRecDepth 20000 in
theorem ggX4_undoneLineOf_X4_isStep : GoodIn wsX4_undoneLineOf wsX4_isStep := goodIn_ca (goodIn_r _ [6, 7, 8, 5, 9, 10, 11, 12, 13, 14, 15, 16, 17, 18, 19, 20, 21, 22, 23, 24, 25, 26, 27, 28, 29, 30, 31, 32] (by decide +kernel) (by decide +kernel)) (goodIn_sub (fun _ h => List.mem_cons_of_mem _ (List.mem_append_right _ h)) (by decide +kernel))
set_option maxRecDepth 20000 in
theorem gX4_undoneLineOf_X4_isStep : GoodIn wsX4_undoneLineOf (wsV RX4 67 RX4 yX4_isStep wsX4_isStep) := goodIn_app (goodIn_of _ (by decide +kernel)) ggX4_undoneLineOf_X4_isStep
theorem dX4_undoneLineOf_0 : decode cX4_undoneLineOf 0 = .ok (.aload_n 0, 1) := by decide +kernel
theorem dX4_undoneLineOf_1 : decode cX4_undoneLineOf 1 = .ok (.iload_n 1, 1) := by decide +kernel
theorem dX4_undoneLineOf_2 : decode cX4_undoneLineOf 2 = .ok (.invokevirtual 67, 3) := by decide +kernel
theorem dX4_undoneLineOf_5 : decode cX4_undoneLineOf 5 = .ok (.ifCond .eq 12, 3) := by decide +kernel
theorem dX4_undoneLineOf_8 : decode cX4_undoneLineOf 8 = .ok (.aload_n 0, 1) := by decide +kernel
theorem dX4_undoneLineOf_9 : decode cX4_undoneLineOf 9 = .ok (.getfield 36, 3) := by decide +kernel
theorem dX4_undoneLineOf_12 : decode cX4_undoneLineOf 12 = .ok (.iload_n 1, 1) := by decide +kernel
theorem dX4_undoneLineOf_13 : decode cX4_undoneLineOf 13 = .ok (.iaload, 1) := by decide +kernel
theorem dX4_undoneLineOf_14 : decode cX4_undoneLineOf 14 = .ok (.goto 4, 3) := by decide +kernel
theorem dX4_undoneLineOf_17 : decode cX4_undoneLineOf 17 = .ok (.iconst (-1), 1) := by decide +kernel
theorem dX4_undoneLineOf_18 : decode cX4_undoneLineOf 18 = .ok (.ireturn, 1) := by decide +kernel
set_option maxRecDepth 20000 in
theorem ggX4_neededOf_X4_isPlace : GoodIn wsX4_neededOf wsX4_isPlace := goodIn_r _ [5] (by decide +kernel) (by decide +kernel)
set_option maxRecDepth 20000 in
theorem gX4_neededOf_X4_isPlace : GoodIn wsX4_neededOf (va_wsS RX4 51 yX4_isPlace wsX4_isPlace) := goodIn_app (goodIn_of _ (by decide +kernel)) ggX4_neededOf_X4_isPlace
theorem dX4_neededOf_0 : decode cX4_neededOf 0 = .ok (.iload_n 1, 1) := by decide +kernel
theorem dX4_neededOf_1 : decode cX4_neededOf 1 = .ok (.invokestatic 51, 3) := by decide +kernel
theorem dX4_neededOf_4 : decode cX4_neededOf 4 = .ok (.ifCond .eq 12, 3) := by decide +kernel
theorem dX4_neededOf_7 : decode cX4_neededOf 7 = .ok (.aload_n 0, 1) := by decide +kernel
theorem dX4_neededOf_8 : decode cX4_neededOf 8 = .ok (.getfield 18, 3) := by decide +kernel
theorem dX4_neededOf_11 : decode cX4_neededOf 11 = .ok (.iload_n 1, 1) := by decide +kernel
theorem dX4_neededOf_12 : decode cX4_neededOf 12 = .ok (.iaload, 1) := by decide +kernel
theorem dX4_neededOf_13 : decode cX4_neededOf 13 = .ok (.goto 4, 3) := by decide +kernel
theorem dX4_neededOf_16 : decode cX4_neededOf 16 = .ok (.iconst (-1), 1) := by decide +kernel
theorem dX4_neededOf_17 : decode cX4_neededOf 17 = .ok (.ireturn, 1) := by decide +kernel
set_option maxRecDepth 20000 in
theorem ggX4_neededStateOf_X4_isPlace : GoodIn wsX4_neededStateOf wsX4_isPlace := goodIn_r _ [5] (by decide +kernel) (by decide +kernel)
set_option maxRecDepth 20000 in
theorem gX4_neededStateOf_X4_isPlace : GoodIn wsX4_neededStateOf (va_wsS RX4 51 yX4_isPlace wsX4_isPlace) := goodIn_app (goodIn_of _ (by decide +kernel)) ggX4_neededStateOf_X4_isPlace
theorem dX4_neededStateOf_0 : decode cX4_neededStateOf 0 = .ok (.iload_n 1, 1) := by decide +kernel
theorem dX4_neededStateOf_1 : decode cX4_neededStateOf 1 = .ok (.invokestatic 51, 3) := by decide +kernel
theorem dX4_neededStateOf_4 : decode cX4_neededStateOf 4 = .ok (.ifCond .eq 12, 3) := by decide +kernel
theorem dX4_neededStateOf_7 : decode cX4_neededStateOf 7 = .ok (.aload_n 0, 1) := by decide +kernel
theorem dX4_neededStateOf_8 : decode cX4_neededStateOf 8 = .ok (.getfield 21, 3) := by decide +kernel
theorem dX4_neededStateOf_11 : decode cX4_neededStateOf 11 = .ok (.iload_n 1, 1) := by decide +kernel
theorem dX4_neededStateOf_12 : decode cX4_neededStateOf 12 = .ok (.iaload, 1) := by decide +kernel
theorem dX4_neededStateOf_13 : decode cX4_neededStateOf 13 = .ok (.goto 4, 3) := by decide +kernel
theorem dX4_neededStateOf_16 : decode cX4_neededStateOf 16 = .ok (.iconst (-1), 1) := by decide +kernel
theorem dX4_neededStateOf_17 : decode cX4_neededStateOf 17 = .ok (.ireturn, 1) := by decide +kernel
set_option maxRecDepth 20000 in
theorem ggX4_unitOf_X4_isPlace : GoodIn wsX4_unitOf wsX4_isPlace := goodIn_r _ [5] (by decide +kernel) (by decide +kernel)
set_option maxRecDepth 20000 in
theorem gX4_unitOf_X4_isPlace : GoodIn wsX4_unitOf (va_wsS RX4 51 yX4_isPlace wsX4_isPlace) := goodIn_app (goodIn_of _ (by decide +kernel)) ggX4_unitOf_X4_isPlace
theorem dX4_unitOf_0 : decode cX4_unitOf 0 = .ok (.iload_n 1, 1) := by decide +kernel
theorem dX4_unitOf_1 : decode cX4_unitOf 1 = .ok (.invokestatic 51, 3) := by decide +kernel
theorem dX4_unitOf_4 : decode cX4_unitOf 4 = .ok (.ifCond .eq 12, 3) := by decide +kernel
theorem dX4_unitOf_7 : decode cX4_unitOf 7 = .ok (.aload_n 0, 1) := by decide +kernel
theorem dX4_unitOf_8 : decode cX4_unitOf 8 = .ok (.getfield 24, 3) := by decide +kernel
theorem dX4_unitOf_11 : decode cX4_unitOf 11 = .ok (.iload_n 1, 1) := by decide +kernel
theorem dX4_unitOf_12 : decode cX4_unitOf 12 = .ok (.iaload, 1) := by decide +kernel
theorem dX4_unitOf_13 : decode cX4_unitOf 13 = .ok (.goto 4, 3) := by decide +kernel
theorem dX4_unitOf_16 : decode cX4_unitOf 16 = .ok (.iconst (-1), 1) := by decide +kernel
theorem dX4_unitOf_17 : decode cX4_unitOf 17 = .ok (.ireturn, 1) := by decide +kernel
set_option maxRecDepth 20000 in
theorem ggX4_newStateOf_X4_isPlace : GoodIn wsX4_newStateOf wsX4_isPlace := goodIn_r _ [5] (by decide +kernel) (by decide +kernel)
set_option maxRecDepth 20000 in
theorem gX4_newStateOf_X4_isPlace : GoodIn wsX4_newStateOf (va_wsS RX4 51 yX4_isPlace wsX4_isPlace) := goodIn_app (goodIn_of _ (by decide +kernel)) ggX4_newStateOf_X4_isPlace
theorem dX4_newStateOf_0 : decode cX4_newStateOf 0 = .ok (.iload_n 1, 1) := by decide +kernel
theorem dX4_newStateOf_1 : decode cX4_newStateOf 1 = .ok (.invokestatic 51, 3) := by decide +kernel
theorem dX4_newStateOf_4 : decode cX4_newStateOf 4 = .ok (.ifCond .eq 12, 3) := by decide +kernel
theorem dX4_newStateOf_7 : decode cX4_newStateOf 7 = .ok (.aload_n 0, 1) := by decide +kernel
theorem dX4_newStateOf_8 : decode cX4_newStateOf 8 = .ok (.getfield 27, 3) := by decide +kernel
theorem dX4_newStateOf_11 : decode cX4_newStateOf 11 = .ok (.iload_n 1, 1) := by decide +kernel
theorem dX4_newStateOf_12 : decode cX4_newStateOf 12 = .ok (.iaload, 1) := by decide +kernel
theorem dX4_newStateOf_13 : decode cX4_newStateOf 13 = .ok (.goto 4, 3) := by decide +kernel
theorem dX4_newStateOf_16 : decode cX4_newStateOf 16 = .ok (.iconst (-1), 1) := by decide +kernel
theorem dX4_newStateOf_17 : decode cX4_newStateOf 17 = .ok (.ireturn, 1) := by decide +kernel
set_option maxRecDepth 20000 in
theorem ggX4_notedStateOf_X4_isPlace : GoodIn wsX4_notedStateOf wsX4_isPlace := goodIn_r _ [5] (by decide +kernel) (by decide +kernel)
set_option maxRecDepth 20000 in
theorem gX4_notedStateOf_X4_isPlace : GoodIn wsX4_notedStateOf (va_wsS RX4 51 yX4_isPlace wsX4_isPlace) := goodIn_app (goodIn_of _ (by decide +kernel)) ggX4_notedStateOf_X4_isPlace
theorem dX4_notedStateOf_0 : decode cX4_notedStateOf 0 = .ok (.iload_n 1, 1) := by decide +kernel
theorem dX4_notedStateOf_1 : decode cX4_notedStateOf 1 = .ok (.invokestatic 51, 3) := by decide +kernel
theorem dX4_notedStateOf_4 : decode cX4_notedStateOf 4 = .ok (.ifCond .eq 12, 3) := by decide +kernel
theorem dX4_notedStateOf_7 : decode cX4_notedStateOf 7 = .ok (.aload_n 0, 1) := by decide +kernel
theorem dX4_notedStateOf_8 : decode cX4_notedStateOf 8 = .ok (.getfield 30, 3) := by decide +kernel
theorem dX4_notedStateOf_11 : decode cX4_notedStateOf 11 = .ok (.iload_n 1, 1) := by decide +kernel
theorem dX4_notedStateOf_12 : decode cX4_notedStateOf 12 = .ok (.iaload, 1) := by decide +kernel
theorem dX4_notedStateOf_13 : decode cX4_notedStateOf 13 = .ok (.goto 4, 3) := by decide +kernel
theorem dX4_notedStateOf_16 : decode cX4_notedStateOf 16 = .ok (.iconst (-1), 1) := by decide +kernel
theorem dX4_notedStateOf_17 : decode cX4_notedStateOf 17 = .ok (.ireturn, 1) := by decide +kernel
set_option maxRecDepth 20000 in
theorem ggX4_longestNotTaken_X4_isStep : GoodIn wsX4_longestNotTaken wsX4_isStep := goodIn_ca (goodIn_r _ [6, 7, 8, 5, 9, 10, 11, 12, 13, 14, 15, 16, 17, 18, 19, 20, 21, 22, 23, 24, 25, 26, 27, 28, 29, 30, 31, 32] (by decide +kernel) (by decide +kernel)) (goodIn_sub (fun _ h => List.mem_cons_of_mem _ (List.mem_append_right _ h)) (by decide +kernel))
set_option maxRecDepth 20000 in
theorem gX4_longestNotTaken_X4_isStep : GoodIn wsX4_longestNotTaken (wsV RX4 67 RX4 yX4_isStep wsX4_isStep) := goodIn_app (goodIn_of _ (by decide +kernel)) ggX4_longestNotTaken_X4_isStep
set_option maxRecDepth 20000 in
theorem ggX4_longestNotTaken_X4_isPlace : GoodIn wsX4_longestNotTaken wsX4_isPlace := goodIn_r _ [9] (by decide +kernel) (by decide +kernel)
set_option maxRecDepth 20000 in
theorem gX4_longestNotTaken_X4_isPlace : GoodIn wsX4_longestNotTaken (va_wsS RX4 51 yX4_isPlace wsX4_isPlace) := goodIn_app (goodIn_of _ (by decide +kernel)) ggX4_longestNotTaken_X4_isPlace
theorem dX4_longestNotTaken_0 : decode cX4_longestNotTaken 0 = .ok (.iconst (-1), 1) := by decide +kernel
theorem dX4_longestNotTaken_1 : decode cX4_longestNotTaken 1 = .ok (.istore_n 1, 1) := by decide +kernel
theorem dX4_longestNotTaken_2 : decode cX4_longestNotTaken 2 = .ok (.iconst 0, 1) := by decide +kernel
theorem dX4_longestNotTaken_3 : decode cX4_longestNotTaken 3 = .ok (.istore_n 2, 1) := by decide +kernel
theorem dX4_longestNotTaken_4 : decode cX4_longestNotTaken 4 = .ok (.iload_n 2, 1) := by decide +kernel
theorem dX4_longestNotTaken_5 : decode cX4_longestNotTaken 5 = .ok (.bipush 48, 2) := by decide +kernel
theorem dX4_longestNotTaken_7 : decode cX4_longestNotTaken 7 = .ok (.if_icmp .ge 41, 3) := by decide +kernel
theorem dX4_longestNotTaken_10 : decode cX4_longestNotTaken 10 = .ok (.aload_n 0, 1) := by decide +kernel
theorem dX4_longestNotTaken_11 : decode cX4_longestNotTaken 11 = .ok (.iload_n 2, 1) := by decide +kernel
theorem dX4_longestNotTaken_12 : decode cX4_longestNotTaken 12 = .ok (.invokevirtual 67, 3) := by decide +kernel
theorem dX4_longestNotTaken_15 : decode cX4_longestNotTaken 15 = .ok (.ifCond .eq 27, 3) := by decide +kernel
theorem dX4_longestNotTaken_18 : decode cX4_longestNotTaken 18 = .ok (.iload_n 1, 1) := by decide +kernel
theorem dX4_longestNotTaken_19 : decode cX4_longestNotTaken 19 = .ok (.invokestatic 51, 3) := by decide +kernel
theorem dX4_longestNotTaken_22 : decode cX4_longestNotTaken 22 = .ok (.ifCond .eq 18, 3) := by decide +kernel
theorem dX4_longestNotTaken_25 : decode cX4_longestNotTaken 25 = .ok (.aload_n 0, 1) := by decide +kernel
theorem dX4_longestNotTaken_26 : decode cX4_longestNotTaken 26 = .ok (.getfield 33, 3) := by decide +kernel
theorem dX4_longestNotTaken_29 : decode cX4_longestNotTaken 29 = .ok (.iload_n 2, 1) := by decide +kernel
theorem dX4_longestNotTaken_30 : decode cX4_longestNotTaken 30 = .ok (.iaload, 1) := by decide +kernel
theorem dX4_longestNotTaken_31 : decode cX4_longestNotTaken 31 = .ok (.aload_n 0, 1) := by decide +kernel
theorem dX4_longestNotTaken_32 : decode cX4_longestNotTaken 32 = .ok (.getfield 33, 3) := by decide +kernel
theorem dX4_longestNotTaken_35 : decode cX4_longestNotTaken 35 = .ok (.iload_n 1, 1) := by decide +kernel
theorem dX4_longestNotTaken_36 : decode cX4_longestNotTaken 36 = .ok (.iaload, 1) := by decide +kernel
theorem dX4_longestNotTaken_37 : decode cX4_longestNotTaken 37 = .ok (.if_icmp .ge 5, 3) := by decide +kernel
theorem dX4_longestNotTaken_40 : decode cX4_longestNotTaken 40 = .ok (.iload_n 2, 1) := by decide +kernel
theorem dX4_longestNotTaken_41 : decode cX4_longestNotTaken 41 = .ok (.istore_n 1, 1) := by decide +kernel
theorem dX4_longestNotTaken_42 : decode cX4_longestNotTaken 42 = .ok (.iinc 2 1, 3) := by decide +kernel
theorem dX4_longestNotTaken_45 : decode cX4_longestNotTaken 45 = .ok (.goto (-41), 3) := by decide +kernel
theorem dX4_longestNotTaken_48 : decode cX4_longestNotTaken 48 = .ok (.iload_n 1, 1) := by decide +kernel
theorem dX4_longestNotTaken_49 : decode cX4_longestNotTaken 49 = .ok (.ireturn, 1) := by decide +kernel
set_option maxRecDepth 20000 in
theorem ggX4_isStep_X4_isPlace : GoodIn wsX4_isStep wsX4_isPlace := goodIn_r _ [4] (by decide +kernel) (by decide +kernel)
set_option maxRecDepth 20000 in
theorem gX4_isStep_X4_isPlace : GoodIn wsX4_isStep (va_wsS RX4 51 yX4_isPlace wsX4_isPlace) := goodIn_app (goodIn_of _ (by decide +kernel)) ggX4_isStep_X4_isPlace
set_option maxRecDepth 20000 in
theorem ggX4_isStep_X5_stepNumber : GoodIn wsX4_isStep wsX5_stepNumber := goodIn_r _ [7] (by decide +kernel) (by decide +kernel)
set_option maxRecDepth 20000 in
theorem gX4_isStep_X5_stepNumber_n70 : GoodIn wsX4_isStep (wsX5_stepNumber) := ggX4_isStep_X5_stepNumber
set_option maxRecDepth 20000 in
theorem ggX4_isStep_X4_stepCount : GoodIn wsX4_isStep wsX4_stepCount := goodIn_ca (goodIn_r _ [11, 12, 13, 14, 15, 3, 16, 17, 18, 19, 20, 21, 22, 23, 24, 25, 26, 27] (by decide +kernel) (by decide +kernel)) (goodIn_sub (fun _ h => List.mem_cons_of_mem _ (List.mem_append_right _ h)) (by decide +kernel))
set_option maxRecDepth 20000 in
theorem gX4_isStep_X4_stepCount : GoodIn wsX4_isStep (wsV RX4 58 RX4 yX4_stepCount wsX4_stepCount) := goodIn_app (goodIn_of _ (by decide +kernel)) ggX4_isStep_X4_stepCount
theorem dX4_isStep_0 : decode cX4_isStep 0 = .ok (.iload_n 1, 1) := by decide +kernel
theorem dX4_isStep_1 : decode cX4_isStep 1 = .ok (.invokestatic 51, 3) := by decide +kernel
theorem dX4_isStep_4 : decode cX4_isStep 4 = .ok (.ifCond .eq 22, 3) := by decide +kernel
theorem dX4_isStep_7 : decode cX4_isStep 7 = .ok (.iload_n 1, 1) := by decide +kernel
theorem dX4_isStep_8 : decode cX4_isStep 8 = .ok (.invokestatic 70, 3) := by decide +kernel
theorem dX4_isStep_11 : decode cX4_isStep 11 = .ok (.aload_n 0, 1) := by decide +kernel
theorem dX4_isStep_12 : decode cX4_isStep 12 = .ok (.iload_n 1, 1) := by decide +kernel
theorem dX4_isStep_13 : decode cX4_isStep 13 = .ok (.bipush 8, 2) := by decide +kernel
theorem dX4_isStep_15 : decode cX4_isStep 15 = .ok (.idiv, 1) := by decide +kernel
theorem dX4_isStep_16 : decode cX4_isStep 16 = .ok (.invokevirtual 58, 3) := by decide +kernel
theorem dX4_isStep_19 : decode cX4_isStep 19 = .ok (.if_icmp .ge 7, 3) := by decide +kernel
theorem dX4_isStep_22 : decode cX4_isStep 22 = .ok (.iconst 1, 1) := by decide +kernel
theorem dX4_isStep_23 : decode cX4_isStep 23 = .ok (.goto 4, 3) := by decide +kernel
theorem dX4_isStep_26 : decode cX4_isStep 26 = .ok (.iconst 0, 1) := by decide +kernel
theorem dX4_isStep_27 : decode cX4_isStep 27 = .ok (.ireturn, 1) := by decide +kernel
theorem dX4_isPlace_0 : decode cX4_isPlace 0 = .ok (.iload_n 0, 1) := by decide +kernel
theorem dX4_isPlace_1 : decode cX4_isPlace 1 = .ok (.ifCond .lt 13, 3) := by decide +kernel
theorem dX4_isPlace_4 : decode cX4_isPlace 4 = .ok (.iload_n 0, 1) := by decide +kernel
theorem dX4_isPlace_5 : decode cX4_isPlace 5 = .ok (.bipush 48, 2) := by decide +kernel
theorem dX4_isPlace_7 : decode cX4_isPlace 7 = .ok (.if_icmp .ge 7, 3) := by decide +kernel
theorem dX4_isPlace_10 : decode cX4_isPlace 10 = .ok (.iconst 1, 1) := by decide +kernel
theorem dX4_isPlace_11 : decode cX4_isPlace 11 = .ok (.goto 4, 3) := by decide +kernel
theorem dX4_isPlace_14 : decode cX4_isPlace 14 = .ok (.iconst 0, 1) := by decide +kernel
theorem dX4_isPlace_15 : decode cX4_isPlace 15 = .ok (.ireturn, 1) := by decide +kernel
