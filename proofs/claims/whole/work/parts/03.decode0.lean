theorem dX0_init_0 : decode cX0_init 0 = .ok (.aload_n 0, 1) := by decide +kernel
theorem dX0_init_1 : decode cX0_init 1 = .ok (.invokespecial 3, 3) := by decide +kernel
theorem dX0_init_4 : decode cX0_init 4 = .ok (.aload_n 0, 1) := by decide +kernel
theorem dX0_init_5 : decode cX0_init 5 = .ok (.bipush 10, 2) := by decide +kernel
theorem dX0_init_7 : decode cX0_init 7 = .ok (.newarray .int, 2) := by decide +kernel
theorem dX0_init_9 : decode cX0_init 9 = .ok (.putfield 9, 3) := by decide +kernel
theorem dX0_init_12 : decode cX0_init 12 = .ok (.aload_n 0, 1) := by decide +kernel
theorem dX0_init_13 : decode cX0_init 13 = .ok (.iconst 0, 1) := by decide +kernel
theorem dX0_init_14 : decode cX0_init 14 = .ok (.putfield 15, 3) := by decide +kernel
theorem dX0_init_17 : decode cX0_init 17 = .ok (.aload_n 0, 1) := by decide +kernel
theorem dX0_init_18 : decode cX0_init 18 = .ok (.aload_n 1, 1) := by decide +kernel
theorem dX0_init_19 : decode cX0_init 19 = .ok (.putfield 19, 3) := by decide +kernel
theorem dX0_init_22 : decode cX0_init 22 = .ok (.return_, 1) := by decide +kernel
theorem dX0_isOpen_0 : decode cX0_isOpen 0 = .ok (.aload_n 0, 1) := by decide +kernel
theorem dX0_isOpen_1 : decode cX0_isOpen 1 = .ok (.getfield 15, 3) := by decide +kernel
theorem dX0_isOpen_4 : decode cX0_isOpen 4 = .ok (.ireturn, 1) := by decide +kernel
theorem dX0_open_0 : decode cX0_open 0 = .ok (.iconst 0, 1) := by decide +kernel
theorem dX0_open_1 : decode cX0_open 1 = .ok (.istore_n 1, 1) := by decide +kernel
theorem dX0_open_2 : decode cX0_open 2 = .ok (.iload_n 1, 1) := by decide +kernel
theorem dX0_open_3 : decode cX0_open 3 = .ok (.aload_n 0, 1) := by decide +kernel
theorem dX0_open_4 : decode cX0_open 4 = .ok (.getfield 9, 3) := by decide +kernel
theorem dX0_open_7 : decode cX0_open 7 = .ok (.arraylength, 1) := by decide +kernel
theorem dX0_open_8 : decode cX0_open 8 = .ok (.if_icmp .ge 16, 3) := by decide +kernel
theorem dX0_open_11 : decode cX0_open 11 = .ok (.aload_n 0, 1) := by decide +kernel
theorem dX0_open_12 : decode cX0_open 12 = .ok (.getfield 9, 3) := by decide +kernel
theorem dX0_open_15 : decode cX0_open 15 = .ok (.iload_n 1, 1) := by decide +kernel
theorem dX0_open_16 : decode cX0_open 16 = .ok (.iconst 0, 1) := by decide +kernel
theorem dX0_open_17 : decode cX0_open 17 = .ok (.iastore, 1) := by decide +kernel
theorem dX0_open_18 : decode cX0_open 18 = .ok (.iinc 1 1, 3) := by decide +kernel
theorem dX0_open_21 : decode cX0_open 21 = .ok (.goto (-19), 3) := by decide +kernel
theorem dX0_open_24 : decode cX0_open 24 = .ok (.aload_n 0, 1) := by decide +kernel
theorem dX0_open_25 : decode cX0_open 25 = .ok (.iconst 1, 1) := by decide +kernel
theorem dX0_open_26 : decode cX0_open 26 = .ok (.putfield 15, 3) := by decide +kernel
theorem dX0_open_29 : decode cX0_open 29 = .ok (.return_, 1) := by decide +kernel
theorem dX0_shut_0 : decode cX0_shut 0 = .ok (.aload_n 0, 1) := by decide +kernel
theorem dX0_shut_1 : decode cX0_shut 1 = .ok (.iconst 0, 1) := by decide +kernel
theorem dX0_shut_2 : decode cX0_shut 2 = .ok (.putfield 15, 3) := by decide +kernel
theorem dX0_shut_5 : decode cX0_shut 5 = .ok (.return_, 1) := by decide +kernel
theorem dX0_saidBy_0 : decode cX0_saidBy 0 = .ok (.aload_n 0, 1) := by decide +kernel
theorem dX0_saidBy_1 : decode cX0_saidBy 1 = .ok (.getfield 9, 3) := by decide +kernel
theorem dX0_saidBy_4 : decode cX0_saidBy 4 = .ok (.iload_n 1, 1) := by decide +kernel
theorem dX0_saidBy_5 : decode cX0_saidBy 5 = .ok (.invokestatic 23, 3) := by decide +kernel
theorem dX0_saidBy_8 : decode cX0_saidBy 8 = .ok (.ireturn, 1) := by decide +kernel
theorem dX0_mark_0 : decode cX0_mark 0 = .ok (.aload_n 0, 1) := by decide +kernel
theorem dX0_mark_1 : decode cX0_mark 1 = .ok (.getfield 9, 3) := by decide +kernel
theorem dX0_mark_4 : decode cX0_mark 4 = .ok (.iload_n 1, 1) := by decide +kernel
theorem dX0_mark_5 : decode cX0_mark 5 = .ok (.iload_n 2, 1) := by decide +kernel
theorem dX0_mark_6 : decode cX0_mark 6 = .ok (.invokestatic 27, 3) := by decide +kernel
theorem dX0_mark_9 : decode cX0_mark 9 = .ok (.return_, 1) := by decide +kernel
theorem dX0_count_0 : decode cX0_count 0 = .ok (.iconst 0, 1) := by decide +kernel
theorem dX0_count_1 : decode cX0_count 1 = .ok (.istore_n 2, 1) := by decide +kernel
theorem dX0_count_2 : decode cX0_count 2 = .ok (.iconst 0, 1) := by decide +kernel
theorem dX0_count_3 : decode cX0_count 3 = .ok (.istore_n 3, 1) := by decide +kernel
theorem dX0_count_4 : decode cX0_count 4 = .ok (.iload_n 3, 1) := by decide +kernel
theorem dX0_count_5 : decode cX0_count 5 = .ok (.aload_n 0, 1) := by decide +kernel
theorem dX0_count_6 : decode cX0_count 6 = .ok (.getfield 19, 3) := by decide +kernel
theorem dX0_count_9 : decode cX0_count 9 = .ok (.invokevirtual 31, 3) := by decide +kernel
theorem dX0_count_12 : decode cX0_count 12 = .ok (.if_icmp .ge 32, 3) := by decide +kernel
theorem dX0_count_15 : decode cX0_count 15 = .ok (.aload_n 0, 1) := by decide +kernel
theorem dX0_count_16 : decode cX0_count 16 = .ok (.getfield 19, 3) := by decide +kernel
theorem dX0_count_19 : decode cX0_count 19 = .ok (.iload_n 3, 1) := by decide +kernel
theorem dX0_count_20 : decode cX0_count 20 = .ok (.invokevirtual 37, 3) := by decide +kernel
theorem dX0_count_23 : decode cX0_count 23 = .ok (.ifCond .eq 15, 3) := by decide +kernel
theorem dX0_count_26 : decode cX0_count 26 = .ok (.aload_n 0, 1) := by decide +kernel
theorem dX0_count_27 : decode cX0_count 27 = .ok (.iload_n 3, 1) := by decide +kernel
theorem dX0_count_28 : decode cX0_count 28 = .ok (.invokevirtual 41, 3) := by decide +kernel
theorem dX0_count_31 : decode cX0_count 31 = .ok (.iload_n 1, 1) := by decide +kernel
theorem dX0_count_32 : decode cX0_count 32 = .ok (.if_icmp .ne 6, 3) := by decide +kernel
theorem dX0_count_35 : decode cX0_count 35 = .ok (.iinc 2 1, 3) := by decide +kernel
theorem dX0_count_38 : decode cX0_count 38 = .ok (.iinc 3 1, 3) := by decide +kernel
theorem dX0_count_41 : decode cX0_count 41 = .ok (.goto (-37), 3) := by decide +kernel
theorem dX0_count_44 : decode cX0_count 44 = .ok (.iload_n 2, 1) := by decide +kernel
theorem dX0_count_45 : decode cX0_count 45 = .ok (.ireturn, 1) := by decide +kernel
theorem dX1_init_0 : decode cX1_init 0 = .ok (.aload_n 0, 1) := by decide +kernel
theorem dX1_init_1 : decode cX1_init 1 = .ok (.invokespecial 3, 3) := by decide +kernel
theorem dX1_init_4 : decode cX1_init 4 = .ok (.aload_n 0, 1) := by decide +kernel
theorem dX1_init_5 : decode cX1_init 5 = .ok (.iconst 5, 1) := by decide +kernel
theorem dX1_init_6 : decode cX1_init 6 = .ok (.newarray .int, 2) := by decide +kernel
theorem dX1_init_8 : decode cX1_init 8 = .ok (.putfield 9, 3) := by decide +kernel
theorem dX1_init_11 : decode cX1_init 11 = .ok (.aload_n 0, 1) := by decide +kernel
theorem dX1_init_12 : decode cX1_init 12 = .ok (.iconst 5, 1) := by decide +kernel
theorem dX1_init_13 : decode cX1_init 13 = .ok (.newarray .int, 2) := by decide +kernel
theorem dX1_init_15 : decode cX1_init 15 = .ok (.putfield 15, 3) := by decide +kernel
theorem dX1_init_18 : decode cX1_init 18 = .ok (.aload_n 0, 1) := by decide +kernel
theorem dX1_init_19 : decode cX1_init 19 = .ok (.iconst 5, 1) := by decide +kernel
theorem dX1_init_20 : decode cX1_init 20 = .ok (.newarray .int, 2) := by decide +kernel
theorem dX1_init_22 : decode cX1_init 22 = .ok (.putfield 18, 3) := by decide +kernel
theorem dX1_init_25 : decode cX1_init 25 = .ok (.aload_n 0, 1) := by decide +kernel
theorem dX1_init_26 : decode cX1_init 26 = .ok (.iconst 5, 1) := by decide +kernel
theorem dX1_init_27 : decode cX1_init 27 = .ok (.newarray .int, 2) := by decide +kernel
theorem dX1_init_29 : decode cX1_init 29 = .ok (.putfield 21, 3) := by decide +kernel
theorem dX1_init_32 : decode cX1_init 32 = .ok (.aload_n 0, 1) := by decide +kernel
theorem dX1_init_33 : decode cX1_init 33 = .ok (.iconst 3, 1) := by decide +kernel
theorem dX1_init_34 : decode cX1_init 34 = .ok (.newarray .int, 2) := by decide +kernel
theorem dX1_init_36 : decode cX1_init 36 = .ok (.dup, 1) := by decide +kernel
theorem dX1_init_37 : decode cX1_init 37 = .ok (.iconst 0, 1) := by decide +kernel
theorem dX1_init_38 : decode cX1_init 38 = .ok (.bipush 10, 2) := by decide +kernel
theorem dX1_init_40 : decode cX1_init 40 = .ok (.iastore, 1) := by decide +kernel
theorem dX1_init_41 : decode cX1_init 41 = .ok (.dup, 1) := by decide +kernel
theorem dX1_init_42 : decode cX1_init 42 = .ok (.iconst 1, 1) := by decide +kernel
theorem dX1_init_43 : decode cX1_init 43 = .ok (.iconst 4, 1) := by decide +kernel
theorem dX1_init_44 : decode cX1_init 44 = .ok (.iastore, 1) := by decide +kernel
theorem dX1_init_45 : decode cX1_init 45 = .ok (.dup, 1) := by decide +kernel
theorem dX1_init_46 : decode cX1_init 46 = .ok (.iconst 2, 1) := by decide +kernel
theorem dX1_init_47 : decode cX1_init 47 = .ok (.iconst 2, 1) := by decide +kernel
theorem dX1_init_48 : decode cX1_init 48 = .ok (.iastore, 1) := by decide +kernel
theorem dX1_init_49 : decode cX1_init 49 = .ok (.putfield 24, 3) := by decide +kernel
theorem dX1_init_52 : decode cX1_init 52 = .ok (.aload_n 0, 1) := by decide +kernel
theorem dX1_init_53 : decode cX1_init 53 = .ok (.iconst 0, 1) := by decide +kernel
theorem dX1_init_54 : decode cX1_init 54 = .ok (.putfield 27, 3) := by decide +kernel
theorem dX1_init_57 : decode cX1_init 57 = .ok (.return_, 1) := by decide +kernel
theorem dX1_isHeld_0 : decode cX1_isHeld 0 = .ok (.aload_n 0, 1) := by decide +kernel
theorem dX1_isHeld_1 : decode cX1_isHeld 1 = .ok (.getfield 27, 3) := by decide +kernel
theorem dX1_isHeld_4 : decode cX1_isHeld 4 = .ok (.ifCond .le 7, 3) := by decide +kernel
theorem dX1_isHeld_7 : decode cX1_isHeld 7 = .ok (.iconst 1, 1) := by decide +kernel
theorem dX1_isHeld_8 : decode cX1_isHeld 8 = .ok (.goto 4, 3) := by decide +kernel
theorem dX1_isHeld_11 : decode cX1_isHeld 11 = .ok (.iconst 0, 1) := by decide +kernel
theorem dX1_isHeld_12 : decode cX1_isHeld 12 = .ok (.ireturn, 1) := by decide +kernel
theorem dX1_behind_0 : decode cX1_behind 0 = .ok (.iconst 0, 1) := by decide +kernel
theorem dX1_behind_1 : decode cX1_behind 1 = .ok (.aload_n 0, 1) := by decide +kernel
theorem dX1_behind_2 : decode cX1_behind 2 = .ok (.getfield 27, 3) := by decide +kernel
theorem dX1_behind_5 : decode cX1_behind 5 = .ok (.iconst 1, 1) := by decide +kernel
theorem dX1_behind_6 : decode cX1_behind 6 = .ok (.isub, 1) := by decide +kernel
theorem dX1_behind_7 : decode cX1_behind 7 = .ok (.invokestatic 31, 3) := by decide +kernel
theorem dX1_behind_10 : decode cX1_behind 10 = .ok (.ireturn, 1) := by decide +kernel
theorem dX1_holder_0 : decode cX1_holder 0 = .ok (.aload_n 0, 1) := by decide +kernel
theorem dX1_holder_1 : decode cX1_holder 1 = .ok (.invokevirtual 37, 3) := by decide +kernel
theorem dX1_holder_4 : decode cX1_holder 4 = .ok (.ifCond .eq 19, 3) := by decide +kernel
theorem dX1_holder_7 : decode cX1_holder 7 = .ok (.aload_n 0, 1) := by decide +kernel
theorem dX1_holder_8 : decode cX1_holder 8 = .ok (.getfield 9, 3) := by decide +kernel
theorem dX1_holder_11 : decode cX1_holder 11 = .ok (.aload_n 0, 1) := by decide +kernel
theorem dX1_holder_12 : decode cX1_holder 12 = .ok (.getfield 27, 3) := by decide +kernel
theorem dX1_holder_15 : decode cX1_holder 15 = .ok (.iconst 1, 1) := by decide +kernel
theorem dX1_holder_16 : decode cX1_holder 16 = .ok (.isub, 1) := by decide +kernel
theorem dX1_holder_17 : decode cX1_holder 17 = .ok (.invokestatic 41, 3) := by decide +kernel
theorem dX1_holder_20 : decode cX1_holder 20 = .ok (.goto 4, 3) := by decide +kernel
theorem dX1_holder_23 : decode cX1_holder 23 = .ok (.iconst (-1), 1) := by decide +kernel
theorem dX1_holder_24 : decode cX1_holder 24 = .ok (.ireturn, 1) := by decide +kernel
theorem dX1_sortHeld_0 : decode cX1_sortHeld 0 = .ok (.aload_n 0, 1) := by decide +kernel
theorem dX1_sortHeld_1 : decode cX1_sortHeld 1 = .ok (.getfield 15, 3) := by decide +kernel
theorem dX1_sortHeld_4 : decode cX1_sortHeld 4 = .ok (.aload_n 0, 1) := by decide +kernel
theorem dX1_sortHeld_5 : decode cX1_sortHeld 5 = .ok (.getfield 27, 3) := by decide +kernel
theorem dX1_sortHeld_8 : decode cX1_sortHeld 8 = .ok (.iconst 1, 1) := by decide +kernel
theorem dX1_sortHeld_9 : decode cX1_sortHeld 9 = .ok (.isub, 1) := by decide +kernel
theorem dX1_sortHeld_10 : decode cX1_sortHeld 10 = .ok (.invokestatic 41, 3) := by decide +kernel
theorem dX1_sortHeld_13 : decode cX1_sortHeld 13 = .ok (.ireturn, 1) := by decide +kernel
theorem dX1_ticksLeft_0 : decode cX1_ticksLeft 0 = .ok (.aload_n 0, 1) := by decide +kernel
theorem dX1_ticksLeft_1 : decode cX1_ticksLeft 1 = .ok (.getfield 18, 3) := by decide +kernel
theorem dX1_ticksLeft_4 : decode cX1_ticksLeft 4 = .ok (.aload_n 0, 1) := by decide +kernel
theorem dX1_ticksLeft_5 : decode cX1_ticksLeft 5 = .ok (.getfield 27, 3) := by decide +kernel
theorem dX1_ticksLeft_8 : decode cX1_ticksLeft 8 = .ok (.iconst 1, 1) := by decide +kernel
theorem dX1_ticksLeft_9 : decode cX1_ticksLeft 9 = .ok (.isub, 1) := by decide +kernel
theorem dX1_ticksLeft_10 : decode cX1_ticksLeft 10 = .ok (.invokestatic 41, 3) := by decide +kernel
theorem dX1_ticksLeft_13 : decode cX1_ticksLeft 13 = .ok (.ireturn, 1) := by decide +kernel
theorem dX1_ticksHad_0 : decode cX1_ticksHad 0 = .ok (.aload_n 0, 1) := by decide +kernel
theorem dX1_ticksHad_1 : decode cX1_ticksHad 1 = .ok (.getfield 21, 3) := by decide +kernel
theorem dX1_ticksHad_4 : decode cX1_ticksHad 4 = .ok (.aload_n 0, 1) := by decide +kernel
theorem dX1_ticksHad_5 : decode cX1_ticksHad 5 = .ok (.getfield 27, 3) := by decide +kernel
theorem dX1_ticksHad_8 : decode cX1_ticksHad 8 = .ok (.iconst 1, 1) := by decide +kernel
theorem dX1_ticksHad_9 : decode cX1_ticksHad 9 = .ok (.isub, 1) := by decide +kernel
theorem dX1_ticksHad_10 : decode cX1_ticksHad 10 = .ok (.invokestatic 41, 3) := by decide +kernel
theorem dX1_ticksHad_13 : decode cX1_ticksHad 13 = .ok (.ireturn, 1) := by decide +kernel
theorem dX1_limitOf_0 : decode cX1_limitOf 0 = .ok (.aload_n 0, 1) := by decide +kernel
theorem dX1_limitOf_1 : decode cX1_limitOf 1 = .ok (.getfield 24, 3) := by decide +kernel
theorem dX1_limitOf_4 : decode cX1_limitOf 4 = .ok (.iload_n 1, 1) := by decide +kernel
theorem dX1_limitOf_5 : decode cX1_limitOf 5 = .ok (.invokestatic 41, 3) := by decide +kernel
theorem dX1_limitOf_8 : decode cX1_limitOf 8 = .ok (.ireturn, 1) := by decide +kernel
theorem dX1_setLimit_0 : decode cX1_setLimit 0 = .ok (.aload_n 0, 1) := by decide +kernel
theorem dX1_setLimit_1 : decode cX1_setLimit 1 = .ok (.getfield 24, 3) := by decide +kernel
theorem dX1_setLimit_4 : decode cX1_setLimit 4 = .ok (.iload_n 1, 1) := by decide +kernel
theorem dX1_setLimit_5 : decode cX1_setLimit 5 = .ok (.iload_n 2, 1) := by decide +kernel
theorem dX1_setLimit_6 : decode cX1_setLimit 6 = .ok (.invokestatic 45, 3) := by decide +kernel
theorem dX1_setLimit_9 : decode cX1_setLimit 9 = .ok (.return_, 1) := by decide +kernel
theorem dX1_push_0 : decode cX1_push 0 = .ok (.aload_n 0, 1) := by decide +kernel
theorem dX1_push_1 : decode cX1_push 1 = .ok (.getfield 27, 3) := by decide +kernel
theorem dX1_push_4 : decode cX1_push 4 = .ok (.iconst 4, 1) := by decide +kernel
theorem dX1_push_5 : decode cX1_push 5 = .ok (.if_icmp .gt 61, 3) := by decide +kernel
theorem dX1_push_8 : decode cX1_push 8 = .ok (.aload_n 0, 1) := by decide +kernel
theorem dX1_push_9 : decode cX1_push 9 = .ok (.getfield 9, 3) := by decide +kernel
theorem dX1_push_12 : decode cX1_push 12 = .ok (.aload_n 0, 1) := by decide +kernel
theorem dX1_push_13 : decode cX1_push 13 = .ok (.getfield 27, 3) := by decide +kernel
theorem dX1_push_16 : decode cX1_push 16 = .ok (.iload_n 1, 1) := by decide +kernel
theorem dX1_push_17 : decode cX1_push 17 = .ok (.invokestatic 45, 3) := by decide +kernel
theorem dX1_push_20 : decode cX1_push 20 = .ok (.aload_n 0, 1) := by decide +kernel
theorem dX1_push_21 : decode cX1_push 21 = .ok (.getfield 15, 3) := by decide +kernel
theorem dX1_push_24 : decode cX1_push 24 = .ok (.aload_n 0, 1) := by decide +kernel
theorem dX1_push_25 : decode cX1_push 25 = .ok (.getfield 27, 3) := by decide +kernel
theorem dX1_push_28 : decode cX1_push 28 = .ok (.iload_n 2, 1) := by decide +kernel
theorem dX1_push_29 : decode cX1_push 29 = .ok (.invokestatic 45, 3) := by decide +kernel
theorem dX1_push_32 : decode cX1_push 32 = .ok (.aload_n 0, 1) := by decide +kernel
theorem dX1_push_33 : decode cX1_push 33 = .ok (.getfield 18, 3) := by decide +kernel
theorem dX1_push_36 : decode cX1_push 36 = .ok (.aload_n 0, 1) := by decide +kernel
theorem dX1_push_37 : decode cX1_push 37 = .ok (.getfield 27, 3) := by decide +kernel
theorem dX1_push_40 : decode cX1_push 40 = .ok (.iload_n 3, 1) := by decide +kernel
theorem dX1_push_41 : decode cX1_push 41 = .ok (.invokestatic 45, 3) := by decide +kernel
theorem dX1_push_44 : decode cX1_push 44 = .ok (.aload_n 0, 1) := by decide +kernel
theorem dX1_push_45 : decode cX1_push 45 = .ok (.getfield 21, 3) := by decide +kernel
theorem dX1_push_48 : decode cX1_push 48 = .ok (.aload_n 0, 1) := by decide +kernel
theorem dX1_push_49 : decode cX1_push 49 = .ok (.getfield 27, 3) := by decide +kernel
theorem dX1_push_52 : decode cX1_push 52 = .ok (.iconst 0, 1) := by decide +kernel
theorem dX1_push_53 : decode cX1_push 53 = .ok (.invokestatic 45, 3) := by decide +kernel
theorem dX1_push_56 : decode cX1_push 56 = .ok (.aload_n 0, 1) := by decide +kernel
theorem dX1_push_57 : decode cX1_push 57 = .ok (.dup, 1) := by decide +kernel
theorem dX1_push_58 : decode cX1_push 58 = .ok (.getfield 27, 3) := by decide +kernel
theorem dX1_push_61 : decode cX1_push 61 = .ok (.iconst 1, 1) := by decide +kernel
theorem dX1_push_62 : decode cX1_push 62 = .ok (.iadd, 1) := by decide +kernel
theorem dX1_push_63 : decode cX1_push 63 = .ok (.putfield 27, 3) := by decide +kernel
theorem dX1_push_66 : decode cX1_push 66 = .ok (.return_, 1) := by decide +kernel
theorem dX1_pop_0 : decode cX1_pop 0 = .ok (.aload_n 0, 1) := by decide +kernel
theorem dX1_pop_1 : decode cX1_pop 1 = .ok (.getfield 27, 3) := by decide +kernel
theorem dX1_pop_4 : decode cX1_pop 4 = .ok (.ifCond .le 13, 3) := by decide +kernel
theorem dX1_pop_7 : decode cX1_pop 7 = .ok (.aload_n 0, 1) := by decide +kernel
theorem dX1_pop_8 : decode cX1_pop 8 = .ok (.dup, 1) := by decide +kernel
theorem dX1_pop_9 : decode cX1_pop 9 = .ok (.getfield 27, 3) := by decide +kernel
theorem dX1_pop_12 : decode cX1_pop 12 = .ok (.iconst 1, 1) := by decide +kernel
theorem dX1_pop_13 : decode cX1_pop 13 = .ok (.isub, 1) := by decide +kernel
theorem dX1_pop_14 : decode cX1_pop 14 = .ok (.putfield 27, 3) := by decide +kernel
theorem dX1_pop_17 : decode cX1_pop 17 = .ok (.return_, 1) := by decide +kernel
theorem dX1_spendTick_0 : decode cX1_spendTick 0 = .ok (.aload_n 0, 1) := by decide +kernel
theorem dX1_spendTick_1 : decode cX1_spendTick 1 = .ok (.getfield 18, 3) := by decide +kernel
theorem dX1_spendTick_4 : decode cX1_spendTick 4 = .ok (.aload_n 0, 1) := by decide +kernel
theorem dX1_spendTick_5 : decode cX1_spendTick 5 = .ok (.getfield 27, 3) := by decide +kernel
theorem dX1_spendTick_8 : decode cX1_spendTick 8 = .ok (.iconst 1, 1) := by decide +kernel
theorem dX1_spendTick_9 : decode cX1_spendTick 9 = .ok (.isub, 1) := by decide +kernel
theorem dX1_spendTick_10 : decode cX1_spendTick 10 = .ok (.aload_n 0, 1) := by decide +kernel
theorem dX1_spendTick_11 : decode cX1_spendTick 11 = .ok (.invokevirtual 49, 3) := by decide +kernel
theorem dX1_spendTick_14 : decode cX1_spendTick 14 = .ok (.iconst 1, 1) := by decide +kernel
theorem dX1_spendTick_15 : decode cX1_spendTick 15 = .ok (.isub, 1) := by decide +kernel
theorem dX1_spendTick_16 : decode cX1_spendTick 16 = .ok (.invokestatic 45, 3) := by decide +kernel
theorem dX1_spendTick_19 : decode cX1_spendTick 19 = .ok (.aload_n 0, 1) := by decide +kernel
theorem dX1_spendTick_20 : decode cX1_spendTick 20 = .ok (.getfield 21, 3) := by decide +kernel
theorem dX1_spendTick_23 : decode cX1_spendTick 23 = .ok (.aload_n 0, 1) := by decide +kernel
theorem dX1_spendTick_24 : decode cX1_spendTick 24 = .ok (.getfield 27, 3) := by decide +kernel
theorem dX1_spendTick_27 : decode cX1_spendTick 27 = .ok (.iconst 1, 1) := by decide +kernel
theorem dX1_spendTick_28 : decode cX1_spendTick 28 = .ok (.isub, 1) := by decide +kernel
theorem dX1_spendTick_29 : decode cX1_spendTick 29 = .ok (.aload_n 0, 1) := by decide +kernel
theorem dX1_spendTick_30 : decode cX1_spendTick 30 = .ok (.invokevirtual 53, 3) := by decide +kernel
theorem dX1_spendTick_33 : decode cX1_spendTick 33 = .ok (.iconst 1, 1) := by decide +kernel
theorem dX1_spendTick_34 : decode cX1_spendTick 34 = .ok (.iadd, 1) := by decide +kernel
theorem dX1_spendTick_35 : decode cX1_spendTick 35 = .ok (.invokestatic 45, 3) := by decide +kernel
theorem dX1_spendTick_38 : decode cX1_spendTick 38 = .ok (.return_, 1) := by decide +kernel
theorem dX2_init_0 : decode cX2_init 0 = .ok (.aload_n 0, 1) := by decide +kernel
theorem dX2_init_1 : decode cX2_init 1 = .ok (.invokespecial 3, 3) := by decide +kernel
theorem dX2_init_4 : decode cX2_init 4 = .ok (.aload_n 0, 1) := by decide +kernel
theorem dX2_init_5 : decode cX2_init 5 = .ok (.bipush 20, 2) := by decide +kernel
theorem dX2_init_7 : decode cX2_init 7 = .ok (.newarray .int, 2) := by decide +kernel
theorem dX2_init_9 : decode cX2_init 9 = .ok (.putfield 9, 3) := by decide +kernel
theorem dX2_init_12 : decode cX2_init 12 = .ok (.aload_n 0, 1) := by decide +kernel
theorem dX2_init_13 : decode cX2_init 13 = .ok (.iconst 0, 1) := by decide +kernel
theorem dX2_init_14 : decode cX2_init 14 = .ok (.putfield 15, 3) := by decide +kernel
theorem dX2_init_17 : decode cX2_init 17 = .ok (.aload_n 0, 1) := by decide +kernel
theorem dX2_init_18 : decode cX2_init 18 = .ok (.aload_n 1, 1) := by decide +kernel
theorem dX2_init_19 : decode cX2_init 19 = .ok (.putfield 19, 3) := by decide +kernel
theorem dX2_init_22 : decode cX2_init 22 = .ok (.aload_n 0, 1) := by decide +kernel
theorem dX2_init_23 : decode cX2_init 23 = .ok (.aload_n 2, 1) := by decide +kernel
theorem dX2_init_24 : decode cX2_init 24 = .ok (.putfield 23, 3) := by decide +kernel
theorem dX2_init_27 : decode cX2_init 27 = .ok (.aload_n 0, 1) := by decide +kernel
theorem dX2_init_28 : decode cX2_init 28 = .ok (.aload_n 3, 1) := by decide +kernel
theorem dX2_init_29 : decode cX2_init 29 = .ok (.putfield 27, 3) := by decide +kernel
theorem dX2_init_32 : decode cX2_init 32 = .ok (.return_, 1) := by decide +kernel
theorem dX2_size_0 : decode cX2_size 0 = .ok (.aload_n 0, 1) := by decide +kernel
theorem dX2_size_1 : decode cX2_size 1 = .ok (.getfield 15, 3) := by decide +kernel
theorem dX2_size_4 : decode cX2_size 4 = .ok (.ireturn, 1) := by decide +kernel
theorem dX2_askingAt_0 : decode cX2_askingAt 0 = .ok (.aload_n 0, 1) := by decide +kernel
theorem dX2_askingAt_1 : decode cX2_askingAt 1 = .ok (.getfield 9, 3) := by decide +kernel
theorem dX2_askingAt_4 : decode cX2_askingAt 4 = .ok (.iload_n 1, 1) := by decide +kernel
theorem dX2_askingAt_5 : decode cX2_askingAt 5 = .ok (.invokestatic 31, 3) := by decide +kernel
theorem dX2_askingAt_8 : decode cX2_askingAt 8 = .ok (.ireturn, 1) := by decide +kernel
theorem dX2_placeOf_0 : decode cX2_placeOf 0 = .ok (.iconst 0, 1) := by decide +kernel
theorem dX2_placeOf_1 : decode cX2_placeOf 1 = .ok (.istore_n 2, 1) := by decide +kernel
theorem dX2_placeOf_2 : decode cX2_placeOf 2 = .ok (.iload_n 2, 1) := by decide +kernel
theorem dX2_placeOf_3 : decode cX2_placeOf 3 = .ok (.aload_n 0, 1) := by decide +kernel
theorem dX2_placeOf_4 : decode cX2_placeOf 4 = .ok (.getfield 15, 3) := by decide +kernel
theorem dX2_placeOf_7 : decode cX2_placeOf 7 = .ok (.if_icmp .ge 20, 3) := by decide +kernel
theorem dX2_placeOf_10 : decode cX2_placeOf 10 = .ok (.aload_n 0, 1) := by decide +kernel
theorem dX2_placeOf_11 : decode cX2_placeOf 11 = .ok (.iload_n 2, 1) := by decide +kernel
theorem dX2_placeOf_12 : decode cX2_placeOf 12 = .ok (.invokevirtual 35, 3) := by decide +kernel
theorem dX2_placeOf_15 : decode cX2_placeOf 15 = .ok (.iload_n 1, 1) := by decide +kernel
theorem dX2_placeOf_16 : decode cX2_placeOf 16 = .ok (.if_icmp .ne 5, 3) := by decide +kernel
theorem dX2_placeOf_19 : decode cX2_placeOf 19 = .ok (.iload_n 2, 1) := by decide +kernel
theorem dX2_placeOf_20 : decode cX2_placeOf 20 = .ok (.ireturn, 1) := by decide +kernel
theorem dX2_placeOf_21 : decode cX2_placeOf 21 = .ok (.iinc 2 1, 3) := by decide +kernel
theorem dX2_placeOf_24 : decode cX2_placeOf 24 = .ok (.goto (-22), 3) := by decide +kernel
theorem dX2_placeOf_27 : decode cX2_placeOf 27 = .ok (.iconst (-1), 1) := by decide +kernel
theorem dX2_placeOf_28 : decode cX2_placeOf 28 = .ok (.ireturn, 1) := by decide +kernel
theorem dX2_lay_0 : decode cX2_lay 0 = .ok (.aload_n 0, 1) := by decide +kernel
theorem dX2_lay_1 : decode cX2_lay 1 = .ok (.iconst 0, 1) := by decide +kernel
theorem dX2_lay_2 : decode cX2_lay 2 = .ok (.putfield 15, 3) := by decide +kernel
theorem dX2_lay_5 : decode cX2_lay 5 = .ok (.iconst 0, 1) := by decide +kernel
theorem dX2_lay_6 : decode cX2_lay 6 = .ok (.istore_n 1, 1) := by decide +kernel
theorem dX2_lay_7 : decode cX2_lay 7 = .ok (.iload_n 1, 1) := by decide +kernel
theorem dX2_lay_8 : decode cX2_lay 8 = .ok (.aload_n 0, 1) := by decide +kernel
theorem dX2_lay_9 : decode cX2_lay 9 = .ok (.getfield 27, 3) := by decide +kernel
theorem dX2_lay_12 : decode cX2_lay 12 = .ok (.invokevirtual 39, 3) := by decide +kernel
theorem dX2_lay_15 : decode cX2_lay 15 = .ok (.if_icmp .ge 98, 3) := by decide +kernel
theorem dX2_lay_18 : decode cX2_lay 18 = .ok (.aload_n 0, 1) := by decide +kernel
theorem dX2_lay_19 : decode cX2_lay 19 = .ok (.getfield 19, 3) := by decide +kernel
theorem dX2_lay_22 : decode cX2_lay 22 = .ok (.aload_n 0, 1) := by decide +kernel
theorem dX2_lay_23 : decode cX2_lay 23 = .ok (.getfield 27, 3) := by decide +kernel
theorem dX2_lay_26 : decode cX2_lay 26 = .ok (.iload_n 1, 1) := by decide +kernel
theorem dX2_lay_27 : decode cX2_lay 27 = .ok (.invokevirtual 44, 3) := by decide +kernel
theorem dX2_lay_30 : decode cX2_lay 30 = .ok (.invokevirtual 47, 3) := by decide +kernel
theorem dX2_lay_33 : decode cX2_lay 33 = .ok (.ifCond .eq 74, 3) := by decide +kernel
theorem dX2_lay_36 : decode cX2_lay 36 = .ok (.aload_n 0, 1) := by decide +kernel
theorem dX2_lay_37 : decode cX2_lay 37 = .ok (.getfield 15, 3) := by decide +kernel
theorem dX2_lay_40 : decode cX2_lay 40 = .ok (.istore_n 2, 1) := by decide +kernel
theorem dX2_lay_41 : decode cX2_lay 41 = .ok (.iload_n 2, 1) := by decide +kernel
theorem dX2_lay_42 : decode cX2_lay 42 = .ok (.ifCond .le 46, 3) := by decide +kernel
theorem dX2_lay_45 : decode cX2_lay 45 = .ok (.aload_n 0, 1) := by decide +kernel
theorem dX2_lay_46 : decode cX2_lay 46 = .ok (.getfield 23, 3) := by decide +kernel
theorem dX2_lay_49 : decode cX2_lay 49 = .ok (.aload_n 0, 1) := by decide +kernel
theorem dX2_lay_50 : decode cX2_lay 50 = .ok (.getfield 27, 3) := by decide +kernel
theorem dX2_lay_53 : decode cX2_lay 53 = .ok (.iload_n 1, 1) := by decide +kernel
theorem dX2_lay_54 : decode cX2_lay 54 = .ok (.aload_n 0, 1) := by decide +kernel
theorem dX2_lay_55 : decode cX2_lay 55 = .ok (.iload_n 2, 1) := by decide +kernel
theorem dX2_lay_56 : decode cX2_lay 56 = .ok (.iconst 1, 1) := by decide +kernel
theorem dX2_lay_57 : decode cX2_lay 57 = .ok (.isub, 1) := by decide +kernel
theorem dX2_lay_58 : decode cX2_lay 58 = .ok (.invokevirtual 35, 3) := by decide +kernel
theorem dX2_lay_61 : decode cX2_lay 61 = .ok (.invokevirtual 53, 3) := by decide +kernel
theorem dX2_lay_64 : decode cX2_lay 64 = .ok (.ifCond .eq 24, 3) := by decide +kernel
theorem dX2_lay_67 : decode cX2_lay 67 = .ok (.aload_n 0, 1) := by decide +kernel
theorem dX2_lay_68 : decode cX2_lay 68 = .ok (.getfield 9, 3) := by decide +kernel
theorem dX2_lay_71 : decode cX2_lay 71 = .ok (.iload_n 2, 1) := by decide +kernel
theorem dX2_lay_72 : decode cX2_lay 72 = .ok (.aload_n 0, 1) := by decide +kernel
theorem dX2_lay_73 : decode cX2_lay 73 = .ok (.iload_n 2, 1) := by decide +kernel
theorem dX2_lay_74 : decode cX2_lay 74 = .ok (.iconst 1, 1) := by decide +kernel
theorem dX2_lay_75 : decode cX2_lay 75 = .ok (.isub, 1) := by decide +kernel
theorem dX2_lay_76 : decode cX2_lay 76 = .ok (.invokevirtual 35, 3) := by decide +kernel
theorem dX2_lay_79 : decode cX2_lay 79 = .ok (.invokestatic 59, 3) := by decide +kernel
theorem dX2_lay_82 : decode cX2_lay 82 = .ok (.iinc 2 (-1), 3) := by decide +kernel
theorem dX2_lay_85 : decode cX2_lay 85 = .ok (.goto (-44), 3) := by decide +kernel
theorem dX2_lay_88 : decode cX2_lay 88 = .ok (.aload_n 0, 1) := by decide +kernel
theorem dX2_lay_89 : decode cX2_lay 89 = .ok (.getfield 9, 3) := by decide +kernel
theorem dX2_lay_92 : decode cX2_lay 92 = .ok (.iload_n 2, 1) := by decide +kernel
theorem dX2_lay_93 : decode cX2_lay 93 = .ok (.iload_n 1, 1) := by decide +kernel
theorem dX2_lay_94 : decode cX2_lay 94 = .ok (.invokestatic 59, 3) := by decide +kernel
theorem dX2_lay_97 : decode cX2_lay 97 = .ok (.aload_n 0, 1) := by decide +kernel
theorem dX2_lay_98 : decode cX2_lay 98 = .ok (.dup, 1) := by decide +kernel
theorem dX2_lay_99 : decode cX2_lay 99 = .ok (.getfield 15, 3) := by decide +kernel
theorem dX2_lay_102 : decode cX2_lay 102 = .ok (.iconst 1, 1) := by decide +kernel
theorem dX2_lay_103 : decode cX2_lay 103 = .ok (.iadd, 1) := by decide +kernel
theorem dX2_lay_104 : decode cX2_lay 104 = .ok (.putfield 15, 3) := by decide +kernel
theorem dX2_lay_107 : decode cX2_lay 107 = .ok (.iinc 1 1, 3) := by decide +kernel
theorem dX2_lay_110 : decode cX2_lay 110 = .ok (.goto (-103), 3) := by decide +kernel
theorem dX2_lay_113 : decode cX2_lay 113 = .ok (.return_, 1) := by decide +kernel
theorem dX3_init_0 : decode cX3_init 0 = .ok (.aload_n 0, 1) := by decide +kernel
theorem dX3_init_1 : decode cX3_init 1 = .ok (.invokespecial 3, 3) := by decide +kernel
theorem dX3_init_4 : decode cX3_init 4 = .ok (.aload_n 0, 1) := by decide +kernel
theorem dX3_init_5 : decode cX3_init 5 = .ok (.bipush 100, 2) := by decide +kernel
theorem dX3_init_7 : decode cX3_init 7 = .ok (.newarray .int, 2) := by decide +kernel
theorem dX3_init_9 : decode cX3_init 9 = .ok (.putfield 9, 3) := by decide +kernel
theorem dX3_init_12 : decode cX3_init 12 = .ok (.aload_n 0, 1) := by decide +kernel
theorem dX3_init_13 : decode cX3_init 13 = .ok (.bipush 100, 2) := by decide +kernel
theorem dX3_init_15 : decode cX3_init 15 = .ok (.newarray .int, 2) := by decide +kernel
theorem dX3_init_17 : decode cX3_init 17 = .ok (.putfield 15, 3) := by decide +kernel
theorem dX3_init_20 : decode cX3_init 20 = .ok (.aload_n 0, 1) := by decide +kernel
theorem dX3_init_21 : decode cX3_init 21 = .ok (.bipush 100, 2) := by decide +kernel
theorem dX3_init_23 : decode cX3_init 23 = .ok (.newarray .int, 2) := by decide +kernel
theorem dX3_init_25 : decode cX3_init 25 = .ok (.putfield 18, 3) := by decide +kernel
theorem dX3_init_28 : decode cX3_init 28 = .ok (.aload_n 0, 1) := by decide +kernel
theorem dX3_init_29 : decode cX3_init 29 = .ok (.bipush 40, 2) := by decide +kernel
theorem dX3_init_31 : decode cX3_init 31 = .ok (.newarray .int, 2) := by decide +kernel
theorem dX3_init_33 : decode cX3_init 33 = .ok (.putfield 21, 3) := by decide +kernel
theorem dX3_init_36 : decode cX3_init 36 = .ok (.aload_n 0, 1) := by decide +kernel
theorem dX3_init_37 : decode cX3_init 37 = .ok (.bipush 40, 2) := by decide +kernel
theorem dX3_init_39 : decode cX3_init 39 = .ok (.newarray .int, 2) := by decide +kernel
theorem dX3_init_41 : decode cX3_init 41 = .ok (.putfield 24, 3) := by decide +kernel
theorem dX3_init_44 : decode cX3_init 44 = .ok (.aload_n 0, 1) := by decide +kernel
theorem dX3_init_45 : decode cX3_init 45 = .ok (.iconst 0, 1) := by decide +kernel
theorem dX3_init_46 : decode cX3_init 46 = .ok (.putfield 27, 3) := by decide +kernel
theorem dX3_init_49 : decode cX3_init 49 = .ok (.aload_n 0, 1) := by decide +kernel
theorem dX3_init_50 : decode cX3_init 50 = .ok (.iconst 0, 1) := by decide +kernel
theorem dX3_init_51 : decode cX3_init 51 = .ok (.putfield 31, 3) := by decide +kernel
theorem dX3_init_54 : decode cX3_init 54 = .ok (.return_, 1) := by decide +kernel
theorem dX3_size_0 : decode cX3_size 0 = .ok (.aload_n 0, 1) := by decide +kernel
theorem dX3_size_1 : decode cX3_size 1 = .ok (.getfield 27, 3) := by decide +kernel
theorem dX3_size_4 : decode cX3_size 4 = .ok (.bipush 100, 2) := by decide +kernel
theorem dX3_size_6 : decode cX3_size 6 = .ok (.invokestatic 34, 3) := by decide +kernel
theorem dX3_size_9 : decode cX3_size 9 = .ok (.ireturn, 1) := by decide +kernel
theorem dX3_has_0 : decode cX3_has 0 = .ok (.iload_n 1, 1) := by decide +kernel
theorem dX3_has_1 : decode cX3_has 1 = .ok (.ifCond .lt 15, 3) := by decide +kernel
theorem dX3_has_4 : decode cX3_has 4 = .ok (.iload_n 1, 1) := by decide +kernel
theorem dX3_has_5 : decode cX3_has 5 = .ok (.aload_n 0, 1) := by decide +kernel
theorem dX3_has_6 : decode cX3_has 6 = .ok (.invokevirtual 40, 3) := by decide +kernel
theorem dX3_has_9 : decode cX3_has 9 = .ok (.if_icmp .ge 7, 3) := by decide +kernel
theorem dX3_has_12 : decode cX3_has 12 = .ok (.iconst 1, 1) := by decide +kernel
theorem dX3_has_13 : decode cX3_has 13 = .ok (.goto 4, 3) := by decide +kernel
theorem dX3_has_16 : decode cX3_has 16 = .ok (.iconst 0, 1) := by decide +kernel
theorem dX3_has_17 : decode cX3_has 17 = .ok (.ireturn, 1) := by decide +kernel
theorem dX3_latestCount_0 : decode cX3_latestCount 0 = .ok (.aload_n 0, 1) := by decide +kernel
theorem dX3_latestCount_1 : decode cX3_latestCount 1 = .ok (.getfield 31, 3) := by decide +kernel
theorem dX3_latestCount_4 : decode cX3_latestCount 4 = .ok (.ireturn, 1) := by decide +kernel
theorem dX3_write_0 : decode cX3_write 0 = .ok (.aload_n 0, 1) := by decide +kernel
theorem dX3_write_1 : decode cX3_write 1 = .ok (.getfield 27, 3) := by decide +kernel
theorem dX3_write_4 : decode cX3_write 4 = .ok (.bipush 100, 2) := by decide +kernel
theorem dX3_write_6 : decode cX3_write 6 = .ok (.irem, 1) := by decide +kernel
theorem dX3_write_7 : decode cX3_write 7 = .ok (.istore 4, 2) := by decide +kernel
theorem dX3_write_9 : decode cX3_write 9 = .ok (.aload_n 0, 1) := by decide +kernel
theorem dX3_write_10 : decode cX3_write 10 = .ok (.getfield 9, 3) := by decide +kernel
theorem dX3_write_13 : decode cX3_write 13 = .ok (.iload 4, 2) := by decide +kernel
theorem dX3_write_15 : decode cX3_write 15 = .ok (.iload_n 1, 1) := by decide +kernel
theorem dX3_write_16 : decode cX3_write 16 = .ok (.invokestatic 44, 3) := by decide +kernel
theorem dX3_write_19 : decode cX3_write 19 = .ok (.aload_n 0, 1) := by decide +kernel
theorem dX3_write_20 : decode cX3_write 20 = .ok (.getfield 15, 3) := by decide +kernel
theorem dX3_write_23 : decode cX3_write 23 = .ok (.iload 4, 2) := by decide +kernel
theorem dX3_write_25 : decode cX3_write 25 = .ok (.iload_n 2, 1) := by decide +kernel
theorem dX3_write_26 : decode cX3_write 26 = .ok (.invokestatic 44, 3) := by decide +kernel
theorem dX3_write_29 : decode cX3_write 29 = .ok (.aload_n 0, 1) := by decide +kernel
theorem dX3_write_30 : decode cX3_write 30 = .ok (.getfield 18, 3) := by decide +kernel
theorem dX3_write_33 : decode cX3_write 33 = .ok (.iload 4, 2) := by decide +kernel
theorem dX3_write_35 : decode cX3_write 35 = .ok (.iload_n 3, 1) := by decide +kernel
theorem dX3_write_36 : decode cX3_write 36 = .ok (.invokestatic 44, 3) := by decide +kernel
theorem dX3_write_39 : decode cX3_write 39 = .ok (.aload_n 0, 1) := by decide +kernel
theorem dX3_write_40 : decode cX3_write 40 = .ok (.dup, 1) := by decide +kernel
theorem dX3_write_41 : decode cX3_write 41 = .ok (.getfield 27, 3) := by decide +kernel
theorem dX3_write_44 : decode cX3_write 44 = .ok (.iconst 1, 1) := by decide +kernel
theorem dX3_write_45 : decode cX3_write 45 = .ok (.iadd, 1) := by decide +kernel
theorem dX3_write_46 : decode cX3_write 46 = .ok (.putfield 27, 3) := by decide +kernel
theorem dX3_write_49 : decode cX3_write 49 = .ok (.return_, 1) := by decide +kernel
theorem dX3_memberAt_0 : decode cX3_memberAt 0 = .ok (.aload_n 0, 1) := by decide +kernel
theorem dX3_memberAt_1 : decode cX3_memberAt 1 = .ok (.getfield 9, 3) := by decide +kernel
theorem dX3_memberAt_4 : decode cX3_memberAt 4 = .ok (.aload_n 0, 1) := by decide +kernel
theorem dX3_memberAt_5 : decode cX3_memberAt 5 = .ok (.iload_n 1, 1) := by decide +kernel
theorem dX3_memberAt_6 : decode cX3_memberAt 6 = .ok (.invokevirtual 48, 3) := by decide +kernel
theorem dX3_memberAt_9 : decode cX3_memberAt 9 = .ok (.invokestatic 52, 3) := by decide +kernel
theorem dX3_memberAt_12 : decode cX3_memberAt 12 = .ok (.ireturn, 1) := by decide +kernel
theorem dX3_sortAt_0 : decode cX3_sortAt 0 = .ok (.aload_n 0, 1) := by decide +kernel
theorem dX3_sortAt_1 : decode cX3_sortAt 1 = .ok (.getfield 15, 3) := by decide +kernel
theorem dX3_sortAt_4 : decode cX3_sortAt 4 = .ok (.aload_n 0, 1) := by decide +kernel
theorem dX3_sortAt_5 : decode cX3_sortAt 5 = .ok (.iload_n 1, 1) := by decide +kernel
theorem dX3_sortAt_6 : decode cX3_sortAt 6 = .ok (.invokevirtual 48, 3) := by decide +kernel
theorem dX3_sortAt_9 : decode cX3_sortAt 9 = .ok (.invokestatic 52, 3) := by decide +kernel
theorem dX3_sortAt_12 : decode cX3_sortAt 12 = .ok (.ireturn, 1) := by decide +kernel
theorem dX3_firstTicksAt_0 : decode cX3_firstTicksAt 0 = .ok (.aload_n 0, 1) := by decide +kernel
theorem dX3_firstTicksAt_1 : decode cX3_firstTicksAt 1 = .ok (.getfield 18, 3) := by decide +kernel
theorem dX3_firstTicksAt_4 : decode cX3_firstTicksAt 4 = .ok (.aload_n 0, 1) := by decide +kernel
theorem dX3_firstTicksAt_5 : decode cX3_firstTicksAt 5 = .ok (.iload_n 1, 1) := by decide +kernel
theorem dX3_firstTicksAt_6 : decode cX3_firstTicksAt 6 = .ok (.invokevirtual 48, 3) := by decide +kernel
theorem dX3_firstTicksAt_9 : decode cX3_firstTicksAt 9 = .ok (.invokestatic 52, 3) := by decide +kernel
theorem dX3_firstTicksAt_12 : decode cX3_firstTicksAt 12 = .ok (.ireturn, 1) := by decide +kernel
theorem dX3_ticksAsOf_0 : decode cX3_ticksAsOf 0 = .ok (.aload_n 0, 1) := by decide +kernel
theorem dX3_ticksAsOf_1 : decode cX3_ticksAsOf 1 = .ok (.iload_n 1, 1) := by decide +kernel
theorem dX3_ticksAsOf_2 : decode cX3_ticksAsOf 2 = .ok (.invokevirtual 56, 3) := by decide +kernel
theorem dX3_ticksAsOf_5 : decode cX3_ticksAsOf 5 = .ok (.istore_n 3, 1) := by decide +kernel
theorem dX3_ticksAsOf_6 : decode cX3_ticksAsOf 6 = .ok (.iload_n 2, 1) := by decide +kernel
theorem dX3_ticksAsOf_7 : decode cX3_ticksAsOf 7 = .ok (.aload_n 0, 1) := by decide +kernel
theorem dX3_ticksAsOf_8 : decode cX3_ticksAsOf 8 = .ok (.getfield 31, 3) := by decide +kernel
theorem dX3_ticksAsOf_11 : decode cX3_ticksAsOf 11 = .ok (.invokestatic 34, 3) := by decide +kernel
theorem dX3_ticksAsOf_14 : decode cX3_ticksAsOf 14 = .ok (.istore 4, 2) := by decide +kernel
theorem dX3_ticksAsOf_16 : decode cX3_ticksAsOf 16 = .ok (.iload 4, 2) := by decide +kernel
theorem dX3_ticksAsOf_18 : decode cX3_ticksAsOf 18 = .ok (.ifCond .le 36, 3) := by decide +kernel
theorem dX3_ticksAsOf_21 : decode cX3_ticksAsOf 21 = .ok (.aload_n 0, 1) := by decide +kernel
theorem dX3_ticksAsOf_22 : decode cX3_ticksAsOf 22 = .ok (.getfield 21, 3) := by decide +kernel
theorem dX3_ticksAsOf_25 : decode cX3_ticksAsOf 25 = .ok (.iload 4, 2) := by decide +kernel
theorem dX3_ticksAsOf_27 : decode cX3_ticksAsOf 27 = .ok (.iconst 1, 1) := by decide +kernel
theorem dX3_ticksAsOf_28 : decode cX3_ticksAsOf 28 = .ok (.isub, 1) := by decide +kernel
theorem dX3_ticksAsOf_29 : decode cX3_ticksAsOf 29 = .ok (.invokestatic 52, 3) := by decide +kernel
theorem dX3_ticksAsOf_32 : decode cX3_ticksAsOf 32 = .ok (.iload_n 3, 1) := by decide +kernel
theorem dX3_ticksAsOf_33 : decode cX3_ticksAsOf 33 = .ok (.if_icmp .ne 15, 3) := by decide +kernel
theorem dX3_ticksAsOf_36 : decode cX3_ticksAsOf 36 = .ok (.aload_n 0, 1) := by decide +kernel
theorem dX3_ticksAsOf_37 : decode cX3_ticksAsOf 37 = .ok (.getfield 24, 3) := by decide +kernel
theorem dX3_ticksAsOf_40 : decode cX3_ticksAsOf 40 = .ok (.iload 4, 2) := by decide +kernel
theorem dX3_ticksAsOf_42 : decode cX3_ticksAsOf 42 = .ok (.iconst 1, 1) := by decide +kernel
theorem dX3_ticksAsOf_43 : decode cX3_ticksAsOf 43 = .ok (.isub, 1) := by decide +kernel
theorem dX3_ticksAsOf_44 : decode cX3_ticksAsOf 44 = .ok (.invokestatic 52, 3) := by decide +kernel
theorem dX3_ticksAsOf_47 : decode cX3_ticksAsOf 47 = .ok (.ireturn, 1) := by decide +kernel
theorem dX3_ticksAsOf_48 : decode cX3_ticksAsOf 48 = .ok (.iinc 4 (-1), 3) := by decide +kernel
theorem dX3_ticksAsOf_51 : decode cX3_ticksAsOf 51 = .ok (.goto (-35), 3) := by decide +kernel
theorem dX3_ticksAsOf_54 : decode cX3_ticksAsOf 54 = .ok (.aload_n 0, 1) := by decide +kernel
theorem dX3_ticksAsOf_55 : decode cX3_ticksAsOf 55 = .ok (.iload_n 1, 1) := by decide +kernel
theorem dX3_ticksAsOf_56 : decode cX3_ticksAsOf 56 = .ok (.invokevirtual 59, 3) := by decide +kernel
theorem dX3_ticksAsOf_59 : decode cX3_ticksAsOf 59 = .ok (.ireturn, 1) := by decide +kernel
theorem dX3_correct_0 : decode cX3_correct 0 = .ok (.aload_n 0, 1) := by decide +kernel
theorem dX3_correct_1 : decode cX3_correct 1 = .ok (.getfield 31, 3) := by decide +kernel
theorem dX3_correct_4 : decode cX3_correct 4 = .ok (.bipush 40, 2) := by decide +kernel
theorem dX3_correct_6 : decode cX3_correct 6 = .ok (.if_icmp .ge 41, 3) := by decide +kernel
theorem dX3_correct_9 : decode cX3_correct 9 = .ok (.aload_n 0, 1) := by decide +kernel
theorem dX3_correct_10 : decode cX3_correct 10 = .ok (.getfield 21, 3) := by decide +kernel
theorem dX3_correct_13 : decode cX3_correct 13 = .ok (.aload_n 0, 1) := by decide +kernel
theorem dX3_correct_14 : decode cX3_correct 14 = .ok (.getfield 31, 3) := by decide +kernel
theorem dX3_correct_17 : decode cX3_correct 17 = .ok (.aload_n 0, 1) := by decide +kernel
theorem dX3_correct_18 : decode cX3_correct 18 = .ok (.iload_n 1, 1) := by decide +kernel
theorem dX3_correct_19 : decode cX3_correct 19 = .ok (.invokevirtual 56, 3) := by decide +kernel
theorem dX3_correct_22 : decode cX3_correct 22 = .ok (.invokestatic 44, 3) := by decide +kernel
theorem dX3_correct_25 : decode cX3_correct 25 = .ok (.aload_n 0, 1) := by decide +kernel
theorem dX3_correct_26 : decode cX3_correct 26 = .ok (.getfield 24, 3) := by decide +kernel
theorem dX3_correct_29 : decode cX3_correct 29 = .ok (.aload_n 0, 1) := by decide +kernel
theorem dX3_correct_30 : decode cX3_correct 30 = .ok (.getfield 31, 3) := by decide +kernel
theorem dX3_correct_33 : decode cX3_correct 33 = .ok (.iload_n 2, 1) := by decide +kernel
theorem dX3_correct_34 : decode cX3_correct 34 = .ok (.invokestatic 44, 3) := by decide +kernel
theorem dX3_correct_37 : decode cX3_correct 37 = .ok (.aload_n 0, 1) := by decide +kernel
theorem dX3_correct_38 : decode cX3_correct 38 = .ok (.dup, 1) := by decide +kernel
theorem dX3_correct_39 : decode cX3_correct 39 = .ok (.getfield 31, 3) := by decide +kernel
theorem dX3_correct_42 : decode cX3_correct 42 = .ok (.iconst 1, 1) := by decide +kernel
theorem dX3_correct_43 : decode cX3_correct 43 = .ok (.iadd, 1) := by decide +kernel
theorem dX3_correct_44 : decode cX3_correct 44 = .ok (.putfield 31, 3) := by decide +kernel
theorem dX3_correct_47 : decode cX3_correct 47 = .ok (.return_, 1) := by decide +kernel
theorem dX3_ticksOfMember_0 : decode cX3_ticksOfMember 0 = .ok (.iconst 0, 1) := by decide +kernel
theorem dX3_ticksOfMember_1 : decode cX3_ticksOfMember 1 = .ok (.istore_n 3, 1) := by decide +kernel
theorem dX3_ticksOfMember_2 : decode cX3_ticksOfMember 2 = .ok (.iconst 0, 1) := by decide +kernel
theorem dX3_ticksOfMember_3 : decode cX3_ticksOfMember 3 = .ok (.istore 4, 2) := by decide +kernel
theorem dX3_ticksOfMember_5 : decode cX3_ticksOfMember 5 = .ok (.iload 4, 2) := by decide +kernel
theorem dX3_ticksOfMember_7 : decode cX3_ticksOfMember 7 = .ok (.aload_n 0, 1) := by decide +kernel
theorem dX3_ticksOfMember_8 : decode cX3_ticksOfMember 8 = .ok (.invokevirtual 40, 3) := by decide +kernel
theorem dX3_ticksOfMember_11 : decode cX3_ticksOfMember 11 = .ok (.if_icmp .ge 29, 3) := by decide +kernel
theorem dX3_ticksOfMember_14 : decode cX3_ticksOfMember 14 = .ok (.aload_n 0, 1) := by decide +kernel
theorem dX3_ticksOfMember_15 : decode cX3_ticksOfMember 15 = .ok (.iload 4, 2) := by decide +kernel
theorem dX3_ticksOfMember_17 : decode cX3_ticksOfMember 17 = .ok (.invokevirtual 62, 3) := by decide +kernel
theorem dX3_ticksOfMember_20 : decode cX3_ticksOfMember 20 = .ok (.iload_n 1, 1) := by decide +kernel
theorem dX3_ticksOfMember_21 : decode cX3_ticksOfMember 21 = .ok (.if_icmp .ne 13, 3) := by decide +kernel
theorem dX3_ticksOfMember_24 : decode cX3_ticksOfMember 24 = .ok (.iload_n 3, 1) := by decide +kernel
theorem dX3_ticksOfMember_25 : decode cX3_ticksOfMember 25 = .ok (.aload_n 0, 1) := by decide +kernel
theorem dX3_ticksOfMember_26 : decode cX3_ticksOfMember 26 = .ok (.iload 4, 2) := by decide +kernel
theorem dX3_ticksOfMember_28 : decode cX3_ticksOfMember 28 = .ok (.iload_n 2, 1) := by decide +kernel
theorem dX3_ticksOfMember_29 : decode cX3_ticksOfMember 29 = .ok (.invokevirtual 65, 3) := by decide +kernel
theorem dX3_ticksOfMember_32 : decode cX3_ticksOfMember 32 = .ok (.iadd, 1) := by decide +kernel
theorem dX3_ticksOfMember_33 : decode cX3_ticksOfMember 33 = .ok (.istore_n 3, 1) := by decide +kernel
theorem dX3_ticksOfMember_34 : decode cX3_ticksOfMember 34 = .ok (.iinc 4 1, 3) := by decide +kernel
theorem dX3_ticksOfMember_37 : decode cX3_ticksOfMember 37 = .ok (.goto (-32), 3) := by decide +kernel
theorem dX3_ticksOfMember_40 : decode cX3_ticksOfMember 40 = .ok (.iload_n 3, 1) := by decide +kernel
theorem dX3_ticksOfMember_41 : decode cX3_ticksOfMember 41 = .ok (.ireturn, 1) := by decide +kernel
theorem dX3_rowWritten_0 : decode cX3_rowWritten 0 = .ok (.aload_n 0, 1) := by decide +kernel
theorem dX3_rowWritten_1 : decode cX3_rowWritten 1 = .ok (.getfield 27, 3) := by decide +kernel
theorem dX3_rowWritten_4 : decode cX3_rowWritten 4 = .ok (.aload_n 0, 1) := by decide +kernel
theorem dX3_rowWritten_5 : decode cX3_rowWritten 5 = .ok (.invokevirtual 40, 3) := by decide +kernel
theorem dX3_rowWritten_8 : decode cX3_rowWritten 8 = .ok (.isub, 1) := by decide +kernel
theorem dX3_rowWritten_9 : decode cX3_rowWritten 9 = .ok (.iload_n 1, 1) := by decide +kernel
theorem dX3_rowWritten_10 : decode cX3_rowWritten 10 = .ok (.iadd, 1) := by decide +kernel
theorem dX3_rowWritten_11 : decode cX3_rowWritten 11 = .ok (.ireturn, 1) := by decide +kernel
theorem dX3_slotOf_0 : decode cX3_slotOf 0 = .ok (.aload_n 0, 1) := by decide +kernel
theorem dX3_slotOf_1 : decode cX3_slotOf 1 = .ok (.iload_n 1, 1) := by decide +kernel
theorem dX3_slotOf_2 : decode cX3_slotOf 2 = .ok (.invokevirtual 56, 3) := by decide +kernel
theorem dX3_slotOf_5 : decode cX3_slotOf 5 = .ok (.bipush 100, 2) := by decide +kernel
theorem dX3_slotOf_7 : decode cX3_slotOf 7 = .ok (.irem, 1) := by decide +kernel
theorem dX3_slotOf_8 : decode cX3_slotOf 8 = .ok (.ireturn, 1) := by decide +kernel
theorem dX4_init_0 : decode cX4_init 0 = .ok (.aload_n 0, 1) := by decide +kernel
theorem dX4_init_1 : decode cX4_init 1 = .ok (.invokespecial 3, 3) := by decide +kernel
theorem dX4_init_4 : decode cX4_init 4 = .ok (.aload_n 0, 1) := by decide +kernel
theorem dX4_init_5 : decode cX4_init 5 = .ok (.bipush 10, 2) := by decide +kernel
theorem dX4_init_7 : decode cX4_init 7 = .ok (.newarray .int, 2) := by decide +kernel
theorem dX4_init_9 : decode cX4_init 9 = .ok (.putfield 9, 3) := by decide +kernel
theorem dX4_init_12 : decode cX4_init 12 = .ok (.aload_n 0, 1) := by decide +kernel
theorem dX4_init_13 : decode cX4_init 13 = .ok (.bipush 10, 2) := by decide +kernel
theorem dX4_init_15 : decode cX4_init 15 = .ok (.newarray .int, 2) := by decide +kernel
theorem dX4_init_17 : decode cX4_init 17 = .ok (.putfield 15, 3) := by decide +kernel
theorem dX4_init_20 : decode cX4_init 20 = .ok (.aload_n 0, 1) := by decide +kernel
theorem dX4_init_21 : decode cX4_init 21 = .ok (.bipush 10, 2) := by decide +kernel
theorem dX4_init_23 : decode cX4_init 23 = .ok (.newarray .boolean, 2) := by decide +kernel
theorem dX4_init_25 : decode cX4_init 25 = .ok (.putfield 18, 3) := by decide +kernel
theorem dX4_init_28 : decode cX4_init 28 = .ok (.aload_n 0, 1) := by decide +kernel
theorem dX4_init_29 : decode cX4_init 29 = .ok (.iconst 0, 1) := by decide +kernel
theorem dX4_init_30 : decode cX4_init 30 = .ok (.putfield 22, 3) := by decide +kernel
theorem dX4_init_33 : decode cX4_init 33 = .ok (.return_, 1) := by decide +kernel
theorem dX4_size_0 : decode cX4_size 0 = .ok (.aload_n 0, 1) := by decide +kernel
theorem dX4_size_1 : decode cX4_size 1 = .ok (.getfield 22, 3) := by decide +kernel
theorem dX4_size_4 : decode cX4_size 4 = .ok (.ireturn, 1) := by decide +kernel
theorem dX4_has_0 : decode cX4_has 0 = .ok (.iload_n 1, 1) := by decide +kernel
theorem dX4_has_1 : decode cX4_has 1 = .ok (.ifCond .lt 15, 3) := by decide +kernel
theorem dX4_has_4 : decode cX4_has 4 = .ok (.iload_n 1, 1) := by decide +kernel
theorem dX4_has_5 : decode cX4_has 5 = .ok (.aload_n 0, 1) := by decide +kernel
theorem dX4_has_6 : decode cX4_has 6 = .ok (.getfield 22, 3) := by decide +kernel
theorem dX4_has_9 : decode cX4_has 9 = .ok (.if_icmp .ge 7, 3) := by decide +kernel
theorem dX4_has_12 : decode cX4_has 12 = .ok (.iconst 1, 1) := by decide +kernel
theorem dX4_has_13 : decode cX4_has 13 = .ok (.goto 4, 3) := by decide +kernel
theorem dX4_has_16 : decode cX4_has 16 = .ok (.iconst 0, 1) := by decide +kernel
theorem dX4_has_17 : decode cX4_has 17 = .ok (.ireturn, 1) := by decide +kernel
theorem dX4_enter_0 : decode cX4_enter 0 = .ok (.aload_n 0, 1) := by decide +kernel
theorem dX4_enter_1 : decode cX4_enter 1 = .ok (.getfield 22, 3) := by decide +kernel
theorem dX4_enter_4 : decode cX4_enter 4 = .ok (.istore_n 3, 1) := by decide +kernel
theorem dX4_enter_5 : decode cX4_enter 5 = .ok (.aload_n 0, 1) := by decide +kernel
theorem dX4_enter_6 : decode cX4_enter 6 = .ok (.getfield 9, 3) := by decide +kernel
theorem dX4_enter_9 : decode cX4_enter 9 = .ok (.iload_n 3, 1) := by decide +kernel
theorem dX4_enter_10 : decode cX4_enter 10 = .ok (.iload_n 1, 1) := by decide +kernel
theorem dX4_enter_11 : decode cX4_enter 11 = .ok (.invokestatic 26, 3) := by decide +kernel
theorem dX4_enter_14 : decode cX4_enter 14 = .ok (.aload_n 0, 1) := by decide +kernel
theorem dX4_enter_15 : decode cX4_enter 15 = .ok (.getfield 15, 3) := by decide +kernel
theorem dX4_enter_18 : decode cX4_enter 18 = .ok (.iload_n 3, 1) := by decide +kernel
theorem dX4_enter_19 : decode cX4_enter 19 = .ok (.iload_n 2, 1) := by decide +kernel
theorem dX4_enter_20 : decode cX4_enter 20 = .ok (.invokestatic 26, 3) := by decide +kernel
theorem dX4_enter_23 : decode cX4_enter 23 = .ok (.aload_n 0, 1) := by decide +kernel
theorem dX4_enter_24 : decode cX4_enter 24 = .ok (.dup, 1) := by decide +kernel
theorem dX4_enter_25 : decode cX4_enter 25 = .ok (.getfield 22, 3) := by decide +kernel
theorem dX4_enter_28 : decode cX4_enter 28 = .ok (.iconst 1, 1) := by decide +kernel
theorem dX4_enter_29 : decode cX4_enter 29 = .ok (.iadd, 1) := by decide +kernel
theorem dX4_enter_30 : decode cX4_enter 30 = .ok (.putfield 22, 3) := by decide +kernel
theorem dX4_enter_33 : decode cX4_enter 33 = .ok (.aload_n 0, 1) := by decide +kernel
theorem dX4_enter_34 : decode cX4_enter 34 = .ok (.iload_n 3, 1) := by decide +kernel
theorem dX4_enter_35 : decode cX4_enter 35 = .ok (.iconst 1, 1) := by decide +kernel
theorem dX4_enter_36 : decode cX4_enter 36 = .ok (.invokevirtual 30, 3) := by decide +kernel
theorem dX4_enter_39 : decode cX4_enter 39 = .ok (.iload_n 3, 1) := by decide +kernel
theorem dX4_enter_40 : decode cX4_enter 40 = .ok (.ireturn, 1) := by decide +kernel
theorem dX4_kindOf_0 : decode cX4_kindOf 0 = .ok (.aload_n 0, 1) := by decide +kernel
theorem dX4_kindOf_1 : decode cX4_kindOf 1 = .ok (.getfield 9, 3) := by decide +kernel
theorem dX4_kindOf_4 : decode cX4_kindOf 4 = .ok (.iload_n 1, 1) := by decide +kernel
theorem dX4_kindOf_5 : decode cX4_kindOf 5 = .ok (.invokestatic 34, 3) := by decide +kernel
theorem dX4_kindOf_8 : decode cX4_kindOf 8 = .ok (.ireturn, 1) := by decide +kernel
theorem dX4_delegationOf_0 : decode cX4_delegationOf 0 = .ok (.aload_n 0, 1) := by decide +kernel
theorem dX4_delegationOf_1 : decode cX4_delegationOf 1 = .ok (.getfield 15, 3) := by decide +kernel
theorem dX4_delegationOf_4 : decode cX4_delegationOf 4 = .ok (.iload_n 1, 1) := by decide +kernel
theorem dX4_delegationOf_5 : decode cX4_delegationOf 5 = .ok (.invokestatic 34, 3) := by decide +kernel
theorem dX4_delegationOf_8 : decode cX4_delegationOf 8 = .ok (.ireturn, 1) := by decide +kernel
theorem dX4_isHere_0 : decode cX4_isHere 0 = .ok (.iload_n 1, 1) := by decide +kernel
theorem dX4_isHere_1 : decode cX4_isHere 1 = .ok (.ifCond .lt 25, 3) := by decide +kernel
theorem dX4_isHere_4 : decode cX4_isHere 4 = .ok (.iload_n 1, 1) := by decide +kernel
theorem dX4_isHere_5 : decode cX4_isHere 5 = .ok (.aload_n 0, 1) := by decide +kernel
theorem dX4_isHere_6 : decode cX4_isHere 6 = .ok (.getfield 18, 3) := by decide +kernel
theorem dX4_isHere_9 : decode cX4_isHere 9 = .ok (.arraylength, 1) := by decide +kernel
theorem dX4_isHere_10 : decode cX4_isHere 10 = .ok (.if_icmp .ge 16, 3) := by decide +kernel
theorem dX4_isHere_13 : decode cX4_isHere 13 = .ok (.aload_n 0, 1) := by decide +kernel
theorem dX4_isHere_14 : decode cX4_isHere 14 = .ok (.getfield 18, 3) := by decide +kernel
theorem dX4_isHere_17 : decode cX4_isHere 17 = .ok (.iload_n 1, 1) := by decide +kernel
theorem dX4_isHere_18 : decode cX4_isHere 18 = .ok (.baload, 1) := by decide +kernel
theorem dX4_isHere_19 : decode cX4_isHere 19 = .ok (.ifCond .eq 7, 3) := by decide +kernel
theorem dX4_isHere_22 : decode cX4_isHere 22 = .ok (.iconst 1, 1) := by decide +kernel
theorem dX4_isHere_23 : decode cX4_isHere 23 = .ok (.goto 4, 3) := by decide +kernel
theorem dX4_isHere_26 : decode cX4_isHere 26 = .ok (.iconst 0, 1) := by decide +kernel
theorem dX4_isHere_27 : decode cX4_isHere 27 = .ok (.ireturn, 1) := by decide +kernel
theorem dX4_setHere_0 : decode cX4_setHere 0 = .ok (.iload_n 1, 1) := by decide +kernel
theorem dX4_setHere_1 : decode cX4_setHere 1 = .ok (.ifCond .lt 19, 3) := by decide +kernel
theorem dX4_setHere_4 : decode cX4_setHere 4 = .ok (.iload_n 1, 1) := by decide +kernel
theorem dX4_setHere_5 : decode cX4_setHere 5 = .ok (.aload_n 0, 1) := by decide +kernel
theorem dX4_setHere_6 : decode cX4_setHere 6 = .ok (.getfield 18, 3) := by decide +kernel
theorem dX4_setHere_9 : decode cX4_setHere 9 = .ok (.arraylength, 1) := by decide +kernel
theorem dX4_setHere_10 : decode cX4_setHere 10 = .ok (.if_icmp .ge 10, 3) := by decide +kernel
theorem dX4_setHere_13 : decode cX4_setHere 13 = .ok (.aload_n 0, 1) := by decide +kernel
theorem dX4_setHere_14 : decode cX4_setHere 14 = .ok (.getfield 18, 3) := by decide +kernel
theorem dX4_setHere_17 : decode cX4_setHere 17 = .ok (.iload_n 1, 1) := by decide +kernel
theorem dX4_setHere_18 : decode cX4_setHere 18 = .ok (.iload_n 2, 1) := by decide +kernel
theorem dX4_setHere_19 : decode cX4_setHere 19 = .ok (.bastore, 1) := by decide +kernel
theorem dX4_setHere_20 : decode cX4_setHere 20 = .ok (.return_, 1) := by decide +kernel
theorem dX4_isOfKind_0 : decode cX4_isOfKind 0 = .ok (.aload_n 0, 1) := by decide +kernel
theorem dX4_isOfKind_1 : decode cX4_isOfKind 1 = .ok (.getfield 9, 3) := by decide +kernel
theorem dX4_isOfKind_4 : decode cX4_isOfKind 4 = .ok (.iload_n 1, 1) := by decide +kernel
theorem dX4_isOfKind_5 : decode cX4_isOfKind 5 = .ok (.invokestatic 34, 3) := by decide +kernel
theorem dX4_isOfKind_8 : decode cX4_isOfKind 8 = .ok (.istore_n 3, 1) := by decide +kernel
theorem dX4_isOfKind_9 : decode cX4_isOfKind 9 = .ok (.iconst 0, 1) := by decide +kernel
theorem dX4_isOfKind_10 : decode cX4_isOfKind 10 = .ok (.istore 4, 2) := by decide +kernel
theorem dX4_isOfKind_12 : decode cX4_isOfKind 12 = .ok (.iload 4, 2) := by decide +kernel
theorem dX4_isOfKind_14 : decode cX4_isOfKind 14 = .ok (.iconst 4, 1) := by decide +kernel
theorem dX4_isOfKind_15 : decode cX4_isOfKind 15 = .ok (.if_icmp .ge 22, 3) := by decide +kernel
theorem dX4_isOfKind_18 : decode cX4_isOfKind 18 = .ok (.iload_n 3, 1) := by decide +kernel
theorem dX4_isOfKind_19 : decode cX4_isOfKind 19 = .ok (.iload_n 2, 1) := by decide +kernel
theorem dX4_isOfKind_20 : decode cX4_isOfKind 20 = .ok (.if_icmp .eq 17, 3) := by decide +kernel
theorem dX4_isOfKind_23 : decode cX4_isOfKind 23 = .ok (.getstatic 38, 3) := by decide +kernel
theorem dX4_isOfKind_26 : decode cX4_isOfKind 26 = .ok (.iload_n 3, 1) := by decide +kernel
theorem dX4_isOfKind_27 : decode cX4_isOfKind 27 = .ok (.invokestatic 34, 3) := by decide +kernel
theorem dX4_isOfKind_30 : decode cX4_isOfKind 30 = .ok (.istore_n 3, 1) := by decide +kernel
theorem dX4_isOfKind_31 : decode cX4_isOfKind 31 = .ok (.iinc 4 1, 3) := by decide +kernel
theorem dX4_isOfKind_34 : decode cX4_isOfKind 34 = .ok (.goto (-22), 3) := by decide +kernel
theorem dX4_isOfKind_37 : decode cX4_isOfKind 37 = .ok (.iload_n 3, 1) := by decide +kernel
theorem dX4_isOfKind_38 : decode cX4_isOfKind 38 = .ok (.iload_n 2, 1) := by decide +kernel
theorem dX4_isOfKind_39 : decode cX4_isOfKind 39 = .ok (.if_icmp .ne 7, 3) := by decide +kernel
theorem dX4_isOfKind_42 : decode cX4_isOfKind 42 = .ok (.iconst 1, 1) := by decide +kernel
theorem dX4_isOfKind_43 : decode cX4_isOfKind 43 = .ok (.goto 4, 3) := by decide +kernel
theorem dX4_isOfKind_46 : decode cX4_isOfKind 46 = .ok (.iconst 0, 1) := by decide +kernel
theorem dX4_isOfKind_47 : decode cX4_isOfKind 47 = .ok (.ireturn, 1) := by decide +kernel
theorem dX4_mayVote_0 : decode cX4_mayVote 0 = .ok (.aload_n 0, 1) := by decide +kernel
theorem dX4_mayVote_1 : decode cX4_mayVote 1 = .ok (.iload_n 1, 1) := by decide +kernel
theorem dX4_mayVote_2 : decode cX4_mayVote 2 = .ok (.invokevirtual 41, 3) := by decide +kernel
theorem dX4_mayVote_5 : decode cX4_mayVote 5 = .ok (.ifCond .eq 16, 3) := by decide +kernel
theorem dX4_mayVote_8 : decode cX4_mayVote 8 = .ok (.aload_n 0, 1) := by decide +kernel
theorem dX4_mayVote_9 : decode cX4_mayVote 9 = .ok (.iload_n 1, 1) := by decide +kernel
theorem dX4_mayVote_10 : decode cX4_mayVote 10 = .ok (.iconst 1, 1) := by decide +kernel
theorem dX4_mayVote_11 : decode cX4_mayVote 11 = .ok (.invokevirtual 45, 3) := by decide +kernel
theorem dX4_mayVote_14 : decode cX4_mayVote 14 = .ok (.ifCond .ne 7, 3) := by decide +kernel
theorem dX4_mayVote_17 : decode cX4_mayVote 17 = .ok (.iconst 1, 1) := by decide +kernel
theorem dX4_mayVote_18 : decode cX4_mayVote 18 = .ok (.goto 4, 3) := by decide +kernel
theorem dX4_mayVote_21 : decode cX4_mayVote 21 = .ok (.iconst 0, 1) := by decide +kernel
theorem dX4_mayVote_22 : decode cX4_mayVote 22 = .ok (.ireturn, 1) := by decide +kernel
theorem dX4_isPeopled_0 : decode cX4_isPeopled 0 = .ok (.iconst 0, 1) := by decide +kernel
theorem dX4_isPeopled_1 : decode cX4_isPeopled 1 = .ok (.istore_n 2, 1) := by decide +kernel
theorem dX4_isPeopled_2 : decode cX4_isPeopled 2 = .ok (.iload_n 2, 1) := by decide +kernel
theorem dX4_isPeopled_3 : decode cX4_isPeopled 3 = .ok (.aload_n 0, 1) := by decide +kernel
theorem dX4_isPeopled_4 : decode cX4_isPeopled 4 = .ok (.getfield 22, 3) := by decide +kernel
theorem dX4_isPeopled_7 : decode cX4_isPeopled 7 = .ok (.if_icmp .ge 20, 3) := by decide +kernel
theorem dX4_isPeopled_10 : decode cX4_isPeopled 10 = .ok (.aload_n 0, 1) := by decide +kernel
theorem dX4_isPeopled_11 : decode cX4_isPeopled 11 = .ok (.iload_n 2, 1) := by decide +kernel
theorem dX4_isPeopled_12 : decode cX4_isPeopled 12 = .ok (.invokevirtual 49, 3) := by decide +kernel
theorem dX4_isPeopled_15 : decode cX4_isPeopled 15 = .ok (.iload_n 1, 1) := by decide +kernel
theorem dX4_isPeopled_16 : decode cX4_isPeopled 16 = .ok (.if_icmp .ne 5, 3) := by decide +kernel
theorem dX4_isPeopled_19 : decode cX4_isPeopled 19 = .ok (.iconst 1, 1) := by decide +kernel
theorem dX4_isPeopled_20 : decode cX4_isPeopled 20 = .ok (.ireturn, 1) := by decide +kernel
theorem dX4_isPeopled_21 : decode cX4_isPeopled 21 = .ok (.iinc 2 1, 3) := by decide +kernel
theorem dX4_isPeopled_24 : decode cX4_isPeopled 24 = .ok (.goto (-22), 3) := by decide +kernel
theorem dX4_isPeopled_27 : decode cX4_isPeopled 27 = .ok (.iconst 0, 1) := by decide +kernel
theorem dX4_isPeopled_28 : decode cX4_isPeopled 28 = .ok (.ireturn, 1) := by decide +kernel
theorem dX5_init_0 : decode cX5_init 0 = .ok (.aload_n 0, 1) := by decide +kernel
theorem dX5_init_1 : decode cX5_init 1 = .ok (.invokespecial 3, 3) := by decide +kernel
theorem dX5_init_4 : decode cX5_init 4 = .ok (.aload_n 0, 1) := by decide +kernel
theorem dX5_init_5 : decode cX5_init 5 = .ok (.bipush 6, 2) := by decide +kernel
theorem dX5_init_7 : decode cX5_init 7 = .ok (.newarray .int, 2) := by decide +kernel
theorem dX5_init_9 : decode cX5_init 9 = .ok (.putfield 9, 3) := by decide +kernel
theorem dX5_init_12 : decode cX5_init 12 = .ok (.aload_n 0, 1) := by decide +kernel
theorem dX5_init_13 : decode cX5_init 13 = .ok (.iconst 0, 1) := by decide +kernel
theorem dX5_init_14 : decode cX5_init 14 = .ok (.putfield 15, 3) := by decide +kernel
theorem dX5_init_17 : decode cX5_init 17 = .ok (.aload_n 0, 1) := by decide +kernel
theorem dX5_init_18 : decode cX5_init 18 = .ok (.aload_n 1, 1) := by decide +kernel
theorem dX5_init_19 : decode cX5_init 19 = .ok (.putfield 19, 3) := by decide +kernel
theorem dX5_init_22 : decode cX5_init 22 = .ok (.return_, 1) := by decide +kernel
theorem dX5_size_0 : decode cX5_size 0 = .ok (.aload_n 0, 1) := by decide +kernel
theorem dX5_size_1 : decode cX5_size 1 = .ok (.getfield 15, 3) := by decide +kernel
theorem dX5_size_4 : decode cX5_size 4 = .ok (.ireturn, 1) := by decide +kernel
theorem dX5_has_0 : decode cX5_has 0 = .ok (.iconst 0, 1) := by decide +kernel
theorem dX5_has_1 : decode cX5_has 1 = .ok (.istore_n 2, 1) := by decide +kernel
theorem dX5_has_2 : decode cX5_has 2 = .ok (.iload_n 2, 1) := by decide +kernel
theorem dX5_has_3 : decode cX5_has 3 = .ok (.aload_n 0, 1) := by decide +kernel
theorem dX5_has_4 : decode cX5_has 4 = .ok (.getfield 15, 3) := by decide +kernel
theorem dX5_has_7 : decode cX5_has 7 = .ok (.if_icmp .ge 23, 3) := by decide +kernel
theorem dX5_has_10 : decode cX5_has 10 = .ok (.aload_n 0, 1) := by decide +kernel
theorem dX5_has_11 : decode cX5_has 11 = .ok (.getfield 9, 3) := by decide +kernel
theorem dX5_has_14 : decode cX5_has 14 = .ok (.iload_n 2, 1) := by decide +kernel
theorem dX5_has_15 : decode cX5_has 15 = .ok (.invokestatic 23, 3) := by decide +kernel
theorem dX5_has_18 : decode cX5_has 18 = .ok (.iload_n 1, 1) := by decide +kernel
theorem dX5_has_19 : decode cX5_has 19 = .ok (.if_icmp .ne 5, 3) := by decide +kernel
theorem dX5_has_22 : decode cX5_has 22 = .ok (.iconst 1, 1) := by decide +kernel
theorem dX5_has_23 : decode cX5_has 23 = .ok (.ireturn, 1) := by decide +kernel
theorem dX5_has_24 : decode cX5_has 24 = .ok (.iinc 2 1, 3) := by decide +kernel
theorem dX5_has_27 : decode cX5_has 27 = .ok (.goto (-25), 3) := by decide +kernel
theorem dX5_has_30 : decode cX5_has 30 = .ok (.iconst 0, 1) := by decide +kernel
theorem dX5_has_31 : decode cX5_has 31 = .ok (.ireturn, 1) := by decide +kernel
theorem dX5_append_0 : decode cX5_append 0 = .ok (.aload_n 0, 1) := by decide +kernel
theorem dX5_append_1 : decode cX5_append 1 = .ok (.getfield 15, 3) := by decide +kernel
theorem dX5_append_4 : decode cX5_append 4 = .ok (.bipush 6, 2) := by decide +kernel
theorem dX5_append_6 : decode cX5_append 6 = .ok (.if_icmp .ge 25, 3) := by decide +kernel
theorem dX5_append_9 : decode cX5_append 9 = .ok (.aload_n 0, 1) := by decide +kernel
theorem dX5_append_10 : decode cX5_append 10 = .ok (.getfield 9, 3) := by decide +kernel
theorem dX5_append_13 : decode cX5_append 13 = .ok (.aload_n 0, 1) := by decide +kernel
theorem dX5_append_14 : decode cX5_append 14 = .ok (.getfield 15, 3) := by decide +kernel
theorem dX5_append_17 : decode cX5_append 17 = .ok (.iload_n 1, 1) := by decide +kernel
theorem dX5_append_18 : decode cX5_append 18 = .ok (.invokestatic 27, 3) := by decide +kernel
theorem dX5_append_21 : decode cX5_append 21 = .ok (.aload_n 0, 1) := by decide +kernel
theorem dX5_append_22 : decode cX5_append 22 = .ok (.dup, 1) := by decide +kernel
theorem dX5_append_23 : decode cX5_append 23 = .ok (.getfield 15, 3) := by decide +kernel
theorem dX5_append_26 : decode cX5_append 26 = .ok (.iconst 1, 1) := by decide +kernel
theorem dX5_append_27 : decode cX5_append 27 = .ok (.iadd, 1) := by decide +kernel
theorem dX5_append_28 : decode cX5_append 28 = .ok (.putfield 15, 3) := by decide +kernel
theorem dX5_append_31 : decode cX5_append 31 = .ok (.return_, 1) := by decide +kernel
theorem dX5_clear_0 : decode cX5_clear 0 = .ok (.aload_n 0, 1) := by decide +kernel
theorem dX5_clear_1 : decode cX5_clear 1 = .ok (.iconst 0, 1) := by decide +kernel
theorem dX5_clear_2 : decode cX5_clear 2 = .ok (.putfield 15, 3) := by decide +kernel
theorem dX5_clear_5 : decode cX5_clear 5 = .ok (.return_, 1) := by decide +kernel
theorem dX5_firstOf_0 : decode cX5_firstOf 0 = .ok (.iconst (-1), 1) := by decide +kernel
theorem dX5_firstOf_1 : decode cX5_firstOf 1 = .ok (.istore_n 3, 1) := by decide +kernel
theorem dX5_firstOf_2 : decode cX5_firstOf 2 = .ok (.iconst 0, 1) := by decide +kernel
theorem dX5_firstOf_3 : decode cX5_firstOf 3 = .ok (.istore 4, 2) := by decide +kernel
theorem dX5_firstOf_5 : decode cX5_firstOf 5 = .ok (.iload 4, 2) := by decide +kernel
theorem dX5_firstOf_7 : decode cX5_firstOf 7 = .ok (.aload_n 1, 1) := by decide +kernel
theorem dX5_firstOf_8 : decode cX5_firstOf 8 = .ok (.invokevirtual 31, 3) := by decide +kernel
theorem dX5_firstOf_11 : decode cX5_firstOf 11 = .ok (.if_icmp .ge 71, 3) := by decide +kernel
theorem dX5_firstOf_14 : decode cX5_firstOf 14 = .ok (.iload_n 2, 1) := by decide +kernel
theorem dX5_firstOf_15 : decode cX5_firstOf 15 = .ok (.iconst (-1), 1) := by decide +kernel
theorem dX5_firstOf_16 : decode cX5_firstOf 16 = .ok (.if_icmp .eq 13, 3) := by decide +kernel
theorem dX5_firstOf_19 : decode cX5_firstOf 19 = .ok (.aload_n 1, 1) := by decide +kernel
theorem dX5_firstOf_20 : decode cX5_firstOf 20 = .ok (.iload 4, 2) := by decide +kernel
theorem dX5_firstOf_22 : decode cX5_firstOf 22 = .ok (.invokevirtual 36, 3) := by decide +kernel
theorem dX5_firstOf_25 : decode cX5_firstOf 25 = .ok (.iload_n 2, 1) := by decide +kernel
theorem dX5_firstOf_26 : decode cX5_firstOf 26 = .ok (.if_icmp .ne 23, 3) := by decide +kernel
theorem dX5_firstOf_29 : decode cX5_firstOf 29 = .ok (.aload_n 0, 1) := by decide +kernel
theorem dX5_firstOf_30 : decode cX5_firstOf 30 = .ok (.getfield 19, 3) := by decide +kernel
theorem dX5_firstOf_33 : decode cX5_firstOf 33 = .ok (.aload_n 1, 1) := by decide +kernel
theorem dX5_firstOf_34 : decode cX5_firstOf 34 = .ok (.iload 4, 2) := by decide +kernel
theorem dX5_firstOf_36 : decode cX5_firstOf 36 = .ok (.invokevirtual 40, 3) := by decide +kernel
theorem dX5_firstOf_39 : decode cX5_firstOf 39 = .ok (.invokevirtual 43, 3) := by decide +kernel
theorem dX5_firstOf_42 : decode cX5_firstOf 42 = .ok (.ifCond .eq 7, 3) := by decide +kernel
theorem dX5_firstOf_45 : decode cX5_firstOf 45 = .ok (.iconst 1, 1) := by decide +kernel
theorem dX5_firstOf_46 : decode cX5_firstOf 46 = .ok (.goto 4, 3) := by decide +kernel
theorem dX5_firstOf_49 : decode cX5_firstOf 49 = .ok (.iconst 0, 1) := by decide +kernel
theorem dX5_firstOf_50 : decode cX5_firstOf 50 = .ok (.istore 5, 2) := by decide +kernel
theorem dX5_firstOf_52 : decode cX5_firstOf 52 = .ok (.iload 5, 2) := by decide +kernel
theorem dX5_firstOf_54 : decode cX5_firstOf 54 = .ok (.ifCond .eq 22, 3) := by decide +kernel
theorem dX5_firstOf_57 : decode cX5_firstOf 57 = .ok (.iload_n 3, 1) := by decide +kernel
theorem dX5_firstOf_58 : decode cX5_firstOf 58 = .ok (.iconst (-1), 1) := by decide +kernel
theorem dX5_firstOf_59 : decode cX5_firstOf 59 = .ok (.if_icmp .eq 14, 3) := by decide +kernel
theorem dX5_firstOf_62 : decode cX5_firstOf 62 = .ok (.aload_n 0, 1) := by decide +kernel
theorem dX5_firstOf_63 : decode cX5_firstOf 63 = .ok (.aload_n 1, 1) := by decide +kernel
theorem dX5_firstOf_64 : decode cX5_firstOf 64 = .ok (.iload 4, 2) := by decide +kernel
theorem dX5_firstOf_66 : decode cX5_firstOf 66 = .ok (.iload_n 3, 1) := by decide +kernel
theorem dX5_firstOf_67 : decode cX5_firstOf 67 = .ok (.invokevirtual 49, 3) := by decide +kernel
theorem dX5_firstOf_70 : decode cX5_firstOf 70 = .ok (.ifCond .eq 6, 3) := by decide +kernel
theorem dX5_firstOf_73 : decode cX5_firstOf 73 = .ok (.iload 4, 2) := by decide +kernel
theorem dX5_firstOf_75 : decode cX5_firstOf 75 = .ok (.istore_n 3, 1) := by decide +kernel
theorem dX5_firstOf_76 : decode cX5_firstOf 76 = .ok (.iinc 4 1, 3) := by decide +kernel
theorem dX5_firstOf_79 : decode cX5_firstOf 79 = .ok (.goto (-74), 3) := by decide +kernel
theorem dX5_firstOf_82 : decode cX5_firstOf 82 = .ok (.iload_n 3, 1) := by decide +kernel
theorem dX5_firstOf_83 : decode cX5_firstOf 83 = .ok (.ireturn, 1) := by decide +kernel
theorem dX5_isAhead_0 : decode cX5_isAhead 0 = .ok (.iconst 0, 1) := by decide +kernel
theorem dX5_isAhead_1 : decode cX5_isAhead 1 = .ok (.istore 4, 2) := by decide +kernel
theorem dX5_isAhead_3 : decode cX5_isAhead 3 = .ok (.iload 4, 2) := by decide +kernel
theorem dX5_isAhead_5 : decode cX5_isAhead 5 = .ok (.aload_n 0, 1) := by decide +kernel
theorem dX5_isAhead_6 : decode cX5_isAhead 6 = .ok (.getfield 15, 3) := by decide +kernel
theorem dX5_isAhead_9 : decode cX5_isAhead 9 = .ok (.if_icmp .ge 60, 3) := by decide +kernel
theorem dX5_isAhead_12 : decode cX5_isAhead 12 = .ok (.aload_n 0, 1) := by decide +kernel
theorem dX5_isAhead_13 : decode cX5_isAhead 13 = .ok (.getfield 9, 3) := by decide +kernel
theorem dX5_isAhead_16 : decode cX5_isAhead 16 = .ok (.iload 4, 2) := by decide +kernel
theorem dX5_isAhead_18 : decode cX5_isAhead 18 = .ok (.invokestatic 23, 3) := by decide +kernel
theorem dX5_isAhead_21 : decode cX5_isAhead 21 = .ok (.istore 5, 2) := by decide +kernel
theorem dX5_isAhead_23 : decode cX5_isAhead 23 = .ok (.aload_n 0, 1) := by decide +kernel
theorem dX5_isAhead_24 : decode cX5_isAhead 24 = .ok (.iload 5, 2) := by decide +kernel
theorem dX5_isAhead_26 : decode cX5_isAhead 26 = .ok (.aload_n 1, 1) := by decide +kernel
theorem dX5_isAhead_27 : decode cX5_isAhead 27 = .ok (.iload_n 2, 1) := by decide +kernel
theorem dX5_isAhead_28 : decode cX5_isAhead 28 = .ok (.invokevirtual 53, 3) := by decide +kernel
theorem dX5_isAhead_31 : decode cX5_isAhead 31 = .ok (.istore 6, 2) := by decide +kernel
theorem dX5_isAhead_33 : decode cX5_isAhead 33 = .ok (.aload_n 0, 1) := by decide +kernel
theorem dX5_isAhead_34 : decode cX5_isAhead 34 = .ok (.iload 5, 2) := by decide +kernel
theorem dX5_isAhead_36 : decode cX5_isAhead 36 = .ok (.aload_n 1, 1) := by decide +kernel
theorem dX5_isAhead_37 : decode cX5_isAhead 37 = .ok (.iload_n 3, 1) := by decide +kernel
theorem dX5_isAhead_38 : decode cX5_isAhead 38 = .ok (.invokevirtual 53, 3) := by decide +kernel
theorem dX5_isAhead_41 : decode cX5_isAhead 41 = .ok (.istore 7, 2) := by decide +kernel
theorem dX5_isAhead_43 : decode cX5_isAhead 43 = .ok (.iload 6, 2) := by decide +kernel
theorem dX5_isAhead_45 : decode cX5_isAhead 45 = .ok (.iload 7, 2) := by decide +kernel
theorem dX5_isAhead_47 : decode cX5_isAhead 47 = .ok (.if_icmp .eq 16, 3) := by decide +kernel
theorem dX5_isAhead_50 : decode cX5_isAhead 50 = .ok (.iload 6, 2) := by decide +kernel
theorem dX5_isAhead_52 : decode cX5_isAhead 52 = .ok (.iload 7, 2) := by decide +kernel
theorem dX5_isAhead_54 : decode cX5_isAhead 54 = .ok (.if_icmp .ge 7, 3) := by decide +kernel
theorem dX5_isAhead_57 : decode cX5_isAhead 57 = .ok (.iconst 1, 1) := by decide +kernel
theorem dX5_isAhead_58 : decode cX5_isAhead 58 = .ok (.goto 4, 3) := by decide +kernel
theorem dX5_isAhead_61 : decode cX5_isAhead 61 = .ok (.iconst 0, 1) := by decide +kernel
theorem dX5_isAhead_62 : decode cX5_isAhead 62 = .ok (.ireturn, 1) := by decide +kernel
theorem dX5_isAhead_63 : decode cX5_isAhead 63 = .ok (.iinc 4 1, 3) := by decide +kernel
theorem dX5_isAhead_66 : decode cX5_isAhead 66 = .ok (.goto (-63), 3) := by decide +kernel
theorem dX5_isAhead_69 : decode cX5_isAhead 69 = .ok (.iload_n 2, 1) := by decide +kernel
theorem dX5_isAhead_70 : decode cX5_isAhead 70 = .ok (.iload_n 3, 1) := by decide +kernel
theorem dX5_isAhead_71 : decode cX5_isAhead 71 = .ok (.if_icmp .ge 7, 3) := by decide +kernel
theorem dX5_isAhead_74 : decode cX5_isAhead 74 = .ok (.iconst 1, 1) := by decide +kernel
theorem dX5_isAhead_75 : decode cX5_isAhead 75 = .ok (.goto 4, 3) := by decide +kernel
theorem dX5_isAhead_78 : decode cX5_isAhead 78 = .ok (.iconst 0, 1) := by decide +kernel
theorem dX5_isAhead_79 : decode cX5_isAhead 79 = .ok (.ireturn, 1) := by decide +kernel
theorem dX5_rankBy_0 : decode cX5_rankBy 0 = .ok (.aload_n 2, 1) := by decide +kernel
theorem dX5_rankBy_1 : decode cX5_rankBy 1 = .ok (.iload_n 3, 1) := by decide +kernel
theorem dX5_rankBy_2 : decode cX5_rankBy 2 = .ok (.invokevirtual 40, 3) := by decide +kernel
theorem dX5_rankBy_5 : decode cX5_rankBy 5 = .ok (.istore 4, 2) := by decide +kernel
theorem dX5_rankBy_7 : decode cX5_rankBy 7 = .ok (.iload_n 1, 1) := by decide +kernel
theorem dX5_rankBy_8 : decode cX5_rankBy 8 = .ok (.tableswitch 185 1 9 #[52, 67, 82, 97, 104, 111, 125, 147, 166], 52) := by decide +kernel
theorem dX5_rankBy_60 : decode cX5_rankBy 60 = .ok (.aload_n 2, 1) := by decide +kernel
theorem dX5_rankBy_61 : decode cX5_rankBy 61 = .ok (.iload_n 3, 1) := by decide +kernel
theorem dX5_rankBy_62 : decode cX5_rankBy 62 = .ok (.invokevirtual 36, 3) := by decide +kernel
theorem dX5_rankBy_65 : decode cX5_rankBy 65 = .ok (.iconst 2, 1) := by decide +kernel
theorem dX5_rankBy_66 : decode cX5_rankBy 66 = .ok (.if_icmp .ne 7, 3) := by decide +kernel
theorem dX5_rankBy_69 : decode cX5_rankBy 69 = .ok (.iconst 0, 1) := by decide +kernel
theorem dX5_rankBy_70 : decode cX5_rankBy 70 = .ok (.goto 4, 3) := by decide +kernel
theorem dX5_rankBy_73 : decode cX5_rankBy 73 = .ok (.iconst 1, 1) := by decide +kernel
theorem dX5_rankBy_74 : decode cX5_rankBy 74 = .ok (.ireturn, 1) := by decide +kernel
theorem dX5_rankBy_75 : decode cX5_rankBy 75 = .ok (.aload_n 2, 1) := by decide +kernel
theorem dX5_rankBy_76 : decode cX5_rankBy 76 = .ok (.iload_n 3, 1) := by decide +kernel
theorem dX5_rankBy_77 : decode cX5_rankBy 77 = .ok (.invokevirtual 36, 3) := by decide +kernel
theorem dX5_rankBy_80 : decode cX5_rankBy 80 = .ok (.iconst 1, 1) := by decide +kernel
theorem dX5_rankBy_81 : decode cX5_rankBy 81 = .ok (.if_icmp .ne 7, 3) := by decide +kernel
theorem dX5_rankBy_84 : decode cX5_rankBy 84 = .ok (.iconst 0, 1) := by decide +kernel
theorem dX5_rankBy_85 : decode cX5_rankBy 85 = .ok (.goto 4, 3) := by decide +kernel
theorem dX5_rankBy_88 : decode cX5_rankBy 88 = .ok (.iconst 1, 1) := by decide +kernel
theorem dX5_rankBy_89 : decode cX5_rankBy 89 = .ok (.ireturn, 1) := by decide +kernel
theorem dX5_rankBy_90 : decode cX5_rankBy 90 = .ok (.aload_n 2, 1) := by decide +kernel
theorem dX5_rankBy_91 : decode cX5_rankBy 91 = .ok (.iload 4, 2) := by decide +kernel
theorem dX5_rankBy_93 : decode cX5_rankBy 93 = .ok (.invokevirtual 57, 3) := by decide +kernel
theorem dX5_rankBy_96 : decode cX5_rankBy 96 = .ok (.ifCond .ne 7, 3) := by decide +kernel
theorem dX5_rankBy_99 : decode cX5_rankBy 99 = .ok (.iconst 0, 1) := by decide +kernel
theorem dX5_rankBy_100 : decode cX5_rankBy 100 = .ok (.goto 4, 3) := by decide +kernel
theorem dX5_rankBy_103 : decode cX5_rankBy 103 = .ok (.iconst 1, 1) := by decide +kernel
theorem dX5_rankBy_104 : decode cX5_rankBy 104 = .ok (.ireturn, 1) := by decide +kernel
theorem dX5_rankBy_105 : decode cX5_rankBy 105 = .ok (.aload_n 2, 1) := by decide +kernel
theorem dX5_rankBy_106 : decode cX5_rankBy 106 = .ok (.iload 4, 2) := by decide +kernel
theorem dX5_rankBy_108 : decode cX5_rankBy 108 = .ok (.invokevirtual 57, 3) := by decide +kernel
theorem dX5_rankBy_111 : decode cX5_rankBy 111 = .ok (.ireturn, 1) := by decide +kernel
theorem dX5_rankBy_112 : decode cX5_rankBy 112 = .ok (.aload_n 2, 1) := by decide +kernel
theorem dX5_rankBy_113 : decode cX5_rankBy 113 = .ok (.iload 4, 2) := by decide +kernel
theorem dX5_rankBy_115 : decode cX5_rankBy 115 = .ok (.invokevirtual 60, 3) := by decide +kernel
theorem dX5_rankBy_118 : decode cX5_rankBy 118 = .ok (.ireturn, 1) := by decide +kernel
theorem dX5_rankBy_119 : decode cX5_rankBy 119 = .ok (.aload_n 2, 1) := by decide +kernel
theorem dX5_rankBy_120 : decode cX5_rankBy 120 = .ok (.aload_n 0, 1) := by decide +kernel
theorem dX5_rankBy_121 : decode cX5_rankBy 121 = .ok (.getfield 19, 3) := by decide +kernel
theorem dX5_rankBy_124 : decode cX5_rankBy 124 = .ok (.iload 4, 2) := by decide +kernel
theorem dX5_rankBy_126 : decode cX5_rankBy 126 = .ok (.invokevirtual 63, 3) := by decide +kernel
theorem dX5_rankBy_129 : decode cX5_rankBy 129 = .ok (.invokevirtual 66, 3) := by decide +kernel
theorem dX5_rankBy_132 : decode cX5_rankBy 132 = .ok (.ireturn, 1) := by decide +kernel
theorem dX5_rankBy_133 : decode cX5_rankBy 133 = .ok (.aload_n 2, 1) := by decide +kernel
theorem dX5_rankBy_134 : decode cX5_rankBy 134 = .ok (.invokevirtual 69, 3) := by decide +kernel
theorem dX5_rankBy_137 : decode cX5_rankBy 137 = .ok (.aload_n 0, 1) := by decide +kernel
theorem dX5_rankBy_138 : decode cX5_rankBy 138 = .ok (.getfield 19, 3) := by decide +kernel
theorem dX5_rankBy_141 : decode cX5_rankBy 141 = .ok (.iload 4, 2) := by decide +kernel
theorem dX5_rankBy_143 : decode cX5_rankBy 143 = .ok (.invokevirtual 63, 3) := by decide +kernel
theorem dX5_rankBy_146 : decode cX5_rankBy 146 = .ok (.if_icmp .ne 7, 3) := by decide +kernel
theorem dX5_rankBy_149 : decode cX5_rankBy 149 = .ok (.iconst 1, 1) := by decide +kernel
theorem dX5_rankBy_150 : decode cX5_rankBy 150 = .ok (.goto 4, 3) := by decide +kernel
theorem dX5_rankBy_153 : decode cX5_rankBy 153 = .ok (.iconst 0, 1) := by decide +kernel
theorem dX5_rankBy_154 : decode cX5_rankBy 154 = .ok (.ireturn, 1) := by decide +kernel
theorem dX5_rankBy_155 : decode cX5_rankBy 155 = .ok (.aload_n 0, 1) := by decide +kernel
theorem dX5_rankBy_156 : decode cX5_rankBy 156 = .ok (.getfield 19, 3) := by decide +kernel
theorem dX5_rankBy_159 : decode cX5_rankBy 159 = .ok (.iload 4, 2) := by decide +kernel
theorem dX5_rankBy_161 : decode cX5_rankBy 161 = .ok (.iconst 1, 1) := by decide +kernel
theorem dX5_rankBy_162 : decode cX5_rankBy 162 = .ok (.invokevirtual 72, 3) := by decide +kernel
theorem dX5_rankBy_165 : decode cX5_rankBy 165 = .ok (.ifCond .eq 7, 3) := by decide +kernel
theorem dX5_rankBy_168 : decode cX5_rankBy 168 = .ok (.iconst 1, 1) := by decide +kernel
theorem dX5_rankBy_169 : decode cX5_rankBy 169 = .ok (.goto 4, 3) := by decide +kernel
theorem dX5_rankBy_172 : decode cX5_rankBy 172 = .ok (.iconst 0, 1) := by decide +kernel
theorem dX5_rankBy_173 : decode cX5_rankBy 173 = .ok (.ireturn, 1) := by decide +kernel
theorem dX5_rankBy_174 : decode cX5_rankBy 174 = .ok (.aload_n 0, 1) := by decide +kernel
theorem dX5_rankBy_175 : decode cX5_rankBy 175 = .ok (.getfield 19, 3) := by decide +kernel
theorem dX5_rankBy_178 : decode cX5_rankBy 178 = .ok (.iload 4, 2) := by decide +kernel
theorem dX5_rankBy_180 : decode cX5_rankBy 180 = .ok (.iconst 2, 1) := by decide +kernel
theorem dX5_rankBy_181 : decode cX5_rankBy 181 = .ok (.invokevirtual 72, 3) := by decide +kernel
theorem dX5_rankBy_184 : decode cX5_rankBy 184 = .ok (.ifCond .eq 7, 3) := by decide +kernel
theorem dX5_rankBy_187 : decode cX5_rankBy 187 = .ok (.iconst 0, 1) := by decide +kernel
theorem dX5_rankBy_188 : decode cX5_rankBy 188 = .ok (.goto 4, 3) := by decide +kernel
theorem dX5_rankBy_191 : decode cX5_rankBy 191 = .ok (.iconst 1, 1) := by decide +kernel
theorem dX5_rankBy_192 : decode cX5_rankBy 192 = .ok (.ireturn, 1) := by decide +kernel
theorem dX5_rankBy_193 : decode cX5_rankBy 193 = .ok (.iconst 0, 1) := by decide +kernel
theorem dX5_rankBy_194 : decode cX5_rankBy 194 = .ok (.ireturn, 1) := by decide +kernel
theorem dX6_init_0 : decode cX6_init 0 = .ok (.aload_n 0, 1) := by decide +kernel
theorem dX6_init_1 : decode cX6_init 1 = .ok (.invokespecial 3, 3) := by decide +kernel
theorem dX6_init_4 : decode cX6_init 4 = .ok (.aload_n 0, 1) := by decide +kernel
theorem dX6_init_5 : decode cX6_init 5 = .ok (.bipush 12, 2) := by decide +kernel
theorem dX6_init_7 : decode cX6_init 7 = .ok (.newarray .int, 2) := by decide +kernel
theorem dX6_init_9 : decode cX6_init 9 = .ok (.putfield 9, 3) := by decide +kernel
theorem dX6_init_12 : decode cX6_init 12 = .ok (.aload_n 0, 1) := by decide +kernel
theorem dX6_init_13 : decode cX6_init 13 = .ok (.iconst 0, 1) := by decide +kernel
theorem dX6_init_14 : decode cX6_init 14 = .ok (.putfield 15, 3) := by decide +kernel
theorem dX6_init_17 : decode cX6_init 17 = .ok (.aload_n 0, 1) := by decide +kernel
theorem dX6_init_18 : decode cX6_init 18 = .ok (.iconst 0, 1) := by decide +kernel
theorem dX6_init_19 : decode cX6_init 19 = .ok (.putfield 19, 3) := by decide +kernel
theorem dX6_init_22 : decode cX6_init 22 = .ok (.return_, 1) := by decide +kernel
theorem dX6_isMissing_0 : decode cX6_isMissing 0 = .ok (.aload_n 0, 1) := by decide +kernel
theorem dX6_isMissing_1 : decode cX6_isMissing 1 = .ok (.getfield 15, 3) := by decide +kernel
theorem dX6_isMissing_4 : decode cX6_isMissing 4 = .ok (.ifCond .ne 7, 3) := by decide +kernel
theorem dX6_isMissing_7 : decode cX6_isMissing 7 = .ok (.iconst 1, 1) := by decide +kernel
theorem dX6_isMissing_8 : decode cX6_isMissing 8 = .ok (.goto 4, 3) := by decide +kernel
theorem dX6_isMissing_11 : decode cX6_isMissing 11 = .ok (.iconst 0, 1) := by decide +kernel
theorem dX6_isMissing_12 : decode cX6_isMissing 12 = .ok (.ireturn, 1) := by decide +kernel
theorem dX6_width_0 : decode cX6_width 0 = .ok (.aload_n 0, 1) := by decide +kernel
theorem dX6_width_1 : decode cX6_width 1 = .ok (.getfield 15, 3) := by decide +kernel
theorem dX6_width_4 : decode cX6_width 4 = .ok (.ireturn, 1) := by decide +kernel
theorem dX6_size_0 : decode cX6_size 0 = .ok (.aload_n 0, 1) := by decide +kernel
theorem dX6_size_1 : decode cX6_size 1 = .ok (.getfield 19, 3) := by decide +kernel
theorem dX6_size_4 : decode cX6_size 4 = .ok (.ireturn, 1) := by decide +kernel
theorem dX6_numberAt_0 : decode cX6_numberAt 0 = .ok (.aload_n 0, 1) := by decide +kernel
theorem dX6_numberAt_1 : decode cX6_numberAt 1 = .ok (.getfield 9, 3) := by decide +kernel
theorem dX6_numberAt_4 : decode cX6_numberAt 4 = .ok (.iload_n 1, 1) := by decide +kernel
theorem dX6_numberAt_5 : decode cX6_numberAt 5 = .ok (.invokestatic 22, 3) := by decide +kernel
theorem dX6_numberAt_8 : decode cX6_numberAt 8 = .ok (.ireturn, 1) := by decide +kernel
theorem dX6_lay_0 : decode cX6_lay 0 = .ok (.aload_n 0, 1) := by decide +kernel
theorem dX6_lay_1 : decode cX6_lay 1 = .ok (.iload_n 1, 1) := by decide +kernel
theorem dX6_lay_2 : decode cX6_lay 2 = .ok (.putfield 15, 3) := by decide +kernel
theorem dX6_lay_5 : decode cX6_lay 5 = .ok (.aload_n 0, 1) := by decide +kernel
theorem dX6_lay_6 : decode cX6_lay 6 = .ok (.iload_n 1, 1) := by decide +kernel
theorem dX6_lay_7 : decode cX6_lay 7 = .ok (.ifCond .ne 7, 3) := by decide +kernel
theorem dX6_lay_10 : decode cX6_lay 10 = .ok (.iconst 0, 1) := by decide +kernel
theorem dX6_lay_11 : decode cX6_lay 11 = .ok (.goto 4, 3) := by decide +kernel
theorem dX6_lay_14 : decode cX6_lay 14 = .ok (.iload_n 2, 1) := by decide +kernel
theorem dX6_lay_15 : decode cX6_lay 15 = .ok (.putfield 19, 3) := by decide +kernel
theorem dX6_lay_18 : decode cX6_lay 18 = .ok (.iconst 0, 1) := by decide +kernel
theorem dX6_lay_19 : decode cX6_lay 19 = .ok (.istore_n 3, 1) := by decide +kernel
theorem dX6_lay_20 : decode cX6_lay 20 = .ok (.iload_n 3, 1) := by decide +kernel
theorem dX6_lay_21 : decode cX6_lay 21 = .ok (.aload_n 0, 1) := by decide +kernel
theorem dX6_lay_22 : decode cX6_lay 22 = .ok (.getfield 9, 3) := by decide +kernel
theorem dX6_lay_25 : decode cX6_lay 25 = .ok (.arraylength, 1) := by decide +kernel
theorem dX6_lay_26 : decode cX6_lay 26 = .ok (.if_icmp .ge 16, 3) := by decide +kernel
theorem dX6_lay_29 : decode cX6_lay 29 = .ok (.aload_n 0, 1) := by decide +kernel
theorem dX6_lay_30 : decode cX6_lay 30 = .ok (.getfield 9, 3) := by decide +kernel
theorem dX6_lay_33 : decode cX6_lay 33 = .ok (.iload_n 3, 1) := by decide +kernel
theorem dX6_lay_34 : decode cX6_lay 34 = .ok (.iconst 0, 1) := by decide +kernel
theorem dX6_lay_35 : decode cX6_lay 35 = .ok (.iastore, 1) := by decide +kernel
theorem dX6_lay_36 : decode cX6_lay 36 = .ok (.iinc 3 1, 3) := by decide +kernel
theorem dX6_lay_39 : decode cX6_lay 39 = .ok (.goto (-19), 3) := by decide +kernel
theorem dX6_lay_42 : decode cX6_lay 42 = .ok (.return_, 1) := by decide +kernel
theorem dX6_store_0 : decode cX6_store 0 = .ok (.aload_n 0, 1) := by decide +kernel
theorem dX6_store_1 : decode cX6_store 1 = .ok (.getfield 9, 3) := by decide +kernel
theorem dX6_store_4 : decode cX6_store 4 = .ok (.iload_n 1, 1) := by decide +kernel
theorem dX6_store_5 : decode cX6_store 5 = .ok (.aload_n 0, 1) := by decide +kernel
theorem dX6_store_6 : decode cX6_store 6 = .ok (.iload_n 2, 1) := by decide +kernel
theorem dX6_store_7 : decode cX6_store 7 = .ok (.invokevirtual 26, 3) := by decide +kernel
theorem dX6_store_10 : decode cX6_store 10 = .ok (.invokestatic 30, 3) := by decide +kernel
theorem dX6_store_13 : decode cX6_store 13 = .ok (.return_, 1) := by decide +kernel
theorem dX6_lowestBits_0 : decode cX6_lowestBits 0 = .ok (.aload_n 0, 1) := by decide +kernel
theorem dX6_lowestBits_1 : decode cX6_lowestBits 1 = .ok (.getfield 15, 3) := by decide +kernel
theorem dX6_lowestBits_4 : decode cX6_lowestBits 4 = .ok (.lookupswitch 39 #[(8, 28), (16, 34)], 28) := by decide +kernel
theorem dX6_lowestBits_32 : decode cX6_lowestBits 32 = .ok (.iload_n 1, 1) := by decide +kernel
theorem dX6_lowestBits_33 : decode cX6_lowestBits 33 = .ok (.sipush 255, 3) := by decide +kernel
theorem dX6_lowestBits_36 : decode cX6_lowestBits 36 = .ok (.iand, 1) := by decide +kernel
theorem dX6_lowestBits_37 : decode cX6_lowestBits 37 = .ok (.ireturn, 1) := by decide +kernel
theorem dX6_lowestBits_38 : decode cX6_lowestBits 38 = .ok (.iload_n 1, 1) := by decide +kernel
theorem dX6_lowestBits_39 : decode cX6_lowestBits 39 = .ok (.ldc 34, 2) := by decide +kernel
theorem dX6_lowestBits_41 : decode cX6_lowestBits 41 = .ok (.iand, 1) := by decide +kernel
theorem dX6_lowestBits_42 : decode cX6_lowestBits 42 = .ok (.ireturn, 1) := by decide +kernel
theorem dX6_lowestBits_43 : decode cX6_lowestBits 43 = .ok (.iload_n 1, 1) := by decide +kernel
theorem dX6_lowestBits_44 : decode cX6_lowestBits 44 = .ok (.ireturn, 1) := by decide +kernel
theorem dX6_spans_0 : decode cX6_spans 0 = .ok (.iload_n 1, 1) := by decide +kernel
theorem dX6_spans_1 : decode cX6_spans 1 = .ok (.ifCond .lt 21, 3) := by decide +kernel
theorem dX6_spans_4 : decode cX6_spans 4 = .ok (.iload_n 2, 1) := by decide +kernel
theorem dX6_spans_5 : decode cX6_spans 5 = .ok (.ifCond .lt 17, 3) := by decide +kernel
theorem dX6_spans_8 : decode cX6_spans 8 = .ok (.iload_n 1, 1) := by decide +kernel
theorem dX6_spans_9 : decode cX6_spans 9 = .ok (.aload_n 0, 1) := by decide +kernel
theorem dX6_spans_10 : decode cX6_spans 10 = .ok (.getfield 19, 3) := by decide +kernel
theorem dX6_spans_13 : decode cX6_spans 13 = .ok (.iload_n 2, 1) := by decide +kernel
theorem dX6_spans_14 : decode cX6_spans 14 = .ok (.isub, 1) := by decide +kernel
theorem dX6_spans_15 : decode cX6_spans 15 = .ok (.if_icmp .gt 7, 3) := by decide +kernel
theorem dX6_spans_18 : decode cX6_spans 18 = .ok (.iconst 1, 1) := by decide +kernel
theorem dX6_spans_19 : decode cX6_spans 19 = .ok (.goto 4, 3) := by decide +kernel
theorem dX6_spans_22 : decode cX6_spans 22 = .ok (.iconst 0, 1) := by decide +kernel
theorem dX6_spans_23 : decode cX6_spans 23 = .ok (.ireturn, 1) := by decide +kernel
theorem dX6_take_0 : decode cX6_take 0 = .ok (.iload_n 3, 1) := by decide +kernel
theorem dX6_take_1 : decode cX6_take 1 = .ok (.iload_n 1, 1) := by decide +kernel
theorem dX6_take_2 : decode cX6_take 2 = .ok (.if_icmp .ge 42, 3) := by decide +kernel
theorem dX6_take_5 : decode cX6_take 5 = .ok (.iload 4, 2) := by decide +kernel
theorem dX6_take_7 : decode cX6_take 7 = .ok (.iconst 1, 1) := by decide +kernel
theorem dX6_take_8 : decode cX6_take 8 = .ok (.isub, 1) := by decide +kernel
theorem dX6_take_9 : decode cX6_take 9 = .ok (.istore 5, 2) := by decide +kernel
theorem dX6_take_11 : decode cX6_take 11 = .ok (.iload 5, 2) := by decide +kernel
theorem dX6_take_13 : decode cX6_take 13 = .ok (.ifCond .lt 28, 3) := by decide +kernel
theorem dX6_take_16 : decode cX6_take 16 = .ok (.aload_n 0, 1) := by decide +kernel
theorem dX6_take_17 : decode cX6_take 17 = .ok (.getfield 9, 3) := by decide +kernel
theorem dX6_take_20 : decode cX6_take 20 = .ok (.iload_n 1, 1) := by decide +kernel
theorem dX6_take_21 : decode cX6_take 21 = .ok (.iload 5, 2) := by decide +kernel
theorem dX6_take_23 : decode cX6_take 23 = .ok (.iadd, 1) := by decide +kernel
theorem dX6_take_24 : decode cX6_take 24 = .ok (.aload_n 2, 1) := by decide +kernel
theorem dX6_take_25 : decode cX6_take 25 = .ok (.iload_n 3, 1) := by decide +kernel
theorem dX6_take_26 : decode cX6_take 26 = .ok (.iload 5, 2) := by decide +kernel
theorem dX6_take_28 : decode cX6_take 28 = .ok (.iadd, 1) := by decide +kernel
theorem dX6_take_29 : decode cX6_take 29 = .ok (.invokevirtual 35, 3) := by decide +kernel
theorem dX6_take_32 : decode cX6_take 32 = .ok (.invokestatic 30, 3) := by decide +kernel
theorem dX6_take_35 : decode cX6_take 35 = .ok (.iinc 5 (-1), 3) := by decide +kernel
theorem dX6_take_38 : decode cX6_take 38 = .ok (.goto (-27), 3) := by decide +kernel
theorem dX6_take_41 : decode cX6_take 41 = .ok (.goto 38, 3) := by decide +kernel
theorem dX6_take_44 : decode cX6_take 44 = .ok (.iconst 0, 1) := by decide +kernel
theorem dX6_take_45 : decode cX6_take 45 = .ok (.istore 5, 2) := by decide +kernel
theorem dX6_take_47 : decode cX6_take 47 = .ok (.iload 5, 2) := by decide +kernel
theorem dX6_take_49 : decode cX6_take 49 = .ok (.iload 4, 2) := by decide +kernel
theorem dX6_take_51 : decode cX6_take 51 = .ok (.if_icmp .ge 28, 3) := by decide +kernel
theorem dX6_take_54 : decode cX6_take 54 = .ok (.aload_n 0, 1) := by decide +kernel
theorem dX6_take_55 : decode cX6_take 55 = .ok (.getfield 9, 3) := by decide +kernel
theorem dX6_take_58 : decode cX6_take 58 = .ok (.iload_n 1, 1) := by decide +kernel
theorem dX6_take_59 : decode cX6_take 59 = .ok (.iload 5, 2) := by decide +kernel
theorem dX6_take_61 : decode cX6_take 61 = .ok (.iadd, 1) := by decide +kernel
theorem dX6_take_62 : decode cX6_take 62 = .ok (.aload_n 2, 1) := by decide +kernel
theorem dX6_take_63 : decode cX6_take 63 = .ok (.iload_n 3, 1) := by decide +kernel
theorem dX6_take_64 : decode cX6_take 64 = .ok (.iload 5, 2) := by decide +kernel
theorem dX6_take_66 : decode cX6_take 66 = .ok (.iadd, 1) := by decide +kernel
theorem dX6_take_67 : decode cX6_take 67 = .ok (.invokevirtual 35, 3) := by decide +kernel
theorem dX6_take_70 : decode cX6_take 70 = .ok (.invokestatic 30, 3) := by decide +kernel
theorem dX6_take_73 : decode cX6_take 73 = .ok (.iinc 5 1, 3) := by decide +kernel
theorem dX6_take_76 : decode cX6_take 76 = .ok (.goto (-29), 3) := by decide +kernel
theorem dX6_take_79 : decode cX6_take 79 = .ok (.return_, 1) := by decide +kernel
theorem dX6_lengthToZero_0 : decode cX6_lengthToZero 0 = .ok (.iconst 0, 1) := by decide +kernel
theorem dX6_lengthToZero_1 : decode cX6_lengthToZero 1 = .ok (.istore_n 1, 1) := by decide +kernel
theorem dX6_lengthToZero_2 : decode cX6_lengthToZero 2 = .ok (.iload_n 1, 1) := by decide +kernel
theorem dX6_lengthToZero_3 : decode cX6_lengthToZero 3 = .ok (.aload_n 0, 1) := by decide +kernel
theorem dX6_lengthToZero_4 : decode cX6_lengthToZero 4 = .ok (.getfield 19, 3) := by decide +kernel
theorem dX6_lengthToZero_7 : decode cX6_lengthToZero 7 = .ok (.if_icmp .ge 19, 3) := by decide +kernel
theorem dX6_lengthToZero_10 : decode cX6_lengthToZero 10 = .ok (.aload_n 0, 1) := by decide +kernel
theorem dX6_lengthToZero_11 : decode cX6_lengthToZero 11 = .ok (.iload_n 1, 1) := by decide +kernel
theorem dX6_lengthToZero_12 : decode cX6_lengthToZero 12 = .ok (.invokevirtual 35, 3) := by decide +kernel
theorem dX6_lengthToZero_15 : decode cX6_lengthToZero 15 = .ok (.ifCond .ne 5, 3) := by decide +kernel
theorem dX6_lengthToZero_18 : decode cX6_lengthToZero 18 = .ok (.iload_n 1, 1) := by decide +kernel
theorem dX6_lengthToZero_19 : decode cX6_lengthToZero 19 = .ok (.ireturn, 1) := by decide +kernel
theorem dX6_lengthToZero_20 : decode cX6_lengthToZero 20 = .ok (.iinc 1 1, 3) := by decide +kernel
theorem dX6_lengthToZero_23 : decode cX6_lengthToZero 23 = .ok (.goto (-21), 3) := by decide +kernel
theorem dX6_lengthToZero_26 : decode cX6_lengthToZero 26 = .ok (.aload_n 0, 1) := by decide +kernel
theorem dX6_lengthToZero_27 : decode cX6_lengthToZero 27 = .ok (.getfield 19, 3) := by decide +kernel
theorem dX6_lengthToZero_30 : decode cX6_lengthToZero 30 = .ok (.ireturn, 1) := by decide +kernel
theorem dX7_init_0 : decode cX7_init 0 = .ok (.aload_n 0, 1) := by decide +kernel
theorem dX7_init_1 : decode cX7_init 1 = .ok (.invokespecial 3, 3) := by decide +kernel
theorem dX7_init_4 : decode cX7_init 4 = .ok (.aload_n 0, 1) := by decide +kernel
theorem dX7_init_5 : decode cX7_init 5 = .ok (.bipush 20, 2) := by decide +kernel
theorem dX7_init_7 : decode cX7_init 7 = .ok (.newarray .int, 2) := by decide +kernel
theorem dX7_init_9 : decode cX7_init 9 = .ok (.putfield 9, 3) := by decide +kernel
theorem dX7_init_12 : decode cX7_init 12 = .ok (.aload_n 0, 1) := by decide +kernel
theorem dX7_init_13 : decode cX7_init 13 = .ok (.bipush 20, 2) := by decide +kernel
theorem dX7_init_15 : decode cX7_init 15 = .ok (.newarray .int, 2) := by decide +kernel
theorem dX7_init_17 : decode cX7_init 17 = .ok (.putfield 15, 3) := by decide +kernel
theorem dX7_init_20 : decode cX7_init 20 = .ok (.aload_n 0, 1) := by decide +kernel
theorem dX7_init_21 : decode cX7_init 21 = .ok (.bipush 10, 2) := by decide +kernel
theorem dX7_init_23 : decode cX7_init 23 = .ok (.newarray .int, 2) := by decide +kernel
theorem dX7_init_25 : decode cX7_init 25 = .ok (.putfield 18, 3) := by decide +kernel
theorem dX7_init_28 : decode cX7_init 28 = .ok (.aload_n 0, 1) := by decide +kernel
theorem dX7_init_29 : decode cX7_init 29 = .ok (.bipush 10, 2) := by decide +kernel
theorem dX7_init_31 : decode cX7_init 31 = .ok (.newarray .int, 2) := by decide +kernel
theorem dX7_init_33 : decode cX7_init 33 = .ok (.putfield 21, 3) := by decide +kernel
theorem dX7_init_36 : decode cX7_init 36 = .ok (.aload_n 0, 1) := by decide +kernel
theorem dX7_init_37 : decode cX7_init 37 = .ok (.iconst 5, 1) := by decide +kernel
theorem dX7_init_38 : decode cX7_init 38 = .ok (.newarray .int, 2) := by decide +kernel
theorem dX7_init_40 : decode cX7_init 40 = .ok (.putfield 24, 3) := by decide +kernel
theorem dX7_init_43 : decode cX7_init 43 = .ok (.aload_n 0, 1) := by decide +kernel
theorem dX7_init_44 : decode cX7_init 44 = .ok (.iconst 0, 1) := by decide +kernel
theorem dX7_init_45 : decode cX7_init 45 = .ok (.putfield 27, 3) := by decide +kernel
theorem dX7_init_48 : decode cX7_init 48 = .ok (.aload_n 0, 1) := by decide +kernel
theorem dX7_init_49 : decode cX7_init 49 = .ok (.iconst (-1), 1) := by decide +kernel
theorem dX7_init_50 : decode cX7_init 50 = .ok (.putfield 31, 3) := by decide +kernel
theorem dX7_init_53 : decode cX7_init 53 = .ok (.aload_n 0, 1) := by decide +kernel
theorem dX7_init_54 : decode cX7_init 54 = .ok (.aload_n 1, 1) := by decide +kernel
theorem dX7_init_55 : decode cX7_init 55 = .ok (.putfield 34, 3) := by decide +kernel
theorem dX7_init_58 : decode cX7_init 58 = .ok (.return_, 1) := by decide +kernel
theorem dX7_become_0 : decode cX7_become 0 = .ok (.aload_n 0, 1) := by decide +kernel
theorem dX7_become_1 : decode cX7_become 1 = .ok (.getfield 9, 3) := by decide +kernel
theorem dX7_become_4 : decode cX7_become 4 = .ok (.aload_n 1, 1) := by decide +kernel
theorem dX7_become_5 : decode cX7_become 5 = .ok (.getfield 9, 3) := by decide +kernel
theorem dX7_become_8 : decode cX7_become 8 = .ok (.invokestatic 38, 3) := by decide +kernel
theorem dX7_become_11 : decode cX7_become 11 = .ok (.aload_n 0, 1) := by decide +kernel
theorem dX7_become_12 : decode cX7_become 12 = .ok (.getfield 15, 3) := by decide +kernel
theorem dX7_become_15 : decode cX7_become 15 = .ok (.aload_n 1, 1) := by decide +kernel
theorem dX7_become_16 : decode cX7_become 16 = .ok (.getfield 15, 3) := by decide +kernel
theorem dX7_become_19 : decode cX7_become 19 = .ok (.invokestatic 38, 3) := by decide +kernel
theorem dX7_become_22 : decode cX7_become 22 = .ok (.aload_n 0, 1) := by decide +kernel
theorem dX7_become_23 : decode cX7_become 23 = .ok (.getfield 18, 3) := by decide +kernel
theorem dX7_become_26 : decode cX7_become 26 = .ok (.aload_n 1, 1) := by decide +kernel
theorem dX7_become_27 : decode cX7_become 27 = .ok (.getfield 18, 3) := by decide +kernel
theorem dX7_become_30 : decode cX7_become 30 = .ok (.invokestatic 38, 3) := by decide +kernel
theorem dX7_become_33 : decode cX7_become 33 = .ok (.aload_n 0, 1) := by decide +kernel
theorem dX7_become_34 : decode cX7_become 34 = .ok (.getfield 21, 3) := by decide +kernel
theorem dX7_become_37 : decode cX7_become 37 = .ok (.aload_n 1, 1) := by decide +kernel
theorem dX7_become_38 : decode cX7_become 38 = .ok (.getfield 21, 3) := by decide +kernel
theorem dX7_become_41 : decode cX7_become 41 = .ok (.invokestatic 38, 3) := by decide +kernel
theorem dX7_become_44 : decode cX7_become 44 = .ok (.aload_n 0, 1) := by decide +kernel
theorem dX7_become_45 : decode cX7_become 45 = .ok (.getfield 24, 3) := by decide +kernel
theorem dX7_become_48 : decode cX7_become 48 = .ok (.aload_n 1, 1) := by decide +kernel
theorem dX7_become_49 : decode cX7_become 49 = .ok (.getfield 24, 3) := by decide +kernel
theorem dX7_become_52 : decode cX7_become 52 = .ok (.invokestatic 38, 3) := by decide +kernel
theorem dX7_become_55 : decode cX7_become 55 = .ok (.aload_n 0, 1) := by decide +kernel
theorem dX7_become_56 : decode cX7_become 56 = .ok (.aload_n 1, 1) := by decide +kernel
theorem dX7_become_57 : decode cX7_become 57 = .ok (.getfield 27, 3) := by decide +kernel
theorem dX7_become_60 : decode cX7_become 60 = .ok (.putfield 27, 3) := by decide +kernel
theorem dX7_become_63 : decode cX7_become 63 = .ok (.aload_n 0, 1) := by decide +kernel
theorem dX7_become_64 : decode cX7_become 64 = .ok (.aload_n 1, 1) := by decide +kernel
theorem dX7_become_65 : decode cX7_become 65 = .ok (.getfield 31, 3) := by decide +kernel
theorem dX7_become_68 : decode cX7_become 68 = .ok (.putfield 31, 3) := by decide +kernel
theorem dX7_become_71 : decode cX7_become 71 = .ok (.return_, 1) := by decide +kernel
theorem dX7_refill_0 : decode cX7_refill 0 = .ok (.iconst 0, 1) := by decide +kernel
theorem dX7_refill_1 : decode cX7_refill 1 = .ok (.istore_n 2, 1) := by decide +kernel
theorem dX7_refill_2 : decode cX7_refill 2 = .ok (.iload_n 2, 1) := by decide +kernel
theorem dX7_refill_3 : decode cX7_refill 3 = .ok (.aload_n 0, 1) := by decide +kernel
theorem dX7_refill_4 : decode cX7_refill 4 = .ok (.arraylength, 1) := by decide +kernel
theorem dX7_refill_5 : decode cX7_refill 5 = .ok (.if_icmp .ge 17, 3) := by decide +kernel
theorem dX7_refill_8 : decode cX7_refill 8 = .ok (.aload_n 0, 1) := by decide +kernel
theorem dX7_refill_9 : decode cX7_refill 9 = .ok (.iload_n 2, 1) := by decide +kernel
theorem dX7_refill_10 : decode cX7_refill 10 = .ok (.aload_n 1, 1) := by decide +kernel
theorem dX7_refill_11 : decode cX7_refill 11 = .ok (.iload_n 2, 1) := by decide +kernel
theorem dX7_refill_12 : decode cX7_refill 12 = .ok (.invokestatic 42, 3) := by decide +kernel
theorem dX7_refill_15 : decode cX7_refill 15 = .ok (.iastore, 1) := by decide +kernel
theorem dX7_refill_16 : decode cX7_refill 16 = .ok (.iinc 2 1, 3) := by decide +kernel
theorem dX7_refill_19 : decode cX7_refill 19 = .ok (.goto (-17), 3) := by decide +kernel
theorem dX7_refill_22 : decode cX7_refill 22 = .ok (.return_, 1) := by decide +kernel
theorem dX7_size_0 : decode cX7_size 0 = .ok (.aload_n 0, 1) := by decide +kernel
theorem dX7_size_1 : decode cX7_size 1 = .ok (.getfield 27, 3) := by decide +kernel
theorem dX7_size_4 : decode cX7_size 4 = .ok (.ireturn, 1) := by decide +kernel
theorem dX7_memberAt_0 : decode cX7_memberAt 0 = .ok (.aload_n 0, 1) := by decide +kernel
theorem dX7_memberAt_1 : decode cX7_memberAt 1 = .ok (.getfield 9, 3) := by decide +kernel
theorem dX7_memberAt_4 : decode cX7_memberAt 4 = .ok (.iload_n 1, 1) := by decide +kernel
theorem dX7_memberAt_5 : decode cX7_memberAt 5 = .ok (.invokestatic 42, 3) := by decide +kernel
theorem dX7_memberAt_8 : decode cX7_memberAt 8 = .ok (.ireturn, 1) := by decide +kernel
theorem dX7_sortAt_0 : decode cX7_sortAt 0 = .ok (.aload_n 0, 1) := by decide +kernel
theorem dX7_sortAt_1 : decode cX7_sortAt 1 = .ok (.getfield 15, 3) := by decide +kernel
theorem dX7_sortAt_4 : decode cX7_sortAt 4 = .ok (.iload_n 1, 1) := by decide +kernel
theorem dX7_sortAt_5 : decode cX7_sortAt 5 = .ok (.invokestatic 42, 3) := by decide +kernel
theorem dX7_sortAt_8 : decode cX7_sortAt 8 = .ok (.ireturn, 1) := by decide +kernel
theorem dX7_timeOf_0 : decode cX7_timeOf 0 = .ok (.aload_n 0, 1) := by decide +kernel
theorem dX7_timeOf_1 : decode cX7_timeOf 1 = .ok (.getfield 18, 3) := by decide +kernel
theorem dX7_timeOf_4 : decode cX7_timeOf 4 = .ok (.iload_n 1, 1) := by decide +kernel
theorem dX7_timeOf_5 : decode cX7_timeOf 5 = .ok (.invokestatic 42, 3) := by decide +kernel
theorem dX7_timeOf_8 : decode cX7_timeOf 8 = .ok (.ireturn, 1) := by decide +kernel
theorem dX7_speechesOf_0 : decode cX7_speechesOf 0 = .ok (.aload_n 0, 1) := by decide +kernel
theorem dX7_speechesOf_1 : decode cX7_speechesOf 1 = .ok (.getfield 21, 3) := by decide +kernel
theorem dX7_speechesOf_4 : decode cX7_speechesOf 4 = .ok (.iload_n 1, 1) := by decide +kernel
theorem dX7_speechesOf_5 : decode cX7_speechesOf 5 = .ok (.invokestatic 42, 3) := by decide +kernel
theorem dX7_speechesOf_8 : decode cX7_speechesOf 8 = .ok (.ireturn, 1) := by decide +kernel
theorem dX7_delegationTime_0 : decode cX7_delegationTime 0 = .ok (.aload_n 0, 1) := by decide +kernel
theorem dX7_delegationTime_1 : decode cX7_delegationTime 1 = .ok (.getfield 24, 3) := by decide +kernel
theorem dX7_delegationTime_4 : decode cX7_delegationTime 4 = .ok (.iload_n 1, 1) := by decide +kernel
theorem dX7_delegationTime_5 : decode cX7_delegationTime 5 = .ok (.invokestatic 42, 3) := by decide +kernel
theorem dX7_delegationTime_8 : decode cX7_delegationTime 8 = .ok (.ireturn, 1) := by decide +kernel
theorem dX7_latestDelegation_0 : decode cX7_latestDelegation 0 = .ok (.aload_n 0, 1) := by decide +kernel
theorem dX7_latestDelegation_1 : decode cX7_latestDelegation 1 = .ok (.getfield 31, 3) := by decide +kernel
theorem dX7_latestDelegation_4 : decode cX7_latestDelegation 4 = .ok (.ireturn, 1) := by decide +kernel
theorem dX7_find_0 : decode cX7_find 0 = .ok (.iconst 0, 1) := by decide +kernel
theorem dX7_find_1 : decode cX7_find 1 = .ok (.istore_n 3, 1) := by decide +kernel
theorem dX7_find_2 : decode cX7_find 2 = .ok (.iload_n 3, 1) := by decide +kernel
theorem dX7_find_3 : decode cX7_find 3 = .ok (.aload_n 0, 1) := by decide +kernel
theorem dX7_find_4 : decode cX7_find 4 = .ok (.getfield 27, 3) := by decide +kernel
theorem dX7_find_7 : decode cX7_find 7 = .ok (.if_icmp .ge 29, 3) := by decide +kernel
theorem dX7_find_10 : decode cX7_find 10 = .ok (.aload_n 0, 1) := by decide +kernel
theorem dX7_find_11 : decode cX7_find 11 = .ok (.iload_n 3, 1) := by decide +kernel
theorem dX7_find_12 : decode cX7_find 12 = .ok (.invokevirtual 46, 3) := by decide +kernel
theorem dX7_find_15 : decode cX7_find 15 = .ok (.iload_n 1, 1) := by decide +kernel
theorem dX7_find_16 : decode cX7_find 16 = .ok (.if_icmp .ne 14, 3) := by decide +kernel
theorem dX7_find_19 : decode cX7_find 19 = .ok (.aload_n 0, 1) := by decide +kernel
theorem dX7_find_20 : decode cX7_find 20 = .ok (.iload_n 3, 1) := by decide +kernel
theorem dX7_find_21 : decode cX7_find 21 = .ok (.invokevirtual 50, 3) := by decide +kernel
theorem dX7_find_24 : decode cX7_find 24 = .ok (.iload_n 2, 1) := by decide +kernel
theorem dX7_find_25 : decode cX7_find 25 = .ok (.if_icmp .ne 5, 3) := by decide +kernel
theorem dX7_find_28 : decode cX7_find 28 = .ok (.iload_n 3, 1) := by decide +kernel
theorem dX7_find_29 : decode cX7_find 29 = .ok (.ireturn, 1) := by decide +kernel
theorem dX7_find_30 : decode cX7_find 30 = .ok (.iinc 3 1, 3) := by decide +kernel
theorem dX7_find_33 : decode cX7_find 33 = .ok (.goto (-31), 3) := by decide +kernel
theorem dX7_find_36 : decode cX7_find 36 = .ok (.iconst (-1), 1) := by decide +kernel
theorem dX7_find_37 : decode cX7_find 37 = .ok (.ireturn, 1) := by decide +kernel
theorem dX7_append_0 : decode cX7_append 0 = .ok (.aload_n 0, 1) := by decide +kernel
theorem dX7_append_1 : decode cX7_append 1 = .ok (.getfield 27, 3) := by decide +kernel
theorem dX7_append_4 : decode cX7_append 4 = .ok (.bipush 20, 2) := by decide +kernel
theorem dX7_append_6 : decode cX7_append 6 = .ok (.if_icmp .ge 37, 3) := by decide +kernel
theorem dX7_append_9 : decode cX7_append 9 = .ok (.aload_n 0, 1) := by decide +kernel
theorem dX7_append_10 : decode cX7_append 10 = .ok (.getfield 9, 3) := by decide +kernel
theorem dX7_append_13 : decode cX7_append 13 = .ok (.aload_n 0, 1) := by decide +kernel
theorem dX7_append_14 : decode cX7_append 14 = .ok (.getfield 27, 3) := by decide +kernel
theorem dX7_append_17 : decode cX7_append 17 = .ok (.iload_n 1, 1) := by decide +kernel
theorem dX7_append_18 : decode cX7_append 18 = .ok (.invokestatic 53, 3) := by decide +kernel
theorem dX7_append_21 : decode cX7_append 21 = .ok (.aload_n 0, 1) := by decide +kernel
theorem dX7_append_22 : decode cX7_append 22 = .ok (.getfield 15, 3) := by decide +kernel
theorem dX7_append_25 : decode cX7_append 25 = .ok (.aload_n 0, 1) := by decide +kernel
theorem dX7_append_26 : decode cX7_append 26 = .ok (.getfield 27, 3) := by decide +kernel
theorem dX7_append_29 : decode cX7_append 29 = .ok (.iload_n 2, 1) := by decide +kernel
theorem dX7_append_30 : decode cX7_append 30 = .ok (.invokestatic 53, 3) := by decide +kernel
theorem dX7_append_33 : decode cX7_append 33 = .ok (.aload_n 0, 1) := by decide +kernel
theorem dX7_append_34 : decode cX7_append 34 = .ok (.dup, 1) := by decide +kernel
theorem dX7_append_35 : decode cX7_append 35 = .ok (.getfield 27, 3) := by decide +kernel
theorem dX7_append_38 : decode cX7_append 38 = .ok (.iconst 1, 1) := by decide +kernel
theorem dX7_append_39 : decode cX7_append 39 = .ok (.iadd, 1) := by decide +kernel
theorem dX7_append_40 : decode cX7_append 40 = .ok (.putfield 27, 3) := by decide +kernel
theorem dX7_append_43 : decode cX7_append 43 = .ok (.return_, 1) := by decide +kernel
theorem dX7_drop_0 : decode cX7_drop 0 = .ok (.iload_n 1, 1) := by decide +kernel
theorem dX7_drop_1 : decode cX7_drop 1 = .ok (.ifCond .lt 11, 3) := by decide +kernel
theorem dX7_drop_4 : decode cX7_drop 4 = .ok (.iload_n 1, 1) := by decide +kernel
theorem dX7_drop_5 : decode cX7_drop 5 = .ok (.aload_n 0, 1) := by decide +kernel
theorem dX7_drop_6 : decode cX7_drop 6 = .ok (.getfield 27, 3) := by decide +kernel
theorem dX7_drop_9 : decode cX7_drop 9 = .ok (.if_icmp .lt 4, 3) := by decide +kernel
theorem dX7_drop_12 : decode cX7_drop 12 = .ok (.return_, 1) := by decide +kernel
theorem dX7_drop_13 : decode cX7_drop 13 = .ok (.iload_n 1, 1) := by decide +kernel
theorem dX7_drop_14 : decode cX7_drop 14 = .ok (.istore_n 2, 1) := by decide +kernel
theorem dX7_drop_15 : decode cX7_drop 15 = .ok (.iload_n 2, 1) := by decide +kernel
theorem dX7_drop_16 : decode cX7_drop 16 = .ok (.iconst 1, 1) := by decide +kernel
theorem dX7_drop_17 : decode cX7_drop 17 = .ok (.iadd, 1) := by decide +kernel
theorem dX7_drop_18 : decode cX7_drop 18 = .ok (.aload_n 0, 1) := by decide +kernel
theorem dX7_drop_19 : decode cX7_drop 19 = .ok (.getfield 27, 3) := by decide +kernel
theorem dX7_drop_22 : decode cX7_drop 22 = .ok (.if_icmp .ge 39, 3) := by decide +kernel
theorem dX7_drop_25 : decode cX7_drop 25 = .ok (.aload_n 0, 1) := by decide +kernel
theorem dX7_drop_26 : decode cX7_drop 26 = .ok (.getfield 9, 3) := by decide +kernel
theorem dX7_drop_29 : decode cX7_drop 29 = .ok (.iload_n 2, 1) := by decide +kernel
theorem dX7_drop_30 : decode cX7_drop 30 = .ok (.aload_n 0, 1) := by decide +kernel
theorem dX7_drop_31 : decode cX7_drop 31 = .ok (.iload_n 2, 1) := by decide +kernel
theorem dX7_drop_32 : decode cX7_drop 32 = .ok (.iconst 1, 1) := by decide +kernel
theorem dX7_drop_33 : decode cX7_drop 33 = .ok (.iadd, 1) := by decide +kernel
theorem dX7_drop_34 : decode cX7_drop 34 = .ok (.invokevirtual 46, 3) := by decide +kernel
theorem dX7_drop_37 : decode cX7_drop 37 = .ok (.invokestatic 53, 3) := by decide +kernel
theorem dX7_drop_40 : decode cX7_drop 40 = .ok (.aload_n 0, 1) := by decide +kernel
theorem dX7_drop_41 : decode cX7_drop 41 = .ok (.getfield 15, 3) := by decide +kernel
theorem dX7_drop_44 : decode cX7_drop 44 = .ok (.iload_n 2, 1) := by decide +kernel
theorem dX7_drop_45 : decode cX7_drop 45 = .ok (.aload_n 0, 1) := by decide +kernel
theorem dX7_drop_46 : decode cX7_drop 46 = .ok (.iload_n 2, 1) := by decide +kernel
theorem dX7_drop_47 : decode cX7_drop 47 = .ok (.iconst 1, 1) := by decide +kernel
theorem dX7_drop_48 : decode cX7_drop 48 = .ok (.iadd, 1) := by decide +kernel
theorem dX7_drop_49 : decode cX7_drop 49 = .ok (.invokevirtual 50, 3) := by decide +kernel
theorem dX7_drop_52 : decode cX7_drop 52 = .ok (.invokestatic 53, 3) := by decide +kernel
theorem dX7_drop_55 : decode cX7_drop 55 = .ok (.iinc 2 1, 3) := by decide +kernel
theorem dX7_drop_58 : decode cX7_drop 58 = .ok (.goto (-43), 3) := by decide +kernel
theorem dX7_drop_61 : decode cX7_drop 61 = .ok (.aload_n 0, 1) := by decide +kernel
theorem dX7_drop_62 : decode cX7_drop 62 = .ok (.dup, 1) := by decide +kernel
theorem dX7_drop_63 : decode cX7_drop 63 = .ok (.getfield 27, 3) := by decide +kernel
theorem dX7_drop_66 : decode cX7_drop 66 = .ok (.iconst 1, 1) := by decide +kernel
theorem dX7_drop_67 : decode cX7_drop 67 = .ok (.isub, 1) := by decide +kernel
